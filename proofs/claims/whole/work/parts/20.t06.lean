/-! X12_fault X12_cells X12_isCell X12_isFree X12_layLost X12_ring X12_cell X12_on X12_isWay X12_clear X12_set X12_lost X12_above X12_take X12_turned X12_sortAt X12_feltOf X12_stepOne X12_layStep -/
set_option maxRecDepth 20000 in
set_option maxHeartbeats 4000000 in
theorem tX12_fault (d : Nat) (σ : SM) (q : Int32 × SM) (hf : fX12_fault σ = some q) : ev_M ev_mt (d + 3) 131 [.ref 0] (hM σ) (some (.int q.1), hM q.2) := by
  refine ev_en (rt := (some .int)) (I := eiX12_fault) rfl (Nat.le_of_ble_eq_true rfl) ?_
  change ev_X (d + 2) _ _ (0, [some (.ref 0)], [], hM σ) _
  unfold fX12_fault at hf
  obtain ⟨r1, hr1, hf⟩ := Option.bind_eq_some_iff.mp hf
  refine ev_clv 1 (kk := 130) (as := [.ref 0]) (rest := []) (pc := 1) (ls := [some (.ref 0)]) (st := [.ref 0]) (h := hM σ) rfl (tX12_readPage d σ r1 hr1) ?_
  cases hf
  exact ev_rt 2 rfl
set_option maxRecDepth 20000 in
set_option maxHeartbeats 4000000 in
theorem tX12_cells (d : Nat) (σ : SM) (q : Int32) (hf : fX12_cells σ = some q) : ev_M ev_mt (d + 1) 133 [.ref 0] (hM σ) (some (.int q), hM σ) := by
  refine ev_en (rt := (some .int)) (I := eiX12_cells) rfl (Nat.le_of_ble_eq_true rfl) ?_
  change ev_X d _ _ (0, [some (.ref 0)], [], hM σ) _
  unfold fX12_cells at hf
  cases hf
  exact ev_rt 5 rfl
set_option maxRecDepth 20000 in
set_option maxHeartbeats 4000000 in
theorem tX12_isCell (d : Nat) (σ : SM) (v1 : Int32) (q : Int32) (hf : fX12_isCell σ v1 = some q) : ev_M ev_mt (d + 2) 134 [.ref 0, .int (v1)] (hM σ) (some (.int q), hM σ) := by
  refine ev_en (rt := (some .boolean)) (I := eiX12_isCell) rfl (Nat.le_of_ble_eq_true rfl) ?_
  change ev_X (d + 1) _ _ (0, [some (.ref 0), some (.int (v1))], [], hM σ) _
  unfold fX12_isCell at hf
  obtain ⟨r1, hr1, hf⟩ := Option.bind_eq_some_iff.mp hf
  refine ev_cli 3 (kk := 133) (as := [.ref 0]) (rest := [.int ((0 : Int32)), .int (v1)]) (pc := 3) (ls := [some (.ref 0), some (.int (v1))]) (st := [.ref 0, .int ((0 : Int32)), .int (v1)]) (h := hM σ) rfl (tX12_cells d σ r1 hr1) ?_
  obtain ⟨r2, hr2, hf⟩ := Option.bind_eq_some_iff.mp hf
  refine ev_cli 2 (kk := 123) (as := [.int (v1), .int ((0 : Int32)), .int ((r1 - (1 : Int32)))]) (rest := []) (pc := 8) (ls := [some (.ref 0), some (.int (v1))]) (st := [.int ((r1 - (1 : Int32))), .int ((0 : Int32)), .int (v1)]) (h := hM σ) rfl (tX12_within d (hM σ) v1 (0 : Int32) (r1 - (1 : Int32)) r2 hr2) ?_
  obtain ⟨c1, hf⟩ := ev_hp hf
  cases hf
  exact ev_rk 0 rfl c1
set_option maxRecDepth 20000 in
set_option maxHeartbeats 4000000 in
theorem tX12_isFree_b23 (d : Nat) (σ : SM) (w0 : Int32) (q : Int32) (hf : fX12_isFree_b23 σ w0 = some q) : ev_X (d + 2) (some .boolean) eiX12_isFree (23, [none, none], [.int (w0)], hM σ) (some (.int q), hM σ) := by
  unfold fX12_isFree_b23 at hf
  obtain ⟨c1, hf⟩ := ev_hp hf
  cases hf
  exact ev_rk 0 rfl c1
set_option maxRecDepth 20000 in
set_option maxHeartbeats 4000000 in
theorem tX12_isFree_b22 (d : Nat) (σ : SM) (q : Int32) (hf : fX12_isFree_b22 σ = some q) : ev_X (d + 2) (some .boolean) eiX12_isFree (22, [none, none], [], hM σ) (some (.int q), hM σ) := by
  unfold fX12_isFree_b22 at hf
  refine ev_go (c' := (23, [none, none], [.int ((0 : Int32))], hM σ)) 0 rfl ?_
  exact ev_dr (a := [none, none]) trivial (tX12_isFree_b23 d σ (0 : Int32) _ hf)
set_option maxRecDepth 20000 in
set_option maxHeartbeats 4000000 in
theorem tX12_isFree (d : Nat) (σ : SM) (v1 : Int32) (q : Int32) (hf : fX12_isFree σ v1 = some q) : ev_M ev_mt (d + 3) 135 [.ref 0, .int (v1)] (hM σ) (some (.int q), hM σ) := by
  refine ev_en (rt := (some .boolean)) (I := eiX12_isFree) rfl (Nat.le_of_ble_eq_true rfl) ?_
  change ev_X (d + 2) _ _ (0, [some (.ref 0), some (.int (v1))], [], hM σ) _
  unfold fX12_isFree at hf
  obtain ⟨r1, hr1, hf⟩ := Option.bind_eq_some_iff.mp hf
  refine ev_cli 2 (kk := 134) (as := [.ref 0, .int (v1)]) (rest := []) (pc := 2) (ls := [some (.ref 0), some (.int (v1))]) (st := [.int (v1), .ref 0]) (h := hM σ) rfl (tX12_isCell d σ v1 r1 hr1) ?_
  refine ev_br 0 (P := r1 = 0) (a := 22) (b := 8) (ls := [some (.ref 0), some (.int (v1))]) (st := []) (h := hM σ) rfl (fun c1 => ?_) (fun c1 => ?_)
  · rw [if_pos c1] at hf
    exact ev_dr (a := [none, none]) trivial (tX12_isFree_b22 d σ  _ hf)
  · rw [if_neg c1] at hf
    obtain ⟨c2, hf⟩ := ev_hp hf
    refine ev_ck 3 (P := ¬ (v1 < 0 ∨ 36 ≤ v1.toNatClampNeg)) (c' := (14, [some (.ref 0), some (.int (v1))], [.int (((gm_rg_cellOf σ) v1.toNatClampNeg))], hM σ)) rfl c2 ?_
    refine ev_br 1 (P := ((gm_rg_cellOf σ) v1.toNatClampNeg) < (2 : Int32)) (a := 18) (b := 22) (ls := [some (.ref 0), some (.int (v1))]) (st := []) (h := hM σ) rfl (fun c3 => ?_) (fun c3 => ?_)
    · rw [if_pos c3] at hf
      refine ev_go (c' := (23, [some (.ref 0), some (.int (v1))], [.int ((1 : Int32))], hM σ)) 1 rfl ?_
      exact ev_dr (a := [none, none]) trivial (tX12_isFree_b23 d σ (1 : Int32) _ hf)
    · rw [if_neg c3] at hf
      exact ev_dr (a := [none, none]) trivial (tX12_isFree_b22 d σ  _ hf)
set_option maxRecDepth 20000 in
set_option maxHeartbeats 4000000 in
theorem tX12_layLost_b44 (d : Nat) (k4 : SM → Int32 → Int32 → Option (Int32 × SM)) (hk4 : ∀ (σ : SM) (v1 : Int32) (v2 : Int32) (q : Int32 × SM), k4 σ v1 v2 = some q → ev_X (d + 3) (some .int) eiX12_layLost (4, [some (.ref 0), some (.int (v1)), some (.int (v2)), none], [], hM σ) (some (.int q.1), hM q.2)) (σ : SM) (v2 : Int32) (w0 : Int32) (w1 : Int32) (q : Int32 × SM) (hf : fX12_layLost_b44 k4 σ v2 w0 w1 = some q) : ev_X (d + 3) (some .int) eiX12_layLost (44, [some (.ref 0), none, some (.int (v2)), none], [.int (w0), .int (w1)], hM σ) (some (.int q.1), hM q.2) := by
  unfold fX12_layLost_b44 at hf
  refine ev_go (c' := (4, [some (.ref 0), some (.int ((w1 + w0))), some (.int ((v2 + (1 : Int32)))), none], [], hM σ)) 3 rfl ?_
  exact ev_dr (a := [some (.ref 0), some (.int ((w1 + w0))), some (.int ((v2 + (1 : Int32)))), none]) ⟨rfl, ⟨rfl, ⟨rfl, trivial⟩⟩⟩ (hk4 σ (w1 + w0) (v2 + (1 : Int32)) _ hf)
set_option maxRecDepth 20000 in
set_option maxHeartbeats 4000000 in
theorem tX12_layLost_b33 (d : Nat) (k4 : SM → Int32 → Int32 → Option (Int32 × SM)) (hk4 : ∀ (σ : SM) (v1 : Int32) (v2 : Int32) (q : Int32 × SM), k4 σ v1 v2 = some q → ev_X (d + 3) (some .int) eiX12_layLost (4, [some (.ref 0), some (.int (v1)), some (.int (v2)), none], [], hM σ) (some (.int q.1), hM q.2)) (σ : SM) (v1 : Int32) (v2 : Int32) (v3 : Int32) (w0 : Int64) (w1 : Int32) (q : Int32 × SM) (hf : fX12_layLost_b33 k4 σ v1 v2 v3 w0 w1 = some q) : ev_X (d + 3) (some .int) eiX12_layLost (33, [some (.ref 0), some (.int (v1)), some (.int (v2)), some (.int (v3))], [.long (w0), .int (w1), .ref 2], hM σ) (some (.int q.1), hM q.2) := by
  unfold fX12_layLost_b33 at hf
  obtain ⟨c1, hf⟩ := ev_hp hf
  refine ev_ck 0 (P := ¬ (w1 < 0 ∨ 144 ≤ w1.toNatClampNeg)) (c' := (34, [some (.ref 0), some (.int (v1)), some (.int (v2)), some (.int (v3))], [], hM (sm_od_weight σ (vp_updL (gm_od_weight σ) w1.toNatClampNeg w0)))) rfl c1 ?_
  refine ev_br 2 (P := v3 = 0) (a := 43) (b := 39) (ls := [some (.ref 0), some (.int (v1)), some (.int (v2)), some (.int (v3))]) (st := [.int (v1)]) (h := hM (sm_od_weight σ (vp_updL (gm_od_weight σ) w1.toNatClampNeg w0))) rfl (fun c2 => ?_) (fun c2 => ?_)
  · rw [if_pos c2] at hf
    refine ev_go (c' := (44, [some (.ref 0), some (.int (v1)), some (.int (v2)), some (.int (v3))], [.int ((0 : Int32)), .int (v1)], hM (sm_od_weight σ (vp_updL (gm_od_weight σ) w1.toNatClampNeg w0)))) 0 rfl ?_
    exact ev_dr (a := [some (.ref 0), none, some (.int (v2)), none]) ⟨rfl, ⟨rfl, trivial⟩⟩ (tX12_layLost_b44 d k4 hk4 (sm_od_weight σ (vp_updL (gm_od_weight σ) w1.toNatClampNeg w0)) v2 (0 : Int32) v1 _ hf)
  · rw [if_neg c2] at hf
    refine ev_go (c' := (44, [some (.ref 0), some (.int (v1)), some (.int (v2)), some (.int (v3))], [.int ((1 : Int32)), .int (v1)], hM (sm_od_weight σ (vp_updL (gm_od_weight σ) w1.toNatClampNeg w0)))) 1 rfl ?_
    exact ev_dr (a := [some (.ref 0), none, some (.int (v2)), none]) ⟨rfl, ⟨rfl, trivial⟩⟩ (tX12_layLost_b44 d k4 hk4 (sm_od_weight σ (vp_updL (gm_od_weight σ) w1.toNatClampNeg w0)) v2 (1 : Int32) v1 _ hf)
set_option maxRecDepth 20000 in
set_option maxHeartbeats 4000000 in
theorem tX12_layLost_b4 (d : Nat) (k4 : SM → Int32 → Int32 → Option (Int32 × SM)) (hk4 : ∀ (σ : SM) (v1 : Int32) (v2 : Int32) (q : Int32 × SM), k4 σ v1 v2 = some q → ev_X (d + 3) (some .int) eiX12_layLost (4, [some (.ref 0), some (.int (v1)), some (.int (v2)), none], [], hM σ) (some (.int q.1), hM q.2)) (σ : SM) (v1 : Int32) (v2 : Int32) (q : Int32 × SM) (hf : fX12_layLost_b4 k4 σ v1 v2 = some q) : ev_X (d + 3) (some .int) eiX12_layLost (4, [some (.ref 0), some (.int (v1)), some (.int (v2)), none], [], hM σ) (some (.int q.1), hM q.2) := by
  unfold fX12_layLost_b4 at hf
  refine ev_br 2 (P := v2 < (144 : Int32)) (a := 11) (b := 52) (ls := [some (.ref 0), some (.int (v1)), some (.int (v2)), none]) (st := []) (h := hM σ) rfl (fun c1 => ?_) (fun c1 => ?_)
  · rw [if_pos c1] at hf
    obtain ⟨r1, hr1, hf⟩ := Option.bind_eq_some_iff.mp hf
    refine ev_cli 4 (kk := 135) (as := [.ref 0, .int ((v2 / (4 : Int32)))]) (rest := []) (pc := 15) (ls := [some (.ref 0), some (.int (v1)), some (.int (v2)), none]) (st := [.int ((v2 / (4 : Int32))), .ref 0]) (h := hM σ) rfl (tX12_isFree d σ (v2 / (4 : Int32)) r1 hr1) ?_
    refine ev_br 5 (P := r1 = 0) (a := 32) (b := 28) (ls := [some (.ref 0), some (.int (v1)), some (.int (v2)), some (.int (r1))]) (st := [.int (v2), .ref 2]) (h := hM σ) rfl (fun c2 => ?_) (fun c2 => ?_)
    · rw [if_pos c2] at hf
      refine ev_go (c' := (33, [some (.ref 0), some (.int (v1)), some (.int (v2)), some (.int (r1))], [.long ((0 : Int64)), .int (v2), .ref 2], hM σ)) 0 rfl ?_
      exact ev_dr (a := [some (.ref 0), some (.int (v1)), some (.int (v2)), some (.int (r1))]) ⟨rfl, ⟨rfl, ⟨rfl, ⟨rfl, trivial⟩⟩⟩⟩ (tX12_layLost_b33 d k4 hk4 σ v1 v2 r1 (0 : Int64) v2 _ hf)
    · rw [if_neg c2] at hf
      refine ev_go (c' := (33, [some (.ref 0), some (.int (v1)), some (.int (v2)), some (.int (r1))], [.long ((1 : Int64)), .int (v2), .ref 2], hM σ)) 1 rfl ?_
      exact ev_dr (a := [some (.ref 0), some (.int (v1)), some (.int (v2)), some (.int (r1))]) ⟨rfl, ⟨rfl, ⟨rfl, ⟨rfl, trivial⟩⟩⟩⟩ (tX12_layLost_b33 d k4 hk4 σ v1 v2 r1 (1 : Int64) v2 _ hf)
  · rw [if_neg c1] at hf
    refine ev_go (c' := (57, [some (.ref 0), some (.int (v1)), some (.int (v2)), none], [], hM (sm_od_updates σ (0 : Int32)))) 2 rfl ?_
    cases hf
    exact ev_rt 1 rfl
theorem tX12_layLost_l4 (d : Nat) : ∀ (n : Nat) (σ : SM) (v1 : Int32) (v2 : Int32) (q : Int32 × SM), fX12_layLost_l4 n σ v1 v2 = some q → ev_X (d + 3) (some .int) eiX12_layLost (4, [some (.ref 0), some (.int (v1)), some (.int (v2)), none], [], hM σ) (some (.int q.1), hM q.2)
  | 0, _, _, _, _, hf => by cases hf
  | n + 1, σ, v1, v2, q, hf => tX12_layLost_b4 d (fX12_layLost_l4 n) (fun σ v1 v2 q h9 => tX12_layLost_l4 d n σ v1 v2 q h9) σ v1 v2 q hf
set_option maxRecDepth 20000 in
set_option maxHeartbeats 4000000 in
theorem tX12_layLost (d : Nat) (σ : SM) (q : Int32 × SM) (hf : fX12_layLost σ = some q) : ev_M ev_mt (d + 4) 140 [.ref 0] (hM σ) (some (.int q.1), hM q.2) := by
  refine ev_en (rt := (some .int)) (I := eiX12_layLost) rfl (Nat.le_of_ble_eq_true rfl) ?_
  change ev_X (d + 3) _ _ (0, [some (.ref 0), none, none, none], [], hM σ) _
  unfold fX12_layLost at hf
  refine ev_go (c' := (4, [some (.ref 0), some (.int ((0 : Int32))), some (.int ((0 : Int32))), none], [], hM σ)) 3 rfl ?_
  exact ev_dr (a := [some (.ref 0), some (.int ((0 : Int32))), some (.int ((0 : Int32))), none]) ⟨rfl, ⟨rfl, ⟨rfl, trivial⟩⟩⟩ (tX12_layLost_l4 d 1000 σ (0 : Int32) (0 : Int32) _ hf)
set_option maxRecDepth 20000 in
set_option maxHeartbeats 4000000 in
theorem tX12_ring_b81 (d : Nat) (k81 : SM → Int32 → Option (Int32 × SM)) (hk81 : ∀ (σ : SM) (v2 : Int32) (q : Int32 × SM), k81 σ v2 = some q → ev_X (d + 4) (some .int) eiX12_ring (81, [some (.ref 0), none, some (.int (v2))], [], hM σ) (some (.int q.1), hM q.2)) (σ : SM) (v2 : Int32) (q : Int32 × SM) (hf : fX12_ring_b81 k81 σ v2 = some q) : ev_X (d + 4) (some .int) eiX12_ring (81, [some (.ref 0), none, some (.int (v2))], [], hM σ) (some (.int q.1), hM q.2) := by
  unfold fX12_ring_b81 at hf
  refine ev_br 6 (P := v2 < ((gm_rg_rows σ) * (gm_rg_columns σ))) (a := 94) (b := 112) (ls := [some (.ref 0), none, some (.int (v2))]) (st := []) (h := hM σ) rfl (fun c1 => ?_) (fun c1 => ?_)
  · rw [if_pos c1] at hf
    obtain ⟨c2, hf⟩ := ev_hp hf
    refine ev_ck 6 (P := ¬ (v2 < 0 ∨ 36 ≤ v2.toNatClampNeg)) (c' := (105, [some (.ref 0), none, some (.int (v2))], [.int (((gm_rp_newCell σ) v2.toNatClampNeg)), .int (v2), .ref 1], hM σ)) rfl c2 ?_
    obtain ⟨c3, hf⟩ := ev_hp hf
    refine ev_ck 0 (P := ¬ (v2 < 0 ∨ 36 ≤ v2.toNatClampNeg)) (c' := (106, [some (.ref 0), none, some (.int (v2))], [], hM (sm_rg_cellOf σ (upd (gm_rg_cellOf σ) v2.toNatClampNeg ((gm_rp_newCell σ) v2.toNatClampNeg))))) rfl c3 ?_
    refine ev_go (c' := (81, [some (.ref 0), none, some (.int ((v2 + (1 : Int32))))], [], hM (sm_rg_cellOf σ (upd (gm_rg_cellOf σ) v2.toNatClampNeg ((gm_rp_newCell σ) v2.toNatClampNeg))))) 1 rfl ?_
    exact ev_dr (a := [some (.ref 0), none, some (.int ((v2 + (1 : Int32))))]) ⟨rfl, ⟨rfl, trivial⟩⟩ (hk81 (sm_rg_cellOf σ (upd (gm_rg_cellOf σ) v2.toNatClampNeg ((gm_rp_newCell σ) v2.toNatClampNeg))) (v2 + (1 : Int32)) _ hf)
  · rw [if_neg c1] at hf
    refine ev_go (c' := (122, [some (.ref 0), none, some (.int (v2))], [], hM (sm_rg_rings σ ((gm_rg_rings σ) + (1 : Int32))))) 5 rfl ?_
    refine ev_go (c' := (127, [some (.ref 0), none, some (.int (v2))], [], hM (sm_pl_players (sm_rg_rings σ ((gm_rg_rings σ) + (1 : Int32))) (0 : Int32)))) 2 rfl ?_
    refine ev_go (c' := (132, [some (.ref 0), none, some (.int (v2))], [], hM (sm_nm_jacketA (sm_pl_players (sm_rg_rings σ ((gm_rg_rings σ) + (1 : Int32))) (0 : Int32)) (-1 : Int32)))) 2 rfl ?_
    refine ev_go (c' := (137, [some (.ref 0), none, some (.int (v2))], [], hM (sm_nm_jacketB (sm_nm_jacketA (sm_pl_players (sm_rg_rings σ ((gm_rg_rings σ) + (1 : Int32))) (0 : Int32)) (-1 : Int32)) (-1 : Int32)))) 2 rfl ?_
    refine ev_go (c' := (142, [some (.ref 0), none, some (.int (v2))], [], hM (sm_nm_jacketTenths (sm_nm_jacketB (sm_nm_jacketA (sm_pl_players (sm_rg_rings σ ((gm_rg_rings σ) + (1 : Int32))) (0 : Int32)) (-1 : Int32)) (-1 : Int32)) (0 : Int32)))) 2 rfl ?_
    obtain ⟨r2, hr2, hf⟩ := Option.bind_eq_some_iff.mp hf
    refine ev_cli 1 (kk := 140) (as := [.ref 0]) (rest := []) (pc := 143) (ls := [some (.ref 0), none, some (.int (v2))]) (st := [.ref 0]) (h := hM (sm_nm_jacketTenths (sm_nm_jacketB (sm_nm_jacketA (sm_pl_players (sm_rg_rings σ ((gm_rg_rings σ) + (1 : Int32))) (0 : Int32)) (-1 : Int32)) (-1 : Int32)) (0 : Int32))) rfl (tX12_layLost d (sm_nm_jacketTenths (sm_nm_jacketB (sm_nm_jacketA (sm_pl_players (sm_rg_rings σ ((gm_rg_rings σ) + (1 : Int32))) (0 : Int32)) (-1 : Int32)) (-1 : Int32)) (0 : Int32)) r2 hr2) ?_
    refine ev_go (c' := (152, [some (.ref 0), none, some (.int (v2))], [], hM (sm_pg_pageLength r2.2 (0 : Int32)))) 3 rfl ?_
    cases hf
    exact ev_rt 5 rfl
theorem tX12_ring_l81 (d : Nat) : ∀ (n : Nat) (σ : SM) (v2 : Int32) (q : Int32 × SM), fX12_ring_l81 n σ v2 = some q → ev_X (d + 4) (some .int) eiX12_ring (81, [some (.ref 0), none, some (.int (v2))], [], hM σ) (some (.int q.1), hM q.2)
  | 0, _, _, _, hf => by cases hf
  | n + 1, σ, v2, q, hf => tX12_ring_b81 d (fX12_ring_l81 n) (fun σ v2 q h9 => tX12_ring_l81 d n σ v2 q h9) σ v2 q hf
set_option maxRecDepth 20000 in
set_option maxHeartbeats 4000000 in
theorem tX12_ring_b54 (d : Nat) (σ : SM) (v1 : Int32) (q : Int32 × SM) (hf : fX12_ring_b54 σ v1 = some q) : ev_X (d + 4) (some .int) eiX12_ring (54, [some (.ref 0), some (.int (v1)), none], [], hM σ) (some (.int q.1), hM q.2) := by
  unfold fX12_ring_b54 at hf
  refine ev_br 1 (P := v1 = 0) (a := 58) (b := 61) (ls := [some (.ref 0), some (.int (v1)), none]) (st := []) (h := hM σ) rfl (fun c1 => ?_) (fun c1 => ?_)
  · rw [if_pos c1] at hf
    cases hf
    exact ev_rt 1 rfl
  · rw [if_neg c1] at hf
    refine ev_go (c' := (71, [some (.ref 0), some (.int (v1)), none], [], hM (sm_rg_rows σ ((gm_rp_newRows σ) + (1 : Int32))))) 5 rfl ?_
    refine ev_go (c' := (79, [some (.ref 0), some (.int (v1)), none], [], hM (sm_rg_columns (sm_rg_rows σ ((gm_rp_newRows σ) + (1 : Int32))) (gm_rp_newColumns σ)))) 3 rfl ?_
    refine ev_go (c' := (81, [some (.ref 0), some (.int (v1)), some (.int ((0 : Int32)))], [], hM (sm_rg_columns (sm_rg_rows σ ((gm_rp_newRows σ) + (1 : Int32))) (gm_rp_newColumns σ)))) 1 rfl ?_
    exact ev_dr (a := [some (.ref 0), none, some (.int ((0 : Int32)))]) ⟨rfl, ⟨rfl, trivial⟩⟩ (tX12_ring_l81 d 1000 (sm_rg_columns (sm_rg_rows σ ((gm_rp_newRows σ) + (1 : Int32))) (gm_rp_newColumns σ)) (0 : Int32) _ hf)
set_option maxRecDepth 20000 in
set_option maxHeartbeats 4000000 in
theorem tX12_ring_b46 (d : Nat) (k8 : SM → Int32 → Int32 → Option (Int32 × SM)) (hk8 : ∀ (σ : SM) (v1 : Int32) (v2 : Int32) (q : Int32 × SM), k8 σ v1 v2 = some q → ev_X (d + 4) (some .int) eiX12_ring (8, [some (.ref 0), some (.int (v1)), some (.int (v2))], [], hM σ) (some (.int q.1), hM q.2)) (σ : SM) (v2 : Int32) (w0 : Int32) (w1 : Int32) (q : Int32 × SM) (hf : fX12_ring_b46 k8 σ v2 w0 w1 = some q) : ev_X (d + 4) (some .int) eiX12_ring (46, [some (.ref 0), none, some (.int (v2))], [.int (w0), .int (w1)], hM σ) (some (.int q.1), hM q.2) := by
  unfold fX12_ring_b46 at hf
  refine ev_go (c' := (8, [some (.ref 0), some (.int ((w1 + w0))), some (.int ((v2 + (1 : Int32))))], [], hM σ)) 3 rfl ?_
  exact ev_dr (a := [some (.ref 0), some (.int ((w1 + w0))), some (.int ((v2 + (1 : Int32))))]) ⟨rfl, ⟨rfl, ⟨rfl, trivial⟩⟩⟩ (hk8 σ (w1 + w0) (v2 + (1 : Int32)) _ hf)
set_option maxRecDepth 20000 in
set_option maxHeartbeats 4000000 in
theorem tX12_ring_b8 (d : Nat) (k8 : SM → Int32 → Int32 → Option (Int32 × SM)) (hk8 : ∀ (σ : SM) (v1 : Int32) (v2 : Int32) (q : Int32 × SM), k8 σ v1 v2 = some q → ev_X (d + 4) (some .int) eiX12_ring (8, [some (.ref 0), some (.int (v1)), some (.int (v2))], [], hM σ) (some (.int q.1), hM q.2)) (σ : SM) (v1 : Int32) (v2 : Int32) (q : Int32 × SM) (hf : fX12_ring_b8 k8 σ v1 v2 = some q) : ev_X (d + 4) (some .int) eiX12_ring (8, [some (.ref 0), some (.int (v1)), some (.int (v2))], [], hM σ) (some (.int q.1), hM q.2) := by
  unfold fX12_ring_b8 at hf
  refine ev_br 2 (P := (gm_rp_isWhole σ) = 0) (a := 54) (b := 15) (ls := [some (.ref 0), some (.int (v1)), some (.int (v2))]) (st := []) (h := hM σ) rfl (fun c1 => ?_) (fun c1 => ?_)
  · rw [if_pos c1] at hf
    exact ev_dr (a := [some (.ref 0), some (.int (v1)), none]) ⟨rfl, ⟨rfl, trivial⟩⟩ (tX12_ring_b54 d σ v1 _ hf)
  · rw [if_neg c1] at hf
    refine ev_br 8 (P := v2 < (((gm_rp_newRows σ) + (1 : Int32)) * (gm_rp_newColumns σ))) (a := 30) (b := 54) (ls := [some (.ref 0), some (.int (v1)), some (.int (v2))]) (st := []) (h := hM σ) rfl (fun c2 => ?_) (fun c2 => ?_)
    · rw [if_pos c2] at hf
      obtain ⟨c3, hf⟩ := ev_hp hf
      refine ev_ck 4 (P := ¬ (v2 < 0 ∨ 36 ≤ v2.toNatClampNeg)) (c' := (37, [some (.ref 0), some (.int (v1)), some (.int (v2))], [.int (((gm_rp_newCell σ) v2.toNatClampNeg)), .int (v1)], hM σ)) rfl c3 ?_
      refine ev_br 1 (P := ((gm_rp_newCell σ) v2.toNatClampNeg) < (2 : Int32)) (a := 41) (b := 45) (ls := [some (.ref 0), some (.int (v1)), some (.int (v2))]) (st := [.int (v1)]) (h := hM σ) rfl (fun c4 => ?_) (fun c4 => ?_)
      · rw [if_pos c4] at hf
        refine ev_go (c' := (46, [some (.ref 0), some (.int (v1)), some (.int (v2))], [.int ((1 : Int32)), .int (v1)], hM σ)) 1 rfl ?_
        exact ev_dr (a := [some (.ref 0), none, some (.int (v2))]) ⟨rfl, ⟨rfl, trivial⟩⟩ (tX12_ring_b46 d k8 hk8 σ v2 (1 : Int32) v1 _ hf)
      · rw [if_neg c4] at hf
        refine ev_go (c' := (46, [some (.ref 0), some (.int (v1)), some (.int (v2))], [.int ((0 : Int32)), .int (v1)], hM σ)) 0 rfl ?_
        exact ev_dr (a := [some (.ref 0), none, some (.int (v2))]) ⟨rfl, ⟨rfl, trivial⟩⟩ (tX12_ring_b46 d k8 hk8 σ v2 (0 : Int32) v1 _ hf)
    · rw [if_neg c2] at hf
      exact ev_dr (a := [some (.ref 0), some (.int (v1)), none]) ⟨rfl, ⟨rfl, trivial⟩⟩ (tX12_ring_b54 d σ v1 _ hf)
theorem tX12_ring_l8 (d : Nat) : ∀ (n : Nat) (σ : SM) (v1 : Int32) (v2 : Int32) (q : Int32 × SM), fX12_ring_l8 n σ v1 v2 = some q → ev_X (d + 4) (some .int) eiX12_ring (8, [some (.ref 0), some (.int (v1)), some (.int (v2))], [], hM σ) (some (.int q.1), hM q.2)
  | 0, _, _, _, _, hf => by cases hf
  | n + 1, σ, v1, v2, q, hf => tX12_ring_b8 d (fX12_ring_l8 n) (fun σ v1 v2 q h9 => tX12_ring_l8 d n σ v1 v2 q h9) σ v1 v2 q hf
set_option maxRecDepth 20000 in
set_option maxHeartbeats 4000000 in
theorem tX12_ring (d : Nat) (σ : SM) (q : Int32 × SM) (hf : fX12_ring σ = some q) : ev_M ev_mt (d + 5) 132 [.ref 0] (hM σ) (some (.int q.1), hM q.2) := by
  refine ev_en (rt := (some .int)) (I := eiX12_ring) rfl (Nat.le_of_ble_eq_true rfl) ?_
  change ev_X (d + 4) _ _ (0, [some (.ref 0), none, none], [], hM σ) _
  unfold fX12_ring at hf
  obtain ⟨r1, hr1, hf⟩ := Option.bind_eq_some_iff.mp hf
  refine ev_clv 1 (kk := 130) (as := [.ref 0]) (rest := []) (pc := 1) (ls := [some (.ref 0), none, none]) (st := [.ref 0]) (h := hM σ) rfl (tX12_readPage (d + 2) σ r1 hr1) ?_
  refine ev_go (c' := (8, [some (.ref 0), some (.int ((0 : Int32))), some (.int ((0 : Int32)))], [], hM r1)) 3 rfl ?_
  exact ev_dr (a := [some (.ref 0), some (.int ((0 : Int32))), some (.int ((0 : Int32)))]) ⟨rfl, ⟨rfl, ⟨rfl, trivial⟩⟩⟩ (tX12_ring_l8 d 1000 r1 (0 : Int32) (0 : Int32) _ hf)
set_option maxRecDepth 20000 in
set_option maxHeartbeats 4000000 in
theorem tX12_cell_b19 (d : Nat) (σ : SM) (w0 : Int32) (q : Int32) (hf : fX12_cell_b19 σ w0 = some q) : ev_X (d + 2) (some .int) eiX12_cell (19, [none, none], [.int (w0)], hM σ) (some (.int q), hM σ) := by
  unfold fX12_cell_b19 at hf
  cases hf
  exact ev_rt 0 rfl
set_option maxRecDepth 20000 in
set_option maxHeartbeats 4000000 in
theorem tX12_cell (d : Nat) (σ : SM) (v1 : Int32) (q : Int32) (hf : fX12_cell σ v1 = some q) : ev_M ev_mt (d + 3) 136 [.ref 0, .int (v1)] (hM σ) (some (.int q), hM σ) := by
  refine ev_en (rt := (some .int)) (I := eiX12_cell) rfl (Nat.le_of_ble_eq_true rfl) ?_
  change ev_X (d + 2) _ _ (0, [some (.ref 0), some (.int (v1))], [], hM σ) _
  unfold fX12_cell at hf
  obtain ⟨r1, hr1, hf⟩ := Option.bind_eq_some_iff.mp hf
  refine ev_cli 2 (kk := 134) (as := [.ref 0, .int (v1)]) (rest := []) (pc := 2) (ls := [some (.ref 0), some (.int (v1))]) (st := [.int (v1), .ref 0]) (h := hM σ) rfl (tX12_isCell d σ v1 r1 hr1) ?_
  refine ev_br 0 (P := r1 = 0) (a := 17) (b := 8) (ls := [some (.ref 0), some (.int (v1))]) (st := []) (h := hM σ) rfl (fun c1 => ?_) (fun c1 => ?_)
  · rw [if_pos c1] at hf
    refine ev_go (c' := (19, [some (.ref 0), some (.int (v1))], [.int ((-101 : Int32))], hM σ)) 0 rfl ?_
    exact ev_dr (a := [none, none]) trivial (tX12_cell_b19 d σ (-101 : Int32) _ hf)
  · rw [if_neg c1] at hf
    obtain ⟨c2, hf⟩ := ev_hp hf
    refine ev_ck 3 (P := ¬ (v1 < 0 ∨ 36 ≤ v1.toNatClampNeg)) (c' := (14, [some (.ref 0), some (.int (v1))], [.int (((gm_rg_cellOf σ) v1.toNatClampNeg))], hM σ)) rfl c2 ?_
    refine ev_go (c' := (19, [some (.ref 0), some (.int (v1))], [.int (((gm_rg_cellOf σ) v1.toNatClampNeg))], hM σ)) 0 rfl ?_
    exact ev_dr (a := [none, none]) trivial (tX12_cell_b19 d σ ((gm_rg_cellOf σ) v1.toNatClampNeg) _ hf)
set_option maxRecDepth 20000 in
set_option maxHeartbeats 4000000 in
theorem tX12_on_b96 (d : Nat) (σ : SM) (w0 : Int32) (q : Int32) (hf : fX12_on_b96 σ w0 = some q) : ev_X (d + 1) (some .int) eiX12_on (96, [none, none, none, none, none], [.int (w0)], hM σ) (some (.int q), hM σ) := by
  unfold fX12_on_b96 at hf
  cases hf
  exact ev_rt 0 rfl
set_option maxRecDepth 20000 in
set_option maxHeartbeats 4000000 in
theorem tX12_on_b95 (d : Nat) (σ : SM) (q : Int32) (hf : fX12_on_b95 σ = some q) : ev_X (d + 1) (some .int) eiX12_on (95, [none, none, none, none, none], [], hM σ) (some (.int q), hM σ) := by
  unfold fX12_on_b95 at hf
  refine ev_go (c' := (96, [none, none, none, none, none], [.int ((-1 : Int32))], hM σ)) 0 rfl ?_
  exact ev_dr (a := [none, none, none, none, none]) trivial (tX12_on_b96 d σ (-1 : Int32) _ hf)
set_option maxRecDepth 20000 in
set_option maxHeartbeats 4000000 in
theorem tX12_on_b51 (d : Nat) (σ : SM) (v3 : Int32) (w0 : Int32) (w1 : Int32) (q : Int32) (hf : fX12_on_b51 σ v3 w0 w1 = some q) : ev_X (d + 1) (some .int) eiX12_on (51, [some (.ref 0), none, none, some (.int (v3)), none], [.int (w0), .int (w1)], hM σ) (some (.int q), hM σ) := by
  unfold fX12_on_b51 at hf
  obtain ⟨r1, hr1, hf⟩ := Option.bind_eq_some_iff.mp hf
  refine ev_cli 8 (kk := 123) (as := [.int (v3), .int ((0 : Int32)), .int (((gm_rg_rows σ) - (1 : Int32)))]) (rest := []) (pc := 62) (ls := [some (.ref 0), none, none, some (.int (v3)), some (.int ((w1 + w0)))]) (st := [.int (((gm_rg_rows σ) - (1 : Int32))), .int ((0 : Int32)), .int (v3)]) (h := hM σ) rfl (tX12_within d (hM σ) v3 (0 : Int32) ((gm_rg_rows σ) - (1 : Int32)) r1 hr1) ?_
  refine ev_br 0 (P := r1 = 0) (a := 95) (b := 68) (ls := [some (.ref 0), none, none, some (.int (v3)), some (.int ((w1 + w0)))]) (st := []) (h := hM σ) rfl (fun c1 => ?_) (fun c1 => ?_)
  · rw [if_pos c1] at hf
    exact ev_dr (a := [none, none, none, none, none]) trivial (tX12_on_b95 d σ  _ hf)
  · rw [if_neg c1] at hf
    obtain ⟨r2, hr2, hf⟩ := Option.bind_eq_some_iff.mp hf
    refine ev_cli 6 (kk := 123) (as := [.int ((w1 + w0)), .int ((0 : Int32)), .int (((gm_rg_columns σ) - (1 : Int32)))]) (rest := []) (pc := 77) (ls := [some (.ref 0), none, none, some (.int (v3)), some (.int ((w1 + w0)))]) (st := [.int (((gm_rg_columns σ) - (1 : Int32))), .int ((0 : Int32)), .int ((w1 + w0))]) (h := hM σ) rfl (tX12_within d (hM σ) (w1 + w0) (0 : Int32) ((gm_rg_columns σ) - (1 : Int32)) r2 hr2) ?_
    refine ev_br 0 (P := r2 = 0) (a := 95) (b := 83) (ls := [some (.ref 0), none, none, some (.int (v3)), some (.int ((w1 + w0)))]) (st := []) (h := hM σ) rfl (fun c2 => ?_) (fun c2 => ?_)
    · rw [if_pos c2] at hf
      exact ev_dr (a := [none, none, none, none, none]) trivial (tX12_on_b95 d σ  _ hf)
    · rw [if_neg c2] at hf
      refine ev_go (c' := (96, [some (.ref 0), none, none, some (.int (v3)), some (.int ((w1 + w0)))], [.int (((v3 * (gm_rg_columns σ)) + (w1 + w0)))], hM σ)) 6 rfl ?_
      exact ev_dr (a := [none, none, none, none, none]) trivial (tX12_on_b96 d σ ((v3 * (gm_rg_columns σ)) + (w1 + w0)) _ hf)
set_option maxRecDepth 20000 in
set_option maxHeartbeats 4000000 in
theorem tX12_on_b24 (d : Nat) (σ : SM) (v1 : Int32) (v2 : Int32) (w0 : Int32) (w1 : Int32) (q : Int32) (hf : fX12_on_b24 σ v1 v2 w0 w1 = some q) : ev_X (d + 1) (some .int) eiX12_on (24, [some (.ref 0), some (.int (v1)), some (.int (v2)), none, none], [.int (w0), .int (w1)], hM σ) (some (.int q), hM σ) := by
  unfold fX12_on_b24 at hf
  obtain ⟨c1, hf⟩ := ev_hp hf
  refine ev_ck 5 (P := ¬ (gm_rg_columns σ) = 0) (c' := (32, [some (.ref 0), some (.int (v1)), some (.int (v2)), some (.int ((w1 + w0))), none], [.int ((v1 - v1 / (gm_rg_columns σ) * (gm_rg_columns σ)))], hM σ)) rfl c1 ?_
  refine ev_br 2 (P := v2 = (1 : Int32)) (a := 37) (b := 41) (ls := [some (.ref 0), some (.int (v1)), some (.int (v2)), some (.int ((w1 + w0))), none]) (st := [.int ((v1 - v1 / (gm_rg_columns σ) * (gm_rg_columns σ)))]) (h := hM σ) rfl (fun c2 => ?_) (fun c2 => ?_)
  · rw [if_pos c2] at hf
    refine ev_go (c' := (51, [some (.ref 0), some (.int (v1)), some (.int (v2)), some (.int ((w1 + w0))), none], [.int ((1 : Int32)), .int ((v1 - v1 / (gm_rg_columns σ) * (gm_rg_columns σ)))], hM σ)) 1 rfl ?_
    exact ev_dr (a := [some (.ref 0), none, none, some (.int ((w1 + w0))), none]) ⟨rfl, ⟨rfl, trivial⟩⟩ (tX12_on_b51 d σ (w1 + w0) (1 : Int32) (v1 - v1 / (gm_rg_columns σ) * (gm_rg_columns σ)) _ hf)
  · rw [if_neg c2] at hf
    refine ev_br 2 (P := v2 = (3 : Int32)) (a := 46) (b := 50) (ls := [some (.ref 0), some (.int (v1)), some (.int (v2)), some (.int ((w1 + w0))), none]) (st := [.int ((v1 - v1 / (gm_rg_columns σ) * (gm_rg_columns σ)))]) (h := hM σ) rfl (fun c3 => ?_) (fun c3 => ?_)
    · rw [if_pos c3] at hf
      refine ev_go (c' := (51, [some (.ref 0), some (.int (v1)), some (.int (v2)), some (.int ((w1 + w0))), none], [.int ((-1 : Int32)), .int ((v1 - v1 / (gm_rg_columns σ) * (gm_rg_columns σ)))], hM σ)) 1 rfl ?_
      exact ev_dr (a := [some (.ref 0), none, none, some (.int ((w1 + w0))), none]) ⟨rfl, ⟨rfl, trivial⟩⟩ (tX12_on_b51 d σ (w1 + w0) (-1 : Int32) (v1 - v1 / (gm_rg_columns σ) * (gm_rg_columns σ)) _ hf)
    · rw [if_neg c3] at hf
      refine ev_go (c' := (51, [some (.ref 0), some (.int (v1)), some (.int (v2)), some (.int ((w1 + w0))), none], [.int ((0 : Int32)), .int ((v1 - v1 / (gm_rg_columns σ) * (gm_rg_columns σ)))], hM σ)) 0 rfl ?_
      exact ev_dr (a := [some (.ref 0), none, none, some (.int ((w1 + w0))), none]) ⟨rfl, ⟨rfl, trivial⟩⟩ (tX12_on_b51 d σ (w1 + w0) (0 : Int32) (v1 - v1 / (gm_rg_columns σ) * (gm_rg_columns σ)) _ hf)
set_option maxRecDepth 20000 in
set_option maxHeartbeats 4000000 in
theorem tX12_on (d : Nat) (σ : SM) (v1 : Int32) (v2 : Int32) (q : Int32) (hf : fX12_on σ v1 v2 = some q) : ev_M ev_mt (d + 2) 137 [.ref 0, .int (v1), .int (v2)] (hM σ) (some (.int q), hM σ) := by
  refine ev_en (rt := (some .int)) (I := eiX12_on) rfl (Nat.le_of_ble_eq_true rfl) ?_
  change ev_X (d + 1) _ _ (0, [some (.ref 0), some (.int (v1)), some (.int (v2)), none, none], [], hM σ) _
  unfold fX12_on at hf
  obtain ⟨c1, hf⟩ := ev_hp hf
  refine ev_ck 3 (P := ¬ (gm_rg_columns σ) = 0) (c' := (6, [some (.ref 0), some (.int (v1)), some (.int (v2)), none, none], [.int ((v1 / (gm_rg_columns σ)))], hM σ)) rfl c1 ?_
  refine ev_br 1 (P := v2 = 0) (a := 10) (b := 14) (ls := [some (.ref 0), some (.int (v1)), some (.int (v2)), none, none]) (st := [.int ((v1 / (gm_rg_columns σ)))]) (h := hM σ) rfl (fun c2 => ?_) (fun c2 => ?_)
  · rw [if_pos c2] at hf
    refine ev_go (c' := (24, [some (.ref 0), some (.int (v1)), some (.int (v2)), none, none], [.int ((-1 : Int32)), .int ((v1 / (gm_rg_columns σ)))], hM σ)) 1 rfl ?_
    exact ev_dr (a := [some (.ref 0), some (.int (v1)), some (.int (v2)), none, none]) ⟨rfl, ⟨rfl, ⟨rfl, trivial⟩⟩⟩ (tX12_on_b24 d σ v1 v2 (-1 : Int32) (v1 / (gm_rg_columns σ)) _ hf)
  · rw [if_neg c2] at hf
    refine ev_br 2 (P := v2 = (2 : Int32)) (a := 19) (b := 23) (ls := [some (.ref 0), some (.int (v1)), some (.int (v2)), none, none]) (st := [.int ((v1 / (gm_rg_columns σ)))]) (h := hM σ) rfl (fun c3 => ?_) (fun c3 => ?_)
    · rw [if_pos c3] at hf
      refine ev_go (c' := (24, [some (.ref 0), some (.int (v1)), some (.int (v2)), none, none], [.int ((1 : Int32)), .int ((v1 / (gm_rg_columns σ)))], hM σ)) 1 rfl ?_
      exact ev_dr (a := [some (.ref 0), some (.int (v1)), some (.int (v2)), none, none]) ⟨rfl, ⟨rfl, ⟨rfl, trivial⟩⟩⟩ (tX12_on_b24 d σ v1 v2 (1 : Int32) (v1 / (gm_rg_columns σ)) _ hf)
    · rw [if_neg c3] at hf
      refine ev_go (c' := (24, [some (.ref 0), some (.int (v1)), some (.int (v2)), none, none], [.int ((0 : Int32)), .int ((v1 / (gm_rg_columns σ)))], hM σ)) 0 rfl ?_
      exact ev_dr (a := [some (.ref 0), some (.int (v1)), some (.int (v2)), none, none]) ⟨rfl, ⟨rfl, ⟨rfl, trivial⟩⟩⟩ (tX12_on_b24 d σ v1 v2 (0 : Int32) (v1 / (gm_rg_columns σ)) _ hf)
set_option maxRecDepth 20000 in
set_option maxHeartbeats 4000000 in
theorem tX12_isWay (d : Nat) (h : ev_H) (v0 : Int32) (q : Int32) (hf : fX12_isWay v0 = some q) : ev_M ev_mt (d + 2) 138 [.int (v0)] (h) (some (.int q), h) := by
  refine ev_en (rt := (some .boolean)) (I := eiX12_isWay) rfl (Nat.le_of_ble_eq_true rfl) ?_
  change ev_X (d + 1) _ _ (0, [some (.int (v0))], [], h) _
  unfold fX12_isWay at hf
  obtain ⟨r1, hr1, hf⟩ := Option.bind_eq_some_iff.mp hf
  refine ev_cli 3 (kk := 123) (as := [.int (v0), .int ((0 : Int32)), .int ((3 : Int32))]) (rest := []) (pc := 3) (ls := [some (.int (v0))]) (st := [.int ((3 : Int32)), .int ((0 : Int32)), .int (v0)]) (h := h) rfl (tX12_within d (h) v0 (0 : Int32) (3 : Int32) r1 hr1) ?_
  obtain ⟨c1, hf⟩ := ev_hp hf
  cases hf
  exact ev_rk 0 rfl c1
set_option maxRecDepth 20000 in
set_option maxHeartbeats 4000000 in
theorem tX12_clear_b2 (d : Nat) (k2 : SM → Int32 → Option (SM)) (hk2 : ∀ (σ : SM) (v1 : Int32) (q : SM), k2 σ v1 = some q → ev_X d none eiX12_clear (2, [some (.ref 0), some (.int (v1))], [], hM σ) (none, hM q)) (σ : SM) (v1 : Int32) (q : SM) (hf : fX12_clear_b2 k2 σ v1 = some q) : ev_X d none eiX12_clear (2, [some (.ref 0), some (.int (v1))], [], hM σ) (none, hM q) := by
  unfold fX12_clear_b2 at hf
  refine ev_br 2 (P := v1 < (144 : Int32)) (a := 9) (b := 22) (ls := [some (.ref 0), some (.int (v1))]) (st := []) (h := hM σ) rfl (fun c1 => ?_) (fun c1 => ?_)
  · rw [if_pos c1] at hf
    obtain ⟨c2, hf⟩ := ev_hp hf
    refine ev_ck 4 (P := ¬ (v1 < 0 ∨ 144 ≤ v1.toNatClampNeg)) (c' := (16, [some (.ref 0), some (.int (v1))], [], hM (sm_od_then σ (vp_updL (gm_od_then σ) v1.toNatClampNeg (0 : Int64))))) rfl c2 ?_
    refine ev_go (c' := (2, [some (.ref 0), some (.int ((v1 + (1 : Int32))))], [], hM (sm_od_then σ (vp_updL (gm_od_then σ) v1.toNatClampNeg (0 : Int64))))) 1 rfl ?_
    exact ev_dr (a := [some (.ref 0), some (.int ((v1 + (1 : Int32))))]) ⟨rfl, ⟨rfl, trivial⟩⟩ (hk2 (sm_od_then σ (vp_updL (gm_od_then σ) v1.toNatClampNeg (0 : Int64))) (v1 + (1 : Int32)) _ hf)
  · rw [if_neg c1] at hf
    cases hf
    exact ev_rt 0 rfl
theorem tX12_clear_l2 (d : Nat) : ∀ (n : Nat) (σ : SM) (v1 : Int32) (q : SM), fX12_clear_l2 n σ v1 = some q → ev_X d none eiX12_clear (2, [some (.ref 0), some (.int (v1))], [], hM σ) (none, hM q)
  | 0, _, _, _, hf => by cases hf
  | n + 1, σ, v1, q, hf => tX12_clear_b2 d (fX12_clear_l2 n) (fun σ v1 q h9 => tX12_clear_l2 d n σ v1 q h9) σ v1 q hf
set_option maxRecDepth 20000 in
set_option maxHeartbeats 4000000 in
theorem tX12_clear (d : Nat) (σ : SM) (q : SM) (hf : fX12_clear σ = some q) : ev_M ev_mt (d + 1) 139 [.ref 0] (hM σ) (none, hM q) := by
  refine ev_en (rt := none) (I := eiX12_clear) rfl (Nat.le_of_ble_eq_true rfl) ?_
  change ev_X d _ _ (0, [some (.ref 0), none], [], hM σ) _
  unfold fX12_clear at hf
  refine ev_go (c' := (2, [some (.ref 0), some (.int ((0 : Int32)))], [], hM σ)) 1 rfl ?_
  exact ev_dr (a := [some (.ref 0), some (.int ((0 : Int32)))]) ⟨rfl, ⟨rfl, trivial⟩⟩ (tX12_clear_l2 d 1000 σ (0 : Int32) _ hf)
set_option maxRecDepth 20000 in
set_option maxHeartbeats 4000000 in
theorem tX12_set_b49 (d : Nat) (k23 : SM → Int32 → Int32 → Int32 → Option (Int32 × SM)) (hk23 : ∀ (σ : SM) (v1 : Int32) (v2 : Int32) (v3 : Int32) (q : Int32 × SM), k23 σ v1 v2 v3 = some q → ev_X (d + 3) (some .int) eiX12_set (23, [some (.ref 0), some (.int (v1)), some (.int (v2)), some (.int (v3))], [], hM σ) (some (.int q.1), hM q.2)) (σ : SM) (v1 : Int32) (v2 : Int32) (v3 : Int32) (w0 : Int64) (w1 : Int32) (q : Int32 × SM) (hf : fX12_set_b49 k23 σ v1 v2 v3 w0 w1 = some q) : ev_X (d + 3) (some .int) eiX12_set (49, [some (.ref 0), some (.int (v1)), some (.int (v2)), some (.int (v3))], [.long (w0), .int (w1), .ref 2], hM σ) (some (.int q.1), hM q.2) := by
  unfold fX12_set_b49 at hf
  obtain ⟨c1, hf⟩ := ev_hp hf
  refine ev_ck 0 (P := ¬ (w1 < 0 ∨ 144 ≤ w1.toNatClampNeg)) (c' := (50, [some (.ref 0), some (.int (v1)), some (.int (v2)), some (.int (v3))], [], hM (sm_od_weight σ (vp_updL (gm_od_weight σ) w1.toNatClampNeg w0)))) rfl c1 ?_
  refine ev_go (c' := (23, [some (.ref 0), some (.int (v1)), some (.int (v2)), some (.int ((v3 + (1 : Int32))))], [], hM (sm_od_weight σ (vp_updL (gm_od_weight σ) w1.toNatClampNeg w0)))) 1 rfl ?_
  exact ev_dr (a := [some (.ref 0), some (.int (v1)), some (.int (v2)), some (.int ((v3 + (1 : Int32))))]) ⟨rfl, ⟨rfl, ⟨rfl, ⟨rfl, trivial⟩⟩⟩⟩ (hk23 (sm_od_weight σ (vp_updL (gm_od_weight σ) w1.toNatClampNeg w0)) v1 v2 (v3 + (1 : Int32)) _ hf)
set_option maxRecDepth 20000 in
set_option maxHeartbeats 4000000 in
theorem tX12_set_b23 (d : Nat) (k23 : SM → Int32 → Int32 → Int32 → Option (Int32 × SM)) (hk23 : ∀ (σ : SM) (v1 : Int32) (v2 : Int32) (v3 : Int32) (q : Int32 × SM), k23 σ v1 v2 v3 = some q → ev_X (d + 3) (some .int) eiX12_set (23, [some (.ref 0), some (.int (v1)), some (.int (v2)), some (.int (v3))], [], hM σ) (some (.int q.1), hM q.2)) (σ : SM) (v1 : Int32) (v2 : Int32) (v3 : Int32) (q : Int32 × SM) (hf : fX12_set_b23 k23 σ v1 v2 v3 = some q) : ev_X (d + 3) (some .int) eiX12_set (23, [some (.ref 0), some (.int (v1)), some (.int (v2)), some (.int (v3))], [], hM σ) (some (.int q.1), hM q.2) := by
  unfold fX12_set_b23 at hf
  refine ev_br 2 (P := v3 < (144 : Int32)) (a := 30) (b := 56) (ls := [some (.ref 0), some (.int (v1)), some (.int (v2)), some (.int (v3))]) (st := []) (h := hM σ) rfl (fun c1 => ?_) (fun c1 => ?_)
  · rw [if_pos c1] at hf
    refine ev_br 9 (P := v3 = (((4 : Int32) * v1) + v2)) (a := 44) (b := 48) (ls := [some (.ref 0), some (.int (v1)), some (.int (v2)), some (.int (v3))]) (st := [.int (v3), .ref 2]) (h := hM σ) rfl (fun c2 => ?_) (fun c2 => ?_)
    · rw [if_pos c2] at hf
      refine ev_go (c' := (49, [some (.ref 0), some (.int (v1)), some (.int (v2)), some (.int (v3))], [.long ((1 : Int64)), .int (v3), .ref 2], hM σ)) 1 rfl ?_
      exact ev_dr (a := [some (.ref 0), some (.int (v1)), some (.int (v2)), some (.int (v3))]) ⟨rfl, ⟨rfl, ⟨rfl, ⟨rfl, trivial⟩⟩⟩⟩ (tX12_set_b49 d k23 hk23 σ v1 v2 v3 (1 : Int64) v3 _ hf)
    · rw [if_neg c2] at hf
      refine ev_go (c' := (49, [some (.ref 0), some (.int (v1)), some (.int (v2)), some (.int (v3))], [.long ((0 : Int64)), .int (v3), .ref 2], hM σ)) 0 rfl ?_
      exact ev_dr (a := [some (.ref 0), some (.int (v1)), some (.int (v2)), some (.int (v3))]) ⟨rfl, ⟨rfl, ⟨rfl, ⟨rfl, trivial⟩⟩⟩⟩ (tX12_set_b49 d k23 hk23 σ v1 v2 v3 (0 : Int64) v3 _ hf)
  · rw [if_neg c1] at hf
    refine ev_go (c' := (61, [some (.ref 0), some (.int (v1)), some (.int (v2)), some (.int (v3))], [], hM (sm_od_updates σ (0 : Int32)))) 2 rfl ?_
    cases hf
    exact ev_rt 1 rfl
theorem tX12_set_l23 (d : Nat) : ∀ (n : Nat) (σ : SM) (v1 : Int32) (v2 : Int32) (v3 : Int32) (q : Int32 × SM), fX12_set_l23 n σ v1 v2 v3 = some q → ev_X (d + 3) (some .int) eiX12_set (23, [some (.ref 0), some (.int (v1)), some (.int (v2)), some (.int (v3))], [], hM σ) (some (.int q.1), hM q.2)
  | 0, _, _, _, _, _, hf => by cases hf
  | n + 1, σ, v1, v2, v3, q, hf => tX12_set_b23 d (fX12_set_l23 n) (fun σ v1 v2 v3 q h9 => tX12_set_l23 d n σ v1 v2 v3 q h9) σ v1 v2 v3 q hf
set_option maxRecDepth 20000 in
set_option maxHeartbeats 4000000 in
theorem tX12_set (d : Nat) (σ : SM) (v1 : Int32) (v2 : Int32) (q : Int32 × SM) (hf : fX12_set σ v1 v2 = some q) : ev_M ev_mt (d + 4) 141 [.ref 0, .int (v1), .int (v2)] (hM σ) (some (.int q.1), hM q.2) := by
  refine ev_en (rt := (some .int)) (I := eiX12_set) rfl (Nat.le_of_ble_eq_true rfl) ?_
  change ev_X (d + 3) _ _ (0, [some (.ref 0), some (.int (v1)), some (.int (v2)), none], [], hM σ) _
  unfold fX12_set at hf
  obtain ⟨r1, hr1, hf⟩ := Option.bind_eq_some_iff.mp hf
  refine ev_cli 2 (kk := 135) (as := [.ref 0, .int (v1)]) (rest := []) (pc := 2) (ls := [some (.ref 0), some (.int (v1)), some (.int (v2)), none]) (st := [.int (v1), .ref 0]) (h := hM σ) rfl (tX12_isFree d σ v1 r1 hr1) ?_
  refine ev_br 0 (P := r1 = 0) (a := 8) (b := 11) (ls := [some (.ref 0), some (.int (v1)), some (.int (v2)), none]) (st := []) (h := hM σ) rfl (fun c1 => ?_) (fun c1 => ?_)
  · rw [if_pos c1] at hf
    cases hf
    exact ev_rt 1 rfl
  · rw [if_neg c1] at hf
    obtain ⟨r2, hr2, hf⟩ := Option.bind_eq_some_iff.mp hf
    refine ev_cli 1 (kk := 138) (as := [.int (v2)]) (rest := []) (pc := 12) (ls := [some (.ref 0), some (.int (v1)), some (.int (v2)), none]) (st := [.int (v2)]) (h := hM σ) rfl (tX12_isWay (d + 1) (hM σ) v2 r2 hr2) ?_
    refine ev_br 0 (P := r2 = 0) (a := 18) (b := 21) (ls := [some (.ref 0), some (.int (v1)), some (.int (v2)), none]) (st := []) (h := hM σ) rfl (fun c2 => ?_) (fun c2 => ?_)
    · rw [if_pos c2] at hf
      cases hf
      exact ev_rt 1 rfl
    · rw [if_neg c2] at hf
      refine ev_go (c' := (23, [some (.ref 0), some (.int (v1)), some (.int (v2)), some (.int ((0 : Int32)))], [], hM σ)) 1 rfl ?_
      exact ev_dr (a := [some (.ref 0), some (.int (v1)), some (.int (v2)), some (.int ((0 : Int32)))]) ⟨rfl, ⟨rfl, ⟨rfl, ⟨rfl, trivial⟩⟩⟩⟩ (tX12_set_l23 d 1000 σ v1 v2 (0 : Int32) _ hf)
set_option maxRecDepth 20000 in
set_option maxHeartbeats 4000000 in
theorem tX12_lost_b16 (d : Nat) (σ : SM) (w0 : Int32) (q : Int32 × SM) (hf : fX12_lost_b16 σ w0 = some q) : ev_X (d + 4) (some .int) eiX12_lost (16, [none], [.int (w0)], hM σ) (some (.int q.1), hM q.2) := by
  unfold fX12_lost_b16 at hf
  cases hf
  exact ev_rt 0 rfl
set_option maxRecDepth 20000 in
set_option maxHeartbeats 4000000 in
theorem tX12_lost (d : Nat) (σ : SM) (q : Int32 × SM) (hf : fX12_lost σ = some q) : ev_M ev_mt (d + 5) 142 [.ref 0] (hM σ) (some (.int q.1), hM q.2) := by
  refine ev_en (rt := (some .int)) (I := eiX12_lost) rfl (Nat.le_of_ble_eq_true rfl) ?_
  change ev_X (d + 4) _ _ (0, [some (.ref 0)], [], hM σ) _
  unfold fX12_lost at hf
  refine ev_br 2 (P := (gm_rg_rings σ) = 0) (a := 7) (b := 12) (ls := [some (.ref 0)]) (st := []) (h := hM σ) rfl (fun c1 => ?_) (fun c1 => ?_)
  · rw [if_pos c1] at hf
    refine ev_go (c' := (16, [some (.ref 0)], [.int ((-103 : Int32))], hM σ)) 1 rfl ?_
    exact ev_dr (a := [none]) trivial (tX12_lost_b16 d σ (-103 : Int32) _ hf)
  · rw [if_neg c1] at hf
    obtain ⟨r1, hr1, hf⟩ := Option.bind_eq_some_iff.mp hf
    refine ev_cli 1 (kk := 140) (as := [.ref 0]) (rest := []) (pc := 13) (ls := [some (.ref 0)]) (st := [.ref 0]) (h := hM σ) rfl (tX12_layLost d σ r1 hr1) ?_
    exact ev_dr (a := [none]) trivial (tX12_lost_b16 d r1.2 r1.1 _ hf)
set_option maxRecDepth 20000 in
set_option maxHeartbeats 4000000 in
theorem tX12_above_b28 (d : Nat) (σ : SM) (k4 : Int32 → Int32 → Option (Int32)) (hk4 : ∀ (v1 : Int32) (v2 : Int32) (q : Int32), k4 v1 v2 = some q → ev_X d (some .int) eiX12_above (4, [some (.ref 0), some (.int (v1)), some (.int (v2))], [], hM σ) (some (.int q), hM σ)) (v2 : Int32) (w0 : Int32) (w1 : Int32) (q : Int32) (hf : fX12_above_b28 σ k4 v2 w0 w1 = some q) : ev_X d (some .int) eiX12_above (28, [some (.ref 0), none, some (.int (v2))], [.int (w0), .int (w1)], hM σ) (some (.int q), hM σ) := by
  unfold fX12_above_b28 at hf
  refine ev_go (c' := (4, [some (.ref 0), some (.int ((w1 + w0))), some (.int ((v2 + (1 : Int32))))], [], hM σ)) 3 rfl ?_
  exact ev_dr (a := [some (.ref 0), some (.int ((w1 + w0))), some (.int ((v2 + (1 : Int32))))]) ⟨rfl, ⟨rfl, ⟨rfl, trivial⟩⟩⟩ (hk4 (w1 + w0) (v2 + (1 : Int32)) _ hf)
set_option maxRecDepth 20000 in
set_option maxHeartbeats 4000000 in
theorem tX12_above_b4 (d : Nat) (σ : SM) (k4 : Int32 → Int32 → Option (Int32)) (hk4 : ∀ (v1 : Int32) (v2 : Int32) (q : Int32), k4 v1 v2 = some q → ev_X d (some .int) eiX12_above (4, [some (.ref 0), some (.int (v1)), some (.int (v2))], [], hM σ) (some (.int q), hM σ)) (v1 : Int32) (v2 : Int32) (q : Int32) (hf : fX12_above_b4 σ k4 v1 v2 = some q) : ev_X d (some .int) eiX12_above (4, [some (.ref 0), some (.int (v1)), some (.int (v2))], [], hM σ) (some (.int q), hM σ) := by
  unfold fX12_above_b4 at hf
  refine ev_br 2 (P := v2 < (144 : Int32)) (a := 11) (b := 36) (ls := [some (.ref 0), some (.int (v1)), some (.int (v2))]) (st := []) (h := hM σ) rfl (fun c1 => ?_) (fun c1 => ?_)
  · rw [if_pos c1] at hf
    obtain ⟨c2, hf⟩ := ev_hp hf
    refine ev_ck 4 (P := ¬ (v2 < 0 ∨ 144 ≤ v2.toNatClampNeg)) (c' := (18, [some (.ref 0), some (.int (v1)), some (.int (v2))], [.long (((gm_od_weight σ) v2.toNatClampNeg)), .int (v1)], hM σ)) rfl c2 ?_
    refine ev_bi 2 (lg_cmp_gt ((gm_od_weight σ) v2.toNatClampNeg) (0 : Int64)) (a := 23) (b := 27) (ls := [some (.ref 0), some (.int (v1)), some (.int (v2))]) (st := [.int (v1)]) (h := hM σ) rfl (fun c3 => ?_) (fun c3 => ?_)
    · rw [if_pos c3] at hf
      refine ev_go (c' := (28, [some (.ref 0), some (.int (v1)), some (.int (v2))], [.int ((1 : Int32)), .int (v1)], hM σ)) 1 rfl ?_
      exact ev_dr (a := [some (.ref 0), none, some (.int (v2))]) ⟨rfl, ⟨rfl, trivial⟩⟩ (tX12_above_b28 d σ k4 hk4 v2 (1 : Int32) v1 _ hf)
    · rw [if_neg c3] at hf
      refine ev_go (c' := (28, [some (.ref 0), some (.int (v1)), some (.int (v2))], [.int ((0 : Int32)), .int (v1)], hM σ)) 0 rfl ?_
      exact ev_dr (a := [some (.ref 0), none, some (.int (v2))]) ⟨rfl, ⟨rfl, trivial⟩⟩ (tX12_above_b28 d σ k4 hk4 v2 (0 : Int32) v1 _ hf)
  · rw [if_neg c1] at hf
    cases hf
    exact ev_rt 1 rfl
theorem tX12_above_l4 (d : Nat) (σ : SM) : ∀ (n : Nat) (v1 : Int32) (v2 : Int32) (q : Int32), fX12_above_l4 σ n v1 v2 = some q → ev_X d (some .int) eiX12_above (4, [some (.ref 0), some (.int (v1)), some (.int (v2))], [], hM σ) (some (.int q), hM σ)
  | 0, _, _, _, hf => by cases hf
  | n + 1, v1, v2, q, hf => tX12_above_b4 d σ (fX12_above_l4 σ n) (fun v1 v2 q h9 => tX12_above_l4 d σ n v1 v2 q h9) v1 v2 q hf
set_option maxRecDepth 20000 in
set_option maxHeartbeats 4000000 in
theorem tX12_above (d : Nat) (σ : SM) (q : Int32) (hf : fX12_above σ = some q) : ev_M ev_mt (d + 1) 143 [.ref 0] (hM σ) (some (.int q), hM σ) := by
  refine ev_en (rt := (some .int)) (I := eiX12_above) rfl (Nat.le_of_ble_eq_true rfl) ?_
  change ev_X d _ _ (0, [some (.ref 0), none, none], [], hM σ) _
  unfold fX12_above at hf
  refine ev_go (c' := (4, [some (.ref 0), some (.int ((0 : Int32))), some (.int ((0 : Int32)))], [], hM σ)) 3 rfl ?_
  exact ev_dr (a := [some (.ref 0), some (.int ((0 : Int32))), some (.int ((0 : Int32)))]) ⟨rfl, ⟨rfl, ⟨rfl, trivial⟩⟩⟩ (tX12_above_l4 d σ 1000 (0 : Int32) (0 : Int32) _ hf)
set_option maxRecDepth 20000 in
set_option maxHeartbeats 4000000 in
theorem tX12_take_b38 (d : Nat) (k38 : SM → Int64 → Int32 → Option (Int32 × SM)) (hk38 : ∀ (σ : SM) (v1 : Int64) (v3 : Int32) (q : Int32 × SM), k38 σ v1 v3 = some q → ev_X (d + 1) (some .int) eiX12_take (38, [some (.ref 0), some (.long (v1)), none, some (.int (v3))], [], hM σ) (some (.int q.1), hM q.2)) (σ : SM) (v1 : Int64) (v3 : Int32) (q : Int32 × SM) (hf : fX12_take_b38 k38 σ v1 v3 = some q) : ev_X (d + 1) (some .int) eiX12_take (38, [some (.ref 0), some (.long (v1)), none, some (.int (v3))], [], hM σ) (some (.int q.1), hM q.2) := by
  unfold fX12_take_b38 at hf
  refine ev_br 2 (P := v3 < (144 : Int32)) (a := 45) (b := 65) (ls := [some (.ref 0), some (.long (v1)), none, some (.int (v3))]) (st := []) (h := hM σ) rfl (fun c1 => ?_) (fun c1 => ?_)
  · rw [if_pos c1] at hf
    obtain ⟨c2, hf⟩ := ev_hp hf
    refine ev_ck 6 (P := ¬ (v3 < 0 ∨ 144 ≤ v3.toNatClampNeg)) (c' := (56, [some (.ref 0), some (.long (v1)), none, some (.int (v3))], [.long (((gm_od_then σ) v3.toNatClampNeg)), .int (v3), .ref 2], hM σ)) rfl c2 ?_
    obtain ⟨c3, hf⟩ := ev_hp hf
    refine ev_ck 1 (P := ¬ v1 = 0) (c' := (58, [some (.ref 0), some (.long (v1)), none, some (.int (v3))], [.long ((((gm_od_then σ) v3.toNatClampNeg) / v1)), .int (v3), .ref 2], hM σ)) rfl c3 ?_
    obtain ⟨c4, hf⟩ := ev_hp hf
    refine ev_ck 0 (P := ¬ (v3 < 0 ∨ 144 ≤ v3.toNatClampNeg)) (c' := (59, [some (.ref 0), some (.long (v1)), none, some (.int (v3))], [], hM (sm_od_weight σ (vp_updL (gm_od_weight σ) v3.toNatClampNeg (((gm_od_then σ) v3.toNatClampNeg) / v1))))) rfl c4 ?_
    refine ev_go (c' := (38, [some (.ref 0), some (.long (v1)), none, some (.int ((v3 + (1 : Int32))))], [], hM (sm_od_weight σ (vp_updL (gm_od_weight σ) v3.toNatClampNeg (((gm_od_then σ) v3.toNatClampNeg) / v1))))) 1 rfl ?_
    exact ev_dr (a := [some (.ref 0), some (.long (v1)), none, some (.int ((v3 + (1 : Int32))))]) ⟨rfl, ⟨rfl, ⟨rfl, trivial⟩⟩⟩ (hk38 (sm_od_weight σ (vp_updL (gm_od_weight σ) v3.toNatClampNeg (((gm_od_then σ) v3.toNatClampNeg) / v1))) v1 (v3 + (1 : Int32)) _ hf)
  · rw [if_neg c1] at hf
    refine ev_go (c' := (75, [some (.ref 0), some (.long (v1)), none, some (.int (v3))], [], hM (sm_od_updates σ ((gm_od_updates σ) + (1 : Int32))))) 5 rfl ?_
    obtain ⟨r1, hr1, hf⟩ := Option.bind_eq_some_iff.mp hf
    refine ev_cli 1 (kk := 143) (as := [.ref 0]) (rest := []) (pc := 76) (ls := [some (.ref 0), some (.long (v1)), none, some (.int (v3))]) (st := [.ref 0]) (h := hM (sm_od_updates σ ((gm_od_updates σ) + (1 : Int32)))) rfl (tX12_above d (sm_od_updates σ ((gm_od_updates σ) + (1 : Int32))) r1 hr1) ?_
    cases hf
    exact ev_rt 0 rfl
theorem tX12_take_l38 (d : Nat) : ∀ (n : Nat) (σ : SM) (v1 : Int64) (v3 : Int32) (q : Int32 × SM), fX12_take_l38 n σ v1 v3 = some q → ev_X (d + 1) (some .int) eiX12_take (38, [some (.ref 0), some (.long (v1)), none, some (.int (v3))], [], hM σ) (some (.int q.1), hM q.2)
  | 0, _, _, _, _, hf => by cases hf
  | n + 1, σ, v1, v3, q, hf => tX12_take_b38 d (fX12_take_l38 n) (fun σ v1 v3 q h9 => tX12_take_l38 d n σ v1 v3 q h9) σ v1 v3 q hf
set_option maxRecDepth 20000 in
set_option maxHeartbeats 4000000 in
theorem tX12_take_b4 (d : Nat) (k4 : SM → Int64 → Int32 → Option (Int32 × SM)) (hk4 : ∀ (σ : SM) (v1 : Int64) (v3 : Int32) (q : Int32 × SM), k4 σ v1 v3 = some q → ev_X (d + 1) (some .int) eiX12_take (4, [some (.ref 0), some (.long (v1)), none, some (.int (v3))], [], hM σ) (some (.int q.1), hM q.2)) (σ : SM) (v1 : Int64) (v3 : Int32) (q : Int32 × SM) (hf : fX12_take_b4 k4 σ v1 v3 = some q) : ev_X (d + 1) (some .int) eiX12_take (4, [some (.ref 0), some (.long (v1)), none, some (.int (v3))], [], hM σ) (some (.int q.1), hM q.2) := by
  unfold fX12_take_b4 at hf
  refine ev_br 2 (P := v3 < (144 : Int32)) (a := 11) (b := 28) (ls := [some (.ref 0), some (.long (v1)), none, some (.int (v3))]) (st := []) (h := hM σ) rfl (fun c1 => ?_) (fun c1 => ?_)
  · rw [if_pos c1] at hf
    obtain ⟨c2, hf⟩ := ev_hp hf
    refine ev_ck 4 (P := ¬ (v3 < 0 ∨ 144 ≤ v3.toNatClampNeg)) (c' := (18, [some (.ref 0), some (.long (v1)), none, some (.int (v3))], [.long (((gm_od_then σ) v3.toNatClampNeg)), .long (v1)], hM σ)) rfl c2 ?_
    obtain ⟨r2, hr2, hf⟩ := Option.bind_eq_some_iff.mp hf
    refine ev_cll 0 (kk := 125) (as := [.long (v1), .long (((gm_od_then σ) v3.toNatClampNeg))]) (rest := []) (pc := 18) (ls := [some (.ref 0), some (.long (v1)), none, some (.int (v3))]) (st := [.long (((gm_od_then σ) v3.toNatClampNeg)), .long (v1)]) (h := hM σ) rfl (tX12_divisor d (hM σ) v1 ((gm_od_then σ) v3.toNatClampNeg) r2 hr2) ?_
    refine ev_go (c' := (4, [some (.ref 0), some (.long (r2)), none, some (.int ((v3 + (1 : Int32))))], [], hM σ)) 2 rfl ?_
    exact ev_dr (a := [some (.ref 0), some (.long (r2)), none, some (.int ((v3 + (1 : Int32))))]) ⟨rfl, ⟨rfl, ⟨rfl, trivial⟩⟩⟩ (hk4 σ r2 (v3 + (1 : Int32)) _ hf)
  · rw [if_neg c1] at hf
    refine ev_bi 3 (lg_cmp_eq v1 (0 : Int64)) (a := 34) (b := 36) (ls := [some (.ref 0), some (.long (v1)), none, some (.int (v3))]) (st := []) (h := hM σ) rfl (fun c3 => ?_) (fun c3 => ?_)
    · rw [if_pos c3] at hf
      cases hf
      exact ev_rt 1 rfl
    · rw [if_neg c3] at hf
      refine ev_go (c' := (38, [some (.ref 0), some (.long (v1)), none, some (.int ((0 : Int32)))], [], hM σ)) 1 rfl ?_
      exact ev_dr (a := [some (.ref 0), some (.long (v1)), none, some (.int ((0 : Int32)))]) ⟨rfl, ⟨rfl, ⟨rfl, trivial⟩⟩⟩ (tX12_take_l38 d 1000 σ v1 (0 : Int32) _ hf)
theorem tX12_take_l4 (d : Nat) : ∀ (n : Nat) (σ : SM) (v1 : Int64) (v3 : Int32) (q : Int32 × SM), fX12_take_l4 n σ v1 v3 = some q → ev_X (d + 1) (some .int) eiX12_take (4, [some (.ref 0), some (.long (v1)), none, some (.int (v3))], [], hM σ) (some (.int q.1), hM q.2)
  | 0, _, _, _, _, hf => by cases hf
  | n + 1, σ, v1, v3, q, hf => tX12_take_b4 d (fX12_take_l4 n) (fun σ v1 v3 q h9 => tX12_take_l4 d n σ v1 v3 q h9) σ v1 v3 q hf
set_option maxRecDepth 20000 in
set_option maxHeartbeats 4000000 in
theorem tX12_take (d : Nat) (σ : SM) (q : Int32 × SM) (hf : fX12_take σ = some q) : ev_M ev_mt (d + 2) 144 [.ref 0] (hM σ) (some (.int q.1), hM q.2) := by
  refine ev_en (rt := (some .int)) (I := eiX12_take) rfl (Nat.le_of_ble_eq_true rfl) ?_
  change ev_X (d + 1) _ _ (0, [some (.ref 0), none, none, none], [], hM σ) _
  unfold fX12_take at hf
  refine ev_go (c' := (4, [some (.ref 0), some (.long ((0 : Int64))), none, some (.int ((0 : Int32)))], [], hM σ)) 3 rfl ?_
  exact ev_dr (a := [some (.ref 0), some (.long ((0 : Int64))), none, some (.int ((0 : Int32)))]) ⟨rfl, ⟨rfl, ⟨rfl, trivial⟩⟩⟩ (tX12_take_l4 d 1000 σ (0 : Int64) (0 : Int32) _ hf)
set_option maxRecDepth 20000 in
set_option maxHeartbeats 4000000 in
theorem tX12_turned_b40 (d : Nat) (k40 : SM → Int32 → Int32 → Option (Int32 × SM)) (hk40 : ∀ (σ : SM) (v1 : Int32) (v2 : Int32) (q : Int32 × SM), k40 σ v1 v2 = some q → ev_X (d + 2) (some .int) eiX12_turned (40, [some (.ref 0), some (.int (v1)), some (.int (v2)), none, none], [], hM σ) (some (.int q.1), hM q.2)) (σ : SM) (v1 : Int32) (v2 : Int32) (q : Int32 × SM) (hf : fX12_turned_b40 k40 σ v1 v2 = some q) : ev_X (d + 2) (some .int) eiX12_turned (40, [some (.ref 0), some (.int (v1)), some (.int (v2)), none, none], [], hM σ) (some (.int q.1), hM q.2) := by
  unfold fX12_turned_b40 at hf
  refine ev_br 2 (P := v2 < (144 : Int32)) (a := 47) (b := 137) (ls := [some (.ref 0), some (.int (v1)), some (.int (v2)), none, none]) (st := []) (h := hM σ) rfl (fun c1 => ?_) (fun c1 => ?_)
  · rw [if_pos c1] at hf
    obtain ⟨c2, hf⟩ := ev_hp hf
    refine ev_ck 14 (P := ¬ (v2 < 0 ∨ 144 ≤ v2.toNatClampNeg)) (c' := (65, [some (.ref 0), some (.int (v1)), some (.int (v2)), some (.int (((v2 / (4 : Int32)) * (4 : Int32)))), some (.int ((v2 - v2 / (4 : Int32) * (4 : Int32))))], [.long (((gm_od_then σ) v2.toNatClampNeg)), .int (v2), .ref 3], hM σ)) rfl c2 ?_
    obtain ⟨c3, hf⟩ := ev_hp hf
    refine ev_ck 9 (P := ¬ (v2 < 0 ∨ 144 ≤ v2.toNatClampNeg)) (c' := (78, [some (.ref 0), some (.int (v1)), some (.int (v2)), some (.int (((v2 / (4 : Int32)) * (4 : Int32)))), some (.int ((v2 - v2 / (4 : Int32) * (4 : Int32))))], [.long (((gm_od_weight σ) v2.toNatClampNeg)), .long (((10 : Int32) - ((2 : Int32) * v1)).toInt64), .long (((gm_od_then σ) v2.toNatClampNeg)), .int (v2), .ref 3], hM σ)) rfl c3 ?_
    obtain ⟨c4, hf⟩ := ev_hp hf
    refine ev_ck 2 (P := ¬ (v2 < 0 ∨ 144 ≤ v2.toNatClampNeg)) (c' := (81, [some (.ref 0), some (.int (v1)), some (.int (v2)), some (.int (((v2 / (4 : Int32)) * (4 : Int32)))), some (.int ((v2 - v2 / (4 : Int32) * (4 : Int32))))], [], hM (sm_od_then σ (vp_updL (gm_od_then σ) v2.toNatClampNeg (((gm_od_then σ) v2.toNatClampNeg) + (((10 : Int32) - ((2 : Int32) * v1)).toInt64 * ((gm_od_weight σ) v2.toNatClampNeg))))))) rfl c4 ?_
    obtain ⟨c5, hf⟩ := ev_hp hf
    refine ev_ck 10 (P := ¬ ((((v2 / (4 : Int32)) * (4 : Int32)) + (((v2 - v2 / (4 : Int32) * (4 : Int32)) + (1 : Int32)) - ((v2 - v2 / (4 : Int32) * (4 : Int32)) + (1 : Int32)) / (4 : Int32) * (4 : Int32))) < 0 ∨ 144 ≤ (((v2 / (4 : Int32)) * (4 : Int32)) + (((v2 - v2 / (4 : Int32) * (4 : Int32)) + (1 : Int32)) - ((v2 - v2 / (4 : Int32) * (4 : Int32)) + (1 : Int32)) / (4 : Int32) * (4 : Int32))).toNatClampNeg)) (c' := (95, [some (.ref 0), some (.int (v1)), some (.int (v2)), some (.int (((v2 / (4 : Int32)) * (4 : Int32)))), some (.int ((v2 - v2 / (4 : Int32) * (4 : Int32))))], [.long (((vp_updL (gm_od_then σ) v2.toNatClampNeg (((gm_od_then σ) v2.toNatClampNeg) + (((10 : Int32) - ((2 : Int32) * v1)).toInt64 * ((gm_od_weight σ) v2.toNatClampNeg)))) (((v2 / (4 : Int32)) * (4 : Int32)) + (((v2 - v2 / (4 : Int32) * (4 : Int32)) + (1 : Int32)) - ((v2 - v2 / (4 : Int32) * (4 : Int32)) + (1 : Int32)) / (4 : Int32) * (4 : Int32))).toNatClampNeg)), .int ((((v2 / (4 : Int32)) * (4 : Int32)) + (((v2 - v2 / (4 : Int32) * (4 : Int32)) + (1 : Int32)) - ((v2 - v2 / (4 : Int32) * (4 : Int32)) + (1 : Int32)) / (4 : Int32) * (4 : Int32)))), .ref 3], hM (sm_od_then σ (vp_updL (gm_od_then σ) v2.toNatClampNeg (((gm_od_then σ) v2.toNatClampNeg) + (((10 : Int32) - ((2 : Int32) * v1)).toInt64 * ((gm_od_weight σ) v2.toNatClampNeg))))))) rfl c5 ?_
    obtain ⟨c6, hf⟩ := ev_hp hf
    refine ev_ck 5 (P := ¬ (v2 < 0 ∨ 144 ≤ v2.toNatClampNeg)) (c' := (103, [some (.ref 0), some (.int (v1)), some (.int (v2)), some (.int (((v2 / (4 : Int32)) * (4 : Int32)))), some (.int ((v2 - v2 / (4 : Int32) * (4 : Int32))))], [.long (((gm_od_weight σ) v2.toNatClampNeg)), .long (v1.toInt64), .long (((vp_updL (gm_od_then σ) v2.toNatClampNeg (((gm_od_then σ) v2.toNatClampNeg) + (((10 : Int32) - ((2 : Int32) * v1)).toInt64 * ((gm_od_weight σ) v2.toNatClampNeg)))) (((v2 / (4 : Int32)) * (4 : Int32)) + (((v2 - v2 / (4 : Int32) * (4 : Int32)) + (1 : Int32)) - ((v2 - v2 / (4 : Int32) * (4 : Int32)) + (1 : Int32)) / (4 : Int32) * (4 : Int32))).toNatClampNeg)), .int ((((v2 / (4 : Int32)) * (4 : Int32)) + (((v2 - v2 / (4 : Int32) * (4 : Int32)) + (1 : Int32)) - ((v2 - v2 / (4 : Int32) * (4 : Int32)) + (1 : Int32)) / (4 : Int32) * (4 : Int32)))), .ref 3], hM (sm_od_then σ (vp_updL (gm_od_then σ) v2.toNatClampNeg (((gm_od_then σ) v2.toNatClampNeg) + (((10 : Int32) - ((2 : Int32) * v1)).toInt64 * ((gm_od_weight σ) v2.toNatClampNeg))))))) rfl c6 ?_
    obtain ⟨c7, hf⟩ := ev_hp hf
    refine ev_ck 2 (P := ¬ ((((v2 / (4 : Int32)) * (4 : Int32)) + (((v2 - v2 / (4 : Int32) * (4 : Int32)) + (1 : Int32)) - ((v2 - v2 / (4 : Int32) * (4 : Int32)) + (1 : Int32)) / (4 : Int32) * (4 : Int32))) < 0 ∨ 144 ≤ (((v2 / (4 : Int32)) * (4 : Int32)) + (((v2 - v2 / (4 : Int32) * (4 : Int32)) + (1 : Int32)) - ((v2 - v2 / (4 : Int32) * (4 : Int32)) + (1 : Int32)) / (4 : Int32) * (4 : Int32))).toNatClampNeg)) (c' := (106, [some (.ref 0), some (.int (v1)), some (.int (v2)), some (.int (((v2 / (4 : Int32)) * (4 : Int32)))), some (.int ((v2 - v2 / (4 : Int32) * (4 : Int32))))], [], hM (sm_od_then σ (vp_updL (vp_updL (gm_od_then σ) v2.toNatClampNeg (((gm_od_then σ) v2.toNatClampNeg) + (((10 : Int32) - ((2 : Int32) * v1)).toInt64 * ((gm_od_weight σ) v2.toNatClampNeg)))) (((v2 / (4 : Int32)) * (4 : Int32)) + (((v2 - v2 / (4 : Int32) * (4 : Int32)) + (1 : Int32)) - ((v2 - v2 / (4 : Int32) * (4 : Int32)) + (1 : Int32)) / (4 : Int32) * (4 : Int32))).toNatClampNeg (((vp_updL (gm_od_then σ) v2.toNatClampNeg (((gm_od_then σ) v2.toNatClampNeg) + (((10 : Int32) - ((2 : Int32) * v1)).toInt64 * ((gm_od_weight σ) v2.toNatClampNeg)))) (((v2 / (4 : Int32)) * (4 : Int32)) + (((v2 - v2 / (4 : Int32) * (4 : Int32)) + (1 : Int32)) - ((v2 - v2 / (4 : Int32) * (4 : Int32)) + (1 : Int32)) / (4 : Int32) * (4 : Int32))).toNatClampNeg) + (v1.toInt64 * ((gm_od_weight σ) v2.toNatClampNeg))))))) rfl c7 ?_
    obtain ⟨c8, hf⟩ := ev_hp hf
    refine ev_ck 10 (P := ¬ ((((v2 / (4 : Int32)) * (4 : Int32)) + (((v2 - v2 / (4 : Int32) * (4 : Int32)) + (3 : Int32)) - ((v2 - v2 / (4 : Int32) * (4 : Int32)) + (3 : Int32)) / (4 : Int32) * (4 : Int32))) < 0 ∨ 144 ≤ (((v2 / (4 : Int32)) * (4 : Int32)) + (((v2 - v2 / (4 : Int32) * (4 : Int32)) + (3 : Int32)) - ((v2 - v2 / (4 : Int32) * (4 : Int32)) + (3 : Int32)) / (4 : Int32) * (4 : Int32))).toNatClampNeg)) (c' := (120, [some (.ref 0), some (.int (v1)), some (.int (v2)), some (.int (((v2 / (4 : Int32)) * (4 : Int32)))), some (.int ((v2 - v2 / (4 : Int32) * (4 : Int32))))], [.long (((vp_updL (vp_updL (gm_od_then σ) v2.toNatClampNeg (((gm_od_then σ) v2.toNatClampNeg) + (((10 : Int32) - ((2 : Int32) * v1)).toInt64 * ((gm_od_weight σ) v2.toNatClampNeg)))) (((v2 / (4 : Int32)) * (4 : Int32)) + (((v2 - v2 / (4 : Int32) * (4 : Int32)) + (1 : Int32)) - ((v2 - v2 / (4 : Int32) * (4 : Int32)) + (1 : Int32)) / (4 : Int32) * (4 : Int32))).toNatClampNeg (((vp_updL (gm_od_then σ) v2.toNatClampNeg (((gm_od_then σ) v2.toNatClampNeg) + (((10 : Int32) - ((2 : Int32) * v1)).toInt64 * ((gm_od_weight σ) v2.toNatClampNeg)))) (((v2 / (4 : Int32)) * (4 : Int32)) + (((v2 - v2 / (4 : Int32) * (4 : Int32)) + (1 : Int32)) - ((v2 - v2 / (4 : Int32) * (4 : Int32)) + (1 : Int32)) / (4 : Int32) * (4 : Int32))).toNatClampNeg) + (v1.toInt64 * ((gm_od_weight σ) v2.toNatClampNeg)))) (((v2 / (4 : Int32)) * (4 : Int32)) + (((v2 - v2 / (4 : Int32) * (4 : Int32)) + (3 : Int32)) - ((v2 - v2 / (4 : Int32) * (4 : Int32)) + (3 : Int32)) / (4 : Int32) * (4 : Int32))).toNatClampNeg)), .int ((((v2 / (4 : Int32)) * (4 : Int32)) + (((v2 - v2 / (4 : Int32) * (4 : Int32)) + (3 : Int32)) - ((v2 - v2 / (4 : Int32) * (4 : Int32)) + (3 : Int32)) / (4 : Int32) * (4 : Int32)))), .ref 3], hM (sm_od_then σ (vp_updL (vp_updL (gm_od_then σ) v2.toNatClampNeg (((gm_od_then σ) v2.toNatClampNeg) + (((10 : Int32) - ((2 : Int32) * v1)).toInt64 * ((gm_od_weight σ) v2.toNatClampNeg)))) (((v2 / (4 : Int32)) * (4 : Int32)) + (((v2 - v2 / (4 : Int32) * (4 : Int32)) + (1 : Int32)) - ((v2 - v2 / (4 : Int32) * (4 : Int32)) + (1 : Int32)) / (4 : Int32) * (4 : Int32))).toNatClampNeg (((vp_updL (gm_od_then σ) v2.toNatClampNeg (((gm_od_then σ) v2.toNatClampNeg) + (((10 : Int32) - ((2 : Int32) * v1)).toInt64 * ((gm_od_weight σ) v2.toNatClampNeg)))) (((v2 / (4 : Int32)) * (4 : Int32)) + (((v2 - v2 / (4 : Int32) * (4 : Int32)) + (1 : Int32)) - ((v2 - v2 / (4 : Int32) * (4 : Int32)) + (1 : Int32)) / (4 : Int32) * (4 : Int32))).toNatClampNeg) + (v1.toInt64 * ((gm_od_weight σ) v2.toNatClampNeg))))))) rfl c8 ?_
    obtain ⟨c9, hf⟩ := ev_hp hf
    refine ev_ck 5 (P := ¬ (v2 < 0 ∨ 144 ≤ v2.toNatClampNeg)) (c' := (128, [some (.ref 0), some (.int (v1)), some (.int (v2)), some (.int (((v2 / (4 : Int32)) * (4 : Int32)))), some (.int ((v2 - v2 / (4 : Int32) * (4 : Int32))))], [.long (((gm_od_weight σ) v2.toNatClampNeg)), .long (v1.toInt64), .long (((vp_updL (vp_updL (gm_od_then σ) v2.toNatClampNeg (((gm_od_then σ) v2.toNatClampNeg) + (((10 : Int32) - ((2 : Int32) * v1)).toInt64 * ((gm_od_weight σ) v2.toNatClampNeg)))) (((v2 / (4 : Int32)) * (4 : Int32)) + (((v2 - v2 / (4 : Int32) * (4 : Int32)) + (1 : Int32)) - ((v2 - v2 / (4 : Int32) * (4 : Int32)) + (1 : Int32)) / (4 : Int32) * (4 : Int32))).toNatClampNeg (((vp_updL (gm_od_then σ) v2.toNatClampNeg (((gm_od_then σ) v2.toNatClampNeg) + (((10 : Int32) - ((2 : Int32) * v1)).toInt64 * ((gm_od_weight σ) v2.toNatClampNeg)))) (((v2 / (4 : Int32)) * (4 : Int32)) + (((v2 - v2 / (4 : Int32) * (4 : Int32)) + (1 : Int32)) - ((v2 - v2 / (4 : Int32) * (4 : Int32)) + (1 : Int32)) / (4 : Int32) * (4 : Int32))).toNatClampNeg) + (v1.toInt64 * ((gm_od_weight σ) v2.toNatClampNeg)))) (((v2 / (4 : Int32)) * (4 : Int32)) + (((v2 - v2 / (4 : Int32) * (4 : Int32)) + (3 : Int32)) - ((v2 - v2 / (4 : Int32) * (4 : Int32)) + (3 : Int32)) / (4 : Int32) * (4 : Int32))).toNatClampNeg)), .int ((((v2 / (4 : Int32)) * (4 : Int32)) + (((v2 - v2 / (4 : Int32) * (4 : Int32)) + (3 : Int32)) - ((v2 - v2 / (4 : Int32) * (4 : Int32)) + (3 : Int32)) / (4 : Int32) * (4 : Int32)))), .ref 3], hM (sm_od_then σ (vp_updL (vp_updL (gm_od_then σ) v2.toNatClampNeg (((gm_od_then σ) v2.toNatClampNeg) + (((10 : Int32) - ((2 : Int32) * v1)).toInt64 * ((gm_od_weight σ) v2.toNatClampNeg)))) (((v2 / (4 : Int32)) * (4 : Int32)) + (((v2 - v2 / (4 : Int32) * (4 : Int32)) + (1 : Int32)) - ((v2 - v2 / (4 : Int32) * (4 : Int32)) + (1 : Int32)) / (4 : Int32) * (4 : Int32))).toNatClampNeg (((vp_updL (gm_od_then σ) v2.toNatClampNeg (((gm_od_then σ) v2.toNatClampNeg) + (((10 : Int32) - ((2 : Int32) * v1)).toInt64 * ((gm_od_weight σ) v2.toNatClampNeg)))) (((v2 / (4 : Int32)) * (4 : Int32)) + (((v2 - v2 / (4 : Int32) * (4 : Int32)) + (1 : Int32)) - ((v2 - v2 / (4 : Int32) * (4 : Int32)) + (1 : Int32)) / (4 : Int32) * (4 : Int32))).toNatClampNeg) + (v1.toInt64 * ((gm_od_weight σ) v2.toNatClampNeg))))))) rfl c9 ?_
    obtain ⟨c10, hf⟩ := ev_hp hf
    refine ev_ck 2 (P := ¬ ((((v2 / (4 : Int32)) * (4 : Int32)) + (((v2 - v2 / (4 : Int32) * (4 : Int32)) + (3 : Int32)) - ((v2 - v2 / (4 : Int32) * (4 : Int32)) + (3 : Int32)) / (4 : Int32) * (4 : Int32))) < 0 ∨ 144 ≤ (((v2 / (4 : Int32)) * (4 : Int32)) + (((v2 - v2 / (4 : Int32) * (4 : Int32)) + (3 : Int32)) - ((v2 - v2 / (4 : Int32) * (4 : Int32)) + (3 : Int32)) / (4 : Int32) * (4 : Int32))).toNatClampNeg)) (c' := (131, [some (.ref 0), some (.int (v1)), some (.int (v2)), some (.int (((v2 / (4 : Int32)) * (4 : Int32)))), some (.int ((v2 - v2 / (4 : Int32) * (4 : Int32))))], [], hM (sm_od_then σ (vp_updL (vp_updL (vp_updL (gm_od_then σ) v2.toNatClampNeg (((gm_od_then σ) v2.toNatClampNeg) + (((10 : Int32) - ((2 : Int32) * v1)).toInt64 * ((gm_od_weight σ) v2.toNatClampNeg)))) (((v2 / (4 : Int32)) * (4 : Int32)) + (((v2 - v2 / (4 : Int32) * (4 : Int32)) + (1 : Int32)) - ((v2 - v2 / (4 : Int32) * (4 : Int32)) + (1 : Int32)) / (4 : Int32) * (4 : Int32))).toNatClampNeg (((vp_updL (gm_od_then σ) v2.toNatClampNeg (((gm_od_then σ) v2.toNatClampNeg) + (((10 : Int32) - ((2 : Int32) * v1)).toInt64 * ((gm_od_weight σ) v2.toNatClampNeg)))) (((v2 / (4 : Int32)) * (4 : Int32)) + (((v2 - v2 / (4 : Int32) * (4 : Int32)) + (1 : Int32)) - ((v2 - v2 / (4 : Int32) * (4 : Int32)) + (1 : Int32)) / (4 : Int32) * (4 : Int32))).toNatClampNeg) + (v1.toInt64 * ((gm_od_weight σ) v2.toNatClampNeg)))) (((v2 / (4 : Int32)) * (4 : Int32)) + (((v2 - v2 / (4 : Int32) * (4 : Int32)) + (3 : Int32)) - ((v2 - v2 / (4 : Int32) * (4 : Int32)) + (3 : Int32)) / (4 : Int32) * (4 : Int32))).toNatClampNeg (((vp_updL (vp_updL (gm_od_then σ) v2.toNatClampNeg (((gm_od_then σ) v2.toNatClampNeg) + (((10 : Int32) - ((2 : Int32) * v1)).toInt64 * ((gm_od_weight σ) v2.toNatClampNeg)))) (((v2 / (4 : Int32)) * (4 : Int32)) + (((v2 - v2 / (4 : Int32) * (4 : Int32)) + (1 : Int32)) - ((v2 - v2 / (4 : Int32) * (4 : Int32)) + (1 : Int32)) / (4 : Int32) * (4 : Int32))).toNatClampNeg (((vp_updL (gm_od_then σ) v2.toNatClampNeg (((gm_od_then σ) v2.toNatClampNeg) + (((10 : Int32) - ((2 : Int32) * v1)).toInt64 * ((gm_od_weight σ) v2.toNatClampNeg)))) (((v2 / (4 : Int32)) * (4 : Int32)) + (((v2 - v2 / (4 : Int32) * (4 : Int32)) + (1 : Int32)) - ((v2 - v2 / (4 : Int32) * (4 : Int32)) + (1 : Int32)) / (4 : Int32) * (4 : Int32))).toNatClampNeg) + (v1.toInt64 * ((gm_od_weight σ) v2.toNatClampNeg)))) (((v2 / (4 : Int32)) * (4 : Int32)) + (((v2 - v2 / (4 : Int32) * (4 : Int32)) + (3 : Int32)) - ((v2 - v2 / (4 : Int32) * (4 : Int32)) + (3 : Int32)) / (4 : Int32) * (4 : Int32))).toNatClampNeg) + (v1.toInt64 * ((gm_od_weight σ) v2.toNatClampNeg))))))) rfl c10 ?_
    refine ev_go (c' := (40, [some (.ref 0), some (.int (v1)), some (.int ((v2 + (1 : Int32)))), some (.int (((v2 / (4 : Int32)) * (4 : Int32)))), some (.int ((v2 - v2 / (4 : Int32) * (4 : Int32))))], [], hM (sm_od_then σ (vp_updL (vp_updL (vp_updL (gm_od_then σ) v2.toNatClampNeg (((gm_od_then σ) v2.toNatClampNeg) + (((10 : Int32) - ((2 : Int32) * v1)).toInt64 * ((gm_od_weight σ) v2.toNatClampNeg)))) (((v2 / (4 : Int32)) * (4 : Int32)) + (((v2 - v2 / (4 : Int32) * (4 : Int32)) + (1 : Int32)) - ((v2 - v2 / (4 : Int32) * (4 : Int32)) + (1 : Int32)) / (4 : Int32) * (4 : Int32))).toNatClampNeg (((vp_updL (gm_od_then σ) v2.toNatClampNeg (((gm_od_then σ) v2.toNatClampNeg) + (((10 : Int32) - ((2 : Int32) * v1)).toInt64 * ((gm_od_weight σ) v2.toNatClampNeg)))) (((v2 / (4 : Int32)) * (4 : Int32)) + (((v2 - v2 / (4 : Int32) * (4 : Int32)) + (1 : Int32)) - ((v2 - v2 / (4 : Int32) * (4 : Int32)) + (1 : Int32)) / (4 : Int32) * (4 : Int32))).toNatClampNeg) + (v1.toInt64 * ((gm_od_weight σ) v2.toNatClampNeg)))) (((v2 / (4 : Int32)) * (4 : Int32)) + (((v2 - v2 / (4 : Int32) * (4 : Int32)) + (3 : Int32)) - ((v2 - v2 / (4 : Int32) * (4 : Int32)) + (3 : Int32)) / (4 : Int32) * (4 : Int32))).toNatClampNeg (((vp_updL (vp_updL (gm_od_then σ) v2.toNatClampNeg (((gm_od_then σ) v2.toNatClampNeg) + (((10 : Int32) - ((2 : Int32) * v1)).toInt64 * ((gm_od_weight σ) v2.toNatClampNeg)))) (((v2 / (4 : Int32)) * (4 : Int32)) + (((v2 - v2 / (4 : Int32) * (4 : Int32)) + (1 : Int32)) - ((v2 - v2 / (4 : Int32) * (4 : Int32)) + (1 : Int32)) / (4 : Int32) * (4 : Int32))).toNatClampNeg (((vp_updL (gm_od_then σ) v2.toNatClampNeg (((gm_od_then σ) v2.toNatClampNeg) + (((10 : Int32) - ((2 : Int32) * v1)).toInt64 * ((gm_od_weight σ) v2.toNatClampNeg)))) (((v2 / (4 : Int32)) * (4 : Int32)) + (((v2 - v2 / (4 : Int32) * (4 : Int32)) + (1 : Int32)) - ((v2 - v2 / (4 : Int32) * (4 : Int32)) + (1 : Int32)) / (4 : Int32) * (4 : Int32))).toNatClampNeg) + (v1.toInt64 * ((gm_od_weight σ) v2.toNatClampNeg)))) (((v2 / (4 : Int32)) * (4 : Int32)) + (((v2 - v2 / (4 : Int32) * (4 : Int32)) + (3 : Int32)) - ((v2 - v2 / (4 : Int32) * (4 : Int32)) + (3 : Int32)) / (4 : Int32) * (4 : Int32))).toNatClampNeg) + (v1.toInt64 * ((gm_od_weight σ) v2.toNatClampNeg))))))) 1 rfl ?_
    exact ev_dr (a := [some (.ref 0), some (.int (v1)), some (.int ((v2 + (1 : Int32)))), none, none]) ⟨rfl, ⟨rfl, ⟨rfl, trivial⟩⟩⟩ (hk40 (sm_od_then σ (vp_updL (vp_updL (vp_updL (gm_od_then σ) v2.toNatClampNeg (((gm_od_then σ) v2.toNatClampNeg) + (((10 : Int32) - ((2 : Int32) * v1)).toInt64 * ((gm_od_weight σ) v2.toNatClampNeg)))) (((v2 / (4 : Int32)) * (4 : Int32)) + (((v2 - v2 / (4 : Int32) * (4 : Int32)) + (1 : Int32)) - ((v2 - v2 / (4 : Int32) * (4 : Int32)) + (1 : Int32)) / (4 : Int32) * (4 : Int32))).toNatClampNeg (((vp_updL (gm_od_then σ) v2.toNatClampNeg (((gm_od_then σ) v2.toNatClampNeg) + (((10 : Int32) - ((2 : Int32) * v1)).toInt64 * ((gm_od_weight σ) v2.toNatClampNeg)))) (((v2 / (4 : Int32)) * (4 : Int32)) + (((v2 - v2 / (4 : Int32) * (4 : Int32)) + (1 : Int32)) - ((v2 - v2 / (4 : Int32) * (4 : Int32)) + (1 : Int32)) / (4 : Int32) * (4 : Int32))).toNatClampNeg) + (v1.toInt64 * ((gm_od_weight σ) v2.toNatClampNeg)))) (((v2 / (4 : Int32)) * (4 : Int32)) + (((v2 - v2 / (4 : Int32) * (4 : Int32)) + (3 : Int32)) - ((v2 - v2 / (4 : Int32) * (4 : Int32)) + (3 : Int32)) / (4 : Int32) * (4 : Int32))).toNatClampNeg (((vp_updL (vp_updL (gm_od_then σ) v2.toNatClampNeg (((gm_od_then σ) v2.toNatClampNeg) + (((10 : Int32) - ((2 : Int32) * v1)).toInt64 * ((gm_od_weight σ) v2.toNatClampNeg)))) (((v2 / (4 : Int32)) * (4 : Int32)) + (((v2 - v2 / (4 : Int32) * (4 : Int32)) + (1 : Int32)) - ((v2 - v2 / (4 : Int32) * (4 : Int32)) + (1 : Int32)) / (4 : Int32) * (4 : Int32))).toNatClampNeg (((vp_updL (gm_od_then σ) v2.toNatClampNeg (((gm_od_then σ) v2.toNatClampNeg) + (((10 : Int32) - ((2 : Int32) * v1)).toInt64 * ((gm_od_weight σ) v2.toNatClampNeg)))) (((v2 / (4 : Int32)) * (4 : Int32)) + (((v2 - v2 / (4 : Int32) * (4 : Int32)) + (1 : Int32)) - ((v2 - v2 / (4 : Int32) * (4 : Int32)) + (1 : Int32)) / (4 : Int32) * (4 : Int32))).toNatClampNeg) + (v1.toInt64 * ((gm_od_weight σ) v2.toNatClampNeg)))) (((v2 / (4 : Int32)) * (4 : Int32)) + (((v2 - v2 / (4 : Int32) * (4 : Int32)) + (3 : Int32)) - ((v2 - v2 / (4 : Int32) * (4 : Int32)) + (3 : Int32)) / (4 : Int32) * (4 : Int32))).toNatClampNeg) + (v1.toInt64 * ((gm_od_weight σ) v2.toNatClampNeg))))) v1 (v2 + (1 : Int32)) _ hf)
  · rw [if_neg c1] at hf
    obtain ⟨r3, hr3, hf⟩ := Option.bind_eq_some_iff.mp hf
    refine ev_cli 1 (kk := 144) (as := [.ref 0]) (rest := []) (pc := 138) (ls := [some (.ref 0), some (.int (v1)), some (.int (v2)), none, none]) (st := [.ref 0]) (h := hM σ) rfl (tX12_take d σ r3 hr3) ?_
    cases hf
    exact ev_rt 0 rfl
theorem tX12_turned_l40 (d : Nat) : ∀ (n : Nat) (σ : SM) (v1 : Int32) (v2 : Int32) (q : Int32 × SM), fX12_turned_l40 n σ v1 v2 = some q → ev_X (d + 2) (some .int) eiX12_turned (40, [some (.ref 0), some (.int (v1)), some (.int (v2)), none, none], [], hM σ) (some (.int q.1), hM q.2)
  | 0, _, _, _, _, hf => by cases hf
  | n + 1, σ, v1, v2, q, hf => tX12_turned_b40 d (fX12_turned_l40 n) (fun σ v1 v2 q h9 => tX12_turned_l40 d n σ v1 v2 q h9) σ v1 v2 q hf
set_option maxRecDepth 20000 in
set_option maxHeartbeats 4000000 in
theorem tX12_turned (d : Nat) (σ : SM) (v1 : Int32) (q : Int32 × SM) (hf : fX12_turned σ v1 = some q) : ev_M ev_mt (d + 3) 145 [.ref 0, .int (v1)] (hM σ) (some (.int q.1), hM q.2) := by
  refine ev_en (rt := (some .int)) (I := eiX12_turned) rfl (Nat.le_of_ble_eq_true rfl) ?_
  change ev_X (d + 2) _ _ (0, [some (.ref 0), some (.int (v1)), none, none, none], [], hM σ) _
  unfold fX12_turned at hf
  refine ev_br 2 (P := (gm_rg_rings σ) = 0) (a := 7) (b := 10) (ls := [some (.ref 0), some (.int (v1)), none, none, none]) (st := []) (h := hM σ) rfl (fun c1 => ?_) (fun c1 => ?_)
  · rw [if_pos c1] at hf
    cases hf
    exact ev_rt 1 rfl
  · rw [if_neg c1] at hf
    obtain ⟨r1, hr1, hf⟩ := Option.bind_eq_some_iff.mp hf
    refine ev_cli 3 (kk := 123) (as := [.int (v1), .int ((0 : Int32)), .int ((5 : Int32))]) (rest := []) (pc := 13) (ls := [some (.ref 0), some (.int (v1)), none, none, none]) (st := [.int ((5 : Int32)), .int ((0 : Int32)), .int (v1)]) (h := hM σ) rfl (tX12_within (d + 1) (hM σ) v1 (0 : Int32) (5 : Int32) r1 hr1) ?_
    refine ev_br 0 (P := r1 = 0) (a := 19) (b := 22) (ls := [some (.ref 0), some (.int (v1)), none, none, none]) (st := []) (h := hM σ) rfl (fun c2 => ?_) (fun c2 => ?_)
    · rw [if_pos c2] at hf
      cases hf
      exact ev_rt 1 rfl
    · rw [if_neg c2] at hf
      refine ev_br 3 (P := (gm_od_updates σ) = (9 : Int32)) (a := 31) (b := 34) (ls := [some (.ref 0), some (.int (v1)), none, none, none]) (st := []) (h := hM σ) rfl (fun c3 => ?_) (fun c3 => ?_)
      · rw [if_pos c3] at hf
        cases hf
        exact ev_rt 1 rfl
      · rw [if_neg c3] at hf
        obtain ⟨r2, hr2, hf⟩ := Option.bind_eq_some_iff.mp hf
        refine ev_clv 1 (kk := 139) (as := [.ref 0]) (rest := []) (pc := 35) (ls := [some (.ref 0), some (.int (v1)), none, none, none]) (st := [.ref 0]) (h := hM σ) rfl (tX12_clear (d + 1) σ r2 hr2) ?_
        refine ev_go (c' := (40, [some (.ref 0), some (.int (v1)), some (.int ((0 : Int32))), none, none], [], hM r2)) 1 rfl ?_
        exact ev_dr (a := [some (.ref 0), some (.int (v1)), some (.int ((0 : Int32))), none, none]) ⟨rfl, ⟨rfl, ⟨rfl, trivial⟩⟩⟩ (tX12_turned_l40 d 1000 r2 v1 (0 : Int32) _ hf)
set_option maxRecDepth 20000 in
set_option maxHeartbeats 4000000 in
theorem tX12_sortAt_b23 (d : Nat) (σ : SM) (w0 : Int32) (q : Int32) (hf : fX12_sortAt_b23 σ w0 = some q) : ev_X d (some .int) eiX12_sortAt (23, [none, none], [.int (w0)], hM σ) (some (.int q), hM σ) := by
  unfold fX12_sortAt_b23 at hf
  cases hf
  exact ev_rt 0 rfl
set_option maxRecDepth 20000 in
set_option maxHeartbeats 4000000 in
theorem tX12_sortAt_b13 (d : Nat) (σ : SM) (q : Int32) (hf : fX12_sortAt_b13 σ = some q) : ev_X d (some .int) eiX12_sortAt (13, [none, none], [], hM σ) (some (.int q), hM σ) := by
  unfold fX12_sortAt_b13 at hf
  refine ev_go (c' := (23, [none, none], [.int ((3 : Int32))], hM σ)) 1 rfl ?_
  exact ev_dr (a := [none, none]) trivial (tX12_sortAt_b23 d σ (3 : Int32) _ hf)
set_option maxRecDepth 20000 in
set_option maxHeartbeats 4000000 in
theorem tX12_sortAt (d : Nat) (σ : SM) (v1 : Int32) (q : Int32) (hf : fX12_sortAt σ v1 = some q) : ev_M ev_mt (d + 1) 146 [.ref 0, .int (v1)] (hM σ) (some (.int q), hM σ) := by
  refine ev_en (rt := (some .int)) (I := eiX12_sortAt) rfl (Nat.le_of_ble_eq_true rfl) ?_
  change ev_X d _ _ (0, [some (.ref 0), some (.int (v1))], [], hM σ) _
  unfold fX12_sortAt at hf
  refine ev_br 2 (P := v1 = (-1 : Int32)) (a := 13) (b := 5) (ls := [some (.ref 0), some (.int (v1))]) (st := []) (h := hM σ) rfl (fun c1 => ?_) (fun c1 => ?_)
  · rw [if_pos c1] at hf
    exact ev_dr (a := [none, none]) trivial (tX12_sortAt_b13 d σ  _ hf)
  · rw [if_neg c1] at hf
    refine ev_br 3 (P := v1 = (gm_rp_gonePost σ)) (a := 13) (b := 17) (ls := [some (.ref 0), some (.int (v1))]) (st := []) (h := hM σ) rfl (fun c2 => ?_) (fun c2 => ?_)
    · rw [if_pos c2] at hf
      exact ev_dr (a := [none, none]) trivial (tX12_sortAt_b13 d σ  _ hf)
    · rw [if_neg c2] at hf
      obtain ⟨c3, hf⟩ := ev_hp hf
      refine ev_ck 3 (P := ¬ (v1 < 0 ∨ 36 ≤ v1.toNatClampNeg)) (c' := (23, [some (.ref 0), some (.int (v1))], [.int (((gm_rg_cellOf σ) v1.toNatClampNeg))], hM σ)) rfl c3 ?_
      exact ev_dr (a := [none, none]) trivial (tX12_sortAt_b23 d σ ((gm_rg_cellOf σ) v1.toNatClampNeg) _ hf)
set_option maxRecDepth 20000 in
set_option maxHeartbeats 4000000 in
theorem tX12_feltOf_b27 (d : Nat) (h : ev_H) (w0 : Int32) (q : Int32) (hf : fX12_feltOf_b27 w0 = some q) : ev_X d (some .int) eiX12_feltOf (27, [none], [.int (w0)], h) (some (.int q), h) := by
  unfold fX12_feltOf_b27 at hf
  cases hf
  exact ev_rt 0 rfl
set_option maxRecDepth 20000 in
set_option maxHeartbeats 4000000 in
theorem tX12_feltOf (d : Nat) (h : ev_H) (v0 : Int32) (q : Int32) (hf : fX12_feltOf v0 = some q) : ev_M ev_mt (d + 1) 147 [.int (v0)] (h) (some (.int q), h) := by
  refine ev_en (rt := (some .int)) (I := eiX12_feltOf) rfl (Nat.le_of_ble_eq_true rfl) ?_
  change ev_X d _ _ (0, [some (.int (v0))], [], h) _
  unfold fX12_feltOf at hf
  refine ev_br 1 (P := v0 = 0) (a := 4) (b := 8) (ls := [some (.int (v0))]) (st := []) (h := h) rfl (fun c1 => ?_) (fun c1 => ?_)
  · rw [if_pos c1] at hf
    refine ev_go (c' := (27, [some (.int (v0))], [.int ((0 : Int32))], h)) 1 rfl ?_
    exact ev_dr (a := [none]) trivial (tX12_feltOf_b27 d h (0 : Int32) _ hf)
  · rw [if_neg c1] at hf
    refine ev_br 2 (P := v0 = (3 : Int32)) (a := 13) (b := 17) (ls := [some (.int (v0))]) (st := []) (h := h) rfl (fun c2 => ?_) (fun c2 => ?_)
    · rw [if_pos c2] at hf
      refine ev_go (c' := (27, [some (.int (v0))], [.int ((1 : Int32))], h)) 1 rfl ?_
      exact ev_dr (a := [none]) trivial (tX12_feltOf_b27 d h (1 : Int32) _ hf)
    · rw [if_neg c2] at hf
      refine ev_br 2 (P := v0 = (2 : Int32)) (a := 22) (b := 26) (ls := [some (.int (v0))]) (st := []) (h := h) rfl (fun c3 => ?_) (fun c3 => ?_)
      · rw [if_pos c3] at hf
        refine ev_go (c' := (27, [some (.int (v0))], [.int ((2 : Int32))], h)) 1 rfl ?_
        exact ev_dr (a := [none]) trivial (tX12_feltOf_b27 d h (2 : Int32) _ hf)
      · rw [if_neg c3] at hf
        refine ev_go (c' := (27, [some (.int (v0))], [.int ((3 : Int32))], h)) 0 rfl ?_
        exact ev_dr (a := [none]) trivial (tX12_feltOf_b27 d h (3 : Int32) _ hf)
set_option maxRecDepth 20000 in
set_option maxHeartbeats 4000000 in
theorem tX12_stepOne_b67 (d : Nat) (σ : SM) (q : SM) (hf : fX12_stepOne_b67 σ = some q) : ev_X (d + 2) none eiX12_stepOne (67, [none, none, none, none, none, none, none, none], [], hM σ) (none, hM q) := by
  unfold fX12_stepOne_b67 at hf
  cases hf
  exact ev_rt 0 rfl
set_option maxRecDepth 20000 in
set_option maxHeartbeats 4000000 in
theorem tX12_stepOne_b42 (d : Nat) (σ : SM) (v1 : Int32) (v2 : Int32) (v3 : Int32) (w0 : Int32) (q : SM) (hf : fX12_stepOne_b42 σ v1 v2 v3 w0 = some q) : ev_X (d + 2) none eiX12_stepOne (42, [some (.ref 0), some (.int (v1)), some (.int (v2)), some (.int (v3)), none, none, none, none], [.int (w0)], hM σ) (none, hM q) := by
  unfold fX12_stepOne_b42 at hf
  obtain ⟨c1, hf⟩ := ev_hp hf
  refine ev_ck 9 (P := ¬ ((((4 : Int32) * w0) + v2) < 0 ∨ 144 ≤ (((4 : Int32) * w0) + v2).toNatClampNeg)) (c' := (56, [some (.ref 0), some (.int (v1)), some (.int (v2)), some (.int (v3)), none, none, none, some (.int (w0))], [.long (((gm_od_then σ) (((4 : Int32) * w0) + v2).toNatClampNeg)), .int ((((4 : Int32) * w0) + v2)), .ref 3], hM σ)) rfl c1 ?_
  obtain ⟨c2, hf⟩ := ev_hp hf
  refine ev_ck 5 (P := ¬ (v1 < 0 ∨ 144 ≤ v1.toNatClampNeg)) (c' := (64, [some (.ref 0), some (.int (v1)), some (.int (v2)), some (.int (v3)), none, none, none, some (.int (w0))], [.long (((gm_od_weight σ) v1.toNatClampNeg)), .long (v3.toInt64), .long (((gm_od_then σ) (((4 : Int32) * w0) + v2).toNatClampNeg)), .int ((((4 : Int32) * w0) + v2)), .ref 3], hM σ)) rfl c2 ?_
  obtain ⟨c3, hf⟩ := ev_hp hf
  refine ev_ck 2 (P := ¬ ((((4 : Int32) * w0) + v2) < 0 ∨ 144 ≤ (((4 : Int32) * w0) + v2).toNatClampNeg)) (c' := (67, [some (.ref 0), some (.int (v1)), some (.int (v2)), some (.int (v3)), none, none, none, some (.int (w0))], [], hM (sm_od_then σ (vp_updL (gm_od_then σ) (((4 : Int32) * w0) + v2).toNatClampNeg (((gm_od_then σ) (((4 : Int32) * w0) + v2).toNatClampNeg) + (v3.toInt64 * ((gm_od_weight σ) v1.toNatClampNeg))))))) rfl c3 ?_
  exact ev_dr (a := [none, none, none, none, none, none, none, none]) trivial (tX12_stepOne_b67 d (sm_od_then σ (vp_updL (gm_od_then σ) (((4 : Int32) * w0) + v2).toNatClampNeg (((gm_od_then σ) (((4 : Int32) * w0) + v2).toNatClampNeg) + (v3.toInt64 * ((gm_od_weight σ) v1.toNatClampNeg)))))  _ hf)
set_option maxRecDepth 20000 in
set_option maxHeartbeats 4000000 in
theorem tX12_stepOne (d : Nat) (σ : SM) (v1 : Int32) (v2 : Int32) (v3 : Int32) (v4 : Int32) (q : SM) (hf : fX12_stepOne σ v1 v2 v3 v4 = some q) : ev_M ev_mt (d + 3) 148 [.ref 0, .int (v1), .int (v2), .int (v3), .int (v4)] (hM σ) (none, hM q) := by
  refine ev_en (rt := none) (I := eiX12_stepOne) rfl (Nat.le_of_ble_eq_true rfl) ?_
  change ev_X (d + 2) _ _ (0, [some (.ref 0), some (.int (v1)), some (.int (v2)), some (.int (v3)), some (.int (v4)), none, none, none], [], hM σ) _
  unfold fX12_stepOne at hf
  obtain ⟨r1, hr1, hf⟩ := Option.bind_eq_some_iff.mp hf
  refine ev_cli 5 (kk := 137) (as := [.ref 0, .int ((v1 / (4 : Int32))), .int (v2)]) (rest := []) (pc := 5) (ls := [some (.ref 0), some (.int (v1)), some (.int (v2)), some (.int (v3)), some (.int (v4)), none, none, none]) (st := [.int (v2), .int ((v1 / (4 : Int32))), .ref 0]) (h := hM σ) rfl (tX12_on d σ (v1 / (4 : Int32)) v2 r1 hr1) ?_
  obtain ⟨r2, hr2, hf⟩ := Option.bind_eq_some_iff.mp hf
  refine ev_cli 3 (kk := 146) (as := [.ref 0, .int (r1)]) (rest := []) (pc := 13) (ls := [some (.ref 0), some (.int (v1)), some (.int (v2)), some (.int (v3)), some (.int (v4)), some (.int (r1)), none, none]) (st := [.int (r1), .ref 0]) (h := hM σ) rfl (tX12_sortAt (d + 1) σ r1 r2 hr2) ?_
  obtain ⟨r3, hr3, hf⟩ := Option.bind_eq_some_iff.mp hf
  refine ev_cli 2 (kk := 147) (as := [.int (r2)]) (rest := []) (pc := 20) (ls := [some (.ref 0), some (.int (v1)), some (.int (v2)), some (.int (v3)), some (.int (v4)), some (.int (r1)), some (.int (r2)), none]) (st := [.int (r2)]) (h := hM σ) rfl (tX12_feltOf (d + 1) (hM σ) r2 r3 hr3) ?_
  refine ev_br 1 (P := r3 = v4) (a := 28) (b := 67) (ls := [some (.ref 0), some (.int (v1)), some (.int (v2)), some (.int (v3)), some (.int (v4)), some (.int (r1)), some (.int (r2)), none]) (st := []) (h := hM σ) rfl (fun c1 => ?_) (fun c1 => ?_)
  · rw [if_pos c1] at hf
    refine ev_br 2 (P := r2 < (2 : Int32)) (a := 34) (b := 39) (ls := [some (.ref 0), some (.int (v1)), some (.int (v2)), some (.int (v3)), some (.int (v4)), some (.int (r1)), some (.int (r2)), none]) (st := []) (h := hM σ) rfl (fun c2 => ?_) (fun c2 => ?_)
    · rw [if_pos c2] at hf
      refine ev_go (c' := (42, [some (.ref 0), some (.int (v1)), some (.int (v2)), some (.int (v3)), some (.int (v4)), some (.int (r1)), some (.int (r2)), none], [.int (r1)], hM σ)) 1 rfl ?_
      exact ev_dr (a := [some (.ref 0), some (.int (v1)), some (.int (v2)), some (.int (v3)), none, none, none, none]) ⟨rfl, ⟨rfl, ⟨rfl, ⟨rfl, trivial⟩⟩⟩⟩ (tX12_stepOne_b42 d σ v1 v2 v3 r1 _ hf)
    · rw [if_neg c2] at hf
      refine ev_go (c' := (42, [some (.ref 0), some (.int (v1)), some (.int (v2)), some (.int (v3)), some (.int (v4)), some (.int (r1)), some (.int (r2)), none], [.int ((v1 / (4 : Int32)))], hM σ)) 2 rfl ?_
      exact ev_dr (a := [some (.ref 0), some (.int (v1)), some (.int (v2)), some (.int (v3)), none, none, none, none]) ⟨rfl, ⟨rfl, ⟨rfl, ⟨rfl, trivial⟩⟩⟩⟩ (tX12_stepOne_b42 d σ v1 v2 v3 (v1 / (4 : Int32)) _ hf)
  · rw [if_neg c1] at hf
    exact ev_dr (a := [none, none, none, none, none, none, none, none]) trivial (tX12_stepOne_b67 d σ  _ hf)
set_option maxRecDepth 20000 in
set_option maxHeartbeats 4000000 in
theorem tX12_layStep_b81 (d : Nat) (k7 : SM → Int32 → Int32 → Int32 → Int32 → Option (SM)) (hk7 : ∀ (σ : SM) (v1 : Int32) (v2 : Int32) (v3 : Int32) (v4 : Int32) (q : SM), k7 σ v1 v2 v3 v4 = some q → ev_X (d + 3) none eiX12_layStep (7, [some (.ref 0), some (.int (v1)), some (.int (v2)), some (.int (v3)), some (.int (v4)), none], [], hM σ) (none, hM q)) (σ : SM) (v1 : Int32) (v2 : Int32) (v3 : Int32) (v4 : Int32) (q : SM) (hf : fX12_layStep_b81 k7 σ v1 v2 v3 v4 = some q) : ev_X (d + 3) none eiX12_layStep (81, [some (.ref 0), some (.int (v1)), some (.int (v2)), some (.int (v3)), some (.int (v4)), none], [], hM σ) (none, hM q) := by
  unfold fX12_layStep_b81 at hf
  refine ev_go (c' := (7, [some (.ref 0), some (.int (v1)), some (.int (v2)), some (.int (v3)), some (.int ((v4 + (1 : Int32)))), none], [], hM σ)) 1 rfl ?_
  exact ev_dr (a := [some (.ref 0), some (.int (v1)), some (.int (v2)), some (.int (v3)), some (.int ((v4 + (1 : Int32)))), none]) ⟨rfl, ⟨rfl, ⟨rfl, ⟨rfl, ⟨rfl, trivial⟩⟩⟩⟩⟩ (hk7 σ v1 v2 v3 (v4 + (1 : Int32)) _ hf)
set_option maxRecDepth 20000 in
set_option maxHeartbeats 4000000 in
theorem tX12_layStep_b7 (d : Nat) (k7 : SM → Int32 → Int32 → Int32 → Int32 → Option (SM)) (hk7 : ∀ (σ : SM) (v1 : Int32) (v2 : Int32) (v3 : Int32) (v4 : Int32) (q : SM), k7 σ v1 v2 v3 v4 = some q → ev_X (d + 3) none eiX12_layStep (7, [some (.ref 0), some (.int (v1)), some (.int (v2)), some (.int (v3)), some (.int (v4)), none], [], hM σ) (none, hM q)) (σ : SM) (v1 : Int32) (v2 : Int32) (v3 : Int32) (v4 : Int32) (q : SM) (hf : fX12_layStep_b7 k7 σ v1 v2 v3 v4 = some q) : ev_X (d + 3) none eiX12_layStep (7, [some (.ref 0), some (.int (v1)), some (.int (v2)), some (.int (v3)), some (.int (v4)), none], [], hM σ) (none, hM q) := by
  unfold fX12_layStep_b7 at hf
  obtain ⟨r2, hr2, hf⟩ := Option.bind_eq_some_iff.mp hf
  refine ev_cli 3 (kk := 133) (as := [.ref 0]) (rest := [.int ((4 : Int32)), .int (v4)]) (pc := 11) (ls := [some (.ref 0), some (.int (v1)), some (.int (v2)), some (.int (v3)), some (.int (v4)), none]) (st := [.ref 0, .int ((4 : Int32)), .int (v4)]) (h := hM σ) rfl (tX12_cells (d + 2) σ r2 hr2) ?_
  refine ev_br 1 (P := v4 < ((4 : Int32) * r2)) (a := 18) (b := 87) (ls := [some (.ref 0), some (.int (v1)), some (.int (v2)), some (.int (v3)), some (.int (v4)), none]) (st := []) (h := hM σ) rfl (fun c1 => ?_) (fun c1 => ?_)
  · rw [if_pos c1] at hf
    obtain ⟨c2, hf⟩ := ev_hp hf
    refine ev_ck 3 (P := ¬ (v4 < 0 ∨ 144 ≤ v4.toNatClampNeg)) (c' := (25, [some (.ref 0), some (.int (v1)), some (.int (v2)), some (.int (v3)), some (.int (v4)), none], [.long (((gm_od_weight σ) v4.toNatClampNeg))], hM σ)) rfl c2 ?_
    refine ev_bi 2 (lg_cmp_gt ((gm_od_weight σ) v4.toNatClampNeg) (0 : Int64)) (a := 30) (b := 81) (ls := [some (.ref 0), some (.int (v1)), some (.int (v2)), some (.int (v3)), some (.int (v4)), none]) (st := []) (h := hM σ) rfl (fun c3 => ?_) (fun c3 => ?_)
    · rw [if_pos c3] at hf
      obtain ⟨r3, hr3, hf⟩ := Option.bind_eq_some_iff.mp hf
      refine ev_clv 15 (kk := 148) (as := [.ref 0, .int (v4), .int (((v4 + v1) - (v4 + v1) / (4 : Int32) * (4 : Int32))), .int (((10 : Int32) - ((2 : Int32) * v2))), .int (v3)]) (rest := []) (pc := 50) (ls := [some (.ref 0), some (.int (v1)), some (.int (v2)), some (.int (v3)), some (.int (v4)), some (.int (((v4 + v1) - (v4 + v1) / (4 : Int32) * (4 : Int32))))]) (st := [.int (v3), .int (((10 : Int32) - ((2 : Int32) * v2))), .int (((v4 + v1) - (v4 + v1) / (4 : Int32) * (4 : Int32))), .int (v4), .ref 0]) (h := hM σ) rfl (tX12_stepOne d σ v4 ((v4 + v1) - (v4 + v1) / (4 : Int32) * (4 : Int32)) ((10 : Int32) - ((2 : Int32) * v2)) v3 r3 hr3) ?_
      obtain ⟨r4, hr4, hf⟩ := Option.bind_eq_some_iff.mp hf
      refine ev_clv 9 (kk := 148) (as := [.ref 0, .int (v4), .int (((((v4 + v1) - (v4 + v1) / (4 : Int32) * (4 : Int32)) + (3 : Int32)) - (((v4 + v1) - (v4 + v1) / (4 : Int32) * (4 : Int32)) + (3 : Int32)) / (4 : Int32) * (4 : Int32))), .int (v2), .int (v3)]) (rest := []) (pc := 64) (ls := [some (.ref 0), some (.int (v1)), some (.int (v2)), some (.int (v3)), some (.int (v4)), some (.int (((v4 + v1) - (v4 + v1) / (4 : Int32) * (4 : Int32))))]) (st := [.int (v3), .int (v2), .int (((((v4 + v1) - (v4 + v1) / (4 : Int32) * (4 : Int32)) + (3 : Int32)) - (((v4 + v1) - (v4 + v1) / (4 : Int32) * (4 : Int32)) + (3 : Int32)) / (4 : Int32) * (4 : Int32))), .int (v4), .ref 0]) (h := hM r3) rfl (tX12_stepOne d r3 v4 ((((v4 + v1) - (v4 + v1) / (4 : Int32) * (4 : Int32)) + (3 : Int32)) - (((v4 + v1) - (v4 + v1) / (4 : Int32) * (4 : Int32)) + (3 : Int32)) / (4 : Int32) * (4 : Int32)) v2 v3 r4 hr4) ?_
      obtain ⟨r5, hr5, hf⟩ := Option.bind_eq_some_iff.mp hf
      refine ev_clv 9 (kk := 148) (as := [.ref 0, .int (v4), .int (((((v4 + v1) - (v4 + v1) / (4 : Int32) * (4 : Int32)) + (1 : Int32)) - (((v4 + v1) - (v4 + v1) / (4 : Int32) * (4 : Int32)) + (1 : Int32)) / (4 : Int32) * (4 : Int32))), .int (v2), .int (v3)]) (rest := []) (pc := 78) (ls := [some (.ref 0), some (.int (v1)), some (.int (v2)), some (.int (v3)), some (.int (v4)), some (.int (((v4 + v1) - (v4 + v1) / (4 : Int32) * (4 : Int32))))]) (st := [.int (v3), .int (v2), .int (((((v4 + v1) - (v4 + v1) / (4 : Int32) * (4 : Int32)) + (1 : Int32)) - (((v4 + v1) - (v4 + v1) / (4 : Int32) * (4 : Int32)) + (1 : Int32)) / (4 : Int32) * (4 : Int32))), .int (v4), .ref 0]) (h := hM r4) rfl (tX12_stepOne d r4 v4 ((((v4 + v1) - (v4 + v1) / (4 : Int32) * (4 : Int32)) + (1 : Int32)) - (((v4 + v1) - (v4 + v1) / (4 : Int32) * (4 : Int32)) + (1 : Int32)) / (4 : Int32) * (4 : Int32)) v2 v3 r5 hr5) ?_
      exact ev_dr (a := [some (.ref 0), some (.int (v1)), some (.int (v2)), some (.int (v3)), some (.int (v4)), none]) ⟨rfl, ⟨rfl, ⟨rfl, ⟨rfl, ⟨rfl, trivial⟩⟩⟩⟩⟩ (tX12_layStep_b81 d k7 hk7 r5 v1 v2 v3 v4 _ hf)
    · rw [if_neg c3] at hf
      exact ev_dr (a := [some (.ref 0), some (.int (v1)), some (.int (v2)), some (.int (v3)), some (.int (v4)), none]) ⟨rfl, ⟨rfl, ⟨rfl, ⟨rfl, ⟨rfl, trivial⟩⟩⟩⟩⟩ (tX12_layStep_b81 d k7 hk7 σ v1 v2 v3 v4 _ hf)
  · rw [if_neg c1] at hf
    cases hf
    exact ev_rt 0 rfl
theorem tX12_layStep_l7 (d : Nat) : ∀ (n : Nat) (σ : SM) (v1 : Int32) (v2 : Int32) (v3 : Int32) (v4 : Int32) (q : SM), fX12_layStep_l7 n σ v1 v2 v3 v4 = some q → ev_X (d + 3) none eiX12_layStep (7, [some (.ref 0), some (.int (v1)), some (.int (v2)), some (.int (v3)), some (.int (v4)), none], [], hM σ) (none, hM q)
  | 0, _, _, _, _, _, _, hf => by cases hf
  | n + 1, σ, v1, v2, v3, v4, q, hf => tX12_layStep_b7 d (fX12_layStep_l7 n) (fun σ v1 v2 v3 v4 q h9 => tX12_layStep_l7 d n σ v1 v2 v3 v4 q h9) σ v1 v2 v3 v4 q hf
set_option maxRecDepth 20000 in
set_option maxHeartbeats 4000000 in
theorem tX12_layStep (d : Nat) (σ : SM) (v1 : Int32) (v2 : Int32) (v3 : Int32) (q : SM) (hf : fX12_layStep σ v1 v2 v3 = some q) : ev_M ev_mt (d + 4) 149 [.ref 0, .int (v1), .int (v2), .int (v3)] (hM σ) (none, hM q) := by
  refine ev_en (rt := none) (I := eiX12_layStep) rfl (Nat.le_of_ble_eq_true rfl) ?_
  change ev_X (d + 3) _ _ (0, [some (.ref 0), some (.int (v1)), some (.int (v2)), some (.int (v3)), none, none], [], hM σ) _
  unfold fX12_layStep at hf
  obtain ⟨r1, hr1, hf⟩ := Option.bind_eq_some_iff.mp hf
  refine ev_clv 1 (kk := 139) (as := [.ref 0]) (rest := []) (pc := 1) (ls := [some (.ref 0), some (.int (v1)), some (.int (v2)), some (.int (v3)), none, none]) (st := [.ref 0]) (h := hM σ) rfl (tX12_clear (d + 2) σ r1 hr1) ?_
  refine ev_go (c' := (7, [some (.ref 0), some (.int (v1)), some (.int (v2)), some (.int (v3)), some (.int ((0 : Int32))), none], [], hM r1)) 1 rfl ?_
  exact ev_dr (a := [some (.ref 0), some (.int (v1)), some (.int (v2)), some (.int (v3)), some (.int ((0 : Int32))), none]) ⟨rfl, ⟨rfl, ⟨rfl, ⟨rfl, ⟨rfl, trivial⟩⟩⟩⟩⟩ (tX12_layStep_l7 d 1000 r1 v1 v2 v3 (0 : Int32) _ hf)
