/-! X12_readPage X12_fault X12_cells X12_isCell X12_isFree X12_layLost X12_ring X12_cell X12_on X12_isWay X12_clear X12_set X12_lost X12_above X12_take X12_turned -/
set_option maxRecDepth 20000 in
set_option maxHeartbeats 4000000 in
theorem tX12_readPage_b206 (d : Nat) (σ : SM) (w0 : Int32) (q : SM) (hf : fX12_readPage_b206 σ w0 = some q) : ev_X (d + 1) none eiX12_readPage (206, [none, none, none, none, none, none], [.int (w0), .ref 0], hM σ) (none, hM q) := by
  unfold fX12_readPage_b206 at hf
  obtain ⟨c1, hf⟩ := ev_hp hf
  refine ev_st1 (e := (206, .putfield 89, 3, 32, 2, .null, [(12, 0)], [1082])) (c' := (209, [none, none, none, none, none, none], [], hM (sm_rp_isWhole σ w0))) rfl (oy_put_m_rp_isWhole c1) ?_
  cases hf
  exact ev_rt 0 rfl
set_option maxRecDepth 20000 in
set_option maxHeartbeats 4000000 in
theorem tX12_readPage_b205 (d : Nat) (σ : SM) (q : SM) (hf : fX12_readPage_b205 σ = some q) : ev_X (d + 1) none eiX12_readPage (205, [none, none, none, none, none, none], [.ref 0], hM σ) (none, hM q) := by
  unfold fX12_readPage_b205 at hf
  refine ev_go (c' := (206, [none, none, none, none, none, none], [.int ((0 : Int32)), .ref 0], hM σ)) 0 rfl ?_
  exact ev_dr (a := [none, none, none, none, none, none]) trivial (tX12_readPage_b206 d σ (0 : Int32) _ hf)
set_option maxRecDepth 20000 in
set_option maxHeartbeats 4000000 in
theorem tX12_readPage_b172 (d : Nat) (σ : SM) (v1 : Int32) (v2 : Int32) (q : SM) (hf : fX12_readPage_b172 σ v1 v2 = some q) : ev_X (d + 1) none eiX12_readPage (172, [some (.ref 0), some (.int (v1)), some (.int (v2)), none, none, none], [], hM σ) (none, hM q) := by
  unfold fX12_readPage_b172 at hf
  refine ev_go (c' := (174, [some (.ref 0), some (.int (v1)), some (.int (v2)), none, none, none], [.int (v2), .ref 0], hM σ)) 1 rfl ?_
  refine ev_st1 (e := (174, .putfield 86, 3, 31, 0, .null, [(12, 0)], [1081])) (c' := (177, [some (.ref 0), some (.int (v1)), some (.int (v2)), none, none, none], [], hM (sm_rp_faultAt σ v2))) rfl oy_put_m_rp_faultAt ?_
  refine ev_br 4 (P := v2 = (gm_pg_pageLength σ)) (a := 186) (b := 205) (ls := [some (.ref 0), some (.int (v1)), some (.int (v2)), none, none, none]) (st := [.ref 0]) (h := hM (sm_rp_faultAt σ v2)) rfl (fun c1 => ?_) (fun c1 => ?_)
  · rw [if_pos c1] at hf
    refine ev_br 2 (P := 0 < (gm_rp_newRows σ)) (a := 193) (b := 205) (ls := [some (.ref 0), some (.int (v1)), some (.int (v2)), none, none, none]) (st := [.ref 0]) (h := hM (sm_rp_faultAt σ v2)) rfl (fun c2 => ?_) (fun c2 => ?_)
    · rw [if_pos c2] at hf
      refine ev_br 3 (P := v1 = (gm_rp_newColumns σ)) (a := 201) (b := 205) (ls := [some (.ref 0), some (.int (v1)), some (.int (v2)), none, none, none]) (st := [.ref 0]) (h := hM (sm_rp_faultAt σ v2)) rfl (fun c3 => ?_) (fun c3 => ?_)
      · rw [if_pos c3] at hf
        refine ev_go (c' := (206, [some (.ref 0), some (.int (v1)), some (.int (v2)), none, none, none], [.int ((1 : Int32)), .ref 0], hM (sm_rp_faultAt σ v2))) 1 rfl ?_
        exact ev_dr (a := [none, none, none, none, none, none]) trivial (tX12_readPage_b206 d (sm_rp_faultAt σ v2) (1 : Int32) _ hf)
      · rw [if_neg c3] at hf
        exact ev_dr (a := [none, none, none, none, none, none]) trivial (tX12_readPage_b205 d (sm_rp_faultAt σ v2)  _ hf)
    · rw [if_neg c2] at hf
      exact ev_dr (a := [none, none, none, none, none, none]) trivial (tX12_readPage_b205 d (sm_rp_faultAt σ v2)  _ hf)
  · rw [if_neg c1] at hf
    exact ev_dr (a := [none, none, none, none, none, none]) trivial (tX12_readPage_b205 d (sm_rp_faultAt σ v2)  _ hf)
set_option maxRecDepth 20000 in
set_option maxHeartbeats 4000000 in
theorem tX12_readPage_b167 (d : Nat) (k16 : SM → Int32 → Int32 → Int32 → Option (SM)) (hk16 : ∀ (σ : SM) (v1 : Int32) (v2 : Int32) (v3 : Int32) (q : SM), k16 σ v1 v2 v3 = some q → ev_X (d + 1) none eiX12_readPage (16, [some (.ref 0), some (.int (v1)), some (.int (v2)), some (.int (v3)), none, none], [], hM σ) (none, hM q)) (σ : SM) (v1 : Int32) (v3 : Int32) (w0 : Int32) (w1 : Int32) (q : SM) (hf : fX12_readPage_b167 k16 σ v1 v3 w0 w1 = some q) : ev_X (d + 1) none eiX12_readPage (167, [some (.ref 0), some (.int (v1)), none, some (.int (v3)), none, none], [.int (w0), .int (w1)], hM σ) (none, hM q) := by
  unfold fX12_readPage_b167 at hf
  refine ev_go (c' := (16, [some (.ref 0), some (.int (v1)), some (.int ((w1 + w0))), some (.int (v3)), none, none], [], hM σ)) 2 rfl ?_
  exact ev_dr (a := [some (.ref 0), some (.int (v1)), some (.int ((w1 + w0))), some (.int (v3)), none, none]) ⟨rfl, ⟨rfl, ⟨rfl, ⟨rfl, trivial⟩⟩⟩⟩ (hk16 σ v1 (w1 + w0) v3 _ hf)
set_option maxRecDepth 20000 in
set_option maxHeartbeats 4000000 in
theorem tX12_readPage_b157 (d : Nat) (k16 : SM → Int32 → Int32 → Int32 → Option (SM)) (hk16 : ∀ (σ : SM) (v1 : Int32) (v2 : Int32) (v3 : Int32) (q : SM), k16 σ v1 v2 v3 = some q → ev_X (d + 1) none eiX12_readPage (16, [some (.ref 0), some (.int (v1)), some (.int (v2)), some (.int (v3)), none, none], [], hM σ) (none, hM q)) (σ : SM) (v1 : Int32) (v2 : Int32) (v3 : Int32) (q : SM) (hf : fX12_readPage_b157 k16 σ v1 v2 v3 = some q) : ev_X (d + 1) none eiX12_readPage (157, [some (.ref 0), some (.int (v1)), some (.int (v2)), some (.int (v3)), none, none], [], hM σ) (none, hM q) := by
  unfold fX12_readPage_b157 at hf
  refine ev_br 2 (P := v3 = 0) (a := 166) (b := 162) (ls := [some (.ref 0), some (.int (v1)), some (.int (v2)), some (.int (v3)), none, none]) (st := [.int (v2)]) (h := hM σ) rfl (fun c1 => ?_) (fun c1 => ?_)
  · rw [if_pos c1] at hf
    refine ev_go (c' := (167, [some (.ref 0), some (.int (v1)), some (.int (v2)), some (.int (v3)), none, none], [.int ((0 : Int32)), .int (v2)], hM σ)) 0 rfl ?_
    exact ev_dr (a := [some (.ref 0), some (.int (v1)), none, some (.int (v3)), none, none]) ⟨rfl, ⟨rfl, ⟨rfl, trivial⟩⟩⟩ (tX12_readPage_b167 d k16 hk16 σ v1 v3 (0 : Int32) v2 _ hf)
  · rw [if_neg c1] at hf
    refine ev_go (c' := (167, [some (.ref 0), some (.int (v1)), some (.int (v2)), some (.int (v3)), none, none], [.int ((1 : Int32)), .int (v2)], hM σ)) 1 rfl ?_
    exact ev_dr (a := [some (.ref 0), some (.int (v1)), none, some (.int (v3)), none, none]) ⟨rfl, ⟨rfl, ⟨rfl, trivial⟩⟩⟩ (tX12_readPage_b167 d k16 hk16 σ v1 v3 (1 : Int32) v2 _ hf)
set_option maxRecDepth 20000 in
set_option maxHeartbeats 4000000 in
theorem tX12_readPage_b155 (d : Nat) (k16 : SM → Int32 → Int32 → Int32 → Option (SM)) (hk16 : ∀ (σ : SM) (v1 : Int32) (v2 : Int32) (v3 : Int32) (q : SM), k16 σ v1 v2 v3 = some q → ev_X (d + 1) none eiX12_readPage (16, [some (.ref 0), some (.int (v1)), some (.int (v2)), some (.int (v3)), none, none], [], hM σ) (none, hM q)) (σ : SM) (v1 : Int32) (v2 : Int32) (q : SM) (hf : fX12_readPage_b155 k16 σ v1 v2 = some q) : ev_X (d + 1) none eiX12_readPage (155, [some (.ref 0), some (.int (v1)), some (.int (v2)), none, none, none], [], hM σ) (none, hM q) := by
  unfold fX12_readPage_b155 at hf
  refine ev_go (c' := (157, [some (.ref 0), some (.int (v1)), some (.int (v2)), some (.int ((0 : Int32))), none, none], [], hM σ)) 1 rfl ?_
  exact ev_dr (a := [some (.ref 0), some (.int (v1)), some (.int (v2)), some (.int ((0 : Int32))), none, none]) ⟨rfl, ⟨rfl, ⟨rfl, ⟨rfl, trivial⟩⟩⟩⟩ (tX12_readPage_b157 d k16 hk16 σ v1 v2 (0 : Int32) _ hf)
set_option maxRecDepth 20000 in
set_option maxHeartbeats 4000000 in
theorem tX12_readPage_b135 (d : Nat) (k16 : SM → Int32 → Int32 → Int32 → Option (SM)) (hk16 : ∀ (σ : SM) (v1 : Int32) (v2 : Int32) (v3 : Int32) (q : SM), k16 σ v1 v2 v3 = some q → ev_X (d + 1) none eiX12_readPage (16, [some (.ref 0), some (.int (v1)), some (.int (v2)), some (.int (v3)), none, none], [], hM σ) (none, hM q)) (σ : SM) (v1 : Int32) (v2 : Int32) (v3 : Int32) (q : SM) (hf : fX12_readPage_b135 k16 σ v1 v2 v3 = some q) : ev_X (d + 1) none eiX12_readPage (135, [some (.ref 0), some (.int (v1)), some (.int (v2)), some (.int (v3)), none, none], [], hM σ) (none, hM q) := by
  unfold fX12_readPage_b135 at hf
  refine ev_go (c' := (137, [some (.ref 0), some (.int (v1)), some (.int (v2)), some (.int (v3)), none, none], [.int (v1), .ref 0], hM σ)) 1 rfl ?_
  refine ev_st1 (e := (137, .putfield 79, 3, 34, 0, .null, [(12, 0)], [1084])) (c' := (140, [some (.ref 0), some (.int (v1)), some (.int (v2)), some (.int (v3)), none, none], [], hM (sm_rp_newColumns σ v1))) rfl oy_put_m_rp_newColumns ?_
  refine ev_go (c' := (147, [some (.ref 0), some (.int (v1)), some (.int (v2)), some (.int (v3)), none, none], [.int (((gm_rp_newRows σ) + (1 : Int32))), .ref 0], hM (sm_rp_newColumns σ v1))) 4 rfl ?_
  refine ev_st1 (e := (147, .putfield 76, 3, 33, 0, .null, [(12, 0)], [1083])) (c' := (150, [some (.ref 0), some (.int (v1)), some (.int (v2)), some (.int (v3)), none, none], [], hM (sm_rp_newRows (sm_rp_newColumns σ v1) ((gm_rp_newRows σ) + (1 : Int32))))) rfl oy_put_m_rp_newRows ?_
  refine ev_go (c' := (157, [some (.ref 0), some (.int ((0 : Int32))), some (.int (v2)), some (.int (v3)), none, none], [], hM (sm_rp_newRows (sm_rp_newColumns σ v1) ((gm_rp_newRows σ) + (1 : Int32))))) 2 rfl ?_
  exact ev_dr (a := [some (.ref 0), some (.int ((0 : Int32))), some (.int (v2)), some (.int (v3)), none, none]) ⟨rfl, ⟨rfl, ⟨rfl, ⟨rfl, trivial⟩⟩⟩⟩ (tX12_readPage_b157 d k16 hk16 (sm_rp_newRows (sm_rp_newColumns σ v1) ((gm_rp_newRows σ) + (1 : Int32))) (0 : Int32) v2 v3 _ hf)
set_option maxRecDepth 20000 in
set_option maxHeartbeats 4000000 in
theorem tX12_readPage_b93 (d : Nat) (k16 : SM → Int32 → Int32 → Int32 → Option (SM)) (hk16 : ∀ (σ : SM) (v1 : Int32) (v2 : Int32) (v3 : Int32) (q : SM), k16 σ v1 v2 v3 = some q → ev_X (d + 1) none eiX12_readPage (16, [some (.ref 0), some (.int (v1)), some (.int (v2)), some (.int (v3)), none, none], [], hM σ) (none, hM q)) (σ : SM) (v1 : Int32) (v2 : Int32) (v3 : Int32) (q : SM) (hf : fX12_readPage_b93 k16 σ v1 v2 v3 = some q) : ev_X (d + 1) none eiX12_readPage (93, [some (.ref 0), some (.int (v1)), some (.int (v2)), some (.int (v3)), none, none], [], hM σ) (none, hM q) := by
  unfold fX12_readPage_b93 at hf
  obtain ⟨c1, hf⟩ := ev_hp hf
  refine ev_ck 3 (P := ¬ (v2 < 0 ∨ 45 ≤ v2.toNatClampNeg)) (c' := (99, [some (.ref 0), some (.int (v1)), some (.int (v2)), some (.int (v3)), none, none], [.int (((gm_pg_page σ) v2.toNatClampNeg))], hM σ)) rfl c1 ?_
  refine ev_br 1 (P := ((gm_pg_page σ) v2.toNatClampNeg) = (47 : Int32)) (a := 104) (b := 155) (ls := [some (.ref 0), some (.int (v1)), some (.int (v2)), some (.int (v3)), none, none]) (st := []) (h := hM σ) rfl (fun c2 => ?_) (fun c2 => ?_)
  · rw [if_pos c2] at hf
    refine ev_br 3 (P := (gm_rp_newRows σ) < (5 : Int32)) (a := 112) (b := 155) (ls := [some (.ref 0), some (.int (v1)), some (.int (v2)), some (.int (v3)), none, none]) (st := []) (h := hM σ) rfl (fun c3 => ?_) (fun c3 => ?_)
    · rw [if_pos c3] at hf
      refine ev_br 2 (P := (gm_rp_newRows σ) = 0) (a := 119) (b := 127) (ls := [some (.ref 0), some (.int (v1)), some (.int (v2)), some (.int (v3)), none, none]) (st := []) (h := hM σ) rfl (fun c4 => ?_) (fun c4 => ?_)
      · rw [if_pos c4] at hf
        refine ev_br 2 (P := (1 : Int32) < v1) (a := 124) (b := 155) (ls := [some (.ref 0), some (.int (v1)), some (.int (v2)), some (.int (v3)), none, none]) (st := []) (h := hM σ) rfl (fun c5 => ?_) (fun c5 => ?_)
        · rw [if_pos c5] at hf
          refine ev_go (c' := (135, [some (.ref 0), some (.int (v1)), some (.int (v2)), some (.int (v3)), none, none], [], hM σ)) 0 rfl ?_
          exact ev_dr (a := [some (.ref 0), some (.int (v1)), some (.int (v2)), some (.int (v3)), none, none]) ⟨rfl, ⟨rfl, ⟨rfl, ⟨rfl, trivial⟩⟩⟩⟩ (tX12_readPage_b135 d k16 hk16 σ v1 v2 v3 _ hf)
        · rw [if_neg c5] at hf
          exact ev_dr (a := [some (.ref 0), some (.int (v1)), some (.int (v2)), none, none, none]) ⟨rfl, ⟨rfl, ⟨rfl, trivial⟩⟩⟩ (tX12_readPage_b155 d k16 hk16 σ v1 v2 _ hf)
      · rw [if_neg c4] at hf
        refine ev_br 3 (P := v1 = (gm_rp_newColumns σ)) (a := 135) (b := 155) (ls := [some (.ref 0), some (.int (v1)), some (.int (v2)), some (.int (v3)), none, none]) (st := []) (h := hM σ) rfl (fun c6 => ?_) (fun c6 => ?_)
        · rw [if_pos c6] at hf
          exact ev_dr (a := [some (.ref 0), some (.int (v1)), some (.int (v2)), some (.int (v3)), none, none]) ⟨rfl, ⟨rfl, ⟨rfl, ⟨rfl, trivial⟩⟩⟩⟩ (tX12_readPage_b135 d k16 hk16 σ v1 v2 v3 _ hf)
        · rw [if_neg c6] at hf
          exact ev_dr (a := [some (.ref 0), some (.int (v1)), some (.int (v2)), none, none, none]) ⟨rfl, ⟨rfl, ⟨rfl, trivial⟩⟩⟩ (tX12_readPage_b155 d k16 hk16 σ v1 v2 _ hf)
    · rw [if_neg c3] at hf
      exact ev_dr (a := [some (.ref 0), some (.int (v1)), some (.int (v2)), none, none, none]) ⟨rfl, ⟨rfl, ⟨rfl, trivial⟩⟩⟩ (tX12_readPage_b155 d k16 hk16 σ v1 v2 _ hf)
  · rw [if_neg c2] at hf
    exact ev_dr (a := [some (.ref 0), some (.int (v1)), some (.int (v2)), none, none, none]) ⟨rfl, ⟨rfl, ⟨rfl, trivial⟩⟩⟩ (tX12_readPage_b155 d k16 hk16 σ v1 v2 _ hf)
set_option maxRecDepth 20000 in
set_option maxHeartbeats 4000000 in
theorem tX12_readPage_b55 (d : Nat) (k16 : SM → Int32 → Int32 → Int32 → Option (SM)) (hk16 : ∀ (σ : SM) (v1 : Int32) (v2 : Int32) (v3 : Int32) (q : SM), k16 σ v1 v2 v3 = some q → ev_X (d + 1) none eiX12_readPage (16, [some (.ref 0), some (.int (v1)), some (.int (v2)), some (.int (v3)), none, none], [], hM σ) (none, hM q)) (σ : SM) (v1 : Int32) (v2 : Int32) (v3 : Int32) (v4 : Int32) (w0 : Int32) (q : SM) (hf : fX12_readPage_b55 k16 σ v1 v2 v3 v4 w0 = some q) : ev_X (d + 1) none eiX12_readPage (55, [some (.ref 0), some (.int (v1)), some (.int (v2)), some (.int (v3)), some (.int (v4)), none], [.int (w0)], hM σ) (none, hM q) := by
  unfold fX12_readPage_b55 at hf
  refine ev_br 3 (P := v4 = (-1 : Int32)) (a := 93) (b := 63) (ls := [some (.ref 0), some (.int (v1)), some (.int (v2)), some (.int (v3)), some (.int (v4)), some (.int (w0))]) (st := []) (h := hM σ) rfl (fun c1 => ?_) (fun c1 => ?_)
  · rw [if_pos c1] at hf
    exact ev_dr (a := [some (.ref 0), some (.int (v1)), some (.int (v2)), some (.int (v3)), none, none]) ⟨rfl, ⟨rfl, ⟨rfl, ⟨rfl, trivial⟩⟩⟩⟩ (tX12_readPage_b93 d k16 hk16 σ v1 v2 v3 _ hf)
  · rw [if_neg c1] at hf
    refine ev_br 2 (P := v1 < w0) (a := 69) (b := 93) (ls := [some (.ref 0), some (.int (v1)), some (.int (v2)), some (.int (v3)), some (.int (v4)), some (.int (w0))]) (st := []) (h := hM σ) rfl (fun c2 => ?_) (fun c2 => ?_)
    · rw [if_pos c2] at hf
      obtain ⟨c3, hf⟩ := ev_hp hf
      refine ev_go (c' := (86, [some (.ref 0), some (.int (v1)), some (.int (v2)), some (.int (v3)), some (.int (v4)), some (.int (w0))], [.int (v4), .int ((((gm_rp_newRows σ) * (gm_rp_newColumns σ)) + v1)), .ref 12], hM σ)) 9 rfl ?_
      refine ev_st1 (e := (86, .iastore, 1, 0, 0, .null, [], [])) (c' := (87, [some (.ref 0), some (.int (v1)), some (.int (v2)), some (.int (v3)), some (.int (v4)), some (.int (w0))], [], hM (sm_rp_newCell σ (upd (gm_rp_newCell σ) (((gm_rp_newRows σ) * (gm_rp_newColumns σ)) + v1).toNatClampNeg v4)))) rfl (oy_ast_m_rp_newCell c3) ?_
      refine ev_go (c' := (157, [some (.ref 0), some (.int ((v1 + (1 : Int32)))), some (.int (v2)), some (.int (v3)), some (.int (v4)), some (.int (w0))], [], hM (sm_rp_newCell σ (upd (gm_rp_newCell σ) (((gm_rp_newRows σ) * (gm_rp_newColumns σ)) + v1).toNatClampNeg v4)))) 1 rfl ?_
      exact ev_dr (a := [some (.ref 0), some (.int ((v1 + (1 : Int32)))), some (.int (v2)), some (.int (v3)), none, none]) ⟨rfl, ⟨rfl, ⟨rfl, ⟨rfl, trivial⟩⟩⟩⟩ (tX12_readPage_b157 d k16 hk16 (sm_rp_newCell σ (upd (gm_rp_newCell σ) (((gm_rp_newRows σ) * (gm_rp_newColumns σ)) + v1).toNatClampNeg v4)) (v1 + (1 : Int32)) v2 v3 _ hf)
    · rw [if_neg c2] at hf
      exact ev_dr (a := [some (.ref 0), some (.int (v1)), some (.int (v2)), some (.int (v3)), none, none]) ⟨rfl, ⟨rfl, ⟨rfl, ⟨rfl, trivial⟩⟩⟩⟩ (tX12_readPage_b93 d k16 hk16 σ v1 v2 v3 _ hf)
set_option maxRecDepth 20000 in
set_option maxHeartbeats 4000000 in
theorem tX12_readPage_b16 (d : Nat) (k16 : SM → Int32 → Int32 → Int32 → Option (SM)) (hk16 : ∀ (σ : SM) (v1 : Int32) (v2 : Int32) (v3 : Int32) (q : SM), k16 σ v1 v2 v3 = some q → ev_X (d + 1) none eiX12_readPage (16, [some (.ref 0), some (.int (v1)), some (.int (v2)), some (.int (v3)), none, none], [], hM σ) (none, hM q)) (σ : SM) (v1 : Int32) (v2 : Int32) (v3 : Int32) (q : SM) (hf : fX12_readPage_b16 k16 σ v1 v2 v3 = some q) : ev_X (d + 1) none eiX12_readPage (16, [some (.ref 0), some (.int (v1)), some (.int (v2)), some (.int (v3)), none, none], [], hM σ) (none, hM q) := by
  unfold fX12_readPage_b16 at hf
  refine ev_br 3 (P := v2 < (gm_pg_pageLength σ)) (a := 24) (b := 172) (ls := [some (.ref 0), some (.int (v1)), some (.int (v2)), some (.int (v3)), none, none]) (st := []) (h := hM σ) rfl (fun c1 => ?_) (fun c1 => ?_)
  · rw [if_pos c1] at hf
    refine ev_br 1 (P := v3 = 0) (a := 172) (b := 28) (ls := [some (.ref 0), some (.int (v1)), some (.int (v2)), some (.int (v3)), none, none]) (st := []) (h := hM σ) rfl (fun c2 => ?_) (fun c2 => ?_)
    · rw [if_pos c2] at hf
      exact ev_dr (a := [some (.ref 0), some (.int (v1)), some (.int (v2)), none, none, none]) ⟨rfl, ⟨rfl, ⟨rfl, trivial⟩⟩⟩ (tX12_readPage_b172 d σ v1 v2 _ hf)
    · rw [if_neg c2] at hf
      obtain ⟨c3, hf⟩ := ev_hp hf
      refine ev_ck 3 (P := ¬ (v2 < 0 ∨ 45 ≤ v2.toNatClampNeg)) (c' := (34, [some (.ref 0), some (.int (v1)), some (.int (v2)), some (.int (v3)), none, none], [.int (((gm_pg_page σ) v2.toNatClampNeg))], hM σ)) rfl c3 ?_
      obtain ⟨r1, hr1, hf⟩ := Option.bind_eq_some_iff.mp hf
      refine ev_cli 0 (kk := 129) (as := [.int (((gm_pg_page σ) v2.toNatClampNeg))]) (rest := []) (pc := 34) (ls := [some (.ref 0), some (.int (v1)), some (.int (v2)), some (.int (v3)), none, none]) (st := [.int (((gm_pg_page σ) v2.toNatClampNeg))]) (h := hM σ) rfl (tX12_sortOf d (hM σ) ((gm_pg_page σ) v2.toNatClampNeg) r1 hr1) ?_
      refine ev_br 3 (P := (gm_rp_newRows σ) = 0) (a := 46) (b := 51) (ls := [some (.ref 0), some (.int (v1)), some (.int (v2)), some (.int (v3)), some (.int (r1)), none]) (st := []) (h := hM σ) rfl (fun c4 => ?_) (fun c4 => ?_)
      · rw [if_pos c4] at hf
        refine ev_go (c' := (55, [some (.ref 0), some (.int (v1)), some (.int (v2)), some (.int (v3)), some (.int (r1)), none], [.int ((6 : Int32))], hM σ)) 1 rfl ?_
        exact ev_dr (a := [some (.ref 0), some (.int (v1)), some (.int (v2)), some (.int (v3)), some (.int (r1)), none]) ⟨rfl, ⟨rfl, ⟨rfl, ⟨rfl, ⟨rfl, trivial⟩⟩⟩⟩⟩ (tX12_readPage_b55 d k16 hk16 σ v1 v2 v3 r1 (6 : Int32) _ hf)
      · rw [if_neg c4] at hf
        refine ev_go (c' := (55, [some (.ref 0), some (.int (v1)), some (.int (v2)), some (.int (v3)), some (.int (r1)), none], [.int ((gm_rp_newColumns σ))], hM σ)) 1 rfl ?_
        exact ev_dr (a := [some (.ref 0), some (.int (v1)), some (.int (v2)), some (.int (v3)), some (.int (r1)), none]) ⟨rfl, ⟨rfl, ⟨rfl, ⟨rfl, ⟨rfl, trivial⟩⟩⟩⟩⟩ (tX12_readPage_b55 d k16 hk16 σ v1 v2 v3 r1 (gm_rp_newColumns σ) _ hf)
  · rw [if_neg c1] at hf
    exact ev_dr (a := [some (.ref 0), some (.int (v1)), some (.int (v2)), none, none, none]) ⟨rfl, ⟨rfl, ⟨rfl, trivial⟩⟩⟩ (tX12_readPage_b172 d σ v1 v2 _ hf)
theorem tX12_readPage_l16 (d : Nat) : ∀ (n : Nat) (σ : SM) (v1 : Int32) (v2 : Int32) (v3 : Int32) (q : SM), fX12_readPage_l16 n σ v1 v2 v3 = some q → ev_X (d + 1) none eiX12_readPage (16, [some (.ref 0), some (.int (v1)), some (.int (v2)), some (.int (v3)), none, none], [], hM σ) (none, hM q)
  | 0, _, _, _, _, _, hf => by cases hf
  | n + 1, σ, v1, v2, v3, q, hf => tX12_readPage_b16 d (fX12_readPage_l16 n) (fun σ v1 v2 v3 q h9 => tX12_readPage_l16 d n σ v1 v2 v3 q h9) σ v1 v2 v3 q hf
set_option maxRecDepth 20000 in
set_option maxHeartbeats 4000000 in
theorem tX12_readPage (d : Nat) (σ : SM) (q : SM) (hf : fX12_readPage σ = some q) : ev_M ev_mt (d + 2) 130 [.ref 0] (hM σ) (none, hM q) := by
  refine ev_en (rt := none) (I := eiX12_readPage) rfl (Nat.le_of_ble_eq_true rfl) ?_
  change ev_X (d + 1) _ _ (0, [some (.ref 0), none, none, none, none, none], [], hM σ) _
  unfold fX12_readPage at hf
  refine ev_go (c' := (2, [some (.ref 0), none, none, none, none, none], [.int ((0 : Int32)), .ref 0], hM σ)) 1 rfl ?_
  refine ev_st1 (e := (2, .putfield 76, 3, 33, 0, .null, [(12, 0)], [1083])) (c' := (5, [some (.ref 0), none, none, none, none, none], [], hM (sm_rp_newRows σ (0 : Int32)))) rfl oy_put_m_rp_newRows ?_
  refine ev_go (c' := (7, [some (.ref 0), none, none, none, none, none], [.int ((0 : Int32)), .ref 0], hM (sm_rp_newRows σ (0 : Int32)))) 1 rfl ?_
  refine ev_st1 (e := (7, .putfield 79, 3, 34, 0, .null, [(12, 0)], [1084])) (c' := (10, [some (.ref 0), none, none, none, none, none], [], hM (sm_rp_newColumns (sm_rp_newRows σ (0 : Int32)) (0 : Int32)))) rfl oy_put_m_rp_newColumns ?_
  refine ev_go (c' := (16, [some (.ref 0), some (.int ((0 : Int32))), some (.int ((0 : Int32))), some (.int ((1 : Int32))), none, none], [], hM (sm_rp_newColumns (sm_rp_newRows σ (0 : Int32)) (0 : Int32)))) 5 rfl ?_
  exact ev_dr (a := [some (.ref 0), some (.int ((0 : Int32))), some (.int ((0 : Int32))), some (.int ((1 : Int32))), none, none]) ⟨rfl, ⟨rfl, ⟨rfl, ⟨rfl, trivial⟩⟩⟩⟩ (tX12_readPage_l16 d 1000 (sm_rp_newColumns (sm_rp_newRows σ (0 : Int32)) (0 : Int32)) (0 : Int32) (0 : Int32) (1 : Int32) _ hf)
set_option maxRecDepth 20000 in
set_option maxHeartbeats 4000000 in
theorem tX12_fault (d : Nat) (σ : SM) (q : Int32 × SM) (hf : fX12_fault σ = some q) : ev_M ev_mt (d + 3) 131 [.ref 0] (hM σ) (some (.int q.1), hM q.2) := by
  refine ev_en (rt := (some .int)) (I := eiX12_fault) rfl (Nat.le_of_ble_eq_true rfl) ?_
  change ev_X (d + 2) _ _ (0, [some (.ref 0)], [], hM σ) _
  unfold fX12_fault at hf
  obtain ⟨r1, hr1, hf⟩ := Option.bind_eq_some_iff.mp hf
  refine ev_clv 1 (kk := 130) (as := [.ref 0]) (rest := []) (pc := 1) (ls := [some (.ref 0)]) (st := [.ref 0]) (h := hM σ) rfl (tX12_readPage d σ r1 hr1) ?_
  cases hf
  exact ev_rt 2 rfl
set_option maxRecDepth 20000 in
set_option maxHeartbeats 4000000 in
theorem tX12_cells (d : Nat) (σ : SM) (q : Int32) (hf : fX12_cells σ = some q) : ev_M ev_mt (d + 1) 133 [.ref 0] (hM σ) (some (.int q), hM σ) := by
  refine ev_en (rt := (some .int)) (I := eiX12_cells) rfl (Nat.le_of_ble_eq_true rfl) ?_
  change ev_X d _ _ (0, [some (.ref 0)], [], hM σ) _
  unfold fX12_cells at hf
  cases hf
  exact ev_rt 5 rfl
set_option maxRecDepth 20000 in
set_option maxHeartbeats 4000000 in
theorem tX12_isCell (d : Nat) (σ : SM) (v1 : Int32) (q : Int32) (hf : fX12_isCell σ v1 = some q) : ev_M ev_mt (d + 2) 134 [.ref 0, .int (v1)] (hM σ) (some (.int q), hM σ) := by
  refine ev_en (rt := (some .boolean)) (I := eiX12_isCell) rfl (Nat.le_of_ble_eq_true rfl) ?_
  change ev_X (d + 1) _ _ (0, [some (.ref 0), some (.int (v1))], [], hM σ) _
  unfold fX12_isCell at hf
  obtain ⟨r1, hr1, hf⟩ := Option.bind_eq_some_iff.mp hf
  refine ev_cli 3 (kk := 133) (as := [.ref 0]) (rest := [.int ((0 : Int32)), .int (v1)]) (pc := 3) (ls := [some (.ref 0), some (.int (v1))]) (st := [.ref 0, .int ((0 : Int32)), .int (v1)]) (h := hM σ) rfl (tX12_cells d σ r1 hr1) ?_
  obtain ⟨r2, hr2, hf⟩ := Option.bind_eq_some_iff.mp hf
  refine ev_cli 2 (kk := 123) (as := [.int (v1), .int ((0 : Int32)), .int ((r1 - (1 : Int32)))]) (rest := []) (pc := 8) (ls := [some (.ref 0), some (.int (v1))]) (st := [.int ((r1 - (1 : Int32))), .int ((0 : Int32)), .int (v1)]) (h := hM σ) rfl (tX12_within d (hM σ) v1 (0 : Int32) (r1 - (1 : Int32)) r2 hr2) ?_
  obtain ⟨c1, hf⟩ := ev_hp hf
  cases hf
  exact ev_rk 0 rfl c1
set_option maxRecDepth 20000 in
set_option maxHeartbeats 4000000 in
theorem tX12_isFree_b23 (d : Nat) (σ : SM) (w0 : Int32) (q : Int32) (hf : fX12_isFree_b23 σ w0 = some q) : ev_X (d + 2) (some .boolean) eiX12_isFree (23, [none, none], [.int (w0)], hM σ) (some (.int q), hM σ) := by
  unfold fX12_isFree_b23 at hf
  obtain ⟨c1, hf⟩ := ev_hp hf
  cases hf
  exact ev_rk 0 rfl c1
set_option maxRecDepth 20000 in
set_option maxHeartbeats 4000000 in
theorem tX12_isFree_b22 (d : Nat) (σ : SM) (q : Int32) (hf : fX12_isFree_b22 σ = some q) : ev_X (d + 2) (some .boolean) eiX12_isFree (22, [none, none], [], hM σ) (some (.int q), hM σ) := by
  unfold fX12_isFree_b22 at hf
  refine ev_go (c' := (23, [none, none], [.int ((0 : Int32))], hM σ)) 0 rfl ?_
  exact ev_dr (a := [none, none]) trivial (tX12_isFree_b23 d σ (0 : Int32) _ hf)
set_option maxRecDepth 20000 in
set_option maxHeartbeats 4000000 in
theorem tX12_isFree (d : Nat) (σ : SM) (v1 : Int32) (q : Int32) (hf : fX12_isFree σ v1 = some q) : ev_M ev_mt (d + 3) 135 [.ref 0, .int (v1)] (hM σ) (some (.int q), hM σ) := by
  refine ev_en (rt := (some .boolean)) (I := eiX12_isFree) rfl (Nat.le_of_ble_eq_true rfl) ?_
  change ev_X (d + 2) _ _ (0, [some (.ref 0), some (.int (v1))], [], hM σ) _
  unfold fX12_isFree at hf
  obtain ⟨r1, hr1, hf⟩ := Option.bind_eq_some_iff.mp hf
  refine ev_cli 2 (kk := 134) (as := [.ref 0, .int (v1)]) (rest := []) (pc := 2) (ls := [some (.ref 0), some (.int (v1))]) (st := [.int (v1), .ref 0]) (h := hM σ) rfl (tX12_isCell d σ v1 r1 hr1) ?_
  refine ev_br 0 (P := r1 = 0) (a := 22) (b := 8) (ls := [some (.ref 0), some (.int (v1))]) (st := []) (h := hM σ) rfl (fun c1 => ?_) (fun c1 => ?_)
  · rw [if_pos c1] at hf
    exact ev_dr (a := [none, none]) trivial (tX12_isFree_b22 d σ  _ hf)
  · rw [if_neg c1] at hf
    obtain ⟨c2, hf⟩ := ev_hp hf
    refine ev_ck 3 (P := ¬ (v1 < 0 ∨ 36 ≤ v1.toNatClampNeg)) (c' := (14, [some (.ref 0), some (.int (v1))], [.int (((gm_rg_cellOf σ) v1.toNatClampNeg))], hM σ)) rfl c2 ?_
    refine ev_br 1 (P := ((gm_rg_cellOf σ) v1.toNatClampNeg) < (2 : Int32)) (a := 18) (b := 22) (ls := [some (.ref 0), some (.int (v1))]) (st := []) (h := hM σ) rfl (fun c3 => ?_) (fun c3 => ?_)
    · rw [if_pos c3] at hf
      refine ev_go (c' := (23, [some (.ref 0), some (.int (v1))], [.int ((1 : Int32))], hM σ)) 1 rfl ?_
      exact ev_dr (a := [none, none]) trivial (tX12_isFree_b23 d σ (1 : Int32) _ hf)
    · rw [if_neg c3] at hf
      exact ev_dr (a := [none, none]) trivial (tX12_isFree_b22 d σ  _ hf)
set_option maxRecDepth 20000 in
set_option maxHeartbeats 4000000 in
theorem tX12_layLost_b44 (d : Nat) (k4 : SM → Int32 → Int32 → Option (Int32 × SM)) (hk4 : ∀ (σ : SM) (v1 : Int32) (v2 : Int32) (q : Int32 × SM), k4 σ v1 v2 = some q → ev_X (d + 3) (some .int) eiX12_layLost (4, [some (.ref 0), some (.int (v1)), some (.int (v2)), none], [], hM σ) (some (.int q.1), hM q.2)) (σ : SM) (v2 : Int32) (w0 : Int32) (w1 : Int32) (q : Int32 × SM) (hf : fX12_layLost_b44 k4 σ v2 w0 w1 = some q) : ev_X (d + 3) (some .int) eiX12_layLost (44, [some (.ref 0), none, some (.int (v2)), none], [.int (w0), .int (w1)], hM σ) (some (.int q.1), hM q.2) := by
  unfold fX12_layLost_b44 at hf
  refine ev_go (c' := (4, [some (.ref 0), some (.int ((w1 + w0))), some (.int ((v2 + (1 : Int32)))), none], [], hM σ)) 3 rfl ?_
  exact ev_dr (a := [some (.ref 0), some (.int ((w1 + w0))), some (.int ((v2 + (1 : Int32)))), none]) ⟨rfl, ⟨rfl, ⟨rfl, trivial⟩⟩⟩ (hk4 σ (w1 + w0) (v2 + (1 : Int32)) _ hf)
set_option maxRecDepth 20000 in
set_option maxHeartbeats 4000000 in
theorem tX12_layLost_b33 (d : Nat) (k4 : SM → Int32 → Int32 → Option (Int32 × SM)) (hk4 : ∀ (σ : SM) (v1 : Int32) (v2 : Int32) (q : Int32 × SM), k4 σ v1 v2 = some q → ev_X (d + 3) (some .int) eiX12_layLost (4, [some (.ref 0), some (.int (v1)), some (.int (v2)), none], [], hM σ) (some (.int q.1), hM q.2)) (σ : SM) (v1 : Int32) (v2 : Int32) (v3 : Int32) (w0 : Int64) (w1 : Int32) (q : Int32 × SM) (hf : fX12_layLost_b33 k4 σ v1 v2 v3 w0 w1 = some q) : ev_X (d + 3) (some .int) eiX12_layLost (33, [some (.ref 0), some (.int (v1)), some (.int (v2)), some (.int (v3))], [.long (w0), .int (w1), .ref 2], hM σ) (some (.int q.1), hM q.2) := by
  unfold fX12_layLost_b33 at hf
  obtain ⟨c1, hf⟩ := ev_hp hf
  refine ev_st1 (e := (33, .lastore, 1, 0, 0, .null, [], [])) (c' := (34, [some (.ref 0), some (.int (v1)), some (.int (v2)), some (.int (v3))], [], hM (sm_od_weight σ (vp_updL (gm_od_weight σ) w1.toNatClampNeg w0)))) rfl (oy_ast_m_od_weight c1) ?_
  refine ev_br 2 (P := v3 = 0) (a := 43) (b := 39) (ls := [some (.ref 0), some (.int (v1)), some (.int (v2)), some (.int (v3))]) (st := [.int (v1)]) (h := hM (sm_od_weight σ (vp_updL (gm_od_weight σ) w1.toNatClampNeg w0))) rfl (fun c2 => ?_) (fun c2 => ?_)
  · rw [if_pos c2] at hf
    refine ev_go (c' := (44, [some (.ref 0), some (.int (v1)), some (.int (v2)), some (.int (v3))], [.int ((0 : Int32)), .int (v1)], hM (sm_od_weight σ (vp_updL (gm_od_weight σ) w1.toNatClampNeg w0)))) 0 rfl ?_
    exact ev_dr (a := [some (.ref 0), none, some (.int (v2)), none]) ⟨rfl, ⟨rfl, trivial⟩⟩ (tX12_layLost_b44 d k4 hk4 (sm_od_weight σ (vp_updL (gm_od_weight σ) w1.toNatClampNeg w0)) v2 (0 : Int32) v1 _ hf)
  · rw [if_neg c2] at hf
    refine ev_go (c' := (44, [some (.ref 0), some (.int (v1)), some (.int (v2)), some (.int (v3))], [.int ((1 : Int32)), .int (v1)], hM (sm_od_weight σ (vp_updL (gm_od_weight σ) w1.toNatClampNeg w0)))) 1 rfl ?_
    exact ev_dr (a := [some (.ref 0), none, some (.int (v2)), none]) ⟨rfl, ⟨rfl, trivial⟩⟩ (tX12_layLost_b44 d k4 hk4 (sm_od_weight σ (vp_updL (gm_od_weight σ) w1.toNatClampNeg w0)) v2 (1 : Int32) v1 _ hf)
set_option maxRecDepth 20000 in
set_option maxHeartbeats 4000000 in
theorem tX12_layLost_b4 (d : Nat) (k4 : SM → Int32 → Int32 → Option (Int32 × SM)) (hk4 : ∀ (σ : SM) (v1 : Int32) (v2 : Int32) (q : Int32 × SM), k4 σ v1 v2 = some q → ev_X (d + 3) (some .int) eiX12_layLost (4, [some (.ref 0), some (.int (v1)), some (.int (v2)), none], [], hM σ) (some (.int q.1), hM q.2)) (σ : SM) (v1 : Int32) (v2 : Int32) (q : Int32 × SM) (hf : fX12_layLost_b4 k4 σ v1 v2 = some q) : ev_X (d + 3) (some .int) eiX12_layLost (4, [some (.ref 0), some (.int (v1)), some (.int (v2)), none], [], hM σ) (some (.int q.1), hM q.2) := by
  unfold fX12_layLost_b4 at hf
  refine ev_br 2 (P := v2 < (144 : Int32)) (a := 11) (b := 52) (ls := [some (.ref 0), some (.int (v1)), some (.int (v2)), none]) (st := []) (h := hM σ) rfl (fun c1 => ?_) (fun c1 => ?_)
  · rw [if_pos c1] at hf
    obtain ⟨r1, hr1, hf⟩ := Option.bind_eq_some_iff.mp hf
    refine ev_cli 4 (kk := 135) (as := [.ref 0, .int ((v2 / (4 : Int32)))]) (rest := []) (pc := 15) (ls := [some (.ref 0), some (.int (v1)), some (.int (v2)), none]) (st := [.int ((v2 / (4 : Int32))), .ref 0]) (h := hM σ) rfl (tX12_isFree d σ (v2 / (4 : Int32)) r1 hr1) ?_
    refine ev_br 5 (P := r1 = 0) (a := 32) (b := 28) (ls := [some (.ref 0), some (.int (v1)), some (.int (v2)), some (.int (r1))]) (st := [.int (v2), .ref 2]) (h := hM σ) rfl (fun c2 => ?_) (fun c2 => ?_)
    · rw [if_pos c2] at hf
      refine ev_go (c' := (33, [some (.ref 0), some (.int (v1)), some (.int (v2)), some (.int (r1))], [.long ((0 : Int64)), .int (v2), .ref 2], hM σ)) 0 rfl ?_
      exact ev_dr (a := [some (.ref 0), some (.int (v1)), some (.int (v2)), some (.int (r1))]) ⟨rfl, ⟨rfl, ⟨rfl, ⟨rfl, trivial⟩⟩⟩⟩ (tX12_layLost_b33 d k4 hk4 σ v1 v2 r1 (0 : Int64) v2 _ hf)
    · rw [if_neg c2] at hf
      refine ev_go (c' := (33, [some (.ref 0), some (.int (v1)), some (.int (v2)), some (.int (r1))], [.long ((1 : Int64)), .int (v2), .ref 2], hM σ)) 1 rfl ?_
      exact ev_dr (a := [some (.ref 0), some (.int (v1)), some (.int (v2)), some (.int (r1))]) ⟨rfl, ⟨rfl, ⟨rfl, ⟨rfl, trivial⟩⟩⟩⟩ (tX12_layLost_b33 d k4 hk4 σ v1 v2 r1 (1 : Int64) v2 _ hf)
  · rw [if_neg c1] at hf
    refine ev_go (c' := (54, [some (.ref 0), some (.int (v1)), some (.int (v2)), none], [.int ((0 : Int32)), .ref 0], hM σ)) 1 rfl ?_
    refine ev_st1 (e := (54, .putfield 129, 3, 6, 0, .null, [(12, 0)], [1056])) (c' := (57, [some (.ref 0), some (.int (v1)), some (.int (v2)), none], [], hM (sm_od_updates σ (0 : Int32)))) rfl oy_put_m_od_updates ?_
    cases hf
    exact ev_rt 1 rfl
theorem tX12_layLost_l4 (d : Nat) : ∀ (n : Nat) (σ : SM) (v1 : Int32) (v2 : Int32) (q : Int32 × SM), fX12_layLost_l4 n σ v1 v2 = some q → ev_X (d + 3) (some .int) eiX12_layLost (4, [some (.ref 0), some (.int (v1)), some (.int (v2)), none], [], hM σ) (some (.int q.1), hM q.2)
  | 0, _, _, _, _, hf => by cases hf
  | n + 1, σ, v1, v2, q, hf => tX12_layLost_b4 d (fX12_layLost_l4 n) (fun σ v1 v2 q h9 => tX12_layLost_l4 d n σ v1 v2 q h9) σ v1 v2 q hf
set_option maxRecDepth 20000 in
set_option maxHeartbeats 4000000 in
theorem tX12_layLost (d : Nat) (σ : SM) (q : Int32 × SM) (hf : fX12_layLost σ = some q) : ev_M ev_mt (d + 4) 140 [.ref 0] (hM σ) (some (.int q.1), hM q.2) := by
  refine ev_en (rt := (some .int)) (I := eiX12_layLost) rfl (Nat.le_of_ble_eq_true rfl) ?_
  change ev_X (d + 3) _ _ (0, [some (.ref 0), none, none, none], [], hM σ) _
  unfold fX12_layLost at hf
  refine ev_go (c' := (4, [some (.ref 0), some (.int ((0 : Int32))), some (.int ((0 : Int32))), none], [], hM σ)) 3 rfl ?_
  exact ev_dr (a := [some (.ref 0), some (.int ((0 : Int32))), some (.int ((0 : Int32))), none]) ⟨rfl, ⟨rfl, ⟨rfl, trivial⟩⟩⟩ (tX12_layLost_l4 d 1000 σ (0 : Int32) (0 : Int32) _ hf)
set_option maxRecDepth 20000 in
set_option maxHeartbeats 4000000 in
theorem tX12_ring_b81 (d : Nat) (k81 : SM → Int32 → Option (Int32 × SM)) (hk81 : ∀ (σ : SM) (v2 : Int32) (q : Int32 × SM), k81 σ v2 = some q → ev_X (d + 4) (some .int) eiX12_ring (81, [some (.ref 0), none, some (.int (v2))], [], hM σ) (some (.int q.1), hM q.2)) (σ : SM) (v2 : Int32) (q : Int32 × SM) (hf : fX12_ring_b81 k81 σ v2 = some q) : ev_X (d + 4) (some .int) eiX12_ring (81, [some (.ref 0), none, some (.int (v2))], [], hM σ) (some (.int q.1), hM q.2) := by
  unfold fX12_ring_b81 at hf
  refine ev_br 6 (P := v2 < ((gm_rg_rows σ) * (gm_rg_columns σ))) (a := 94) (b := 112) (ls := [some (.ref 0), none, some (.int (v2))]) (st := []) (h := hM σ) rfl (fun c1 => ?_) (fun c1 => ?_)
  · rw [if_pos c1] at hf
    obtain ⟨c2, hf⟩ := ev_hp hf
    refine ev_ck 6 (P := ¬ (v2 < 0 ∨ 36 ≤ v2.toNatClampNeg)) (c' := (105, [some (.ref 0), none, some (.int (v2))], [.int (((gm_rp_newCell σ) v2.toNatClampNeg)), .int (v2), .ref 1], hM σ)) rfl c2 ?_
    obtain ⟨c3, hf⟩ := ev_hp hf
    refine ev_st1 (e := (105, .iastore, 1, 0, 0, .null, [], [])) (c' := (106, [some (.ref 0), none, some (.int (v2))], [], hM (sm_rg_cellOf σ (upd (gm_rg_cellOf σ) v2.toNatClampNeg ((gm_rp_newCell σ) v2.toNatClampNeg))))) rfl (oy_ast_m_rg_cellOf c3) ?_
    refine ev_go (c' := (81, [some (.ref 0), none, some (.int ((v2 + (1 : Int32))))], [], hM (sm_rg_cellOf σ (upd (gm_rg_cellOf σ) v2.toNatClampNeg ((gm_rp_newCell σ) v2.toNatClampNeg))))) 1 rfl ?_
    exact ev_dr (a := [some (.ref 0), none, some (.int ((v2 + (1 : Int32))))]) ⟨rfl, ⟨rfl, trivial⟩⟩ (hk81 (sm_rg_cellOf σ (upd (gm_rg_cellOf σ) v2.toNatClampNeg ((gm_rp_newCell σ) v2.toNatClampNeg))) (v2 + (1 : Int32)) _ hf)
  · rw [if_neg c1] at hf
    refine ev_go (c' := (119, [some (.ref 0), none, some (.int (v2))], [.int (((gm_rg_rings σ) + (1 : Int32))), .ref 0], hM σ)) 4 rfl ?_
    refine ev_st1 (e := (119, .putfield 102, 3, 2, 0, .null, [(12, 0)], [1052])) (c' := (122, [some (.ref 0), none, some (.int (v2))], [], hM (sm_rg_rings σ ((gm_rg_rings σ) + (1 : Int32))))) rfl oy_put_m_rg_rings ?_
    refine ev_go (c' := (124, [some (.ref 0), none, some (.int (v2))], [.int ((0 : Int32)), .ref 0], hM (sm_rg_rings σ ((gm_rg_rings σ) + (1 : Int32))))) 1 rfl ?_
    refine ev_st1 (e := (124, .putfield 105, 3, 7, 0, .null, [(12, 0)], [1057])) (c' := (127, [some (.ref 0), none, some (.int (v2))], [], hM (sm_pl_players (sm_rg_rings σ ((gm_rg_rings σ) + (1 : Int32))) (0 : Int32)))) rfl oy_put_m_pl_players ?_
    refine ev_go (c' := (129, [some (.ref 0), none, some (.int (v2))], [.int ((-1 : Int32)), .ref 0], hM (sm_pl_players (sm_rg_rings σ ((gm_rg_rings σ) + (1 : Int32))) (0 : Int32)))) 1 rfl ?_
    refine ev_st1 (e := (129, .putfield 42, 3, 16, 0, .null, [(12, 0)], [1066])) (c' := (132, [some (.ref 0), none, some (.int (v2))], [], hM (sm_nm_jacketA (sm_pl_players (sm_rg_rings σ ((gm_rg_rings σ) + (1 : Int32))) (0 : Int32)) (-1 : Int32)))) rfl oy_put_m_nm_jacketA ?_
    refine ev_go (c' := (134, [some (.ref 0), none, some (.int (v2))], [.int ((-1 : Int32)), .ref 0], hM (sm_nm_jacketA (sm_pl_players (sm_rg_rings σ ((gm_rg_rings σ) + (1 : Int32))) (0 : Int32)) (-1 : Int32)))) 1 rfl ?_
    refine ev_st1 (e := (134, .putfield 45, 3, 17, 0, .null, [(12, 0)], [1067])) (c' := (137, [some (.ref 0), none, some (.int (v2))], [], hM (sm_nm_jacketB (sm_nm_jacketA (sm_pl_players (sm_rg_rings σ ((gm_rg_rings σ) + (1 : Int32))) (0 : Int32)) (-1 : Int32)) (-1 : Int32)))) rfl oy_put_m_nm_jacketB ?_
    refine ev_go (c' := (139, [some (.ref 0), none, some (.int (v2))], [.int ((0 : Int32)), .ref 0], hM (sm_nm_jacketB (sm_nm_jacketA (sm_pl_players (sm_rg_rings σ ((gm_rg_rings σ) + (1 : Int32))) (0 : Int32)) (-1 : Int32)) (-1 : Int32)))) 1 rfl ?_
    refine ev_st1 (e := (139, .putfield 108, 3, 18, 0, .null, [(12, 0)], [1068])) (c' := (142, [some (.ref 0), none, some (.int (v2))], [], hM (sm_nm_jacketTenths (sm_nm_jacketB (sm_nm_jacketA (sm_pl_players (sm_rg_rings σ ((gm_rg_rings σ) + (1 : Int32))) (0 : Int32)) (-1 : Int32)) (-1 : Int32)) (0 : Int32)))) rfl oy_put_m_nm_jacketTenths ?_
    obtain ⟨r2, hr2, hf⟩ := Option.bind_eq_some_iff.mp hf
    refine ev_cli 1 (kk := 140) (as := [.ref 0]) (rest := []) (pc := 143) (ls := [some (.ref 0), none, some (.int (v2))]) (st := [.ref 0]) (h := hM (sm_nm_jacketTenths (sm_nm_jacketB (sm_nm_jacketA (sm_pl_players (sm_rg_rings σ ((gm_rg_rings σ) + (1 : Int32))) (0 : Int32)) (-1 : Int32)) (-1 : Int32)) (0 : Int32))) rfl (tX12_layLost d (sm_nm_jacketTenths (sm_nm_jacketB (sm_nm_jacketA (sm_pl_players (sm_rg_rings σ ((gm_rg_rings σ) + (1 : Int32))) (0 : Int32)) (-1 : Int32)) (-1 : Int32)) (0 : Int32)) r2 hr2) ?_
    refine ev_go (c' := (149, [some (.ref 0), none, some (.int (v2))], [.int ((0 : Int32)), .ref 0], hM r2.2)) 2 rfl ?_
    refine ev_st1 (e := (149, .putfield 73, 3, 20, 0, .null, [(12, 0)], [1070])) (c' := (152, [some (.ref 0), none, some (.int (v2))], [], hM (sm_pg_pageLength r2.2 (0 : Int32)))) rfl oy_put_m_pg_pageLength ?_
    cases hf
    exact ev_rt 5 rfl
theorem tX12_ring_l81 (d : Nat) : ∀ (n : Nat) (σ : SM) (v2 : Int32) (q : Int32 × SM), fX12_ring_l81 n σ v2 = some q → ev_X (d + 4) (some .int) eiX12_ring (81, [some (.ref 0), none, some (.int (v2))], [], hM σ) (some (.int q.1), hM q.2)
  | 0, _, _, _, hf => by cases hf
  | n + 1, σ, v2, q, hf => tX12_ring_b81 d (fX12_ring_l81 n) (fun σ v2 q h9 => tX12_ring_l81 d n σ v2 q h9) σ v2 q hf
set_option maxRecDepth 20000 in
set_option maxHeartbeats 4000000 in
theorem tX12_ring_b54 (d : Nat) (σ : SM) (v1 : Int32) (q : Int32 × SM) (hf : fX12_ring_b54 σ v1 = some q) : ev_X (d + 4) (some .int) eiX12_ring (54, [some (.ref 0), some (.int (v1)), none], [], hM σ) (some (.int q.1), hM q.2) := by
  unfold fX12_ring_b54 at hf
  refine ev_br 1 (P := v1 = 0) (a := 58) (b := 61) (ls := [some (.ref 0), some (.int (v1)), none]) (st := []) (h := hM σ) rfl (fun c1 => ?_) (fun c1 => ?_)
  · rw [if_pos c1] at hf
    cases hf
    exact ev_rt 1 rfl
  · rw [if_neg c1] at hf
    refine ev_go (c' := (68, [some (.ref 0), some (.int (v1)), none], [.int (((gm_rp_newRows σ) + (1 : Int32))), .ref 0], hM σ)) 4 rfl ?_
    refine ev_st1 (e := (68, .putfield 96, 3, 0, 0, .null, [(12, 0)], [1050])) (c' := (71, [some (.ref 0), some (.int (v1)), none], [], hM (sm_rg_rows σ ((gm_rp_newRows σ) + (1 : Int32))))) rfl oy_put_m_rg_rows ?_
    refine ev_go (c' := (76, [some (.ref 0), some (.int (v1)), none], [.int ((gm_rp_newColumns σ)), .ref 0], hM (sm_rg_rows σ ((gm_rp_newRows σ) + (1 : Int32))))) 2 rfl ?_
    refine ev_st1 (e := (76, .putfield 99, 3, 1, 0, .null, [(12, 0)], [1051])) (c' := (79, [some (.ref 0), some (.int (v1)), none], [], hM (sm_rg_columns (sm_rg_rows σ ((gm_rp_newRows σ) + (1 : Int32))) (gm_rp_newColumns σ)))) rfl oy_put_m_rg_columns ?_
    refine ev_go (c' := (81, [some (.ref 0), some (.int (v1)), some (.int ((0 : Int32)))], [], hM (sm_rg_columns (sm_rg_rows σ ((gm_rp_newRows σ) + (1 : Int32))) (gm_rp_newColumns σ)))) 1 rfl ?_
    exact ev_dr (a := [some (.ref 0), none, some (.int ((0 : Int32)))]) ⟨rfl, ⟨rfl, trivial⟩⟩ (tX12_ring_l81 d 1000 (sm_rg_columns (sm_rg_rows σ ((gm_rp_newRows σ) + (1 : Int32))) (gm_rp_newColumns σ)) (0 : Int32) _ hf)
set_option maxRecDepth 20000 in
set_option maxHeartbeats 4000000 in
theorem tX12_ring_b46 (d : Nat) (k8 : SM → Int32 → Int32 → Option (Int32 × SM)) (hk8 : ∀ (σ : SM) (v1 : Int32) (v2 : Int32) (q : Int32 × SM), k8 σ v1 v2 = some q → ev_X (d + 4) (some .int) eiX12_ring (8, [some (.ref 0), some (.int (v1)), some (.int (v2))], [], hM σ) (some (.int q.1), hM q.2)) (σ : SM) (v2 : Int32) (w0 : Int32) (w1 : Int32) (q : Int32 × SM) (hf : fX12_ring_b46 k8 σ v2 w0 w1 = some q) : ev_X (d + 4) (some .int) eiX12_ring (46, [some (.ref 0), none, some (.int (v2))], [.int (w0), .int (w1)], hM σ) (some (.int q.1), hM q.2) := by
  unfold fX12_ring_b46 at hf
  refine ev_go (c' := (8, [some (.ref 0), some (.int ((w1 + w0))), some (.int ((v2 + (1 : Int32))))], [], hM σ)) 3 rfl ?_
  exact ev_dr (a := [some (.ref 0), some (.int ((w1 + w0))), some (.int ((v2 + (1 : Int32))))]) ⟨rfl, ⟨rfl, ⟨rfl, trivial⟩⟩⟩ (hk8 σ (w1 + w0) (v2 + (1 : Int32)) _ hf)
set_option maxRecDepth 20000 in
set_option maxHeartbeats 4000000 in
theorem tX12_ring_b8 (d : Nat) (k8 : SM → Int32 → Int32 → Option (Int32 × SM)) (hk8 : ∀ (σ : SM) (v1 : Int32) (v2 : Int32) (q : Int32 × SM), k8 σ v1 v2 = some q → ev_X (d + 4) (some .int) eiX12_ring (8, [some (.ref 0), some (.int (v1)), some (.int (v2))], [], hM σ) (some (.int q.1), hM q.2)) (σ : SM) (v1 : Int32) (v2 : Int32) (q : Int32 × SM) (hf : fX12_ring_b8 k8 σ v1 v2 = some q) : ev_X (d + 4) (some .int) eiX12_ring (8, [some (.ref 0), some (.int (v1)), some (.int (v2))], [], hM σ) (some (.int q.1), hM q.2) := by
  unfold fX12_ring_b8 at hf
  refine ev_br 2 (P := (gm_rp_isWhole σ) = 0) (a := 54) (b := 15) (ls := [some (.ref 0), some (.int (v1)), some (.int (v2))]) (st := []) (h := hM σ) rfl (fun c1 => ?_) (fun c1 => ?_)
  · rw [if_pos c1] at hf
    exact ev_dr (a := [some (.ref 0), some (.int (v1)), none]) ⟨rfl, ⟨rfl, trivial⟩⟩ (tX12_ring_b54 d σ v1 _ hf)
  · rw [if_neg c1] at hf
    refine ev_br 8 (P := v2 < (((gm_rp_newRows σ) + (1 : Int32)) * (gm_rp_newColumns σ))) (a := 30) (b := 54) (ls := [some (.ref 0), some (.int (v1)), some (.int (v2))]) (st := []) (h := hM σ) rfl (fun c2 => ?_) (fun c2 => ?_)
    · rw [if_pos c2] at hf
      obtain ⟨c3, hf⟩ := ev_hp hf
      refine ev_ck 4 (P := ¬ (v2 < 0 ∨ 36 ≤ v2.toNatClampNeg)) (c' := (37, [some (.ref 0), some (.int (v1)), some (.int (v2))], [.int (((gm_rp_newCell σ) v2.toNatClampNeg)), .int (v1)], hM σ)) rfl c3 ?_
      refine ev_br 1 (P := ((gm_rp_newCell σ) v2.toNatClampNeg) < (2 : Int32)) (a := 41) (b := 45) (ls := [some (.ref 0), some (.int (v1)), some (.int (v2))]) (st := [.int (v1)]) (h := hM σ) rfl (fun c4 => ?_) (fun c4 => ?_)
      · rw [if_pos c4] at hf
        refine ev_go (c' := (46, [some (.ref 0), some (.int (v1)), some (.int (v2))], [.int ((1 : Int32)), .int (v1)], hM σ)) 1 rfl ?_
        exact ev_dr (a := [some (.ref 0), none, some (.int (v2))]) ⟨rfl, ⟨rfl, trivial⟩⟩ (tX12_ring_b46 d k8 hk8 σ v2 (1 : Int32) v1 _ hf)
      · rw [if_neg c4] at hf
        refine ev_go (c' := (46, [some (.ref 0), some (.int (v1)), some (.int (v2))], [.int ((0 : Int32)), .int (v1)], hM σ)) 0 rfl ?_
        exact ev_dr (a := [some (.ref 0), none, some (.int (v2))]) ⟨rfl, ⟨rfl, trivial⟩⟩ (tX12_ring_b46 d k8 hk8 σ v2 (0 : Int32) v1 _ hf)
    · rw [if_neg c2] at hf
      exact ev_dr (a := [some (.ref 0), some (.int (v1)), none]) ⟨rfl, ⟨rfl, trivial⟩⟩ (tX12_ring_b54 d σ v1 _ hf)
theorem tX12_ring_l8 (d : Nat) : ∀ (n : Nat) (σ : SM) (v1 : Int32) (v2 : Int32) (q : Int32 × SM), fX12_ring_l8 n σ v1 v2 = some q → ev_X (d + 4) (some .int) eiX12_ring (8, [some (.ref 0), some (.int (v1)), some (.int (v2))], [], hM σ) (some (.int q.1), hM q.2)
  | 0, _, _, _, _, hf => by cases hf
  | n + 1, σ, v1, v2, q, hf => tX12_ring_b8 d (fX12_ring_l8 n) (fun σ v1 v2 q h9 => tX12_ring_l8 d n σ v1 v2 q h9) σ v1 v2 q hf
set_option maxRecDepth 20000 in
set_option maxHeartbeats 4000000 in
theorem tX12_ring (d : Nat) (σ : SM) (q : Int32 × SM) (hf : fX12_ring σ = some q) : ev_M ev_mt (d + 5) 132 [.ref 0] (hM σ) (some (.int q.1), hM q.2) := by
  refine ev_en (rt := (some .int)) (I := eiX12_ring) rfl (Nat.le_of_ble_eq_true rfl) ?_
  change ev_X (d + 4) _ _ (0, [some (.ref 0), none, none], [], hM σ) _
  unfold fX12_ring at hf
  obtain ⟨r1, hr1, hf⟩ := Option.bind_eq_some_iff.mp hf
  refine ev_clv 1 (kk := 130) (as := [.ref 0]) (rest := []) (pc := 1) (ls := [some (.ref 0), none, none]) (st := [.ref 0]) (h := hM σ) rfl (tX12_readPage (d + 2) σ r1 hr1) ?_
  refine ev_go (c' := (8, [some (.ref 0), some (.int ((0 : Int32))), some (.int ((0 : Int32)))], [], hM r1)) 3 rfl ?_
  exact ev_dr (a := [some (.ref 0), some (.int ((0 : Int32))), some (.int ((0 : Int32)))]) ⟨rfl, ⟨rfl, ⟨rfl, trivial⟩⟩⟩ (tX12_ring_l8 d 1000 r1 (0 : Int32) (0 : Int32) _ hf)
set_option maxRecDepth 20000 in
set_option maxHeartbeats 4000000 in
theorem tX12_cell_b19 (d : Nat) (σ : SM) (w0 : Int32) (q : Int32) (hf : fX12_cell_b19 σ w0 = some q) : ev_X (d + 2) (some .int) eiX12_cell (19, [none, none], [.int (w0)], hM σ) (some (.int q), hM σ) := by
  unfold fX12_cell_b19 at hf
  cases hf
  exact ev_rt 0 rfl
set_option maxRecDepth 20000 in
set_option maxHeartbeats 4000000 in
theorem tX12_cell (d : Nat) (σ : SM) (v1 : Int32) (q : Int32) (hf : fX12_cell σ v1 = some q) : ev_M ev_mt (d + 3) 136 [.ref 0, .int (v1)] (hM σ) (some (.int q), hM σ) := by
  refine ev_en (rt := (some .int)) (I := eiX12_cell) rfl (Nat.le_of_ble_eq_true rfl) ?_
  change ev_X (d + 2) _ _ (0, [some (.ref 0), some (.int (v1))], [], hM σ) _
  unfold fX12_cell at hf
  obtain ⟨r1, hr1, hf⟩ := Option.bind_eq_some_iff.mp hf
  refine ev_cli 2 (kk := 134) (as := [.ref 0, .int (v1)]) (rest := []) (pc := 2) (ls := [some (.ref 0), some (.int (v1))]) (st := [.int (v1), .ref 0]) (h := hM σ) rfl (tX12_isCell d σ v1 r1 hr1) ?_
  refine ev_br 0 (P := r1 = 0) (a := 17) (b := 8) (ls := [some (.ref 0), some (.int (v1))]) (st := []) (h := hM σ) rfl (fun c1 => ?_) (fun c1 => ?_)
  · rw [if_pos c1] at hf
    refine ev_go (c' := (19, [some (.ref 0), some (.int (v1))], [.int ((-101 : Int32))], hM σ)) 0 rfl ?_
    exact ev_dr (a := [none, none]) trivial (tX12_cell_b19 d σ (-101 : Int32) _ hf)
  · rw [if_neg c1] at hf
    obtain ⟨c2, hf⟩ := ev_hp hf
    refine ev_ck 3 (P := ¬ (v1 < 0 ∨ 36 ≤ v1.toNatClampNeg)) (c' := (14, [some (.ref 0), some (.int (v1))], [.int (((gm_rg_cellOf σ) v1.toNatClampNeg))], hM σ)) rfl c2 ?_
    refine ev_go (c' := (19, [some (.ref 0), some (.int (v1))], [.int (((gm_rg_cellOf σ) v1.toNatClampNeg))], hM σ)) 0 rfl ?_
    exact ev_dr (a := [none, none]) trivial (tX12_cell_b19 d σ ((gm_rg_cellOf σ) v1.toNatClampNeg) _ hf)
set_option maxRecDepth 20000 in
set_option maxHeartbeats 4000000 in
theorem tX12_on_b96 (d : Nat) (σ : SM) (w0 : Int32) (q : Int32) (hf : fX12_on_b96 σ w0 = some q) : ev_X (d + 1) (some .int) eiX12_on (96, [none, none, none, none, none], [.int (w0)], hM σ) (some (.int q), hM σ) := by
  unfold fX12_on_b96 at hf
  cases hf
  exact ev_rt 0 rfl
set_option maxRecDepth 20000 in
set_option maxHeartbeats 4000000 in
theorem tX12_on_b95 (d : Nat) (σ : SM) (q : Int32) (hf : fX12_on_b95 σ = some q) : ev_X (d + 1) (some .int) eiX12_on (95, [none, none, none, none, none], [], hM σ) (some (.int q), hM σ) := by
  unfold fX12_on_b95 at hf
  refine ev_go (c' := (96, [none, none, none, none, none], [.int ((-1 : Int32))], hM σ)) 0 rfl ?_
  exact ev_dr (a := [none, none, none, none, none]) trivial (tX12_on_b96 d σ (-1 : Int32) _ hf)
set_option maxRecDepth 20000 in
set_option maxHeartbeats 4000000 in
theorem tX12_on_b51 (d : Nat) (σ : SM) (v3 : Int32) (w0 : Int32) (w1 : Int32) (q : Int32) (hf : fX12_on_b51 σ v3 w0 w1 = some q) : ev_X (d + 1) (some .int) eiX12_on (51, [some (.ref 0), none, none, some (.int (v3)), none], [.int (w0), .int (w1)], hM σ) (some (.int q), hM σ) := by
  unfold fX12_on_b51 at hf
  obtain ⟨r1, hr1, hf⟩ := Option.bind_eq_some_iff.mp hf
  refine ev_cli 8 (kk := 123) (as := [.int (v3), .int ((0 : Int32)), .int (((gm_rg_rows σ) - (1 : Int32)))]) (rest := []) (pc := 62) (ls := [some (.ref 0), none, none, some (.int (v3)), some (.int ((w1 + w0)))]) (st := [.int (((gm_rg_rows σ) - (1 : Int32))), .int ((0 : Int32)), .int (v3)]) (h := hM σ) rfl (tX12_within d (hM σ) v3 (0 : Int32) ((gm_rg_rows σ) - (1 : Int32)) r1 hr1) ?_
  refine ev_br 0 (P := r1 = 0) (a := 95) (b := 68) (ls := [some (.ref 0), none, none, some (.int (v3)), some (.int ((w1 + w0)))]) (st := []) (h := hM σ) rfl (fun c1 => ?_) (fun c1 => ?_)
  · rw [if_pos c1] at hf
    exact ev_dr (a := [none, none, none, none, none]) trivial (tX12_on_b95 d σ  _ hf)
  · rw [if_neg c1] at hf
    obtain ⟨r2, hr2, hf⟩ := Option.bind_eq_some_iff.mp hf
    refine ev_cli 6 (kk := 123) (as := [.int ((w1 + w0)), .int ((0 : Int32)), .int (((gm_rg_columns σ) - (1 : Int32)))]) (rest := []) (pc := 77) (ls := [some (.ref 0), none, none, some (.int (v3)), some (.int ((w1 + w0)))]) (st := [.int (((gm_rg_columns σ) - (1 : Int32))), .int ((0 : Int32)), .int ((w1 + w0))]) (h := hM σ) rfl (tX12_within d (hM σ) (w1 + w0) (0 : Int32) ((gm_rg_columns σ) - (1 : Int32)) r2 hr2) ?_
    refine ev_br 0 (P := r2 = 0) (a := 95) (b := 83) (ls := [some (.ref 0), none, none, some (.int (v3)), some (.int ((w1 + w0)))]) (st := []) (h := hM σ) rfl (fun c2 => ?_) (fun c2 => ?_)
    · rw [if_pos c2] at hf
      exact ev_dr (a := [none, none, none, none, none]) trivial (tX12_on_b95 d σ  _ hf)
    · rw [if_neg c2] at hf
      refine ev_go (c' := (96, [some (.ref 0), none, none, some (.int (v3)), some (.int ((w1 + w0)))], [.int (((v3 * (gm_rg_columns σ)) + (w1 + w0)))], hM σ)) 6 rfl ?_
      exact ev_dr (a := [none, none, none, none, none]) trivial (tX12_on_b96 d σ ((v3 * (gm_rg_columns σ)) + (w1 + w0)) _ hf)
set_option maxRecDepth 20000 in
set_option maxHeartbeats 4000000 in
theorem tX12_on_b24 (d : Nat) (σ : SM) (v1 : Int32) (v2 : Int32) (w0 : Int32) (w1 : Int32) (q : Int32) (hf : fX12_on_b24 σ v1 v2 w0 w1 = some q) : ev_X (d + 1) (some .int) eiX12_on (24, [some (.ref 0), some (.int (v1)), some (.int (v2)), none, none], [.int (w0), .int (w1)], hM σ) (some (.int q), hM σ) := by
  unfold fX12_on_b24 at hf
  obtain ⟨c1, hf⟩ := ev_hp hf
  refine ev_ck 5 (P := ¬ (gm_rg_columns σ) = 0) (c' := (32, [some (.ref 0), some (.int (v1)), some (.int (v2)), some (.int ((w1 + w0))), none], [.int ((v1 - v1 / (gm_rg_columns σ) * (gm_rg_columns σ)))], hM σ)) rfl c1 ?_
  refine ev_br 2 (P := v2 = (1 : Int32)) (a := 37) (b := 41) (ls := [some (.ref 0), some (.int (v1)), some (.int (v2)), some (.int ((w1 + w0))), none]) (st := [.int ((v1 - v1 / (gm_rg_columns σ) * (gm_rg_columns σ)))]) (h := hM σ) rfl (fun c2 => ?_) (fun c2 => ?_)
  · rw [if_pos c2] at hf
    refine ev_go (c' := (51, [some (.ref 0), some (.int (v1)), some (.int (v2)), some (.int ((w1 + w0))), none], [.int ((1 : Int32)), .int ((v1 - v1 / (gm_rg_columns σ) * (gm_rg_columns σ)))], hM σ)) 1 rfl ?_
    exact ev_dr (a := [some (.ref 0), none, none, some (.int ((w1 + w0))), none]) ⟨rfl, ⟨rfl, trivial⟩⟩ (tX12_on_b51 d σ (w1 + w0) (1 : Int32) (v1 - v1 / (gm_rg_columns σ) * (gm_rg_columns σ)) _ hf)
  · rw [if_neg c2] at hf
    refine ev_br 2 (P := v2 = (3 : Int32)) (a := 46) (b := 50) (ls := [some (.ref 0), some (.int (v1)), some (.int (v2)), some (.int ((w1 + w0))), none]) (st := [.int ((v1 - v1 / (gm_rg_columns σ) * (gm_rg_columns σ)))]) (h := hM σ) rfl (fun c3 => ?_) (fun c3 => ?_)
    · rw [if_pos c3] at hf
      refine ev_go (c' := (51, [some (.ref 0), some (.int (v1)), some (.int (v2)), some (.int ((w1 + w0))), none], [.int ((-1 : Int32)), .int ((v1 - v1 / (gm_rg_columns σ) * (gm_rg_columns σ)))], hM σ)) 1 rfl ?_
      exact ev_dr (a := [some (.ref 0), none, none, some (.int ((w1 + w0))), none]) ⟨rfl, ⟨rfl, trivial⟩⟩ (tX12_on_b51 d σ (w1 + w0) (-1 : Int32) (v1 - v1 / (gm_rg_columns σ) * (gm_rg_columns σ)) _ hf)
    · rw [if_neg c3] at hf
      refine ev_go (c' := (51, [some (.ref 0), some (.int (v1)), some (.int (v2)), some (.int ((w1 + w0))), none], [.int ((0 : Int32)), .int ((v1 - v1 / (gm_rg_columns σ) * (gm_rg_columns σ)))], hM σ)) 0 rfl ?_
      exact ev_dr (a := [some (.ref 0), none, none, some (.int ((w1 + w0))), none]) ⟨rfl, ⟨rfl, trivial⟩⟩ (tX12_on_b51 d σ (w1 + w0) (0 : Int32) (v1 - v1 / (gm_rg_columns σ) * (gm_rg_columns σ)) _ hf)
set_option maxRecDepth 20000 in
set_option maxHeartbeats 4000000 in
theorem tX12_on (d : Nat) (σ : SM) (v1 : Int32) (v2 : Int32) (q : Int32) (hf : fX12_on σ v1 v2 = some q) : ev_M ev_mt (d + 2) 137 [.ref 0, .int (v1), .int (v2)] (hM σ) (some (.int q), hM σ) := by
  refine ev_en (rt := (some .int)) (I := eiX12_on) rfl (Nat.le_of_ble_eq_true rfl) ?_
  change ev_X (d + 1) _ _ (0, [some (.ref 0), some (.int (v1)), some (.int (v2)), none, none], [], hM σ) _
  unfold fX12_on at hf
  obtain ⟨c1, hf⟩ := ev_hp hf
  refine ev_ck 3 (P := ¬ (gm_rg_columns σ) = 0) (c' := (6, [some (.ref 0), some (.int (v1)), some (.int (v2)), none, none], [.int ((v1 / (gm_rg_columns σ)))], hM σ)) rfl c1 ?_
  refine ev_br 1 (P := v2 = 0) (a := 10) (b := 14) (ls := [some (.ref 0), some (.int (v1)), some (.int (v2)), none, none]) (st := [.int ((v1 / (gm_rg_columns σ)))]) (h := hM σ) rfl (fun c2 => ?_) (fun c2 => ?_)
  · rw [if_pos c2] at hf
    refine ev_go (c' := (24, [some (.ref 0), some (.int (v1)), some (.int (v2)), none, none], [.int ((-1 : Int32)), .int ((v1 / (gm_rg_columns σ)))], hM σ)) 1 rfl ?_
    exact ev_dr (a := [some (.ref 0), some (.int (v1)), some (.int (v2)), none, none]) ⟨rfl, ⟨rfl, ⟨rfl, trivial⟩⟩⟩ (tX12_on_b24 d σ v1 v2 (-1 : Int32) (v1 / (gm_rg_columns σ)) _ hf)
  · rw [if_neg c2] at hf
    refine ev_br 2 (P := v2 = (2 : Int32)) (a := 19) (b := 23) (ls := [some (.ref 0), some (.int (v1)), some (.int (v2)), none, none]) (st := [.int ((v1 / (gm_rg_columns σ)))]) (h := hM σ) rfl (fun c3 => ?_) (fun c3 => ?_)
    · rw [if_pos c3] at hf
      refine ev_go (c' := (24, [some (.ref 0), some (.int (v1)), some (.int (v2)), none, none], [.int ((1 : Int32)), .int ((v1 / (gm_rg_columns σ)))], hM σ)) 1 rfl ?_
      exact ev_dr (a := [some (.ref 0), some (.int (v1)), some (.int (v2)), none, none]) ⟨rfl, ⟨rfl, ⟨rfl, trivial⟩⟩⟩ (tX12_on_b24 d σ v1 v2 (1 : Int32) (v1 / (gm_rg_columns σ)) _ hf)
    · rw [if_neg c3] at hf
      refine ev_go (c' := (24, [some (.ref 0), some (.int (v1)), some (.int (v2)), none, none], [.int ((0 : Int32)), .int ((v1 / (gm_rg_columns σ)))], hM σ)) 0 rfl ?_
      exact ev_dr (a := [some (.ref 0), some (.int (v1)), some (.int (v2)), none, none]) ⟨rfl, ⟨rfl, ⟨rfl, trivial⟩⟩⟩ (tX12_on_b24 d σ v1 v2 (0 : Int32) (v1 / (gm_rg_columns σ)) _ hf)
set_option maxRecDepth 20000 in
set_option maxHeartbeats 4000000 in
theorem tX12_isWay (d : Nat) (h : ev_H) (v0 : Int32) (q : Int32) (hf : fX12_isWay v0 = some q) : ev_M ev_mt (d + 2) 138 [.int (v0)] (h) (some (.int q), h) := by
  refine ev_en (rt := (some .boolean)) (I := eiX12_isWay) rfl (Nat.le_of_ble_eq_true rfl) ?_
  change ev_X (d + 1) _ _ (0, [some (.int (v0))], [], h) _
  unfold fX12_isWay at hf
  obtain ⟨r1, hr1, hf⟩ := Option.bind_eq_some_iff.mp hf
  refine ev_cli 3 (kk := 123) (as := [.int (v0), .int ((0 : Int32)), .int ((3 : Int32))]) (rest := []) (pc := 3) (ls := [some (.int (v0))]) (st := [.int ((3 : Int32)), .int ((0 : Int32)), .int (v0)]) (h := h) rfl (tX12_within d (h) v0 (0 : Int32) (3 : Int32) r1 hr1) ?_
  obtain ⟨c1, hf⟩ := ev_hp hf
  cases hf
  exact ev_rk 0 rfl c1
set_option maxRecDepth 20000 in
set_option maxHeartbeats 4000000 in
theorem tX12_clear_b2 (d : Nat) (k2 : SM → Int32 → Option (SM)) (hk2 : ∀ (σ : SM) (v1 : Int32) (q : SM), k2 σ v1 = some q → ev_X d none eiX12_clear (2, [some (.ref 0), some (.int (v1))], [], hM σ) (none, hM q)) (σ : SM) (v1 : Int32) (q : SM) (hf : fX12_clear_b2 k2 σ v1 = some q) : ev_X d none eiX12_clear (2, [some (.ref 0), some (.int (v1))], [], hM σ) (none, hM q) := by
  unfold fX12_clear_b2 at hf
  refine ev_br 2 (P := v1 < (144 : Int32)) (a := 9) (b := 22) (ls := [some (.ref 0), some (.int (v1))]) (st := []) (h := hM σ) rfl (fun c1 => ?_) (fun c1 => ?_)
  · rw [if_pos c1] at hf
    obtain ⟨c2, hf⟩ := ev_hp hf
    refine ev_go (c' := (15, [some (.ref 0), some (.int (v1))], [.long ((0 : Int64)), .int (v1), .ref 3], hM σ)) 3 rfl ?_
    refine ev_st1 (e := (15, .lastore, 1, 0, 0, .null, [], [])) (c' := (16, [some (.ref 0), some (.int (v1))], [], hM (sm_od_then σ (vp_updL (gm_od_then σ) v1.toNatClampNeg (0 : Int64))))) rfl (oy_ast_m_od_then c2) ?_
    refine ev_go (c' := (2, [some (.ref 0), some (.int ((v1 + (1 : Int32))))], [], hM (sm_od_then σ (vp_updL (gm_od_then σ) v1.toNatClampNeg (0 : Int64))))) 1 rfl ?_
    exact ev_dr (a := [some (.ref 0), some (.int ((v1 + (1 : Int32))))]) ⟨rfl, ⟨rfl, trivial⟩⟩ (hk2 (sm_od_then σ (vp_updL (gm_od_then σ) v1.toNatClampNeg (0 : Int64))) (v1 + (1 : Int32)) _ hf)
  · rw [if_neg c1] at hf
    cases hf
    exact ev_rt 0 rfl
theorem tX12_clear_l2 (d : Nat) : ∀ (n : Nat) (σ : SM) (v1 : Int32) (q : SM), fX12_clear_l2 n σ v1 = some q → ev_X d none eiX12_clear (2, [some (.ref 0), some (.int (v1))], [], hM σ) (none, hM q)
  | 0, _, _, _, hf => by cases hf
  | n + 1, σ, v1, q, hf => tX12_clear_b2 d (fX12_clear_l2 n) (fun σ v1 q h9 => tX12_clear_l2 d n σ v1 q h9) σ v1 q hf
set_option maxRecDepth 20000 in
set_option maxHeartbeats 4000000 in
theorem tX12_clear (d : Nat) (σ : SM) (q : SM) (hf : fX12_clear σ = some q) : ev_M ev_mt (d + 1) 139 [.ref 0] (hM σ) (none, hM q) := by
  refine ev_en (rt := none) (I := eiX12_clear) rfl (Nat.le_of_ble_eq_true rfl) ?_
  change ev_X d _ _ (0, [some (.ref 0), none], [], hM σ) _
  unfold fX12_clear at hf
  refine ev_go (c' := (2, [some (.ref 0), some (.int ((0 : Int32)))], [], hM σ)) 1 rfl ?_
  exact ev_dr (a := [some (.ref 0), some (.int ((0 : Int32)))]) ⟨rfl, ⟨rfl, trivial⟩⟩ (tX12_clear_l2 d 1000 σ (0 : Int32) _ hf)
set_option maxRecDepth 20000 in
set_option maxHeartbeats 4000000 in
theorem tX12_set_b49 (d : Nat) (k23 : SM → Int32 → Int32 → Int32 → Option (Int32 × SM)) (hk23 : ∀ (σ : SM) (v1 : Int32) (v2 : Int32) (v3 : Int32) (q : Int32 × SM), k23 σ v1 v2 v3 = some q → ev_X (d + 3) (some .int) eiX12_set (23, [some (.ref 0), some (.int (v1)), some (.int (v2)), some (.int (v3))], [], hM σ) (some (.int q.1), hM q.2)) (σ : SM) (v1 : Int32) (v2 : Int32) (v3 : Int32) (w0 : Int64) (w1 : Int32) (q : Int32 × SM) (hf : fX12_set_b49 k23 σ v1 v2 v3 w0 w1 = some q) : ev_X (d + 3) (some .int) eiX12_set (49, [some (.ref 0), some (.int (v1)), some (.int (v2)), some (.int (v3))], [.long (w0), .int (w1), .ref 2], hM σ) (some (.int q.1), hM q.2) := by
  unfold fX12_set_b49 at hf
  obtain ⟨c1, hf⟩ := ev_hp hf
  refine ev_st1 (e := (49, .lastore, 1, 0, 0, .null, [], [])) (c' := (50, [some (.ref 0), some (.int (v1)), some (.int (v2)), some (.int (v3))], [], hM (sm_od_weight σ (vp_updL (gm_od_weight σ) w1.toNatClampNeg w0)))) rfl (oy_ast_m_od_weight c1) ?_
  refine ev_go (c' := (23, [some (.ref 0), some (.int (v1)), some (.int (v2)), some (.int ((v3 + (1 : Int32))))], [], hM (sm_od_weight σ (vp_updL (gm_od_weight σ) w1.toNatClampNeg w0)))) 1 rfl ?_
  exact ev_dr (a := [some (.ref 0), some (.int (v1)), some (.int (v2)), some (.int ((v3 + (1 : Int32))))]) ⟨rfl, ⟨rfl, ⟨rfl, ⟨rfl, trivial⟩⟩⟩⟩ (hk23 (sm_od_weight σ (vp_updL (gm_od_weight σ) w1.toNatClampNeg w0)) v1 v2 (v3 + (1 : Int32)) _ hf)
set_option maxRecDepth 20000 in
set_option maxHeartbeats 4000000 in
theorem tX12_set_b23 (d : Nat) (k23 : SM → Int32 → Int32 → Int32 → Option (Int32 × SM)) (hk23 : ∀ (σ : SM) (v1 : Int32) (v2 : Int32) (v3 : Int32) (q : Int32 × SM), k23 σ v1 v2 v3 = some q → ev_X (d + 3) (some .int) eiX12_set (23, [some (.ref 0), some (.int (v1)), some (.int (v2)), some (.int (v3))], [], hM σ) (some (.int q.1), hM q.2)) (σ : SM) (v1 : Int32) (v2 : Int32) (v3 : Int32) (q : Int32 × SM) (hf : fX12_set_b23 k23 σ v1 v2 v3 = some q) : ev_X (d + 3) (some .int) eiX12_set (23, [some (.ref 0), some (.int (v1)), some (.int (v2)), some (.int (v3))], [], hM σ) (some (.int q.1), hM q.2) := by
  unfold fX12_set_b23 at hf
  refine ev_br 2 (P := v3 < (144 : Int32)) (a := 30) (b := 56) (ls := [some (.ref 0), some (.int (v1)), some (.int (v2)), some (.int (v3))]) (st := []) (h := hM σ) rfl (fun c1 => ?_) (fun c1 => ?_)
  · rw [if_pos c1] at hf
    refine ev_br 9 (P := v3 = (((4 : Int32) * v1) + v2)) (a := 44) (b := 48) (ls := [some (.ref 0), some (.int (v1)), some (.int (v2)), some (.int (v3))]) (st := [.int (v3), .ref 2]) (h := hM σ) rfl (fun c2 => ?_) (fun c2 => ?_)
    · rw [if_pos c2] at hf
      refine ev_go (c' := (49, [some (.ref 0), some (.int (v1)), some (.int (v2)), some (.int (v3))], [.long ((1 : Int64)), .int (v3), .ref 2], hM σ)) 1 rfl ?_
      exact ev_dr (a := [some (.ref 0), some (.int (v1)), some (.int (v2)), some (.int (v3))]) ⟨rfl, ⟨rfl, ⟨rfl, ⟨rfl, trivial⟩⟩⟩⟩ (tX12_set_b49 d k23 hk23 σ v1 v2 v3 (1 : Int64) v3 _ hf)
    · rw [if_neg c2] at hf
      refine ev_go (c' := (49, [some (.ref 0), some (.int (v1)), some (.int (v2)), some (.int (v3))], [.long ((0 : Int64)), .int (v3), .ref 2], hM σ)) 0 rfl ?_
      exact ev_dr (a := [some (.ref 0), some (.int (v1)), some (.int (v2)), some (.int (v3))]) ⟨rfl, ⟨rfl, ⟨rfl, ⟨rfl, trivial⟩⟩⟩⟩ (tX12_set_b49 d k23 hk23 σ v1 v2 v3 (0 : Int64) v3 _ hf)
  · rw [if_neg c1] at hf
    refine ev_go (c' := (58, [some (.ref 0), some (.int (v1)), some (.int (v2)), some (.int (v3))], [.int ((0 : Int32)), .ref 0], hM σ)) 1 rfl ?_
    refine ev_st1 (e := (58, .putfield 129, 3, 6, 0, .null, [(12, 0)], [1056])) (c' := (61, [some (.ref 0), some (.int (v1)), some (.int (v2)), some (.int (v3))], [], hM (sm_od_updates σ (0 : Int32)))) rfl oy_put_m_od_updates ?_
    cases hf
    exact ev_rt 1 rfl
theorem tX12_set_l23 (d : Nat) : ∀ (n : Nat) (σ : SM) (v1 : Int32) (v2 : Int32) (v3 : Int32) (q : Int32 × SM), fX12_set_l23 n σ v1 v2 v3 = some q → ev_X (d + 3) (some .int) eiX12_set (23, [some (.ref 0), some (.int (v1)), some (.int (v2)), some (.int (v3))], [], hM σ) (some (.int q.1), hM q.2)
  | 0, _, _, _, _, _, hf => by cases hf
  | n + 1, σ, v1, v2, v3, q, hf => tX12_set_b23 d (fX12_set_l23 n) (fun σ v1 v2 v3 q h9 => tX12_set_l23 d n σ v1 v2 v3 q h9) σ v1 v2 v3 q hf
set_option maxRecDepth 20000 in
set_option maxHeartbeats 4000000 in
theorem tX12_set (d : Nat) (σ : SM) (v1 : Int32) (v2 : Int32) (q : Int32 × SM) (hf : fX12_set σ v1 v2 = some q) : ev_M ev_mt (d + 4) 141 [.ref 0, .int (v1), .int (v2)] (hM σ) (some (.int q.1), hM q.2) := by
  refine ev_en (rt := (some .int)) (I := eiX12_set) rfl (Nat.le_of_ble_eq_true rfl) ?_
  change ev_X (d + 3) _ _ (0, [some (.ref 0), some (.int (v1)), some (.int (v2)), none], [], hM σ) _
  unfold fX12_set at hf
  obtain ⟨r1, hr1, hf⟩ := Option.bind_eq_some_iff.mp hf
  refine ev_cli 2 (kk := 135) (as := [.ref 0, .int (v1)]) (rest := []) (pc := 2) (ls := [some (.ref 0), some (.int (v1)), some (.int (v2)), none]) (st := [.int (v1), .ref 0]) (h := hM σ) rfl (tX12_isFree d σ v1 r1 hr1) ?_
  refine ev_br 0 (P := r1 = 0) (a := 8) (b := 11) (ls := [some (.ref 0), some (.int (v1)), some (.int (v2)), none]) (st := []) (h := hM σ) rfl (fun c1 => ?_) (fun c1 => ?_)
  · rw [if_pos c1] at hf
    cases hf
    exact ev_rt 1 rfl
  · rw [if_neg c1] at hf
    obtain ⟨r2, hr2, hf⟩ := Option.bind_eq_some_iff.mp hf
    refine ev_cli 1 (kk := 138) (as := [.int (v2)]) (rest := []) (pc := 12) (ls := [some (.ref 0), some (.int (v1)), some (.int (v2)), none]) (st := [.int (v2)]) (h := hM σ) rfl (tX12_isWay (d + 1) (hM σ) v2 r2 hr2) ?_
    refine ev_br 0 (P := r2 = 0) (a := 18) (b := 21) (ls := [some (.ref 0), some (.int (v1)), some (.int (v2)), none]) (st := []) (h := hM σ) rfl (fun c2 => ?_) (fun c2 => ?_)
    · rw [if_pos c2] at hf
      cases hf
      exact ev_rt 1 rfl
    · rw [if_neg c2] at hf
      refine ev_go (c' := (23, [some (.ref 0), some (.int (v1)), some (.int (v2)), some (.int ((0 : Int32)))], [], hM σ)) 1 rfl ?_
      exact ev_dr (a := [some (.ref 0), some (.int (v1)), some (.int (v2)), some (.int ((0 : Int32)))]) ⟨rfl, ⟨rfl, ⟨rfl, ⟨rfl, trivial⟩⟩⟩⟩ (tX12_set_l23 d 1000 σ v1 v2 (0 : Int32) _ hf)
set_option maxRecDepth 20000 in
set_option maxHeartbeats 4000000 in
theorem tX12_lost_b16 (d : Nat) (σ : SM) (w0 : Int32) (q : Int32 × SM) (hf : fX12_lost_b16 σ w0 = some q) : ev_X (d + 4) (some .int) eiX12_lost (16, [none], [.int (w0)], hM σ) (some (.int q.1), hM q.2) := by
  unfold fX12_lost_b16 at hf
  cases hf
  exact ev_rt 0 rfl
set_option maxRecDepth 20000 in
set_option maxHeartbeats 4000000 in
theorem tX12_lost (d : Nat) (σ : SM) (q : Int32 × SM) (hf : fX12_lost σ = some q) : ev_M ev_mt (d + 5) 142 [.ref 0] (hM σ) (some (.int q.1), hM q.2) := by
  refine ev_en (rt := (some .int)) (I := eiX12_lost) rfl (Nat.le_of_ble_eq_true rfl) ?_
  change ev_X (d + 4) _ _ (0, [some (.ref 0)], [], hM σ) _
  unfold fX12_lost at hf
  refine ev_br 2 (P := (gm_rg_rings σ) = 0) (a := 7) (b := 12) (ls := [some (.ref 0)]) (st := []) (h := hM σ) rfl (fun c1 => ?_) (fun c1 => ?_)
  · rw [if_pos c1] at hf
    refine ev_go (c' := (16, [some (.ref 0)], [.int ((-103 : Int32))], hM σ)) 1 rfl ?_
    exact ev_dr (a := [none]) trivial (tX12_lost_b16 d σ (-103 : Int32) _ hf)
  · rw [if_neg c1] at hf
    obtain ⟨r1, hr1, hf⟩ := Option.bind_eq_some_iff.mp hf
    refine ev_cli 1 (kk := 140) (as := [.ref 0]) (rest := []) (pc := 13) (ls := [some (.ref 0)]) (st := [.ref 0]) (h := hM σ) rfl (tX12_layLost d σ r1 hr1) ?_
    exact ev_dr (a := [none]) trivial (tX12_lost_b16 d r1.2 r1.1 _ hf)
set_option maxRecDepth 20000 in
set_option maxHeartbeats 4000000 in
theorem tX12_above_b28 (d : Nat) (σ : SM) (k4 : Int32 → Int32 → Option (Int32)) (hk4 : ∀ (v1 : Int32) (v2 : Int32) (q : Int32), k4 v1 v2 = some q → ev_X d (some .int) eiX12_above (4, [some (.ref 0), some (.int (v1)), some (.int (v2))], [], hM σ) (some (.int q), hM σ)) (v2 : Int32) (w0 : Int32) (w1 : Int32) (q : Int32) (hf : fX12_above_b28 σ k4 v2 w0 w1 = some q) : ev_X d (some .int) eiX12_above (28, [some (.ref 0), none, some (.int (v2))], [.int (w0), .int (w1)], hM σ) (some (.int q), hM σ) := by
  unfold fX12_above_b28 at hf
  refine ev_go (c' := (4, [some (.ref 0), some (.int ((w1 + w0))), some (.int ((v2 + (1 : Int32))))], [], hM σ)) 3 rfl ?_
  exact ev_dr (a := [some (.ref 0), some (.int ((w1 + w0))), some (.int ((v2 + (1 : Int32))))]) ⟨rfl, ⟨rfl, ⟨rfl, trivial⟩⟩⟩ (hk4 (w1 + w0) (v2 + (1 : Int32)) _ hf)
set_option maxRecDepth 20000 in
set_option maxHeartbeats 4000000 in
theorem tX12_above_b4 (d : Nat) (σ : SM) (k4 : Int32 → Int32 → Option (Int32)) (hk4 : ∀ (v1 : Int32) (v2 : Int32) (q : Int32), k4 v1 v2 = some q → ev_X d (some .int) eiX12_above (4, [some (.ref 0), some (.int (v1)), some (.int (v2))], [], hM σ) (some (.int q), hM σ)) (v1 : Int32) (v2 : Int32) (q : Int32) (hf : fX12_above_b4 σ k4 v1 v2 = some q) : ev_X d (some .int) eiX12_above (4, [some (.ref 0), some (.int (v1)), some (.int (v2))], [], hM σ) (some (.int q), hM σ) := by
  unfold fX12_above_b4 at hf
  refine ev_br 2 (P := v2 < (144 : Int32)) (a := 11) (b := 36) (ls := [some (.ref 0), some (.int (v1)), some (.int (v2))]) (st := []) (h := hM σ) rfl (fun c1 => ?_) (fun c1 => ?_)
  · rw [if_pos c1] at hf
    obtain ⟨c2, hf⟩ := ev_hp hf
    refine ev_ck 4 (P := ¬ (v2 < 0 ∨ 144 ≤ v2.toNatClampNeg)) (c' := (18, [some (.ref 0), some (.int (v1)), some (.int (v2))], [.long (((gm_od_weight σ) v2.toNatClampNeg)), .int (v1)], hM σ)) rfl c2 ?_
    refine ev_bi 2 (lg_cmp_gt ((gm_od_weight σ) v2.toNatClampNeg) (0 : Int64)) (a := 23) (b := 27) (ls := [some (.ref 0), some (.int (v1)), some (.int (v2))]) (st := [.int (v1)]) (h := hM σ) rfl (fun c3 => ?_) (fun c3 => ?_)
    · rw [if_pos c3] at hf
      refine ev_go (c' := (28, [some (.ref 0), some (.int (v1)), some (.int (v2))], [.int ((1 : Int32)), .int (v1)], hM σ)) 1 rfl ?_
      exact ev_dr (a := [some (.ref 0), none, some (.int (v2))]) ⟨rfl, ⟨rfl, trivial⟩⟩ (tX12_above_b28 d σ k4 hk4 v2 (1 : Int32) v1 _ hf)
    · rw [if_neg c3] at hf
      refine ev_go (c' := (28, [some (.ref 0), some (.int (v1)), some (.int (v2))], [.int ((0 : Int32)), .int (v1)], hM σ)) 0 rfl ?_
      exact ev_dr (a := [some (.ref 0), none, some (.int (v2))]) ⟨rfl, ⟨rfl, trivial⟩⟩ (tX12_above_b28 d σ k4 hk4 v2 (0 : Int32) v1 _ hf)
  · rw [if_neg c1] at hf
    cases hf
    exact ev_rt 1 rfl
theorem tX12_above_l4 (d : Nat) (σ : SM) : ∀ (n : Nat) (v1 : Int32) (v2 : Int32) (q : Int32), fX12_above_l4 σ n v1 v2 = some q → ev_X d (some .int) eiX12_above (4, [some (.ref 0), some (.int (v1)), some (.int (v2))], [], hM σ) (some (.int q), hM σ)
  | 0, _, _, _, hf => by cases hf
  | n + 1, v1, v2, q, hf => tX12_above_b4 d σ (fX12_above_l4 σ n) (fun v1 v2 q h9 => tX12_above_l4 d σ n v1 v2 q h9) v1 v2 q hf
set_option maxRecDepth 20000 in
set_option maxHeartbeats 4000000 in
theorem tX12_above (d : Nat) (σ : SM) (q : Int32) (hf : fX12_above σ = some q) : ev_M ev_mt (d + 1) 143 [.ref 0] (hM σ) (some (.int q), hM σ) := by
  refine ev_en (rt := (some .int)) (I := eiX12_above) rfl (Nat.le_of_ble_eq_true rfl) ?_
  change ev_X d _ _ (0, [some (.ref 0), none, none], [], hM σ) _
  unfold fX12_above at hf
  refine ev_go (c' := (4, [some (.ref 0), some (.int ((0 : Int32))), some (.int ((0 : Int32)))], [], hM σ)) 3 rfl ?_
  exact ev_dr (a := [some (.ref 0), some (.int ((0 : Int32))), some (.int ((0 : Int32)))]) ⟨rfl, ⟨rfl, ⟨rfl, trivial⟩⟩⟩ (tX12_above_l4 d σ 1000 (0 : Int32) (0 : Int32) _ hf)
set_option maxRecDepth 20000 in
set_option maxHeartbeats 4000000 in
theorem tX12_take_b38 (d : Nat) (k38 : SM → Int64 → Int32 → Option (Int32 × SM)) (hk38 : ∀ (σ : SM) (v1 : Int64) (v3 : Int32) (q : Int32 × SM), k38 σ v1 v3 = some q → ev_X (d + 1) (some .int) eiX12_take (38, [some (.ref 0), some (.long (v1)), none, some (.int (v3))], [], hM σ) (some (.int q.1), hM q.2)) (σ : SM) (v1 : Int64) (v3 : Int32) (q : Int32 × SM) (hf : fX12_take_b38 k38 σ v1 v3 = some q) : ev_X (d + 1) (some .int) eiX12_take (38, [some (.ref 0), some (.long (v1)), none, some (.int (v3))], [], hM σ) (some (.int q.1), hM q.2) := by
  unfold fX12_take_b38 at hf
  refine ev_br 2 (P := v3 < (144 : Int32)) (a := 45) (b := 65) (ls := [some (.ref 0), some (.long (v1)), none, some (.int (v3))]) (st := []) (h := hM σ) rfl (fun c1 => ?_) (fun c1 => ?_)
  · rw [if_pos c1] at hf
    obtain ⟨c2, hf⟩ := ev_hp hf
    refine ev_ck 6 (P := ¬ (v3 < 0 ∨ 144 ≤ v3.toNatClampNeg)) (c' := (56, [some (.ref 0), some (.long (v1)), none, some (.int (v3))], [.long (((gm_od_then σ) v3.toNatClampNeg)), .int (v3), .ref 2], hM σ)) rfl c2 ?_
    obtain ⟨c3, hf⟩ := ev_hp hf
    refine ev_ck 1 (P := ¬ v1 = 0) (c' := (58, [some (.ref 0), some (.long (v1)), none, some (.int (v3))], [.long ((((gm_od_then σ) v3.toNatClampNeg) / v1)), .int (v3), .ref 2], hM σ)) rfl c3 ?_
    obtain ⟨c4, hf⟩ := ev_hp hf
    refine ev_st1 (e := (58, .lastore, 1, 0, 0, .null, [], [])) (c' := (59, [some (.ref 0), some (.long (v1)), none, some (.int (v3))], [], hM (sm_od_weight σ (vp_updL (gm_od_weight σ) v3.toNatClampNeg (((gm_od_then σ) v3.toNatClampNeg) / v1))))) rfl (oy_ast_m_od_weight c4) ?_
    refine ev_go (c' := (38, [some (.ref 0), some (.long (v1)), none, some (.int ((v3 + (1 : Int32))))], [], hM (sm_od_weight σ (vp_updL (gm_od_weight σ) v3.toNatClampNeg (((gm_od_then σ) v3.toNatClampNeg) / v1))))) 1 rfl ?_
    exact ev_dr (a := [some (.ref 0), some (.long (v1)), none, some (.int ((v3 + (1 : Int32))))]) ⟨rfl, ⟨rfl, ⟨rfl, trivial⟩⟩⟩ (hk38 (sm_od_weight σ (vp_updL (gm_od_weight σ) v3.toNatClampNeg (((gm_od_then σ) v3.toNatClampNeg) / v1))) v1 (v3 + (1 : Int32)) _ hf)
  · rw [if_neg c1] at hf
    refine ev_go (c' := (72, [some (.ref 0), some (.long (v1)), none, some (.int (v3))], [.int (((gm_od_updates σ) + (1 : Int32))), .ref 0], hM σ)) 4 rfl ?_
    refine ev_st1 (e := (72, .putfield 129, 3, 6, 0, .null, [(12, 0)], [1056])) (c' := (75, [some (.ref 0), some (.long (v1)), none, some (.int (v3))], [], hM (sm_od_updates σ ((gm_od_updates σ) + (1 : Int32))))) rfl oy_put_m_od_updates ?_
    obtain ⟨r1, hr1, hf⟩ := Option.bind_eq_some_iff.mp hf
    refine ev_cli 1 (kk := 143) (as := [.ref 0]) (rest := []) (pc := 76) (ls := [some (.ref 0), some (.long (v1)), none, some (.int (v3))]) (st := [.ref 0]) (h := hM (sm_od_updates σ ((gm_od_updates σ) + (1 : Int32)))) rfl (tX12_above d (sm_od_updates σ ((gm_od_updates σ) + (1 : Int32))) r1 hr1) ?_
    cases hf
    exact ev_rt 0 rfl
theorem tX12_take_l38 (d : Nat) : ∀ (n : Nat) (σ : SM) (v1 : Int64) (v3 : Int32) (q : Int32 × SM), fX12_take_l38 n σ v1 v3 = some q → ev_X (d + 1) (some .int) eiX12_take (38, [some (.ref 0), some (.long (v1)), none, some (.int (v3))], [], hM σ) (some (.int q.1), hM q.2)
  | 0, _, _, _, _, hf => by cases hf
  | n + 1, σ, v1, v3, q, hf => tX12_take_b38 d (fX12_take_l38 n) (fun σ v1 v3 q h9 => tX12_take_l38 d n σ v1 v3 q h9) σ v1 v3 q hf
set_option maxRecDepth 20000 in
set_option maxHeartbeats 4000000 in
theorem tX12_take_b4 (d : Nat) (k4 : SM → Int64 → Int32 → Option (Int32 × SM)) (hk4 : ∀ (σ : SM) (v1 : Int64) (v3 : Int32) (q : Int32 × SM), k4 σ v1 v3 = some q → ev_X (d + 1) (some .int) eiX12_take (4, [some (.ref 0), some (.long (v1)), none, some (.int (v3))], [], hM σ) (some (.int q.1), hM q.2)) (σ : SM) (v1 : Int64) (v3 : Int32) (q : Int32 × SM) (hf : fX12_take_b4 k4 σ v1 v3 = some q) : ev_X (d + 1) (some .int) eiX12_take (4, [some (.ref 0), some (.long (v1)), none, some (.int (v3))], [], hM σ) (some (.int q.1), hM q.2) := by
  unfold fX12_take_b4 at hf
  refine ev_br 2 (P := v3 < (144 : Int32)) (a := 11) (b := 28) (ls := [some (.ref 0), some (.long (v1)), none, some (.int (v3))]) (st := []) (h := hM σ) rfl (fun c1 => ?_) (fun c1 => ?_)
  · rw [if_pos c1] at hf
    obtain ⟨c2, hf⟩ := ev_hp hf
    refine ev_ck 4 (P := ¬ (v3 < 0 ∨ 144 ≤ v3.toNatClampNeg)) (c' := (18, [some (.ref 0), some (.long (v1)), none, some (.int (v3))], [.long (((gm_od_then σ) v3.toNatClampNeg)), .long (v1)], hM σ)) rfl c2 ?_
    obtain ⟨r2, hr2, hf⟩ := Option.bind_eq_some_iff.mp hf
    refine ev_cll 0 (kk := 125) (as := [.long (v1), .long (((gm_od_then σ) v3.toNatClampNeg))]) (rest := []) (pc := 18) (ls := [some (.ref 0), some (.long (v1)), none, some (.int (v3))]) (st := [.long (((gm_od_then σ) v3.toNatClampNeg)), .long (v1)]) (h := hM σ) rfl (tX12_divisor d (hM σ) v1 ((gm_od_then σ) v3.toNatClampNeg) r2 hr2) ?_
    refine ev_go (c' := (4, [some (.ref 0), some (.long (r2)), none, some (.int ((v3 + (1 : Int32))))], [], hM σ)) 2 rfl ?_
    exact ev_dr (a := [some (.ref 0), some (.long (r2)), none, some (.int ((v3 + (1 : Int32))))]) ⟨rfl, ⟨rfl, ⟨rfl, trivial⟩⟩⟩ (hk4 σ r2 (v3 + (1 : Int32)) _ hf)
  · rw [if_neg c1] at hf
    refine ev_bi 3 (lg_cmp_eq v1 (0 : Int64)) (a := 34) (b := 36) (ls := [some (.ref 0), some (.long (v1)), none, some (.int (v3))]) (st := []) (h := hM σ) rfl (fun c3 => ?_) (fun c3 => ?_)
    · rw [if_pos c3] at hf
      cases hf
      exact ev_rt 1 rfl
    · rw [if_neg c3] at hf
      refine ev_go (c' := (38, [some (.ref 0), some (.long (v1)), none, some (.int ((0 : Int32)))], [], hM σ)) 1 rfl ?_
      exact ev_dr (a := [some (.ref 0), some (.long (v1)), none, some (.int ((0 : Int32)))]) ⟨rfl, ⟨rfl, ⟨rfl, trivial⟩⟩⟩ (tX12_take_l38 d 1000 σ v1 (0 : Int32) _ hf)
theorem tX12_take_l4 (d : Nat) : ∀ (n : Nat) (σ : SM) (v1 : Int64) (v3 : Int32) (q : Int32 × SM), fX12_take_l4 n σ v1 v3 = some q → ev_X (d + 1) (some .int) eiX12_take (4, [some (.ref 0), some (.long (v1)), none, some (.int (v3))], [], hM σ) (some (.int q.1), hM q.2)
  | 0, _, _, _, _, hf => by cases hf
  | n + 1, σ, v1, v3, q, hf => tX12_take_b4 d (fX12_take_l4 n) (fun σ v1 v3 q h9 => tX12_take_l4 d n σ v1 v3 q h9) σ v1 v3 q hf
set_option maxRecDepth 20000 in
set_option maxHeartbeats 4000000 in
theorem tX12_take (d : Nat) (σ : SM) (q : Int32 × SM) (hf : fX12_take σ = some q) : ev_M ev_mt (d + 2) 144 [.ref 0] (hM σ) (some (.int q.1), hM q.2) := by
  refine ev_en (rt := (some .int)) (I := eiX12_take) rfl (Nat.le_of_ble_eq_true rfl) ?_
  change ev_X (d + 1) _ _ (0, [some (.ref 0), none, none, none], [], hM σ) _
  unfold fX12_take at hf
  refine ev_go (c' := (4, [some (.ref 0), some (.long ((0 : Int64))), none, some (.int ((0 : Int32)))], [], hM σ)) 3 rfl ?_
  exact ev_dr (a := [some (.ref 0), some (.long ((0 : Int64))), none, some (.int ((0 : Int32)))]) ⟨rfl, ⟨rfl, ⟨rfl, trivial⟩⟩⟩ (tX12_take_l4 d 1000 σ (0 : Int64) (0 : Int32) _ hf)
set_option maxRecDepth 20000 in
set_option maxHeartbeats 4000000 in
theorem tX12_turned_b40 (d : Nat) (k40 : SM → Int32 → Int32 → Option (Int32 × SM)) (hk40 : ∀ (σ : SM) (v1 : Int32) (v2 : Int32) (q : Int32 × SM), k40 σ v1 v2 = some q → ev_X (d + 2) (some .int) eiX12_turned (40, [some (.ref 0), some (.int (v1)), some (.int (v2)), none, none], [], hM σ) (some (.int q.1), hM q.2)) (σ : SM) (v1 : Int32) (v2 : Int32) (q : Int32 × SM) (hf : fX12_turned_b40 k40 σ v1 v2 = some q) : ev_X (d + 2) (some .int) eiX12_turned (40, [some (.ref 0), some (.int (v1)), some (.int (v2)), none, none], [], hM σ) (some (.int q.1), hM q.2) := by
  unfold fX12_turned_b40 at hf
  refine ev_br 2 (P := v2 < (144 : Int32)) (a := 47) (b := 137) (ls := [some (.ref 0), some (.int (v1)), some (.int (v2)), none, none]) (st := []) (h := hM σ) rfl (fun c1 => ?_) (fun c1 => ?_)
  · rw [if_pos c1] at hf
    obtain ⟨c2, hf⟩ := ev_hp hf
    refine ev_ck 14 (P := ¬ (v2 < 0 ∨ 144 ≤ v2.toNatClampNeg)) (c' := (65, [some (.ref 0), some (.int (v1)), some (.int (v2)), some (.int (((v2 / (4 : Int32)) * (4 : Int32)))), some (.int ((v2 - v2 / (4 : Int32) * (4 : Int32))))], [.long (((gm_od_then σ) v2.toNatClampNeg)), .int (v2), .ref 3], hM σ)) rfl c2 ?_
    obtain ⟨c3, hf⟩ := ev_hp hf
    refine ev_ck 9 (P := ¬ (v2 < 0 ∨ 144 ≤ v2.toNatClampNeg)) (c' := (78, [some (.ref 0), some (.int (v1)), some (.int (v2)), some (.int (((v2 / (4 : Int32)) * (4 : Int32)))), some (.int ((v2 - v2 / (4 : Int32) * (4 : Int32))))], [.long (((gm_od_weight σ) v2.toNatClampNeg)), .long (((10 : Int32) - ((2 : Int32) * v1)).toInt64), .long (((gm_od_then σ) v2.toNatClampNeg)), .int (v2), .ref 3], hM σ)) rfl c3 ?_
    obtain ⟨c4, hf⟩ := ev_hp hf
    refine ev_go (c' := (80, [some (.ref 0), some (.int (v1)), some (.int (v2)), some (.int (((v2 / (4 : Int32)) * (4 : Int32)))), some (.int ((v2 - v2 / (4 : Int32) * (4 : Int32))))], [.long ((((gm_od_then σ) v2.toNatClampNeg) + (((10 : Int32) - ((2 : Int32) * v1)).toInt64 * ((gm_od_weight σ) v2.toNatClampNeg)))), .int (v2), .ref 3], hM σ)) 1 rfl ?_
    refine ev_st1 (e := (80, .lastore, 1, 0, 0, .null, [], [])) (c' := (81, [some (.ref 0), some (.int (v1)), some (.int (v2)), some (.int (((v2 / (4 : Int32)) * (4 : Int32)))), some (.int ((v2 - v2 / (4 : Int32) * (4 : Int32))))], [], hM (sm_od_then σ (vp_updL (gm_od_then σ) v2.toNatClampNeg (((gm_od_then σ) v2.toNatClampNeg) + (((10 : Int32) - ((2 : Int32) * v1)).toInt64 * ((gm_od_weight σ) v2.toNatClampNeg))))))) rfl (oy_ast_m_od_then c4) ?_
    obtain ⟨c5, hf⟩ := ev_hp hf
    refine ev_ck 10 (P := ¬ ((((v2 / (4 : Int32)) * (4 : Int32)) + (((v2 - v2 / (4 : Int32) * (4 : Int32)) + (1 : Int32)) - ((v2 - v2 / (4 : Int32) * (4 : Int32)) + (1 : Int32)) / (4 : Int32) * (4 : Int32))) < 0 ∨ 144 ≤ (((v2 / (4 : Int32)) * (4 : Int32)) + (((v2 - v2 / (4 : Int32) * (4 : Int32)) + (1 : Int32)) - ((v2 - v2 / (4 : Int32) * (4 : Int32)) + (1 : Int32)) / (4 : Int32) * (4 : Int32))).toNatClampNeg)) (c' := (95, [some (.ref 0), some (.int (v1)), some (.int (v2)), some (.int (((v2 / (4 : Int32)) * (4 : Int32)))), some (.int ((v2 - v2 / (4 : Int32) * (4 : Int32))))], [.long (((vp_updL (gm_od_then σ) v2.toNatClampNeg (((gm_od_then σ) v2.toNatClampNeg) + (((10 : Int32) - ((2 : Int32) * v1)).toInt64 * ((gm_od_weight σ) v2.toNatClampNeg)))) (((v2 / (4 : Int32)) * (4 : Int32)) + (((v2 - v2 / (4 : Int32) * (4 : Int32)) + (1 : Int32)) - ((v2 - v2 / (4 : Int32) * (4 : Int32)) + (1 : Int32)) / (4 : Int32) * (4 : Int32))).toNatClampNeg)), .int ((((v2 / (4 : Int32)) * (4 : Int32)) + (((v2 - v2 / (4 : Int32) * (4 : Int32)) + (1 : Int32)) - ((v2 - v2 / (4 : Int32) * (4 : Int32)) + (1 : Int32)) / (4 : Int32) * (4 : Int32)))), .ref 3], hM (sm_od_then σ (vp_updL (gm_od_then σ) v2.toNatClampNeg (((gm_od_then σ) v2.toNatClampNeg) + (((10 : Int32) - ((2 : Int32) * v1)).toInt64 * ((gm_od_weight σ) v2.toNatClampNeg))))))) rfl c5 ?_
    obtain ⟨c6, hf⟩ := ev_hp hf
    refine ev_ck 5 (P := ¬ (v2 < 0 ∨ 144 ≤ v2.toNatClampNeg)) (c' := (103, [some (.ref 0), some (.int (v1)), some (.int (v2)), some (.int (((v2 / (4 : Int32)) * (4 : Int32)))), some (.int ((v2 - v2 / (4 : Int32) * (4 : Int32))))], [.long (((gm_od_weight σ) v2.toNatClampNeg)), .long (v1.toInt64), .long (((vp_updL (gm_od_then σ) v2.toNatClampNeg (((gm_od_then σ) v2.toNatClampNeg) + (((10 : Int32) - ((2 : Int32) * v1)).toInt64 * ((gm_od_weight σ) v2.toNatClampNeg)))) (((v2 / (4 : Int32)) * (4 : Int32)) + (((v2 - v2 / (4 : Int32) * (4 : Int32)) + (1 : Int32)) - ((v2 - v2 / (4 : Int32) * (4 : Int32)) + (1 : Int32)) / (4 : Int32) * (4 : Int32))).toNatClampNeg)), .int ((((v2 / (4 : Int32)) * (4 : Int32)) + (((v2 - v2 / (4 : Int32) * (4 : Int32)) + (1 : Int32)) - ((v2 - v2 / (4 : Int32) * (4 : Int32)) + (1 : Int32)) / (4 : Int32) * (4 : Int32)))), .ref 3], hM (sm_od_then σ (vp_updL (gm_od_then σ) v2.toNatClampNeg (((gm_od_then σ) v2.toNatClampNeg) + (((10 : Int32) - ((2 : Int32) * v1)).toInt64 * ((gm_od_weight σ) v2.toNatClampNeg))))))) rfl c6 ?_
    obtain ⟨c7, hf⟩ := ev_hp hf
    refine ev_go (c' := (105, [some (.ref 0), some (.int (v1)), some (.int (v2)), some (.int (((v2 / (4 : Int32)) * (4 : Int32)))), some (.int ((v2 - v2 / (4 : Int32) * (4 : Int32))))], [.long ((((vp_updL (gm_od_then σ) v2.toNatClampNeg (((gm_od_then σ) v2.toNatClampNeg) + (((10 : Int32) - ((2 : Int32) * v1)).toInt64 * ((gm_od_weight σ) v2.toNatClampNeg)))) (((v2 / (4 : Int32)) * (4 : Int32)) + (((v2 - v2 / (4 : Int32) * (4 : Int32)) + (1 : Int32)) - ((v2 - v2 / (4 : Int32) * (4 : Int32)) + (1 : Int32)) / (4 : Int32) * (4 : Int32))).toNatClampNeg) + (v1.toInt64 * ((gm_od_weight σ) v2.toNatClampNeg)))), .int ((((v2 / (4 : Int32)) * (4 : Int32)) + (((v2 - v2 / (4 : Int32) * (4 : Int32)) + (1 : Int32)) - ((v2 - v2 / (4 : Int32) * (4 : Int32)) + (1 : Int32)) / (4 : Int32) * (4 : Int32)))), .ref 3], hM (sm_od_then σ (vp_updL (gm_od_then σ) v2.toNatClampNeg (((gm_od_then σ) v2.toNatClampNeg) + (((10 : Int32) - ((2 : Int32) * v1)).toInt64 * ((gm_od_weight σ) v2.toNatClampNeg))))))) 1 rfl ?_
    refine ev_st1 (e := (105, .lastore, 1, 0, 0, .null, [], [])) (c' := (106, [some (.ref 0), some (.int (v1)), some (.int (v2)), some (.int (((v2 / (4 : Int32)) * (4 : Int32)))), some (.int ((v2 - v2 / (4 : Int32) * (4 : Int32))))], [], hM (sm_od_then (sm_od_then σ (vp_updL (gm_od_then σ) v2.toNatClampNeg (((gm_od_then σ) v2.toNatClampNeg) + (((10 : Int32) - ((2 : Int32) * v1)).toInt64 * ((gm_od_weight σ) v2.toNatClampNeg))))) (vp_updL (vp_updL (gm_od_then σ) v2.toNatClampNeg (((gm_od_then σ) v2.toNatClampNeg) + (((10 : Int32) - ((2 : Int32) * v1)).toInt64 * ((gm_od_weight σ) v2.toNatClampNeg)))) (((v2 / (4 : Int32)) * (4 : Int32)) + (((v2 - v2 / (4 : Int32) * (4 : Int32)) + (1 : Int32)) - ((v2 - v2 / (4 : Int32) * (4 : Int32)) + (1 : Int32)) / (4 : Int32) * (4 : Int32))).toNatClampNeg (((vp_updL (gm_od_then σ) v2.toNatClampNeg (((gm_od_then σ) v2.toNatClampNeg) + (((10 : Int32) - ((2 : Int32) * v1)).toInt64 * ((gm_od_weight σ) v2.toNatClampNeg)))) (((v2 / (4 : Int32)) * (4 : Int32)) + (((v2 - v2 / (4 : Int32) * (4 : Int32)) + (1 : Int32)) - ((v2 - v2 / (4 : Int32) * (4 : Int32)) + (1 : Int32)) / (4 : Int32) * (4 : Int32))).toNatClampNeg) + (v1.toInt64 * ((gm_od_weight σ) v2.toNatClampNeg))))))) rfl (oy_ast_m_od_then c7) ?_
    obtain ⟨c8, hf⟩ := ev_hp hf
    refine ev_ck 10 (P := ¬ ((((v2 / (4 : Int32)) * (4 : Int32)) + (((v2 - v2 / (4 : Int32) * (4 : Int32)) + (3 : Int32)) - ((v2 - v2 / (4 : Int32) * (4 : Int32)) + (3 : Int32)) / (4 : Int32) * (4 : Int32))) < 0 ∨ 144 ≤ (((v2 / (4 : Int32)) * (4 : Int32)) + (((v2 - v2 / (4 : Int32) * (4 : Int32)) + (3 : Int32)) - ((v2 - v2 / (4 : Int32) * (4 : Int32)) + (3 : Int32)) / (4 : Int32) * (4 : Int32))).toNatClampNeg)) (c' := (120, [some (.ref 0), some (.int (v1)), some (.int (v2)), some (.int (((v2 / (4 : Int32)) * (4 : Int32)))), some (.int ((v2 - v2 / (4 : Int32) * (4 : Int32))))], [.long (((vp_updL (vp_updL (gm_od_then σ) v2.toNatClampNeg (((gm_od_then σ) v2.toNatClampNeg) + (((10 : Int32) - ((2 : Int32) * v1)).toInt64 * ((gm_od_weight σ) v2.toNatClampNeg)))) (((v2 / (4 : Int32)) * (4 : Int32)) + (((v2 - v2 / (4 : Int32) * (4 : Int32)) + (1 : Int32)) - ((v2 - v2 / (4 : Int32) * (4 : Int32)) + (1 : Int32)) / (4 : Int32) * (4 : Int32))).toNatClampNeg (((vp_updL (gm_od_then σ) v2.toNatClampNeg (((gm_od_then σ) v2.toNatClampNeg) + (((10 : Int32) - ((2 : Int32) * v1)).toInt64 * ((gm_od_weight σ) v2.toNatClampNeg)))) (((v2 / (4 : Int32)) * (4 : Int32)) + (((v2 - v2 / (4 : Int32) * (4 : Int32)) + (1 : Int32)) - ((v2 - v2 / (4 : Int32) * (4 : Int32)) + (1 : Int32)) / (4 : Int32) * (4 : Int32))).toNatClampNeg) + (v1.toInt64 * ((gm_od_weight σ) v2.toNatClampNeg)))) (((v2 / (4 : Int32)) * (4 : Int32)) + (((v2 - v2 / (4 : Int32) * (4 : Int32)) + (3 : Int32)) - ((v2 - v2 / (4 : Int32) * (4 : Int32)) + (3 : Int32)) / (4 : Int32) * (4 : Int32))).toNatClampNeg)), .int ((((v2 / (4 : Int32)) * (4 : Int32)) + (((v2 - v2 / (4 : Int32) * (4 : Int32)) + (3 : Int32)) - ((v2 - v2 / (4 : Int32) * (4 : Int32)) + (3 : Int32)) / (4 : Int32) * (4 : Int32)))), .ref 3], hM (sm_od_then (sm_od_then σ (vp_updL (gm_od_then σ) v2.toNatClampNeg (((gm_od_then σ) v2.toNatClampNeg) + (((10 : Int32) - ((2 : Int32) * v1)).toInt64 * ((gm_od_weight σ) v2.toNatClampNeg))))) (vp_updL (vp_updL (gm_od_then σ) v2.toNatClampNeg (((gm_od_then σ) v2.toNatClampNeg) + (((10 : Int32) - ((2 : Int32) * v1)).toInt64 * ((gm_od_weight σ) v2.toNatClampNeg)))) (((v2 / (4 : Int32)) * (4 : Int32)) + (((v2 - v2 / (4 : Int32) * (4 : Int32)) + (1 : Int32)) - ((v2 - v2 / (4 : Int32) * (4 : Int32)) + (1 : Int32)) / (4 : Int32) * (4 : Int32))).toNatClampNeg (((vp_updL (gm_od_then σ) v2.toNatClampNeg (((gm_od_then σ) v2.toNatClampNeg) + (((10 : Int32) - ((2 : Int32) * v1)).toInt64 * ((gm_od_weight σ) v2.toNatClampNeg)))) (((v2 / (4 : Int32)) * (4 : Int32)) + (((v2 - v2 / (4 : Int32) * (4 : Int32)) + (1 : Int32)) - ((v2 - v2 / (4 : Int32) * (4 : Int32)) + (1 : Int32)) / (4 : Int32) * (4 : Int32))).toNatClampNeg) + (v1.toInt64 * ((gm_od_weight σ) v2.toNatClampNeg))))))) rfl c8 ?_
    obtain ⟨c9, hf⟩ := ev_hp hf
    refine ev_ck 5 (P := ¬ (v2 < 0 ∨ 144 ≤ v2.toNatClampNeg)) (c' := (128, [some (.ref 0), some (.int (v1)), some (.int (v2)), some (.int (((v2 / (4 : Int32)) * (4 : Int32)))), some (.int ((v2 - v2 / (4 : Int32) * (4 : Int32))))], [.long (((gm_od_weight σ) v2.toNatClampNeg)), .long (v1.toInt64), .long (((vp_updL (vp_updL (gm_od_then σ) v2.toNatClampNeg (((gm_od_then σ) v2.toNatClampNeg) + (((10 : Int32) - ((2 : Int32) * v1)).toInt64 * ((gm_od_weight σ) v2.toNatClampNeg)))) (((v2 / (4 : Int32)) * (4 : Int32)) + (((v2 - v2 / (4 : Int32) * (4 : Int32)) + (1 : Int32)) - ((v2 - v2 / (4 : Int32) * (4 : Int32)) + (1 : Int32)) / (4 : Int32) * (4 : Int32))).toNatClampNeg (((vp_updL (gm_od_then σ) v2.toNatClampNeg (((gm_od_then σ) v2.toNatClampNeg) + (((10 : Int32) - ((2 : Int32) * v1)).toInt64 * ((gm_od_weight σ) v2.toNatClampNeg)))) (((v2 / (4 : Int32)) * (4 : Int32)) + (((v2 - v2 / (4 : Int32) * (4 : Int32)) + (1 : Int32)) - ((v2 - v2 / (4 : Int32) * (4 : Int32)) + (1 : Int32)) / (4 : Int32) * (4 : Int32))).toNatClampNeg) + (v1.toInt64 * ((gm_od_weight σ) v2.toNatClampNeg)))) (((v2 / (4 : Int32)) * (4 : Int32)) + (((v2 - v2 / (4 : Int32) * (4 : Int32)) + (3 : Int32)) - ((v2 - v2 / (4 : Int32) * (4 : Int32)) + (3 : Int32)) / (4 : Int32) * (4 : Int32))).toNatClampNeg)), .int ((((v2 / (4 : Int32)) * (4 : Int32)) + (((v2 - v2 / (4 : Int32) * (4 : Int32)) + (3 : Int32)) - ((v2 - v2 / (4 : Int32) * (4 : Int32)) + (3 : Int32)) / (4 : Int32) * (4 : Int32)))), .ref 3], hM (sm_od_then (sm_od_then σ (vp_updL (gm_od_then σ) v2.toNatClampNeg (((gm_od_then σ) v2.toNatClampNeg) + (((10 : Int32) - ((2 : Int32) * v1)).toInt64 * ((gm_od_weight σ) v2.toNatClampNeg))))) (vp_updL (vp_updL (gm_od_then σ) v2.toNatClampNeg (((gm_od_then σ) v2.toNatClampNeg) + (((10 : Int32) - ((2 : Int32) * v1)).toInt64 * ((gm_od_weight σ) v2.toNatClampNeg)))) (((v2 / (4 : Int32)) * (4 : Int32)) + (((v2 - v2 / (4 : Int32) * (4 : Int32)) + (1 : Int32)) - ((v2 - v2 / (4 : Int32) * (4 : Int32)) + (1 : Int32)) / (4 : Int32) * (4 : Int32))).toNatClampNeg (((vp_updL (gm_od_then σ) v2.toNatClampNeg (((gm_od_then σ) v2.toNatClampNeg) + (((10 : Int32) - ((2 : Int32) * v1)).toInt64 * ((gm_od_weight σ) v2.toNatClampNeg)))) (((v2 / (4 : Int32)) * (4 : Int32)) + (((v2 - v2 / (4 : Int32) * (4 : Int32)) + (1 : Int32)) - ((v2 - v2 / (4 : Int32) * (4 : Int32)) + (1 : Int32)) / (4 : Int32) * (4 : Int32))).toNatClampNeg) + (v1.toInt64 * ((gm_od_weight σ) v2.toNatClampNeg))))))) rfl c9 ?_
    obtain ⟨c10, hf⟩ := ev_hp hf
    refine ev_go (c' := (130, [some (.ref 0), some (.int (v1)), some (.int (v2)), some (.int (((v2 / (4 : Int32)) * (4 : Int32)))), some (.int ((v2 - v2 / (4 : Int32) * (4 : Int32))))], [.long ((((vp_updL (vp_updL (gm_od_then σ) v2.toNatClampNeg (((gm_od_then σ) v2.toNatClampNeg) + (((10 : Int32) - ((2 : Int32) * v1)).toInt64 * ((gm_od_weight σ) v2.toNatClampNeg)))) (((v2 / (4 : Int32)) * (4 : Int32)) + (((v2 - v2 / (4 : Int32) * (4 : Int32)) + (1 : Int32)) - ((v2 - v2 / (4 : Int32) * (4 : Int32)) + (1 : Int32)) / (4 : Int32) * (4 : Int32))).toNatClampNeg (((vp_updL (gm_od_then σ) v2.toNatClampNeg (((gm_od_then σ) v2.toNatClampNeg) + (((10 : Int32) - ((2 : Int32) * v1)).toInt64 * ((gm_od_weight σ) v2.toNatClampNeg)))) (((v2 / (4 : Int32)) * (4 : Int32)) + (((v2 - v2 / (4 : Int32) * (4 : Int32)) + (1 : Int32)) - ((v2 - v2 / (4 : Int32) * (4 : Int32)) + (1 : Int32)) / (4 : Int32) * (4 : Int32))).toNatClampNeg) + (v1.toInt64 * ((gm_od_weight σ) v2.toNatClampNeg)))) (((v2 / (4 : Int32)) * (4 : Int32)) + (((v2 - v2 / (4 : Int32) * (4 : Int32)) + (3 : Int32)) - ((v2 - v2 / (4 : Int32) * (4 : Int32)) + (3 : Int32)) / (4 : Int32) * (4 : Int32))).toNatClampNeg) + (v1.toInt64 * ((gm_od_weight σ) v2.toNatClampNeg)))), .int ((((v2 / (4 : Int32)) * (4 : Int32)) + (((v2 - v2 / (4 : Int32) * (4 : Int32)) + (3 : Int32)) - ((v2 - v2 / (4 : Int32) * (4 : Int32)) + (3 : Int32)) / (4 : Int32) * (4 : Int32)))), .ref 3], hM (sm_od_then (sm_od_then σ (vp_updL (gm_od_then σ) v2.toNatClampNeg (((gm_od_then σ) v2.toNatClampNeg) + (((10 : Int32) - ((2 : Int32) * v1)).toInt64 * ((gm_od_weight σ) v2.toNatClampNeg))))) (vp_updL (vp_updL (gm_od_then σ) v2.toNatClampNeg (((gm_od_then σ) v2.toNatClampNeg) + (((10 : Int32) - ((2 : Int32) * v1)).toInt64 * ((gm_od_weight σ) v2.toNatClampNeg)))) (((v2 / (4 : Int32)) * (4 : Int32)) + (((v2 - v2 / (4 : Int32) * (4 : Int32)) + (1 : Int32)) - ((v2 - v2 / (4 : Int32) * (4 : Int32)) + (1 : Int32)) / (4 : Int32) * (4 : Int32))).toNatClampNeg (((vp_updL (gm_od_then σ) v2.toNatClampNeg (((gm_od_then σ) v2.toNatClampNeg) + (((10 : Int32) - ((2 : Int32) * v1)).toInt64 * ((gm_od_weight σ) v2.toNatClampNeg)))) (((v2 / (4 : Int32)) * (4 : Int32)) + (((v2 - v2 / (4 : Int32) * (4 : Int32)) + (1 : Int32)) - ((v2 - v2 / (4 : Int32) * (4 : Int32)) + (1 : Int32)) / (4 : Int32) * (4 : Int32))).toNatClampNeg) + (v1.toInt64 * ((gm_od_weight σ) v2.toNatClampNeg))))))) 1 rfl ?_
    refine ev_st1 (e := (130, .lastore, 1, 0, 0, .null, [], [])) (c' := (131, [some (.ref 0), some (.int (v1)), some (.int (v2)), some (.int (((v2 / (4 : Int32)) * (4 : Int32)))), some (.int ((v2 - v2 / (4 : Int32) * (4 : Int32))))], [], hM (sm_od_then (sm_od_then (sm_od_then σ (vp_updL (gm_od_then σ) v2.toNatClampNeg (((gm_od_then σ) v2.toNatClampNeg) + (((10 : Int32) - ((2 : Int32) * v1)).toInt64 * ((gm_od_weight σ) v2.toNatClampNeg))))) (vp_updL (vp_updL (gm_od_then σ) v2.toNatClampNeg (((gm_od_then σ) v2.toNatClampNeg) + (((10 : Int32) - ((2 : Int32) * v1)).toInt64 * ((gm_od_weight σ) v2.toNatClampNeg)))) (((v2 / (4 : Int32)) * (4 : Int32)) + (((v2 - v2 / (4 : Int32) * (4 : Int32)) + (1 : Int32)) - ((v2 - v2 / (4 : Int32) * (4 : Int32)) + (1 : Int32)) / (4 : Int32) * (4 : Int32))).toNatClampNeg (((vp_updL (gm_od_then σ) v2.toNatClampNeg (((gm_od_then σ) v2.toNatClampNeg) + (((10 : Int32) - ((2 : Int32) * v1)).toInt64 * ((gm_od_weight σ) v2.toNatClampNeg)))) (((v2 / (4 : Int32)) * (4 : Int32)) + (((v2 - v2 / (4 : Int32) * (4 : Int32)) + (1 : Int32)) - ((v2 - v2 / (4 : Int32) * (4 : Int32)) + (1 : Int32)) / (4 : Int32) * (4 : Int32))).toNatClampNeg) + (v1.toInt64 * ((gm_od_weight σ) v2.toNatClampNeg))))) (vp_updL (vp_updL (vp_updL (gm_od_then σ) v2.toNatClampNeg (((gm_od_then σ) v2.toNatClampNeg) + (((10 : Int32) - ((2 : Int32) * v1)).toInt64 * ((gm_od_weight σ) v2.toNatClampNeg)))) (((v2 / (4 : Int32)) * (4 : Int32)) + (((v2 - v2 / (4 : Int32) * (4 : Int32)) + (1 : Int32)) - ((v2 - v2 / (4 : Int32) * (4 : Int32)) + (1 : Int32)) / (4 : Int32) * (4 : Int32))).toNatClampNeg (((vp_updL (gm_od_then σ) v2.toNatClampNeg (((gm_od_then σ) v2.toNatClampNeg) + (((10 : Int32) - ((2 : Int32) * v1)).toInt64 * ((gm_od_weight σ) v2.toNatClampNeg)))) (((v2 / (4 : Int32)) * (4 : Int32)) + (((v2 - v2 / (4 : Int32) * (4 : Int32)) + (1 : Int32)) - ((v2 - v2 / (4 : Int32) * (4 : Int32)) + (1 : Int32)) / (4 : Int32) * (4 : Int32))).toNatClampNeg) + (v1.toInt64 * ((gm_od_weight σ) v2.toNatClampNeg)))) (((v2 / (4 : Int32)) * (4 : Int32)) + (((v2 - v2 / (4 : Int32) * (4 : Int32)) + (3 : Int32)) - ((v2 - v2 / (4 : Int32) * (4 : Int32)) + (3 : Int32)) / (4 : Int32) * (4 : Int32))).toNatClampNeg (((vp_updL (vp_updL (gm_od_then σ) v2.toNatClampNeg (((gm_od_then σ) v2.toNatClampNeg) + (((10 : Int32) - ((2 : Int32) * v1)).toInt64 * ((gm_od_weight σ) v2.toNatClampNeg)))) (((v2 / (4 : Int32)) * (4 : Int32)) + (((v2 - v2 / (4 : Int32) * (4 : Int32)) + (1 : Int32)) - ((v2 - v2 / (4 : Int32) * (4 : Int32)) + (1 : Int32)) / (4 : Int32) * (4 : Int32))).toNatClampNeg (((vp_updL (gm_od_then σ) v2.toNatClampNeg (((gm_od_then σ) v2.toNatClampNeg) + (((10 : Int32) - ((2 : Int32) * v1)).toInt64 * ((gm_od_weight σ) v2.toNatClampNeg)))) (((v2 / (4 : Int32)) * (4 : Int32)) + (((v2 - v2 / (4 : Int32) * (4 : Int32)) + (1 : Int32)) - ((v2 - v2 / (4 : Int32) * (4 : Int32)) + (1 : Int32)) / (4 : Int32) * (4 : Int32))).toNatClampNeg) + (v1.toInt64 * ((gm_od_weight σ) v2.toNatClampNeg)))) (((v2 / (4 : Int32)) * (4 : Int32)) + (((v2 - v2 / (4 : Int32) * (4 : Int32)) + (3 : Int32)) - ((v2 - v2 / (4 : Int32) * (4 : Int32)) + (3 : Int32)) / (4 : Int32) * (4 : Int32))).toNatClampNeg) + (v1.toInt64 * ((gm_od_weight σ) v2.toNatClampNeg))))))) rfl (oy_ast_m_od_then c10) ?_
    refine ev_go (c' := (40, [some (.ref 0), some (.int (v1)), some (.int ((v2 + (1 : Int32)))), some (.int (((v2 / (4 : Int32)) * (4 : Int32)))), some (.int ((v2 - v2 / (4 : Int32) * (4 : Int32))))], [], hM (sm_od_then (sm_od_then (sm_od_then σ (vp_updL (gm_od_then σ) v2.toNatClampNeg (((gm_od_then σ) v2.toNatClampNeg) + (((10 : Int32) - ((2 : Int32) * v1)).toInt64 * ((gm_od_weight σ) v2.toNatClampNeg))))) (vp_updL (vp_updL (gm_od_then σ) v2.toNatClampNeg (((gm_od_then σ) v2.toNatClampNeg) + (((10 : Int32) - ((2 : Int32) * v1)).toInt64 * ((gm_od_weight σ) v2.toNatClampNeg)))) (((v2 / (4 : Int32)) * (4 : Int32)) + (((v2 - v2 / (4 : Int32) * (4 : Int32)) + (1 : Int32)) - ((v2 - v2 / (4 : Int32) * (4 : Int32)) + (1 : Int32)) / (4 : Int32) * (4 : Int32))).toNatClampNeg (((vp_updL (gm_od_then σ) v2.toNatClampNeg (((gm_od_then σ) v2.toNatClampNeg) + (((10 : Int32) - ((2 : Int32) * v1)).toInt64 * ((gm_od_weight σ) v2.toNatClampNeg)))) (((v2 / (4 : Int32)) * (4 : Int32)) + (((v2 - v2 / (4 : Int32) * (4 : Int32)) + (1 : Int32)) - ((v2 - v2 / (4 : Int32) * (4 : Int32)) + (1 : Int32)) / (4 : Int32) * (4 : Int32))).toNatClampNeg) + (v1.toInt64 * ((gm_od_weight σ) v2.toNatClampNeg))))) (vp_updL (vp_updL (vp_updL (gm_od_then σ) v2.toNatClampNeg (((gm_od_then σ) v2.toNatClampNeg) + (((10 : Int32) - ((2 : Int32) * v1)).toInt64 * ((gm_od_weight σ) v2.toNatClampNeg)))) (((v2 / (4 : Int32)) * (4 : Int32)) + (((v2 - v2 / (4 : Int32) * (4 : Int32)) + (1 : Int32)) - ((v2 - v2 / (4 : Int32) * (4 : Int32)) + (1 : Int32)) / (4 : Int32) * (4 : Int32))).toNatClampNeg (((vp_updL (gm_od_then σ) v2.toNatClampNeg (((gm_od_then σ) v2.toNatClampNeg) + (((10 : Int32) - ((2 : Int32) * v1)).toInt64 * ((gm_od_weight σ) v2.toNatClampNeg)))) (((v2 / (4 : Int32)) * (4 : Int32)) + (((v2 - v2 / (4 : Int32) * (4 : Int32)) + (1 : Int32)) - ((v2 - v2 / (4 : Int32) * (4 : Int32)) + (1 : Int32)) / (4 : Int32) * (4 : Int32))).toNatClampNeg) + (v1.toInt64 * ((gm_od_weight σ) v2.toNatClampNeg)))) (((v2 / (4 : Int32)) * (4 : Int32)) + (((v2 - v2 / (4 : Int32) * (4 : Int32)) + (3 : Int32)) - ((v2 - v2 / (4 : Int32) * (4 : Int32)) + (3 : Int32)) / (4 : Int32) * (4 : Int32))).toNatClampNeg (((vp_updL (vp_updL (gm_od_then σ) v2.toNatClampNeg (((gm_od_then σ) v2.toNatClampNeg) + (((10 : Int32) - ((2 : Int32) * v1)).toInt64 * ((gm_od_weight σ) v2.toNatClampNeg)))) (((v2 / (4 : Int32)) * (4 : Int32)) + (((v2 - v2 / (4 : Int32) * (4 : Int32)) + (1 : Int32)) - ((v2 - v2 / (4 : Int32) * (4 : Int32)) + (1 : Int32)) / (4 : Int32) * (4 : Int32))).toNatClampNeg (((vp_updL (gm_od_then σ) v2.toNatClampNeg (((gm_od_then σ) v2.toNatClampNeg) + (((10 : Int32) - ((2 : Int32) * v1)).toInt64 * ((gm_od_weight σ) v2.toNatClampNeg)))) (((v2 / (4 : Int32)) * (4 : Int32)) + (((v2 - v2 / (4 : Int32) * (4 : Int32)) + (1 : Int32)) - ((v2 - v2 / (4 : Int32) * (4 : Int32)) + (1 : Int32)) / (4 : Int32) * (4 : Int32))).toNatClampNeg) + (v1.toInt64 * ((gm_od_weight σ) v2.toNatClampNeg)))) (((v2 / (4 : Int32)) * (4 : Int32)) + (((v2 - v2 / (4 : Int32) * (4 : Int32)) + (3 : Int32)) - ((v2 - v2 / (4 : Int32) * (4 : Int32)) + (3 : Int32)) / (4 : Int32) * (4 : Int32))).toNatClampNeg) + (v1.toInt64 * ((gm_od_weight σ) v2.toNatClampNeg))))))) 1 rfl ?_
    exact ev_dr (a := [some (.ref 0), some (.int (v1)), some (.int ((v2 + (1 : Int32)))), none, none]) ⟨rfl, ⟨rfl, ⟨rfl, trivial⟩⟩⟩ (hk40 (sm_od_then (sm_od_then (sm_od_then σ (vp_updL (gm_od_then σ) v2.toNatClampNeg (((gm_od_then σ) v2.toNatClampNeg) + (((10 : Int32) - ((2 : Int32) * v1)).toInt64 * ((gm_od_weight σ) v2.toNatClampNeg))))) (vp_updL (vp_updL (gm_od_then σ) v2.toNatClampNeg (((gm_od_then σ) v2.toNatClampNeg) + (((10 : Int32) - ((2 : Int32) * v1)).toInt64 * ((gm_od_weight σ) v2.toNatClampNeg)))) (((v2 / (4 : Int32)) * (4 : Int32)) + (((v2 - v2 / (4 : Int32) * (4 : Int32)) + (1 : Int32)) - ((v2 - v2 / (4 : Int32) * (4 : Int32)) + (1 : Int32)) / (4 : Int32) * (4 : Int32))).toNatClampNeg (((vp_updL (gm_od_then σ) v2.toNatClampNeg (((gm_od_then σ) v2.toNatClampNeg) + (((10 : Int32) - ((2 : Int32) * v1)).toInt64 * ((gm_od_weight σ) v2.toNatClampNeg)))) (((v2 / (4 : Int32)) * (4 : Int32)) + (((v2 - v2 / (4 : Int32) * (4 : Int32)) + (1 : Int32)) - ((v2 - v2 / (4 : Int32) * (4 : Int32)) + (1 : Int32)) / (4 : Int32) * (4 : Int32))).toNatClampNeg) + (v1.toInt64 * ((gm_od_weight σ) v2.toNatClampNeg))))) (vp_updL (vp_updL (vp_updL (gm_od_then σ) v2.toNatClampNeg (((gm_od_then σ) v2.toNatClampNeg) + (((10 : Int32) - ((2 : Int32) * v1)).toInt64 * ((gm_od_weight σ) v2.toNatClampNeg)))) (((v2 / (4 : Int32)) * (4 : Int32)) + (((v2 - v2 / (4 : Int32) * (4 : Int32)) + (1 : Int32)) - ((v2 - v2 / (4 : Int32) * (4 : Int32)) + (1 : Int32)) / (4 : Int32) * (4 : Int32))).toNatClampNeg (((vp_updL (gm_od_then σ) v2.toNatClampNeg (((gm_od_then σ) v2.toNatClampNeg) + (((10 : Int32) - ((2 : Int32) * v1)).toInt64 * ((gm_od_weight σ) v2.toNatClampNeg)))) (((v2 / (4 : Int32)) * (4 : Int32)) + (((v2 - v2 / (4 : Int32) * (4 : Int32)) + (1 : Int32)) - ((v2 - v2 / (4 : Int32) * (4 : Int32)) + (1 : Int32)) / (4 : Int32) * (4 : Int32))).toNatClampNeg) + (v1.toInt64 * ((gm_od_weight σ) v2.toNatClampNeg)))) (((v2 / (4 : Int32)) * (4 : Int32)) + (((v2 - v2 / (4 : Int32) * (4 : Int32)) + (3 : Int32)) - ((v2 - v2 / (4 : Int32) * (4 : Int32)) + (3 : Int32)) / (4 : Int32) * (4 : Int32))).toNatClampNeg (((vp_updL (vp_updL (gm_od_then σ) v2.toNatClampNeg (((gm_od_then σ) v2.toNatClampNeg) + (((10 : Int32) - ((2 : Int32) * v1)).toInt64 * ((gm_od_weight σ) v2.toNatClampNeg)))) (((v2 / (4 : Int32)) * (4 : Int32)) + (((v2 - v2 / (4 : Int32) * (4 : Int32)) + (1 : Int32)) - ((v2 - v2 / (4 : Int32) * (4 : Int32)) + (1 : Int32)) / (4 : Int32) * (4 : Int32))).toNatClampNeg (((vp_updL (gm_od_then σ) v2.toNatClampNeg (((gm_od_then σ) v2.toNatClampNeg) + (((10 : Int32) - ((2 : Int32) * v1)).toInt64 * ((gm_od_weight σ) v2.toNatClampNeg)))) (((v2 / (4 : Int32)) * (4 : Int32)) + (((v2 - v2 / (4 : Int32) * (4 : Int32)) + (1 : Int32)) - ((v2 - v2 / (4 : Int32) * (4 : Int32)) + (1 : Int32)) / (4 : Int32) * (4 : Int32))).toNatClampNeg) + (v1.toInt64 * ((gm_od_weight σ) v2.toNatClampNeg)))) (((v2 / (4 : Int32)) * (4 : Int32)) + (((v2 - v2 / (4 : Int32) * (4 : Int32)) + (3 : Int32)) - ((v2 - v2 / (4 : Int32) * (4 : Int32)) + (3 : Int32)) / (4 : Int32) * (4 : Int32))).toNatClampNeg) + (v1.toInt64 * ((gm_od_weight σ) v2.toNatClampNeg))))) v1 (v2 + (1 : Int32)) _ hf)
  · rw [if_neg c1] at hf
    obtain ⟨r3, hr3, hf⟩ := Option.bind_eq_some_iff.mp hf
    refine ev_cli 1 (kk := 144) (as := [.ref 0]) (rest := []) (pc := 138) (ls := [some (.ref 0), some (.int (v1)), some (.int (v2)), none, none]) (st := [.ref 0]) (h := hM σ) rfl (tX12_take d σ r3 hr3) ?_
    cases hf
    exact ev_rt 0 rfl
theorem tX12_turned_l40 (d : Nat) : ∀ (n : Nat) (σ : SM) (v1 : Int32) (v2 : Int32) (q : Int32 × SM), fX12_turned_l40 n σ v1 v2 = some q → ev_X (d + 2) (some .int) eiX12_turned (40, [some (.ref 0), some (.int (v1)), some (.int (v2)), none, none], [], hM σ) (some (.int q.1), hM q.2)
  | 0, _, _, _, _, hf => by cases hf
  | n + 1, σ, v1, v2, q, hf => tX12_turned_b40 d (fX12_turned_l40 n) (fun σ v1 v2 q h9 => tX12_turned_l40 d n σ v1 v2 q h9) σ v1 v2 q hf
set_option maxRecDepth 20000 in
set_option maxHeartbeats 4000000 in
theorem tX12_turned (d : Nat) (σ : SM) (v1 : Int32) (q : Int32 × SM) (hf : fX12_turned σ v1 = some q) : ev_M ev_mt (d + 3) 145 [.ref 0, .int (v1)] (hM σ) (some (.int q.1), hM q.2) := by
  refine ev_en (rt := (some .int)) (I := eiX12_turned) rfl (Nat.le_of_ble_eq_true rfl) ?_
  change ev_X (d + 2) _ _ (0, [some (.ref 0), some (.int (v1)), none, none, none], [], hM σ) _
  unfold fX12_turned at hf
  refine ev_br 2 (P := (gm_rg_rings σ) = 0) (a := 7) (b := 10) (ls := [some (.ref 0), some (.int (v1)), none, none, none]) (st := []) (h := hM σ) rfl (fun c1 => ?_) (fun c1 => ?_)
  · rw [if_pos c1] at hf
    cases hf
    exact ev_rt 1 rfl
  · rw [if_neg c1] at hf
    obtain ⟨r1, hr1, hf⟩ := Option.bind_eq_some_iff.mp hf
    refine ev_cli 3 (kk := 123) (as := [.int (v1), .int ((0 : Int32)), .int ((5 : Int32))]) (rest := []) (pc := 13) (ls := [some (.ref 0), some (.int (v1)), none, none, none]) (st := [.int ((5 : Int32)), .int ((0 : Int32)), .int (v1)]) (h := hM σ) rfl (tX12_within (d + 1) (hM σ) v1 (0 : Int32) (5 : Int32) r1 hr1) ?_
    refine ev_br 0 (P := r1 = 0) (a := 19) (b := 22) (ls := [some (.ref 0), some (.int (v1)), none, none, none]) (st := []) (h := hM σ) rfl (fun c2 => ?_) (fun c2 => ?_)
    · rw [if_pos c2] at hf
      cases hf
      exact ev_rt 1 rfl
    · rw [if_neg c2] at hf
      refine ev_br 3 (P := (gm_od_updates σ) = (9 : Int32)) (a := 31) (b := 34) (ls := [some (.ref 0), some (.int (v1)), none, none, none]) (st := []) (h := hM σ) rfl (fun c3 => ?_) (fun c3 => ?_)
      · rw [if_pos c3] at hf
        cases hf
        exact ev_rt 1 rfl
      · rw [if_neg c3] at hf
        obtain ⟨r2, hr2, hf⟩ := Option.bind_eq_some_iff.mp hf
        refine ev_clv 1 (kk := 139) (as := [.ref 0]) (rest := []) (pc := 35) (ls := [some (.ref 0), some (.int (v1)), none, none, none]) (st := [.ref 0]) (h := hM σ) rfl (tX12_clear (d + 1) σ r2 hr2) ?_
        refine ev_go (c' := (40, [some (.ref 0), some (.int (v1)), some (.int ((0 : Int32))), none, none], [], hM r2)) 1 rfl ?_
        exact ev_dr (a := [some (.ref 0), some (.int (v1)), some (.int ((0 : Int32))), none, none]) ⟨rfl, ⟨rfl, ⟨rfl, trivial⟩⟩⟩ (tX12_turned_l40 d 1000 r2 v1 (0 : Int32) _ hf)
