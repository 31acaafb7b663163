/-! X12_jackets X12_byCloth X12_likely X12_likelyAll X12_isFelt X12_named X12_saysNow X12_says X12_when X12_image X12_restore X12_freeMany X12_howMany X12_count X12_mix X12_mixGame X12_digest -/
set_option maxRecDepth 20000 in
set_option maxHeartbeats 4000000 in
theorem tX12_jackets_b21 (d : Nat) (σ : SM) (q : Int32 × SM) (hf : fX12_jackets_b21 σ = some q) : ev_X (d + 2) (some .int) eiX12_jackets (21, [none, none, none, none], [], hM σ) (some (.int q.1), hM q.2) := by
  unfold fX12_jackets_b21 at hf
  cases hf
  exact ev_rt 1 rfl
set_option maxRecDepth 20000 in
set_option maxHeartbeats 4000000 in
theorem tX12_jackets (d : Nat) (σ : SM) (v1 : Int32) (v2 : Int32) (v3 : Int32) (q : Int32 × SM) (hf : fX12_jackets σ v1 v2 v3 = some q) : ev_M ev_mt (d + 3) 187 [.ref 0, .int (v1), .int (v2), .int (v3)] (hM σ) (some (.int q.1), hM q.2) := by
  refine ev_en (rt := (some .int)) (I := eiX12_jackets) rfl (Nat.le_of_ble_eq_true rfl) ?_
  change ev_X (d + 2) _ _ (0, [some (.ref 0), some (.int (v1)), some (.int (v2)), some (.int (v3))], [], hM σ) _
  unfold fX12_jackets at hf
  obtain ⟨r1, hr1, hf⟩ := Option.bind_eq_some_iff.mp hf
  refine ev_cli 2 (kk := 168) (as := [.ref 0, .int (v1)]) (rest := []) (pc := 2) (ls := [some (.ref 0), some (.int (v1)), some (.int (v2)), some (.int (v3))]) (st := [.int (v1), .ref 0]) (h := hM σ) rfl (tX12_isPlayer d σ v1 r1 hr1) ?_
  refine ev_br 0 (P := r1 = 0) (a := 21) (b := 8) (ls := [some (.ref 0), some (.int (v1)), some (.int (v2)), some (.int (v3))]) (st := []) (h := hM σ) rfl (fun c1 => ?_) (fun c1 => ?_)
  · rw [if_pos c1] at hf
    exact ev_dr (a := [none, none, none, none]) trivial (tX12_jackets_b21 d σ  _ hf)
  · rw [if_neg c1] at hf
    obtain ⟨r2, hr2, hf⟩ := Option.bind_eq_some_iff.mp hf
    refine ev_cli 2 (kk := 168) (as := [.ref 0, .int (v2)]) (rest := []) (pc := 10) (ls := [some (.ref 0), some (.int (v1)), some (.int (v2)), some (.int (v3))]) (st := [.int (v2), .ref 0]) (h := hM σ) rfl (tX12_isPlayer d σ v2 r2 hr2) ?_
    refine ev_br 0 (P := r2 = 0) (a := 21) (b := 16) (ls := [some (.ref 0), some (.int (v1)), some (.int (v2)), some (.int (v3))]) (st := []) (h := hM σ) rfl (fun c2 => ?_) (fun c2 => ?_)
    · rw [if_pos c2] at hf
      exact ev_dr (a := [none, none, none, none]) trivial (tX12_jackets_b21 d σ  _ hf)
    · rw [if_neg c2] at hf
      refine ev_br 2 (P := v1 = v2) (a := 21) (b := 24) (ls := [some (.ref 0), some (.int (v1)), some (.int (v2)), some (.int (v3))]) (st := []) (h := hM σ) rfl (fun c3 => ?_) (fun c3 => ?_)
      · rw [if_pos c3] at hf
        exact ev_dr (a := [none, none, none, none]) trivial (tX12_jackets_b21 d σ  _ hf)
      · rw [if_neg c3] at hf
        obtain ⟨r3, hr3, hf⟩ := Option.bind_eq_some_iff.mp hf
        refine ev_cli 3 (kk := 123) (as := [.int (v3), .int ((0 : Int32)), .int ((10 : Int32))]) (rest := []) (pc := 28) (ls := [some (.ref 0), some (.int (v1)), some (.int (v2)), some (.int (v3))]) (st := [.int ((10 : Int32)), .int ((0 : Int32)), .int (v3)]) (h := hM σ) rfl (tX12_within (d + 1) (hM σ) v3 (0 : Int32) (10 : Int32) r3 hr3) ?_
        refine ev_br 0 (P := r3 = 0) (a := 34) (b := 37) (ls := [some (.ref 0), some (.int (v1)), some (.int (v2)), some (.int (v3))]) (st := []) (h := hM σ) rfl (fun c4 => ?_) (fun c4 => ?_)
        · rw [if_pos c4] at hf
          cases hf
          exact ev_rt 1 rfl
        · rw [if_neg c4] at hf
          refine ev_go (c' := (39, [some (.ref 0), some (.int (v1)), some (.int (v2)), some (.int (v3))], [.int (v1), .ref 0], hM σ)) 1 rfl ?_
          refine ev_st1 (e := (39, .putfield 42, 3, 16, 0, .null, [(12, 0)], [1066])) (c' := (42, [some (.ref 0), some (.int (v1)), some (.int (v2)), some (.int (v3))], [], hM (sm_nm_jacketA σ v1))) rfl oy_put_m_nm_jacketA ?_
          refine ev_go (c' := (44, [some (.ref 0), some (.int (v1)), some (.int (v2)), some (.int (v3))], [.int (v2), .ref 0], hM (sm_nm_jacketA σ v1))) 1 rfl ?_
          refine ev_st1 (e := (44, .putfield 45, 3, 17, 0, .null, [(12, 0)], [1067])) (c' := (47, [some (.ref 0), some (.int (v1)), some (.int (v2)), some (.int (v3))], [], hM (sm_nm_jacketB (sm_nm_jacketA σ v1) v2))) rfl oy_put_m_nm_jacketB ?_
          refine ev_go (c' := (49, [some (.ref 0), some (.int (v1)), some (.int (v2)), some (.int (v3))], [.int (v3), .ref 0], hM (sm_nm_jacketB (sm_nm_jacketA σ v1) v2))) 1 rfl ?_
          refine ev_st1 (e := (49, .putfield 108, 3, 18, 0, .null, [(12, 0)], [1068])) (c' := (52, [some (.ref 0), some (.int (v1)), some (.int (v2)), some (.int (v3))], [], hM (sm_nm_jacketTenths (sm_nm_jacketB (sm_nm_jacketA σ v1) v2) v3))) rfl oy_put_m_nm_jacketTenths ?_
          cases hf
          exact ev_rt 1 rfl
set_option maxRecDepth 20000 in
set_option maxHeartbeats 4000000 in
theorem tX12_byCloth_b26 (d : Nat) (σ : SM) (w0 : Int32) (q : Int32) (hf : fX12_byCloth_b26 σ w0 = some q) : ev_X d (some .int) eiX12_byCloth (26, [none, none, none], [.int (w0)], hM σ) (some (.int q), hM σ) := by
  unfold fX12_byCloth_b26 at hf
  cases hf
  exact ev_rt 0 rfl
set_option maxRecDepth 20000 in
set_option maxHeartbeats 4000000 in
theorem tX12_byCloth (d : Nat) (σ : SM) (v1 : Int32) (v2 : Int32) (q : Int32) (hf : fX12_byCloth σ v1 v2 = some q) : ev_M ev_mt (d + 1) 188 [.ref 0, .int (v1), .int (v2)] (hM σ) (some (.int q), hM σ) := by
  refine ev_en (rt := (some .int)) (I := eiX12_byCloth) rfl (Nat.le_of_ble_eq_true rfl) ?_
  change ev_X d _ _ (0, [some (.ref 0), some (.int (v1)), some (.int (v2))], [], hM σ) _
  unfold fX12_byCloth at hf
  obtain ⟨c1, hf⟩ := ev_hp hf
  refine ev_ck 3 (P := ¬ (v1 < 0 ∨ 6 ≤ v1.toNatClampNeg)) (c' := (6, [some (.ref 0), some (.int (v1)), some (.int (v2))], [.int (((gm_pl_clothOf σ) v1.toNatClampNeg))], hM σ)) rfl c1 ?_
  refine ev_br 1 (P := ((gm_pl_clothOf σ) v1.toNatClampNeg) = v2) (a := 10) (b := 19) (ls := [some (.ref 0), some (.int (v1)), some (.int (v2))]) (st := []) (h := hM σ) rfl (fun c2 => ?_) (fun c2 => ?_)
  · rw [if_pos c2] at hf
    refine ev_go (c' := (26, [some (.ref 0), some (.int (v1)), some (.int (v2))], [.int (((4 : Int32) * (gm_nm_clothRight σ)))], hM σ)) 4 rfl ?_
    exact ev_dr (a := [none, none, none]) trivial (tX12_byCloth_b26 d σ ((4 : Int32) * (gm_nm_clothRight σ)) _ hf)
  · rw [if_neg c2] at hf
    refine ev_go (c' := (26, [some (.ref 0), some (.int (v1)), some (.int (v2))], [.int (((10 : Int32) - (gm_nm_clothRight σ)))], hM σ)) 3 rfl ?_
    exact ev_dr (a := [none, none, none]) trivial (tX12_byCloth_b26 d σ ((10 : Int32) - (gm_nm_clothRight σ)) _ hf)
set_option maxRecDepth 20000 in
set_option maxHeartbeats 4000000 in
theorem tX12_likely_b122 (d : Nat) (σ : SM) (v1 : Int32) (v3 : Int32) (v6 : Int32) (v7 : Int32) (v8 : Int32) (w0 : Int32) (q : Int32) (hf : fX12_likely_b122 σ v1 v3 v6 v7 v8 w0 = some q) : ev_X (d + 1) (some .int) eiX12_likely (122, [some (.ref 0), some (.int (v1)), none, some (.int (v3)), none, none, some (.int (v6)), some (.int (v7)), some (.int (v8)), none], [.int (w0)], hM σ) (some (.int q), hM σ) := by
  unfold fX12_likely_b122 at hf
  obtain ⟨r2, hr2, hf⟩ := Option.bind_eq_some_iff.mp hf
  refine ev_cli 10 (kk := 188) (as := [.ref 0, .int (v1), .int (v3)]) (rest := [.int (((10 : Int32) - w0)), .int ((v6 * v7))]) (pc := 137) (ls := [some (.ref 0), some (.int (v1)), none, some (.int (v3)), none, none, some (.int (v6)), some (.int (v7)), some (.int (v8)), some (.int (w0))]) (st := [.int (v3), .int (v1), .ref 0, .int (((10 : Int32) - w0)), .int ((v6 * v7))]) (h := hM σ) rfl (tX12_byCloth d σ v1 v3 r2 hr2) ?_
  obtain ⟨r3, hr3, hf⟩ := Option.bind_eq_some_iff.mp hf
  refine ev_cli 5 (kk := 188) (as := [.ref 0, .int (v8), .int (v3)]) (rest := [.int (w0), .int ((((10 : Int32) - w0) * r2)), .int ((v6 * v7))]) (pc := 147) (ls := [some (.ref 0), some (.int (v1)), none, some (.int (v3)), none, none, some (.int (v6)), some (.int (v7)), some (.int (v8)), some (.int (w0))]) (st := [.int (v3), .int (v8), .ref 0, .int (w0), .int ((((10 : Int32) - w0) * r2)), .int ((v6 * v7))]) (h := hM σ) rfl (tX12_byCloth d σ v8 v3 r3 hr3) ?_
  cases hf
  exact ev_rt 3 rfl
set_option maxRecDepth 20000 in
set_option maxHeartbeats 4000000 in
theorem tX12_likely_b106 (d : Nat) (σ : SM) (v1 : Int32) (v3 : Int32) (v6 : Int32) (v7 : Int32) (w0 : Int32) (q : Int32) (hf : fX12_likely_b106 σ v1 v3 v6 v7 w0 = some q) : ev_X (d + 1) (some .int) eiX12_likely (106, [some (.ref 0), some (.int (v1)), none, some (.int (v3)), none, none, some (.int (v6)), some (.int (v7)), none, none], [.int (w0)], hM σ) (some (.int q), hM σ) := by
  unfold fX12_likely_b106 at hf
  refine ev_br 3 (P := w0 = v1) (a := 114) (b := 118) (ls := [some (.ref 0), some (.int (v1)), none, some (.int (v3)), none, none, some (.int (v6)), some (.int (v7)), some (.int (w0)), none]) (st := []) (h := hM σ) rfl (fun c1 => ?_) (fun c1 => ?_)
  · rw [if_pos c1] at hf
    refine ev_go (c' := (122, [some (.ref 0), some (.int (v1)), none, some (.int (v3)), none, none, some (.int (v6)), some (.int (v7)), some (.int (w0)), none], [.int ((0 : Int32))], hM σ)) 1 rfl ?_
    exact ev_dr (a := [some (.ref 0), some (.int (v1)), none, some (.int (v3)), none, none, some (.int (v6)), some (.int (v7)), some (.int (w0)), none]) ⟨rfl, ⟨rfl, ⟨rfl, ⟨rfl, ⟨rfl, ⟨rfl, trivial⟩⟩⟩⟩⟩⟩ (tX12_likely_b122 d σ v1 v3 v6 v7 w0 (0 : Int32) _ hf)
  · rw [if_neg c1] at hf
    refine ev_go (c' := (122, [some (.ref 0), some (.int (v1)), none, some (.int (v3)), none, none, some (.int (v6)), some (.int (v7)), some (.int (w0)), none], [.int ((gm_nm_jacketTenths σ))], hM σ)) 1 rfl ?_
    exact ev_dr (a := [some (.ref 0), some (.int (v1)), none, some (.int (v3)), none, none, some (.int (v6)), some (.int (v7)), some (.int (w0)), none]) ⟨rfl, ⟨rfl, ⟨rfl, ⟨rfl, ⟨rfl, ⟨rfl, trivial⟩⟩⟩⟩⟩⟩ (tX12_likely_b122 d σ v1 v3 v6 v7 w0 (gm_nm_jacketTenths σ) _ hf)
set_option maxRecDepth 20000 in
set_option maxHeartbeats 4000000 in
theorem tX12_likely_b73 (d : Nat) (σ : SM) (v1 : Int32) (v3 : Int32) (v6 : Int32) (w0 : Int32) (q : Int32) (hf : fX12_likely_b73 σ v1 v3 v6 w0 = some q) : ev_X (d + 1) (some .int) eiX12_likely (73, [some (.ref 0), some (.int (v1)), none, some (.int (v3)), none, none, some (.int (v6)), none, none, none], [.int (w0)], hM σ) (some (.int q), hM σ) := by
  unfold fX12_likely_b73 at hf
  refine ev_br 4 (P := v1 = (gm_nm_jacketA σ)) (a := 83) (b := 90) (ls := [some (.ref 0), some (.int (v1)), none, some (.int (v3)), none, none, some (.int (v6)), some (.int (w0)), none, none]) (st := []) (h := hM σ) rfl (fun c1 => ?_) (fun c1 => ?_)
  · rw [if_pos c1] at hf
    refine ev_go (c' := (106, [some (.ref 0), some (.int (v1)), none, some (.int (v3)), none, none, some (.int (v6)), some (.int (w0)), none, none], [.int ((gm_nm_jacketB σ))], hM σ)) 2 rfl ?_
    exact ev_dr (a := [some (.ref 0), some (.int (v1)), none, some (.int (v3)), none, none, some (.int (v6)), some (.int (w0)), none, none]) ⟨rfl, ⟨rfl, ⟨rfl, ⟨rfl, ⟨rfl, trivial⟩⟩⟩⟩⟩ (tX12_likely_b106 d σ v1 v3 v6 w0 (gm_nm_jacketB σ) _ hf)
  · rw [if_neg c1] at hf
    refine ev_br 3 (P := v1 = (gm_nm_jacketB σ)) (a := 98) (b := 105) (ls := [some (.ref 0), some (.int (v1)), none, some (.int (v3)), none, none, some (.int (v6)), some (.int (w0)), none, none]) (st := []) (h := hM σ) rfl (fun c2 => ?_) (fun c2 => ?_)
    · rw [if_pos c2] at hf
      refine ev_go (c' := (106, [some (.ref 0), some (.int (v1)), none, some (.int (v3)), none, none, some (.int (v6)), some (.int (w0)), none, none], [.int ((gm_nm_jacketA σ))], hM σ)) 2 rfl ?_
      exact ev_dr (a := [some (.ref 0), some (.int (v1)), none, some (.int (v3)), none, none, some (.int (v6)), some (.int (w0)), none, none]) ⟨rfl, ⟨rfl, ⟨rfl, ⟨rfl, ⟨rfl, trivial⟩⟩⟩⟩⟩ (tX12_likely_b106 d σ v1 v3 v6 w0 (gm_nm_jacketA σ) _ hf)
    · rw [if_neg c2] at hf
      refine ev_go (c' := (106, [some (.ref 0), some (.int (v1)), none, some (.int (v3)), none, none, some (.int (v6)), some (.int (w0)), none, none], [.int (v1)], hM σ)) 0 rfl ?_
      exact ev_dr (a := [some (.ref 0), some (.int (v1)), none, some (.int (v3)), none, none, some (.int (v6)), some (.int (w0)), none, none]) ⟨rfl, ⟨rfl, ⟨rfl, ⟨rfl, ⟨rfl, trivial⟩⟩⟩⟩⟩ (tX12_likely_b106 d σ v1 v3 v6 w0 v1 _ hf)
set_option maxRecDepth 20000 in
set_option maxHeartbeats 4000000 in
theorem tX12_likely_b44 (d : Nat) (σ : SM) (v1 : Int32) (v3 : Int32) (v4 : Int32) (w0 : Int32) (q : Int32) (hf : fX12_likely_b44 σ v1 v3 v4 w0 = some q) : ev_X (d + 1) (some .int) eiX12_likely (44, [some (.ref 0), some (.int (v1)), none, some (.int (v3)), some (.int (v4)), none, none, none, none, none], [.int (w0)], hM σ) (some (.int q), hM σ) := by
  unfold fX12_likely_b44 at hf
  obtain ⟨c1, hf⟩ := ev_hp hf
  refine ev_ck 4 (P := ¬ (v1 < 0 ∨ 6 ≤ v1.toNatClampNeg)) (c' := (52, [some (.ref 0), some (.int (v1)), none, some (.int (v3)), some (.int (v4)), none, some (.int (w0)), none, none, none], [.int (((gm_pl_giggleOf σ) v1.toNatClampNeg))], hM σ)) rfl c1 ?_
  refine ev_br 1 (P := ((gm_pl_giggleOf σ) v1.toNatClampNeg) = v4) (a := 57) (b := 66) (ls := [some (.ref 0), some (.int (v1)), none, some (.int (v3)), some (.int (v4)), none, some (.int (w0)), none, none, none]) (st := []) (h := hM σ) rfl (fun c2 => ?_) (fun c2 => ?_)
  · rw [if_pos c2] at hf
    refine ev_go (c' := (73, [some (.ref 0), some (.int (v1)), none, some (.int (v3)), some (.int (v4)), none, some (.int (w0)), none, none, none], [.int (((4 : Int32) * (gm_nm_giggleRight σ)))], hM σ)) 4 rfl ?_
    exact ev_dr (a := [some (.ref 0), some (.int (v1)), none, some (.int (v3)), none, none, some (.int (w0)), none, none, none]) ⟨rfl, ⟨rfl, ⟨rfl, ⟨rfl, trivial⟩⟩⟩⟩ (tX12_likely_b73 d σ v1 v3 w0 ((4 : Int32) * (gm_nm_giggleRight σ)) _ hf)
  · rw [if_neg c2] at hf
    refine ev_go (c' := (73, [some (.ref 0), some (.int (v1)), none, some (.int (v3)), some (.int (v4)), none, some (.int (w0)), none, none, none], [.int (((10 : Int32) - (gm_nm_giggleRight σ)))], hM σ)) 3 rfl ?_
    exact ev_dr (a := [some (.ref 0), some (.int (v1)), none, some (.int (v3)), none, none, some (.int (w0)), none, none, none]) ⟨rfl, ⟨rfl, ⟨rfl, ⟨rfl, trivial⟩⟩⟩⟩ (tX12_likely_b73 d σ v1 v3 w0 ((10 : Int32) - (gm_nm_giggleRight σ)) _ hf)
set_option maxRecDepth 20000 in
set_option maxHeartbeats 4000000 in
theorem tX12_likely (d : Nat) (σ : SM) (v1 : Int32) (v2 : Int32) (v3 : Int32) (v4 : Int32) (q : Int32) (hf : fX12_likely σ v1 v2 v3 v4 = some q) : ev_M ev_mt (d + 2) 189 [.ref 0, .int (v1), .int (v2), .int (v3), .int (v4)] (hM σ) (some (.int q), hM σ) := by
  refine ev_en (rt := (some .int)) (I := eiX12_likely) rfl (Nat.le_of_ble_eq_true rfl) ?_
  change ev_X (d + 1) _ _ (0, [some (.ref 0), some (.int (v1)), some (.int (v2)), some (.int (v3)), some (.int (v4)), none, none, none, none, none], [], hM σ) _
  unfold fX12_likely at hf
  obtain ⟨c1, hf⟩ := ev_hp hf
  refine ev_ck 3 (P := ¬ (v1 < 0 ∨ 6 ≤ v1.toNatClampNeg)) (c' := (6, [some (.ref 0), some (.int (v1)), some (.int (v2)), some (.int (v3)), some (.int (v4)), none, none, none, none, none], [.int (((gm_pl_sizeOf σ) v1.toNatClampNeg))], hM σ)) rfl c1 ?_
  obtain ⟨r1, hr1, hf⟩ := Option.bind_eq_some_iff.mp hf
  refine ev_cli 2 (kk := 124) (as := [.int ((((gm_pl_sizeOf σ) v1.toNatClampNeg) - v2))]) (rest := []) (pc := 8) (ls := [some (.ref 0), some (.int (v1)), some (.int (v2)), some (.int (v3)), some (.int (v4)), none, none, none, none, none]) (st := [.int ((((gm_pl_sizeOf σ) v1.toNatClampNeg) - v2))]) (h := hM σ) rfl (tX12_size d (hM σ) (((gm_pl_sizeOf σ) v1.toNatClampNeg) - v2) r1 hr1) ?_
  refine ev_br 2 (P := r1 = 0) (a := 18) (b := 30) (ls := [some (.ref 0), some (.int (v1)), some (.int (v2)), some (.int (v3)), some (.int (v4)), some (.int (r1)), none, none, none, none]) (st := []) (h := hM σ) rfl (fun c2 => ?_) (fun c2 => ?_)
  · rw [if_pos c2] at hf
    refine ev_go (c' := (44, [some (.ref 0), some (.int (v1)), some (.int (v2)), some (.int (v3)), some (.int (v4)), some (.int (r1)), none, none, none, none], [.int (((10 : Int32) - ((2 : Int32) * (gm_nm_unsure σ))))], hM σ)) 6 rfl ?_
    exact ev_dr (a := [some (.ref 0), some (.int (v1)), none, some (.int (v3)), some (.int (v4)), none, none, none, none, none]) ⟨rfl, ⟨rfl, ⟨rfl, ⟨rfl, trivial⟩⟩⟩⟩ (tX12_likely_b44 d σ v1 v3 v4 ((10 : Int32) - ((2 : Int32) * (gm_nm_unsure σ))) _ hf)
  · rw [if_neg c2] at hf
    refine ev_br 2 (P := r1 = (1 : Int32)) (a := 36) (b := 43) (ls := [some (.ref 0), some (.int (v1)), some (.int (v2)), some (.int (v3)), some (.int (v4)), some (.int (r1)), none, none, none, none]) (st := []) (h := hM σ) rfl (fun c3 => ?_) (fun c3 => ?_)
    · rw [if_pos c3] at hf
      refine ev_go (c' := (44, [some (.ref 0), some (.int (v1)), some (.int (v2)), some (.int (v3)), some (.int (v4)), some (.int (r1)), none, none, none, none], [.int ((gm_nm_unsure σ))], hM σ)) 2 rfl ?_
      exact ev_dr (a := [some (.ref 0), some (.int (v1)), none, some (.int (v3)), some (.int (v4)), none, none, none, none, none]) ⟨rfl, ⟨rfl, ⟨rfl, ⟨rfl, trivial⟩⟩⟩⟩ (tX12_likely_b44 d σ v1 v3 v4 (gm_nm_unsure σ) _ hf)
    · rw [if_neg c3] at hf
      refine ev_go (c' := (44, [some (.ref 0), some (.int (v1)), some (.int (v2)), some (.int (v3)), some (.int (v4)), some (.int (r1)), none, none, none, none], [.int ((0 : Int32))], hM σ)) 0 rfl ?_
      exact ev_dr (a := [some (.ref 0), some (.int (v1)), none, some (.int (v3)), some (.int (v4)), none, none, none, none, none]) ⟨rfl, ⟨rfl, ⟨rfl, ⟨rfl, trivial⟩⟩⟩⟩ (tX12_likely_b44 d σ v1 v3 v4 (0 : Int32) _ hf)
set_option maxRecDepth 20000 in
set_option maxHeartbeats 4000000 in
theorem tX12_likelyAll_b6 (d : Nat) (σ : SM) (k6 : Int32 → Int32 → Int32 → Int32 → Int32 → Option (Int32)) (hk6 : ∀ (v1 : Int32) (v2 : Int32) (v3 : Int32) (v4 : Int32) (v5 : Int32) (q : Int32), k6 v1 v2 v3 v4 v5 = some q → ev_X (d + 2) (some .int) eiX12_likelyAll (6, [some (.ref 0), some (.int (v1)), some (.int (v2)), some (.int (v3)), some (.int (v4)), some (.int (v5))], [], hM σ) (some (.int q), hM σ)) (v1 : Int32) (v2 : Int32) (v3 : Int32) (v4 : Int32) (v5 : Int32) (q : Int32) (hf : fX12_likelyAll_b6 σ k6 v1 v2 v3 v4 v5 = some q) : ev_X (d + 2) (some .int) eiX12_likelyAll (6, [some (.ref 0), some (.int (v1)), some (.int (v2)), some (.int (v3)), some (.int (v4)), some (.int (v5))], [], hM σ) (some (.int q), hM σ) := by
  unfold fX12_likelyAll_b6 at hf
  refine ev_br 3 (P := v5 < (gm_pl_players σ)) (a := 15) (b := 35) (ls := [some (.ref 0), some (.int (v1)), some (.int (v2)), some (.int (v3)), some (.int (v4)), some (.int (v5))]) (st := []) (h := hM σ) rfl (fun c1 => ?_) (fun c1 => ?_)
  · rw [if_pos c1] at hf
    obtain ⟨r1, hr1, hf⟩ := Option.bind_eq_some_iff.mp hf
    refine ev_cli 6 (kk := 189) (as := [.ref 0, .int (v5), .int (v1), .int (v2), .int (v3)]) (rest := [.int (v4)]) (pc := 23) (ls := [some (.ref 0), some (.int (v1)), some (.int (v2)), some (.int (v3)), some (.int (v4)), some (.int (v5))]) (st := [.int (v3), .int (v2), .int (v1), .int (v5), .ref 0, .int (v4)]) (h := hM σ) rfl (tX12_likely d σ v5 v1 v2 v3 r1 hr1) ?_
    refine ev_go (c' := (6, [some (.ref 0), some (.int (v1)), some (.int (v2)), some (.int (v3)), some (.int ((v4 + r1))), some (.int ((v5 + (1 : Int32))))], [], hM σ)) 3 rfl ?_
    exact ev_dr (a := [some (.ref 0), some (.int (v1)), some (.int (v2)), some (.int (v3)), some (.int ((v4 + r1))), some (.int ((v5 + (1 : Int32))))]) ⟨rfl, ⟨rfl, ⟨rfl, ⟨rfl, ⟨rfl, ⟨rfl, trivial⟩⟩⟩⟩⟩⟩ (hk6 v1 v2 v3 (v4 + r1) (v5 + (1 : Int32)) _ hf)
  · rw [if_neg c1] at hf
    cases hf
    exact ev_rt 1 rfl
theorem tX12_likelyAll_l6 (d : Nat) (σ : SM) : ∀ (n : Nat) (v1 : Int32) (v2 : Int32) (v3 : Int32) (v4 : Int32) (v5 : Int32) (q : Int32), fX12_likelyAll_l6 σ n v1 v2 v3 v4 v5 = some q → ev_X (d + 2) (some .int) eiX12_likelyAll (6, [some (.ref 0), some (.int (v1)), some (.int (v2)), some (.int (v3)), some (.int (v4)), some (.int (v5))], [], hM σ) (some (.int q), hM σ)
  | 0, _, _, _, _, _, _, hf => by cases hf
  | n + 1, v1, v2, v3, v4, v5, q, hf => tX12_likelyAll_b6 d σ (fX12_likelyAll_l6 σ n) (fun v1 v2 v3 v4 v5 q h9 => tX12_likelyAll_l6 d σ n v1 v2 v3 v4 v5 q h9) v1 v2 v3 v4 v5 q hf
set_option maxRecDepth 20000 in
set_option maxHeartbeats 4000000 in
theorem tX12_likelyAll (d : Nat) (σ : SM) (v1 : Int32) (v2 : Int32) (v3 : Int32) (q : Int32) (hf : fX12_likelyAll σ v1 v2 v3 = some q) : ev_M ev_mt (d + 3) 190 [.ref 0, .int (v1), .int (v2), .int (v3)] (hM σ) (some (.int q), hM σ) := by
  refine ev_en (rt := (some .int)) (I := eiX12_likelyAll) rfl (Nat.le_of_ble_eq_true rfl) ?_
  change ev_X (d + 2) _ _ (0, [some (.ref 0), some (.int (v1)), some (.int (v2)), some (.int (v3)), none, none], [], hM σ) _
  unfold fX12_likelyAll at hf
  refine ev_go (c' := (6, [some (.ref 0), some (.int (v1)), some (.int (v2)), some (.int (v3)), some (.int ((0 : Int32))), some (.int ((0 : Int32)))], [], hM σ)) 3 rfl ?_
  exact ev_dr (a := [some (.ref 0), some (.int (v1)), some (.int (v2)), some (.int (v3)), some (.int ((0 : Int32))), some (.int ((0 : Int32)))]) ⟨rfl, ⟨rfl, ⟨rfl, ⟨rfl, ⟨rfl, ⟨rfl, trivial⟩⟩⟩⟩⟩⟩ (tX12_likelyAll_l6 d σ 1000 v1 v2 v3 (0 : Int32) (0 : Int32) _ hf)
set_option maxRecDepth 20000 in
set_option maxHeartbeats 4000000 in
theorem tX12_isFelt_b33 (d : Nat) (h : ev_H) (w0 : Int32) (q : Int32) (hf : fX12_isFelt_b33 w0 = some q) : ev_X (d + 1) (some .boolean) eiX12_isFelt (33, [none, none, none], [.int (w0)], h) (some (.int q), h) := by
  unfold fX12_isFelt_b33 at hf
  obtain ⟨c1, hf⟩ := ev_hp hf
  cases hf
  exact ev_rk 0 rfl c1
set_option maxRecDepth 20000 in
set_option maxHeartbeats 4000000 in
theorem tX12_isFelt_b32 (d : Nat) (h : ev_H) (q : Int32) (hf : fX12_isFelt_b32 = some q) : ev_X (d + 1) (some .boolean) eiX12_isFelt (32, [none, none, none], [], h) (some (.int q), h) := by
  unfold fX12_isFelt_b32 at hf
  refine ev_go (c' := (33, [none, none, none], [.int ((0 : Int32))], h)) 0 rfl ?_
  exact ev_dr (a := [none, none, none]) trivial (tX12_isFelt_b33 d h (0 : Int32) _ hf)
set_option maxRecDepth 20000 in
set_option maxHeartbeats 4000000 in
theorem tX12_isFelt (d : Nat) (h : ev_H) (v0 : Int32) (v1 : Int32) (v2 : Int32) (q : Int32) (hf : fX12_isFelt v0 v1 v2 = some q) : ev_M ev_mt (d + 2) 191 [.int (v0), .int (v1), .int (v2)] (h) (some (.int q), h) := by
  refine ev_en (rt := (some .boolean)) (I := eiX12_isFelt) rfl (Nat.le_of_ble_eq_true rfl) ?_
  change ev_X (d + 1) _ _ (0, [some (.int (v0)), some (.int (v1)), some (.int (v2))], [], h) _
  unfold fX12_isFelt at hf
  obtain ⟨r1, hr1, hf⟩ := Option.bind_eq_some_iff.mp hf
  refine ev_cli 3 (kk := 123) (as := [.int (v0), .int ((0 : Int32)), .int ((9 : Int32))]) (rest := []) (pc := 4) (ls := [some (.int (v0)), some (.int (v1)), some (.int (v2))]) (st := [.int ((9 : Int32)), .int ((0 : Int32)), .int (v0)]) (h := h) rfl (tX12_within d (h) v0 (0 : Int32) (9 : Int32) r1 hr1) ?_
  refine ev_br 0 (P := r1 = 0) (a := 32) (b := 10) (ls := [some (.int (v0)), some (.int (v1)), some (.int (v2))]) (st := []) (h := h) rfl (fun c1 => ?_) (fun c1 => ?_)
  · rw [if_pos c1] at hf
    exact ev_dr (a := [none, none, none]) trivial (tX12_isFelt_b32 d h  _ hf)
  · rw [if_neg c1] at hf
    obtain ⟨r2, hr2, hf⟩ := Option.bind_eq_some_iff.mp hf
    refine ev_cli 3 (kk := 123) (as := [.int (v1), .int ((0 : Int32)), .int ((4 : Int32))]) (rest := []) (pc := 13) (ls := [some (.int (v0)), some (.int (v1)), some (.int (v2))]) (st := [.int ((4 : Int32)), .int ((0 : Int32)), .int (v1)]) (h := h) rfl (tX12_within d (h) v1 (0 : Int32) (4 : Int32) r2 hr2) ?_
    refine ev_br 0 (P := r2 = 0) (a := 32) (b := 19) (ls := [some (.int (v0)), some (.int (v1)), some (.int (v2))]) (st := []) (h := h) rfl (fun c2 => ?_) (fun c2 => ?_)
    · rw [if_pos c2] at hf
      exact ev_dr (a := [none, none, none]) trivial (tX12_isFelt_b32 d h  _ hf)
    · rw [if_neg c2] at hf
      obtain ⟨r3, hr3, hf⟩ := Option.bind_eq_some_iff.mp hf
      refine ev_cli 3 (kk := 123) (as := [.int (v2), .int ((0 : Int32)), .int ((4 : Int32))]) (rest := []) (pc := 22) (ls := [some (.int (v0)), some (.int (v1)), some (.int (v2))]) (st := [.int ((4 : Int32)), .int ((0 : Int32)), .int (v2)]) (h := h) rfl (tX12_within d (h) v2 (0 : Int32) (4 : Int32) r3 hr3) ?_
      refine ev_br 0 (P := r3 = 0) (a := 32) (b := 28) (ls := [some (.int (v0)), some (.int (v1)), some (.int (v2))]) (st := []) (h := h) rfl (fun c3 => ?_) (fun c3 => ?_)
      · rw [if_pos c3] at hf
        exact ev_dr (a := [none, none, none]) trivial (tX12_isFelt_b32 d h  _ hf)
      · rw [if_neg c3] at hf
        refine ev_go (c' := (33, [some (.int (v0)), some (.int (v1)), some (.int (v2))], [.int ((1 : Int32))], h)) 1 rfl ?_
        exact ev_dr (a := [none, none, none]) trivial (tX12_isFelt_b33 d h (1 : Int32) _ hf)
set_option maxRecDepth 20000 in
set_option maxHeartbeats 4000000 in
theorem tX12_named_b70 (d : Nat) (σ : SM) (w0 : Int32) (q : Int32) (hf : fX12_named_b70 σ w0 = some q) : ev_X (d + 3) (some .int) eiX12_named (70, [none, none, none, none, none, none, none], [.int (w0)], hM σ) (some (.int q), hM σ) := by
  unfold fX12_named_b70 at hf
  cases hf
  exact ev_rt 0 rfl
set_option maxRecDepth 20000 in
set_option maxHeartbeats 4000000 in
theorem tX12_named_b29 (d : Nat) (σ : SM) (q : Int32) (hf : fX12_named_b29 σ = some q) : ev_X (d + 3) (some .int) eiX12_named (29, [none, none, none, none, none, none, none], [], hM σ) (some (.int q), hM σ) := by
  unfold fX12_named_b29 at hf
  cases hf
  exact ev_rt 1 rfl
set_option maxRecDepth 20000 in
set_option maxHeartbeats 4000000 in
theorem tX12_named (d : Nat) (σ : SM) (v1 : Int32) (v2 : Int32) (v3 : Int32) (v4 : Int32) (v5 : Int32) (q : Int32) (hf : fX12_named σ v1 v2 v3 v4 v5 = some q) : ev_M ev_mt (d + 4) 192 [.ref 0, .int (v1), .int (v2), .int (v3), .int (v4), .int (v5)] (hM σ) (some (.int q), hM σ) := by
  refine ev_en (rt := (some .int)) (I := eiX12_named) rfl (Nat.le_of_ble_eq_true rfl) ?_
  change ev_X (d + 3) _ _ (0, [some (.ref 0), some (.int (v1)), some (.int (v2)), some (.int (v3)), some (.int (v4)), some (.int (v5)), none], [], hM σ) _
  unfold fX12_named at hf
  obtain ⟨r1, hr1, hf⟩ := Option.bind_eq_some_iff.mp hf
  refine ev_cli 2 (kk := 168) (as := [.ref 0, .int (v1)]) (rest := []) (pc := 2) (ls := [some (.ref 0), some (.int (v1)), some (.int (v2)), some (.int (v3)), some (.int (v4)), some (.int (v5)), none]) (st := [.int (v1), .ref 0]) (h := hM σ) rfl (tX12_isPlayer (d + 1) σ v1 r1 hr1) ?_
  refine ev_br 0 (P := r1 = 0) (a := 8) (b := 11) (ls := [some (.ref 0), some (.int (v1)), some (.int (v2)), some (.int (v3)), some (.int (v4)), some (.int (v5)), none]) (st := []) (h := hM σ) rfl (fun c1 => ?_) (fun c1 => ?_)
  · rw [if_pos c1] at hf
    cases hf
    exact ev_rt 1 rfl
  · rw [if_neg c1] at hf
    obtain ⟨r2, hr2, hf⟩ := Option.bind_eq_some_iff.mp hf
    refine ev_cli 3 (kk := 191) (as := [.int (v2), .int (v3), .int (v4)]) (rest := []) (pc := 15) (ls := [some (.ref 0), some (.int (v1)), some (.int (v2)), some (.int (v3)), some (.int (v4)), some (.int (v5)), none]) (st := [.int (v4), .int (v3), .int (v2)]) (h := hM σ) rfl (tX12_isFelt (d + 1) (hM σ) v2 v3 v4 r2 hr2) ?_
    refine ev_br 0 (P := r2 = 0) (a := 29) (b := 21) (ls := [some (.ref 0), some (.int (v1)), some (.int (v2)), some (.int (v3)), some (.int (v4)), some (.int (v5)), none]) (st := []) (h := hM σ) rfl (fun c2 => ?_) (fun c2 => ?_)
    · rw [if_pos c2] at hf
      exact ev_dr (a := [none, none, none, none, none, none, none]) trivial (tX12_named_b29 d σ  _ hf)
    · rw [if_neg c2] at hf
      obtain ⟨r3, hr3, hf⟩ := Option.bind_eq_some_iff.mp hf
      refine ev_cli 1 (kk := 156) (as := [.int (v5)]) (rest := []) (pc := 23) (ls := [some (.ref 0), some (.int (v1)), some (.int (v2)), some (.int (v3)), some (.int (v4)), some (.int (v5)), none]) (st := [.int (v5)]) (h := hM σ) rfl (tX12_isPart (d + 1) (hM σ) v5 r3 hr3) ?_
      refine ev_br 0 (P := r3 = 0) (a := 29) (b := 32) (ls := [some (.ref 0), some (.int (v1)), some (.int (v2)), some (.int (v3)), some (.int (v4)), some (.int (v5)), none]) (st := []) (h := hM σ) rfl (fun c3 => ?_) (fun c3 => ?_)
      · rw [if_pos c3] at hf
        exact ev_dr (a := [none, none, none, none, none, none, none]) trivial (tX12_named_b29 d σ  _ hf)
      · rw [if_neg c3] at hf
        obtain ⟨r4, hr4, hf⟩ := Option.bind_eq_some_iff.mp hf
        refine ev_cli 4 (kk := 190) (as := [.ref 0, .int (v2), .int (v3), .int (v4)]) (rest := []) (pc := 37) (ls := [some (.ref 0), some (.int (v1)), some (.int (v2)), some (.int (v3)), some (.int (v4)), some (.int (v5)), none]) (st := [.int (v4), .int (v3), .int (v2), .ref 0]) (h := hM σ) rfl (tX12_likelyAll d σ v2 v3 v4 r4 hr4) ?_
        refine ev_br 2 (P := r4 = 0) (a := 47) (b := 51) (ls := [some (.ref 0), some (.int (v1)), some (.int (v2)), some (.int (v3)), some (.int (v4)), some (.int (v5)), some (.int (r4))]) (st := []) (h := hM σ) rfl (fun c4 => ?_) (fun c4 => ?_)
        · rw [if_pos c4] at hf
          refine ev_go (c' := (70, [some (.ref 0), some (.int (v1)), some (.int (v2)), some (.int (v3)), some (.int (v4)), some (.int (v5)), some (.int (r4))], [.int ((-1 : Int32))], hM σ)) 1 rfl ?_
          exact ev_dr (a := [none, none, none, none, none, none, none]) trivial (tX12_named_b70 d σ (-1 : Int32) _ hf)
        · rw [if_neg c4] at hf
          obtain ⟨r5, hr5, hf⟩ := Option.bind_eq_some_iff.mp hf
          refine ev_cli 5 (kk := 189) (as := [.ref 0, .int (v1), .int (v2), .int (v3), .int (v4)]) (rest := []) (pc := 57) (ls := [some (.ref 0), some (.int (v1)), some (.int (v2)), some (.int (v3)), some (.int (v4)), some (.int (v5)), some (.int (r4))]) (st := [.int (v4), .int (v3), .int (v2), .int (v1), .ref 0]) (h := hM σ) rfl (tX12_likely (d + 1) σ v1 v2 v3 v4 r5 hr5) ?_
          obtain ⟨r6, hr6, hf⟩ := Option.bind_eq_some_iff.mp hf
          refine ev_cll 4 (kk := 126) (as := [.long (r5.toInt64), .long (r4.toInt64), .int (v5)]) (rest := []) (pc := 66) (ls := [some (.ref 0), some (.int (v1)), some (.int (v2)), some (.int (v3)), some (.int (v4)), some (.int (v5)), some (.int (r4))]) (st := [.int (v5), .long (r4.toInt64), .long (r5.toInt64)]) (h := hM σ) rfl (tX12_lowest (d + 1) (hM σ) r5.toInt64 r4.toInt64 v5 r6 hr6) ?_
          refine ev_go (c' := (70, [some (.ref 0), some (.int (v1)), some (.int (v2)), some (.int (v3)), some (.int (v4)), some (.int (v5)), some (.int (r4))], [.int (r6.toInt32)], hM σ)) 0 rfl ?_
          exact ev_dr (a := [none, none, none, none, none, none, none]) trivial (tX12_named_b70 d σ r6.toInt32 _ hf)
set_option maxRecDepth 20000 in
set_option maxHeartbeats 4000000 in
theorem tX12_saysNow_b59 (d : Nat) (σ : SM) (k9 : Int32 → Int32 → Int32 → Int32 → Int32 → Int32 → Option (Int32)) (hk9 : ∀ (v1 : Int32) (v2 : Int32) (v3 : Int32) (v4 : Int32) (v5 : Int32) (v6 : Int32) (q : Int32), k9 v1 v2 v3 v4 v5 v6 = some q → ev_X (d + 2) (some .int) eiX12_saysNow (9, [some (.ref 0), some (.int (v1)), some (.int (v2)), some (.int (v3)), some (.int (v4)), some (.int (v5)), some (.int (v6)), none], [], hM σ) (some (.int q), hM σ)) (v1 : Int32) (v2 : Int32) (v3 : Int32) (v4 : Int32) (v6 : Int32) (w0 : Int32) (q : Int32) (hf : fX12_saysNow_b59 σ k9 v1 v2 v3 v4 v6 w0 = some q) : ev_X (d + 2) (some .int) eiX12_saysNow (59, [some (.ref 0), some (.int (v1)), some (.int (v2)), some (.int (v3)), some (.int (v4)), none, some (.int (v6)), none], [.int (w0)], hM σ) (some (.int q), hM σ) := by
  unfold fX12_saysNow_b59 at hf
  refine ev_go (c' := (9, [some (.ref 0), some (.int (v1)), some (.int (v2)), some (.int (v3)), some (.int (v4)), some (.int (w0)), some (.int ((v6 + (1 : Int32)))), none], [], hM σ)) 2 rfl ?_
  exact ev_dr (a := [some (.ref 0), some (.int (v1)), some (.int (v2)), some (.int (v3)), some (.int (v4)), some (.int (w0)), some (.int ((v6 + (1 : Int32)))), none]) ⟨rfl, ⟨rfl, ⟨rfl, ⟨rfl, ⟨rfl, ⟨rfl, ⟨rfl, trivial⟩⟩⟩⟩⟩⟩⟩ (hk9 v1 v2 v3 v4 w0 (v6 + (1 : Int32)) _ hf)
set_option maxRecDepth 20000 in
set_option maxHeartbeats 4000000 in
theorem tX12_saysNow_b43 (d : Nat) (σ : SM) (k9 : Int32 → Int32 → Int32 → Int32 → Int32 → Int32 → Option (Int32)) (hk9 : ∀ (v1 : Int32) (v2 : Int32) (v3 : Int32) (v4 : Int32) (v5 : Int32) (v6 : Int32) (q : Int32), k9 v1 v2 v3 v4 v5 v6 = some q → ev_X (d + 2) (some .int) eiX12_saysNow (9, [some (.ref 0), some (.int (v1)), some (.int (v2)), some (.int (v3)), some (.int (v4)), some (.int (v5)), some (.int (v6)), none], [], hM σ) (some (.int q), hM σ)) (v1 : Int32) (v2 : Int32) (v3 : Int32) (v5 : Int32) (v6 : Int32) (v7 : Int32) (w0 : Int32) (q : Int32) (hf : fX12_saysNow_b43 σ k9 v1 v2 v3 v5 v6 v7 w0 = some q) : ev_X (d + 2) (some .int) eiX12_saysNow (43, [some (.ref 0), some (.int (v1)), some (.int (v2)), some (.int (v3)), none, some (.int (v5)), some (.int (v6)), some (.int (v7))], [.int (w0)], hM σ) (some (.int q), hM σ) := by
  unfold fX12_saysNow_b43 at hf
  refine ev_br 3 (P := v5 < v7) (a := 52) (b := 57) (ls := [some (.ref 0), some (.int (v1)), some (.int (v2)), some (.int (v3)), some (.int (w0)), some (.int (v5)), some (.int (v6)), some (.int (v7))]) (st := []) (h := hM σ) rfl (fun c1 => ?_) (fun c1 => ?_)
  · rw [if_pos c1] at hf
    refine ev_go (c' := (59, [some (.ref 0), some (.int (v1)), some (.int (v2)), some (.int (v3)), some (.int (w0)), some (.int (v5)), some (.int (v6)), some (.int (v7))], [.int (v7)], hM σ)) 1 rfl ?_
    exact ev_dr (a := [some (.ref 0), some (.int (v1)), some (.int (v2)), some (.int (v3)), some (.int (w0)), none, some (.int (v6)), none]) ⟨rfl, ⟨rfl, ⟨rfl, ⟨rfl, ⟨rfl, ⟨rfl, trivial⟩⟩⟩⟩⟩⟩ (tX12_saysNow_b59 d σ k9 hk9 v1 v2 v3 w0 v6 v7 _ hf)
  · rw [if_neg c1] at hf
    refine ev_go (c' := (59, [some (.ref 0), some (.int (v1)), some (.int (v2)), some (.int (v3)), some (.int (w0)), some (.int (v5)), some (.int (v6)), some (.int (v7))], [.int (v5)], hM σ)) 0 rfl ?_
    exact ev_dr (a := [some (.ref 0), some (.int (v1)), some (.int (v2)), some (.int (v3)), some (.int (w0)), none, some (.int (v6)), none]) ⟨rfl, ⟨rfl, ⟨rfl, ⟨rfl, ⟨rfl, ⟨rfl, trivial⟩⟩⟩⟩⟩⟩ (tX12_saysNow_b59 d σ k9 hk9 v1 v2 v3 w0 v6 v5 _ hf)
set_option maxRecDepth 20000 in
set_option maxHeartbeats 4000000 in
theorem tX12_saysNow_b9 (d : Nat) (σ : SM) (k9 : Int32 → Int32 → Int32 → Int32 → Int32 → Int32 → Option (Int32)) (hk9 : ∀ (v1 : Int32) (v2 : Int32) (v3 : Int32) (v4 : Int32) (v5 : Int32) (v6 : Int32) (q : Int32), k9 v1 v2 v3 v4 v5 v6 = some q → ev_X (d + 2) (some .int) eiX12_saysNow (9, [some (.ref 0), some (.int (v1)), some (.int (v2)), some (.int (v3)), some (.int (v4)), some (.int (v5)), some (.int (v6)), none], [], hM σ) (some (.int q), hM σ)) (v1 : Int32) (v2 : Int32) (v3 : Int32) (v4 : Int32) (v5 : Int32) (v6 : Int32) (q : Int32) (hf : fX12_saysNow_b9 σ k9 v1 v2 v3 v4 v5 v6 = some q) : ev_X (d + 2) (some .int) eiX12_saysNow (9, [some (.ref 0), some (.int (v1)), some (.int (v2)), some (.int (v3)), some (.int (v4)), some (.int (v5)), some (.int (v6)), none], [], hM σ) (some (.int q), hM σ) := by
  unfold fX12_saysNow_b9 at hf
  refine ev_br 3 (P := v6 < (gm_pl_players σ)) (a := 18) (b := 67) (ls := [some (.ref 0), some (.int (v1)), some (.int (v2)), some (.int (v3)), some (.int (v4)), some (.int (v5)), some (.int (v6)), none]) (st := []) (h := hM σ) rfl (fun c1 => ?_) (fun c1 => ?_)
  · rw [if_pos c1] at hf
    obtain ⟨r1, hr1, hf⟩ := Option.bind_eq_some_iff.mp hf
    refine ev_cli 5 (kk := 189) (as := [.ref 0, .int (v6), .int (v1), .int (v2), .int (v3)]) (rest := []) (pc := 24) (ls := [some (.ref 0), some (.int (v1)), some (.int (v2)), some (.int (v3)), some (.int (v4)), some (.int (v5)), some (.int (v6)), none]) (st := [.int (v3), .int (v2), .int (v1), .int (v6), .ref 0]) (h := hM σ) rfl (tX12_likely d σ v6 v1 v2 v3 r1 hr1) ?_
    refine ev_br 3 (P := v5 < r1) (a := 36) (b := 41) (ls := [some (.ref 0), some (.int (v1)), some (.int (v2)), some (.int (v3)), some (.int (v4)), some (.int (v5)), some (.int (v6)), some (.int (r1))]) (st := []) (h := hM σ) rfl (fun c2 => ?_) (fun c2 => ?_)
    · rw [if_pos c2] at hf
      refine ev_go (c' := (43, [some (.ref 0), some (.int (v1)), some (.int (v2)), some (.int (v3)), some (.int (v4)), some (.int (v5)), some (.int (v6)), some (.int (r1))], [.int (v6)], hM σ)) 1 rfl ?_
      exact ev_dr (a := [some (.ref 0), some (.int (v1)), some (.int (v2)), some (.int (v3)), none, some (.int (v5)), some (.int (v6)), some (.int (r1))]) ⟨rfl, ⟨rfl, ⟨rfl, ⟨rfl, ⟨rfl, ⟨rfl, ⟨rfl, trivial⟩⟩⟩⟩⟩⟩⟩ (tX12_saysNow_b43 d σ k9 hk9 v1 v2 v3 v5 v6 r1 v6 _ hf)
    · rw [if_neg c2] at hf
      refine ev_go (c' := (43, [some (.ref 0), some (.int (v1)), some (.int (v2)), some (.int (v3)), some (.int (v4)), some (.int (v5)), some (.int (v6)), some (.int (r1))], [.int (v4)], hM σ)) 0 rfl ?_
      exact ev_dr (a := [some (.ref 0), some (.int (v1)), some (.int (v2)), some (.int (v3)), none, some (.int (v5)), some (.int (v6)), some (.int (r1))]) ⟨rfl, ⟨rfl, ⟨rfl, ⟨rfl, ⟨rfl, ⟨rfl, ⟨rfl, trivial⟩⟩⟩⟩⟩⟩⟩ (tX12_saysNow_b43 d σ k9 hk9 v1 v2 v3 v5 v6 r1 v4 _ hf)
  · rw [if_neg c1] at hf
    cases hf
    exact ev_rt 1 rfl
theorem tX12_saysNow_l9 (d : Nat) (σ : SM) : ∀ (n : Nat) (v1 : Int32) (v2 : Int32) (v3 : Int32) (v4 : Int32) (v5 : Int32) (v6 : Int32) (q : Int32), fX12_saysNow_l9 σ n v1 v2 v3 v4 v5 v6 = some q → ev_X (d + 2) (some .int) eiX12_saysNow (9, [some (.ref 0), some (.int (v1)), some (.int (v2)), some (.int (v3)), some (.int (v4)), some (.int (v5)), some (.int (v6)), none], [], hM σ) (some (.int q), hM σ)
  | 0, _, _, _, _, _, _, _, hf => by cases hf
  | n + 1, v1, v2, v3, v4, v5, v6, q, hf => tX12_saysNow_b9 d σ (fX12_saysNow_l9 σ n) (fun v1 v2 v3 v4 v5 v6 q h9 => tX12_saysNow_l9 d σ n v1 v2 v3 v4 v5 v6 q h9) v1 v2 v3 v4 v5 v6 q hf
set_option maxRecDepth 20000 in
set_option maxHeartbeats 4000000 in
theorem tX12_saysNow (d : Nat) (σ : SM) (v1 : Int32) (v2 : Int32) (v3 : Int32) (q : Int32) (hf : fX12_saysNow σ v1 v2 v3 = some q) : ev_M ev_mt (d + 3) 193 [.ref 0, .int (v1), .int (v2), .int (v3)] (hM σ) (some (.int q), hM σ) := by
  refine ev_en (rt := (some .int)) (I := eiX12_saysNow) rfl (Nat.le_of_ble_eq_true rfl) ?_
  change ev_X (d + 2) _ _ (0, [some (.ref 0), some (.int (v1)), some (.int (v2)), some (.int (v3)), none, none, none, none], [], hM σ) _
  unfold fX12_saysNow at hf
  refine ev_go (c' := (9, [some (.ref 0), some (.int (v1)), some (.int (v2)), some (.int (v3)), some (.int ((-1 : Int32))), some (.int ((0 : Int32))), some (.int ((0 : Int32))), none], [], hM σ)) 5 rfl ?_
  exact ev_dr (a := [some (.ref 0), some (.int (v1)), some (.int (v2)), some (.int (v3)), some (.int ((-1 : Int32))), some (.int ((0 : Int32))), some (.int ((0 : Int32))), none]) ⟨rfl, ⟨rfl, ⟨rfl, ⟨rfl, ⟨rfl, ⟨rfl, ⟨rfl, trivial⟩⟩⟩⟩⟩⟩⟩ (tX12_saysNow_l9 d σ 1000 v1 v2 v3 (-1 : Int32) (0 : Int32) (0 : Int32) _ hf)
set_option maxRecDepth 20000 in
set_option maxHeartbeats 4000000 in
theorem tX12_says_b21 (d : Nat) (σ : SM) (w0 : Int32) (q : Int32) (hf : fX12_says_b21 σ w0 = some q) : ev_X (d + 3) (some .int) eiX12_says (21, [none, none, none, none], [.int (w0)], hM σ) (some (.int q), hM σ) := by
  unfold fX12_says_b21 at hf
  cases hf
  exact ev_rt 0 rfl
set_option maxRecDepth 20000 in
set_option maxHeartbeats 4000000 in
theorem tX12_says (d : Nat) (σ : SM) (v1 : Int32) (v2 : Int32) (v3 : Int32) (q : Int32) (hf : fX12_says σ v1 v2 v3 = some q) : ev_M ev_mt (d + 4) 194 [.ref 0, .int (v1), .int (v2), .int (v3)] (hM σ) (some (.int q), hM σ) := by
  refine ev_en (rt := (some .int)) (I := eiX12_says) rfl (Nat.le_of_ble_eq_true rfl) ?_
  change ev_X (d + 3) _ _ (0, [some (.ref 0), some (.int (v1)), some (.int (v2)), some (.int (v3))], [], hM σ) _
  unfold fX12_says at hf
  obtain ⟨r1, hr1, hf⟩ := Option.bind_eq_some_iff.mp hf
  refine ev_cli 3 (kk := 191) (as := [.int (v1), .int (v2), .int (v3)]) (rest := []) (pc := 3) (ls := [some (.ref 0), some (.int (v1)), some (.int (v2)), some (.int (v3))]) (st := [.int (v3), .int (v2), .int (v1)]) (h := hM σ) rfl (tX12_isFelt (d + 1) (hM σ) v1 v2 v3 r1 hr1) ?_
  refine ev_br 0 (P := r1 = 0) (a := 19) (b := 9) (ls := [some (.ref 0), some (.int (v1)), some (.int (v2)), some (.int (v3))]) (st := []) (h := hM σ) rfl (fun c1 => ?_) (fun c1 => ?_)
  · rw [if_pos c1] at hf
    refine ev_go (c' := (21, [some (.ref 0), some (.int (v1)), some (.int (v2)), some (.int (v3))], [.int ((-102 : Int32))], hM σ)) 0 rfl ?_
    exact ev_dr (a := [none, none, none, none]) trivial (tX12_says_b21 d σ (-102 : Int32) _ hf)
  · rw [if_neg c1] at hf
    obtain ⟨r2, hr2, hf⟩ := Option.bind_eq_some_iff.mp hf
    refine ev_cli 4 (kk := 193) (as := [.ref 0, .int (v1), .int (v2), .int (v3)]) (rest := []) (pc := 13) (ls := [some (.ref 0), some (.int (v1)), some (.int (v2)), some (.int (v3))]) (st := [.int (v3), .int (v2), .int (v1), .ref 0]) (h := hM σ) rfl (tX12_saysNow d σ v1 v2 v3 r2 hr2) ?_
    refine ev_go (c' := (21, [some (.ref 0), some (.int (v1)), some (.int (v2)), some (.int (v3))], [.int (r2)], hM σ)) 0 rfl ?_
    exact ev_dr (a := [none, none, none, none]) trivial (tX12_says_b21 d σ r2 _ hf)
set_option maxRecDepth 20000 in
set_option maxHeartbeats 4000000 in
theorem tX12_when_b88 (d : Nat) (σ : SM) (w0 : Int32) (q : Int32) (hf : fX12_when_b88 σ w0 = some q) : ev_X (d + 3) (some .int) eiX12_when (88, [none, none, none, none, none, none, none, none], [.int (w0)], hM σ) (some (.int q), hM σ) := by
  unfold fX12_when_b88 at hf
  cases hf
  exact ev_rt 0 rfl
set_option maxRecDepth 20000 in
set_option maxHeartbeats 4000000 in
theorem tX12_when_b31 (d : Nat) (σ : SM) (q : Int32) (hf : fX12_when_b31 σ = some q) : ev_X (d + 3) (some .int) eiX12_when (31, [none, none, none, none, none, none, none, none], [], hM σ) (some (.int q), hM σ) := by
  unfold fX12_when_b31 at hf
  cases hf
  exact ev_rt 1 rfl
set_option maxRecDepth 20000 in
set_option maxHeartbeats 4000000 in
theorem tX12_when (d : Nat) (σ : SM) (v1 : Int32) (v2 : Int32) (v3 : Int32) (v4 : Int32) (v5 : Int32) (q : Int32) (hf : fX12_when σ v1 v2 v3 v4 v5 = some q) : ev_M ev_mt (d + 4) 195 [.ref 0, .int (v1), .int (v2), .int (v3), .int (v4), .int (v5)] (hM σ) (some (.int q), hM σ) := by
  refine ev_en (rt := (some .int)) (I := eiX12_when) rfl (Nat.le_of_ble_eq_true rfl) ?_
  change ev_X (d + 3) _ _ (0, [some (.ref 0), some (.int (v1)), some (.int (v2)), some (.int (v3)), some (.int (v4)), some (.int (v5)), none, none], [], hM σ) _
  unfold fX12_when at hf
  obtain ⟨r1, hr1, hf⟩ := Option.bind_eq_some_iff.mp hf
  refine ev_cli 3 (kk := 191) (as := [.int (v1), .int (v2), .int (v3)]) (rest := []) (pc := 3) (ls := [some (.ref 0), some (.int (v1)), some (.int (v2)), some (.int (v3)), some (.int (v4)), some (.int (v5)), none, none]) (st := [.int (v3), .int (v2), .int (v1)]) (h := hM σ) rfl (tX12_isFelt (d + 1) (hM σ) v1 v2 v3 r1 hr1) ?_
  refine ev_br 0 (P := r1 = 0) (a := 31) (b := 9) (ls := [some (.ref 0), some (.int (v1)), some (.int (v2)), some (.int (v3)), some (.int (v4)), some (.int (v5)), none, none]) (st := []) (h := hM σ) rfl (fun c1 => ?_) (fun c1 => ?_)
  · rw [if_pos c1] at hf
    exact ev_dr (a := [none, none, none, none, none, none, none, none]) trivial (tX12_when_b31 d σ  _ hf)
  · rw [if_neg c1] at hf
    obtain ⟨r2, hr2, hf⟩ := Option.bind_eq_some_iff.mp hf
    refine ev_cli 3 (kk := 123) (as := [.int (v4), .int ((0 : Int32)), .int ((99 : Int32))]) (rest := []) (pc := 14) (ls := [some (.ref 0), some (.int (v1)), some (.int (v2)), some (.int (v3)), some (.int (v4)), some (.int (v5)), none, none]) (st := [.int ((99 : Int32)), .int ((0 : Int32)), .int (v4)]) (h := hM σ) rfl (tX12_within (d + 2) (hM σ) v4 (0 : Int32) (99 : Int32) r2 hr2) ?_
    refine ev_br 0 (P := r2 = 0) (a := 31) (b := 20) (ls := [some (.ref 0), some (.int (v1)), some (.int (v2)), some (.int (v3)), some (.int (v4)), some (.int (v5)), none, none]) (st := []) (h := hM σ) rfl (fun c2 => ?_) (fun c2 => ?_)
    · rw [if_pos c2] at hf
      exact ev_dr (a := [none, none, none, none, none, none, none, none]) trivial (tX12_when_b31 d σ  _ hf)
    · rw [if_neg c2] at hf
      obtain ⟨r3, hr3, hf⟩ := Option.bind_eq_some_iff.mp hf
      refine ev_cli 3 (kk := 123) (as := [.int (v5), .int ((0 : Int32)), .int ((99 : Int32))]) (rest := []) (pc := 25) (ls := [some (.ref 0), some (.int (v1)), some (.int (v2)), some (.int (v3)), some (.int (v4)), some (.int (v5)), none, none]) (st := [.int ((99 : Int32)), .int ((0 : Int32)), .int (v5)]) (h := hM σ) rfl (tX12_within (d + 2) (hM σ) v5 (0 : Int32) (99 : Int32) r3 hr3) ?_
      refine ev_br 0 (P := r3 = 0) (a := 31) (b := 34) (ls := [some (.ref 0), some (.int (v1)), some (.int (v2)), some (.int (v3)), some (.int (v4)), some (.int (v5)), none, none]) (st := []) (h := hM σ) rfl (fun c3 => ?_) (fun c3 => ?_)
      · rw [if_pos c3] at hf
        exact ev_dr (a := [none, none, none, none, none, none, none, none]) trivial (tX12_when_b31 d σ  _ hf)
      · rw [if_neg c3] at hf
        obtain ⟨r4, hr4, hf⟩ := Option.bind_eq_some_iff.mp hf
        refine ev_cli 4 (kk := 193) (as := [.ref 0, .int (v1), .int (v2), .int (v3)]) (rest := []) (pc := 38) (ls := [some (.ref 0), some (.int (v1)), some (.int (v2)), some (.int (v3)), some (.int (v4)), some (.int (v5)), none, none]) (st := [.int (v3), .int (v2), .int (v1), .ref 0]) (h := hM σ) rfl (tX12_saysNow d σ v1 v2 v3 r4 hr4) ?_
        refine ev_br 3 (P := r4 = (-1 : Int32)) (a := 49) (b := 51) (ls := [some (.ref 0), some (.int (v1)), some (.int (v2)), some (.int (v3)), some (.int (v4)), some (.int (v5)), some (.int (r4)), none]) (st := []) (h := hM σ) rfl (fun c4 => ?_) (fun c4 => ?_)
        · rw [if_pos c4] at hf
          cases hf
          exact ev_rt 1 rfl
        · rw [if_neg c4] at hf
          obtain ⟨r5, hr5, hf⟩ := Option.bind_eq_some_iff.mp hf
          refine ev_cli 5 (kk := 189) (as := [.ref 0, .int (r4), .int (v1), .int (v2), .int (v3)]) (rest := []) (pc := 57) (ls := [some (.ref 0), some (.int (v1)), some (.int (v2)), some (.int (v3)), some (.int (v4)), some (.int (v5)), some (.int (r4)), none]) (st := [.int (v3), .int (v2), .int (v1), .int (r4), .ref 0]) (h := hM σ) rfl (tX12_likely (d + 1) σ r4 v1 v2 v3 r5 hr5) ?_
          obtain ⟨r6, hr6, hf⟩ := Option.bind_eq_some_iff.mp hf
          refine ev_cli 9 (kk := 190) (as := [.ref 0, .int (v1), .int (v2), .int (v3)]) (rest := [.int (v5), .int ((v4 * r5))]) (pc := 73) (ls := [some (.ref 0), some (.int (v1)), some (.int (v2)), some (.int (v3)), some (.int (v4)), some (.int (v5)), some (.int (r4)), some (.int (r5))]) (st := [.int (v3), .int (v2), .int (v1), .ref 0, .int (v5), .int ((v4 * r5))]) (h := hM σ) rfl (tX12_likelyAll d σ v1 v2 v3 r6 hr6) ?_
          refine ev_br 3 (P := (v5 * (r6 - r5)) < (v4 * r5)) (a := 83) (b := 87) (ls := [some (.ref 0), some (.int (v1)), some (.int (v2)), some (.int (v3)), some (.int (v4)), some (.int (v5)), some (.int (r4)), some (.int (r5))]) (st := []) (h := hM σ) rfl (fun c5 => ?_) (fun c5 => ?_)
          · rw [if_pos c5] at hf
            refine ev_go (c' := (88, [some (.ref 0), some (.int (v1)), some (.int (v2)), some (.int (v3)), some (.int (v4)), some (.int (v5)), some (.int (r4)), some (.int (r5))], [.int ((1 : Int32))], hM σ)) 1 rfl ?_
            exact ev_dr (a := [none, none, none, none, none, none, none, none]) trivial (tX12_when_b88 d σ (1 : Int32) _ hf)
          · rw [if_neg c5] at hf
            refine ev_go (c' := (88, [some (.ref 0), some (.int (v1)), some (.int (v2)), some (.int (v3)), some (.int (v4)), some (.int (v5)), some (.int (r4)), some (.int (r5))], [.int ((0 : Int32))], hM σ)) 0 rfl ?_
            exact ev_dr (a := [none, none, none, none, none, none, none, none]) trivial (tX12_when_b88 d σ (0 : Int32) _ hf)
set_option maxRecDepth 20000 in
set_option maxHeartbeats 4000000 in
theorem tX12_image_b92 (d : Nat) (k92 : SM → Int32 → Option (Int32 × SM)) (hk92 : ∀ (σ : SM) (v1 : Int32) (q : Int32 × SM), k92 σ v1 = some q → ev_X d (some .int) eiX12_image (92, [some (.ref 0), some (.int (v1))], [], hM σ) (some (.int q.1), hM q.2)) (σ : SM) (v1 : Int32) (q : Int32 × SM) (hf : fX12_image_b92 k92 σ v1 = some q) : ev_X d (some .int) eiX12_image (92, [some (.ref 0), some (.int (v1))], [], hM σ) (some (.int q.1), hM q.2) := by
  unfold fX12_image_b92 at hf
  refine ev_br 3 (P := v1 < (gm_pl_players σ)) (a := 100) (b := 118) (ls := [some (.ref 0), some (.int (v1))]) (st := []) (h := hM σ) rfl (fun c1 => ?_) (fun c1 => ?_)
  · rw [if_pos c1] at hf
    obtain ⟨c2, hf⟩ := ev_hp hf
    refine ev_ck 6 (P := ¬ (v1 < 0 ∨ 6 ≤ v1.toNatClampNeg)) (c' := (111, [some (.ref 0), some (.int (v1))], [.int (((gm_pl_placeOf σ) v1.toNatClampNeg)), .int (v1), .ref 11], hM σ)) rfl c2 ?_
    obtain ⟨c3, hf⟩ := ev_hp hf
    refine ev_st1 (e := (111, .iastore, 1, 0, 0, .null, [], [])) (c' := (112, [some (.ref 0), some (.int (v1))], [], hM (sm_kp_keptPlace σ (upd (gm_kp_keptPlace σ) v1.toNatClampNeg ((gm_pl_placeOf σ) v1.toNatClampNeg))))) rfl (oy_ast_m_kp_keptPlace c3) ?_
    refine ev_go (c' := (92, [some (.ref 0), some (.int ((v1 + (1 : Int32))))], [], hM (sm_kp_keptPlace σ (upd (gm_kp_keptPlace σ) v1.toNatClampNeg ((gm_pl_placeOf σ) v1.toNatClampNeg))))) 1 rfl ?_
    exact ev_dr (a := [some (.ref 0), some (.int ((v1 + (1 : Int32))))]) ⟨rfl, ⟨rfl, trivial⟩⟩ (hk92 (sm_kp_keptPlace σ (upd (gm_kp_keptPlace σ) v1.toNatClampNeg ((gm_pl_placeOf σ) v1.toNatClampNeg))) (v1 + (1 : Int32)) _ hf)
  · rw [if_neg c1] at hf
    cases hf
    exact ev_rt 2 rfl
theorem tX12_image_l92 (d : Nat) : ∀ (n : Nat) (σ : SM) (v1 : Int32) (q : Int32 × SM), fX12_image_l92 n σ v1 = some q → ev_X d (some .int) eiX12_image (92, [some (.ref 0), some (.int (v1))], [], hM σ) (some (.int q.1), hM q.2)
  | 0, _, _, _, hf => by cases hf
  | n + 1, σ, v1, q, hf => tX12_image_b92 d (fX12_image_l92 n) (fun σ v1 q h9 => tX12_image_l92 d n σ v1 q h9) σ v1 q hf
set_option maxRecDepth 20000 in
set_option maxHeartbeats 4000000 in
theorem tX12_image_b65 (d : Nat) (k65 : SM → Int32 → Option (Int32 × SM)) (hk65 : ∀ (σ : SM) (v1 : Int32) (q : Int32 × SM), k65 σ v1 = some q → ev_X d (some .int) eiX12_image (65, [some (.ref 0), some (.int (v1))], [], hM σ) (some (.int q.1), hM q.2)) (σ : SM) (v1 : Int32) (q : Int32 × SM) (hf : fX12_image_b65 k65 σ v1 = some q) : ev_X d (some .int) eiX12_image (65, [some (.ref 0), some (.int (v1))], [], hM σ) (some (.int q.1), hM q.2) := by
  unfold fX12_image_b65 at hf
  refine ev_br 2 (P := v1 < (144 : Int32)) (a := 72) (b := 90) (ls := [some (.ref 0), some (.int (v1))]) (st := []) (h := hM σ) rfl (fun c1 => ?_) (fun c1 => ?_)
  · rw [if_pos c1] at hf
    obtain ⟨c2, hf⟩ := ev_hp hf
    refine ev_ck 6 (P := ¬ (v1 < 0 ∨ 144 ≤ v1.toNatClampNeg)) (c' := (83, [some (.ref 0), some (.int (v1))], [.long (((gm_od_weight σ) v1.toNatClampNeg)), .int (v1), .ref 10], hM σ)) rfl c2 ?_
    obtain ⟨c3, hf⟩ := ev_hp hf
    refine ev_st1 (e := (83, .lastore, 1, 0, 0, .null, [], [])) (c' := (84, [some (.ref 0), some (.int (v1))], [], hM (sm_kp_keptWeight σ (vp_updL (gm_kp_keptWeight σ) v1.toNatClampNeg ((gm_od_weight σ) v1.toNatClampNeg))))) rfl (oy_ast_m_kp_keptWeight c3) ?_
    refine ev_go (c' := (65, [some (.ref 0), some (.int ((v1 + (1 : Int32))))], [], hM (sm_kp_keptWeight σ (vp_updL (gm_kp_keptWeight σ) v1.toNatClampNeg ((gm_od_weight σ) v1.toNatClampNeg))))) 1 rfl ?_
    exact ev_dr (a := [some (.ref 0), some (.int ((v1 + (1 : Int32))))]) ⟨rfl, ⟨rfl, trivial⟩⟩ (hk65 (sm_kp_keptWeight σ (vp_updL (gm_kp_keptWeight σ) v1.toNatClampNeg ((gm_od_weight σ) v1.toNatClampNeg))) (v1 + (1 : Int32)) _ hf)
  · rw [if_neg c1] at hf
    refine ev_go (c' := (92, [some (.ref 0), some (.int ((0 : Int32)))], [], hM σ)) 1 rfl ?_
    exact ev_dr (a := [some (.ref 0), some (.int ((0 : Int32)))]) ⟨rfl, ⟨rfl, trivial⟩⟩ (tX12_image_l92 d 1000 σ (0 : Int32) _ hf)
theorem tX12_image_l65 (d : Nat) : ∀ (n : Nat) (σ : SM) (v1 : Int32) (q : Int32 × SM), fX12_image_l65 n σ v1 = some q → ev_X d (some .int) eiX12_image (65, [some (.ref 0), some (.int (v1))], [], hM σ) (some (.int q.1), hM q.2)
  | 0, _, _, _, hf => by cases hf
  | n + 1, σ, v1, q, hf => tX12_image_b65 d (fX12_image_l65 n) (fun σ v1 q h9 => tX12_image_l65 d n σ v1 q h9) σ v1 q hf
set_option maxRecDepth 20000 in
set_option maxHeartbeats 4000000 in
theorem tX12_image (d : Nat) (σ : SM) (q : Int32 × SM) (hf : fX12_image σ = some q) : ev_M ev_mt (d + 1) 196 [.ref 0] (hM σ) (some (.int q.1), hM q.2) := by
  refine ev_en (rt := (some .int)) (I := eiX12_image) rfl (Nat.le_of_ble_eq_true rfl) ?_
  change ev_X d _ _ (0, [some (.ref 0), none], [], hM σ) _
  unfold fX12_image at hf
  refine ev_br 2 (P := (gm_rg_rings σ) = 0) (a := 7) (b := 10) (ls := [some (.ref 0), none]) (st := []) (h := hM σ) rfl (fun c1 => ?_) (fun c1 => ?_)
  · rw [if_pos c1] at hf
    cases hf
    exact ev_rt 1 rfl
  · rw [if_neg c1] at hf
    refine ev_go (c' := (12, [some (.ref 0), none], [.int ((1 : Int32)), .ref 0], hM σ)) 1 rfl ?_
    refine ev_st1 (e := (12, .putfield 302, 3, 22, 2, .null, [(12, 0)], [1072])) (c' := (15, [some (.ref 0), none], [], hM (sm_kp_isKept σ (1 : Int32)))) rfl (oy_put_m_kp_isKept (by decide)) ?_
    refine ev_go (c' := (20, [some (.ref 0), none], [.int ((gm_rg_rings σ)), .ref 0], hM (sm_kp_isKept σ (1 : Int32)))) 2 rfl ?_
    refine ev_st1 (e := (20, .putfield 305, 3, 23, 0, .null, [(12, 0)], [1073])) (c' := (23, [some (.ref 0), none], [], hM (sm_kp_keptRing (sm_kp_isKept σ (1 : Int32)) (gm_rg_rings σ)))) rfl oy_put_m_kp_keptRing ?_
    refine ev_go (c' := (28, [some (.ref 0), none], [.int ((gm_pl_players σ)), .ref 0], hM (sm_kp_keptRing (sm_kp_isKept σ (1 : Int32)) (gm_rg_rings σ)))) 2 rfl ?_
    refine ev_st1 (e := (28, .putfield 308, 3, 24, 0, .null, [(12, 0)], [1074])) (c' := (31, [some (.ref 0), none], [], hM (sm_kp_keptPlayers (sm_kp_keptRing (sm_kp_isKept σ (1 : Int32)) (gm_rg_rings σ)) (gm_pl_players σ)))) rfl oy_put_m_kp_keptPlayers ?_
    refine ev_go (c' := (36, [some (.ref 0), none], [.int ((gm_od_updates σ)), .ref 0], hM (sm_kp_keptPlayers (sm_kp_keptRing (sm_kp_isKept σ (1 : Int32)) (gm_rg_rings σ)) (gm_pl_players σ)))) 2 rfl ?_
    refine ev_st1 (e := (36, .putfield 311, 3, 25, 0, .null, [(12, 0)], [1075])) (c' := (39, [some (.ref 0), none], [], hM (sm_kp_keptUpdates (sm_kp_keptPlayers (sm_kp_keptRing (sm_kp_isKept σ (1 : Int32)) (gm_rg_rings σ)) (gm_pl_players σ)) (gm_od_updates σ)))) rfl oy_put_m_kp_keptUpdates ?_
    refine ev_go (c' := (44, [some (.ref 0), none], [.int ((gm_nm_jacketA σ)), .ref 0], hM (sm_kp_keptUpdates (sm_kp_keptPlayers (sm_kp_keptRing (sm_kp_isKept σ (1 : Int32)) (gm_rg_rings σ)) (gm_pl_players σ)) (gm_od_updates σ)))) 2 rfl ?_
    refine ev_st1 (e := (44, .putfield 314, 3, 26, 0, .null, [(12, 0)], [1076])) (c' := (47, [some (.ref 0), none], [], hM (sm_kp_keptA (sm_kp_keptUpdates (sm_kp_keptPlayers (sm_kp_keptRing (sm_kp_isKept σ (1 : Int32)) (gm_rg_rings σ)) (gm_pl_players σ)) (gm_od_updates σ)) (gm_nm_jacketA σ)))) rfl oy_put_m_kp_keptA ?_
    refine ev_go (c' := (52, [some (.ref 0), none], [.int ((gm_nm_jacketB σ)), .ref 0], hM (sm_kp_keptA (sm_kp_keptUpdates (sm_kp_keptPlayers (sm_kp_keptRing (sm_kp_isKept σ (1 : Int32)) (gm_rg_rings σ)) (gm_pl_players σ)) (gm_od_updates σ)) (gm_nm_jacketA σ)))) 2 rfl ?_
    refine ev_st1 (e := (52, .putfield 317, 3, 27, 0, .null, [(12, 0)], [1077])) (c' := (55, [some (.ref 0), none], [], hM (sm_kp_keptB (sm_kp_keptA (sm_kp_keptUpdates (sm_kp_keptPlayers (sm_kp_keptRing (sm_kp_isKept σ (1 : Int32)) (gm_rg_rings σ)) (gm_pl_players σ)) (gm_od_updates σ)) (gm_nm_jacketA σ)) (gm_nm_jacketB σ)))) rfl oy_put_m_kp_keptB ?_
    refine ev_go (c' := (60, [some (.ref 0), none], [.int ((gm_nm_jacketTenths σ)), .ref 0], hM (sm_kp_keptB (sm_kp_keptA (sm_kp_keptUpdates (sm_kp_keptPlayers (sm_kp_keptRing (sm_kp_isKept σ (1 : Int32)) (gm_rg_rings σ)) (gm_pl_players σ)) (gm_od_updates σ)) (gm_nm_jacketA σ)) (gm_nm_jacketB σ)))) 2 rfl ?_
    refine ev_st1 (e := (60, .putfield 320, 3, 28, 0, .null, [(12, 0)], [1078])) (c' := (63, [some (.ref 0), none], [], hM (sm_kp_keptTenths (sm_kp_keptB (sm_kp_keptA (sm_kp_keptUpdates (sm_kp_keptPlayers (sm_kp_keptRing (sm_kp_isKept σ (1 : Int32)) (gm_rg_rings σ)) (gm_pl_players σ)) (gm_od_updates σ)) (gm_nm_jacketA σ)) (gm_nm_jacketB σ)) (gm_nm_jacketTenths σ)))) rfl oy_put_m_kp_keptTenths ?_
    refine ev_go (c' := (65, [some (.ref 0), some (.int ((0 : Int32)))], [], hM (sm_kp_keptTenths (sm_kp_keptB (sm_kp_keptA (sm_kp_keptUpdates (sm_kp_keptPlayers (sm_kp_keptRing (sm_kp_isKept σ (1 : Int32)) (gm_rg_rings σ)) (gm_pl_players σ)) (gm_od_updates σ)) (gm_nm_jacketA σ)) (gm_nm_jacketB σ)) (gm_nm_jacketTenths σ)))) 1 rfl ?_
    exact ev_dr (a := [some (.ref 0), some (.int ((0 : Int32)))]) ⟨rfl, ⟨rfl, trivial⟩⟩ (tX12_image_l65 d 1000 (sm_kp_keptTenths (sm_kp_keptB (sm_kp_keptA (sm_kp_keptUpdates (sm_kp_keptPlayers (sm_kp_keptRing (sm_kp_isKept σ (1 : Int32)) (gm_rg_rings σ)) (gm_pl_players σ)) (gm_od_updates σ)) (gm_nm_jacketA σ)) (gm_nm_jacketB σ)) (gm_nm_jacketTenths σ)) (0 : Int32) _ hf)
set_option maxRecDepth 20000 in
set_option maxHeartbeats 4000000 in
theorem tX12_restore_b82 (d : Nat) (k82 : SM → Int32 → Option (Int32 × SM)) (hk82 : ∀ (σ : SM) (v1 : Int32) (q : Int32 × SM), k82 σ v1 = some q → ev_X d (some .int) eiX12_restore (82, [some (.ref 0), some (.int (v1))], [], hM σ) (some (.int q.1), hM q.2)) (σ : SM) (v1 : Int32) (q : Int32 × SM) (hf : fX12_restore_b82 k82 σ v1 = some q) : ev_X d (some .int) eiX12_restore (82, [some (.ref 0), some (.int (v1))], [], hM σ) (some (.int q.1), hM q.2) := by
  unfold fX12_restore_b82 at hf
  refine ev_br 3 (P := v1 < (gm_kp_keptPlayers σ)) (a := 90) (b := 108) (ls := [some (.ref 0), some (.int (v1))]) (st := []) (h := hM σ) rfl (fun c1 => ?_) (fun c1 => ?_)
  · rw [if_pos c1] at hf
    obtain ⟨c2, hf⟩ := ev_hp hf
    refine ev_ck 6 (P := ¬ (v1 < 0 ∨ 6 ≤ v1.toNatClampNeg)) (c' := (101, [some (.ref 0), some (.int (v1))], [.int (((gm_kp_keptPlace σ) v1.toNatClampNeg)), .int (v1), .ref 5], hM σ)) rfl c2 ?_
    obtain ⟨c3, hf⟩ := ev_hp hf
    refine ev_st1 (e := (101, .iastore, 1, 0, 0, .null, [], [])) (c' := (102, [some (.ref 0), some (.int (v1))], [], hM (sm_pl_placeOf σ (upd (gm_pl_placeOf σ) v1.toNatClampNeg ((gm_kp_keptPlace σ) v1.toNatClampNeg))))) rfl (oy_ast_m_pl_placeOf c3) ?_
    refine ev_go (c' := (82, [some (.ref 0), some (.int ((v1 + (1 : Int32))))], [], hM (sm_pl_placeOf σ (upd (gm_pl_placeOf σ) v1.toNatClampNeg ((gm_kp_keptPlace σ) v1.toNatClampNeg))))) 1 rfl ?_
    exact ev_dr (a := [some (.ref 0), some (.int ((v1 + (1 : Int32))))]) ⟨rfl, ⟨rfl, trivial⟩⟩ (hk82 (sm_pl_placeOf σ (upd (gm_pl_placeOf σ) v1.toNatClampNeg ((gm_kp_keptPlace σ) v1.toNatClampNeg))) (v1 + (1 : Int32)) _ hf)
  · rw [if_neg c1] at hf
    cases hf
    exact ev_rt 2 rfl
theorem tX12_restore_l82 (d : Nat) : ∀ (n : Nat) (σ : SM) (v1 : Int32) (q : Int32 × SM), fX12_restore_l82 n σ v1 = some q → ev_X d (some .int) eiX12_restore (82, [some (.ref 0), some (.int (v1))], [], hM σ) (some (.int q.1), hM q.2)
  | 0, _, _, _, hf => by cases hf
  | n + 1, σ, v1, q, hf => tX12_restore_b82 d (fX12_restore_l82 n) (fun σ v1 q h9 => tX12_restore_l82 d n σ v1 q h9) σ v1 q hf
set_option maxRecDepth 20000 in
set_option maxHeartbeats 4000000 in
theorem tX12_restore_b55 (d : Nat) (k55 : SM → Int32 → Option (Int32 × SM)) (hk55 : ∀ (σ : SM) (v1 : Int32) (q : Int32 × SM), k55 σ v1 = some q → ev_X d (some .int) eiX12_restore (55, [some (.ref 0), some (.int (v1))], [], hM σ) (some (.int q.1), hM q.2)) (σ : SM) (v1 : Int32) (q : Int32 × SM) (hf : fX12_restore_b55 k55 σ v1 = some q) : ev_X d (some .int) eiX12_restore (55, [some (.ref 0), some (.int (v1))], [], hM σ) (some (.int q.1), hM q.2) := by
  unfold fX12_restore_b55 at hf
  refine ev_br 2 (P := v1 < (144 : Int32)) (a := 62) (b := 80) (ls := [some (.ref 0), some (.int (v1))]) (st := []) (h := hM σ) rfl (fun c1 => ?_) (fun c1 => ?_)
  · rw [if_pos c1] at hf
    obtain ⟨c2, hf⟩ := ev_hp hf
    refine ev_ck 6 (P := ¬ (v1 < 0 ∨ 144 ≤ v1.toNatClampNeg)) (c' := (73, [some (.ref 0), some (.int (v1))], [.long (((gm_kp_keptWeight σ) v1.toNatClampNeg)), .int (v1), .ref 2], hM σ)) rfl c2 ?_
    obtain ⟨c3, hf⟩ := ev_hp hf
    refine ev_st1 (e := (73, .lastore, 1, 0, 0, .null, [], [])) (c' := (74, [some (.ref 0), some (.int (v1))], [], hM (sm_od_weight σ (vp_updL (gm_od_weight σ) v1.toNatClampNeg ((gm_kp_keptWeight σ) v1.toNatClampNeg))))) rfl (oy_ast_m_od_weight c3) ?_
    refine ev_go (c' := (55, [some (.ref 0), some (.int ((v1 + (1 : Int32))))], [], hM (sm_od_weight σ (vp_updL (gm_od_weight σ) v1.toNatClampNeg ((gm_kp_keptWeight σ) v1.toNatClampNeg))))) 1 rfl ?_
    exact ev_dr (a := [some (.ref 0), some (.int ((v1 + (1 : Int32))))]) ⟨rfl, ⟨rfl, trivial⟩⟩ (hk55 (sm_od_weight σ (vp_updL (gm_od_weight σ) v1.toNatClampNeg ((gm_kp_keptWeight σ) v1.toNatClampNeg))) (v1 + (1 : Int32)) _ hf)
  · rw [if_neg c1] at hf
    refine ev_go (c' := (82, [some (.ref 0), some (.int ((0 : Int32)))], [], hM σ)) 1 rfl ?_
    exact ev_dr (a := [some (.ref 0), some (.int ((0 : Int32)))]) ⟨rfl, ⟨rfl, trivial⟩⟩ (tX12_restore_l82 d 1000 σ (0 : Int32) _ hf)
theorem tX12_restore_l55 (d : Nat) : ∀ (n : Nat) (σ : SM) (v1 : Int32) (q : Int32 × SM), fX12_restore_l55 n σ v1 = some q → ev_X d (some .int) eiX12_restore (55, [some (.ref 0), some (.int (v1))], [], hM σ) (some (.int q.1), hM q.2)
  | 0, _, _, _, hf => by cases hf
  | n + 1, σ, v1, q, hf => tX12_restore_b55 d (fX12_restore_l55 n) (fun σ v1 q h9 => tX12_restore_l55 d n σ v1 q h9) σ v1 q hf
set_option maxRecDepth 20000 in
set_option maxHeartbeats 4000000 in
theorem tX12_restore_b18 (d : Nat) (σ : SM) (q : Int32 × SM) (hf : fX12_restore_b18 σ = some q) : ev_X d (some .int) eiX12_restore (18, [none, none], [], hM σ) (some (.int q.1), hM q.2) := by
  unfold fX12_restore_b18 at hf
  cases hf
  exact ev_rt 1 rfl
set_option maxRecDepth 20000 in
set_option maxHeartbeats 4000000 in
theorem tX12_restore (d : Nat) (σ : SM) (q : Int32 × SM) (hf : fX12_restore σ = some q) : ev_M ev_mt (d + 1) 197 [.ref 0] (hM σ) (some (.int q.1), hM q.2) := by
  refine ev_en (rt := (some .int)) (I := eiX12_restore) rfl (Nat.le_of_ble_eq_true rfl) ?_
  change ev_X d _ _ (0, [some (.ref 0), none], [], hM σ) _
  unfold fX12_restore at hf
  refine ev_br 2 (P := (gm_kp_isKept σ) = 0) (a := 18) (b := 7) (ls := [some (.ref 0), none]) (st := []) (h := hM σ) rfl (fun c1 => ?_) (fun c1 => ?_)
  · rw [if_pos c1] at hf
    exact ev_dr (a := [none, none]) trivial (tX12_restore_b18 d σ  _ hf)
  · rw [if_neg c1] at hf
    refine ev_br 4 (P := (gm_kp_keptRing σ) = (gm_rg_rings σ)) (a := 21) (b := 18) (ls := [some (.ref 0), none]) (st := []) (h := hM σ) rfl (fun c2 => ?_) (fun c2 => ?_)
    · rw [if_pos c2] at hf
      refine ev_go (c' := (26, [some (.ref 0), none], [.int ((gm_kp_keptUpdates σ)), .ref 0], hM σ)) 2 rfl ?_
      refine ev_st1 (e := (26, .putfield 129, 3, 6, 0, .null, [(12, 0)], [1056])) (c' := (29, [some (.ref 0), none], [], hM (sm_od_updates σ (gm_kp_keptUpdates σ)))) rfl oy_put_m_od_updates ?_
      refine ev_go (c' := (34, [some (.ref 0), none], [.int ((gm_kp_keptA σ)), .ref 0], hM (sm_od_updates σ (gm_kp_keptUpdates σ)))) 2 rfl ?_
      refine ev_st1 (e := (34, .putfield 42, 3, 16, 0, .null, [(12, 0)], [1066])) (c' := (37, [some (.ref 0), none], [], hM (sm_nm_jacketA (sm_od_updates σ (gm_kp_keptUpdates σ)) (gm_kp_keptA σ)))) rfl oy_put_m_nm_jacketA ?_
      refine ev_go (c' := (42, [some (.ref 0), none], [.int ((gm_kp_keptB σ)), .ref 0], hM (sm_nm_jacketA (sm_od_updates σ (gm_kp_keptUpdates σ)) (gm_kp_keptA σ)))) 2 rfl ?_
      refine ev_st1 (e := (42, .putfield 45, 3, 17, 0, .null, [(12, 0)], [1067])) (c' := (45, [some (.ref 0), none], [], hM (sm_nm_jacketB (sm_nm_jacketA (sm_od_updates σ (gm_kp_keptUpdates σ)) (gm_kp_keptA σ)) (gm_kp_keptB σ)))) rfl oy_put_m_nm_jacketB ?_
      refine ev_go (c' := (50, [some (.ref 0), none], [.int ((gm_kp_keptTenths σ)), .ref 0], hM (sm_nm_jacketB (sm_nm_jacketA (sm_od_updates σ (gm_kp_keptUpdates σ)) (gm_kp_keptA σ)) (gm_kp_keptB σ)))) 2 rfl ?_
      refine ev_st1 (e := (50, .putfield 108, 3, 18, 0, .null, [(12, 0)], [1068])) (c' := (53, [some (.ref 0), none], [], hM (sm_nm_jacketTenths (sm_nm_jacketB (sm_nm_jacketA (sm_od_updates σ (gm_kp_keptUpdates σ)) (gm_kp_keptA σ)) (gm_kp_keptB σ)) (gm_kp_keptTenths σ)))) rfl oy_put_m_nm_jacketTenths ?_
      refine ev_go (c' := (55, [some (.ref 0), some (.int ((0 : Int32)))], [], hM (sm_nm_jacketTenths (sm_nm_jacketB (sm_nm_jacketA (sm_od_updates σ (gm_kp_keptUpdates σ)) (gm_kp_keptA σ)) (gm_kp_keptB σ)) (gm_kp_keptTenths σ)))) 1 rfl ?_
      exact ev_dr (a := [some (.ref 0), some (.int ((0 : Int32)))]) ⟨rfl, ⟨rfl, trivial⟩⟩ (tX12_restore_l55 d 1000 (sm_nm_jacketTenths (sm_nm_jacketB (sm_nm_jacketA (sm_od_updates σ (gm_kp_keptUpdates σ)) (gm_kp_keptA σ)) (gm_kp_keptB σ)) (gm_kp_keptTenths σ)) (0 : Int32) _ hf)
    · rw [if_neg c2] at hf
      exact ev_dr (a := [none, none]) trivial (tX12_restore_b18 d σ  _ hf)
set_option maxRecDepth 20000 in
set_option maxHeartbeats 4000000 in
theorem tX12_freeMany_b26 (d : Nat) (σ : SM) (k4 : Int32 → Int32 → Option (Int32)) (hk4 : ∀ (v1 : Int32) (v2 : Int32) (q : Int32), k4 v1 v2 = some q → ev_X (d + 3) (some .int) eiX12_freeMany (4, [some (.ref 0), some (.int (v1)), some (.int (v2))], [], hM σ) (some (.int q), hM σ)) (v2 : Int32) (w0 : Int32) (w1 : Int32) (q : Int32) (hf : fX12_freeMany_b26 σ k4 v2 w0 w1 = some q) : ev_X (d + 3) (some .int) eiX12_freeMany (26, [some (.ref 0), none, some (.int (v2))], [.int (w0), .int (w1)], hM σ) (some (.int q), hM σ) := by
  unfold fX12_freeMany_b26 at hf
  refine ev_go (c' := (4, [some (.ref 0), some (.int ((w1 + w0))), some (.int ((v2 + (1 : Int32))))], [], hM σ)) 3 rfl ?_
  exact ev_dr (a := [some (.ref 0), some (.int ((w1 + w0))), some (.int ((v2 + (1 : Int32))))]) ⟨rfl, ⟨rfl, ⟨rfl, trivial⟩⟩⟩ (hk4 (w1 + w0) (v2 + (1 : Int32)) _ hf)
set_option maxRecDepth 20000 in
set_option maxHeartbeats 4000000 in
theorem tX12_freeMany_b4 (d : Nat) (σ : SM) (k4 : Int32 → Int32 → Option (Int32)) (hk4 : ∀ (v1 : Int32) (v2 : Int32) (q : Int32), k4 v1 v2 = some q → ev_X (d + 3) (some .int) eiX12_freeMany (4, [some (.ref 0), some (.int (v1)), some (.int (v2))], [], hM σ) (some (.int q), hM σ)) (v1 : Int32) (v2 : Int32) (q : Int32) (hf : fX12_freeMany_b4 σ k4 v1 v2 = some q) : ev_X (d + 3) (some .int) eiX12_freeMany (4, [some (.ref 0), some (.int (v1)), some (.int (v2))], [], hM σ) (some (.int q), hM σ) := by
  unfold fX12_freeMany_b4 at hf
  obtain ⟨r1, hr1, hf⟩ := Option.bind_eq_some_iff.mp hf
  refine ev_cli 2 (kk := 133) (as := [.ref 0]) (rest := [.int (v2)]) (pc := 6) (ls := [some (.ref 0), some (.int (v1)), some (.int (v2))]) (st := [.ref 0, .int (v2)]) (h := hM σ) rfl (tX12_cells (d + 2) σ r1 hr1) ?_
  refine ev_br 0 (P := v2 < r1) (a := 12) (b := 34) (ls := [some (.ref 0), some (.int (v1)), some (.int (v2))]) (st := []) (h := hM σ) rfl (fun c1 => ?_) (fun c1 => ?_)
  · rw [if_pos c1] at hf
    obtain ⟨r2, hr2, hf⟩ := Option.bind_eq_some_iff.mp hf
    refine ev_cli 3 (kk := 135) (as := [.ref 0, .int (v2)]) (rest := [.int (v1)]) (pc := 15) (ls := [some (.ref 0), some (.int (v1)), some (.int (v2))]) (st := [.int (v2), .ref 0, .int (v1)]) (h := hM σ) rfl (tX12_isFree d σ v2 r2 hr2) ?_
    refine ev_br 0 (P := r2 = 0) (a := 25) (b := 21) (ls := [some (.ref 0), some (.int (v1)), some (.int (v2))]) (st := [.int (v1)]) (h := hM σ) rfl (fun c2 => ?_) (fun c2 => ?_)
    · rw [if_pos c2] at hf
      refine ev_go (c' := (26, [some (.ref 0), some (.int (v1)), some (.int (v2))], [.int ((0 : Int32)), .int (v1)], hM σ)) 0 rfl ?_
      exact ev_dr (a := [some (.ref 0), none, some (.int (v2))]) ⟨rfl, ⟨rfl, trivial⟩⟩ (tX12_freeMany_b26 d σ k4 hk4 v2 (0 : Int32) v1 _ hf)
    · rw [if_neg c2] at hf
      refine ev_go (c' := (26, [some (.ref 0), some (.int (v1)), some (.int (v2))], [.int ((1 : Int32)), .int (v1)], hM σ)) 1 rfl ?_
      exact ev_dr (a := [some (.ref 0), none, some (.int (v2))]) ⟨rfl, ⟨rfl, trivial⟩⟩ (tX12_freeMany_b26 d σ k4 hk4 v2 (1 : Int32) v1 _ hf)
  · rw [if_neg c1] at hf
    cases hf
    exact ev_rt 1 rfl
theorem tX12_freeMany_l4 (d : Nat) (σ : SM) : ∀ (n : Nat) (v1 : Int32) (v2 : Int32) (q : Int32), fX12_freeMany_l4 σ n v1 v2 = some q → ev_X (d + 3) (some .int) eiX12_freeMany (4, [some (.ref 0), some (.int (v1)), some (.int (v2))], [], hM σ) (some (.int q), hM σ)
  | 0, _, _, _, hf => by cases hf
  | n + 1, v1, v2, q, hf => tX12_freeMany_b4 d σ (fX12_freeMany_l4 σ n) (fun v1 v2 q h9 => tX12_freeMany_l4 d σ n v1 v2 q h9) v1 v2 q hf
set_option maxRecDepth 20000 in
set_option maxHeartbeats 4000000 in
theorem tX12_freeMany (d : Nat) (σ : SM) (q : Int32) (hf : fX12_freeMany σ = some q) : ev_M ev_mt (d + 4) 198 [.ref 0] (hM σ) (some (.int q), hM σ) := by
  refine ev_en (rt := (some .int)) (I := eiX12_freeMany) rfl (Nat.le_of_ble_eq_true rfl) ?_
  change ev_X (d + 3) _ _ (0, [some (.ref 0), none, none], [], hM σ) _
  unfold fX12_freeMany at hf
  refine ev_go (c' := (4, [some (.ref 0), some (.int ((0 : Int32))), some (.int ((0 : Int32)))], [], hM σ)) 3 rfl ?_
  exact ev_dr (a := [some (.ref 0), some (.int ((0 : Int32))), some (.int ((0 : Int32)))]) ⟨rfl, ⟨rfl, ⟨rfl, trivial⟩⟩⟩ (tX12_freeMany_l4 d σ 1000 (0 : Int32) (0 : Int32) _ hf)
set_option maxRecDepth 20000 in
set_option maxHeartbeats 4000000 in
theorem tX12_howMany (d : Nat) (σ : SM) (v1 : Int32) (q : Int32) (hf : fX12_howMany σ v1 = some q) : ev_M ev_mt (d + 5) 199 [.ref 0, .int (v1)] (hM σ) (some (.int q), hM σ) := by
  refine ev_en (rt := (some .int)) (I := eiX12_howMany) rfl (Nat.le_of_ble_eq_true rfl) ?_
  change ev_X (d + 4) _ _ (0, [some (.ref 0), some (.int (v1))], [], hM σ) _
  unfold fX12_howMany at hf
  refine ev_go (c' := (ev_sw [(0, 48), (1, 53), (2, 58), (3, 63), (4, 68), (5, 73), (6, 78), (7, 83)] v1 88, [some (.ref 0), some (.int (v1))], [], hM σ)) 1 rfl ?_
  by_cases c1 : v1 = (0 : Int32)
  · rw [if_pos c1] at hf
    have hs : ev_sw [(0, 48), (1, 53), (2, 58), (3, 63), (4, 68), (5, 73), (6, 78), (7, 83)] v1 88 = 48 := if_pos c1
    rw [hs]
    obtain ⟨r1, hr1, hf⟩ := Option.bind_eq_some_iff.mp hf
    refine ev_cli 1 (kk := 133) (as := [.ref 0]) (rest := []) (pc := 49) (ls := [some (.ref 0), some (.int (v1))]) (st := [.ref 0]) (h := hM σ) rfl (tX12_cells (d + 3) σ r1 hr1) ?_
    cases hf
    exact ev_rt 0 rfl
  rw [if_neg c1] at hf
  by_cases c2 : v1 = (1 : Int32)
  · rw [if_pos c2] at hf
    have hs : ev_sw [(0, 48), (1, 53), (2, 58), (3, 63), (4, 68), (5, 73), (6, 78), (7, 83)] v1 88 = 53 := (if_neg c1).trans (if_pos c2)
    rw [hs]
    obtain ⟨r2, hr2, hf⟩ := Option.bind_eq_some_iff.mp hf
    refine ev_cli 1 (kk := 198) (as := [.ref 0]) (rest := []) (pc := 54) (ls := [some (.ref 0), some (.int (v1))]) (st := [.ref 0]) (h := hM σ) rfl (tX12_freeMany d σ r2 hr2) ?_
    cases hf
    exact ev_rt 0 rfl
  rw [if_neg c2] at hf
  by_cases c3 : v1 = (2 : Int32)
  · rw [if_pos c3] at hf
    have hs : ev_sw [(0, 48), (1, 53), (2, 58), (3, 63), (4, 68), (5, 73), (6, 78), (7, 83)] v1 88 = 58 := (if_neg c1).trans ((if_neg c2).trans (if_pos c3))
    rw [hs]
    cases hf
    exact ev_rt 2 rfl
  rw [if_neg c3] at hf
  by_cases c4 : v1 = (3 : Int32)
  · rw [if_pos c4] at hf
    have hs : ev_sw [(0, 48), (1, 53), (2, 58), (3, 63), (4, 68), (5, 73), (6, 78), (7, 83)] v1 88 = 63 := (if_neg c1).trans ((if_neg c2).trans ((if_neg c3).trans (if_pos c4)))
    rw [hs]
    cases hf
    exact ev_rt 2 rfl
  rw [if_neg c4] at hf
  by_cases c5 : v1 = (4 : Int32)
  · rw [if_pos c5] at hf
    have hs : ev_sw [(0, 48), (1, 53), (2, 58), (3, 63), (4, 68), (5, 73), (6, 78), (7, 83)] v1 88 = 68 := (if_neg c1).trans ((if_neg c2).trans ((if_neg c3).trans ((if_neg c4).trans (if_pos c5))))
    rw [hs]
    obtain ⟨r3, hr3, hf⟩ := Option.bind_eq_some_iff.mp hf
    refine ev_cli 1 (kk := 143) (as := [.ref 0]) (rest := []) (pc := 69) (ls := [some (.ref 0), some (.int (v1))]) (st := [.ref 0]) (h := hM σ) rfl (tX12_above (d + 3) σ r3 hr3) ?_
    cases hf
    exact ev_rt 0 rfl
  rw [if_neg c5] at hf
  by_cases c6 : v1 = (5 : Int32)
  · rw [if_pos c6] at hf
    have hs : ev_sw [(0, 48), (1, 53), (2, 58), (3, 63), (4, 68), (5, 73), (6, 78), (7, 83)] v1 88 = 73 := (if_neg c1).trans ((if_neg c2).trans ((if_neg c3).trans ((if_neg c4).trans ((if_neg c5).trans (if_pos c6)))))
    rw [hs]
    cases hf
    exact ev_rt 2 rfl
  rw [if_neg c6] at hf
  by_cases c7 : v1 = (6 : Int32)
  · rw [if_pos c7] at hf
    have hs : ev_sw [(0, 48), (1, 53), (2, 58), (3, 63), (4, 68), (5, 73), (6, 78), (7, 83)] v1 88 = 78 := (if_neg c1).trans ((if_neg c2).trans ((if_neg c3).trans ((if_neg c4).trans ((if_neg c5).trans ((if_neg c6).trans (if_pos c7))))))
    rw [hs]
    cases hf
    exact ev_rt 2 rfl
  rw [if_neg c7] at hf
  by_cases c8 : v1 = (7 : Int32)
  · rw [if_pos c8] at hf
    have hs : ev_sw [(0, 48), (1, 53), (2, 58), (3, 63), (4, 68), (5, 73), (6, 78), (7, 83)] v1 88 = 83 := (if_neg c1).trans ((if_neg c2).trans ((if_neg c3).trans ((if_neg c4).trans ((if_neg c5).trans ((if_neg c6).trans ((if_neg c7).trans (if_pos c8)))))))
    rw [hs]
    cases hf
    exact ev_rt 2 rfl
  rw [if_neg c8] at hf
  have hs : ev_sw [(0, 48), (1, 53), (2, 58), (3, 63), (4, 68), (5, 73), (6, 78), (7, 83)] v1 88 = 88 := (if_neg c1).trans ((if_neg c2).trans ((if_neg c3).trans ((if_neg c4).trans ((if_neg c5).trans ((if_neg c6).trans ((if_neg c7).trans ((if_neg c8).trans (rfl))))))))
  rw [hs]
  cases hf
  exact ev_rt 1 rfl
set_option maxRecDepth 20000 in
set_option maxHeartbeats 4000000 in
theorem tX12_count (d : Nat) (σ : SM) (v1 : Int32) (q : Int32) (hf : fX12_count σ v1 = some q) : ev_M ev_mt (d + 6) 200 [.ref 0, .int (v1)] (hM σ) (some (.int q), hM σ) := by
  refine ev_en (rt := (some .int)) (I := eiX12_count) rfl (Nat.le_of_ble_eq_true rfl) ?_
  change ev_X (d + 5) _ _ (0, [some (.ref 0), some (.int (v1))], [], hM σ) _
  unfold fX12_count at hf
  obtain ⟨r1, hr1, hf⟩ := Option.bind_eq_some_iff.mp hf
  refine ev_cli 2 (kk := 199) (as := [.ref 0, .int (v1)]) (rest := []) (pc := 2) (ls := [some (.ref 0), some (.int (v1))]) (st := [.int (v1), .ref 0]) (h := hM σ) rfl (tX12_howMany d σ v1 r1 hr1) ?_
  cases hf
  exact ev_rt 0 rfl
set_option maxRecDepth 20000 in
set_option maxHeartbeats 4000000 in
theorem tX12_mix (d : Nat) (σ : SM) (v1 : Int64) (q : SM) (hf : fX12_mix σ v1 = some q) : ev_M ev_mt (d + 1) 201 [.ref 0, .long (v1)] (hM σ) (none, hM q) := by
  refine ev_en (rt := none) (I := eiX12_mix) rfl (Nat.le_of_ble_eq_true rfl) ?_
  change ev_X d _ _ (0, [some (.ref 0), some (.long (v1)), none], [], hM σ) _
  unfold fX12_mix at hf
  refine ev_go (c' := (11, [some (.ref 0), some (.long (v1)), none], [.long ((((31 : Int64) * (gm_gm_h σ)) + v1)), .ref 0], hM σ)) 6 rfl ?_
  refine ev_st1 (e := (11, .putfield 331, 3, 43, 1, .null, [(12, 0)], [1093])) (c' := (14, [some (.ref 0), some (.long (v1)), none], [], hM (sm_gm_h σ (((31 : Int64) * (gm_gm_h σ)) + v1)))) rfl oy_put_m_gm_h ?_
  cases hf
  exact ev_rt 0 rfl
set_option maxRecDepth 20000 in
set_option maxHeartbeats 4000000 in
theorem tX12_mixGame_b2 (d : Nat) (k2 : SM → Int32 → Option (SM)) (hk2 : ∀ (σ : SM) (v1 : Int32) (q : SM), k2 σ v1 = some q → ev_X (d + 6) none eiX12_mixGame (2, [some (.ref 0), some (.int (v1))], [], hM σ) (none, hM q)) (σ : SM) (v1 : Int32) (q : SM) (hf : fX12_mixGame_b2 k2 σ v1 = some q) : ev_X (d + 6) none eiX12_mixGame (2, [some (.ref 0), some (.int (v1))], [], hM σ) (none, hM q) := by
  unfold fX12_mixGame_b2 at hf
  obtain ⟨r1, hr1, hf⟩ := Option.bind_eq_some_iff.mp hf
  refine ev_cli 2 (kk := 135) (as := [.ref 0, .int (v1)]) (rest := []) (pc := 4) (ls := [some (.ref 0), some (.int (v1))]) (st := [.int (v1), .ref 0]) (h := hM σ) rfl (tX12_isFree (d + 3) σ v1 r1 hr1) ?_
  refine ev_br 0 (P := r1 = 0) (a := 10) (b := 16) (ls := [some (.ref 0), some (.int (v1))]) (st := []) (h := hM σ) rfl (fun c1 => ?_) (fun c1 => ?_)
  · rw [if_pos c1] at hf
    refine ev_go (c' := (2, [some (.ref 0), some (.int ((v1 + (1 : Int32))))], [], hM σ)) 1 rfl ?_
    exact ev_dr (a := [some (.ref 0), some (.int ((v1 + (1 : Int32))))]) ⟨rfl, ⟨rfl, trivial⟩⟩ (hk2 σ (v1 + (1 : Int32)) _ hf)
  · rw [if_neg c1] at hf
    obtain ⟨r2, hr2, hf⟩ := Option.bind_eq_some_iff.mp hf
    refine ev_clv 6 (kk := 182) (as := [.ref 0, .int (v1), .int ((0 : Int32)), .int ((2 : Int32)), .int ((1 : Int32)), .int ((20 : Int32))]) (rest := []) (pc := 23) (ls := [some (.ref 0), some (.int (v1))]) (st := [.int ((20 : Int32)), .int ((1 : Int32)), .int ((2 : Int32)), .int ((0 : Int32)), .int (v1), .ref 0]) (h := hM σ) rfl (tX12_play d σ v1 (0 : Int32) (2 : Int32) (1 : Int32) (20 : Int32) r2 hr2) ?_
    obtain ⟨r3, hr3, hf⟩ := Option.bind_eq_some_iff.mp hf
    refine ev_clv 4 (kk := 201) (as := [.ref 0, .long ((gm_gm_touched r2).toInt64)]) (rest := []) (pc := 32) (ls := [some (.ref 0), some (.int (v1))]) (st := [.long ((gm_gm_touched r2).toInt64), .ref 0]) (h := hM r2) rfl (tX12_mix (d + 5) r2 ((gm_gm_touched r2).toInt64) r3 hr3) ?_
    obtain ⟨r4, hr4, hf⟩ := Option.bind_eq_some_iff.mp hf
    refine ev_clv 4 (kk := 201) (as := [.ref 0, .long ((gm_gm_touchedAt r3).toInt64)]) (rest := []) (pc := 41) (ls := [some (.ref 0), some (.int (v1))]) (st := [.long ((gm_gm_touchedAt r3).toInt64), .ref 0]) (h := hM r3) rfl (tX12_mix (d + 5) r3 ((gm_gm_touchedAt r3).toInt64) r4 hr4) ?_
    cases hf
    exact ev_rt 0 rfl
theorem tX12_mixGame_l2 (d : Nat) : ∀ (n : Nat) (σ : SM) (v1 : Int32) (q : SM), fX12_mixGame_l2 n σ v1 = some q → ev_X (d + 6) none eiX12_mixGame (2, [some (.ref 0), some (.int (v1))], [], hM σ) (none, hM q)
  | 0, _, _, _, hf => by cases hf
  | n + 1, σ, v1, q, hf => tX12_mixGame_b2 d (fX12_mixGame_l2 n) (fun σ v1 q h9 => tX12_mixGame_l2 d n σ v1 q h9) σ v1 q hf
set_option maxRecDepth 20000 in
set_option maxHeartbeats 4000000 in
theorem tX12_mixGame (d : Nat) (σ : SM) (q : SM) (hf : fX12_mixGame σ = some q) : ev_M ev_mt (d + 7) 202 [.ref 0] (hM σ) (none, hM q) := by
  refine ev_en (rt := none) (I := eiX12_mixGame) rfl (Nat.le_of_ble_eq_true rfl) ?_
  change ev_X (d + 6) _ _ (0, [some (.ref 0), none], [], hM σ) _
  unfold fX12_mixGame at hf
  refine ev_go (c' := (2, [some (.ref 0), some (.int ((0 : Int32)))], [], hM σ)) 1 rfl ?_
  exact ev_dr (a := [some (.ref 0), some (.int ((0 : Int32)))]) ⟨rfl, ⟨rfl, trivial⟩⟩ (tX12_mixGame_l2 d 1000 σ (0 : Int32) _ hf)
set_option maxRecDepth 20000 in
set_option maxHeartbeats 4000000 in
theorem tX12_digest_b203 (d : Nat) (k203 : SM → Int32 → Option (Int64 × SM)) (hk203 : ∀ (σ : SM) (v1 : Int32) (q : Int64 × SM), k203 σ v1 = some q → ev_X (d + 7) (some .long) eiX12_digest (203, [some (.ref 0), some (.int (v1)), none], [], hM σ) (some (.long q.1), hM q.2)) (σ : SM) (v1 : Int32) (q : Int64 × SM) (hf : fX12_digest_b203 k203 σ v1 = some q) : ev_X (d + 7) (some .long) eiX12_digest (203, [some (.ref 0), some (.int (v1)), none], [], hM σ) (some (.long q.1), hM q.2) := by
  unfold fX12_digest_b203 at hf
  refine ev_br 2 (P := v1 < (8 : Int32)) (a := 209) (b := 225) (ls := [some (.ref 0), some (.int (v1)), none]) (st := []) (h := hM σ) rfl (fun c1 => ?_) (fun c1 => ?_)
  · rw [if_pos c1] at hf
    obtain ⟨r1, hr1, hf⟩ := Option.bind_eq_some_iff.mp hf
    refine ev_cli 3 (kk := 199) (as := [.ref 0, .int (v1)]) (rest := [.ref 0]) (pc := 212) (ls := [some (.ref 0), some (.int (v1)), none]) (st := [.int (v1), .ref 0, .ref 0]) (h := hM σ) rfl (tX12_howMany (d + 2) σ v1 r1 hr1) ?_
    obtain ⟨r2, hr2, hf⟩ := Option.bind_eq_some_iff.mp hf
    refine ev_clv 1 (kk := 201) (as := [.ref 0, .long (r1.toInt64)]) (rest := []) (pc := 216) (ls := [some (.ref 0), some (.int (v1)), none]) (st := [.long (r1.toInt64), .ref 0]) (h := hM σ) rfl (tX12_mix (d + 6) σ r1.toInt64 r2 hr2) ?_
    refine ev_go (c' := (203, [some (.ref 0), some (.int ((v1 + (1 : Int32)))), none], [], hM r2)) 1 rfl ?_
    exact ev_dr (a := [some (.ref 0), some (.int ((v1 + (1 : Int32)))), none]) ⟨rfl, ⟨rfl, trivial⟩⟩ (hk203 r2 (v1 + (1 : Int32)) _ hf)
  · rw [if_neg c1] at hf
    cases hf
    exact ev_rt 2 rfl
theorem tX12_digest_l203 (d : Nat) : ∀ (n : Nat) (σ : SM) (v1 : Int32) (q : Int64 × SM), fX12_digest_l203 n σ v1 = some q → ev_X (d + 7) (some .long) eiX12_digest (203, [some (.ref 0), some (.int (v1)), none], [], hM σ) (some (.long q.1), hM q.2)
  | 0, _, _, _, hf => by cases hf
  | n + 1, σ, v1, q, hf => tX12_digest_b203 d (fX12_digest_l203 n) (fun σ v1 q h9 => tX12_digest_l203 d n σ v1 q h9) σ v1 q hf
set_option maxRecDepth 20000 in
set_option maxHeartbeats 4000000 in
theorem tX12_digest_b176 (d : Nat) (k176 : SM → Int32 → Option (Int64 × SM)) (hk176 : ∀ (σ : SM) (v1 : Int32) (q : Int64 × SM), k176 σ v1 = some q → ev_X (d + 7) (some .long) eiX12_digest (176, [some (.ref 0), some (.int (v1)), none], [], hM σ) (some (.long q.1), hM q.2)) (σ : SM) (v1 : Int32) (q : Int64 × SM) (hf : fX12_digest_b176 k176 σ v1 = some q) : ev_X (d + 7) (some .long) eiX12_digest (176, [some (.ref 0), some (.int (v1)), none], [], hM σ) (some (.long q.1), hM q.2) := by
  unfold fX12_digest_b176 at hf
  refine ev_br 3 (P := v1 < (gm_pg_pageLength σ)) (a := 184) (b := 201) (ls := [some (.ref 0), some (.int (v1)), none]) (st := []) (h := hM σ) rfl (fun c1 => ?_) (fun c1 => ?_)
  · rw [if_pos c1] at hf
    obtain ⟨c2, hf⟩ := ev_hp hf
    refine ev_ck 4 (P := ¬ (v1 < 0 ∨ 45 ≤ v1.toNatClampNeg)) (c' := (191, [some (.ref 0), some (.int (v1)), none], [.int (((gm_pg_page σ) v1.toNatClampNeg)), .ref 0], hM σ)) rfl c2 ?_
    obtain ⟨r3, hr3, hf⟩ := Option.bind_eq_some_iff.mp hf
    refine ev_clv 1 (kk := 201) (as := [.ref 0, .long (((gm_pg_page σ) v1.toNatClampNeg).toInt64)]) (rest := []) (pc := 192) (ls := [some (.ref 0), some (.int (v1)), none]) (st := [.long (((gm_pg_page σ) v1.toNatClampNeg).toInt64), .ref 0]) (h := hM σ) rfl (tX12_mix (d + 6) σ (((gm_pg_page σ) v1.toNatClampNeg).toInt64) r3 hr3) ?_
    refine ev_go (c' := (176, [some (.ref 0), some (.int ((v1 + (1 : Int32)))), none], [], hM r3)) 1 rfl ?_
    exact ev_dr (a := [some (.ref 0), some (.int ((v1 + (1 : Int32)))), none]) ⟨rfl, ⟨rfl, trivial⟩⟩ (hk176 r3 (v1 + (1 : Int32)) _ hf)
  · rw [if_neg c1] at hf
    refine ev_go (c' := (203, [some (.ref 0), some (.int ((0 : Int32))), none], [], hM σ)) 1 rfl ?_
    exact ev_dr (a := [some (.ref 0), some (.int ((0 : Int32))), none]) ⟨rfl, ⟨rfl, trivial⟩⟩ (tX12_digest_l203 d 1000 σ (0 : Int32) _ hf)
theorem tX12_digest_l176 (d : Nat) : ∀ (n : Nat) (σ : SM) (v1 : Int32) (q : Int64 × SM), fX12_digest_l176 n σ v1 = some q → ev_X (d + 7) (some .long) eiX12_digest (176, [some (.ref 0), some (.int (v1)), none], [], hM σ) (some (.long q.1), hM q.2)
  | 0, _, _, _, hf => by cases hf
  | n + 1, σ, v1, q, hf => tX12_digest_b176 d (fX12_digest_l176 n) (fun σ v1 q h9 => tX12_digest_l176 d n σ v1 q h9) σ v1 q hf
set_option maxRecDepth 20000 in
set_option maxHeartbeats 4000000 in
theorem tX12_digest_b174 (d : Nat) (σ : SM) (q : Int64 × SM) (hf : fX12_digest_b174 σ = some q) : ev_X (d + 7) (some .long) eiX12_digest (174, [some (.ref 0), none, none], [], hM σ) (some (.long q.1), hM q.2) := by
  unfold fX12_digest_b174 at hf
  refine ev_go (c' := (176, [some (.ref 0), some (.int ((0 : Int32))), none], [], hM σ)) 1 rfl ?_
  exact ev_dr (a := [some (.ref 0), some (.int ((0 : Int32))), none]) ⟨rfl, ⟨rfl, trivial⟩⟩ (tX12_digest_l176 d 1000 σ (0 : Int32) _ hf)
set_option maxRecDepth 20000 in
set_option maxHeartbeats 4000000 in
theorem tX12_digest_b74 (d : Nat) (k64 : SM → Int32 → Option (Int64 × SM)) (hk64 : ∀ (σ : SM) (v1 : Int32) (q : Int64 × SM), k64 σ v1 = some q → ev_X (d + 7) (some .long) eiX12_digest (64, [some (.ref 0), some (.int (v1)), none], [], hM σ) (some (.long q.1), hM q.2)) (k74 : SM → Int32 → Int32 → Option (Int64 × SM)) (hk74 : ∀ (σ : SM) (v1 : Int32) (v2 : Int32) (q : Int64 × SM), k74 σ v1 v2 = some q → ev_X (d + 7) (some .long) eiX12_digest (74, [some (.ref 0), some (.int (v1)), some (.int (v2))], [], hM σ) (some (.long q.1), hM q.2)) (σ : SM) (v1 : Int32) (v2 : Int32) (q : Int64 × SM) (hf : fX12_digest_b74 k64 k74 σ v1 v2 = some q) : ev_X (d + 7) (some .long) eiX12_digest (74, [some (.ref 0), some (.int (v1)), some (.int (v2))], [], hM σ) (some (.long q.1), hM q.2) := by
  unfold fX12_digest_b74 at hf
  refine ev_br 2 (P := v2 < (5 : Int32)) (a := 79) (b := 96) (ls := [some (.ref 0), some (.int (v1)), some (.int (v2))]) (st := []) (h := hM σ) rfl (fun c1 => ?_) (fun c1 => ?_)
  · rw [if_pos c1] at hf
    obtain ⟨r4, hr4, hf⟩ := Option.bind_eq_some_iff.mp hf
    refine ev_cli 4 (kk := 171) (as := [.ref 0, .int (v1), .int (v2)]) (rest := [.ref 0]) (pc := 83) (ls := [some (.ref 0), some (.int (v1)), some (.int (v2))]) (st := [.int (v2), .int (v1), .ref 0, .ref 0]) (h := hM σ) rfl (tX12_playerTold (d + 6) σ v1 v2 r4 hr4) ?_
    obtain ⟨r5, hr5, hf⟩ := Option.bind_eq_some_iff.mp hf
    refine ev_clv 1 (kk := 201) (as := [.ref 0, .long (r4.toInt64)]) (rest := []) (pc := 87) (ls := [some (.ref 0), some (.int (v1)), some (.int (v2))]) (st := [.long (r4.toInt64), .ref 0]) (h := hM σ) rfl (tX12_mix (d + 6) σ r4.toInt64 r5 hr5) ?_
    refine ev_go (c' := (74, [some (.ref 0), some (.int (v1)), some (.int ((v2 + (1 : Int32))))], [], hM r5)) 1 rfl ?_
    exact ev_dr (a := [some (.ref 0), some (.int (v1)), some (.int ((v2 + (1 : Int32))))]) ⟨rfl, ⟨rfl, ⟨rfl, trivial⟩⟩⟩ (hk74 r5 v1 (v2 + (1 : Int32)) _ hf)
  · rw [if_neg c1] at hf
    refine ev_go (c' := (64, [some (.ref 0), some (.int ((v1 + (1 : Int32)))), some (.int (v2))], [], hM σ)) 1 rfl ?_
    exact ev_dr (a := [some (.ref 0), some (.int ((v1 + (1 : Int32)))), none]) ⟨rfl, ⟨rfl, trivial⟩⟩ (hk64 σ (v1 + (1 : Int32)) _ hf)
theorem tX12_digest_l74 (d : Nat) (k64 : SM → Int32 → Option (Int64 × SM)) (hk64 : ∀ (σ : SM) (v1 : Int32) (q : Int64 × SM), k64 σ v1 = some q → ev_X (d + 7) (some .long) eiX12_digest (64, [some (.ref 0), some (.int (v1)), none], [], hM σ) (some (.long q.1), hM q.2)) : ∀ (n : Nat) (σ : SM) (v1 : Int32) (v2 : Int32) (q : Int64 × SM), fX12_digest_l74 k64 n σ v1 v2 = some q → ev_X (d + 7) (some .long) eiX12_digest (74, [some (.ref 0), some (.int (v1)), some (.int (v2))], [], hM σ) (some (.long q.1), hM q.2)
  | 0, _, _, _, _, hf => by cases hf
  | n + 1, σ, v1, v2, q, hf => tX12_digest_b74 d k64 hk64 (fX12_digest_l74 k64 n) (fun σ v1 v2 q h9 => tX12_digest_l74 d k64 hk64 n σ v1 v2 q h9) σ v1 v2 q hf
set_option maxRecDepth 20000 in
set_option maxHeartbeats 4000000 in
theorem tX12_digest_b64 (d : Nat) (k64 : SM → Int32 → Option (Int64 × SM)) (hk64 : ∀ (σ : SM) (v1 : Int32) (q : Int64 × SM), k64 σ v1 = some q → ev_X (d + 7) (some .long) eiX12_digest (64, [some (.ref 0), some (.int (v1)), none], [], hM σ) (some (.long q.1), hM q.2)) (σ : SM) (v1 : Int32) (q : Int64 × SM) (hf : fX12_digest_b64 k64 σ v1 = some q) : ev_X (d + 7) (some .long) eiX12_digest (64, [some (.ref 0), some (.int (v1)), none], [], hM σ) (some (.long q.1), hM q.2) := by
  unfold fX12_digest_b64 at hf
  refine ev_br 3 (P := v1 < (gm_pl_players σ)) (a := 72) (b := 102) (ls := [some (.ref 0), some (.int (v1)), none]) (st := []) (h := hM σ) rfl (fun c1 => ?_) (fun c1 => ?_)
  · rw [if_pos c1] at hf
    refine ev_go (c' := (74, [some (.ref 0), some (.int (v1)), some (.int ((0 : Int32)))], [], hM σ)) 1 rfl ?_
    exact ev_dr (a := [some (.ref 0), some (.int (v1)), some (.int ((0 : Int32)))]) ⟨rfl, ⟨rfl, ⟨rfl, trivial⟩⟩⟩ (tX12_digest_l74 d k64 hk64 1000 σ v1 (0 : Int32) _ hf)
  · rw [if_neg c1] at hf
    obtain ⟨r6, hr6, hf⟩ := Option.bind_eq_some_iff.mp hf
    refine ev_clv 4 (kk := 201) (as := [.ref 0, .long ((gm_nm_unsure σ).toInt64)]) (rest := []) (pc := 108) (ls := [some (.ref 0), some (.int (v1)), none]) (st := [.long ((gm_nm_unsure σ).toInt64), .ref 0]) (h := hM σ) rfl (tX12_mix (d + 6) σ ((gm_nm_unsure σ).toInt64) r6 hr6) ?_
    obtain ⟨r7, hr7, hf⟩ := Option.bind_eq_some_iff.mp hf
    refine ev_clv 4 (kk := 201) (as := [.ref 0, .long ((gm_nm_clothRight r6).toInt64)]) (rest := []) (pc := 117) (ls := [some (.ref 0), some (.int (v1)), none]) (st := [.long ((gm_nm_clothRight r6).toInt64), .ref 0]) (h := hM r6) rfl (tX12_mix (d + 6) r6 ((gm_nm_clothRight r6).toInt64) r7 hr7) ?_
    obtain ⟨r8, hr8, hf⟩ := Option.bind_eq_some_iff.mp hf
    refine ev_clv 4 (kk := 201) (as := [.ref 0, .long ((gm_nm_giggleRight r7).toInt64)]) (rest := []) (pc := 126) (ls := [some (.ref 0), some (.int (v1)), none]) (st := [.long ((gm_nm_giggleRight r7).toInt64), .ref 0]) (h := hM r7) rfl (tX12_mix (d + 6) r7 ((gm_nm_giggleRight r7).toInt64) r8 hr8) ?_
    obtain ⟨r9, hr9, hf⟩ := Option.bind_eq_some_iff.mp hf
    refine ev_clv 4 (kk := 201) (as := [.ref 0, .long ((gm_nm_jacketA r8).toInt64)]) (rest := []) (pc := 135) (ls := [some (.ref 0), some (.int (v1)), none]) (st := [.long ((gm_nm_jacketA r8).toInt64), .ref 0]) (h := hM r8) rfl (tX12_mix (d + 6) r8 ((gm_nm_jacketA r8).toInt64) r9 hr9) ?_
    obtain ⟨r10, hr10, hf⟩ := Option.bind_eq_some_iff.mp hf
    refine ev_clv 4 (kk := 201) (as := [.ref 0, .long ((gm_nm_jacketB r9).toInt64)]) (rest := []) (pc := 144) (ls := [some (.ref 0), some (.int (v1)), none]) (st := [.long ((gm_nm_jacketB r9).toInt64), .ref 0]) (h := hM r9) rfl (tX12_mix (d + 6) r9 ((gm_nm_jacketB r9).toInt64) r10 hr10) ?_
    obtain ⟨r11, hr11, hf⟩ := Option.bind_eq_some_iff.mp hf
    refine ev_clv 4 (kk := 201) (as := [.ref 0, .long ((gm_nm_jacketTenths r10).toInt64)]) (rest := []) (pc := 153) (ls := [some (.ref 0), some (.int (v1)), none]) (st := [.long ((gm_nm_jacketTenths r10).toInt64), .ref 0]) (h := hM r10) rfl (tX12_mix (d + 6) r10 ((gm_nm_jacketTenths r10).toInt64) r11 hr11) ?_
    refine ev_br 2 (P := 0 < (gm_rg_rings r11)) (a := 163) (b := 174) (ls := [some (.ref 0), some (.int (v1)), none]) (st := []) (h := hM r11) rfl (fun c2 => ?_) (fun c2 => ?_)
    · rw [if_pos c2] at hf
      refine ev_br 2 (P := 0 < (gm_pl_players r11)) (a := 170) (b := 174) (ls := [some (.ref 0), some (.int (v1)), none]) (st := []) (h := hM r11) rfl (fun c3 => ?_) (fun c3 => ?_)
      · rw [if_pos c3] at hf
        obtain ⟨r12, hr12, hf⟩ := Option.bind_eq_some_iff.mp hf
        refine ev_clv 1 (kk := 202) (as := [.ref 0]) (rest := []) (pc := 171) (ls := [some (.ref 0), some (.int (v1)), none]) (st := [.ref 0]) (h := hM r11) rfl (tX12_mixGame d r11 r12 hr12) ?_
        exact ev_dr (a := [some (.ref 0), none, none]) ⟨rfl, trivial⟩ (tX12_digest_b174 d r12  _ hf)
      · rw [if_neg c3] at hf
        exact ev_dr (a := [some (.ref 0), none, none]) ⟨rfl, trivial⟩ (tX12_digest_b174 d r11  _ hf)
    · rw [if_neg c2] at hf
      exact ev_dr (a := [some (.ref 0), none, none]) ⟨rfl, trivial⟩ (tX12_digest_b174 d r11  _ hf)
theorem tX12_digest_l64 (d : Nat) : ∀ (n : Nat) (σ : SM) (v1 : Int32) (q : Int64 × SM), fX12_digest_l64 n σ v1 = some q → ev_X (d + 7) (some .long) eiX12_digest (64, [some (.ref 0), some (.int (v1)), none], [], hM σ) (some (.long q.1), hM q.2)
  | 0, _, _, _, hf => by cases hf
  | n + 1, σ, v1, q, hf => tX12_digest_b64 d (fX12_digest_l64 n) (fun σ v1 q h9 => tX12_digest_l64 d n σ v1 q h9) σ v1 q hf
set_option maxRecDepth 20000 in
set_option maxHeartbeats 4000000 in
theorem tX12_digest_b36 (d : Nat) (k36 : SM → Int32 → Option (Int64 × SM)) (hk36 : ∀ (σ : SM) (v1 : Int32) (q : Int64 × SM), k36 σ v1 = some q → ev_X (d + 7) (some .long) eiX12_digest (36, [some (.ref 0), some (.int (v1)), none], [], hM σ) (some (.long q.1), hM q.2)) (σ : SM) (v1 : Int32) (q : Int64 × SM) (hf : fX12_digest_b36 k36 σ v1 = some q) : ev_X (d + 7) (some .long) eiX12_digest (36, [some (.ref 0), some (.int (v1)), none], [], hM σ) (some (.long q.1), hM q.2) := by
  unfold fX12_digest_b36 at hf
  obtain ⟨r13, hr13, hf⟩ := Option.bind_eq_some_iff.mp hf
  refine ev_cli 3 (kk := 133) (as := [.ref 0]) (rest := [.int ((4 : Int32)), .int (v1)]) (pc := 39) (ls := [some (.ref 0), some (.int (v1)), none]) (st := [.ref 0, .int ((4 : Int32)), .int (v1)]) (h := hM σ) rfl (tX12_cells (d + 6) σ r13 hr13) ?_
  refine ev_br 1 (P := v1 < ((4 : Int32) * r13)) (a := 46) (b := 62) (ls := [some (.ref 0), some (.int (v1)), none]) (st := []) (h := hM σ) rfl (fun c1 => ?_) (fun c1 => ?_)
  · rw [if_pos c1] at hf
    obtain ⟨c2, hf⟩ := ev_hp hf
    refine ev_ck 4 (P := ¬ (v1 < 0 ∨ 144 ≤ v1.toNatClampNeg)) (c' := (53, [some (.ref 0), some (.int (v1)), none], [.long (((gm_od_weight σ) v1.toNatClampNeg)), .ref 0], hM σ)) rfl c2 ?_
    obtain ⟨r14, hr14, hf⟩ := Option.bind_eq_some_iff.mp hf
    refine ev_clv 0 (kk := 201) (as := [.ref 0, .long (((gm_od_weight σ) v1.toNatClampNeg))]) (rest := []) (pc := 53) (ls := [some (.ref 0), some (.int (v1)), none]) (st := [.long (((gm_od_weight σ) v1.toNatClampNeg)), .ref 0]) (h := hM σ) rfl (tX12_mix (d + 6) σ ((gm_od_weight σ) v1.toNatClampNeg) r14 hr14) ?_
    refine ev_go (c' := (36, [some (.ref 0), some (.int ((v1 + (1 : Int32)))), none], [], hM r14)) 1 rfl ?_
    exact ev_dr (a := [some (.ref 0), some (.int ((v1 + (1 : Int32)))), none]) ⟨rfl, ⟨rfl, trivial⟩⟩ (hk36 r14 (v1 + (1 : Int32)) _ hf)
  · rw [if_neg c1] at hf
    refine ev_go (c' := (64, [some (.ref 0), some (.int ((0 : Int32))), none], [], hM σ)) 1 rfl ?_
    exact ev_dr (a := [some (.ref 0), some (.int ((0 : Int32))), none]) ⟨rfl, ⟨rfl, trivial⟩⟩ (tX12_digest_l64 d 1000 σ (0 : Int32) _ hf)
theorem tX12_digest_l36 (d : Nat) : ∀ (n : Nat) (σ : SM) (v1 : Int32) (q : Int64 × SM), fX12_digest_l36 n σ v1 = some q → ev_X (d + 7) (some .long) eiX12_digest (36, [some (.ref 0), some (.int (v1)), none], [], hM σ) (some (.long q.1), hM q.2)
  | 0, _, _, _, hf => by cases hf
  | n + 1, σ, v1, q, hf => tX12_digest_b36 d (fX12_digest_l36 n) (fun σ v1 q h9 => tX12_digest_l36 d n σ v1 q h9) σ v1 q hf
set_option maxRecDepth 20000 in
set_option maxHeartbeats 4000000 in
theorem tX12_digest_b9 (d : Nat) (k9 : SM → Int32 → Option (Int64 × SM)) (hk9 : ∀ (σ : SM) (v1 : Int32) (q : Int64 × SM), k9 σ v1 = some q → ev_X (d + 7) (some .long) eiX12_digest (9, [some (.ref 0), some (.int (v1)), none], [], hM σ) (some (.long q.1), hM q.2)) (σ : SM) (v1 : Int32) (q : Int64 × SM) (hf : fX12_digest_b9 k9 σ v1 = some q) : ev_X (d + 7) (some .long) eiX12_digest (9, [some (.ref 0), some (.int (v1)), none], [], hM σ) (some (.long q.1), hM q.2) := by
  unfold fX12_digest_b9 at hf
  obtain ⟨r15, hr15, hf⟩ := Option.bind_eq_some_iff.mp hf
  refine ev_cli 2 (kk := 133) (as := [.ref 0]) (rest := [.int (v1)]) (pc := 11) (ls := [some (.ref 0), some (.int (v1)), none]) (st := [.ref 0, .int (v1)]) (h := hM σ) rfl (tX12_cells (d + 6) σ r15 hr15) ?_
  refine ev_br 0 (P := v1 < r15) (a := 17) (b := 34) (ls := [some (.ref 0), some (.int (v1)), none]) (st := []) (h := hM σ) rfl (fun c1 => ?_) (fun c1 => ?_)
  · rw [if_pos c1] at hf
    obtain ⟨c2, hf⟩ := ev_hp hf
    refine ev_ck 4 (P := ¬ (v1 < 0 ∨ 36 ≤ v1.toNatClampNeg)) (c' := (24, [some (.ref 0), some (.int (v1)), none], [.int (((gm_rg_cellOf σ) v1.toNatClampNeg)), .ref 0], hM σ)) rfl c2 ?_
    obtain ⟨r16, hr16, hf⟩ := Option.bind_eq_some_iff.mp hf
    refine ev_clv 1 (kk := 201) (as := [.ref 0, .long (((gm_rg_cellOf σ) v1.toNatClampNeg).toInt64)]) (rest := []) (pc := 25) (ls := [some (.ref 0), some (.int (v1)), none]) (st := [.long (((gm_rg_cellOf σ) v1.toNatClampNeg).toInt64), .ref 0]) (h := hM σ) rfl (tX12_mix (d + 6) σ (((gm_rg_cellOf σ) v1.toNatClampNeg).toInt64) r16 hr16) ?_
    refine ev_go (c' := (9, [some (.ref 0), some (.int ((v1 + (1 : Int32)))), none], [], hM r16)) 1 rfl ?_
    exact ev_dr (a := [some (.ref 0), some (.int ((v1 + (1 : Int32)))), none]) ⟨rfl, ⟨rfl, trivial⟩⟩ (hk9 r16 (v1 + (1 : Int32)) _ hf)
  · rw [if_neg c1] at hf
    refine ev_go (c' := (36, [some (.ref 0), some (.int ((0 : Int32))), none], [], hM σ)) 1 rfl ?_
    exact ev_dr (a := [some (.ref 0), some (.int ((0 : Int32))), none]) ⟨rfl, ⟨rfl, trivial⟩⟩ (tX12_digest_l36 d 1000 σ (0 : Int32) _ hf)
theorem tX12_digest_l9 (d : Nat) : ∀ (n : Nat) (σ : SM) (v1 : Int32) (q : Int64 × SM), fX12_digest_l9 n σ v1 = some q → ev_X (d + 7) (some .long) eiX12_digest (9, [some (.ref 0), some (.int (v1)), none], [], hM σ) (some (.long q.1), hM q.2)
  | 0, _, _, _, hf => by cases hf
  | n + 1, σ, v1, q, hf => tX12_digest_b9 d (fX12_digest_l9 n) (fun σ v1 q h9 => tX12_digest_l9 d n σ v1 q h9) σ v1 q hf
set_option maxRecDepth 20000 in
set_option maxHeartbeats 4000000 in
theorem tX12_digest (d : Nat) (σ : SM) (q : Int64 × SM) (hf : fX12_digest σ = some q) : ev_M ev_mt (d + 8) 203 [.ref 0] (hM σ) (some (.long q.1), hM q.2) := by
  refine ev_en (rt := (some .long)) (I := eiX12_digest) rfl (Nat.le_of_ble_eq_true rfl) ?_
  change ev_X (d + 7) _ _ (0, [some (.ref 0), none, none], [], hM σ) _
  unfold fX12_digest at hf
  refine ev_go (c' := (4, [some (.ref 0), none, none], [.long ((457 : Int64)), .ref 0], hM σ)) 1 rfl ?_
  refine ev_st1 (e := (4, .putfield 331, 3, 43, 1, .null, [(12, 0)], [1093])) (c' := (7, [some (.ref 0), none, none], [], hM (sm_gm_h σ (457 : Int64)))) rfl oy_put_m_gm_h ?_
  refine ev_go (c' := (9, [some (.ref 0), some (.int ((0 : Int32))), none], [], hM (sm_gm_h σ (457 : Int64)))) 1 rfl ?_
  exact ev_dr (a := [some (.ref 0), some (.int ((0 : Int32))), none]) ⟨rfl, ⟨rfl, trivial⟩⟩ (tX12_digest_l9 d 1000 (sm_gm_h σ (457 : Int64)) (0 : Int32) _ hf)
