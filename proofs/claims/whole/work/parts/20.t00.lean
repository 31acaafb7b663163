/-! X0_kind X7_apart X7_ahead X7_isFree X7_choose X0_goOn X1_kind X1_callsFrom X2_kind X2_callsFrom X3_changeJackets X3_forgetJackets X3_keep X3_takeKept X3_sizeWeight X3_clothOf X3_likeWeight X3_clothWeight X3_weigh X3_weightOf X3_total X3_likeliestPlayer X11_mixed X3_mixInto J7_fill_w X4_putHim X4_loseHim X4_keep X4_takeKept X4_aboveNought X4_total X4_sumOfCell_w -/
set_option maxRecDepth 20000 in
set_option maxHeartbeats 4000000 in
theorem tX0_kind (d : Nat) (σ : SX) (v0 : Nat) (q : Int32) (hf : fX0_kind σ v0 = some q) : ev_M ev_mt (d + 1) 0 [.ref v0] (hX σ) (some (.int q), hX σ) := by
  refine ev_en (rt := (some .int)) (I := eiX0_kind) rfl (Nat.le_of_ble_eq_true rfl) ?_
  change ev_X d _ _ (0, [some (.ref v0)], [], hX σ) _
  unfold fX0_kind at hf
  cases hf
  exact ev_rt 1 rfl
set_option maxRecDepth 20000 in
set_option maxHeartbeats 4000000 in
theorem tX7_apart_b70 (d : Nat) (σ : SX) (w0 : Int32) (w1 : Int32) (q : Int32) (hf : fX7_apart_b70 σ w0 w1 = some q) : ev_X d (some .int) eiX7_apart (70, [none, none, none, none, none, none], [.int (w0), .int (w1)], hX σ) (some (.int q), hX σ) := by
  unfold fX7_apart_b70 at hf
  cases hf
  exact ev_rt 1 rfl
set_option maxRecDepth 20000 in
set_option maxHeartbeats 4000000 in
theorem tX7_apart_b57 (d : Nat) (σ : SX) (v5 : Int32) (w0 : Int32) (q : Int32) (hf : fX7_apart_b57 σ v5 w0 = some q) : ev_X d (some .int) eiX7_apart (57, [none, none, none, none, none, some (.int (v5))], [.int (w0)], hX σ) (some (.int q), hX σ) := by
  unfold fX7_apart_b57 at hf
  refine ev_br 1 (P := v5 < 0) (a := 62) (b := 68) (ls := [none, none, none, none, none, some (.int (v5))]) (st := [.int (w0)]) (h := hX σ) rfl (fun c1 => ?_) (fun c1 => ?_)
  · rw [if_pos c1] at hf
    refine ev_go (c' := (70, [none, none, none, none, none, some (.int (v5))], [.int ((-v5)), .int (w0)], hX σ)) 2 rfl ?_
    exact ev_dr (a := [none, none, none, none, none, none]) trivial (tX7_apart_b70 d σ (-v5) w0 _ hf)
  · rw [if_neg c1] at hf
    refine ev_go (c' := (70, [none, none, none, none, none, some (.int (v5))], [.int (v5), .int (w0)], hX σ)) 0 rfl ?_
    exact ev_dr (a := [none, none, none, none, none, none]) trivial (tX7_apart_b70 d σ v5 w0 _ hf)
set_option maxRecDepth 20000 in
set_option maxHeartbeats 4000000 in
theorem tX7_apart_b22 (d : Nat) (σ : SX) (q : Int32) (hf : fX7_apart_b22 σ = some q) : ev_X d (some .int) eiX7_apart (22, [none, none, none, none, none, none], [], hX σ) (some (.int q), hX σ) := by
  unfold fX7_apart_b22 at hf
  cases hf
  exact ev_rt 1 rfl
set_option maxRecDepth 20000 in
set_option maxHeartbeats 4000000 in
theorem tX7_apart (d : Nat) (σ : SX) (v1 : Int32) (v2 : Int32) (v3 : Int32) (q : Int32) (hf : fX7_apart σ v1 v2 v3 = some q) : ev_M ev_mt (d + 1) 64 [.ref 3, .int (v1), .int (v2), .int (v3)] (hX σ) (some (.int q), hX σ) := by
  refine ev_en (rt := (some .int)) (I := eiX7_apart) rfl (Nat.le_of_ble_eq_true rfl) ?_
  change ev_X d _ _ (0, [some (.ref 3), some (.int (v1)), some (.int (v2)), some (.int (v3)), none, none], [], hX σ) _
  unfold fX7_apart at hf
  refine ev_br 1 (P := v1 < 0) (a := 22) (b := 4) (ls := [some (.ref 3), some (.int (v1)), some (.int (v2)), some (.int (v3)), none, none]) (st := []) (h := hX σ) rfl (fun c1 => ?_) (fun c1 => ?_)
  · rw [if_pos c1] at hf
    exact ev_dr (a := [none, none, none, none, none, none]) trivial (tX7_apart_b22 d σ  _ hf)
  · rw [if_neg c1] at hf
    refine ev_br 4 (P := v1 < (36 : Int32)) (a := 13) (b := 22) (ls := [some (.ref 3), some (.int (v1)), some (.int (v2)), some (.int (v3)), none, none]) (st := []) (h := hX σ) rfl (fun c2 => ?_) (fun c2 => ?_)
    · rw [if_pos c2] at hf
      refine ev_br 4 (P := v1 < (36 : Int32)) (a := 24) (b := 22) (ls := [some (.ref 3), some (.int (v1)), some (.int (v2)), some (.int (v3)), none, none]) (st := []) (h := hX σ) rfl (fun c3 => ?_) (fun c3 => ?_)
      · rw [if_pos c3] at hf
        obtain ⟨c4, hf⟩ := ev_hp hf
        refine ev_ck 3 (P := ¬ (v1 < 0 ∨ 36 ≤ v1.toNatClampNeg)) (c' := (30, [some (.ref 3), some (.int (v1)), some (.int (v2)), some (.int (v3)), none, none], [.int (((gx_rg_rows σ) v1.toNatClampNeg))], hX σ)) rfl c4 ?_
        obtain ⟨c5, hf⟩ := ev_hp hf
        refine ev_ck 6 (P := ¬ (v1 < 0 ∨ 36 ≤ v1.toNatClampNeg)) (c' := (40, [some (.ref 3), some (.int (v1)), some (.int (v2)), some (.int (v3)), some (.int ((((gx_rg_rows σ) v1.toNatClampNeg) - v2))), none], [.int (((gx_rg_columns σ) v1.toNatClampNeg))], hX σ)) rfl c5 ?_
        refine ev_br 4 (P := (((gx_rg_rows σ) v1.toNatClampNeg) - v2) < 0) (a := 49) (b := 55) (ls := [some (.ref 3), some (.int (v1)), some (.int (v2)), some (.int (v3)), some (.int ((((gx_rg_rows σ) v1.toNatClampNeg) - v2))), some (.int ((((gx_rg_columns σ) v1.toNatClampNeg) - v3)))]) (st := []) (h := hX σ) rfl (fun c6 => ?_) (fun c6 => ?_)
        · rw [if_pos c6] at hf
          refine ev_go (c' := (57, [some (.ref 3), some (.int (v1)), some (.int (v2)), some (.int (v3)), some (.int ((((gx_rg_rows σ) v1.toNatClampNeg) - v2))), some (.int ((((gx_rg_columns σ) v1.toNatClampNeg) - v3)))], [.int ((-(((gx_rg_rows σ) v1.toNatClampNeg) - v2)))], hX σ)) 2 rfl ?_
          exact ev_dr (a := [none, none, none, none, none, some (.int ((((gx_rg_columns σ) v1.toNatClampNeg) - v3)))]) ⟨rfl, trivial⟩ (tX7_apart_b57 d σ (((gx_rg_columns σ) v1.toNatClampNeg) - v3) (-(((gx_rg_rows σ) v1.toNatClampNeg) - v2)) _ hf)
        · rw [if_neg c6] at hf
          refine ev_go (c' := (57, [some (.ref 3), some (.int (v1)), some (.int (v2)), some (.int (v3)), some (.int ((((gx_rg_rows σ) v1.toNatClampNeg) - v2))), some (.int ((((gx_rg_columns σ) v1.toNatClampNeg) - v3)))], [.int ((((gx_rg_rows σ) v1.toNatClampNeg) - v2))], hX σ)) 0 rfl ?_
          exact ev_dr (a := [none, none, none, none, none, some (.int ((((gx_rg_columns σ) v1.toNatClampNeg) - v3)))]) ⟨rfl, trivial⟩ (tX7_apart_b57 d σ (((gx_rg_columns σ) v1.toNatClampNeg) - v3) (((gx_rg_rows σ) v1.toNatClampNeg) - v2) _ hf)
      · rw [if_neg c3] at hf
        exact ev_dr (a := [none, none, none, none, none, none]) trivial (tX7_apart_b22 d σ  _ hf)
    · rw [if_neg c2] at hf
      exact ev_dr (a := [none, none, none, none, none, none]) trivial (tX7_apart_b22 d σ  _ hf)
set_option maxRecDepth 20000 in
set_option maxHeartbeats 4000000 in
theorem tX7_ahead_b31 (d : Nat) (σ : SX) (w0 : Int32) (q : Int32) (hf : fX7_ahead_b31 σ w0 = some q) : ev_X d (some .int) eiX7_ahead (31, [none, none, none, none], [.int (w0)], hX σ) (some (.int q), hX σ) := by
  unfold fX7_ahead_b31 at hf
  cases hf
  exact ev_rt 0 rfl
set_option maxRecDepth 20000 in
set_option maxHeartbeats 4000000 in
theorem tX7_ahead_b30 (d : Nat) (σ : SX) (q : Int32) (hf : fX7_ahead_b30 σ = some q) : ev_X d (some .int) eiX7_ahead (30, [none, none, none, none], [], hX σ) (some (.int q), hX σ) := by
  unfold fX7_ahead_b30 at hf
  refine ev_go (c' := (31, [none, none, none, none], [.int ((-1 : Int32))], hX σ)) 0 rfl ?_
  exact ev_dr (a := [none, none, none, none]) trivial (tX7_ahead_b31 d σ (-1 : Int32) _ hf)
set_option maxRecDepth 20000 in
set_option maxHeartbeats 4000000 in
theorem tX7_ahead (d : Nat) (σ : SX) (v1 : Int32) (v2 : Int32) (q : Int32) (hf : fX7_ahead σ v1 v2 = some q) : ev_M ev_mt (d + 1) 61 [.ref 3, .int (v1), .int (v2)] (hX σ) (some (.int q), hX σ) := by
  refine ev_en (rt := (some .int)) (I := eiX7_ahead) rfl (Nat.le_of_ble_eq_true rfl) ?_
  change ev_X d _ _ (0, [some (.ref 3), some (.int (v1)), some (.int (v2)), none], [], hX σ) _
  unfold fX7_ahead at hf
  refine ev_br 9 (P := ((v1 * (4 : Int32)) + (v2 &&& (3 : Int32))) < 0) (a := 30) (b := 12) (ls := [some (.ref 3), some (.int (v1)), some (.int (v2)), some (.int (((v1 * (4 : Int32)) + (v2 &&& (3 : Int32)))))]) (st := []) (h := hX σ) rfl (fun c1 => ?_) (fun c1 => ?_)
  · rw [if_pos c1] at hf
    exact ev_dr (a := [none, none, none, none]) trivial (tX7_ahead_b30 d σ  _ hf)
  · rw [if_neg c1] at hf
    refine ev_br 4 (P := ((v1 * (4 : Int32)) + (v2 &&& (3 : Int32))) < (144 : Int32)) (a := 21) (b := 30) (ls := [some (.ref 3), some (.int (v1)), some (.int (v2)), some (.int (((v1 * (4 : Int32)) + (v2 &&& (3 : Int32)))))]) (st := []) (h := hX σ) rfl (fun c2 => ?_) (fun c2 => ?_)
    · rw [if_pos c2] at hf
      obtain ⟨c3, hf⟩ := ev_hp hf
      refine ev_ck 3 (P := ¬ (((v1 * (4 : Int32)) + (v2 &&& (3 : Int32))) < 0 ∨ 144 ≤ ((v1 * (4 : Int32)) + (v2 &&& (3 : Int32))).toNatClampNeg)) (c' := (27, [some (.ref 3), some (.int (v1)), some (.int (v2)), some (.int (((v1 * (4 : Int32)) + (v2 &&& (3 : Int32)))))], [.int (((gx_rg_beside σ) ((v1 * (4 : Int32)) + (v2 &&& (3 : Int32))).toNatClampNeg))], hX σ)) rfl c3 ?_
      refine ev_go (c' := (31, [some (.ref 3), some (.int (v1)), some (.int (v2)), some (.int (((v1 * (4 : Int32)) + (v2 &&& (3 : Int32)))))], [.int (((gx_rg_beside σ) ((v1 * (4 : Int32)) + (v2 &&& (3 : Int32))).toNatClampNeg))], hX σ)) 0 rfl ?_
      exact ev_dr (a := [none, none, none, none]) trivial (tX7_ahead_b31 d σ ((gx_rg_beside σ) ((v1 * (4 : Int32)) + (v2 &&& (3 : Int32))).toNatClampNeg) _ hf)
    · rw [if_neg c2] at hf
      exact ev_dr (a := [none, none, none, none]) trivial (tX7_ahead_b30 d σ  _ hf)
set_option maxRecDepth 20000 in
set_option maxHeartbeats 4000000 in
theorem tX7_isFree_b36 (d : Nat) (σ : SX) (w0 : Int32) (q : Int32) (hf : fX7_isFree_b36 σ w0 = some q) : ev_X d (some .boolean) eiX7_isFree (36, [none, none], [.int (w0)], hX σ) (some (.int q), hX σ) := by
  unfold fX7_isFree_b36 at hf
  obtain ⟨c1, hf⟩ := ev_hp hf
  cases hf
  exact ev_rk 0 rfl c1
set_option maxRecDepth 20000 in
set_option maxHeartbeats 4000000 in
theorem tX7_isFree_b35 (d : Nat) (σ : SX) (q : Int32) (hf : fX7_isFree_b35 σ = some q) : ev_X d (some .boolean) eiX7_isFree (35, [none, none], [], hX σ) (some (.int q), hX σ) := by
  unfold fX7_isFree_b35 at hf
  refine ev_go (c' := (36, [none, none], [.int ((0 : Int32))], hX σ)) 0 rfl ?_
  exact ev_dr (a := [none, none]) trivial (tX7_isFree_b36 d σ (0 : Int32) _ hf)
set_option maxRecDepth 20000 in
set_option maxHeartbeats 4000000 in
theorem tX7_isFree (d : Nat) (σ : SX) (v1 : Int32) (q : Int32) (hf : fX7_isFree σ v1 = some q) : ev_M ev_mt (d + 1) 59 [.ref 3, .int (v1)] (hX σ) (some (.int q), hX σ) := by
  refine ev_en (rt := (some .boolean)) (I := eiX7_isFree) rfl (Nat.le_of_ble_eq_true rfl) ?_
  change ev_X d _ _ (0, [some (.ref 3), some (.int (v1))], [], hX σ) _
  unfold fX7_isFree at hf
  refine ev_br 1 (P := v1 < 0) (a := 35) (b := 4) (ls := [some (.ref 3), some (.int (v1))]) (st := []) (h := hX σ) rfl (fun c1 => ?_) (fun c1 => ?_)
  · rw [if_pos c1] at hf
    exact ev_dr (a := [none, none]) trivial (tX7_isFree_b35 d σ  _ hf)
  · rw [if_neg c1] at hf
    refine ev_br 3 (P := v1 < (gx_rg_size σ)) (a := 12) (b := 35) (ls := [some (.ref 3), some (.int (v1))]) (st := []) (h := hX σ) rfl (fun c2 => ?_) (fun c2 => ?_)
    · rw [if_pos c2] at hf
      refine ev_br 4 (P := v1 < (36 : Int32)) (a := 21) (b := 35) (ls := [some (.ref 3), some (.int (v1))]) (st := []) (h := hX σ) rfl (fun c3 => ?_) (fun c3 => ?_)
      · rw [if_pos c3] at hf
        obtain ⟨c4, hf⟩ := ev_hp hf
        refine ev_ck 3 (P := ¬ (v1 < 0 ∨ 36 ≤ v1.toNatClampNeg)) (c' := (27, [some (.ref 3), some (.int (v1))], [.int (((gx_rg_kinds σ) v1.toNatClampNeg))], hX σ)) rfl c4 ?_
        refine ev_br 1 (P := (1 : Int32) < ((gx_rg_kinds σ) v1.toNatClampNeg)) (a := 35) (b := 31) (ls := [some (.ref 3), some (.int (v1))]) (st := []) (h := hX σ) rfl (fun c5 => ?_) (fun c5 => ?_)
        · rw [if_pos c5] at hf
          exact ev_dr (a := [none, none]) trivial (tX7_isFree_b35 d σ  _ hf)
        · rw [if_neg c5] at hf
          refine ev_go (c' := (36, [some (.ref 3), some (.int (v1))], [.int ((1 : Int32))], hX σ)) 1 rfl ?_
          exact ev_dr (a := [none, none]) trivial (tX7_isFree_b36 d σ (1 : Int32) _ hf)
      · rw [if_neg c3] at hf
        exact ev_dr (a := [none, none]) trivial (tX7_isFree_b35 d σ  _ hf)
    · rw [if_neg c2] at hf
      exact ev_dr (a := [none, none]) trivial (tX7_isFree_b35 d σ  _ hf)
set_option maxRecDepth 20000 in
set_option maxHeartbeats 4000000 in
theorem tX7_choose_b70 (d : Nat) (σ : SX) (k18 : Int32 → Int32 → Int32 → Int32 → Int32 → Int32 → Int32 → Option (Int32)) (hk18 : ∀ (v1 : Int32) (v2 : Int32) (v3 : Int32) (v4 : Int32) (v5 : Int32) (v6 : Int32) (v7 : Int32) (q : Int32), k18 v1 v2 v3 v4 v5 v6 v7 = some q → ev_X (d + 1) (some .int) eiX7_choose (18, [some (.ref 3), some (.int (v1)), some (.int (v2)), some (.int (v3)), some (.int (v4)), some (.int (v5)), some (.int (v6)), some (.int (v7)), none, none], [], hX σ) (some (.int q), hX σ)) (v1 : Int32) (v2 : Int32) (v3 : Int32) (v4 : Int32) (v5 : Int32) (v6 : Int32) (v7 : Int32) (q : Int32) (hf : fX7_choose_b70 σ k18 v1 v2 v3 v4 v5 v6 v7 = some q) : ev_X (d + 1) (some .int) eiX7_choose (70, [some (.ref 3), some (.int (v1)), some (.int (v2)), some (.int (v3)), some (.int (v4)), some (.int (v5)), some (.int (v6)), some (.int (v7)), none, none], [], hX σ) (some (.int q), hX σ) := by
  unfold fX7_choose_b70 at hf
  refine ev_go (c' := (18, [some (.ref 3), some (.int (v1)), some (.int (v2)), some (.int (v3)), some (.int (v4)), some (.int (v5)), some (.int (v6)), some (.int ((v7 + (1 : Int32)))), none, none], [], hX σ)) 1 rfl ?_
  exact ev_dr (a := [some (.ref 3), some (.int (v1)), some (.int (v2)), some (.int (v3)), some (.int (v4)), some (.int (v5)), some (.int (v6)), some (.int ((v7 + (1 : Int32)))), none, none]) ⟨rfl, ⟨rfl, ⟨rfl, ⟨rfl, ⟨rfl, ⟨rfl, ⟨rfl, ⟨rfl, trivial⟩⟩⟩⟩⟩⟩⟩⟩ (hk18 v1 v2 v3 v4 v5 v6 (v7 + (1 : Int32)) _ hf)
set_option maxRecDepth 20000 in
set_option maxHeartbeats 4000000 in
theorem tX7_choose_b18 (d : Nat) (σ : SX) (k18 : Int32 → Int32 → Int32 → Int32 → Int32 → Int32 → Int32 → Option (Int32)) (hk18 : ∀ (v1 : Int32) (v2 : Int32) (v3 : Int32) (v4 : Int32) (v5 : Int32) (v6 : Int32) (v7 : Int32) (q : Int32), k18 v1 v2 v3 v4 v5 v6 v7 = some q → ev_X (d + 1) (some .int) eiX7_choose (18, [some (.ref 3), some (.int (v1)), some (.int (v2)), some (.int (v3)), some (.int (v4)), some (.int (v5)), some (.int (v6)), some (.int (v7)), none, none], [], hX σ) (some (.int q), hX σ)) (v1 : Int32) (v2 : Int32) (v3 : Int32) (v4 : Int32) (v5 : Int32) (v6 : Int32) (v7 : Int32) (q : Int32) (hf : fX7_choose_b18 σ k18 v1 v2 v3 v4 v5 v6 v7 = some q) : ev_X (d + 1) (some .int) eiX7_choose (18, [some (.ref 3), some (.int (v1)), some (.int (v2)), some (.int (v3)), some (.int (v4)), some (.int (v5)), some (.int (v6)), some (.int (v7)), none, none], [], hX σ) (some (.int q), hX σ) := by
  unfold fX7_choose_b18 at hf
  refine ev_br 2 (P := v7 < (4 : Int32)) (a := 24) (b := 76) (ls := [some (.ref 3), some (.int (v1)), some (.int (v2)), some (.int (v3)), some (.int (v4)), some (.int (v5)), some (.int (v6)), some (.int (v7)), none, none]) (st := []) (h := hX σ) rfl (fun c1 => ?_) (fun c1 => ?_)
  · rw [if_pos c1] at hf
    obtain ⟨r2, hr2, hf⟩ := Option.bind_eq_some_iff.mp hf
    refine ev_cli 3 (kk := 61) (as := [.ref 3, .int (v1), .int (v7)]) (rest := []) (pc := 28) (ls := [some (.ref 3), some (.int (v1)), some (.int (v2)), some (.int (v3)), some (.int (v4)), some (.int (v5)), some (.int (v6)), some (.int (v7)), none, none]) (st := [.int (v7), .int (v1), .ref 3]) (h := hX σ) rfl (tX7_ahead d σ v1 v7 r2 hr2) ?_
    obtain ⟨r3, hr3, hf⟩ := Option.bind_eq_some_iff.mp hf
    refine ev_cli 3 (kk := 59) (as := [.ref 3, .int (r2)]) (rest := []) (pc := 36) (ls := [some (.ref 3), some (.int (v1)), some (.int (v2)), some (.int (v3)), some (.int (v4)), some (.int (v5)), some (.int (v6)), some (.int (v7)), some (.int (r2)), none]) (st := [.int (r2), .ref 3]) (h := hX σ) rfl (tX7_isFree d σ r2 r3 hr3) ?_
    refine ev_br 0 (P := r3 = 0) (a := 70) (b := 42) (ls := [some (.ref 3), some (.int (v1)), some (.int (v2)), some (.int (v3)), some (.int (v4)), some (.int (v5)), some (.int (v6)), some (.int (v7)), some (.int (r2)), none]) (st := []) (h := hX σ) rfl (fun c2 => ?_) (fun c2 => ?_)
    · rw [if_pos c2] at hf
      exact ev_dr (a := [some (.ref 3), some (.int (v1)), some (.int (v2)), some (.int (v3)), some (.int (v4)), some (.int (v5)), some (.int (v6)), some (.int (v7)), none, none]) ⟨rfl, ⟨rfl, ⟨rfl, ⟨rfl, ⟨rfl, ⟨rfl, ⟨rfl, ⟨rfl, trivial⟩⟩⟩⟩⟩⟩⟩⟩ (tX7_choose_b70 d σ k18 hk18 v1 v2 v3 v4 v5 v6 v7 _ hf)
    · rw [if_neg c2] at hf
      obtain ⟨r4, hr4, hf⟩ := Option.bind_eq_some_iff.mp hf
      refine ev_cli 5 (kk := 64) (as := [.ref 3, .int (r2), .int (v2), .int (v3)]) (rest := [.int (v4)]) (pc := 49) (ls := [some (.ref 3), some (.int (v1)), some (.int (v2)), some (.int (v3)), some (.int (v4)), some (.int (v5)), some (.int (v6)), some (.int (v7)), some (.int (r2)), none]) (st := [.int (v3), .int (v2), .int (r2), .ref 3, .int (v4)]) (h := hX σ) rfl (tX7_apart d σ r2 v2 v3 r4 hr4) ?_
      refine ev_br 4 (P := (v4 * r4) < v6) (a := 62) (b := 70) (ls := [some (.ref 3), some (.int (v1)), some (.int (v2)), some (.int (v3)), some (.int (v4)), some (.int (v5)), some (.int (v6)), some (.int (v7)), some (.int (r2)), some (.int ((v4 * r4)))]) (st := []) (h := hX σ) rfl (fun c3 => ?_) (fun c3 => ?_)
      · rw [if_pos c3] at hf
        refine ev_go (c' := (70, [some (.ref 3), some (.int (v1)), some (.int (v2)), some (.int (v3)), some (.int (v4)), some (.int (r2)), some (.int ((v4 * r4))), some (.int (v7)), some (.int (r2)), some (.int ((v4 * r4)))], [], hX σ)) 3 rfl ?_
        exact ev_dr (a := [some (.ref 3), some (.int (v1)), some (.int (v2)), some (.int (v3)), some (.int (v4)), some (.int (r2)), some (.int ((v4 * r4))), some (.int (v7)), none, none]) ⟨rfl, ⟨rfl, ⟨rfl, ⟨rfl, ⟨rfl, ⟨rfl, ⟨rfl, ⟨rfl, trivial⟩⟩⟩⟩⟩⟩⟩⟩ (tX7_choose_b70 d σ k18 hk18 v1 v2 v3 v4 r2 (v4 * r4) v7 _ hf)
      · rw [if_neg c3] at hf
        exact ev_dr (a := [some (.ref 3), some (.int (v1)), some (.int (v2)), some (.int (v3)), some (.int (v4)), some (.int (v5)), some (.int (v6)), some (.int (v7)), none, none]) ⟨rfl, ⟨rfl, ⟨rfl, ⟨rfl, ⟨rfl, ⟨rfl, ⟨rfl, ⟨rfl, trivial⟩⟩⟩⟩⟩⟩⟩⟩ (tX7_choose_b70 d σ k18 hk18 v1 v2 v3 v4 v5 v6 v7 _ hf)
  · rw [if_neg c1] at hf
    cases hf
    exact ev_rt 1 rfl
theorem tX7_choose_l18 (d : Nat) (σ : SX) : ∀ (n : Nat) (v1 : Int32) (v2 : Int32) (v3 : Int32) (v4 : Int32) (v5 : Int32) (v6 : Int32) (v7 : Int32) (q : Int32), fX7_choose_l18 σ n v1 v2 v3 v4 v5 v6 v7 = some q → ev_X (d + 1) (some .int) eiX7_choose (18, [some (.ref 3), some (.int (v1)), some (.int (v2)), some (.int (v3)), some (.int (v4)), some (.int (v5)), some (.int (v6)), some (.int (v7)), none, none], [], hX σ) (some (.int q), hX σ)
  | 0, _, _, _, _, _, _, _, _, hf => by cases hf
  | n + 1, v1, v2, v3, v4, v5, v6, v7, q, hf => tX7_choose_b18 d σ (fX7_choose_l18 σ n) (fun v1 v2 v3 v4 v5 v6 v7 q h9 => tX7_choose_l18 d σ n v1 v2 v3 v4 v5 v6 v7 q h9) v1 v2 v3 v4 v5 v6 v7 q hf
set_option maxRecDepth 20000 in
set_option maxHeartbeats 4000000 in
theorem tX7_choose (d : Nat) (σ : SX) (v1 : Int32) (v2 : Int32) (v3 : Int32) (v4 : Int32) (q : Int32) (hf : fX7_choose σ v1 v2 v3 v4 = some q) : ev_M ev_mt (d + 2) 66 [.ref 3, .int (v1), .int (v2), .int (v3), .int (v4)] (hX σ) (some (.int q), hX σ) := by
  refine ev_en (rt := (some .int)) (I := eiX7_choose) rfl (Nat.le_of_ble_eq_true rfl) ?_
  change ev_X (d + 1) _ _ (0, [some (.ref 3), some (.int (v1)), some (.int (v2)), some (.int (v3)), some (.int (v4)), none, none, none, none, none], [], hX σ) _
  unfold fX7_choose at hf
  obtain ⟨r1, hr1, hf⟩ := Option.bind_eq_some_iff.mp hf
  refine ev_cli 7 (kk := 64) (as := [.ref 3, .int (v1), .int (v2), .int (v3)]) (rest := [.int (v4)]) (pc := 9) (ls := [some (.ref 3), some (.int (v1)), some (.int (v2)), some (.int (v3)), some (.int (v4)), some (.int (v1)), none, none, none, none]) (st := [.int (v3), .int (v2), .int (v1), .ref 3, .int (v4)]) (h := hX σ) rfl (tX7_apart d σ v1 v2 v3 r1 hr1) ?_
  refine ev_go (c' := (18, [some (.ref 3), some (.int (v1)), some (.int (v2)), some (.int (v3)), some (.int (v4)), some (.int (v1)), some (.int ((v4 * r1))), some (.int ((0 : Int32))), none, none], [], hX σ)) 3 rfl ?_
  exact ev_dr (a := [some (.ref 3), some (.int (v1)), some (.int (v2)), some (.int (v3)), some (.int (v4)), some (.int (v1)), some (.int ((v4 * r1))), some (.int ((0 : Int32))), none, none]) ⟨rfl, ⟨rfl, ⟨rfl, ⟨rfl, ⟨rfl, ⟨rfl, ⟨rfl, ⟨rfl, trivial⟩⟩⟩⟩⟩⟩⟩⟩ (tX7_choose_l18 d σ 1000 v1 v2 v3 v4 v1 (v4 * r1) (0 : Int32) _ hf)
set_option maxRecDepth 20000 in
set_option maxHeartbeats 4000000 in
theorem tX0_goOn (d : Nat) (σ : SX) (v0 : Nat) (v2 : Int32) (v3 : Int32) (v4 : Int32) (q : SX) (hf : fX0_goOn σ v0 v2 v3 v4 = some q) : ev_M ev_mt (d + 3) 1 [.ref v0, .ref 3, .int (v2), .int (v3), .int (v4)] (hX σ) (none, hX q) := by
  refine ev_en (rt := none) (I := eiX0_goOn) rfl (Nat.le_of_ble_eq_true rfl) ?_
  change ev_X (d + 2) _ _ (0, [some (.ref v0), some (.ref 3), some (.int (v2)), some (.int (v3)), some (.int (v4))], [], hX σ) _
  unfold fX0_goOn at hf
  obtain ⟨c1, hf⟩ := ev_hp hf
  refine ev_go (c' := (3, [some (.ref v0), some (.ref 3), some (.int (v2)), some (.int (v3)), some (.int (v4))], [.ref v0, .ref 3, .ref v0], hX σ)) 2 rfl ?_
  refine ev_st1 (e := (3, .getfield 9, 3, 2, 0, .null, [(0, 0), (1, 0), (2, 0), (6, 0), (9, 0), (10, 0)], [668, 669])) (c' := (6, [some (.ref v0), some (.ref 3), some (.int (v2)), some (.int (v3)), some (.int (v4))], [.int (((gx_pl_at σ) (v0 - 20))), .ref 3, .ref v0], hX σ)) rfl (ox_pget2 c1) ?_
  obtain ⟨c2, hf⟩ := ev_hp hf
  refine ev_ck 5 (P := ¬ ((v4 &&& (3 : Int32)) < 0 ∨ 4 ≤ (v4 &&& (3 : Int32)).toNatClampNeg)) (c' := (15, [some (.ref v0), some (.ref 3), some (.int (v2)), some (.int (v3)), some (.int (v4))], [.int ((ev_sf 1001 (v4 &&& (3 : Int32)).toNatClampNeg)), .int (v2), .int (((gx_pl_at σ) (v0 - 20))), .ref 3, .ref v0], hX σ)) rfl c2 ?_
  obtain ⟨c3, hf⟩ := ev_hp hf
  refine ev_ck 6 (P := ¬ ((v4 &&& (3 : Int32)) < 0 ∨ 4 ≤ (v4 &&& (3 : Int32)).toNatClampNeg)) (c' := (25, [some (.ref v0), some (.ref 3), some (.int (v2)), some (.int (v3)), some (.int (v4))], [.int ((ev_sf 1002 (v4 &&& (3 : Int32)).toNatClampNeg)), .int (v3), .int ((v2 - (ev_sf 1001 (v4 &&& (3 : Int32)).toNatClampNeg))), .int (((gx_pl_at σ) (v0 - 20))), .ref 3, .ref v0], hX σ)) rfl c3 ?_
  obtain ⟨r1, hr1, hf⟩ := Option.bind_eq_some_iff.mp hf
  refine ev_cli 2 (kk := 66) (as := [.ref 3, .int (((gx_pl_at σ) (v0 - 20))), .int ((v2 - (ev_sf 1001 (v4 &&& (3 : Int32)).toNatClampNeg))), .int ((v3 - (ev_sf 1002 (v4 &&& (3 : Int32)).toNatClampNeg))), .int ((1 : Int32))]) (rest := [.ref v0]) (pc := 27) (ls := [some (.ref v0), some (.ref 3), some (.int (v2)), some (.int (v3)), some (.int (v4))]) (st := [.int ((1 : Int32)), .int ((v3 - (ev_sf 1002 (v4 &&& (3 : Int32)).toNatClampNeg))), .int ((v2 - (ev_sf 1001 (v4 &&& (3 : Int32)).toNatClampNeg))), .int (((gx_pl_at σ) (v0 - 20))), .ref 3, .ref v0]) (h := hX σ) rfl (tX7_choose d σ ((gx_pl_at σ) (v0 - 20)) (v2 - (ev_sf 1001 (v4 &&& (3 : Int32)).toNatClampNeg)) (v3 - (ev_sf 1002 (v4 &&& (3 : Int32)).toNatClampNeg)) (1 : Int32) r1 hr1) ?_
  obtain ⟨c4, hf⟩ := ev_hp hf
  refine ev_st1 (e := (30, .putfield 9, 3, 2, 0, .null, [(0, 0), (1, 0), (2, 0), (6, 0), (9, 0), (10, 0)], [668, 669])) (c' := (33, [some (.ref v0), some (.ref 3), some (.int (v2)), some (.int (v3)), some (.int (v4))], [], hX (sx_pl_at σ (upd (gx_pl_at σ) (v0 - 20) r1)))) rfl (ox_pput2 c4) ?_
  cases hf
  exact ev_rt 0 rfl
set_option maxRecDepth 20000 in
set_option maxHeartbeats 4000000 in
theorem tX1_kind (d : Nat) (σ : SX) (v0 : Nat) (q : Int32) (hf : fX1_kind σ v0 = some q) : ev_M ev_mt (d + 1) 2 [.ref v0] (hX σ) (some (.int q), hX σ) := by
  refine ev_en (rt := (some .int)) (I := eiX1_kind) rfl (Nat.le_of_ble_eq_true rfl) ?_
  change ev_X d _ _ (0, [some (.ref v0)], [], hX σ) _
  unfold fX1_kind at hf
  cases hf
  exact ev_rt 1 rfl
set_option maxRecDepth 20000 in
set_option maxHeartbeats 4000000 in
theorem tX1_callsFrom (d : Nat) (σ : SX) (v0 : Nat) (q : Int32) (hf : fX1_callsFrom σ v0 = some q) : ev_M ev_mt (d + 1) 3 [.ref v0, .ref 3] (hX σ) (some (.int q), hX σ) := by
  refine ev_en (rt := (some .int)) (I := eiX1_callsFrom) rfl (Nat.le_of_ble_eq_true rfl) ?_
  change ev_X d _ _ (0, [some (.ref v0), some (.ref 3)], [], hX σ) _
  unfold fX1_callsFrom at hf
  obtain ⟨c1, hf⟩ := ev_hp hf
  refine ev_go (c' := (1, [some (.ref v0), some (.ref 3)], [.ref v0], hX σ)) 0 rfl ?_
  refine ev_st1 (e := (1, .getfield 9, 3, 2, 0, .null, [(0, 0), (1, 0), (2, 0), (6, 0), (9, 0), (10, 0)], [666, 667])) (c' := (4, [some (.ref v0), some (.ref 3)], [.int (((gx_pl_at σ) (v0 - 20)))], hX σ)) rfl (ox_pget2 c1) ?_
  cases hf
  exact ev_rt 0 rfl
set_option maxRecDepth 20000 in
set_option maxHeartbeats 4000000 in
theorem tX2_kind (d : Nat) (σ : SX) (v0 : Nat) (q : Int32) (hf : fX2_kind σ v0 = some q) : ev_M ev_mt (d + 1) 4 [.ref v0] (hX σ) (some (.int q), hX σ) := by
  refine ev_en (rt := (some .int)) (I := eiX2_kind) rfl (Nat.le_of_ble_eq_true rfl) ?_
  change ev_X d _ _ (0, [some (.ref v0)], [], hX σ) _
  unfold fX2_kind at hf
  cases hf
  exact ev_rt 1 rfl
set_option maxRecDepth 20000 in
set_option maxHeartbeats 4000000 in
theorem tX2_callsFrom (d : Nat) (σ : SX) (v0 : Nat) (q : Int32) (hf : fX2_callsFrom σ v0 = some q) : ev_M ev_mt (d + 1) 5 [.ref v0, .ref 3] (hX σ) (some (.int q), hX σ) := by
  refine ev_en (rt := (some .int)) (I := eiX2_callsFrom) rfl (Nat.le_of_ble_eq_true rfl) ?_
  change ev_X d _ _ (0, [some (.ref v0), some (.ref 3)], [], hX σ) _
  unfold fX2_callsFrom at hf
  obtain ⟨c1, hf⟩ := ev_hp hf
  refine ev_go (c' := (7, [some (.ref v0), some (.ref 3)], [.ref v0, .int (((gx_rg_size σ) - (1 : Int32)))], hX σ)) 4 rfl ?_
  refine ev_st1 (e := (7, .getfield 15, 3, 2, 0, .null, [(0, 0), (1, 0), (2, 0), (6, 0), (9, 0), (10, 0)], [672, 673])) (c' := (10, [some (.ref v0), some (.ref 3)], [.int (((gx_pl_at σ) (v0 - 20))), .int (((gx_rg_size σ) - (1 : Int32)))], hX σ)) rfl (ox_pget2 c1) ?_
  cases hf
  exact ev_rt 1 rfl
set_option maxRecDepth 20000 in
set_option maxHeartbeats 4000000 in
theorem tX3_changeJackets (d : Nat) (σ : SX) (v1 : Int32) (v2 : Int32) (v3 : Int32) (q : SX) (hf : fX3_changeJackets σ v1 v2 v3 = some q) : ev_M ev_mt (d + 1) 6 [.ref 18, .int (v1), .int (v2), .int (v3)] (hX σ) (none, hX q) := by
  refine ev_en (rt := none) (I := eiX3_changeJackets) rfl (Nat.le_of_ble_eq_true rfl) ?_
  change ev_X d _ _ (0, [some (.ref 18), some (.int (v1)), some (.int (v2)), some (.int (v3))], [], hX σ) _
  unfold fX3_changeJackets at hf
  refine ev_go (c' := (2, [some (.ref 18), some (.int (v1)), some (.int (v2)), some (.int (v3))], [.int (v1), .ref 18], hX σ)) 1 rfl ?_
  refine ev_st1 (e := (2, .putfield 22, 3, 5, 0, .null, [(3, 0)], [226])) (c' := (5, [some (.ref 18), some (.int (v1)), some (.int (v2)), some (.int (v3))], [], hX (sx_nm_first σ v1))) rfl oy_put_x_nm_first ?_
  refine ev_go (c' := (7, [some (.ref 18), some (.int (v1)), some (.int (v2)), some (.int (v3))], [.int (v2), .ref 18], hX (sx_nm_first σ v1))) 1 rfl ?_
  refine ev_st1 (e := (7, .putfield 25, 3, 6, 0, .null, [(3, 0)], [227])) (c' := (10, [some (.ref 18), some (.int (v1)), some (.int (v2)), some (.int (v3))], [], hX (sx_nm_second (sx_nm_first σ v1) v2))) rfl oy_put_x_nm_second ?_
  refine ev_go (c' := (12, [some (.ref 18), some (.int (v1)), some (.int (v2)), some (.int (v3))], [.int (v3), .ref 18], hX (sx_nm_second (sx_nm_first σ v1) v2))) 1 rfl ?_
  refine ev_st1 (e := (12, .putfield 38, 3, 7, 0, .null, [(3, 0)], [228])) (c' := (15, [some (.ref 18), some (.int (v1)), some (.int (v2)), some (.int (v3))], [], hX (sx_nm_changed (sx_nm_second (sx_nm_first σ v1) v2) v3))) rfl oy_put_x_nm_changed ?_
  cases hf
  exact ev_rt 0 rfl
set_option maxRecDepth 20000 in
set_option maxHeartbeats 4000000 in
theorem tX3_forgetJackets (d : Nat) (σ : SX) (q : SX) (hf : fX3_forgetJackets σ = some q) : ev_M ev_mt (d + 2) 7 [.ref 18] (hX σ) (none, hX q) := by
  refine ev_en (rt := none) (I := eiX3_forgetJackets) rfl (Nat.le_of_ble_eq_true rfl) ?_
  change ev_X (d + 1) _ _ (0, [some (.ref 18)], [], hX σ) _
  unfold fX3_forgetJackets at hf
  obtain ⟨r1, hr1, hf⟩ := Option.bind_eq_some_iff.mp hf
  refine ev_clv 4 (kk := 6) (as := [.ref 18, .int ((-1 : Int32)), .int ((-1 : Int32)), .int ((0 : Int32))]) (rest := []) (pc := 4) (ls := [some (.ref 18)]) (st := [.int ((0 : Int32)), .int ((-1 : Int32)), .int ((-1 : Int32)), .ref 18]) (h := hX σ) rfl (tX3_changeJackets d σ (-1 : Int32) (-1 : Int32) (0 : Int32) r1 hr1) ?_
  cases hf
  exact ev_rt 0 rfl
set_option maxRecDepth 20000 in
set_option maxHeartbeats 4000000 in
theorem tX3_keep (d : Nat) (σ : SX) (q : SX) (hf : fX3_keep σ = some q) : ev_M ev_mt (d + 1) 8 [.ref 18] (hX σ) (none, hX q) := by
  refine ev_en (rt := none) (I := eiX3_keep) rfl (Nat.le_of_ble_eq_true rfl) ?_
  change ev_X d _ _ (0, [some (.ref 18)], [], hX σ) _
  unfold fX3_keep at hf
  refine ev_go (c' := (5, [some (.ref 18)], [.int ((gx_nm_first σ)), .ref 18], hX σ)) 2 rfl ?_
  refine ev_st1 (e := (5, .putfield 28, 3, 8, 0, .null, [(3, 0)], [229])) (c' := (8, [some (.ref 18)], [], hX (sx_nm_keptFirst σ (gx_nm_first σ)))) rfl oy_put_x_nm_keptFirst ?_
  refine ev_go (c' := (13, [some (.ref 18)], [.int ((gx_nm_second σ)), .ref 18], hX (sx_nm_keptFirst σ (gx_nm_first σ)))) 2 rfl ?_
  refine ev_st1 (e := (13, .putfield 31, 3, 9, 0, .null, [(3, 0)], [230])) (c' := (16, [some (.ref 18)], [], hX (sx_nm_keptSecond (sx_nm_keptFirst σ (gx_nm_first σ)) (gx_nm_second σ)))) rfl oy_put_x_nm_keptSecond ?_
  refine ev_go (c' := (21, [some (.ref 18)], [.int ((gx_nm_changed σ)), .ref 18], hX (sx_nm_keptSecond (sx_nm_keptFirst σ (gx_nm_first σ)) (gx_nm_second σ)))) 2 rfl ?_
  refine ev_st1 (e := (21, .putfield 45, 3, 10, 0, .null, [(3, 0)], [231])) (c' := (24, [some (.ref 18)], [], hX (sx_nm_keptChanged (sx_nm_keptSecond (sx_nm_keptFirst σ (gx_nm_first σ)) (gx_nm_second σ)) (gx_nm_changed σ)))) rfl oy_put_x_nm_keptChanged ?_
  cases hf
  exact ev_rt 0 rfl
set_option maxRecDepth 20000 in
set_option maxHeartbeats 4000000 in
theorem tX3_takeKept (d : Nat) (σ : SX) (q : SX) (hf : fX3_takeKept σ = some q) : ev_M ev_mt (d + 2) 9 [.ref 18] (hX σ) (none, hX q) := by
  refine ev_en (rt := none) (I := eiX3_takeKept) rfl (Nat.le_of_ble_eq_true rfl) ?_
  change ev_X (d + 1) _ _ (0, [some (.ref 18)], [], hX σ) _
  unfold fX3_takeKept at hf
  obtain ⟨r1, hr1, hf⟩ := Option.bind_eq_some_iff.mp hf
  refine ev_clv 7 (kk := 6) (as := [.ref 18, .int ((gx_nm_keptFirst σ)), .int ((gx_nm_keptSecond σ)), .int ((gx_nm_keptChanged σ))]) (rest := []) (pc := 13) (ls := [some (.ref 18)]) (st := [.int ((gx_nm_keptChanged σ)), .int ((gx_nm_keptSecond σ)), .int ((gx_nm_keptFirst σ)), .ref 18]) (h := hX σ) rfl (tX3_changeJackets d σ (gx_nm_keptFirst σ) (gx_nm_keptSecond σ) (gx_nm_keptChanged σ) r1 hr1) ?_
  cases hf
  exact ev_rt 0 rfl
set_option maxRecDepth 20000 in
set_option maxHeartbeats 4000000 in
theorem tX3_sizeWeight_b34 (d : Nat) (σ : SX) (w0 : Int32) (q : Int32) (hf : fX3_sizeWeight_b34 σ w0 = some q) : ev_X d (some .int) eiX3_sizeWeight (34, [none, none], [.int (w0)], hX σ) (some (.int q), hX σ) := by
  unfold fX3_sizeWeight_b34 at hf
  cases hf
  exact ev_rt 0 rfl
set_option maxRecDepth 20000 in
set_option maxHeartbeats 4000000 in
theorem tX3_sizeWeight_b26 (d : Nat) (σ : SX) (q : Int32) (hf : fX3_sizeWeight_b26 σ = some q) : ev_X d (some .int) eiX3_sizeWeight (26, [some (.ref 18), none], [], hX σ) (some (.int q), hX σ) := by
  unfold fX3_sizeWeight_b26 at hf
  refine ev_go (c' := (34, [some (.ref 18), none], [.int ((gx_nm_sizeOff σ))], hX σ)) 2 rfl ?_
  exact ev_dr (a := [none, none]) trivial (tX3_sizeWeight_b34 d σ (gx_nm_sizeOff σ) _ hf)
set_option maxRecDepth 20000 in
set_option maxHeartbeats 4000000 in
theorem tX3_sizeWeight (d : Nat) (σ : SX) (v1 : Int32) (q : Int32) (hf : fX3_sizeWeight σ v1 = some q) : ev_M ev_mt (d + 1) 11 [.ref 18, .int (v1)] (hX σ) (some (.int q), hX σ) := by
  refine ev_en (rt := (some .int)) (I := eiX3_sizeWeight) rfl (Nat.le_of_ble_eq_true rfl) ?_
  change ev_X d _ _ (0, [some (.ref 18), some (.int (v1))], [], hX σ) _
  unfold fX3_sizeWeight at hf
  refine ev_br 1 (P := v1 = 0) (a := 4) (b := 16) (ls := [some (.ref 18), some (.int (v1))]) (st := []) (h := hX σ) rfl (fun c1 => ?_) (fun c1 => ?_)
  · rw [if_pos c1] at hf
    refine ev_go (c' := (34, [some (.ref 18), some (.int (v1))], [.int (((10 : Int32) - ((2 : Int32) * (gx_nm_sizeOff σ))))], hX σ)) 6 rfl ?_
    exact ev_dr (a := [none, none]) trivial (tX3_sizeWeight_b34 d σ ((10 : Int32) - ((2 : Int32) * (gx_nm_sizeOff σ))) _ hf)
  · rw [if_neg c1] at hf
    refine ev_br 2 (P := v1 = (1 : Int32)) (a := 26) (b := 21) (ls := [some (.ref 18), some (.int (v1))]) (st := []) (h := hX σ) rfl (fun c2 => ?_) (fun c2 => ?_)
    · rw [if_pos c2] at hf
      exact ev_dr (a := [some (.ref 18), none]) ⟨rfl, trivial⟩ (tX3_sizeWeight_b26 d σ  _ hf)
    · rw [if_neg c2] at hf
      refine ev_br 2 (P := v1 = (-1 : Int32)) (a := 26) (b := 33) (ls := [some (.ref 18), some (.int (v1))]) (st := []) (h := hX σ) rfl (fun c3 => ?_) (fun c3 => ?_)
      · rw [if_pos c3] at hf
        exact ev_dr (a := [some (.ref 18), none]) ⟨rfl, trivial⟩ (tX3_sizeWeight_b26 d σ  _ hf)
      · rw [if_neg c3] at hf
        refine ev_go (c' := (34, [some (.ref 18), some (.int (v1))], [.int ((0 : Int32))], hX σ)) 0 rfl ?_
        exact ev_dr (a := [none, none]) trivial (tX3_sizeWeight_b34 d σ (0 : Int32) _ hf)
set_option maxRecDepth 20000 in
set_option maxHeartbeats 4000000 in
theorem tX3_clothOf_b36 (d : Nat) (σ : SX) (w0 : Int32) (q : Int32) (hf : fX3_clothOf_b36 σ w0 = some q) : ev_X d (some .int) eiX3_clothOf (36, [none, none, none], [.int (w0)], hX σ) (some (.int q), hX σ) := by
  unfold fX3_clothOf_b36 at hf
  cases hf
  exact ev_rt 0 rfl
set_option maxRecDepth 20000 in
set_option maxHeartbeats 4000000 in
theorem tX3_clothOf_b23 (d : Nat) (σ : SX) (w0 : Option Nat) (q : Int32) (hf : fX3_clothOf_b23 σ w0 = some q) : ev_X d (some .int) eiX3_clothOf (23, [none, none, none], [va_rf (w0)], hX σ) (some (.int q), hX σ) := by
  unfold fX3_clothOf_b23 at hf
  rcases hc1 : w0 with _ | a1
  · rw [hc1] at hf
    simp only [ev_q] at hf
    change ev_X d _ _ (23, [none, none, none], [.null], hX σ) _
    refine ev_go (c' := (36, [none, none, some (.null)], [.int ((-1 : Int32))], hX σ)) 4 rfl ?_
    exact ev_dr (a := [none, none, none]) trivial (tX3_clothOf_b36 d σ (-1 : Int32) _ hf)
  · rw [hc1] at hf
    simp only [ev_q] at hf
    change ev_X d _ _ (23, [none, none, none], [.ref a1], hX σ) _
    obtain ⟨c2, hf⟩ := ev_hp hf
    refine ev_go (c' := (33, [none, none, some (.ref a1)], [.ref a1], hX σ)) 3 rfl ?_
    refine ev_st1 (e := (33, .getfield 74, 3, 4, 0, .null, [(0, 0), (1, 0), (2, 0), (6, 0), (9, 0), (10, 0)], [679])) (c' := (36, [none, none, some (.ref a1)], [.int (((gx_pl_cloth σ) (a1 - 20)))], hX σ)) rfl (ox_pget4 c2) ?_
    exact ev_dr (a := [none, none, none]) trivial (tX3_clothOf_b36 d σ ((gx_pl_cloth σ) (a1 - 20)) _ hf)
set_option maxRecDepth 20000 in
set_option maxHeartbeats 4000000 in
theorem tX3_clothOf_b22 (d : Nat) (σ : SX) (q : Int32) (hf : fX3_clothOf_b22 σ = some q) : ev_X d (some .int) eiX3_clothOf (22, [none, none, none], [], hX σ) (some (.int q), hX σ) := by
  unfold fX3_clothOf_b22 at hf
  refine ev_go (c' := (23, [none, none, none], [.null], hX σ)) 0 rfl ?_
  exact ev_dr (a := [none, none, none]) trivial (tX3_clothOf_b23 d σ none _ hf)
set_option maxRecDepth 20000 in
set_option maxHeartbeats 4000000 in
theorem tX3_clothOf (d : Nat) (σ : SX) (v1 : Int32) (q : Int32) (hf : fX3_clothOf σ v1 = some q) : ev_M ev_mt (d + 1) 14 [.ref 18, .int (v1)] (hX σ) (some (.int q), hX σ) := by
  refine ev_en (rt := (some .int)) (I := eiX3_clothOf) rfl (Nat.le_of_ble_eq_true rfl) ?_
  change ev_X d _ _ (0, [some (.ref 18), some (.int (v1)), none], [], hX σ) _
  unfold fX3_clothOf at hf
  refine ev_br 1 (P := v1 < 0) (a := 22) (b := 4) (ls := [some (.ref 18), some (.int (v1)), none]) (st := []) (h := hX σ) rfl (fun c1 => ?_) (fun c1 => ?_)
  · rw [if_pos c1] at hf
    exact ev_dr (a := [none, none, none]) trivial (tX3_clothOf_b22 d σ  _ hf)
  · rw [if_neg c1] at hf
    refine ev_br 4 (P := v1 < (6 : Int32)) (a := 13) (b := 22) (ls := [some (.ref 18), some (.int (v1)), none]) (st := []) (h := hX σ) rfl (fun c2 => ?_) (fun c2 => ?_)
    · rw [if_pos c2] at hf
      obtain ⟨c3, hf⟩ := ev_hp hf
      refine ev_ck 3 (P := ¬ (v1 < 0 ∨ 6 ≤ v1.toNatClampNeg)) (c' := (19, [some (.ref 18), some (.int (v1)), none], [va_rf (((gx_pl_arr σ) v1.toNatClampNeg))], hX σ)) rfl c3 ?_
      refine ev_go (c' := (23, [some (.ref 18), some (.int (v1)), none], [va_rf (((gx_pl_arr σ) v1.toNatClampNeg))], hX σ)) 0 rfl ?_
      exact ev_dr (a := [none, none, none]) trivial (tX3_clothOf_b23 d σ ((gx_pl_arr σ) v1.toNatClampNeg) _ hf)
    · rw [if_neg c2] at hf
      exact ev_dr (a := [none, none, none]) trivial (tX3_clothOf_b22 d σ  _ hf)
set_option maxRecDepth 20000 in
set_option maxHeartbeats 4000000 in
theorem tX3_likeWeight_b14 (d : Nat) (h : ev_H) (w0 : Int32) (q : Int32) (hf : fX3_likeWeight_b14 w0 = some q) : ev_X d (some .int) eiX3_likeWeight (14, [none, none], [.int (w0)], h) (some (.int q), h) := by
  unfold fX3_likeWeight_b14 at hf
  cases hf
  exact ev_rt 0 rfl
set_option maxRecDepth 20000 in
set_option maxHeartbeats 4000000 in
theorem tX3_likeWeight (d : Nat) (h : ev_H) (v0 : Int32) (v1 : Int32) (q : Int32) (hf : fX3_likeWeight v0 v1 = some q) : ev_M ev_mt (d + 1) 12 [.int (v0), .int (v1)] (h) (some (.int q), h) := by
  refine ev_en (rt := (some .int)) (I := eiX3_likeWeight) rfl (Nat.le_of_ble_eq_true rfl) ?_
  change ev_X d _ _ (0, [some (.int (v0)), some (.int (v1))], [], h) _
  unfold fX3_likeWeight at hf
  refine ev_br 1 (P := v0 = 0) (a := 10) (b := 4) (ls := [some (.int (v0)), some (.int (v1))]) (st := []) (h := h) rfl (fun c1 => ?_) (fun c1 => ?_)
  · rw [if_pos c1] at hf
    refine ev_go (c' := (14, [some (.int (v0)), some (.int (v1))], [.int (((10 : Int32) - v1))], h)) 2 rfl ?_
    exact ev_dr (a := [none, none]) trivial (tX3_likeWeight_b14 d h ((10 : Int32) - v1) _ hf)
  · rw [if_neg c1] at hf
    refine ev_go (c' := (14, [some (.int (v0)), some (.int (v1))], [.int (((4 : Int32) * v1))], h)) 3 rfl ?_
    exact ev_dr (a := [none, none]) trivial (tX3_likeWeight_b14 d h ((4 : Int32) * v1) _ hf)
set_option maxRecDepth 20000 in
set_option maxHeartbeats 4000000 in
theorem tX3_clothWeight_b75 (d : Nat) (σ : SX) (v3 : Int32) (w0 : Int32) (q : Int32) (hf : fX3_clothWeight_b75 σ v3 w0 = some q) : ev_X (d + 1) (some .int) eiX3_clothWeight (75, [some (.ref 18), none, none, some (.int (v3)), none], [.int (w0)], hX σ) (some (.int q), hX σ) := by
  unfold fX3_clothWeight_b75 at hf
  obtain ⟨r2, hr2, hf⟩ := Option.bind_eq_some_iff.mp hf
  refine ev_cli 2 (kk := 12) (as := [.int (w0), .int ((gx_nm_clothRight σ))]) (rest := []) (pc := 79) (ls := [some (.ref 18), none, none, some (.int (v3)), none]) (st := [.int ((gx_nm_clothRight σ)), .int (w0)]) (h := hX σ) rfl (tX3_likeWeight d (hX σ) w0 (gx_nm_clothRight σ) r2 hr2) ?_
  cases hf
  exact ev_rt 12 rfl
set_option maxRecDepth 20000 in
set_option maxHeartbeats 4000000 in
theorem tX3_clothWeight_b64 (d : Nat) (σ : SX) (v3 : Int32) (w0 : Int32) (w2 : Int32) (q : Int32) (hf : fX3_clothWeight_b64 σ v3 w0 w2 = some q) : ev_X (d + 1) (some .int) eiX3_clothWeight (64, [some (.ref 18), none, none, some (.int (v3)), none], [.int (w0), .ref 18, .int (w2)], hX σ) (some (.int q), hX σ) := by
  unfold fX3_clothWeight_b64 at hf
  obtain ⟨r3, hr3, hf⟩ := Option.bind_eq_some_iff.mp hf
  refine ev_cli 0 (kk := 14) (as := [.ref 18, .int (w0)]) (rest := [.int (w2)]) (pc := 64) (ls := [some (.ref 18), none, none, some (.int (v3)), none]) (st := [.int (w0), .ref 18, .int (w2)]) (h := hX σ) rfl (tX3_clothOf d σ w0 r3 hr3) ?_
  refine ev_br 0 (P := w2 = r3) (a := 70) (b := 74) (ls := [some (.ref 18), none, none, some (.int (v3)), none]) (st := []) (h := hX σ) rfl (fun c1 => ?_) (fun c1 => ?_)
  · rw [if_pos c1] at hf
    refine ev_go (c' := (75, [some (.ref 18), none, none, some (.int (v3)), none], [.int ((1 : Int32))], hX σ)) 1 rfl ?_
    exact ev_dr (a := [some (.ref 18), none, none, some (.int (v3)), none]) ⟨rfl, ⟨rfl, trivial⟩⟩ (tX3_clothWeight_b75 d σ v3 (1 : Int32) _ hf)
  · rw [if_neg c1] at hf
    refine ev_go (c' := (75, [some (.ref 18), none, none, some (.int (v3)), none], [.int ((0 : Int32))], hX σ)) 0 rfl ?_
    exact ev_dr (a := [some (.ref 18), none, none, some (.int (v3)), none]) ⟨rfl, ⟨rfl, trivial⟩⟩ (tX3_clothWeight_b75 d σ v3 (0 : Int32) _ hf)
set_option maxRecDepth 20000 in
set_option maxHeartbeats 4000000 in
theorem tX3_clothWeight_b43 (d : Nat) (σ : SX) (v1 : Int32) (v2 : Int32) (v3 : Int32) (q : Int32) (hf : fX3_clothWeight_b43 σ v1 v2 v3 = some q) : ev_X (d + 1) (some .int) eiX3_clothWeight (43, [some (.ref 18), some (.int (v1)), some (.int (v2)), some (.int (v3)), none], [], hX σ) (some (.int q), hX σ) := by
  unfold fX3_clothWeight_b43 at hf
  refine ev_br 5 (P := v1 = (gx_nm_first σ)) (a := 53) (b := 60) (ls := [some (.ref 18), some (.int (v1)), some (.int (v2)), some (.int (v3)), none]) (st := [.ref 18, .int (v2)]) (h := hX σ) rfl (fun c1 => ?_) (fun c1 => ?_)
  · rw [if_pos c1] at hf
    refine ev_go (c' := (64, [some (.ref 18), some (.int (v1)), some (.int (v2)), some (.int (v3)), none], [.int ((gx_nm_second σ)), .ref 18, .int (v2)], hX σ)) 2 rfl ?_
    exact ev_dr (a := [some (.ref 18), none, none, some (.int (v3)), none]) ⟨rfl, ⟨rfl, trivial⟩⟩ (tX3_clothWeight_b64 d σ v3 (gx_nm_second σ) v2 _ hf)
  · rw [if_neg c1] at hf
    refine ev_go (c' := (64, [some (.ref 18), some (.int (v1)), some (.int (v2)), some (.int (v3)), none], [.int ((gx_nm_first σ)), .ref 18, .int (v2)], hX σ)) 1 rfl ?_
    exact ev_dr (a := [some (.ref 18), none, none, some (.int (v3)), none]) ⟨rfl, ⟨rfl, trivial⟩⟩ (tX3_clothWeight_b64 d σ v3 (gx_nm_first σ) v2 _ hf)
set_option maxRecDepth 20000 in
set_option maxHeartbeats 4000000 in
theorem tX3_clothWeight_b14 (d : Nat) (σ : SX) (v1 : Int32) (v2 : Int32) (w0 : Int32) (q : Int32) (hf : fX3_clothWeight_b14 σ v1 v2 w0 = some q) : ev_X (d + 1) (some .int) eiX3_clothWeight (14, [some (.ref 18), some (.int (v1)), some (.int (v2)), none, none], [.int (w0)], hX σ) (some (.int q), hX σ) := by
  unfold fX3_clothWeight_b14 at hf
  obtain ⟨r4, hr4, hf⟩ := Option.bind_eq_some_iff.mp hf
  refine ev_cli 2 (kk := 12) (as := [.int (w0), .int ((gx_nm_clothRight σ))]) (rest := []) (pc := 18) (ls := [some (.ref 18), some (.int (v1)), some (.int (v2)), none, none]) (st := [.int ((gx_nm_clothRight σ)), .int (w0)]) (h := hX σ) rfl (tX3_likeWeight d (hX σ) w0 (gx_nm_clothRight σ) r4 hr4) ?_
  refine ev_br 4 (P := v1 = (gx_nm_first σ)) (a := 43) (b := 30) (ls := [some (.ref 18), some (.int (v1)), some (.int (v2)), some (.int (r4)), none]) (st := []) (h := hX σ) rfl (fun c1 => ?_) (fun c1 => ?_)
  · rw [if_pos c1] at hf
    exact ev_dr (a := [some (.ref 18), some (.int (v1)), some (.int (v2)), some (.int (r4)), none]) ⟨rfl, ⟨rfl, ⟨rfl, ⟨rfl, trivial⟩⟩⟩⟩ (tX3_clothWeight_b43 d σ v1 v2 r4 _ hf)
  · rw [if_neg c1] at hf
    refine ev_br 3 (P := v1 = (gx_nm_second σ)) (a := 43) (b := 38) (ls := [some (.ref 18), some (.int (v1)), some (.int (v2)), some (.int (r4)), none]) (st := []) (h := hX σ) rfl (fun c2 => ?_) (fun c2 => ?_)
    · rw [if_pos c2] at hf
      exact ev_dr (a := [some (.ref 18), some (.int (v1)), some (.int (v2)), some (.int (r4)), none]) ⟨rfl, ⟨rfl, ⟨rfl, ⟨rfl, trivial⟩⟩⟩⟩ (tX3_clothWeight_b43 d σ v1 v2 r4 _ hf)
    · rw [if_neg c2] at hf
      cases hf
      exact ev_rt 3 rfl
set_option maxRecDepth 20000 in
set_option maxHeartbeats 4000000 in
theorem tX3_clothWeight (d : Nat) (σ : SX) (v1 : Int32) (v2 : Int32) (q : Int32) (hf : fX3_clothWeight σ v1 v2 = some q) : ev_M ev_mt (d + 2) 13 [.ref 18, .int (v1), .int (v2)] (hX σ) (some (.int q), hX σ) := by
  refine ev_en (rt := (some .int)) (I := eiX3_clothWeight) rfl (Nat.le_of_ble_eq_true rfl) ?_
  change ev_X (d + 1) _ _ (0, [some (.ref 18), some (.int (v1)), some (.int (v2)), none, none], [], hX σ) _
  unfold fX3_clothWeight at hf
  obtain ⟨r1, hr1, hf⟩ := Option.bind_eq_some_iff.mp hf
  refine ev_cli 3 (kk := 14) (as := [.ref 18, .int (v1)]) (rest := [.int (v2)]) (pc := 3) (ls := [some (.ref 18), some (.int (v1)), some (.int (v2)), none, none]) (st := [.int (v1), .ref 18, .int (v2)]) (h := hX σ) rfl (tX3_clothOf d σ v1 r1 hr1) ?_
  refine ev_br 0 (P := v2 = r1) (a := 9) (b := 13) (ls := [some (.ref 18), some (.int (v1)), some (.int (v2)), none, none]) (st := []) (h := hX σ) rfl (fun c1 => ?_) (fun c1 => ?_)
  · rw [if_pos c1] at hf
    refine ev_go (c' := (14, [some (.ref 18), some (.int (v1)), some (.int (v2)), none, none], [.int ((1 : Int32))], hX σ)) 1 rfl ?_
    exact ev_dr (a := [some (.ref 18), some (.int (v1)), some (.int (v2)), none, none]) ⟨rfl, ⟨rfl, ⟨rfl, trivial⟩⟩⟩ (tX3_clothWeight_b14 d σ v1 v2 (1 : Int32) _ hf)
  · rw [if_neg c1] at hf
    refine ev_go (c' := (14, [some (.ref 18), some (.int (v1)), some (.int (v2)), none, none], [.int ((0 : Int32))], hX σ)) 0 rfl ?_
    exact ev_dr (a := [some (.ref 18), some (.int (v1)), some (.int (v2)), none, none]) ⟨rfl, ⟨rfl, ⟨rfl, trivial⟩⟩⟩ (tX3_clothWeight_b14 d σ v1 v2 (0 : Int32) _ hf)
set_option maxRecDepth 20000 in
set_option maxHeartbeats 4000000 in
theorem tX3_weigh_b95 (d : Nat) (σ : SX) (q : SX) (hf : fX3_weigh_b95 σ = some q) : ev_X (d + 2) none eiX3_weigh (95, [none, none, none, none, none, none], [], hX σ) (none, hX q) := by
  unfold fX3_weigh_b95 at hf
  cases hf
  exact ev_rt 0 rfl
set_option maxRecDepth 20000 in
set_option maxHeartbeats 4000000 in
theorem tX3_weigh_b88 (d : Nat) (k3 : SX → Int32 → Int32 → Int32 → Int32 → Option (SX)) (hk3 : ∀ (σ : SX) (v1 : Int32) (v2 : Int32) (v3 : Int32) (v4 : Int32) (q : SX), k3 σ v1 v2 v3 v4 = some q → ev_X (d + 2) none eiX3_weigh (3, [some (.ref 18), some (.int (v1)), some (.int (v2)), some (.int (v3)), some (.int (v4)), none], [], hX σ) (none, hX q)) (σ : SX) (v1 : Int32) (v2 : Int32) (v3 : Int32) (v4 : Int32) (w0 : Int32) (w1 : Int32) (q : SX) (hf : fX3_weigh_b88 k3 σ v1 v2 v3 v4 w0 w1 = some q) : ev_X (d + 2) none eiX3_weigh (88, [some (.ref 18), some (.int (v1)), some (.int (v2)), some (.int (v3)), some (.int (v4)), none], [.int (w0), .int (w1), .ref 19], hX σ) (none, hX q) := by
  unfold fX3_weigh_b88 at hf
  obtain ⟨c1, hf⟩ := ev_hp hf
  refine ev_st1 (e := (88, .iastore, 1, 0, 0, .null, [], [])) (c' := (89, [some (.ref 18), some (.int (v1)), some (.int (v2)), some (.int (v3)), some (.int (v4)), none], [], hX (sx_nm_weights σ (upd (gx_nm_weights σ) w1.toNatClampNeg w0)))) rfl (oy_ast_x_nm_weights c1) ?_
  refine ev_go (c' := (3, [some (.ref 18), some (.int (v1)), some (.int (v2)), some (.int (v3)), some (.int ((v4 + (1 : Int32)))), none], [], hX (sx_nm_weights σ (upd (gx_nm_weights σ) w1.toNatClampNeg w0)))) 1 rfl ?_
  exact ev_dr (a := [some (.ref 18), some (.int (v1)), some (.int (v2)), some (.int (v3)), some (.int ((v4 + (1 : Int32)))), none]) ⟨rfl, ⟨rfl, ⟨rfl, ⟨rfl, ⟨rfl, trivial⟩⟩⟩⟩⟩ (hk3 (sx_nm_weights σ (upd (gx_nm_weights σ) w1.toNatClampNeg w0)) v1 v2 v3 (v4 + (1 : Int32)) _ hf)
set_option maxRecDepth 20000 in
set_option maxHeartbeats 4000000 in
theorem tX3_weigh_b80 (d : Nat) (k3 : SX → Int32 → Int32 → Int32 → Int32 → Option (SX)) (hk3 : ∀ (σ : SX) (v1 : Int32) (v2 : Int32) (v3 : Int32) (v4 : Int32) (q : SX), k3 σ v1 v2 v3 v4 = some q → ev_X (d + 2) none eiX3_weigh (3, [some (.ref 18), some (.int (v1)), some (.int (v2)), some (.int (v3)), some (.int (v4)), none], [], hX σ) (none, hX q)) (σ : SX) (v1 : Int32) (v2 : Int32) (v3 : Int32) (v4 : Int32) (w0 : Int32) (w1 : Int32) (w2 : Int32) (q : SX) (hf : fX3_weigh_b80 k3 σ v1 v2 v3 v4 w0 w1 w2 = some q) : ev_X (d + 2) none eiX3_weigh (80, [some (.ref 18), some (.int (v1)), some (.int (v2)), some (.int (v3)), some (.int (v4)), none], [.int (w0), .int (w1), .int (w2), .ref 19], hX σ) (none, hX q) := by
  unfold fX3_weigh_b80 at hf
  obtain ⟨r1, hr1, hf⟩ := Option.bind_eq_some_iff.mp hf
  refine ev_cli 2 (kk := 12) (as := [.int (w0), .int ((gx_nm_giggleRight σ))]) (rest := [.int (w1), .int (w2), .ref 19]) (pc := 84) (ls := [some (.ref 18), some (.int (v1)), some (.int (v2)), some (.int (v3)), some (.int (v4)), none]) (st := [.int ((gx_nm_giggleRight σ)), .int (w0), .int (w1), .int (w2), .ref 19]) (h := hX σ) rfl (tX3_likeWeight (d + 1) (hX σ) w0 (gx_nm_giggleRight σ) r1 hr1) ?_
  refine ev_go (c' := (88, [some (.ref 18), some (.int (v1)), some (.int (v2)), some (.int (v3)), some (.int (v4)), none], [.int ((w1 * r1)), .int (w2), .ref 19], hX σ)) 0 rfl ?_
  exact ev_dr (a := [some (.ref 18), some (.int (v1)), some (.int (v2)), some (.int (v3)), some (.int (v4)), none]) ⟨rfl, ⟨rfl, ⟨rfl, ⟨rfl, ⟨rfl, trivial⟩⟩⟩⟩⟩ (tX3_weigh_b88 d k3 hk3 σ v1 v2 v3 v4 (w1 * r1) w2 _ hf)
set_option maxRecDepth 20000 in
set_option maxHeartbeats 4000000 in
theorem tX3_weigh_b3 (d : Nat) (k3 : SX → Int32 → Int32 → Int32 → Int32 → Option (SX)) (hk3 : ∀ (σ : SX) (v1 : Int32) (v2 : Int32) (v3 : Int32) (v4 : Int32) (q : SX), k3 σ v1 v2 v3 v4 = some q → ev_X (d + 2) none eiX3_weigh (3, [some (.ref 18), some (.int (v1)), some (.int (v2)), some (.int (v3)), some (.int (v4)), none], [], hX σ) (none, hX q)) (σ : SX) (v1 : Int32) (v2 : Int32) (v3 : Int32) (v4 : Int32) (q : SX) (hf : fX3_weigh_b3 k3 σ v1 v2 v3 v4 = some q) : ev_X (d + 2) none eiX3_weigh (3, [some (.ref 18), some (.int (v1)), some (.int (v2)), some (.int (v3)), some (.int (v4)), none], [], hX σ) (none, hX q) := by
  unfold fX3_weigh_b3 at hf
  refine ev_br 4 (P := v4 < (6 : Int32)) (a := 13) (b := 95) (ls := [some (.ref 18), some (.int (v1)), some (.int (v2)), some (.int (v3)), some (.int (v4)), none]) (st := []) (h := hX σ) rfl (fun c1 => ?_) (fun c1 => ?_)
  · rw [if_pos c1] at hf
    refine ev_br 4 (P := v4 < (6 : Int32)) (a := 23) (b := 95) (ls := [some (.ref 18), some (.int (v1)), some (.int (v2)), some (.int (v3)), some (.int (v4)), none]) (st := []) (h := hX σ) rfl (fun c2 => ?_) (fun c2 => ?_)
    · rw [if_pos c2] at hf
      obtain ⟨c3, hf⟩ := ev_hp hf
      refine ev_ck 3 (P := ¬ (v4 < 0 ∨ 6 ≤ v4.toNatClampNeg)) (c' := (30, [some (.ref 18), some (.int (v1)), some (.int (v2)), some (.int (v3)), some (.int (v4)), none], [va_rf (((gx_pl_arr σ) v4.toNatClampNeg))], hX σ)) rfl c3 ?_
      rcases hc4 : ((gx_pl_arr σ) v4.toNatClampNeg) with _ | a2
      · rw [hc4] at hf
        simp only [ev_q] at hf
        change ev_X (d + 2) _ _ (30, [some (.ref 18), some (.int (v1)), some (.int (v2)), some (.int (v3)), some (.int (v4)), none], [.null], hX σ) _
        refine ev_go (c' := (88, [some (.ref 18), some (.int (v1)), some (.int (v2)), some (.int (v3)), some (.int (v4)), some (.null)], [.int ((0 : Int32)), .int (v4), .ref 19], hX σ)) 7 rfl ?_
        exact ev_dr (a := [some (.ref 18), some (.int (v1)), some (.int (v2)), some (.int (v3)), some (.int (v4)), none]) ⟨rfl, ⟨rfl, ⟨rfl, ⟨rfl, ⟨rfl, trivial⟩⟩⟩⟩⟩ (tX3_weigh_b88 d k3 hk3 σ v1 v2 v3 v4 (0 : Int32) v4 _ hf)
      · rw [hc4] at hf
        simp only [ev_q] at hf
        change ev_X (d + 2) _ _ (30, [some (.ref 18), some (.int (v1)), some (.int (v2)), some (.int (v3)), some (.int (v4)), none], [.ref a2], hX σ) _
        obtain ⟨c5, hf⟩ := ev_hp hf
        refine ev_go (c' := (51, [some (.ref 18), some (.int (v1)), some (.int (v2)), some (.int (v3)), some (.int (v4)), some (.ref a2)], [.ref a2, .int (v1), .ref 18, .int (v4), .ref 19], hX σ)) 8 rfl ?_
        refine ev_st1 (e := (51, .getfield 48, 3, 3, 0, .null, [(0, 0), (1, 0), (2, 0), (6, 0), (9, 0), (10, 0)], [676])) (c' := (54, [some (.ref 18), some (.int (v1)), some (.int (v2)), some (.int (v3)), some (.int (v4)), some (.ref a2)], [.int (((gx_pl_size σ) (a2 - 20))), .int (v1), .ref 18, .int (v4), .ref 19], hX σ)) rfl (ox_pget3 c5) ?_
        obtain ⟨r3, hr3, hf⟩ := Option.bind_eq_some_iff.mp hf
        refine ev_cli 1 (kk := 11) (as := [.ref 18, .int ((v1 - ((gx_pl_size σ) (a2 - 20))))]) (rest := [.int (v4), .ref 19]) (pc := 55) (ls := [some (.ref 18), some (.int (v1)), some (.int (v2)), some (.int (v3)), some (.int (v4)), some (.ref a2)]) (st := [.int ((v1 - ((gx_pl_size σ) (a2 - 20)))), .ref 18, .int (v4), .ref 19]) (h := hX σ) rfl (tX3_sizeWeight (d + 1) σ (v1 - ((gx_pl_size σ) (a2 - 20))) r3 hr3) ?_
        obtain ⟨r4, hr4, hf⟩ := Option.bind_eq_some_iff.mp hf
        refine ev_cli 3 (kk := 13) (as := [.ref 18, .int (v4), .int (v2)]) (rest := [.int (r3), .int (v4), .ref 19]) (pc := 62) (ls := [some (.ref 18), some (.int (v1)), some (.int (v2)), some (.int (v3)), some (.int (v4)), some (.ref a2)]) (st := [.int (v2), .int (v4), .ref 18, .int (r3), .int (v4), .ref 19]) (h := hX σ) rfl (tX3_clothWeight d σ v4 v2 r4 hr4) ?_
        obtain ⟨c6, hf⟩ := ev_hp hf
        refine ev_go (c' := (69, [some (.ref 18), some (.int (v1)), some (.int (v2)), some (.int (v3)), some (.int (v4)), some (.ref a2)], [.ref a2, .int (v3), .int ((r3 * r4)), .int (v4), .ref 19], hX σ)) 2 rfl ?_
        refine ev_st1 (e := (69, .getfield 61, 3, 5, 0, .null, [(0, 0), (1, 0), (2, 0), (6, 0), (9, 0), (10, 0)], [682])) (c' := (72, [some (.ref 18), some (.int (v1)), some (.int (v2)), some (.int (v3)), some (.int (v4)), some (.ref a2)], [.int (((gx_pl_giggle σ) (a2 - 20))), .int (v3), .int ((r3 * r4)), .int (v4), .ref 19], hX σ)) rfl (ox_pget5 c6) ?_
        refine ev_br 0 (P := v3 = ((gx_pl_giggle σ) (a2 - 20))) (a := 75) (b := 79) (ls := [some (.ref 18), some (.int (v1)), some (.int (v2)), some (.int (v3)), some (.int (v4)), some (.ref a2)]) (st := [.int ((r3 * r4)), .int (v4), .ref 19]) (h := hX σ) rfl (fun c7 => ?_) (fun c7 => ?_)
        · rw [if_pos c7] at hf
          refine ev_go (c' := (80, [some (.ref 18), some (.int (v1)), some (.int (v2)), some (.int (v3)), some (.int (v4)), some (.ref a2)], [.int ((1 : Int32)), .int ((r3 * r4)), .int (v4), .ref 19], hX σ)) 1 rfl ?_
          exact ev_dr (a := [some (.ref 18), some (.int (v1)), some (.int (v2)), some (.int (v3)), some (.int (v4)), none]) ⟨rfl, ⟨rfl, ⟨rfl, ⟨rfl, ⟨rfl, trivial⟩⟩⟩⟩⟩ (tX3_weigh_b80 d k3 hk3 σ v1 v2 v3 v4 (1 : Int32) (r3 * r4) v4 _ hf)
        · rw [if_neg c7] at hf
          refine ev_go (c' := (80, [some (.ref 18), some (.int (v1)), some (.int (v2)), some (.int (v3)), some (.int (v4)), some (.ref a2)], [.int ((0 : Int32)), .int ((r3 * r4)), .int (v4), .ref 19], hX σ)) 0 rfl ?_
          exact ev_dr (a := [some (.ref 18), some (.int (v1)), some (.int (v2)), some (.int (v3)), some (.int (v4)), none]) ⟨rfl, ⟨rfl, ⟨rfl, ⟨rfl, ⟨rfl, trivial⟩⟩⟩⟩⟩ (tX3_weigh_b80 d k3 hk3 σ v1 v2 v3 v4 (0 : Int32) (r3 * r4) v4 _ hf)
    · rw [if_neg c2] at hf
      exact ev_dr (a := [none, none, none, none, none, none]) trivial (tX3_weigh_b95 d σ  _ hf)
  · rw [if_neg c1] at hf
    exact ev_dr (a := [none, none, none, none, none, none]) trivial (tX3_weigh_b95 d σ  _ hf)
theorem tX3_weigh_l3 (d : Nat) : ∀ (n : Nat) (σ : SX) (v1 : Int32) (v2 : Int32) (v3 : Int32) (v4 : Int32) (q : SX), fX3_weigh_l3 n σ v1 v2 v3 v4 = some q → ev_X (d + 2) none eiX3_weigh (3, [some (.ref 18), some (.int (v1)), some (.int (v2)), some (.int (v3)), some (.int (v4)), none], [], hX σ) (none, hX q)
  | 0, _, _, _, _, _, _, hf => by cases hf
  | n + 1, σ, v1, v2, v3, v4, q, hf => tX3_weigh_b3 d (fX3_weigh_l3 n) (fun σ v1 v2 v3 v4 q h9 => tX3_weigh_l3 d n σ v1 v2 v3 v4 q h9) σ v1 v2 v3 v4 q hf
set_option maxRecDepth 20000 in
set_option maxHeartbeats 4000000 in
theorem tX3_weigh (d : Nat) (σ : SX) (v1 : Int32) (v2 : Int32) (v3 : Int32) (q : SX) (hf : fX3_weigh σ v1 v2 v3 = some q) : ev_M ev_mt (d + 3) 10 [.ref 18, .int (v1), .int (v2), .int (v3)] (hX σ) (none, hX q) := by
  refine ev_en (rt := none) (I := eiX3_weigh) rfl (Nat.le_of_ble_eq_true rfl) ?_
  change ev_X (d + 2) _ _ (0, [some (.ref 18), some (.int (v1)), some (.int (v2)), some (.int (v3)), none, none], [], hX σ) _
  unfold fX3_weigh at hf
  refine ev_go (c' := (3, [some (.ref 18), some (.int (v1)), some (.int (v2)), some (.int (v3)), some (.int ((0 : Int32))), none], [], hX σ)) 1 rfl ?_
  exact ev_dr (a := [some (.ref 18), some (.int (v1)), some (.int (v2)), some (.int (v3)), some (.int ((0 : Int32))), none]) ⟨rfl, ⟨rfl, ⟨rfl, ⟨rfl, ⟨rfl, trivial⟩⟩⟩⟩⟩ (tX3_weigh_l3 d 1000 σ v1 v2 v3 (0 : Int32) _ hf)
set_option maxRecDepth 20000 in
set_option maxHeartbeats 4000000 in
theorem tX3_weightOf_b24 (d : Nat) (σ : SX) (w0 : Int64) (q : Int64) (hf : fX3_weightOf_b24 σ w0 = some q) : ev_X d (some .long) eiX3_weightOf (24, [none, none], [.long (w0)], hX σ) (some (.long q), hX σ) := by
  unfold fX3_weightOf_b24 at hf
  cases hf
  exact ev_rt 0 rfl
set_option maxRecDepth 20000 in
set_option maxHeartbeats 4000000 in
theorem tX3_weightOf_b23 (d : Nat) (σ : SX) (q : Int64) (hf : fX3_weightOf_b23 σ = some q) : ev_X d (some .long) eiX3_weightOf (23, [none, none], [], hX σ) (some (.long q), hX σ) := by
  unfold fX3_weightOf_b23 at hf
  refine ev_go (c' := (24, [none, none], [.long ((0 : Int64))], hX σ)) 0 rfl ?_
  exact ev_dr (a := [none, none]) trivial (tX3_weightOf_b24 d σ (0 : Int64) _ hf)
set_option maxRecDepth 20000 in
set_option maxHeartbeats 4000000 in
theorem tX3_weightOf (d : Nat) (σ : SX) (v1 : Int32) (q : Int64) (hf : fX3_weightOf σ v1 = some q) : ev_M ev_mt (d + 1) 15 [.ref 18, .int (v1)] (hX σ) (some (.long q), hX σ) := by
  refine ev_en (rt := (some .long)) (I := eiX3_weightOf) rfl (Nat.le_of_ble_eq_true rfl) ?_
  change ev_X d _ _ (0, [some (.ref 18), some (.int (v1))], [], hX σ) _
  unfold fX3_weightOf at hf
  refine ev_br 1 (P := v1 < 0) (a := 23) (b := 4) (ls := [some (.ref 18), some (.int (v1))]) (st := []) (h := hX σ) rfl (fun c1 => ?_) (fun c1 => ?_)
  · rw [if_pos c1] at hf
    exact ev_dr (a := [none, none]) trivial (tX3_weightOf_b23 d σ  _ hf)
  · rw [if_neg c1] at hf
    refine ev_br 4 (P := v1 < (6 : Int32)) (a := 13) (b := 23) (ls := [some (.ref 18), some (.int (v1))]) (st := []) (h := hX σ) rfl (fun c2 => ?_) (fun c2 => ?_)
    · rw [if_pos c2] at hf
      obtain ⟨c3, hf⟩ := ev_hp hf
      refine ev_ck 3 (P := ¬ (v1 < 0 ∨ 6 ≤ v1.toNatClampNeg)) (c' := (19, [some (.ref 18), some (.int (v1))], [.int (((gx_nm_weights σ) v1.toNatClampNeg))], hX σ)) rfl c3 ?_
      refine ev_go (c' := (24, [some (.ref 18), some (.int (v1))], [.long (((gx_nm_weights σ) v1.toNatClampNeg).toInt64)], hX σ)) 1 rfl ?_
      exact ev_dr (a := [none, none]) trivial (tX3_weightOf_b24 d σ (((gx_nm_weights σ) v1.toNatClampNeg).toInt64) _ hf)
    · rw [if_neg c2] at hf
      exact ev_dr (a := [none, none]) trivial (tX3_weightOf_b23 d σ  _ hf)
set_option maxRecDepth 20000 in
set_option maxHeartbeats 4000000 in
theorem tX3_total_b14 (d : Nat) (σ : SX) (k14 : Int64 → Int32 → Option (Int64)) (hk14 : ∀ (v1 : Int64) (v5 : Int32) (q : Int64), k14 v1 v5 = some q → ev_X d (some .long) eiX3_total (14, [none, some (.long (v1)), none, some (.ref 19), some (.int ((6 : Int32))), some (.int (v5)), none], [], hX σ) (some (.long q), hX σ)) (v1 : Int64) (v5 : Int32) (q : Int64) (hf : fX3_total_b14 σ k14 v1 v5 = some q) : ev_X d (some .long) eiX3_total (14, [none, some (.long (v1)), none, some (.ref 19), some (.int ((6 : Int32))), some (.int (v5)), none], [], hX σ) (some (.long q), hX σ) := by
  unfold fX3_total_b14 at hf
  refine ev_br 2 (P := v5 < (6 : Int32)) (a := 21) (b := 39) (ls := [none, some (.long (v1)), none, some (.ref 19), some (.int ((6 : Int32))), some (.int (v5)), none]) (st := []) (h := hX σ) rfl (fun c1 => ?_) (fun c1 => ?_)
  · rw [if_pos c1] at hf
    obtain ⟨c2, hf⟩ := ev_hp hf
    refine ev_ck 2 (P := ¬ (v5 < 0 ∨ 6 ≤ v5.toNatClampNeg)) (c' := (25, [none, some (.long (v1)), none, some (.ref 19), some (.int ((6 : Int32))), some (.int (v5)), none], [.int (((gx_nm_weights σ) v5.toNatClampNeg))], hX σ)) rfl c2 ?_
    refine ev_go (c' := (14, [none, some (.long ((v1 + ((gx_nm_weights σ) v5.toNatClampNeg).toInt64))), none, some (.ref 19), some (.int ((6 : Int32))), some (.int ((v5 + (1 : Int32)))), some (.int (((gx_nm_weights σ) v5.toNatClampNeg)))], [], hX σ)) 7 rfl ?_
    exact ev_dr (a := [none, some (.long ((v1 + ((gx_nm_weights σ) v5.toNatClampNeg).toInt64))), none, some (.ref 19), some (.int ((6 : Int32))), some (.int ((v5 + (1 : Int32)))), none]) ⟨rfl, ⟨rfl, ⟨rfl, ⟨rfl, trivial⟩⟩⟩⟩ (hk14 (v1 + ((gx_nm_weights σ) v5.toNatClampNeg).toInt64) (v5 + (1 : Int32)) _ hf)
  · rw [if_neg c1] at hf
    cases hf
    exact ev_rt 1 rfl
theorem tX3_total_l14 (d : Nat) (σ : SX) : ∀ (n : Nat) (v1 : Int64) (v5 : Int32) (q : Int64), fX3_total_l14 σ n v1 v5 = some q → ev_X d (some .long) eiX3_total (14, [none, some (.long (v1)), none, some (.ref 19), some (.int ((6 : Int32))), some (.int (v5)), none], [], hX σ) (some (.long q), hX σ)
  | 0, _, _, _, hf => by cases hf
  | n + 1, v1, v5, q, hf => tX3_total_b14 d σ (fX3_total_l14 σ n) (fun v1 v5 q h9 => tX3_total_l14 d σ n v1 v5 q h9) v1 v5 q hf
set_option maxRecDepth 20000 in
set_option maxHeartbeats 4000000 in
theorem tX3_total (d : Nat) (σ : SX) (q : Int64) (hf : fX3_total σ = some q) : ev_M ev_mt (d + 1) 16 [.ref 18] (hX σ) (some (.long q), hX σ) := by
  refine ev_en (rt := (some .long)) (I := eiX3_total) rfl (Nat.le_of_ble_eq_true rfl) ?_
  change ev_X d _ _ (0, [some (.ref 18), none, none, none, none, none, none], [], hX σ) _
  unfold fX3_total at hf
  refine ev_go (c' := (14, [some (.ref 18), some (.long ((0 : Int64))), none, some (.ref 19), some (.int ((6 : Int32))), some (.int ((0 : Int32))), none], [], hX σ)) 9 rfl ?_
  exact ev_dr (a := [none, some (.long ((0 : Int64))), none, some (.ref 19), some (.int ((6 : Int32))), some (.int ((0 : Int32))), none]) ⟨rfl, ⟨rfl, ⟨rfl, ⟨rfl, trivial⟩⟩⟩⟩ (tX3_total_l14 d σ 1000 (0 : Int64) (0 : Int32) _ hf)
set_option maxRecDepth 20000 in
set_option maxHeartbeats 4000000 in
theorem tX3_likeliestPlayer_b29 (d : Nat) (σ : SX) (k4 : Int32 → Int32 → Option (Int32)) (hk4 : ∀ (v1 : Int32) (v2 : Int32) (q : Int32), k4 v1 v2 = some q → ev_X (d + 1) (some .int) eiX3_likeliestPlayer (4, [some (.ref 18), some (.int (v1)), some (.int (v2))], [], hX σ) (some (.int q), hX σ)) (v1 : Int32) (v2 : Int32) (q : Int32) (hf : fX3_likeliestPlayer_b29 σ k4 v1 v2 = some q) : ev_X (d + 1) (some .int) eiX3_likeliestPlayer (29, [some (.ref 18), some (.int (v1)), some (.int (v2))], [], hX σ) (some (.int q), hX σ) := by
  unfold fX3_likeliestPlayer_b29 at hf
  refine ev_go (c' := (4, [some (.ref 18), some (.int (v1)), some (.int ((v2 + (1 : Int32))))], [], hX σ)) 1 rfl ?_
  exact ev_dr (a := [some (.ref 18), some (.int (v1)), some (.int ((v2 + (1 : Int32))))]) ⟨rfl, ⟨rfl, ⟨rfl, trivial⟩⟩⟩ (hk4 v1 (v2 + (1 : Int32)) _ hf)
set_option maxRecDepth 20000 in
set_option maxHeartbeats 4000000 in
theorem tX3_likeliestPlayer_b4 (d : Nat) (σ : SX) (k4 : Int32 → Int32 → Option (Int32)) (hk4 : ∀ (v1 : Int32) (v2 : Int32) (q : Int32), k4 v1 v2 = some q → ev_X (d + 1) (some .int) eiX3_likeliestPlayer (4, [some (.ref 18), some (.int (v1)), some (.int (v2))], [], hX σ) (some (.int q), hX σ)) (v1 : Int32) (v2 : Int32) (q : Int32) (hf : fX3_likeliestPlayer_b4 σ k4 v1 v2 = some q) : ev_X (d + 1) (some .int) eiX3_likeliestPlayer (4, [some (.ref 18), some (.int (v1)), some (.int (v2))], [], hX σ) (some (.int q), hX σ) := by
  unfold fX3_likeliestPlayer_b4 at hf
  refine ev_br 4 (P := v2 < (6 : Int32)) (a := 13) (b := 35) (ls := [some (.ref 18), some (.int (v1)), some (.int (v2))]) (st := []) (h := hX σ) rfl (fun c1 => ?_) (fun c1 => ?_)
  · rw [if_pos c1] at hf
    obtain ⟨r1, hr1, hf⟩ := Option.bind_eq_some_iff.mp hf
    refine ev_cll 2 (kk := 15) (as := [.ref 18, .int (v2)]) (rest := []) (pc := 15) (ls := [some (.ref 18), some (.int (v1)), some (.int (v2))]) (st := [.int (v2), .ref 18]) (h := hX σ) rfl (tX3_weightOf d σ v2 r1 hr1) ?_
    obtain ⟨r2, hr2, hf⟩ := Option.bind_eq_some_iff.mp hf
    refine ev_cll 2 (kk := 15) (as := [.ref 18, .int (v1)]) (rest := [.long (r1)]) (pc := 20) (ls := [some (.ref 18), some (.int (v1)), some (.int (v2))]) (st := [.int (v1), .ref 18, .long (r1)]) (h := hX σ) rfl (tX3_weightOf d σ v1 r2 hr2) ?_
    refine ev_bi 1 (lg_cmp_gt r1 r2) (a := 27) (b := 29) (ls := [some (.ref 18), some (.int (v1)), some (.int (v2))]) (st := []) (h := hX σ) rfl (fun c2 => ?_) (fun c2 => ?_)
    · rw [if_pos c2] at hf
      refine ev_go (c' := (29, [some (.ref 18), some (.int (v2)), some (.int (v2))], [], hX σ)) 1 rfl ?_
      exact ev_dr (a := [some (.ref 18), some (.int (v2)), some (.int (v2))]) ⟨rfl, ⟨rfl, ⟨rfl, trivial⟩⟩⟩ (tX3_likeliestPlayer_b29 d σ k4 hk4 v2 v2 _ hf)
    · rw [if_neg c2] at hf
      exact ev_dr (a := [some (.ref 18), some (.int (v1)), some (.int (v2))]) ⟨rfl, ⟨rfl, ⟨rfl, trivial⟩⟩⟩ (tX3_likeliestPlayer_b29 d σ k4 hk4 v1 v2 _ hf)
  · rw [if_neg c1] at hf
    cases hf
    exact ev_rt 1 rfl
theorem tX3_likeliestPlayer_l4 (d : Nat) (σ : SX) : ∀ (n : Nat) (v1 : Int32) (v2 : Int32) (q : Int32), fX3_likeliestPlayer_l4 σ n v1 v2 = some q → ev_X (d + 1) (some .int) eiX3_likeliestPlayer (4, [some (.ref 18), some (.int (v1)), some (.int (v2))], [], hX σ) (some (.int q), hX σ)
  | 0, _, _, _, hf => by cases hf
  | n + 1, v1, v2, q, hf => tX3_likeliestPlayer_b4 d σ (fX3_likeliestPlayer_l4 σ n) (fun v1 v2 q h9 => tX3_likeliestPlayer_l4 d σ n v1 v2 q h9) v1 v2 q hf
set_option maxRecDepth 20000 in
set_option maxHeartbeats 4000000 in
theorem tX3_likeliestPlayer (d : Nat) (σ : SX) (q : Int32) (hf : fX3_likeliestPlayer σ = some q) : ev_M ev_mt (d + 2) 17 [.ref 18] (hX σ) (some (.int q), hX σ) := by
  refine ev_en (rt := (some .int)) (I := eiX3_likeliestPlayer) rfl (Nat.le_of_ble_eq_true rfl) ?_
  change ev_X (d + 1) _ _ (0, [some (.ref 18), none, none], [], hX σ) _
  unfold fX3_likeliestPlayer at hf
  refine ev_go (c' := (4, [some (.ref 18), some (.int ((-1 : Int32))), some (.int ((0 : Int32)))], [], hX σ)) 3 rfl ?_
  exact ev_dr (a := [some (.ref 18), some (.int ((-1 : Int32))), some (.int ((0 : Int32)))]) ⟨rfl, ⟨rfl, ⟨rfl, trivial⟩⟩⟩ (tX3_likeliestPlayer_l4 d σ 1000 (-1 : Int32) (0 : Int32) _ hf)
set_option maxRecDepth 20000 in
set_option maxHeartbeats 4000000 in
theorem tX11_mixed (d : Nat) (h : ev_H) (v0 : Int64) (v2 : Int64) (q : Int64) (hf : fX11_mixed v0 v2 = some q) : ev_M ev_mt (d + 1) 116 [.long (v0), .long (v2)] (h) (some (.long q), h) := by
  refine ev_en (rt := (some .long)) (I := eiX11_mixed) rfl (Nat.le_of_ble_eq_true rfl) ?_
  change ev_X d _ _ (0, [some (.long (v0)), none, some (.long (v2)), none], [], h) _
  unfold fX11_mixed at hf
  cases hf
  exact ev_rt 5 rfl
set_option maxRecDepth 20000 in
set_option maxHeartbeats 4000000 in
theorem tX3_mixInto (d : Nat) (σ : SX) (v1 : Int64) (q : Int64) (hf : fX3_mixInto σ v1 = some q) : ev_M ev_mt (d + 2) 18 [.ref 18, .long (v1)] (hX σ) (some (.long q), hX σ) := by
  refine ev_en (rt := (some .long)) (I := eiX3_mixInto) rfl (Nat.le_of_ble_eq_true rfl) ?_
  change ev_X (d + 1) _ _ (0, [some (.ref 18), some (.long (v1)), none, none, none], [], hX σ) _
  unfold fX3_mixInto at hf
  obtain ⟨r1, hr1, hf⟩ := Option.bind_eq_some_iff.mp hf
  refine ev_cll 4 (kk := 116) (as := [.long (v1), .long ((gx_nm_sizeOff σ).toInt64)]) (rest := []) (pc := 6) (ls := [some (.ref 18), some (.long (v1)), none, none, none]) (st := [.long ((gx_nm_sizeOff σ).toInt64), .long (v1)]) (h := hX σ) rfl (tX11_mixed d (hX σ) v1 ((gx_nm_sizeOff σ).toInt64) r1 hr1) ?_
  obtain ⟨r2, hr2, hf⟩ := Option.bind_eq_some_iff.mp hf
  refine ev_cll 3 (kk := 116) (as := [.long (r1), .long ((gx_nm_clothRight σ).toInt64)]) (rest := []) (pc := 14) (ls := [some (.ref 18), some (.long (v1)), none, none, none]) (st := [.long ((gx_nm_clothRight σ).toInt64), .long (r1)]) (h := hX σ) rfl (tX11_mixed d (hX σ) r1 ((gx_nm_clothRight σ).toInt64) r2 hr2) ?_
  obtain ⟨r3, hr3, hf⟩ := Option.bind_eq_some_iff.mp hf
  refine ev_cll 3 (kk := 116) (as := [.long (r2), .long ((gx_nm_giggleRight σ).toInt64)]) (rest := []) (pc := 22) (ls := [some (.ref 18), some (.long (v1)), none, none, none]) (st := [.long ((gx_nm_giggleRight σ).toInt64), .long (r2)]) (h := hX σ) rfl (tX11_mixed d (hX σ) r2 ((gx_nm_giggleRight σ).toInt64) r3 hr3) ?_
  obtain ⟨r4, hr4, hf⟩ := Option.bind_eq_some_iff.mp hf
  refine ev_cll 5 (kk := 116) (as := [.long (r3), .long ((gx_nm_first σ).toInt64)]) (rest := []) (pc := 32) (ls := [some (.ref 18), some (.long (v1)), none, some (.long (r3)), none]) (st := [.long ((gx_nm_first σ).toInt64), .long (r3)]) (h := hX σ) rfl (tX11_mixed d (hX σ) r3 ((gx_nm_first σ).toInt64) r4 hr4) ?_
  obtain ⟨r5, hr5, hf⟩ := Option.bind_eq_some_iff.mp hf
  refine ev_cll 3 (kk := 116) (as := [.long (r4), .long ((gx_nm_second σ).toInt64)]) (rest := []) (pc := 40) (ls := [some (.ref 18), some (.long (v1)), none, some (.long (r3)), none]) (st := [.long ((gx_nm_second σ).toInt64), .long (r4)]) (h := hX σ) rfl (tX11_mixed d (hX σ) r4 ((gx_nm_second σ).toInt64) r5 hr5) ?_
  obtain ⟨r6, hr6, hf⟩ := Option.bind_eq_some_iff.mp hf
  refine ev_cll 3 (kk := 116) (as := [.long (r5), .long ((gx_nm_changed σ).toInt64)]) (rest := []) (pc := 48) (ls := [some (.ref 18), some (.long (v1)), none, some (.long (r3)), none]) (st := [.long ((gx_nm_changed σ).toInt64), .long (r5)]) (h := hX σ) rfl (tX11_mixed d (hX σ) r5 ((gx_nm_changed σ).toInt64) r6 hr6) ?_
  cases hf
  exact ev_rt 0 rfl
set_option maxRecDepth 20000 in
set_option maxHeartbeats 4000000 in
theorem tJ7_fill_w_b6 (d : Nat) (k6 : SX → Int64 → Int32 → Option (SX)) (hk6 : ∀ (σ : SX) (v1 : Int64) (v3 : Int32) (q : SX), k6 σ v1 v3 = some q → ev_X d none eiJ7_fill_d0a16 (6, [some (.ref 9), some (.long (v1)), none, some (.int (v3)), some (.int ((144 : Int32)))], [], hX σ) (none, hX q)) (σ : SX) (v1 : Int64) (v3 : Int32) (q : SX) (hf : fJ7_fill_w_b6 k6 σ v1 v3 = some q) : ev_X d none eiJ7_fill_d0a16 (6, [some (.ref 9), some (.long (v1)), none, some (.int (v3)), some (.int ((144 : Int32)))], [], hX σ) (none, hX q) := by
  unfold fJ7_fill_w_b6 at hf
  refine ev_br 2 (P := v3 < (144 : Int32)) (a := 12) (b := 22) (ls := [some (.ref 9), some (.long (v1)), none, some (.int (v3)), some (.int ((144 : Int32)))]) (st := []) (h := hX σ) rfl (fun c1 => ?_) (fun c1 => ?_)
  · rw [if_pos c1] at hf
    obtain ⟨c2, hf⟩ := ev_hp hf
    refine ev_go (c' := (15, [some (.ref 9), some (.long (v1)), none, some (.int (v3)), some (.int ((144 : Int32)))], [.long (v1), .int (v3), .ref 9], hX σ)) 2 rfl ?_
    refine ev_st1 (e := (15, .lastore, 1, 0, 0, .null, [], [])) (c' := (16, [some (.ref 9), some (.long (v1)), none, some (.int (v3)), some (.int ((144 : Int32)))], [], hX (sx_od_weights σ (vp_updL (gx_od_weights σ) v3.toNatClampNeg v1)))) rfl (oy_ast_x_od_weights c2) ?_
    refine ev_go (c' := (6, [some (.ref 9), some (.long (v1)), none, some (.int ((v3 + (1 : Int32)))), some (.int ((144 : Int32)))], [], hX (sx_od_weights σ (vp_updL (gx_od_weights σ) v3.toNatClampNeg v1)))) 1 rfl ?_
    exact ev_dr (a := [some (.ref 9), some (.long (v1)), none, some (.int ((v3 + (1 : Int32)))), some (.int ((144 : Int32)))]) ⟨rfl, ⟨rfl, ⟨rfl, ⟨rfl, trivial⟩⟩⟩⟩ (hk6 (sx_od_weights σ (vp_updL (gx_od_weights σ) v3.toNatClampNeg v1)) v1 (v3 + (1 : Int32)) _ hf)
  · rw [if_neg c1] at hf
    cases hf
    exact ev_rt 0 rfl
theorem tJ7_fill_w_l6 (d : Nat) : ∀ (n : Nat) (σ : SX) (v1 : Int64) (v3 : Int32) (q : SX), fJ7_fill_w_l6 n σ v1 v3 = some q → ev_X d none eiJ7_fill_d0a16 (6, [some (.ref 9), some (.long (v1)), none, some (.int (v3)), some (.int ((144 : Int32)))], [], hX σ) (none, hX q)
  | 0, _, _, _, _, hf => by cases hf
  | n + 1, σ, v1, v3, q, hf => tJ7_fill_w_b6 d (fJ7_fill_w_l6 n) (fun σ v1 v3 q h9 => tJ7_fill_w_l6 d n σ v1 v3 q h9) σ v1 v3 q hf
set_option maxRecDepth 20000 in
set_option maxHeartbeats 4000000 in
theorem tJ7_fill_w (d : Nat) (σ : SX) (v1 : Int64) (q : SX) (hf : fJ7_fill_w σ v1 = some q) : ev_M ev_mt (d + 1) 204 [.ref 9, .long (v1)] (hX σ) (none, hX q) := by
  refine ev_en (rt := none) (I := eiJ7_fill_d0a16) rfl (Nat.le_of_ble_eq_true rfl) ?_
  change ev_X d _ _ (0, [some (.ref 9), some (.long (v1)), none, none, none], [], hX σ) _
  unfold fJ7_fill_w at hf
  refine ev_go (c' := (6, [some (.ref 9), some (.long (v1)), none, some (.int ((0 : Int32))), some (.int ((144 : Int32)))], [], hX σ)) 4 rfl ?_
  exact ev_dr (a := [some (.ref 9), some (.long (v1)), none, some (.int ((0 : Int32))), some (.int ((144 : Int32)))]) ⟨rfl, ⟨rfl, ⟨rfl, ⟨rfl, trivial⟩⟩⟩⟩ (tJ7_fill_w_l6 d 1000 σ v1 (0 : Int32) _ hf)
set_option maxRecDepth 20000 in
set_option maxHeartbeats 4000000 in
theorem tX4_putHim_b34 (d : Nat) (σ : SX) (q : SX) (hf : fX4_putHim_b34 σ = some q) : ev_X (d + 1) none eiX4_putHim (34, [some (.ref 8), none, none, none], [], hX σ) (none, hX q) := by
  unfold fX4_putHim_b34 at hf
  refine ev_go (c' := (36, [some (.ref 8), none, none, none], [.int ((0 : Int32)), .ref 8], hX σ)) 1 rfl ?_
  refine ev_st1 (e := (36, .putfield 33, 3, 4, 0, .null, [(4, 0)], [153])) (c' := (39, [some (.ref 8), none, none, none], [], hX (sx_od_updates σ (0 : Int32)))) rfl oy_put_x_od_updates ?_
  cases hf
  exact ev_rt 0 rfl
set_option maxRecDepth 20000 in
set_option maxHeartbeats 4000000 in
theorem tX4_putHim (d : Nat) (σ : SX) (v1 : Int32) (v2 : Int32) (q : SX) (hf : fX4_putHim σ v1 v2 = some q) : ev_M ev_mt (d + 2) 19 [.ref 8, .int (v1), .int (v2)] (hX σ) (none, hX q) := by
  refine ev_en (rt := none) (I := eiX4_putHim) rfl (Nat.le_of_ble_eq_true rfl) ?_
  change ev_X (d + 1) _ _ (0, [some (.ref 8), some (.int (v1)), some (.int (v2)), none], [], hX σ) _
  unfold fX4_putHim at hf
  obtain ⟨r1, hr1, hf⟩ := Option.bind_eq_some_iff.mp hf
  refine ev_clv 3 (kk := 204) (as := [.ref 9, .long ((0 : Int64))]) (rest := []) (pc := 5) (ls := [some (.ref 8), some (.int (v1)), some (.int (v2)), none]) (st := [.long ((0 : Int64)), .ref 9]) (h := hX σ) rfl (tJ7_fill_w d σ (0 : Int64) r1 hr1) ?_
  refine ev_br 7 (P := ((v1 * (4 : Int32)) + v2) < 0) (a := 34) (b := 18) (ls := [some (.ref 8), some (.int (v1)), some (.int (v2)), some (.int (((v1 * (4 : Int32)) + v2)))]) (st := []) (h := hX r1) rfl (fun c1 => ?_) (fun c1 => ?_)
  · rw [if_pos c1] at hf
    exact ev_dr (a := [some (.ref 8), none, none, none]) ⟨rfl, trivial⟩ (tX4_putHim_b34 d r1  _ hf)
  · rw [if_neg c1] at hf
    refine ev_br 4 (P := ((v1 * (4 : Int32)) + v2) < (144 : Int32)) (a := 27) (b := 34) (ls := [some (.ref 8), some (.int (v1)), some (.int (v2)), some (.int (((v1 * (4 : Int32)) + v2)))]) (st := []) (h := hX r1) rfl (fun c2 => ?_) (fun c2 => ?_)
    · rw [if_pos c2] at hf
      obtain ⟨c3, hf⟩ := ev_hp hf
      refine ev_go (c' := (33, [some (.ref 8), some (.int (v1)), some (.int (v2)), some (.int (((v1 * (4 : Int32)) + v2)))], [.long ((1 : Int64)), .int (((v1 * (4 : Int32)) + v2)), .ref 9], hX r1)) 3 rfl ?_
      refine ev_st1 (e := (33, .lastore, 1, 0, 0, .null, [], [])) (c' := (34, [some (.ref 8), some (.int (v1)), some (.int (v2)), some (.int (((v1 * (4 : Int32)) + v2)))], [], hX (sx_od_weights r1 (vp_updL (gx_od_weights r1) ((v1 * (4 : Int32)) + v2).toNatClampNeg (1 : Int64))))) rfl (oy_ast_x_od_weights c3) ?_
      exact ev_dr (a := [some (.ref 8), none, none, none]) ⟨rfl, trivial⟩ (tX4_putHim_b34 d (sx_od_weights r1 (vp_updL (gx_od_weights r1) ((v1 * (4 : Int32)) + v2).toNatClampNeg (1 : Int64)))  _ hf)
    · rw [if_neg c2] at hf
      exact ev_dr (a := [some (.ref 8), none, none, none]) ⟨rfl, trivial⟩ (tX4_putHim_b34 d r1  _ hf)
set_option maxRecDepth 20000 in
set_option maxHeartbeats 4000000 in
theorem tX4_loseHim_b34 (d : Nat) (k2 : SX → Int32 → Option (SX)) (hk2 : ∀ (σ : SX) (v1 : Int32) (q : SX), k2 σ v1 = some q → ev_X (d + 1) none eiX4_loseHim (2, [some (.ref 8), some (.int (v1))], [], hX σ) (none, hX q)) (σ : SX) (v1 : Int32) (w0 : Int64) (w1 : Int32) (q : SX) (hf : fX4_loseHim_b34 k2 σ v1 w0 w1 = some q) : ev_X (d + 1) none eiX4_loseHim (34, [some (.ref 8), some (.int (v1))], [.long (w0), .int (w1), .ref 9], hX σ) (none, hX q) := by
  unfold fX4_loseHim_b34 at hf
  obtain ⟨c1, hf⟩ := ev_hp hf
  refine ev_st1 (e := (34, .lastore, 1, 0, 0, .null, [], [])) (c' := (35, [some (.ref 8), some (.int (v1))], [], hX (sx_od_weights σ (vp_updL (gx_od_weights σ) w1.toNatClampNeg w0)))) rfl (oy_ast_x_od_weights c1) ?_
  refine ev_go (c' := (2, [some (.ref 8), some (.int ((v1 + (1 : Int32))))], [], hX (sx_od_weights σ (vp_updL (gx_od_weights σ) w1.toNatClampNeg w0)))) 1 rfl ?_
  exact ev_dr (a := [some (.ref 8), some (.int ((v1 + (1 : Int32))))]) ⟨rfl, ⟨rfl, trivial⟩⟩ (hk2 (sx_od_weights σ (vp_updL (gx_od_weights σ) w1.toNatClampNeg w0)) (v1 + (1 : Int32)) _ hf)
set_option maxRecDepth 20000 in
set_option maxHeartbeats 4000000 in
theorem tX4_loseHim_b2 (d : Nat) (k2 : SX → Int32 → Option (SX)) (hk2 : ∀ (σ : SX) (v1 : Int32) (q : SX), k2 σ v1 = some q → ev_X (d + 1) none eiX4_loseHim (2, [some (.ref 8), some (.int (v1))], [], hX σ) (none, hX q)) (σ : SX) (v1 : Int32) (q : SX) (hf : fX4_loseHim_b2 k2 σ v1 = some q) : ev_X (d + 1) none eiX4_loseHim (2, [some (.ref 8), some (.int (v1))], [], hX σ) (none, hX q) := by
  unfold fX4_loseHim_b2 at hf
  refine ev_br 4 (P := v1 < (144 : Int32)) (a := 11) (b := 41) (ls := [some (.ref 8), some (.int (v1))]) (st := []) (h := hX σ) rfl (fun c1 => ?_) (fun c1 => ?_)
  · rw [if_pos c1] at hf
    obtain ⟨r1, hr1, hf⟩ := Option.bind_eq_some_iff.mp hf
    refine ev_cli 8 (kk := 59) (as := [.ref 3, .int ((v1 / (4 : Int32)))]) (rest := [.int (v1), .ref 9]) (pc := 23) (ls := [some (.ref 8), some (.int (v1))]) (st := [.int ((v1 / (4 : Int32))), .ref 3, .int (v1), .ref 9]) (h := hX σ) rfl (tX7_isFree d σ (v1 / (4 : Int32)) r1 hr1) ?_
    refine ev_br 0 (P := r1 = 0) (a := 33) (b := 29) (ls := [some (.ref 8), some (.int (v1))]) (st := [.int (v1), .ref 9]) (h := hX σ) rfl (fun c2 => ?_) (fun c2 => ?_)
    · rw [if_pos c2] at hf
      refine ev_go (c' := (34, [some (.ref 8), some (.int (v1))], [.long ((0 : Int64)), .int (v1), .ref 9], hX σ)) 0 rfl ?_
      exact ev_dr (a := [some (.ref 8), some (.int (v1))]) ⟨rfl, ⟨rfl, trivial⟩⟩ (tX4_loseHim_b34 d k2 hk2 σ v1 (0 : Int64) v1 _ hf)
    · rw [if_neg c2] at hf
      refine ev_go (c' := (34, [some (.ref 8), some (.int (v1))], [.long ((1 : Int64)), .int (v1), .ref 9], hX σ)) 1 rfl ?_
      exact ev_dr (a := [some (.ref 8), some (.int (v1))]) ⟨rfl, ⟨rfl, trivial⟩⟩ (tX4_loseHim_b34 d k2 hk2 σ v1 (1 : Int64) v1 _ hf)
  · rw [if_neg c1] at hf
    refine ev_go (c' := (43, [some (.ref 8), some (.int (v1))], [.int ((0 : Int32)), .ref 8], hX σ)) 1 rfl ?_
    refine ev_st1 (e := (43, .putfield 33, 3, 4, 0, .null, [(4, 0)], [153])) (c' := (46, [some (.ref 8), some (.int (v1))], [], hX (sx_od_updates σ (0 : Int32)))) rfl oy_put_x_od_updates ?_
    cases hf
    exact ev_rt 0 rfl
theorem tX4_loseHim_l2 (d : Nat) : ∀ (n : Nat) (σ : SX) (v1 : Int32) (q : SX), fX4_loseHim_l2 n σ v1 = some q → ev_X (d + 1) none eiX4_loseHim (2, [some (.ref 8), some (.int (v1))], [], hX σ) (none, hX q)
  | 0, _, _, _, hf => by cases hf
  | n + 1, σ, v1, q, hf => tX4_loseHim_b2 d (fX4_loseHim_l2 n) (fun σ v1 q h9 => tX4_loseHim_l2 d n σ v1 q h9) σ v1 q hf
set_option maxRecDepth 20000 in
set_option maxHeartbeats 4000000 in
theorem tX4_loseHim (d : Nat) (σ : SX) (q : SX) (hf : fX4_loseHim σ = some q) : ev_M ev_mt (d + 2) 20 [.ref 8] (hX σ) (none, hX q) := by
  refine ev_en (rt := none) (I := eiX4_loseHim) rfl (Nat.le_of_ble_eq_true rfl) ?_
  change ev_X (d + 1) _ _ (0, [some (.ref 8), none], [], hX σ) _
  unfold fX4_loseHim at hf
  refine ev_go (c' := (2, [some (.ref 8), some (.int ((0 : Int32)))], [], hX σ)) 1 rfl ?_
  exact ev_dr (a := [some (.ref 8), some (.int ((0 : Int32)))]) ⟨rfl, ⟨rfl, trivial⟩⟩ (tX4_loseHim_l2 d 1000 σ (0 : Int32) _ hf)
set_option maxRecDepth 20000 in
set_option maxHeartbeats 4000000 in
theorem tX4_keep (d : Nat) (σ : SX) (q : SX) (hf : fX4_keep σ = some q) : ev_M ev_mt (d + 1) 21 [.ref 8] (hX σ) (none, hX q) := by
  refine ev_en (rt := none) (I := eiX4_keep) rfl (Nat.le_of_ble_eq_true rfl) ?_
  change ev_X d _ _ (0, [some (.ref 8)], [], hX σ) _
  unfold fX4_keep at hf
  refine ev_go (c' := (13, [some (.ref 8)], [.int ((144 : Int32)), .int ((0 : Int32)), .ref 10, .int ((0 : Int32)), .ref 9], hX σ)) 6 rfl ?_
  refine ev_st1 (e := (13, .invokestatic 43, 3, 104, 0, .null, [], [986, 987, 77, 988])) (c' := (16, [some (.ref 8)], [], hX (sx_od_kept σ (va_cpy (gx_od_weights σ) (gx_od_kept σ) 0 0 144)))) rfl oy_cpy_x_od_weights_od_kept ?_
  refine ev_go (c' := (21, [some (.ref 8)], [.int ((gx_od_updates σ)), .ref 8], hX (sx_od_kept σ (va_cpy (gx_od_weights σ) (gx_od_kept σ) 0 0 144)))) 2 rfl ?_
  refine ev_st1 (e := (21, .putfield 49, 3, 5, 0, .null, [(4, 0)], [155])) (c' := (24, [some (.ref 8)], [], hX (sx_od_keptUpdates (sx_od_kept σ (va_cpy (gx_od_weights σ) (gx_od_kept σ) 0 0 144)) (gx_od_updates σ)))) rfl oy_put_x_od_keptUpdates ?_
  cases hf
  exact ev_rt 0 rfl
set_option maxRecDepth 20000 in
set_option maxHeartbeats 4000000 in
theorem tX4_takeKept (d : Nat) (σ : SX) (q : SX) (hf : fX4_takeKept σ = some q) : ev_M ev_mt (d + 1) 22 [.ref 8] (hX σ) (none, hX q) := by
  refine ev_en (rt := none) (I := eiX4_takeKept) rfl (Nat.le_of_ble_eq_true rfl) ?_
  change ev_X d _ _ (0, [some (.ref 8)], [], hX σ) _
  unfold fX4_takeKept at hf
  refine ev_go (c' := (13, [some (.ref 8)], [.int ((144 : Int32)), .int ((0 : Int32)), .ref 9, .int ((0 : Int32)), .ref 10], hX σ)) 6 rfl ?_
  refine ev_st1 (e := (13, .invokestatic 43, 3, 104, 0, .null, [], [986, 987, 77, 988])) (c' := (16, [some (.ref 8)], [], hX (sx_od_weights σ (va_cpy (gx_od_kept σ) (gx_od_weights σ) 0 0 144)))) rfl oy_cpy_x_od_kept_od_weights ?_
  refine ev_go (c' := (21, [some (.ref 8)], [.int ((gx_od_keptUpdates σ)), .ref 8], hX (sx_od_weights σ (va_cpy (gx_od_kept σ) (gx_od_weights σ) 0 0 144)))) 2 rfl ?_
  refine ev_st1 (e := (21, .putfield 33, 3, 4, 0, .null, [(4, 0)], [153])) (c' := (24, [some (.ref 8)], [], hX (sx_od_updates (sx_od_weights σ (va_cpy (gx_od_kept σ) (gx_od_weights σ) 0 0 144)) (gx_od_keptUpdates σ)))) rfl oy_put_x_od_updates ?_
  cases hf
  exact ev_rt 0 rfl
set_option maxRecDepth 20000 in
set_option maxHeartbeats 4000000 in
theorem tX4_aboveNought_b38 (d : Nat) (σ : SX) (k13 : Int32 → Int32 → Option (Int32)) (hk13 : ∀ (v1 : Int32) (v4 : Int32) (q : Int32), k13 v1 v4 = some q → ev_X d (some .int) eiX4_aboveNought (13, [none, some (.int (v1)), some (.ref 9), some (.int ((144 : Int32))), some (.int (v4)), none, none], [], hX σ) (some (.int q), hX σ)) (v4 : Int32) (w0 : Int32) (w1 : Int32) (q : Int32) (hf : fX4_aboveNought_b38 σ k13 v4 w0 w1 = some q) : ev_X d (some .int) eiX4_aboveNought (38, [none, none, some (.ref 9), some (.int ((144 : Int32))), some (.int (v4)), none, none], [.int (w0), .int (w1)], hX σ) (some (.int q), hX σ) := by
  unfold fX4_aboveNought_b38 at hf
  refine ev_go (c' := (13, [none, some (.int ((w1 + w0))), some (.ref 9), some (.int ((144 : Int32))), some (.int ((v4 + (1 : Int32)))), none, none], [], hX σ)) 3 rfl ?_
  exact ev_dr (a := [none, some (.int ((w1 + w0))), some (.ref 9), some (.int ((144 : Int32))), some (.int ((v4 + (1 : Int32)))), none, none]) ⟨rfl, ⟨rfl, ⟨rfl, ⟨rfl, trivial⟩⟩⟩⟩ (hk13 (w1 + w0) (v4 + (1 : Int32)) _ hf)
set_option maxRecDepth 20000 in
set_option maxHeartbeats 4000000 in
theorem tX4_aboveNought_b13 (d : Nat) (σ : SX) (k13 : Int32 → Int32 → Option (Int32)) (hk13 : ∀ (v1 : Int32) (v4 : Int32) (q : Int32), k13 v1 v4 = some q → ev_X d (some .int) eiX4_aboveNought (13, [none, some (.int (v1)), some (.ref 9), some (.int ((144 : Int32))), some (.int (v4)), none, none], [], hX σ) (some (.int q), hX σ)) (v1 : Int32) (v4 : Int32) (q : Int32) (hf : fX4_aboveNought_b13 σ k13 v1 v4 = some q) : ev_X d (some .int) eiX4_aboveNought (13, [none, some (.int (v1)), some (.ref 9), some (.int ((144 : Int32))), some (.int (v4)), none, none], [], hX σ) (some (.int q), hX σ) := by
  unfold fX4_aboveNought_b13 at hf
  refine ev_br 2 (P := v4 < (144 : Int32)) (a := 19) (b := 46) (ls := [none, some (.int (v1)), some (.ref 9), some (.int ((144 : Int32))), some (.int (v4)), none, none]) (st := []) (h := hX σ) rfl (fun c1 => ?_) (fun c1 => ?_)
  · rw [if_pos c1] at hf
    obtain ⟨c2, hf⟩ := ev_hp hf
    refine ev_ck 2 (P := ¬ (v4 < 0 ∨ 144 ≤ v4.toNatClampNeg)) (c' := (23, [none, some (.int (v1)), some (.ref 9), some (.int ((144 : Int32))), some (.int (v4)), none, none], [.long (((gx_od_weights σ) v4.toNatClampNeg))], hX σ)) rfl c2 ?_
    refine ev_bi 5 (lg_cmp_gt ((gx_od_weights σ) v4.toNatClampNeg) (0 : Int64)) (a := 33) (b := 37) (ls := [none, some (.int (v1)), some (.ref 9), some (.int ((144 : Int32))), some (.int (v4)), some (.long (((gx_od_weights σ) v4.toNatClampNeg))), none]) (st := [.int (v1)]) (h := hX σ) rfl (fun c3 => ?_) (fun c3 => ?_)
    · rw [if_pos c3] at hf
      refine ev_go (c' := (38, [none, some (.int (v1)), some (.ref 9), some (.int ((144 : Int32))), some (.int (v4)), some (.long (((gx_od_weights σ) v4.toNatClampNeg))), none], [.int ((1 : Int32)), .int (v1)], hX σ)) 1 rfl ?_
      exact ev_dr (a := [none, none, some (.ref 9), some (.int ((144 : Int32))), some (.int (v4)), none, none]) ⟨rfl, ⟨rfl, ⟨rfl, trivial⟩⟩⟩ (tX4_aboveNought_b38 d σ k13 hk13 v4 (1 : Int32) v1 _ hf)
    · rw [if_neg c3] at hf
      refine ev_go (c' := (38, [none, some (.int (v1)), some (.ref 9), some (.int ((144 : Int32))), some (.int (v4)), some (.long (((gx_od_weights σ) v4.toNatClampNeg))), none], [.int ((0 : Int32)), .int (v1)], hX σ)) 0 rfl ?_
      exact ev_dr (a := [none, none, some (.ref 9), some (.int ((144 : Int32))), some (.int (v4)), none, none]) ⟨rfl, ⟨rfl, ⟨rfl, trivial⟩⟩⟩ (tX4_aboveNought_b38 d σ k13 hk13 v4 (0 : Int32) v1 _ hf)
  · rw [if_neg c1] at hf
    cases hf
    exact ev_rt 1 rfl
theorem tX4_aboveNought_l13 (d : Nat) (σ : SX) : ∀ (n : Nat) (v1 : Int32) (v4 : Int32) (q : Int32), fX4_aboveNought_l13 σ n v1 v4 = some q → ev_X d (some .int) eiX4_aboveNought (13, [none, some (.int (v1)), some (.ref 9), some (.int ((144 : Int32))), some (.int (v4)), none, none], [], hX σ) (some (.int q), hX σ)
  | 0, _, _, _, hf => by cases hf
  | n + 1, v1, v4, q, hf => tX4_aboveNought_b13 d σ (fX4_aboveNought_l13 σ n) (fun v1 v4 q h9 => tX4_aboveNought_l13 d σ n v1 v4 q h9) v1 v4 q hf
set_option maxRecDepth 20000 in
set_option maxHeartbeats 4000000 in
theorem tX4_aboveNought (d : Nat) (σ : SX) (q : Int32) (hf : fX4_aboveNought σ = some q) : ev_M ev_mt (d + 1) 23 [.ref 8] (hX σ) (some (.int q), hX σ) := by
  refine ev_en (rt := (some .int)) (I := eiX4_aboveNought) rfl (Nat.le_of_ble_eq_true rfl) ?_
  change ev_X d _ _ (0, [some (.ref 8), none, none, none, none, none, none], [], hX σ) _
  unfold fX4_aboveNought at hf
  refine ev_go (c' := (13, [some (.ref 8), some (.int ((0 : Int32))), some (.ref 9), some (.int ((144 : Int32))), some (.int ((0 : Int32))), none, none], [], hX σ)) 9 rfl ?_
  exact ev_dr (a := [none, some (.int ((0 : Int32))), some (.ref 9), some (.int ((144 : Int32))), some (.int ((0 : Int32))), none, none]) ⟨rfl, ⟨rfl, ⟨rfl, ⟨rfl, trivial⟩⟩⟩⟩ (tX4_aboveNought_l13 d σ 1000 (0 : Int32) (0 : Int32) _ hf)
set_option maxRecDepth 20000 in
set_option maxHeartbeats 4000000 in
theorem tX4_total_b14 (d : Nat) (σ : SX) (k14 : Int64 → Int32 → Option (Int64)) (hk14 : ∀ (v1 : Int64) (v5 : Int32) (q : Int64), k14 v1 v5 = some q → ev_X d (some .long) eiX4_total (14, [none, some (.long (v1)), none, some (.ref 9), some (.int ((144 : Int32))), some (.int (v5)), none, none], [], hX σ) (some (.long q), hX σ)) (v1 : Int64) (v5 : Int32) (q : Int64) (hf : fX4_total_b14 σ k14 v1 v5 = some q) : ev_X d (some .long) eiX4_total (14, [none, some (.long (v1)), none, some (.ref 9), some (.int ((144 : Int32))), some (.int (v5)), none, none], [], hX σ) (some (.long q), hX σ) := by
  unfold fX4_total_b14 at hf
  refine ev_br 2 (P := v5 < (144 : Int32)) (a := 21) (b := 38) (ls := [none, some (.long (v1)), none, some (.ref 9), some (.int ((144 : Int32))), some (.int (v5)), none, none]) (st := []) (h := hX σ) rfl (fun c1 => ?_) (fun c1 => ?_)
  · rw [if_pos c1] at hf
    obtain ⟨c2, hf⟩ := ev_hp hf
    refine ev_ck 2 (P := ¬ (v5 < 0 ∨ 144 ≤ v5.toNatClampNeg)) (c' := (25, [none, some (.long (v1)), none, some (.ref 9), some (.int ((144 : Int32))), some (.int (v5)), none, none], [.long (((gx_od_weights σ) v5.toNatClampNeg))], hX σ)) rfl c2 ?_
    refine ev_go (c' := (14, [none, some (.long ((v1 + ((gx_od_weights σ) v5.toNatClampNeg)))), none, some (.ref 9), some (.int ((144 : Int32))), some (.int ((v5 + (1 : Int32)))), some (.long (((gx_od_weights σ) v5.toNatClampNeg))), none], [], hX σ)) 6 rfl ?_
    exact ev_dr (a := [none, some (.long ((v1 + ((gx_od_weights σ) v5.toNatClampNeg)))), none, some (.ref 9), some (.int ((144 : Int32))), some (.int ((v5 + (1 : Int32)))), none, none]) ⟨rfl, ⟨rfl, ⟨rfl, ⟨rfl, trivial⟩⟩⟩⟩ (hk14 (v1 + ((gx_od_weights σ) v5.toNatClampNeg)) (v5 + (1 : Int32)) _ hf)
  · rw [if_neg c1] at hf
    cases hf
    exact ev_rt 1 rfl
theorem tX4_total_l14 (d : Nat) (σ : SX) : ∀ (n : Nat) (v1 : Int64) (v5 : Int32) (q : Int64), fX4_total_l14 σ n v1 v5 = some q → ev_X d (some .long) eiX4_total (14, [none, some (.long (v1)), none, some (.ref 9), some (.int ((144 : Int32))), some (.int (v5)), none, none], [], hX σ) (some (.long q), hX σ)
  | 0, _, _, _, hf => by cases hf
  | n + 1, v1, v5, q, hf => tX4_total_b14 d σ (fX4_total_l14 σ n) (fun v1 v5 q h9 => tX4_total_l14 d σ n v1 v5 q h9) v1 v5 q hf
set_option maxRecDepth 20000 in
set_option maxHeartbeats 4000000 in
theorem tX4_total (d : Nat) (σ : SX) (q : Int64) (hf : fX4_total σ = some q) : ev_M ev_mt (d + 1) 24 [.ref 8] (hX σ) (some (.long q), hX σ) := by
  refine ev_en (rt := (some .long)) (I := eiX4_total) rfl (Nat.le_of_ble_eq_true rfl) ?_
  change ev_X d _ _ (0, [some (.ref 8), none, none, none, none, none, none, none], [], hX σ) _
  unfold fX4_total at hf
  refine ev_go (c' := (14, [some (.ref 8), some (.long ((0 : Int64))), none, some (.ref 9), some (.int ((144 : Int32))), some (.int ((0 : Int32))), none, none], [], hX σ)) 9 rfl ?_
  exact ev_dr (a := [none, some (.long ((0 : Int64))), none, some (.ref 9), some (.int ((144 : Int32))), some (.int ((0 : Int32))), none, none]) ⟨rfl, ⟨rfl, ⟨rfl, ⟨rfl, trivial⟩⟩⟩⟩ (tX4_total_l14 d σ 1000 (0 : Int64) (0 : Int32) _ hf)
set_option maxRecDepth 20000 in
set_option maxHeartbeats 4000000 in
theorem tX4_sumOfCell_w_b12 (d : Nat) (σ : SX) (q : Int64) (hf : fX4_sumOfCell_w_b12 σ = some q) : ev_X d (some .long) eiX4_sumOfCell (12, [none, none], [], hX σ) (some (.long q), hX σ) := by
  unfold fX4_sumOfCell_w_b12 at hf
  cases hf
  exact ev_rt 1 rfl
set_option maxRecDepth 20000 in
set_option maxHeartbeats 4000000 in
theorem tX4_sumOfCell_w (d : Nat) (σ : SX) (v1 : Int32) (q : Int64) (hf : fX4_sumOfCell_w σ v1 = some q) : ev_M ev_mt (d + 1) 26 [.ref 9, .int (v1)] (hX σ) (some (.long q), hX σ) := by
  refine ev_en (rt := (some .long)) (I := eiX4_sumOfCell) rfl (Nat.le_of_ble_eq_true rfl) ?_
  change ev_X d _ _ (0, [some (.ref 9), some (.int (v1))], [], hX σ) _
  unfold fX4_sumOfCell_w at hf
  refine ev_br 1 (P := v1 < 0) (a := 12) (b := 4) (ls := [some (.ref 9), some (.int (v1))]) (st := []) (h := hX σ) rfl (fun c1 => ?_) (fun c1 => ?_)
  · rw [if_pos c1] at hf
    exact ev_dr (a := [none, none]) trivial (tX4_sumOfCell_w_b12 d σ  _ hf)
  · rw [if_neg c1] at hf
    refine ev_br 5 (P := (v1 + (3 : Int32)) < (144 : Int32)) (a := 14) (b := 12) (ls := [some (.ref 9), some (.int (v1))]) (st := []) (h := hX σ) rfl (fun c2 => ?_) (fun c2 => ?_)
    · rw [if_pos c2] at hf
      obtain ⟨c3, hf⟩ := ev_hp hf
      refine ev_ck 2 (P := ¬ (v1 < 0 ∨ 144 ≤ v1.toNatClampNeg)) (c' := (17, [some (.ref 9), some (.int (v1))], [.long (((gx_od_weights σ) v1.toNatClampNeg))], hX σ)) rfl c3 ?_
      obtain ⟨c4, hf⟩ := ev_hp hf
      refine ev_ck 4 (P := ¬ ((v1 + (1 : Int32)) < 0 ∨ 144 ≤ (v1 + (1 : Int32)).toNatClampNeg)) (c' := (22, [some (.ref 9), some (.int (v1))], [.long (((gx_od_weights σ) (v1 + (1 : Int32)).toNatClampNeg)), .long (((gx_od_weights σ) v1.toNatClampNeg))], hX σ)) rfl c4 ?_
      obtain ⟨c5, hf⟩ := ev_hp hf
      refine ev_ck 5 (P := ¬ ((v1 + (2 : Int32)) < 0 ∨ 144 ≤ (v1 + (2 : Int32)).toNatClampNeg)) (c' := (28, [some (.ref 9), some (.int (v1))], [.long (((gx_od_weights σ) (v1 + (2 : Int32)).toNatClampNeg)), .long ((((gx_od_weights σ) v1.toNatClampNeg) + ((gx_od_weights σ) (v1 + (1 : Int32)).toNatClampNeg)))], hX σ)) rfl c5 ?_
      obtain ⟨c6, hf⟩ := ev_hp hf
      refine ev_ck 5 (P := ¬ ((v1 + (3 : Int32)) < 0 ∨ 144 ≤ (v1 + (3 : Int32)).toNatClampNeg)) (c' := (34, [some (.ref 9), some (.int (v1))], [.long (((gx_od_weights σ) (v1 + (3 : Int32)).toNatClampNeg)), .long (((((gx_od_weights σ) v1.toNatClampNeg) + ((gx_od_weights σ) (v1 + (1 : Int32)).toNatClampNeg)) + ((gx_od_weights σ) (v1 + (2 : Int32)).toNatClampNeg)))], hX σ)) rfl c6 ?_
      cases hf
      exact ev_rt 1 rfl
    · rw [if_neg c2] at hf
      exact ev_dr (a := [none, none]) trivial (tX4_sumOfCell_w_b12 d σ  _ hf)
