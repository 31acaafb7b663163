/-! ===== calls out of player ===== -/
theorem pl_goodIn {Ts ws : List Cond} (hTs : ∀ w ∈ ev_tb, w ∈ Ts) (h : ∀ w ∈ ws, w ∈ ev_tb) : GoodIn Ts ws := fun w hw => ⟨hTs w (h w hw), good_of_word (List.mem_filter.mp (h w hw)).2⟩
def pl_ok (own : String) (idx n k : Nat) (P : List Nat) : Bool := match ev_mt[k]? with
  | some (_, y, cc, nL, rt, _, PM) => ev_pn y n && (ev_w PM 0 (.code y cc nL rt) && (decide (nL ≤ 21) && (ev_w P 0 (.methodLink own idx y) && (ev_w P 1 (.static y) && ev_w P 2 (.initialized y.cls)))))
  | none => false
theorem ok_pl_within : pl_ok RX11 113 2 113 [483, 451, 57] = true := by decide +kernel
theorem ok_pl_felt : pl_ok RX11 189 3 115 [646, 647, 57] = true := by decide +kernel
theorem ok_pl_free : lw_ok RX11 110 1 RX7 59 [482, 466, 467, 59] = true := by decide +kernel
section PLC
variable {p : Program} {l : Launch} {e : Env} {R : Room} {s : State} {m : MethodId} {args : Array Value} {below : List Frame} {meth : Method} {c : Code} {Q : State → Prop} {own : String} {cc : ByteArray} {nL : Nat} {ρ : Nat → Nat} {cA : Nat → ClassId} {dC : Nat → ClassId} {dI : Nat → Nat → Nat} {A : Nat → Prop} {H : Heap} {locs : List Loc} {cells slots : Nat} {Ts : List Cond}
theorem pl_cS (S : CallFix p m c cc nL s args Ts own) (hTs : ∀ w ∈ ev_tb, w ∈ Ts) (hK : va_K (dC, dI) vwCl (ev_ty cA) s) {h : ev_H} (hP : va_P (dC, dI) vwCl (ev_cw ρ cA 0 h) H) (hD : va_D A (ev_cw ρ cA 0 h)) (hS : va_S A s.heap H locs) (hA : ∀ q, s.heap.size ≤ q → A q) (hG : ev_G ρ A s s.heap)
    {d k n idx : Nat} {as : List Value} {z : ev_Z} (hM : ev_M ev_mt d k as h z) {P : List Nat} (hok : pl_ok own idx n k P = true)
    (hR : d + 1 ≤ R.frames ∧ 40 + 40 * d ≤ R.locals) (hroom : cells ≤ R.cells ∧ slots ≤ R.slots) {pc : Nat} {ls : Array Slot} {st0 rest : List Value} (hls : ls.size = nL) (hst : st0 = (as.map (ev_cv ρ)).reverse ++ rest) (hn : as.length = n) (hcat : (rest.map fun v => v.category).sum ≤ 8) (hd : decode cc pc = .ok (.invokestatic idx, 3))
    (kk : ∀ (H1 : Heap) (locs1 : List Loc), va_P (dC, dI) vwCl (ev_cw ρ cA 0 z.2) H1 → va_D A (ev_cw ρ cA 0 z.2) → va_S A s.heap H1 locs1 → W p l e R s m args below meth c H1 locs1 cells slots Q (F0 m (pc + 3) ls ((z.1.map (ev_cv ρ)).toList ++ rest))) : W p l e R s m args below meth c H locs cells slots Q (F0 m pc ls st0) := by
  unfold pl_ok at hok
  split at hok
  rotate_left
  · cases hok
  rename_i o y cY nY rY I PM hmi
  simp only [Bool.and_eq_true, decide_eq_true_eq, ev_pn] at hok
  obtain ⟨hpn, w0, hnl, w1, w2, w3⟩ := hok
  have hMt := ev_sound ev_mt_ok l ρ cA dC dI d k as h z hM o y cY nY rY I PM hmi H.size
  have hsub : ∀ q, va_A (ev_cw ρ cA 0 h) H.size q → A q := by
    intro q hq
    rcases hq with ⟨j, e0, hj⟩ | hq
    · exact hD.2 j _ hj
    · exact hA q (Nat.le_trans hS.1 hq)
  have hpre : ∀ U : State, U.heap = H → s.WarmedH U.vm → ev_Pc ρ cA dC dI as h H.size (as.map (ev_cv ρ)).toArray U := fun U hU hW =>
    ⟨rfl, by rw [hU], by rw [hU]; exact hP, va_K.moved hW.alike hK, hD.weaken (fun _ _ _ _ => trivial), by rw [hU]; exact ((hG.kept hS.2.1).warm hW).narrow hsub⟩
  have hgood : GoodIn Ts (va_wsS own idx y (Cond.code y cY nY rY :: ev_tb)) := pl_goodIn hTs (by
    intro w hw
    unfold va_wsS at hw
    rcases List.mem_append.mp hw with hw | hw
    · simp only [List.mem_cons, List.not_mem_nil, or_false] at hw
      rcases hw with rfl | rfl | rfl
      · exact ev_w_in w1
      · exact ev_w_in w2
      · exact ev_w_in w3
    · rcases List.mem_cons.mp hw with rfl | hw
      · exact ev_w_in w0
      · exact hw)
  have hrun := va_runS (H := H) (locs := locs) (cells := cells) (slots := slots) (below := below) (meth := meth) (e := e) (g := F0 m pc ls st0) (rest := rest) (As := as.map (ev_cv ρ)) S hMt (va_cwS (R := R) n S.2.2.2.2 hgood rfl rfl rfl hpn ⟨hR.1, by show 8 + (nY + 11) + 40 * d ≤ R.locals; omega⟩) ⟨ev_Pc_blind, hpre⟩ rfl (by rw [List.length_map]; exact hn) hls hst (lv_room hcat) hd hroom
  refine lw_callg (A1 := va_A (ev_cw ρ cA 0 h) H.size) (B := fun t => va_P (dC, dI) vwCl (ev_cw ρ cA 0 z.2) t.heap ∧ va_D (va_A (ev_cw ρ cA 0 h) H.size) (ev_cw ρ cA 0 z.2)) (v := z.1.map (ev_cv ρ)) hrun hS (fun q _ => hsub q) hsub (fun t H1 locs1 ht hB hz1 hk1 hS1 => ?_)
  exact kk H1 locs1 (by rw [← ht]; exact hB.1) (hB.2.weaken (fun k q _ h => hsub q.1 h)) hS1
theorem pl_cV (S : CallFix p m c cc nL s args Ts own) (hTs : ∀ w ∈ ev_tb, w ∈ Ts) (hK : va_K (dC, dI) vwCl (ev_ty cA) s) {h : ev_H} (hP : va_P (dC, dI) vwCl (ev_cw ρ cA 0 h) H) (hD : va_D A (ev_cw ρ cA 0 h)) (hS : va_S A s.heap H locs) (hA : ∀ q, s.heap.size ≤ q → A q) (hG : ev_G ρ A s s.heap)
    {d k n idx a : Nat} {as : List Value} {z : ev_Z} (hM : ev_M ev_mt d k (.ref a :: as) h z) {C : String} {P : List Nat} (hok : lw_ok own idx n C k P = true) {ci : Nat} {fs : List Value} {qc : vw_C} (h0 : ev_get h a = some (.inr (ci, fs))) (hci : vwCl[ci]? = some qc) (hqC : qc.1 = C)
    (hR : d + 1 ≤ R.frames ∧ 40 + 40 * d ≤ R.locals) (hroom : cells ≤ R.cells ∧ slots ≤ R.slots) {pc : Nat} {ls : Array Slot} {st0 rest : List Value} (hls : ls.size = nL) (hst : st0 = (as.map (ev_cv ρ)).reverse ++ .ref (ρ a) :: rest) (hn : as.length = n) (hcat : (rest.map fun v => v.category).sum ≤ 8) (hd : decode cc pc = .ok (.invokevirtual idx, 3))
    (kk : ∀ (H1 : Heap) (locs1 : List Loc), va_P (dC, dI) vwCl (ev_cw ρ cA 0 z.2) H1 → va_D A (ev_cw ρ cA 0 z.2) → va_S A s.heap H1 locs1 → W p l e R s m args below meth c H1 locs1 cells slots Q (F0 m (pc + 3) ls ((z.1.map (ev_cv ρ)).toList ++ rest))) : W p l e R s m args below meth c H locs cells slots Q (F0 m pc ls st0) := by
  unfold lw_ok at hok
  split at hok
  rotate_left
  · cases hok
  rename_i o y cY nY rY I PM hmi
  simp only [Bool.and_eq_true, decide_eq_true_eq, ev_pn] at hok
  obtain ⟨hpn, w0, ⟨hnl, hyC⟩, w1, w2, w3, w4⟩ := hok
  have hMt := ev_sound ev_mt_ok l ρ cA dC dI d k (.ref a :: as) h z hM o y cY nY rY I PM hmi H.size
  have hsub : ∀ q, va_A (ev_cw ρ cA 0 h) H.size q → A q := by
    intro q hq
    rcases hq with ⟨j, e0, hj⟩ | hq
    · exact hD.2 j _ hj
    · exact hA q (Nat.le_trans hS.1 hq)
  have hpre : ∀ U : State, U.heap = H → s.WarmedH U.vm → ev_Pc ρ cA dC dI (.ref a :: as) h H.size (Value.ref (ρ a) :: as.map (ev_cv ρ)).toArray U := fun U hU hW =>
    ⟨rfl, by rw [hU], by rw [hU]; exact hP, va_K.moved hW.alike hK, hD.weaken (fun _ _ _ _ => trivial), by rw [hU]; exact ((hG.kept hS.2.1).warm hW).narrow hsub⟩
  obtain ⟨j, hj, -⟩ := ev_at ρ cA h0
  have hrc : ∃ cell : Cell, H[ρ a]? = some cell ∧ cell.vm.isStatics = false ∧ s.vm.findClass C = some cell.cls := by
    rw [← hqC]; exact va_recv hK hP hci hj
  have hgood : GoodIn Ts (wsV own idx C y (Cond.code y cY nY rY :: ev_tb)) := pl_goodIn hTs (by
    intro w hw
    unfold wsV at hw
    rcases List.mem_append.mp hw with hw | hw
    · simp only [List.mem_cons, List.not_mem_nil, or_false] at hw
      rcases hw with rfl | rfl | rfl | rfl
      · exact ev_w_in w1
      · exact ev_w_in w2
      · exact ev_w_in w3
      · exact ev_w_in w4
    · rcases List.mem_cons.mp hw with rfl | hw
      · exact ev_w_in w0
      · exact hw)
  have hrun := va_runV (H := H) (locs := locs) (cells := cells) (slots := slots) (below := below) (meth := meth) (e := e) (g := F0 m pc ls st0) (rest := rest) (As := as.map (ev_cv ρ)) S hMt (cwV (R := R) n S.2.2.2.2 hgood rfl rfl rfl ⟨hyC, hpn⟩ ⟨hR.1, by show 8 + (nY + 11) + 40 * d ≤ R.locals; omega⟩) ⟨ev_Pc_blind, hrc, hpre⟩ rfl (by rw [List.length_map]; exact hn) hls hst (lv_room hcat) hd hroom
  refine lw_callg (A1 := va_A (ev_cw ρ cA 0 h) H.size) (B := fun t => va_P (dC, dI) vwCl (ev_cw ρ cA 0 z.2) t.heap ∧ va_D (va_A (ev_cw ρ cA 0 h) H.size) (ev_cw ρ cA 0 z.2)) (v := z.1.map (ev_cv ρ)) hrun hS (fun q _ => hsub q) hsub (fun t H1 locs1 ht hB hz1 hk1 hS1 => ?_)
  exact kk H1 locs1 (by rw [← ht]; exact hB.1) (hB.2.weaken (fun k q _ h => hsub q.1 h)) hS1
end PLC
