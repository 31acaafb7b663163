/-! ===== THE LAW: worlds side by side; a call of a method that the abstract machine runs ===== -/
section WLD
variable {D : va_G} {cl : List vw_C} {a b : va_W} {H : Heap} {A : Nat → Prop}
theorem wl_Pl (h : va_P D cl (a ++ b) H) : va_P D cl a H := fun k q hk => h k q (by rw [List.getElem?_append_left (List.getElem?_eq_some_iff.mp hk).1]; exact hk)
theorem wl_Pr (h : va_P D cl (a ++ b) H) : va_P D cl b H := fun k q hk => h (a.length + k) q (by rw [List.getElem?_append_right (by omega), Nat.add_sub_cancel_left]; exact hk)
theorem wl_Ps (h : va_P D cl (a ++ b) H) : va_P D cl (b ++ a) H := va_P.app (wl_Pr h) (wl_Pl h)
theorem wl_Dl (h : va_D A (a ++ b)) : va_D A a := by
  have e : ∀ (k : Nat) (q : Nat × va_E), a[k]? = some q → (a ++ b)[k]? = some q := fun k q hk => by rw [List.getElem?_append_left (List.getElem?_eq_some_iff.mp hk).1]; exact hk
  exact ⟨fun i j p q hi hj => h.1 i j p q (e i p hi) (e j q hj), fun k q hk => h.2 k q (e k q hk)⟩
theorem wl_Dr (h : va_D A (a ++ b)) : va_D A b := by
  have e : ∀ (k : Nat) (q : Nat × va_E), b[k]? = some q → (a ++ b)[a.length + k]? = some q := fun k q hk => by rw [List.getElem?_append_right (by omega), Nat.add_sub_cancel_left]; exact hk
  exact ⟨fun i j p q hi hj hpq => by have := h.1 _ _ p q (e i p hi) (e j q hj) hpq; omega, fun k q hk => h.2 _ q (e k q hk)⟩
theorem wl_Dx (h : va_D A (a ++ b)) {i j : Nat} {x y : Nat × va_E} (hx : a[i]? = some x) (hy : b[j]? = some y) : x.1 ≠ y.1 := by
  intro q
  have h1 : (a ++ b)[i]? = some x := by rw [List.getElem?_append_left (List.getElem?_eq_some_iff.mp hx).1]; exact hx
  have h2 : (a ++ b)[a.length + j]? = some y := by rw [List.getElem?_append_right (by omega), Nat.add_sub_cancel_left]; exact hy
  have := h.1 _ _ x y h1 h2 q
  have hl := (List.getElem?_eq_some_iff.mp hx).1
  omega
theorem wl_Ds (h : va_D A (a ++ b)) : va_D A (b ++ a) := va_D.app (wl_Dr h) (wl_Dl h) (fun i j x y hx hy q => wl_Dx h hy hx q.symm)
/-- behind a call: what came back, beside what was left alone -/
theorem wl_join {w1 : va_W} {H1 : Heap} (hP : va_P D cl (a ++ b) H) (hD : va_D A (a ++ b)) (hsz : ∀ q, H.size ≤ q → A q) (hk : ∀ q : Nat, q < H.size → ¬ va_A a H.size q → H1[q]? = H[q]?) (hP1 : va_P D cl w1 H1) (hD1 : va_D (va_A a H.size) w1) : va_P D cl (w1 ++ b) H1 ∧ va_D A (w1 ++ b) := by
  have apart : ∀ (k : Nat) (q : Nat × va_E), b[k]? = some q → q.1 < H.size ∧ ¬ va_A a H.size q.1 := by
    intro k q hq
    have hl := (wl_Pr hP k q hq).lt
    refine ⟨hl, fun h => ?_⟩
    rcases h with ⟨k2, e, h⟩ | h
    · exact wl_Dx hD h hq rfl
    · omega
  have hF : ∀ q, va_A a H.size q → A q := fun q h => by
    rcases h with ⟨k, e, h⟩ | h
    · exact (wl_Dl hD).2 k _ h
    · exact hsz q h
  refine ⟨va_P.app hP1 (fun k q hq => (wl_Pr hP k q hq).kept (hk q.1 (apart k q hq).1 (apart k q hq).2)), va_D.app (hD1.weaken (fun k q _ h => hF q.1 h)) (wl_Dr hD) (fun i j x y hx hy hxy => ?_)⟩
  exact (apart j y hy).2 (by rw [← hxy]; exact hD1.2 i x hx)
end WLD
/-- a method of the tables may be called from there -/
def lw_ok (own : String) (idx n : Nat) (C : String) (k : Nat) (P : List Nat) : Bool := match ev_mt[k]? with
  | some (_, y, cc, nL, rt, _, PM) => ev_pn y n && (ev_w PM 0 (.code y cc nL rt) && (decide (nL ≤ 21 ∧ y.cls = C) && (ev_w P 0 (.methodLink own idx y) && (ev_w P 1 (.instanceMethod y) && (ev_w P 2 (.selects C y y) && ev_w P 3 (.initialized C))))))
  | none => false
theorem lw_goodIn {ws : List Cond} (h : ∀ w ∈ ws, w ∈ ev_tb) : GoodIn lw_tbl ws := fun w hw => ⟨(List.mem_filter.mp (h w hw)).1, good_of_word (List.mem_filter.mp (h w hw)).2⟩
section LAWC
variable {p : Program} {l : Launch} {e : Env} {R : Room} {s : State} {m : MethodId} {args : Array Value} {below : List Frame} {meth : Method} {c : Code} {Q : State → Prop} {own : String} {cc : ByteArray} {nL : Nat} {ρ : Nat → Nat} {cA : Nat → ClassId} {dC : Nat → ClassId} {dI : Nat → Nat → Nat} {A : Nat → Prop} {H : Heap} {locs : List Loc} {cells slots : Nat}
theorem lw_callg {H0 : Heap} {pc : Nat} {ls : Array Slot} {st0 rest : List Value} {A0 A1 free : Nat → Prop} {B : State → Prop} {v : Option Value} (hr : va_Run p l e R s m args below meth c H locs cells slots 0 0 (F0 m pc ls st0) rest (fun st oc t => (oc = .returned v ∧ B t) ∧ va_F A1 st t) free) (hS : va_S A0 H0 H locs) (hA : ∀ q, q < H.size → A1 q → A0 q) (hf : ∀ q, free q → A0 q)
    (kk : ∀ (t : State) (H1 : Heap) (locs1 : List Loc), t.heap = H1 → B t → H.size ≤ H1.size → (∀ q : Nat, q < H.size → ¬ A1 q → H1[q]? = H[q]?) → va_S A0 H0 H1 locs1 → W p l e R s m args below meth c H1 locs1 cells slots Q (F0 m (pc + 3) ls (v.toList ++ rest))) : W p l e R s m args below meth c H locs cells slots Q (F0 m pc ls st0) := by
  intro T hT X
  obtain ⟨v', st₀, t, T', L, h0, X', hL, e1, e2, ⟨⟨hv, hb⟩, hz, hk⟩, st⟩ := hr T hT X
  cases hv
  rw [h0] at hz hk
  obtain ⟨t2, a1, b1⟩ := kk t T'.heap (locs ++ L) e1.symm hb (by rw [e1]; exact hz) (fun q h1 h2 => by rw [e1]; exact hk q h1 h2)
    ⟨Nat.le_trans hS.1 (by rw [e1]; exact hz), fun q h1 h2 => by rw [e1, hk q (Nat.lt_of_lt_of_le h1 hS.1) (fun z => h2 (hA q (Nat.lt_of_lt_of_le h1 hS.1) z))]; exact hS.2.1 q h1 h2, fun q hq => by
      rcases List.mem_append.mp hq with h | h
      · exact hS.2.2 q h
      · exact hf _ (hL q h)⟩ T' rfl X'
  exact ⟨t2, st t2 a1, b1⟩
theorem lw_call (S : CallFix p m c cc nL s args lw_tbl own) (hK : va_K (dC, dI) vwCl (ev_ty cA) s) {h : ev_H} {wr : va_W} (hP : va_P (dC, dI) vwCl (ev_cw ρ cA 0 h ++ wr) H) (hD : va_D A (ev_cw ρ cA 0 h ++ wr)) (hS : va_S A s.heap H locs) (hA : ∀ q, s.heap.size ≤ q → A q) (hG : ev_G ρ A s s.heap)
    {d k n idx : Nat} {as : List Value} {z : ev_Z} (hM : ev_M ev_mt d k (.ref 0 :: as) h z) {C : String} {P : List Nat} (hok : lw_ok own idx n C k P = true) {ci : Nat} {fs : List Value} {qc : vw_C} (h0 : ev_get h 0 = some (.inr (ci, fs))) (hci : vwCl[ci]? = some qc) (hqC : qc.1 = C)
    (hR : d + 1 ≤ R.frames ∧ 40 + 40 * d ≤ R.locals) (hroom : cells ≤ R.cells ∧ slots ≤ R.slots) {pc : Nat} {ls : Array Slot} {st0 rest : List Value} (hls : ls.size = nL) (hst : st0 = (as.map (ev_cv ρ)).reverse ++ .ref (ρ 0) :: rest) (hn : as.length = n) (hcat : (rest.map fun v => v.category).sum ≤ 8) (hd : decode cc pc = .ok (.invokevirtual idx, 3))
    (kk : ∀ (H1 : Heap) (locs1 : List Loc), va_P (dC, dI) vwCl (ev_cw ρ cA 0 z.2 ++ wr) H1 → va_D A (ev_cw ρ cA 0 z.2 ++ wr) → va_S A s.heap H1 locs1 → W p l e R s m args below meth c H1 locs1 cells slots Q (F0 m (pc + 3) ls ((z.1.map (ev_cv ρ)).toList ++ rest))) : W p l e R s m args below meth c H locs cells slots Q (F0 m pc ls st0) := by
  unfold lw_ok at hok
  split at hok
  rotate_left
  · cases hok
  rename_i o y cY nY rY I PM hmi
  simp only [Bool.and_eq_true, decide_eq_true_eq, ev_pn] at hok
  obtain ⟨hpn, w0, ⟨hnl, hyC⟩, w1, w2, w3, w4⟩ := hok
  have hMt := ev_sound ev_mt_ok l ρ cA dC dI d k (.ref 0 :: as) h z hM o y cY nY rY I PM hmi H.size
  have hPc := wl_Pl hP
  have hDc := wl_Dl hD
  have hsub : ∀ q, va_A (ev_cw ρ cA 0 h) H.size q → A q := by
    intro q hq
    rcases hq with ⟨j, e0, hj⟩ | hq
    · exact hDc.2 j _ hj
    · exact hA q (Nat.le_trans hS.1 hq)
  have hpre : ∀ U : State, U.heap = H → s.WarmedH U.vm → ev_Pc ρ cA dC dI (.ref 0 :: as) h H.size (Value.ref (ρ 0) :: as.map (ev_cv ρ)).toArray U := fun U hU hW =>
    ⟨rfl, by rw [hU], by rw [hU]; exact hPc, va_K.moved hW.alike hK, hDc.weaken (fun _ _ _ _ => trivial), by rw [hU]; exact ((hG.kept hS.2.1).warm hW).narrow hsub⟩
  obtain ⟨j, hj, -⟩ := ev_at ρ cA h0
  have hrc : ∃ cell : Cell, H[ρ 0]? = some cell ∧ cell.vm.isStatics = false ∧ s.vm.findClass C = some cell.cls := by
    rw [← hqC]; exact va_recv hK hPc hci hj
  have hgi : ∀ w ∈ Cond.code y cY nY rY :: ev_tb, w ∈ ev_tb := by
    intro w hw
    rcases List.mem_cons.mp hw with rfl | hw
    · exact ev_w_in w0
    · exact hw
  have hgood : GoodIn lw_tbl (wsV own idx C y (Cond.code y cY nY rY :: ev_tb)) := lw_goodIn (by
    intro w hw
    unfold wsV at hw
    rcases List.mem_append.mp hw with hw | hw
    · simp only [List.mem_cons, List.not_mem_nil, or_false] at hw
      rcases hw with rfl | rfl | rfl | rfl
      · exact ev_w_in w1
      · exact ev_w_in w2
      · exact ev_w_in w3
      · exact ev_w_in w4
    · exact hgi w hw)
  have hrun := va_runV (H := H) (locs := locs) (cells := cells) (slots := slots) (below := below) (meth := meth) (e := e) (g := F0 m pc ls st0) (rest := rest) (As := as.map (ev_cv ρ)) S hMt (cwV (R := R) n S.2.2.2.2 hgood rfl rfl rfl ⟨hyC, hpn⟩ ⟨hR.1, by show 8 + (nY + 11) + 40 * d ≤ R.locals; omega⟩) ⟨ev_Pc_blind, hrc, hpre⟩ rfl (by rw [List.length_map]; exact hn) hls hst (lv_room hcat) hd hroom
  refine lw_callg (A1 := va_A (ev_cw ρ cA 0 h) H.size) (B := fun t => va_P (dC, dI) vwCl (ev_cw ρ cA 0 z.2) t.heap ∧ va_D (va_A (ev_cw ρ cA 0 h) H.size) (ev_cw ρ cA 0 z.2)) (v := z.1.map (ev_cv ρ)) hrun hS (fun q _ => hsub q) hsub (fun t H1 locs1 ht hB hz1 hk1 hS1 => ?_)
  obtain ⟨hP2, hD2⟩ := wl_join hP hD (fun q hq => hA q (Nat.le_trans hS.1 hq)) hk1 (by rw [← ht]; exact hB.1) hB.2
  exact kk H1 locs1 hP2 hD2 hS1
end LAWC
