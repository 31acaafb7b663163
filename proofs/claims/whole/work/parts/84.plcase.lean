/-! ===== the law's case of player ===== -/
theorem ev_G.other {ρ ρ' : Nat → Nat} {A : Nat → Prop} {U : State} {H : Heap} (h : ev_G ρ A U H) (e : ∀ k, 1000 ≤ k → ρ' k = ρ k) : ev_G ρ' A U H := by
  obtain ⟨⟨h1, h2, h3, h4⟩, ⟨h5, h6, h7, h8, h9, h10⟩, g⟩ := h
  refine ⟨⟨?_, ?_, ?_, fun a x y => ?_⟩, ⟨?_, ?_, ?_, ?_, ?_, h10⟩, g⟩
  · rw [e 1000 (by decide)]; exact h1
  · rw [e 1001 (by decide)]; exact h2
  · rw [e 1002 (by decide)]; exact h3
  · rw [e a x]; exact h4 a x y
  · rw [e 2000 (by decide)]; exact h5
  · rw [e 2000 (by decide)]; exact h6
  · rw [e 2000 (by decide)]; exact h7
  · rw [e 2000 (by decide), e 2001 (by decide)]; exact h8
  · rw [e 2001 (by decide)]; exact h9
theorem lw_ts : ∀ w ∈ ev_tb, w ∈ lw_tbl := fun _ h => (List.mem_filter.mp h).1
section PLL
variable {p : Program} {l : Launch} {e : Env} {R : Room} {s : State} {m : MethodId} {args : Array Value} {below : List Frame} {meth : Method} {c : Code} {Q : State → Prop} {cc : ByteArray} {nL : Nat} {ρ : Nat → Nat} {cA : Nat → ClassId} {dC : Nat → ClassId} {dI : Nat → Nat → Nat} {A : Nat → Prop} {H : Heap} {locs : List Loc} {cells slots : Nat}
theorem pl_call (S : CallFix p m c cc nL s args lw_tbl R_law) (hK : va_K (dC, dI) vwCl (ev_ty cA) s) (hC : cn_G s) {σ : SX} {wr : va_W} (hP : va_P (dC, dI) vwCl (ev_cw ρ cA 0 (hX σ) ++ wr) H) (hD : va_D A (ev_cw ρ cA 0 (hX σ) ++ wr)) (hS : va_S A s.heap H locs) (hA : ∀ q, s.heap.size ≤ q → A q) (hG : ev_G ρ A s s.heap) {v1 v2 v3 v4 v5 r1 r2 r3 : Int32} {n kd : Nat} (e1 : fX11_isWithin v1 5 = some r1) (e2 : fX7_isFree σ v2 = some r2) (e3 : fX11_couldBeFelt v3 v4 v5 = some r3) (hn : n ≤ 6) (hp : gx_tp_playing σ = nI n) (hk : r1 ≠ 0 → kd < 6 ∧ v1 = nI kd) (ha : ∀ i, i < 6 → gx_pl_arr σ i = if i < n then some (20 + i) else none) (he : ∀ i, i < n → gx_pl_ex σ i = true)
    (hR : 6 ≤ R.frames ∧ 166 ≤ R.locals) (hroom : cells + 1 ≤ R.cells ∧ slots + 6 ≤ R.slots) {pc : Nat} {ls : Array Slot} {st0 rest : List Value} (hls : ls.size = nL) (hst : st0 = [.int v5, .int v4, .int v3, .int v2, .int v1, .ref (ρ 0)] ++ rest) (hcat : (rest.map fun v => v.category).sum ≤ 8) (hd : decode cc pc = .ok (.invokevirtual 92, 3))
    (kk : ∀ (σ2 : SX) (ρ2 : Nat → Nat) (H1 : Heap) (locs1 : List Loc), ρ2 0 = ρ 0 → (ev_G ρ A s s.heap → ev_G ρ2 A s s.heap) → (∀ {N : Nat} {μ2 : SM}, ((r1 = 0 ∨ r2 = 0 ∨ r3 = 0 ∨ n = 6) → Rel N σ μ2) → (r1 ≠ 0 → r2 ≠ 0 → r3 ≠ 0 → n < 6 → Rel N (pl_s1 σ n (n + 1) kd v2 v3 v4 v5 (nI (n + 1))) μ2) → Rel N σ2 μ2) → va_P (dC, dI) vwCl (ev_cw ρ2 cA 0 (hX σ2) ++ wr) H1 → va_D A (ev_cw ρ2 cA 0 (hX σ2) ++ wr) → va_S A s.heap H1 locs1 → W p l e R s m args below meth c H1 locs1 (cells + 1) (slots + 6) Q (F0 m (pc + 3) ls (.int (pl_ans r1 r2 r3 n) :: rest))) : W p l e R s m args below meth c H locs cells slots Q (F0 m pc ls st0) := by
  have hPc := wl_Pl hP
  have hDc := wl_Dl hD
  have hsub : ∀ q, va_A (ev_cw ρ cA 0 (hX σ)) H.size q → A q := by
    intro q hq
    rcases hq with ⟨j, e0, hj⟩ | hq
    · exact hDc.2 j _ hj
    · exact hA q (Nat.le_trans hS.1 hq)
  have hMt := c_player l dC dI cA ρ σ H.size v1 v2 v3 v4 v5 r1 r2 r3 n kd e1 e2 e3 hn hp hk ha he
  have hpre : ∀ U : State, U.heap = H → s.WarmedH U.vm → pl_Pc ρ dC dI cA [.ref (ρ 0), .int v1, .int v2, .int v3, .int v4, .int v5] (ev_cw ρ cA 0 (hX σ)) H.size (Value.ref (ρ 0) :: [.int v1, .int v2, .int v3, .int v4, .int v5]).toArray U := fun U hU hW =>
    ⟨rfl, by rw [hU], by rw [hU]; exact hPc, va_K.moved hW.alike hK, hDc.weaken (fun _ _ _ _ => trivial), hC.warm hW, by rw [hU]; exact ((hG.kept hS.2.1).warm hW).narrow hsub⟩
  have hrc : ∃ cell : Cell, H[ρ 0]? = some cell ∧ cell.vm.isStatics = false ∧ s.vm.findClass RX11 = some cell.cls := va_recv (ci := 11) (q0 := 0) hK hPc rfl rfl
  have hgood : GoodIn lw_tbl (wsV R_law 92 RX11 yX11_player (Cond.code yX11_player cX11_player 7 (some .int) :: ev_tb)) := lw_goodIn (by
    intro w hw
    unfold wsV at hw
    rcases List.mem_append.mp hw with hw | hw
    · simp only [List.mem_cons, List.not_mem_nil, or_false] at hw
      rcases hw with rfl | rfl | rfl | rfl
      · exact tb_mem 642 (by decide +kernel)
      · exact tb_mem 643 (by decide +kernel)
      · exact tb_mem 644 (by decide +kernel)
      · exact tb_mem 57 (by decide +kernel)
    · rcases List.mem_cons.mp hw with rfl | hw
      · exact tb_mem 645 (by decide +kernel)
      · exact hw)
  have hrun := va_runV (H := H) (locs := locs) (cells := cells) (slots := slots) (below := below) (meth := meth) (e := e) (g := F0 m pc ls st0) (rest := rest) (As := [.int v1, .int v2, .int v3, .int v4, .int v5]) S hMt (cwV (R := R) 5 S.2.2.2.2 hgood rfl rfl rfl ⟨rfl, by decide +kernel⟩ ⟨hR.1, hR.2⟩) ⟨pl_blind, hrc, hpre⟩ rfl rfl hls hst (lv_room hcat) hd hroom
  have hP' := wl_Ps hP
  have hD' := wl_Ds hD
  refine cn_callg (ws := wr) (wc := ev_cw ρ cA 0 (hX σ)) hP' hD' hS hA hrun (fun v w1 H1 locs1 hp1 hP1 hD1 hS1 => ?_)
  obtain ⟨rfl, ⟨rfl, hr⟩ | ⟨n1, n2, n3, n4, q, rfl⟩⟩ := hp1
  · exact kk σ ρ H1 locs1 rfl id (fun a _ => a hr) (wl_Ps hP1) (wl_Ds hD1) hS1
  · exact kk (pl_s1 σ n (n + 1) kd v2 v3 v4 v5 (nI (n + 1))) (pl_r ρ n q) H1 locs1 (pl_ro ρ (by omega)) (fun h => h.other (fun k hk => pl_ro ρ (by omega))) (fun _ a => a n1 n2 n3 n4) (wl_Ps hP1) (wl_Ds hD1) hS1
end PLL
theorem okl_player_X12 : lw_ok R_law 96 5 RX12 169 [1365, 1366, 1367, 63] = true := by decide +kernel
section LAW
variable {p : Program} {l : Launch} {e : Env} {s : State} {m : MethodId} {below : List Frame} {meth : Method} {c : Code} {b L : Nat} {xs : Nat → Int32} {cA : Nat → ClassId} {dC : Nat → ClassId} {dI : Nat → Nat → Nat}
variable {N : Nat} {σ : SX} {μ : SM} {ρX ρM : Nat → Nat} {H : Heap} {locs : List Loc} {ls : Array Slot}
theorem lc_player (C0 : lw_At p s m meth c b L xs) (hL : L ≤ 3584) (hi : 7 * N + 7 ≤ L) (hK : va_K (dC, dI) vwCl (ev_ty cA) s) (hC : cn_G s) (ih : lw_In p l e s m below meth c b cA dC dI (N + 1)) (hR : Rel N σ μ) (hP : va_P (dC, dI) vwCl (ev_cw ρX cA 0 (hX σ) ++ ev_cw ρM cA 0 (hM μ)) H) (hD : va_D (lwA s) (ev_cw ρX cA 0 (hX σ) ++ ev_cw ρM cA 0 (hM μ))) (hS : va_S (lwA s) s.heap H locs) (hGX : ev_G ρX (lwA s) s s.heap) (hGM : ev_G ρM (lwA s) s s.heap) (hl : lv_has ls 4 [(0, .ref b), (1, .ref (ρX 0)), (2, .ref (ρM 0)), (3, .int (nI (7 * N)))]) : W p l e room_1 s m #[Value.ref b] below meth c H locs (100 + N) (4000 + 6 * N) (lw_Z below #[Value.ref b] s) (F0 m 696 ls []) := by
  obtain ⟨hx, hb, hr, hml, hown, hts, hX', hbl, hlocks, hgv⟩ := id C0
  have hN : N < 512 := by omega
  have hS0 : CallFix p m c code 4 s #[Value.ref b] lw_tbl R_law := ⟨hx, hb, hml, hown, hts⟩
  have hA : ∀ q, s.heap.size ≤ q → lwA s q := fun _ h => h
  have hrm : 100 + N ≤ room_1.cells ∧ 4000 + 6 * N ≤ room_1.slots := ⟨by show 100 + N ≤ 600000; omega, by show 4000 + 6 * N ≤ 7302250; omega⟩
  obtain ⟨r1, r2, r3, n, kd, μ2, e1, e2, e3, hn, hp, hk, ha, he, eM, hR1, hR2⟩ := sim_player (xs (7 * N + 1)) (xs (7 * N + 2)) (xs (7 * N + 3)) (xs (7 * N + 4)) (xs (7 * N + 5)) hR
  refine lv_aload_n hx hb d_law_696 rfl (lv_at hl 1 rfl) ?_
  refine lw_arg (j := 1) hx hb hX' hbl hS hl (by omega) hL d_law_697 d_law_698 d_law_699 rfl d_law_700 d_law_701 ?_
  refine lw_arg (j := 2) hx hb hX' hbl hS hl (by omega) hL d_law_702 d_law_703 d_law_704 rfl d_law_705 d_law_706 ?_
  refine lw_arg (j := 3) hx hb hX' hbl hS hl (by omega) hL d_law_707 d_law_708 d_law_709 rfl d_law_710 d_law_711 ?_
  refine lw_arg (j := 4) hx hb hX' hbl hS hl (by omega) hL d_law_712 d_law_713 d_law_714 rfl d_law_715 d_law_716 ?_
  refine lw_arg (j := 5) hx hb hX' hbl hS hl (by omega) hL d_law_717 d_law_718 d_law_719 rfl d_law_720 d_law_721 ?_
  refine pl_call (ρ := ρX) (wr := ev_cw ρM cA 0 (hM μ)) hS0 hK hC hP hD hS hA hGX e1 e2 e3 hn hp hk ha he ⟨by decide, by decide⟩ ⟨by show 100 + N + 1 ≤ 600000; omega, by show 4000 + 6 * N + 6 ≤ 7302250; omega⟩ hl.1 rfl (Nat.le_of_ble_eq_true rfl) d_law_722 (fun σ2 ρ2 H locs hr0 hgx hR hP hD hS => ?_)
  have hR : Rel (N + 1) σ2 μ2 := hR hR1 hR2
  refine W.eq (g2 := F0 m 725 ls [.int (pl_ans r1 r2 r3 n)]) rfl ?_
  have hGX := hgx hGX
  have hl : lv_has ls 4 [(0, .ref b), (1, .ref (ρ2 0)), (2, .ref (ρM 0)), (3, .int (nI (7 * N)))] := by rw [hr0]; exact hl
  refine lv_aload_n hx hb d_law_725 rfl (lv_at hl 2 rfl) ?_
  refine lw_arg (j := 1) hx hb hX' hbl hS hl (by omega) hL d_law_726 d_law_727 d_law_728 rfl d_law_729 d_law_730 ?_
  refine lw_arg (j := 2) hx hb hX' hbl hS hl (by omega) hL d_law_731 d_law_732 d_law_733 rfl d_law_734 d_law_735 ?_
  refine lw_arg (j := 3) hx hb hX' hbl hS hl (by omega) hL d_law_736 d_law_737 d_law_738 rfl d_law_739 d_law_740 ?_
  refine lw_arg (j := 4) hx hb hX' hbl hS hl (by omega) hL d_law_741 d_law_742 d_law_743 rfl d_law_744 d_law_745 ?_
  refine lw_arg (j := 5) hx hb hX' hbl hS hl (by omega) hL d_law_746 d_law_747 d_law_748 rfl d_law_749 d_law_750 ?_
  have hP := wl_Ps hP
  have hD := wl_Ds hD
  refine lw_call (ρ := ρM) (h := hM μ) (z := (some (.int (pl_ans r1 r2 r3 n)), hM μ2)) (as := [.int (xs (7 * N + 1)), .int (xs (7 * N + 2)), .int (xs (7 * N + 3)), .int (xs (7 * N + 4)), .int (xs (7 * N + 5))]) hS0 hK hP hD hS hA hGM (tX12_player 7 μ (xs (7 * N + 1)) (xs (7 * N + 2)) (xs (7 * N + 3)) (xs (7 * N + 4)) (xs (7 * N + 5)) (pl_ans r1 r2 r3 n, μ2) eM) okl_player_X12 (ci := 12) rfl rfl rfl ⟨by decide, by decide⟩ ⟨by show 100 + N + 1 ≤ 600000; omega, by show 4000 + 6 * N + 6 ≤ 7302250; omega⟩ hl.1 rfl rfl (Nat.le_of_ble_eq_true rfl) d_law_751 (fun H locs hP hD hS => ?_)
  have hP := wl_Ps hP
  have hD := wl_Ds hD
  refine W.eq (g2 := F0 m 754 ls [.int (pl_ans r1 r2 r3 n), .int (pl_ans r1 r2 r3 n)]) rfl ?_
  refine lv_icmp_eq (tgt := 1389) hx hb d_law_754 (by decide) (fun _ => ?_) (fun hne => absurd rfl hne)
  exact lc_end C0 hN ih hR hP hD hS hGX hGM hl (by omega) (by omega)
end LAW
