def pl_ans (r1 r2 r3 : Int32) (n : Nat) : Int32 := if r1 = 0 then -102 else if r2 = 0 then -101 else if r3 = 0 then -102 else if n = 6 then -104 else nI n
def pl_P (ρ : Nat → Nat) (cA : Nat → ClassId) (σ : SX) (r1 r2 r3 : Int32) (n kd : Nat) (v2 v3 v4 v5 : Int32) (v : Option Value) (w1 : va_W) : Prop := v = some (.int (pl_ans r1 r2 r3 n)) ∧ ((w1 = ev_cw ρ cA 0 (hX σ) ∧ (r1 = 0 ∨ r2 = 0 ∨ r3 = 0 ∨ n = 6)) ∨ (r1 ≠ 0 ∧ r2 ≠ 0 ∧ r3 ≠ 0 ∧ n < 6 ∧ ∃ q, w1 = ev_cw (pl_r ρ n q) cA 0 (hX (pl_s1 σ n (n + 1) kd v2 v3 v4 v5 (nI (n + 1))))))
def pl_Pc (ρ : Nat → Nat) (dC : Nat → ClassId) (dI : Nat → Nat → Nat) (cA : Nat → ClassId) (av : List Value) (W0 : va_W) (sz : Nat) : Array Value → State → Prop := va_Pc av (fun U => U.heap.size = sz ∧ va_P (dC, dI) vwCl W0 U.heap ∧ va_K (dC, dI) vwCl (ev_ty cA) U ∧ va_D (fun _ => True) W0 ∧ cn_G U ∧ ev_G ρ (va_A W0 sz) U U.heap)
theorem pl_blind {ρ : Nat → Nat} {dC : Nat → ClassId} {dI : Nat → Nat → Nat} {cA : Nat → ClassId} {av : List Value} {W0 : va_W} {sz : Nat} : FrameBlind (pl_Pc ρ dC dI cA av W0 sz) := by
  intro a U g mk hq
  obtain ⟨e1, e2, e3, e4, e5, e6, e7⟩ := hq
  exact ⟨e1, e2, e3, va_K.moved (u := U) (U := U.calling g mk a) (Vm.Alike.refl U.vm) e4, e5, cn_G.same (s := U) (U := U.calling g mk a) rfl e6, ev_G.same (s := U) (U := U.calling g mk a) rfl e7⟩
theorem pl_st16 (ρ : Nat → Nat) (cA : Nat → ClassId) {σ : SX} {n kd : Nat} {to sz cl gg pl : Int32} : (ev_cw ρ cA 0 (hX (pl_s1 σ n n kd to sz cl gg pl))).set 16 (ρ 16, .inl (cA 4, 6, .inr (.inr (.inr (.inr (va_up (fun i => (pl_ar n i).map ρ) n (some (ρ (20 + n))))))))) = ev_cw ρ cA 0 (hX (pl_s1 σ n (n + 1) kd to sz cl gg pl)) := by
  have h : (va_up (fun i => (pl_ar n i).map ρ) n (some (ρ (20 + n)))) = (fun i => (pl_ar (n + 1) i).map ρ) := by
    funext i
    unfold va_up pl_ar
    by_cases e : i = n
    · subst e; rw [if_pos rfl, if_pos (Nat.lt_succ_self _)]; rfl
    · rw [if_neg e]
      show Option.map ρ (if i < n then some (20 + i) else none) = _
      by_cases h : i < n
      · rw [if_pos h, if_pos (by omega)]
      · rw [if_neg h, if_neg (by omega)]
  rw [h]
  rfl
theorem pl_st0 (ρ : Nat → Nat) (cA : Nat → ClassId) {σ : SX} {n m kd : Nat} {to sz cl gg pl pl' : Int32} : (ev_cw ρ cA 0 (hX (pl_s1 σ n m kd to sz cl gg pl))).set 0 (ρ 0, .inr (11, [.ref (ρ 1), .ref (ρ 3), .ref (ρ 8), .ref (ρ 16), .ref (ρ 17), .ref (ρ 18), .int pl', .int (gx_tp_ringsRead σ), .int (gx_tp_standsDone σ), .int (gx_tp_imageKept σ)])) = ev_cw ρ cA 0 (hX (pl_s1 σ n m kd to sz cl gg pl')) := rfl
section PLR
variable {p : Program} {l : Launch} {e : Env} {R : Room} {s : State} {m : MethodId} {args : Array Value} {below : List Frame} {meth : Method} {c : Code} {Q : State → Prop} {cc : ByteArray} {cA : Nat → ClassId} {dC : Nat → ClassId} {dI : Nat → Nat → Nat} {A : Nat → Prop} {H : Heap} {locs : List Loc} {cells slots : Nat} {ws : va_W} {pc : Nat} {ls : Array Slot} {rest : List Value}
/-- a player is put into the row -/
theorem pl_ast (hx : p.tables.exec = Jvm.exec) (hb : c.code = cc) (hK : va_K (dC, dI) vwCl (ev_ty cA) s) (hG : cn_G s) (hP : va_P (dC, dI) vwCl ws H) (hD : va_D A ws) (hS : va_S A s.heap H locs) {q0 qk a v n kd : Nat} {vs : List Value} {f : Nat → Option Nat} (hk : kd < 6) (ha : ws[q0]? = some (a, .inl (cA 4, n, .inr (.inr (.inr (.inr f)))))) (hv : ws[qk]? = some (v, .inr (ev_kc kd, vs))) {i : Int32} (hin : vp_in i n) (hdg : decode cc pc = .ok (.aastore, 1))
    (kk : ∀ (H1 : Heap) (locs1 : List Loc), va_P (dC, dI) vwCl (ws.set q0 (a, .inl (cA 4, n, .inr (.inr (.inr (.inr (va_up f i.toNatClampNeg (some v)))))))) H1 → va_D A (ws.set q0 (a, .inl (cA 4, n, .inr (.inr (.inr (.inr (va_up f i.toNatClampNeg (some v)))))))) → va_S A s.heap H1 locs1 → W p l e R s m args below meth c H1 locs1 cells slots Q (F0 m (pc + 1) ls rest)) : W p l e R s m args below meth c H locs cells slots Q (F0 m pc ls (.ref v :: .int i :: .ref a :: rest)) := by
  obtain ⟨C, hc, h | h⟩ := kc_lay hk
  · obtain ⟨-, rfl⟩ := h
    exact va_astq hx hb hK hP hD hS q0 4 qk (ev_kc kd) ha rfl hv hc hin hdg kk
  · exact va_astqO hx hb hK hP hD hS q0 4 qk (ev_kc kd) ha rfl (hG.2.2.2 C h) hv hc hin hdg kk
end PLR
set_option maxHeartbeats 4000000 in
set_option maxRecDepth 100000 in
theorem c_player (l : Launch) (dC : Nat → ClassId) (dI : Nat → Nat → Nat) (cA : Nat → ClassId) (ρ : Nat → Nat) (σ : SX) (sz : Nat) (v1 v2 v3 v4 v5 r1 r2 r3 : Int32) (n kd : Nat) (e1 : fX11_isWithin v1 5 = some r1) (e2 : fX7_isFree σ v2 = some r2) (e3 : fX11_couldBeFelt v3 v4 v5 = some r3) (hn : n ≤ 6) (hp : gx_tp_playing σ = nI n) (hk : r1 ≠ 0 → kd < 6 ∧ v1 = nI kd) (ha : ∀ i, i < 6 → gx_pl_arr σ i = if i < n then some (20 + i) else none) (he : ∀ i, i < n → gx_pl_ex σ i = true) : Met l yX11_player (Cond.code yX11_player cX11_player 7 (some .int) :: ev_tb) { frames := 5, cells := 1, slots := 6, locals := 140 } (pl_Pc ρ dC dI cA [.ref (ρ 0), .int v1, .int v2, .int v3, .int v4, .int v5] (ev_cw ρ cA 0 (hX σ)) sz) (cn_Q dC dI (ev_cw ρ cA 0 (hX σ)) sz (pl_P ρ cA σ r1 r2 r3 n kd v2 v3 v4 v5)) 1 6 (va_A (ev_cw ρ cA 0 (hX σ)) sz) := by
  refine Met.ofW (cc := cX11_player) (maxL := 7) (ret := some .int) (by decide) rfl ?_
  intro p e s m args below meth c s₁ B hml hv
  obtain ⟨rfl, hsz, hP, hK, hD0, hG, hGv⟩ := hv
  have hx := B.exec
  have hb := B.bytes
  have hr := B.returns
  have hts : ∀ w ∈ ev_tb, w.before _ s = true := fun w hw => atoms_spec (ws := Cond.code yX11_player cX11_player 7 (some .int) :: ev_tb) B.pre w (List.mem_cons_of_mem _ hw)
  have hown : s.vm.findClass RX11 = some m.cls := findClass_of_methodNamed B.named
  subst hsz
  have hD := hD0.self (sz := s.heap.size)
  generalize hAe : va_A (ev_cw ρ cA 0 (hX σ)) s.heap.size = A at hD hGv ⊢
  have hA : ∀ q : Nat, s.heap.size ≤ q → A q := fun q h => by rw [← hAe]; exact Or.inr h
  have hS : va_S A s.heap s.heap [] := va_S.rf
  have hl := lv_entry ([.ref (ρ 0), .int v1, .int v2, .int v3, .int v4, .int v5]) (n := 7) (Nat.le_of_ble_eq_true rfl)
  rw [lg_entry_eq]
  generalize (lg_sl ([.ref (ρ 0), .int v1, .int v2, .int v3, .int v4, .int v5]) ++ List.replicate (7 - (lg_sl ([.ref (ρ 0), .int v1, .int v2, .int v3, .int v4, .int v5])).length) Slot.unset).toArray = ls at hl ⊢
  have hl : lv_has ls 7 [(0, .ref (ρ 0)), (1, .int v1), (2, .int v2), (3, .int v3), (4, .int v4), (5, .int v5)] := hl
  have hS0 : CallFix p m c cX11_player 7 s _ ev_tb RX11 := ⟨hx, hb, hml, hown, hts⟩
  refine lv_iload_n hx hb dX11_player_0 rfl (lv_at hl 1 rfl) ?_
  refine lv_iconst (v := 5) hx hb dX11_player_1 rfl ?_
  refine pl_cS (ρ := ρ) (h := hX σ) (as := [.int v1, .int 5]) hS0 (fun _ h => h) hK hP hD hS hA hGv (tX11_isWithin 0 (hX σ) v1 5 r1 e1) ok_pl_within ⟨by decide, by decide⟩ ⟨by decide, by decide⟩ hl.1 rfl rfl (Nat.le_of_ble_eq_true rfl) dX11_player_2 (fun H locs hP hD hS => ?_)
  refine W.eq (g2 := F0 m 5 ls [.int r1]) rfl ?_
  refine lv_if_ne (tgt := 11) hx hb dX11_player_5 (by decide) (fun n1 => ?_) (fun z1 => ?_)
  rotate_left
  · refine lv_bipush (v := -102) hx hb dX11_player_8 rfl ?_
    refine W.widen (k := 1) (n := 6) (Nat.le_of_ble_eq_true rfl) (Nat.le_of_ble_eq_true rfl) ?_
    exact W.iret hx hb hr (fun t ht hW => ⟨⟨_, _, rfl, ⟨by unfold pl_ans; rw [if_pos z1], Or.inl ⟨rfl, Or.inl z1⟩⟩, by rw [ht]; exact hP, by rw [hAe]; exact hD⟩, by rw [hAe]; exact hS.F ht⟩) hS.2.2 dX11_player_10
  refine lv_aload_n hx hb dX11_player_11 rfl (lv_at hl 0 rfl) ?_
  refine va_get (D := (dC, dI)) (ci := 11) (v := .ref (ρ 3)) (C := RX11) (T := TX11) (N := 10) hx hb hts (ev_lay _ (List.mem_of_getElem? (i := 11) rfl)) hown hK hP 0 rfl rfl 1 (by decide) (hts (.fieldLink RX11 19 "WithEyesBound" "ring" "LWithEyesBound$Ring;") (tb_mem 256 (by decide +kernel))) (fun _ h9 => h9) rfl dX11_player_12 ?_
  refine lv_iload_n hx hb dX11_player_15 rfl (lv_at hl 2 rfl) ?_
  refine pl_cV (ρ := ρ) (h := hX σ) (a := 3) (as := [.int v2]) hS0 (fun _ h => h) hK hP hD hS hA hGv (tX7_isFree 0 σ v2 r2 e2) ok_pl_free (ci := 7) rfl rfl rfl ⟨by decide, by decide⟩ ⟨by decide, by decide⟩ hl.1 rfl rfl (Nat.le_of_ble_eq_true rfl) dX11_player_16 (fun H locs hP hD hS => ?_)
  refine W.eq (g2 := F0 m 19 ls [.int r2]) rfl ?_
  refine lv_if_ne (tgt := 25) hx hb dX11_player_19 (by decide) (fun n2 => ?_) (fun z2 => ?_)
  rotate_left
  · refine lv_bipush (v := -101) hx hb dX11_player_22 rfl ?_
    refine W.widen (k := 1) (n := 6) (Nat.le_of_ble_eq_true rfl) (Nat.le_of_ble_eq_true rfl) ?_
    exact W.iret hx hb hr (fun t ht hW => ⟨⟨_, _, rfl, ⟨by unfold pl_ans; rw [if_neg n1, if_pos z2], Or.inl ⟨rfl, Or.inr (Or.inl z2)⟩⟩, by rw [ht]; exact hP, by rw [hAe]; exact hD⟩, by rw [hAe]; exact hS.F ht⟩) hS.2.2 dX11_player_24
  refine lv_iload_n hx hb dX11_player_25 rfl (lv_at hl 3 rfl) ?_
  refine lv_iload hx hb dX11_player_26 (lv_at hl 4 rfl) ?_
  refine lv_iload hx hb dX11_player_28 (lv_at hl 5 rfl) ?_
  refine pl_cS (ρ := ρ) (h := hX σ) (as := [.int v3, .int v4, .int v5]) hS0 (fun _ h => h) hK hP hD hS hA hGv (tX11_couldBeFelt 0 (hX σ) v3 v4 v5 r3 e3) ok_pl_felt ⟨by decide, by decide⟩ ⟨by decide, by decide⟩ hl.1 rfl rfl (Nat.le_of_ble_eq_true rfl) dX11_player_30 (fun H locs hP hD hS => ?_)
  refine W.eq (g2 := F0 m 33 ls [.int r3]) rfl ?_
  refine lv_if_ne (tgt := 39) hx hb dX11_player_33 (by decide) (fun n3 => ?_) (fun z3 => ?_)
  rotate_left
  · refine lv_bipush (v := -102) hx hb dX11_player_36 rfl ?_
    refine W.widen (k := 1) (n := 6) (Nat.le_of_ble_eq_true rfl) (Nat.le_of_ble_eq_true rfl) ?_
    exact W.iret hx hb hr (fun t ht hW => ⟨⟨_, _, rfl, ⟨by unfold pl_ans; rw [if_neg n1, if_neg n2, if_pos z3], Or.inl ⟨rfl, Or.inr (Or.inr (Or.inl z3))⟩⟩, by rw [ht]; exact hP, by rw [hAe]; exact hD⟩, by rw [hAe]; exact hS.F ht⟩) hS.2.2 dX11_player_38
  have hpl : ∀ {pc : Nat} {H : Heap} {locs : List Loc} {cells slots : Nat} {ls : Array Slot} {rest : List Value} {Q : State → Prop}, va_P (dC, dI) vwCl (ev_cw ρ cA 0 (hX σ)) H → decode cX11_player pc = .ok (.getfield 83, 3) → W p l e { frames := 5, cells := 1, slots := 6, locals := 140 } s m _ below meth c H locs cells slots Q (F0 m (pc + 3) ls (.int (nI n) :: rest)) → W p l e { frames := 5, cells := 1, slots := 6, locals := 140 } s m _ below meth c H locs cells slots Q (F0 m pc ls (.ref (ρ 0) :: rest)) := fun hP hd kk => by
    refine va_get (D := (dC, dI)) (ci := 11) (v := .int (gx_tp_playing σ)) (C := RX11) (T := TX11) (N := 10) hx hb hts (ev_lay _ (List.mem_of_getElem? (i := 11) rfl)) hown hK hP 0 rfl rfl 6 (by decide) (hts (.fieldLink RX11 83 "WithEyesBound" "playing" "I") (tb_mem 261 (by decide +kernel))) (fun _ h9 => h9) rfl hd ?_
    rw [hp]; exact kk
  have hrow : ∀ {pc : Nat} {H : Heap} {locs : List Loc} {cells slots : Nat} {ls : Array Slot} {rest : List Value} {Q : State → Prop} {ρ : Nat → Nat} {σ : SX} {x : va_W}, va_P (dC, dI) vwCl (ev_cw ρ cA 0 (hX σ) ++ x) H → decode cX11_player pc = .ok (.getfield 34, 3) → W p l e { frames := 5, cells := 1, slots := 6, locals := 140 } s m _ below meth c H locs cells slots Q (F0 m (pc + 3) ls (.ref (ρ 16) :: rest)) → W p l e { frames := 5, cells := 1, slots := 6, locals := 140 } s m _ below meth c H locs cells slots Q (F0 m pc ls (.ref (ρ 0) :: rest)) := fun {pc H locs cells slots ls rest Q ρ σ x} hP hd kk => by
    exact va_get (D := (dC, dI)) (ci := 11) (v := .ref (ρ 16)) (C := RX11) (T := TX11) (N := 10) hx hb hts (ev_lay _ (List.mem_of_getElem? (i := 11) rfl)) hown hK hP 0 rfl rfl 3 (by decide) (hts (.fieldLink RX11 34 "WithEyesBound" "players" "[LWithEyesBound$Player;") (tb_mem 258 (by decide +kernel))) (fun _ h9 => h9) rfl hd kk
  refine lv_aload_n hx hb dX11_player_39 rfl (lv_at hl 0 rfl) ?_
  refine hpl hP dX11_player_40 ?_
  refine lv_if_lt (tgt := 58) hx hb dX11_player_43 (by decide) (fun z => absurd z (nI_pos (by omega))) (fun _ => ?_)
  refine lv_aload_n hx hb dX11_player_46 rfl (lv_at hl 0 rfl) ?_
  refine hpl hP dX11_player_47 ?_
  refine lv_aload_n hx hb dX11_player_50 rfl (lv_at hl 0 rfl) ?_
  refine hrow (ρ := ρ) (σ := σ) (x := []) (by rw [List.append_nil]; exact hP) dX11_player_51 ?_
  refine va_alen (D := (dC, dI)) hx hb hK hP 16 4 rfl rfl (v := nI 6) rfl dX11_player_54 ?_
  refine lv_icmp_lt (tgt := 61) hx hb dX11_player_55 (by decide) (fun n4 => ?_) (fun z4 => ?_)
  rotate_left
  · have hn6 : n = 6 := by rw [nI_ltI (by omega) (by omega)] at z4; omega
    refine lv_bipush (v := -104) hx hb dX11_player_58 rfl ?_
    refine W.widen (k := 1) (n := 6) (Nat.le_of_ble_eq_true rfl) (Nat.le_of_ble_eq_true rfl) ?_
    exact W.iret hx hb hr (fun t ht hW => ⟨⟨_, _, rfl, ⟨by unfold pl_ans; rw [if_neg n1, if_neg n2, if_neg n3, if_pos hn6], Or.inl ⟨rfl, Or.inr (Or.inr (Or.inr hn6))⟩⟩, by rw [ht]; exact hP, by rw [hAe]; exact hD⟩, by rw [hAe]; exact hS.F ht⟩) hS.2.2 dX11_player_60
  have hn6 : n < 6 := by rw [nI_ltI (by omega) (by omega)] at n4; exact n4
  obtain ⟨hkd, rfl⟩ := hk n1
  refine lv_iload_n hx hb dX11_player_61 rfl (lv_at hl 1 rfl) ?_
  refine cn_S (ws := ev_cw ρ cA 0 (hX σ)) (wc := []) (As := [.int (nI kd)]) (n := 1) hS0 (fun _ h => h) hK hG (by rw [List.append_nil]; exact hP) (by rw [List.append_nil]; exact hD) hS hA (c_kind l dC dI cA H.size hkd) (tb_mem 651 (by decide +kernel)) rfl rfl (tb_mem 57 (by decide +kernel)) (tb_mem 649 (by decide +kernel)) (tb_mem 650 (by decide +kernel)) (by decide +kernel) ⟨Nat.le_of_ble_eq_true rfl, Nat.le_of_ble_eq_true rfl⟩ ⟨Nat.le_of_ble_eq_true rfl, Nat.le_of_ble_eq_true rfl⟩ rfl hl.1 rfl (Nat.le_of_ble_eq_true rfl) dX11_player_62 (fun v w1 H locs hp' hP hD hS => ?_)
  obtain ⟨q, rfl, rfl⟩ := hp'
  refine W.eq (g2 := F0 m 65 ls [.ref q]) rfl ?_
  refine lv_astore (lv' := [(6, .ref q), (0, .ref (ρ 0)), (1, .int (nI kd)), (2, .int v2), (3, .int v3), (4, .int v4), (5, .int v5)]) hx hb dX11_player_65 hl (by decide) rfl (fun ls hl => ?_)
  refine lv_aload hx hb dX11_player_67 (lv_at hl 0 rfl) ?_
  refine lv_iload_n hx hb dX11_player_69 rfl (lv_at hl 3 rfl) ?_
  refine pl_put (k := 0) (i := 663) hx hb hts hown hK hkd hP hD hS (by decide) (by decide +kernel) rfl dX11_player_70 (fun H locs hP hD hS => ?_)
  refine lv_aload hx hb dX11_player_73 (lv_at hl 0 rfl) ?_
  refine lv_iload_n hx hb dX11_player_75 rfl (lv_at hl 4 rfl) ?_
  refine pl_put (k := 3) (i := 677) hx hb hts hown hK hkd hP hD hS (by decide) (by decide +kernel) rfl dX11_player_76 (fun H locs hP hD hS => ?_)
  refine lv_aload hx hb dX11_player_79 (lv_at hl 0 rfl) ?_
  refine lv_iload hx hb dX11_player_81 (lv_at hl 5 rfl) ?_
  refine pl_put (k := 4) (i := 680) hx hb hts hown hK hkd hP hD hS (by decide) (by decide +kernel) rfl dX11_player_83 (fun H locs hP hD hS => ?_)
  refine lv_aload hx hb dX11_player_86 (lv_at hl 0 rfl) ?_
  refine lv_iload hx hb dX11_player_88 (lv_at hl 6 rfl) ?_
  refine pl_put (k := 5) (i := 683) hx hb hts hown hK hkd hP hD hS (by decide) (by decide +kernel) rfl dX11_player_90 (fun H locs hP hD hS => ?_)
  have hP : va_P (dC, dI) vwCl (ev_cw ρ cA 0 (hX σ) ++ [(q, .inr (ev_kc kd, [.int v2, .int (-1), .int 0, .int v3, .int v4, .int v5]))]) H := hP
  have hD : va_D A (ev_cw ρ cA 0 (hX σ) ++ [(q, .inr (ev_kc kd, [.int v2, .int (-1), .int 0, .int v3, .int v4, .int v5]))]) := hD
  have hto := pl_to ρ cA q hn6 ha he
  have hP : va_P (dC, dI) vwCl (ev_cw (pl_r ρ n q) cA 0 (hX (pl_s0 σ n)) ++ [(q, .inr (ev_kc kd, [.int v2, .int (-1), .int 0, .int v3, .int v4, .int v5]))]) H := va_P.app (hl_P 0 _ _ hto _ _ _ (wl_Pl hP)) (wl_Pr hP)
  have hD : va_D A (ev_cw (pl_r ρ n q) cA 0 (hX (pl_s0 σ n)) ++ [(q, .inr (ev_kc kd, [.int v2, .int (-1), .int 0, .int v3, .int v4, .int v5]))]) := wd_sub (by rw [List.map_append, List.map_append]; exact (hl_S 0 _ _ hto).append (List.Sublist.refl _)) hD
  have r0 : pl_r ρ n q 0 = ρ 0 := pl_ro ρ (by omega)
  have hl : lv_has ls 7 [(6, .ref q), (0, .ref (pl_r ρ n q 0)), (1, .int (nI kd)), (2, .int v2), (3, .int v3), (4, .int v4), (5, .int v5)] := by rw [r0]; exact hl
  refine lv_aload_n hx hb dX11_player_93 rfl (lv_at hl 1 rfl) ?_
  refine hrow (ρ := pl_r ρ n q) (σ := pl_s0 σ n) hP dX11_player_94 ?_
  refine lv_aload_n hx hb dX11_player_97 rfl (lv_at hl 1 rfl) ?_
  refine va_get (D := (dC, dI)) (ci := 11) (v := .int (gx_tp_playing σ)) (C := RX11) (T := TX11) (N := 10) hx hb hts (ev_lay _ (List.mem_of_getElem? (i := 11) rfl)) hown hK hP 0 rfl rfl 6 (by decide) (hts (.fieldLink RX11 83 "WithEyesBound" "playing" "I") (tb_mem 261 (by decide +kernel))) (fun _ h9 => h9) rfl dX11_player_98 ?_
  rw [hp]
  refine lv_aload hx hb dX11_player_101 (lv_at hl 0 rfl) ?_
  refine pl_ast (n := 6) (q0 := 16) (qk := (ev_cw (pl_r ρ n q) cA 0 (hX (pl_s0 σ n))).length) hx hb hK hG hP hD hS hkd rfl (ls_at _ _) (vp_in_nI hn6 (by decide)) dX11_player_103 (fun H locs hP hD hS => ?_)
  have hw : (ev_cw (pl_r ρ n q) cA 0 (hX (pl_s0 σ n)) ++ ([(q, .inr (ev_kc kd, [.int v2, .int (-1), .int 0, .int v3, .int v4, .int v5]))] : va_W)).set 16 (pl_r ρ n q 16, .inl (cA 4, 6, .inr (.inr (.inr (.inr (va_up (fun i => (pl_ar n i).map (pl_r ρ n q)) (nI n).toNatClampNeg (some q))))))) = ev_cw (pl_r ρ n q) cA 0 (hX (pl_s1 σ n (n + 1) kd v2 v3 v4 v5 (gx_tp_playing σ))) := by
    rw [nI_clamp (by omega), ← pl_st16]
    have hqq := pl_rn ρ n q
    rw [hqq, pl_new (pl_r ρ n q) cA hn6, hqq]
  have hP : va_P (dC, dI) vwCl (ev_cw (pl_r ρ n q) cA 0 (hX (pl_s1 σ n (n + 1) kd v2 v3 v4 v5 (gx_tp_playing σ)))) H := by rw [← hw]; exact hP
  have hD : va_D A (ev_cw (pl_r ρ n q) cA 0 (hX (pl_s1 σ n (n + 1) kd v2 v3 v4 v5 (gx_tp_playing σ)))) := by rw [← hw]; exact hD
  refine lv_aload_n hx hb dX11_player_104 rfl (lv_at hl 1 rfl) ?_
  refine lv_dup hx hb dX11_player_105 rfl ?_
  refine va_get (D := (dC, dI)) (ci := 11) (v := .int (gx_tp_playing σ)) (C := RX11) (T := TX11) (N := 10) hx hb hts (ev_lay _ (List.mem_of_getElem? (i := 11) rfl)) hown hK hP 0 rfl rfl 6 (by decide) (hts (.fieldLink RX11 83 "WithEyesBound" "playing" "I") (tb_mem 261 (by decide +kernel))) (fun _ h9 => h9) rfl dX11_player_106 ?_
  rw [hp]
  refine lv_iconst (v := nI 1) hx hb dX11_player_109 rfl ?_
  refine lv_iadd hx hb dX11_player_110 ?_
  rw [nI_add]
  refine va_put (D := (dC, dI)) (ci := 11) (v := .int (nI (n + 1))) (ty := .int) (C := RX11) (T := TX11) (N := 10) hx hb hts (ev_lay _ (List.mem_of_getElem? (i := 11) rfl)) tyX11 tyX11_ok nmX11 hown hK hP hD hS 0 rfl rfl 6 (by decide) (hts (.fieldLink RX11 83 "WithEyesBound" "playing" "I") (tb_mem 261 (by decide +kernel))) (fun _ h9 => h9) rfl (by decide +kernel) rfl rfl (Nat.le_of_ble_eq_true rfl) dX11_player_111 (fun H locs hP hD hS => ?_)
  have hP : va_P (dC, dI) vwCl (ev_cw (pl_r ρ n q) cA 0 (hX (pl_s1 σ n (n + 1) kd v2 v3 v4 v5 (nI (n + 1))))) H := hP
  have hD : va_D A (ev_cw (pl_r ρ n q) cA 0 (hX (pl_s1 σ n (n + 1) kd v2 v3 v4 v5 (nI (n + 1))))) := hD
  refine lv_aload_n hx hb dX11_player_114 rfl (lv_at hl 1 rfl) ?_
  refine va_get (D := (dC, dI)) (ci := 11) (v := .int (nI (n + 1))) (C := RX11) (T := TX11) (N := 10) hx hb hts (ev_lay _ (List.mem_of_getElem? (i := 11) rfl)) hown hK hP 0 rfl rfl 6 (by decide) (hts (.fieldLink RX11 83 "WithEyesBound" "playing" "I") (tb_mem 261 (by decide +kernel))) (fun _ h9 => h9) rfl dX11_player_115 ?_
  refine lv_iconst (v := nI 1) hx hb dX11_player_118 rfl ?_
  refine lv_isub hx hb dX11_player_119 ?_
  rw [show nI (n + 1) - nI 1 = nI n from by rw [← nI_add, Int32.add_sub_cancel]]
  refine W.iret hx hb hr (fun t ht hW => ⟨⟨_, _, rfl, ⟨by unfold pl_ans; rw [if_neg n1, if_neg n2, if_neg n3, if_neg (by omega)], Or.inr ⟨n1, n2, n3, hn6, q, rfl⟩⟩, by rw [ht]; exact hP, by rw [hAe]; exact hD⟩, by rw [hAe]; exact hS.F ht⟩) hS.2.2 dX11_player_120
