section EVS
variable {p : Program} {l : Launch} {e : Env} {R : Room} {s : State} {m : MethodId} {args : Array Value} {below : List Frame} {meth : Method} {c : Code} {Q : State → Prop} {own : String} {cc : ByteArray} {nL : Nat} {ρ : Nat → Nat} {cA : Nat → ClassId} {dC : Nat → ClassId} {dI : Nat → Nat → Nat} {A : Nat → Prop} {mt : List ev_MI}
/-- behind a call, whatever it answers -/
theorem ev_callg {H H0 : Heap} {locs : List Loc} {pc : Nat} {ls : Array Slot} {st0 rest : List Value} {A0 A1 free : Nat → Prop} {B : State → Prop} {v : Option Value} (hr : va_Run p l e R s m args below meth c H locs 0 0 0 0 (F0 m pc ls st0) rest (fun st oc t => (oc = .returned v ∧ B t) ∧ va_F A1 st t) free) (hS : va_S A0 H0 H locs) (hA : ∀ q, q < H.size → A1 q → A0 q) (hf : ∀ q, free q → A0 q)
    (kk : ∀ (t : State) (H1 : Heap) (locs1 : List Loc), t.heap = H1 → B t → va_S A0 H0 H1 locs1 → W p l e R s m args below meth c H1 locs1 0 0 Q (F0 m (pc + 3) ls (v.toList ++ rest))) : W p l e R s m args below meth c H locs 0 0 Q (F0 m pc ls st0) := by
  intro T hT X
  obtain ⟨v', st₀, t, T', L, h0, X', hL, e1, e2, ⟨⟨hv, hb⟩, hz, hk⟩, st⟩ := hr T hT X
  cases hv
  rw [h0] at hz hk
  obtain ⟨t2, a1, b1⟩ := kk t T'.heap (locs ++ L) e1.symm hb
    ⟨Nat.le_trans hS.1 (by rw [e1]; exact hz), fun q h1 h2 => by rw [e1, hk q (Nat.lt_of_lt_of_le h1 hS.1) (fun z => h2 (hA q (Nat.lt_of_lt_of_le h1 hS.1) z))]; exact hS.2.1 q h1 h2, fun q hq => by
      rcases List.mem_append.mp hq with h | h
      · exact hS.2.2 q h
      · exact hf _ (hL q h)⟩ T' rfl X'
  exact ⟨t2, st t2 a1, b1⟩
theorem ev_room1 {d nY : Nat} (h : nY ≤ 21) : (ev_rm d).frames + 1 ≤ (ev_rm (d + 1)).frames ∧ 8 + (nY + 11) + (ev_rm d).locals ≤ (ev_rm (d + 1)).locals := by
  unfold ev_rm
  exact ⟨Nat.le_refl _, by dsimp only; omega⟩
set_option maxHeartbeats 4000000 in
theorem ev_sndC {d : Nat} (F : ev_Fx p s m args c own cc nL ρ cA dC dI A) {en : ev_E} (hok : ev_ok mt own cc en = true) {ls : ev_L} {st : List Value} {h : ev_H} {k : Nat} {as rest : List Value} {z : ev_Z} (ho : ev_inv en st h = some (k, as, rest))
    (hM : ∀ (o : String) (y : MethodName) (cY : ByteArray) (nY : Nat) (rY : Option FieldType) (I : List ev_E) (PM : List Nat), mt[k]? = some (o, y, cY, nY, rY, I, PM) → ∀ sz, Met l y (Cond.code y cY nY rY :: ev_tb) (ev_rm d) (ev_Pc ρ cA dC dI as h sz) (ev_Qc ρ cA dC dI h sz z) 0 0 (va_A (ev_cw ρ cA 0 h) sz))
    (next : ev_Wc p l e (ev_rm (d + 1)) s m args below meth c Q nL ρ cA dC dI A (en.1 + 3, ls, z.1.toList ++ rest, z.2)) : ev_Wc p l e (ev_rm (d + 1)) s m args below meth c Q nL ρ cA dC dI A (en.1, ls, st, h) := by
  obtain ⟨hx, hb, hml, hown, hts, hK, hG, hA⟩ := F
  obtain ⟨pc, i, len, x, tgt, cst, D, P⟩ := en
  intro H locs lr hP hD hS hl hlen
  change va_P (dC, dI) vwCl (ev_cw ρ cA 0 h) H at hP
  change va_D A (ev_cw ρ cA 0 h) at hD
  change lv_has lr nL (ev_la ρ 0 ls) at hl
  change ls.length = nL at hlen
  change W p l e (ev_rm (d + 1)) s m args below meth c H locs 0 0 Q (F0 m pc lr (st.map (ev_cv ρ)))
  have hsub : ∀ q, va_A (ev_cw ρ cA 0 h) H.size q → A q := by
    intro q hq
    rcases hq with ⟨j, e0, hj⟩ | hq
    · exact hD.2 j _ hj
    · exact hA q (Nat.le_trans hS.1 hq)
  have hG2 : ∀ U : State, U.heap = H → s.WarmedH U.vm → ev_G ρ (va_A (ev_cw ρ cA 0 h) H.size) U U.heap := fun U hU hW => by
    rw [hU]
    exact ((hG.kept hS.2.1).warm hW).narrow hsub
  have hpre : ∀ U : State, U.heap = H → s.WarmedH U.vm → ev_Pc ρ cA dC dI as h H.size (as.map (ev_cv ρ)).toArray U := fun U hU hW =>
    ⟨rfl, by rw [hU], by rw [hU]; exact hP, va_K.moved hW.alike hK, hD.weaken (fun _ _ _ _ => trivial), hG2 U hU hW⟩
  have after : ∀ (st0 rest' : List Value), rest' = rest.map (ev_cv ρ) → va_Run p l e (ev_rm (d + 1)) s m args below meth c H locs 0 0 0 0 (F0 m pc lr st0) rest' (ev_Qc ρ cA dC dI h H.size z (as.map (ev_cv ρ)).toArray) (va_A (ev_cw ρ cA 0 h) H.size) → W p l e (ev_rm (d + 1)) s m args below meth c H locs 0 0 Q (F0 m pc lr st0) := by
    intro st0 rest' hrest hrun
    subst hrest
    refine ev_callg (A1 := va_A (ev_cw ρ cA 0 h) H.size) (B := fun t => va_P (dC, dI) vwCl (ev_cw ρ cA 0 z.2) t.heap ∧ va_D (va_A (ev_cw ρ cA 0 h) H.size) (ev_cw ρ cA 0 z.2)) (v := z.1.map (ev_cv ρ)) hrun hS (fun q _ => hsub q) hsub (fun t H1 locs1 ht hB hS1 => ?_)
    have n1 := next H1 locs1 lr (by rw [← ht]; exact hB.1) (hB.2.weaken (fun _ q _ hq => hsub q.1 hq)) hS1 hl hlen
    refine W.eq ?_ n1
    show F0 m (pc + 3) lr _ = F0 m (pc + 3) lr _
    congr 1
    show (z.1.map (ev_cv ρ)).toList ++ rest.map (ev_cv ρ) = (z.1.toList ++ rest).map (ev_cv ρ)
    rw [List.map_append]
    congr 1
    cases z.1 <;> rfl
  cases i with
  | invokestatic n =>
    simp only [ev_inv] at ho
    split at ho
    · rename_i hc
      obtain ⟨c1, c2, c3⟩ := hc
      split at ho
      · rename_i k' hk
        simp only [Option.some.injEq, Prod.mk.injEq] at ho
        obtain ⟨rfl, rfl, rfl⟩ := ho
        have hok2 : decode cc pc = .ok (.invokestatic n, len) ∧ len = 3 ∧ ev_okS mt own n x D P = true := by
          simp only [ev_ok, Bool.and_eq_true, decide_eq_true_eq] at hok
          refine ⟨hok.1, hok.2.1, ?_⟩
          have h3 := hok.2.2
          split at h3
          all_goals first | exact h3 | omega
        obtain ⟨hd, rfl, hS1⟩ := hok2
        unfold ev_okS at hS1
        split at hS1
        · rename_i k2
          have e2 : k2 = k' := by
            simp only [List.lookup_cons_self, Option.some.injEq] at hk
            exact hk
          subst e2
          split at hS1
          · rename_i o y cY nY rY I PM hmi
            simp only [Bool.and_eq_true, Bool.or_eq_true, decide_eq_true_eq, ev_pn] at hS1
            obtain ⟨hpn, w0, hnl, w1, w2, w3⟩ := hS1
            have hMt := hM o y cY nY rY I PM hmi H.size
            have hlen2 : ((List.take x st).reverse.map (ev_cv ρ)).length = x := by simp; omega
            have hst : st.map (ev_cv ρ) = ((List.take x st).reverse.map (ev_cv ρ)).reverse ++ (List.drop x st).map (ev_cv ρ) := by
              rw [← List.map_reverse, List.reverse_reverse, ← List.map_append, List.take_append_drop]
            have hcat : 2 * (F0 m pc lr (st.map (ev_cv ρ))).monitorRoom + (((List.drop x st).map (ev_cv ρ)).map fun v => v.category).sum ≤ 8 := lv_room (by rw [ev_cat_cv]; exact c3)
            have hgi : ∀ w ∈ Cond.code y cY nY rY :: ev_tb, w ∈ ev_tb := by
              intro w hw
              rcases List.mem_cons.mp hw with rfl | hw
              · exact ev_w_in w0
              · exact hw
            refine after _ _ rfl ?_
            rcases w3 with w3 | w3
            · have hgood : GoodIn ev_tb (va_wsS own n y (Cond.code y cY nY rY :: ev_tb)) := ev_goodIn (by
                intro w hw
                unfold va_wsS at hw
                rcases List.mem_append.mp hw with hw | hw
                · simp only [List.mem_cons, List.not_mem_nil, or_false] at hw
                  rcases hw with rfl | rfl | rfl
                  · exact ev_w_in w3
                  · exact ev_w_in w1
                  · exact ev_w_in w2
                · exact hgi w hw)
              exact va_runS (As := (List.take x st).reverse.map (ev_cv ρ)) ⟨hx, hb, hml, hown, hts⟩ hMt (va_cwS x hts hgood rfl rfl rfl hpn (ev_room1 hnl)) ⟨ev_Pc_blind, hpre⟩ rfl hlen2 hl.1 hst hcat hd ⟨Nat.le_refl _, Nat.le_refl _⟩
            · have hnw := hG.2.2.1 _ w3
              exact va_runSN (host := "WithEyesBound") (As := (List.take x st).reverse.map (ev_cv ρ)) ⟨hx, hb, hml, hown, hts⟩ hMt ⟨va_cnB x hts (ev_goodIn hgi) rfl rfl rfl hnw (hts _ (ev_w_in w2)) hpn (ev_room1 hnl), hts _ (ev_w_in w1), trivial⟩ ⟨ev_Pc_blind, hpre⟩ rfl hlen2 hl.1 hst hcat hd ⟨Nat.le_refl _, Nat.le_refl _⟩
          · cases hS1
        · cases hS1
      · cases ho
    · cases ho
  | invokevirtual n =>
    simp only [ev_ok, Bool.and_eq_true, decide_eq_true_eq] at hok
    obtain ⟨hd, rfl, hV⟩ := hok
    have key : ∀ (ci k' a : Nat) (r : List Value), st.drop x = .ref a :: r → x ≤ st.length → ev_cat r ≤ 8 → D.lookup ci = some k' → (∀ C, ev_cl ci = some C → ∃ cell : Cell, H[ρ a]? = some cell ∧ cell.vm.isStatics = false ∧ s.vm.findClass C = some cell.cls) → k = k' → as = .ref a :: (List.take x st).reverse → rest = r → W p l e (ev_rm (d + 1)) s m args below meth c H locs 0 0 Q (F0 m pc lr (st.map (ev_cv ρ))) := by
      intro ci k' a r hdrop c1 c3 hlk hrecv ek eas er
      subst ek
      subst er
      obtain ⟨C, P', hC, hV1⟩ := ev_okV_at hV hlk
      have hrc := hrecv C hC
      unfold ev_okV1 at hV1
      split at hV1
      · rename_i o y cY nY rY I PM hmi
        simp only [Bool.and_eq_true, decide_eq_true_eq, ev_pn] at hV1
        obtain ⟨hpn, w0, hnl, hV2⟩ := hV1
        have hMt := hM o y cY nY rY I PM hmi H.size
        have hlen2 : ((List.take x st).reverse.map (ev_cv ρ)).length = x := by simp; omega
        have hst : st.map (ev_cv ρ) = ((List.take x st).reverse.map (ev_cv ρ)).reverse ++ .ref (ρ a) :: rest.map (ev_cv ρ) := by
          rw [← List.map_reverse, List.reverse_reverse]
          show _ = (List.take x st).map (ev_cv ρ) ++ ((.ref a :: rest).map (ev_cv ρ))
          rw [← hdrop, ← List.map_append, List.take_append_drop]
        have hcat : 2 * (F0 m pc lr (st.map (ev_cv ρ))).monitorRoom + ((rest.map (ev_cv ρ)).map fun v => v.category).sum ≤ 8 := lv_room (by rw [ev_cat_cv]; exact c3)
        have hgi : ∀ w ∈ Cond.code y cY nY rY :: ev_tb, w ∈ ev_tb := by
          intro w hw
          rcases List.mem_cons.mp hw with rfl | hw
          · exact ev_w_in w0
          · exact hw
        have hpreV : PreV s H C (ρ a) (ev_Pc ρ cA dC dI as h H.size) ((List.take x st).reverse.map (ev_cv ρ)) := ⟨ev_Pc_blind, hrc, fun U hU hW => by
          have := hpre U hU hW
          rw [eas] at this
          rw [eas]
          exact this⟩
        refine after _ _ rfl ?_
        have eas2 : (as.map (ev_cv ρ)).toArray = (Value.ref (ρ a) :: (List.take x st).reverse.map (ev_cv ρ)).toArray := by rw [eas]; rfl
        rw [eas2]
        split at hV2
        · rename_i hcond
          obtain ⟨hyC, w1⟩ := hcond
          simp only [Bool.and_eq_true] at hV2
          obtain ⟨w2, w3, w4⟩ := hV2
          have hgood : GoodIn ev_tb (wsV own n C y (Cond.code y cY nY rY :: ev_tb)) := ev_goodIn (by
            intro w hw
            unfold wsV at hw
            rcases List.mem_append.mp hw with hw | hw
            · simp only [List.mem_cons, List.not_mem_nil, or_false] at hw
              rcases hw with rfl | rfl | rfl | rfl
              · exact ev_w_in w1
              · exact ev_w_in w2
              · exact ev_w_in w3
              · exact ev_w_in w4
            · exact hgi w hw)
          exact va_runV ⟨hx, hb, hml, hown, hts⟩ hMt (cwV x hts hgood rfl rfl rfl ⟨hyC, hpn⟩ (ev_room1 hnl)) hpreV rfl hlen2 hl.1 hst hcat hd ⟨Nat.le_refl _, Nat.le_refl _⟩
        · split at hV2
          · rename_i u1 u2 x0 hx0
            simp only [Bool.and_eq_true, Bool.or_eq_true, decide_eq_true_eq, ev_pn] at hV2
            obtain ⟨w1, w2, w3, w4, w5, hpx, hV3⟩ := hV2
            rcases hV3 with rfl | ⟨w6, hV4⟩
            · have hgood : GoodIn ev_tb (va_wsU own n C x0.cls x0 x0 (Cond.code x0 cY nY rY :: ev_tb)) := ev_goodIn (by
                intro w hw
                unfold va_wsU at hw
                rcases List.mem_append.mp hw with hw | hw
                · simp only [List.mem_cons, List.not_mem_nil, or_false] at hw
                  rcases hw with rfl | rfl | rfl | rfl | rfl
                  · exact ev_w_in w1
                  · exact ev_w_in w2
                  · exact ev_w_in w3
                  · exact ev_w_in w4
                  · exact ev_w_in w5
                · exact hgi w hw)
              exact va_runU ⟨hx, hb, hml, hown, hts⟩ hMt (va_cwU x hts hgood rfl rfl rfl rfl hpx (ev_room1 hnl)) hpreV rfl hlen2 hl.1 hst hcat hd ⟨Nat.le_refl _, Nat.le_refl _⟩
            · split at hV4
              · rename_i u3 b0 m0 r0 hcx
                have hgood : GoodIn ev_tb (va_wsO own n C x0.cls x0 y (Cond.code y cY nY rY :: ev_tb)) := ev_goodIn (by
                  intro w hw
                  unfold va_wsO at hw
                  rcases List.mem_append.mp hw with hw | hw
                  · simp only [List.mem_cons, List.not_mem_nil, or_false] at hw
                    rcases hw with rfl | rfl | rfl | rfl | rfl | rfl
                    · exact ev_w_in w1
                    · exact ev_w_in w2
                    · exact ev_w_in w6
                    · exact ev_w_in w3
                    · exact ev_w_in w4
                    · exact ev_w_in w5
                  · exact hgi w hw)
                exact va_runU ⟨hx, hb, hml, hown, hts⟩ hMt (va_cwO x hts hgood rfl rfl rfl (ev_w_in hV4) hpx (ev_room1 hnl)) hpreV rfl hlen2 hl.1 hst hcat hd ⟨Nat.le_refl _, Nat.le_refl _⟩
              · cases hV4
          · cases hV2
      · cases hV1
    simp only [ev_inv] at ho
    split at ho
    · rename_i a r hdrop
      split at ho
      · rename_i hc
        obtain ⟨c1, c2, c3⟩ := hc
        split at ho
        · rename_i ha
          split at ho
          · rename_i k' hk
            simp only [Option.some.injEq, Prod.mk.injEq] at ho
            refine key 2000 k' a r hdrop c1 c3 hk (fun C hC => ?_) ho.1.symm ho.2.1.symm ho.2.2.symm
            simp only [ev_cl, if_true, Option.some.injEq] at hC
            subst hC
            subst ha
            obtain ⟨cell, h1, h2, h3, -⟩ := hG.2.1.2.1.kept hS.2.1
            exact ⟨cell, h1, h2, h3⟩
          · cases ho
        · split at ho
          · rename_i ci fs hg
            split at ho
            · rename_i k' hk
              simp only [Option.some.injEq, Prod.mk.injEq] at ho
              refine key ci k' a r hdrop c1 c3 hk (fun C hC => ?_) ho.1.symm ho.2.1.symm ho.2.2.symm
              obtain ⟨j, hj, -⟩ := ev_at ρ cA hg
              unfold ev_cl at hC
              split at hC
              · rename_i h2000
                obtain ⟨q, hq, -⟩ := (hP j _ hj)
                rw [show (ev_ce ρ cA (Sum.inr (ci, fs)) : va_E) = Sum.inr (ci, fs.map (ev_cv ρ)) from rfl] at hj
                have : vwCl[ci]? = some q := hq
                rw [h2000] at this
                simp [vwCl] at this
              · rw [Option.map_eq_some_iff] at hC
                obtain ⟨q, hq, rfl⟩ := hC
                exact va_recv hK hP hq hj
            · cases ho
          · cases ho
      · cases ho
    · cases ho
  | _ => simp [ev_inv] at ho
end EVS
