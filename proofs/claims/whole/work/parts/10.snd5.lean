/-! ===== returns, the library's functions, calls ===== -/
def ev_rm (d : Nat) : Room := { frames := d, cells := 0, slots := 0, locals := 40 * d }
def ev_Pc (ρ : Nat → Nat) (cA : Nat → ClassId) (dC : Nat → ClassId) (dI : Nat → Nat → Nat) (as : List Value) (h : ev_H) (sz : Nat) : Array Value → State → Prop := va_Pc (as.map (ev_cv ρ)) (fun U => U.heap.size = sz ∧ va_P (dC, dI) vwCl (ev_cw ρ cA 0 h) U.heap ∧ va_K (dC, dI) vwCl (ev_ty cA) U ∧ va_D (fun _ => True) (ev_cw ρ cA 0 h) ∧ ev_G ρ (va_A (ev_cw ρ cA 0 h) sz) U U.heap)
def ev_Qc (ρ : Nat → Nat) (cA : Nat → ClassId) (dC : Nat → ClassId) (dI : Nat → Nat → Nat) (h : ev_H) (sz : Nat) (z : ev_Z) : Array Value → State → Outcome → State → Prop := fun _ st oc t => (oc = .returned (z.1.map (ev_cv ρ)) ∧ va_P (dC, dI) vwCl (ev_cw ρ cA 0 z.2) t.heap ∧ va_D (va_A (ev_cw ρ cA 0 h) sz) (ev_cw ρ cA 0 z.2)) ∧ va_F (va_A (ev_cw ρ cA 0 h) sz) st t
theorem ev_Pc_blind {ρ : Nat → Nat} {cA : Nat → ClassId} {dC : Nat → ClassId} {dI : Nat → Nat → Nat} {as : List Value} {h : ev_H} {sz : Nat} : FrameBlind (ev_Pc ρ cA dC dI as h sz) := by
  intro a U g mk hq
  obtain ⟨e1, e2, e3, e4, e5, e6⟩ := hq
  exact ⟨e1, e2, e3, va_K.moved (u := U) (U := U.calling g mk a) (Vm.Alike.refl U.vm) e4, e5, ev_G.same (s := U) (U := U.calling g mk a) rfl e6⟩
theorem ev_okV_at {mt : List ev_MI} {own : String} {idx n : Nat} : ∀ {D : List (Nat × Nat)} {P : List Nat} {ci k : Nat}, ev_okV mt own idx n D P = true → D.lookup ci = some k → ∃ C P', ev_cl ci = some C ∧ ev_okV1 mt own idx n C k P' = true
  | [], _, _, _, _, h => by cases h
  | (a, b) :: r, P, ci, k, h, hl => by
    unfold ev_okV at h
    rw [Bool.and_eq_true] at h
    rw [List.lookup_cons] at hl
    split at hl
    · rename_i e
      cases hl
      have e1 := beq_iff_eq.mp e
      subst e1
      have h1 := h.1
      split at h1
      · rename_i C hC
        exact ⟨C, _, hC, h1⟩
      · cases h1
    · exact ev_okV_at h.2 hl
section EVS
variable {p : Program} {l : Launch} {e : Env} {R : Room} {s : State} {m : MethodId} {args : Array Value} {below : List Frame} {meth : Method} {c : Code} {Q : State → Prop} {own : String} {cc : ByteArray} {nL : Nat} {ρ : Nat → Nat} {cA : Nat → ClassId} {dC : Nat → ClassId} {dI : Nat → Nat → Nat} {A : Nat → Prop} {mt : List ev_MI}
set_option maxHeartbeats 4000000 in
theorem ev_sndR (F : ev_Fx p s m args c own cc nL ρ cA dC dI A) {rt : Option FieldType} (hr : meth.sig.returnType = rt) (hlocks : meth.locks = false) {h0 : ev_H} (hAe : va_A (ev_cw ρ cA 0 h0) s.heap.size = A) {en : ev_E} (hok : ev_ok mt own cc en = true) {ls : ev_L} {st : List Value} {h : ev_H} {z : ev_Z} (ho : ev_o5 rt en ls st h = some (.inr z)) : ev_Wc p l e R s m args below meth c (MQ below (ev_Qc ρ cA dC dI h0 s.heap.size z) args s 0 0 A) nL ρ cA dC dI A (en.1, ls, st, h) := by
  obtain ⟨hx, hb, hml, hown, hts, hK, hG, hA⟩ := F
  obtain ⟨pc, i, len, x, tgt, cst, D, P⟩ := en
  intro H locs lr hP hD hS hl hlen
  change va_P (dC, dI) vwCl (ev_cw ρ cA 0 h) H at hP
  change va_D A (ev_cw ρ cA 0 h) at hD
  change W p l e R s m args below meth c H locs 0 0 _ (F0 m pc lr (st.map (ev_cv ρ)))
  have fin : ∀ (v : Option Value) (t : State), t.heap = H → ev_Qc ρ cA dC dI h0 s.heap.size (v, h) args s (.returned (v.map (ev_cv ρ))) t := by
    intro v t ht
    refine ⟨⟨rfl, by rw [ht]; exact hP, ?_⟩, ?_⟩
    · rw [hAe]; exact hD
    · rw [hAe]; exact hS.F ht
  cases i with
  | return_ =>
    simp only [ev_ok, Bool.and_eq_true, decide_eq_true_eq] at hok
    obtain ⟨hd, rfl⟩ := hok
    simp only [ev_o5] at ho
    split at ho
    · cases ho
      exact W.vret hx hb hr (fun t ht _ => fin none t ht) hS.2.2 hd
    · cases ho
  | ireturn =>
    simp only [ev_ok, Bool.and_eq_true, decide_eq_true_eq] at hok
    obtain ⟨hd, rfl⟩ := hok
    simp only [ev_o5] at ho
    split at ho
    · rename_i v
      cases ho
      exact W.iret (v := v) hx hb hr (fun t ht _ => fin (some (.int v)) t ht) hS.2.2 hd
    · rename_i v
      split at ho
      · rename_i hv
        cases ho
        exact W.zret (v := v) (ty := .boolean) hx hb hr (by rcases hv with rfl | rfl <;> decide +kernel) (fun t ht _ => fin (some (.int v)) t ht) hS.2.2 hd
      · cases ho
    · rename_i v
      split at ho
      · rename_i hv
        cases ho
        exact W.zret (v := v) (ty := .byte) hx hb hr (by subst hv; decide +kernel) (fun t ht _ => fin (some (.int v)) t ht) hS.2.2 hd
      · cases ho
    · cases ho
  | lreturn =>
    simp only [ev_ok, Bool.and_eq_true, decide_eq_true_eq] at hok
    obtain ⟨hd, rfl⟩ := hok
    simp only [ev_o5] at ho
    split at ho
    · rename_i v
      cases ho
      exact W.lret (v := v) hx hb hr (fun t ht _ => fin (some (.long v)) t ht) hS.2.2 hd
    · cases ho
  | areturn =>
    simp only [ev_ok, Bool.and_eq_true, decide_eq_true_eq] at hok
    obtain ⟨hd, rfl⟩ := hok
    simp only [ev_o5] at ho
    split at ho
    · rename_i a nm
      cases ho
      exact W.aret (v := .ref (ρ a)) hx hb hr (Or.inl ⟨_, rfl⟩) (Or.inr ⟨_, rfl⟩) (fun t ht _ => fin (some (.ref a)) t ht) hS.2.2 hd
    · cases ho
      exact W.aret (v := .null) hx hb hr (Or.inl ⟨_, rfl⟩) (Or.inl rfl) (fun t ht _ => fin (some .null) t ht) hS.2.2 hd
    · cases ho
  | invokestatic n =>
    simp only [ev_o5] at ho
    split at ho
    · split at ho <;> cases ho
    · split at ho <;> cases ho
    · split at ho <;> cases ho
    · split at ho
      · split at ho <;> cases ho
      · cases ho
    · split at ho <;> cases ho
    · cases ho
  | _ => simp [ev_o5] at ho
theorem ev_natw : nativeFrameWords "java/lang/System" "arraycopy" 5 + 11 ≤ 32 := by decide +kernel
set_option maxHeartbeats 4000000 in
theorem ev_snd5 (F : ev_Fx p s m args c own cc nL ρ cA dC dI A) (hR : 1 ≤ R.frames ∧ 40 ≤ R.locals) {rt : Option FieldType} {en : ev_E} (hok : ev_ok mt own cc en = true) {ls : ev_L} {st : List Value} {h : ev_H} {t : ev_S} (ho : ev_o5 rt en ls st h = some (.inl t)) (k : ev_Wc p l e R s m args below meth c Q nL ρ cA dC dI A t) : ev_Wc p l e R s m args below meth c Q nL ρ cA dC dI A (en.1, ls, st, h) := by
  obtain ⟨hx, hb, hml, hown, hts, hK, hG, hA⟩ := F
  obtain ⟨pc, i, len, x, tgt, cst, D, P⟩ := en
  intro H locs lr hP hD hS hl hlen
  change va_P (dC, dI) vwCl (ev_cw ρ cA 0 h) H at hP
  change va_D A (ev_cw ρ cA 0 h) at hD
  change lv_has lr nL (ev_la ρ 0 ls) at hl
  change ls.length = nL at hlen
  change W p l e R s m args below meth c H locs 0 0 Q (F0 m pc lr (st.map (ev_cv ρ)))
  have hsz : c.maxLocals = lr.size := hml.trans hl.1.symm
  cases i with
  | invokestatic n =>
    simp only [ev_o5] at ho
    split at ho
    · rename_i b a r
      simp only [ev_ok, Bool.and_eq_true, decide_eq_true_eq] at hok
      obtain ⟨hd, rfl, w1, w2, w3, w4⟩ := hok
      split at ho
      · rename_i hc
        simp only [ev_j, Option.some.injEq, Sum.inl.injEq] at ho
        subst ho
        exact va_mmin hx hb hsz hown (hts _ (ev_w_in w1)) (hts _ (ev_w_in w2)) (hts _ (ev_w_in w3)) (hts _ (ev_w_in w4)) hR.1 (by rw [ev_cat_cv]; omega) (Nat.zero_le _) (Nat.zero_le _) hd (k H locs lr hP hD hS hl hlen)
      · cases ho
    · rename_i b a r
      simp only [ev_ok, Bool.and_eq_true, decide_eq_true_eq] at hok
      obtain ⟨hd, rfl, w1, w2, w3, w4⟩ := hok
      split at ho
      · rename_i hc
        simp only [ev_j, Option.some.injEq, Sum.inl.injEq] at ho
        subst ho
        exact va_mmax_long hx hb hsz hown (hts _ (ev_w_in w1)) (hts _ (ev_w_in w2)) (hts _ (ev_w_in w3)) (hts _ (ev_w_in w4)) hR.1 (by rw [ev_cat_cv]; omega) (Nat.zero_le _) (Nat.zero_le _) hd (k H locs lr hP hD hS hl hlen)
      · cases ho
    · rename_i a r
      simp only [ev_ok, Bool.and_eq_true, decide_eq_true_eq] at hok
      obtain ⟨hd, rfl, w1, w2, w3, w4⟩ := hok
      split at ho
      · rename_i hc
        simp only [ev_j, Option.some.injEq, Sum.inl.injEq] at ho
        subst ho
        exact va_mabs hx hb hsz hown (hts _ (ev_w_in w1)) (hts _ (ev_w_in w2)) (hts _ (ev_w_in w3)) (hts _ (ev_w_in w4)) hR.1 (by rw [ev_cat_cv]; omega) (Nat.zero_le _) (Nat.zero_le _) hd (k H locs lr hP hD hS hl hlen)
      · cases ho
    · rename_i n' dp b sp a r
      simp only [ev_ok, Bool.and_eq_true, decide_eq_true_eq] at hok
      obtain ⟨hd, rfl, w1, w2, w3, w4⟩ := hok
      split at ho
      · rename_i n0 f n1 g hga hgb
        split at ho
        · rename_i hc
          obtain ⟨c1, c2, c3, c4, c5, c6⟩ := hc
          simp only [ev_j, Option.some.injEq, Sum.inl.injEq] at ho
          subst ho
          obtain ⟨ja, hja, -⟩ := ev_at ρ cA hga
          obtain ⟨jb, hjb, hset⟩ := ev_at ρ cA hgb
          refine va_copyl (ty := .long) hx hb hsz hown (hts _ (ev_w_in w1)) (hts _ (ev_w_in w4)) (hts _ (ev_w_in w2)) (hts _ (ev_w_in w3)) hK hP hD hS ja jb 1 1 hja hjb rfl rfl rfl c2 c3 c4 c5 c6 (fun _ _ => rfl) hR.1 (by rw [ev_cat_cv]; have := ev_natw; omega) hd (fun H1 locs1 hP1 hD1 hS1 => ?_)
          refine k H1 locs1 lr ?_ ?_ hS1 hl hlen
          · have h9 := hset (.inl (1, n1, .inr (.inl (va_cpy f g sp.toNatClampNeg dp.toNatClampNeg n'.toNatClampNeg))))
            exact h9 ▸ hP1
          · have h9 := hset (.inl (1, n1, .inr (.inl (va_cpy f g sp.toNatClampNeg dp.toNatClampNeg n'.toNatClampNeg))))
            exact h9 ▸ hD1
        · cases ho
      · cases ho
    · rename_i b a r
      simp only [ev_ok, Bool.and_eq_true, decide_eq_true_eq] at hok
      obtain ⟨hd, rfl, w1, w2, w3, w4⟩ := hok
      split at ho
      · rename_i hc
        simp only [ev_j, Option.some.injEq, Sum.inl.injEq] at ho
        subst ho
        exact va_mmax hx hb hsz hown (hts _ (ev_w_in w1)) (hts _ (ev_w_in w2)) (hts _ (ev_w_in w3)) (hts _ (ev_w_in w4)) hR.1 (by rw [ev_cat_cv]; omega) (Nat.zero_le _) (Nat.zero_le _) hd (k H locs lr hP hD hS hl hlen)
      · cases ho
    · cases ho
  | return_ => simp only [ev_o5] at ho; split at ho <;> cases ho
  | ireturn =>
    simp only [ev_o5] at ho
    split at ho
    · cases ho
    · split at ho <;> cases ho
    · split at ho <;> cases ho
    · cases ho
  | lreturn => simp only [ev_o5] at ho; split at ho <;> cases ho
  | areturn => simp only [ev_o5] at ho; split at ho <;> cases ho
  | _ => simp [ev_o5] at ho
end EVS
