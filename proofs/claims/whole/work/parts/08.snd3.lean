theorem ev_swOut {pc : Nat} {a : Int32} {t : Nat} : ∀ {offs : List Int} {lo : Nat} {D : List (Nat × Nat)}, ev_okT pc offs lo D = true → (a.toInt < lo ∨ (lo : Int) + D.length ≤ a.toInt) → ev_sw D a t = t
  | _, _, [], _, _ => rfl
  | offs, lo, (j, u) :: r, h, ha => by
    unfold ev_okT at h
    split at h
    · rw [Bool.and_eq_true, decide_eq_true_eq] at h
      obtain ⟨⟨rfl, hk, -⟩, h2⟩ := h
      unfold ev_sw
      rw [if_neg]
      · exact ev_swOut h2 (by simp only [List.length_cons] at ha; omega)
      · intro q
        have e : a.toInt = (j : Int) := by rw [q]; exact nI_toInt (by omega)
        simp only [List.length_cons] at ha
        omega
    · cases h
theorem ev_swIn {pc : Nat} {a : Int32} {t : Nat} : ∀ {offs : List Int} {lo : Nat} {D : List (Nat × Nat)}, ev_okT pc offs lo D = true → (lo : Int) ≤ a.toInt → a.toInt < (lo : Int) + D.length → ∃ u, ev_sw D a t = u ∧ ∃ o, offs[(a.toInt - lo).toNat]? = some o ∧ (pc : Int) + o = (u : Int)
  | _, _, [], _, h1, h2 => by simp only [List.length_nil] at h2; omega
  | offs, lo, (j, u) :: r, h, h1, h2 => by
    unfold ev_okT at h
    split at h
    · rename_i o os
      rw [Bool.and_eq_true, decide_eq_true_eq] at h
      obtain ⟨⟨rfl, hk, hu⟩, h3⟩ := h
      by_cases q : a = Int32.ofNat j
      · have e : a.toInt = (j : Int) := by rw [q]; exact nI_toInt (by omega)
        refine ⟨u, by unfold ev_sw; rw [if_pos q], o, ?_, hu⟩
        rw [show (a.toInt - (j : Int)).toNat = 0 by omega]
        rfl
      · have ne : a.toInt ≠ (j : Int) := fun z => q (Int32.toInt_inj.mp (by rw [z]; exact (nI_toInt (by omega)).symm))
        simp only [List.length_cons] at h2
        obtain ⟨u', e1, o', e2, e3⟩ := ev_swIn (a := a) (t := t) h3 (by omega) (by omega)
        refine ⟨u', by unfold ev_sw; rw [if_neg q]; exact e1, o', ?_, e3⟩
        rw [show (a.toInt - (j : Int)).toNat = (a.toInt - ((j + 1 : Nat) : Int)).toNat + 1 by omega, List.getElem?_cons_succ]
        exact e2
    · cases h
section EVS
variable {p : Program} {l : Launch} {e : Env} {R : Room} {s : State} {m : MethodId} {args : Array Value} {below : List Frame} {meth : Method} {c : Code} {Q : State → Prop} {own : String} {cc : ByteArray} {nL : Nat} {ρ : Nat → Nat} {cA : Nat → ClassId} {dC : Nat → ClassId} {dI : Nat → Nat → Nat} {A : Nat → Prop} {mt : List ev_MI}
set_option maxHeartbeats 4000000 in
theorem ev_snd3 (F : ev_Fx p s m args c own cc nL ρ cA dC dI A) {en : ev_E} (hok : ev_ok mt own cc en = true) {ls : ev_L} {st : List Value} {h : ev_H} {t : ev_S} (ho : ev_o3 en ls st h = some (.inl t)) (k : ev_Wc p l e R s m args below meth c Q nL ρ cA dC dI A t) : ev_Wc p l e R s m args below meth c Q nL ρ cA dC dI A (en.1, ls, st, h) := by
  obtain ⟨hx, hb, hml, hown, hts, hK, hG, hA⟩ := F
  obtain ⟨pc, i, len, x, tgt, cst, D, P⟩ := en
  intro H locs lr hP hD hS hl hlen
  change va_P (dC, dI) vwCl (ev_cw ρ cA 0 h) H at hP
  change va_D A (ev_cw ρ cA 0 h) at hD
  change lv_has lr nL (ev_la ρ 0 ls) at hl
  change ls.length = nL at hlen
  change W p l e R s m args below meth c H locs 0 0 Q (F0 m pc lr (st.map (ev_cv ρ)))
  cases i with
  | goto off =>
    simp only [ev_ok, Bool.and_eq_true, decide_eq_true_eq] at hok
    obtain ⟨hd, rfl, ht⟩ := hok
    simp only [ev_o3, ev_j, Option.some.injEq, Sum.inl.injEq] at ho
    subst ho
    exact lv_goto hx hb hd ht (k H locs lr hP hD hS hl hlen)
  | ifCond k0 off =>
    simp only [ev_ok, Bool.and_eq_true, decide_eq_true_eq] at hok
    obtain ⟨hd, rfl, ht⟩ := hok
    simp only [ev_o3] at ho
    split at ho
    · simp only [ev_j, Option.some.injEq, Sum.inl.injEq] at ho
      subst ho
      have k1 := k H locs lr hP hD hS hl hlen
      cases k0 with
      | eq => exact lv_if_eq hx hb hd ht (fun q => W.eq (congrArg (fun z => F0 m z lr _) (by unfold ev_if; first | exact (if_pos q).symm | exact (if_neg q).symm | exact (if_neg (Int32.not_lt.mpr q)).symm | exact (if_pos (Int32.not_le.mp q)).symm | exact (if_pos (Classical.not_not.mp q)).symm)) k1) (fun q => W.eq (congrArg (fun z => F0 m z lr _) (by unfold ev_if; first | exact (if_pos q).symm | exact (if_neg q).symm | exact (if_neg (Int32.not_lt.mpr q)).symm | exact (if_pos (Int32.not_le.mp q)).symm | exact (if_pos (Classical.not_not.mp q)).symm)) k1)
      | ne => exact lv_if_ne hx hb hd ht (fun q => W.eq (congrArg (fun z => F0 m z lr _) (by unfold ev_if; first | exact (if_pos q).symm | exact (if_neg q).symm | exact (if_neg (Int32.not_lt.mpr q)).symm | exact (if_pos (Int32.not_le.mp q)).symm | exact (if_pos (Classical.not_not.mp q)).symm)) k1) (fun q => W.eq (congrArg (fun z => F0 m z lr _) (by unfold ev_if; first | exact (if_pos q).symm | exact (if_neg q).symm | exact (if_neg (Int32.not_lt.mpr q)).symm | exact (if_pos (Int32.not_le.mp q)).symm | exact (if_pos (Classical.not_not.mp q)).symm)) k1)
      | lt => exact lv_if_lt hx hb hd ht (fun q => W.eq (congrArg (fun z => F0 m z lr _) (by unfold ev_if; first | exact (if_pos q).symm | exact (if_neg q).symm | exact (if_neg (Int32.not_lt.mpr q)).symm | exact (if_pos (Int32.not_le.mp q)).symm | exact (if_pos (Classical.not_not.mp q)).symm)) k1) (fun q => W.eq (congrArg (fun z => F0 m z lr _) (by unfold ev_if; first | exact (if_pos q).symm | exact (if_neg q).symm | exact (if_neg (Int32.not_lt.mpr q)).symm | exact (if_pos (Int32.not_le.mp q)).symm | exact (if_pos (Classical.not_not.mp q)).symm)) k1)
      | ge => exact lv_if_ge hx hb hd ht (fun q => W.eq (congrArg (fun z => F0 m z lr _) (by unfold ev_if; first | exact (if_pos q).symm | exact (if_neg q).symm | exact (if_neg (Int32.not_lt.mpr q)).symm | exact (if_pos (Int32.not_le.mp q)).symm | exact (if_pos (Classical.not_not.mp q)).symm)) k1) (fun q => W.eq (congrArg (fun z => F0 m z lr _) (by unfold ev_if; first | exact (if_pos q).symm | exact (if_neg q).symm | exact (if_neg (Int32.not_lt.mpr q)).symm | exact (if_pos (Int32.not_le.mp q)).symm | exact (if_pos (Classical.not_not.mp q)).symm)) k1)
      | gt => exact lv_if_gt hx hb hd ht (fun q => W.eq (congrArg (fun z => F0 m z lr _) (by unfold ev_if; first | exact (if_pos q).symm | exact (if_neg q).symm | exact (if_neg (Int32.not_lt.mpr q)).symm | exact (if_pos (Int32.not_le.mp q)).symm | exact (if_pos (Classical.not_not.mp q)).symm)) k1) (fun q => W.eq (congrArg (fun z => F0 m z lr _) (by unfold ev_if; first | exact (if_pos q).symm | exact (if_neg q).symm | exact (if_neg (Int32.not_lt.mpr q)).symm | exact (if_pos (Int32.not_le.mp q)).symm | exact (if_pos (Classical.not_not.mp q)).symm)) k1)
      | le => exact lv_if_le hx hb hd ht (fun q => W.eq (congrArg (fun z => F0 m z lr _) (by unfold ev_if; first | exact (if_pos q).symm | exact (if_neg q).symm | exact (if_neg (Int32.not_lt.mpr q)).symm | exact (if_pos (Int32.not_le.mp q)).symm | exact (if_pos (Classical.not_not.mp q)).symm)) k1) (fun q => W.eq (congrArg (fun z => F0 m z lr _) (by unfold ev_if; first | exact (if_pos q).symm | exact (if_neg q).symm | exact (if_neg (Int32.not_lt.mpr q)).symm | exact (if_pos (Int32.not_le.mp q)).symm | exact (if_pos (Classical.not_not.mp q)).symm)) k1)
    · cases ho
  | if_icmp k0 off =>
    simp only [ev_ok, Bool.and_eq_true, decide_eq_true_eq] at hok
    obtain ⟨hd, rfl, ht⟩ := hok
    simp only [ev_o3] at ho
    split at ho
    · simp only [ev_j, Option.some.injEq, Sum.inl.injEq] at ho
      subst ho
      have k1 := k H locs lr hP hD hS hl hlen
      cases k0 with
      | eq => exact lv_icmp_eq hx hb hd ht (fun q => W.eq (congrArg (fun z => F0 m z lr _) (by unfold ev_if; first | exact (if_pos q).symm | exact (if_neg q).symm | exact (if_neg (Int32.not_lt.mpr q)).symm | exact (if_pos (Int32.not_le.mp q)).symm | exact (if_pos (Classical.not_not.mp q)).symm)) k1) (fun q => W.eq (congrArg (fun z => F0 m z lr _) (by unfold ev_if; first | exact (if_pos q).symm | exact (if_neg q).symm | exact (if_neg (Int32.not_lt.mpr q)).symm | exact (if_pos (Int32.not_le.mp q)).symm | exact (if_pos (Classical.not_not.mp q)).symm)) k1)
      | ne => exact lv_icmp_ne hx hb hd ht (fun q => W.eq (congrArg (fun z => F0 m z lr _) (by unfold ev_if; first | exact (if_pos q).symm | exact (if_neg q).symm | exact (if_neg (Int32.not_lt.mpr q)).symm | exact (if_pos (Int32.not_le.mp q)).symm | exact (if_pos (Classical.not_not.mp q)).symm)) k1) (fun q => W.eq (congrArg (fun z => F0 m z lr _) (by unfold ev_if; first | exact (if_pos q).symm | exact (if_neg q).symm | exact (if_neg (Int32.not_lt.mpr q)).symm | exact (if_pos (Int32.not_le.mp q)).symm | exact (if_pos (Classical.not_not.mp q)).symm)) k1)
      | lt => exact lv_icmp_lt hx hb hd ht (fun q => W.eq (congrArg (fun z => F0 m z lr _) (by unfold ev_if; first | exact (if_pos q).symm | exact (if_neg q).symm | exact (if_neg (Int32.not_lt.mpr q)).symm | exact (if_pos (Int32.not_le.mp q)).symm | exact (if_pos (Classical.not_not.mp q)).symm)) k1) (fun q => W.eq (congrArg (fun z => F0 m z lr _) (by unfold ev_if; first | exact (if_pos q).symm | exact (if_neg q).symm | exact (if_neg (Int32.not_lt.mpr q)).symm | exact (if_pos (Int32.not_le.mp q)).symm | exact (if_pos (Classical.not_not.mp q)).symm)) k1)
      | ge => exact lv_icmp_ge hx hb hd ht (fun q => W.eq (congrArg (fun z => F0 m z lr _) (by unfold ev_if; first | exact (if_pos q).symm | exact (if_neg q).symm | exact (if_neg (Int32.not_lt.mpr q)).symm | exact (if_pos (Int32.not_le.mp q)).symm | exact (if_pos (Classical.not_not.mp q)).symm)) k1) (fun q => W.eq (congrArg (fun z => F0 m z lr _) (by unfold ev_if; first | exact (if_pos q).symm | exact (if_neg q).symm | exact (if_neg (Int32.not_lt.mpr q)).symm | exact (if_pos (Int32.not_le.mp q)).symm | exact (if_pos (Classical.not_not.mp q)).symm)) k1)
      | gt => exact lv_icmp_gt hx hb hd ht (fun q => W.eq (congrArg (fun z => F0 m z lr _) (by unfold ev_if; first | exact (if_pos q).symm | exact (if_neg q).symm | exact (if_neg (Int32.not_lt.mpr q)).symm | exact (if_pos (Int32.not_le.mp q)).symm | exact (if_pos (Classical.not_not.mp q)).symm)) k1) (fun q => W.eq (congrArg (fun z => F0 m z lr _) (by unfold ev_if; first | exact (if_pos q).symm | exact (if_neg q).symm | exact (if_neg (Int32.not_lt.mpr q)).symm | exact (if_pos (Int32.not_le.mp q)).symm | exact (if_pos (Classical.not_not.mp q)).symm)) k1)
      | le => exact lv_icmp_le hx hb hd ht (fun q => W.eq (congrArg (fun z => F0 m z lr _) (by unfold ev_if; first | exact (if_pos q).symm | exact (if_neg q).symm | exact (if_neg (Int32.not_lt.mpr q)).symm | exact (if_pos (Int32.not_le.mp q)).symm | exact (if_pos (Classical.not_not.mp q)).symm)) k1) (fun q => W.eq (congrArg (fun z => F0 m z lr _) (by unfold ev_if; first | exact (if_pos q).symm | exact (if_neg q).symm | exact (if_neg (Int32.not_lt.mpr q)).symm | exact (if_pos (Int32.not_le.mp q)).symm | exact (if_pos (Classical.not_not.mp q)).symm)) k1)
    · cases ho
  | ifnull off =>
    simp only [ev_ok, Bool.and_eq_true, decide_eq_true_eq] at hok
    obtain ⟨hd, rfl, ht⟩ := hok
    simp only [ev_o3] at ho
    split at ho
    · simp only [ev_j, Option.some.injEq, Sum.inl.injEq] at ho
      subst ho
      exact lv_ifnullN hx hb hd ht (k H locs lr hP hD hS hl hlen)
    · simp only [ev_j, Option.some.injEq, Sum.inl.injEq] at ho
      subst ho
      exact lv_ifnull hx hb hd (k H locs lr hP hD hS hl hlen)
    · cases ho
  | ifnonnull off =>
    simp only [ev_ok, Bool.and_eq_true, decide_eq_true_eq] at hok
    obtain ⟨hd, rfl, ht⟩ := hok
    simp only [ev_o3] at ho
    split at ho
    · simp only [ev_j, Option.some.injEq, Sum.inl.injEq] at ho
      subst ho
      exact lv_ifnonnullN hx hb hd (k H locs lr hP hD hS hl hlen)
    · simp only [ev_j, Option.some.injEq, Sum.inl.injEq] at ho
      subst ho
      exact lv_ifnonnull hx hb hd ht (k H locs lr hP hD hS hl hlen)
    · cases ho
  | tableswitch d lo hi offs =>
    simp only [ev_ok, Bool.and_eq_true, decide_eq_true_eq] at hok
    obtain ⟨hd, ⟨ht, h0, hh, hlo⟩, hT⟩ := hok
    simp only [ev_o3] at ho
    split at ho
    · rename_i a r
      simp only [ev_j, Option.some.injEq, Sum.inl.injEq] at ho
      subst ho
      have k1 := k H locs lr hP hD hS hl hlen
      have hn : ((lo.toNat : Nat) : Int) = lo := Int.toNat_of_nonneg h0
      by_cases ho : a.toInt < lo ∨ hi < a.toInt
      · refine lv_tableOut hx hb hd ho ht ?_
        rw [ev_swOut hT (by rw [hn]; rcases ho with q | q; exact Or.inl q; exact Or.inr (by omega))] at k1
        exact k1
      · obtain ⟨t1, e1, o1, e2, e3⟩ := ev_swIn (a := a) (t := tgt) hT (by rw [hn]; omega) (by rw [hn]; omega)
        rw [e1] at k1
        refine lv_tableIn hx hb hd (fun q => ho (Or.inl q)) (fun q => ho (Or.inr q)) (off := o1) ?_ e3 k1
        rw [← Array.getElem?_toList]
        rw [hn] at e2
        exact e2
    · cases ho
  | _ => simp [ev_o3] at ho
end EVS
