section EVS
variable {p : Program} {l : Launch} {e : Env} {R : Room} {s : State} {m : MethodId} {args : Array Value} {below : List Frame} {meth : Method} {c : Code} {Q : State → Prop} {own : String} {cc : ByteArray} {nL : Nat} {ρ : Nat → Nat} {cA : Nat → ClassId} {dC : Nat → ClassId} {dI : Nat → Nat → Nat} {A : Nat → Prop} {mt : List ev_MI}
set_option maxHeartbeats 4000000 in
theorem ev_snd2 (F : ev_Fx p s m args c own cc nL ρ cA dC dI A) {en : ev_E} (hok : ev_ok mt own cc en = true) {ls : ev_L} {st : List Value} {h : ev_H} {t : ev_S} (ho : ev_o2 en ls st h = some (.inl t)) (k : ev_Wc p l e R s m args below meth c Q nL ρ cA dC dI A t) : ev_Wc p l e R s m args below meth c Q nL ρ cA dC dI A (en.1, ls, st, h) := by
  obtain ⟨hx, hb, hml, hown, hts, hK, hG, hA⟩ := F
  obtain ⟨pc, i, len, x, tgt, cst, D, P⟩ := en
  intro H locs lr hP hD hS hl hlen
  change va_P (dC, dI) vwCl (ev_cw ρ cA 0 h) H at hP
  change va_D A (ev_cw ρ cA 0 h) at hD
  change lv_has lr nL (ev_la ρ 0 ls) at hl
  change ls.length = nL at hlen
  change W p l e R s m args below meth c H locs 0 0 Q (F0 m pc lr (st.map (ev_cv ρ)))
  cases i with
  | iadd =>
    simp only [ev_ok, Bool.and_eq_true, decide_eq_true_eq] at hok
    obtain ⟨hd, rfl⟩ := hok
    simp only [ev_o2] at ho
    split at ho
    · simp only [ev_j, Option.some.injEq, Sum.inl.injEq] at ho
      subst ho
      exact lv_iadd hx hb hd (k H locs lr hP hD hS hl hlen)
    · cases ho
  | isub =>
    simp only [ev_ok, Bool.and_eq_true, decide_eq_true_eq] at hok
    obtain ⟨hd, rfl⟩ := hok
    simp only [ev_o2] at ho
    split at ho
    · simp only [ev_j, Option.some.injEq, Sum.inl.injEq] at ho
      subst ho
      exact lv_isub hx hb hd (k H locs lr hP hD hS hl hlen)
    · cases ho
  | imul =>
    simp only [ev_ok, Bool.and_eq_true, decide_eq_true_eq] at hok
    obtain ⟨hd, rfl⟩ := hok
    simp only [ev_o2] at ho
    split at ho
    · simp only [ev_j, Option.some.injEq, Sum.inl.injEq] at ho
      subst ho
      exact lv_imul hx hb hd (k H locs lr hP hD hS hl hlen)
    · cases ho
  | iand =>
    simp only [ev_ok, Bool.and_eq_true, decide_eq_true_eq] at hok
    obtain ⟨hd, rfl⟩ := hok
    simp only [ev_o2] at ho
    split at ho
    · simp only [ev_j, Option.some.injEq, Sum.inl.injEq] at ho
      subst ho
      exact lv_iand hx hb hd (k H locs lr hP hD hS hl hlen)
    · cases ho
  | ineg =>
    simp only [ev_ok, Bool.and_eq_true, decide_eq_true_eq] at hok
    obtain ⟨hd, rfl⟩ := hok
    simp only [ev_o2] at ho
    split at ho
    · simp only [ev_j, Option.some.injEq, Sum.inl.injEq] at ho
      subst ho
      exact lv_ineg hx hb hd (k H locs lr hP hD hS hl hlen)
    · cases ho
  | ishr =>
    simp only [ev_ok, Bool.and_eq_true, decide_eq_true_eq] at hok
    obtain ⟨hd, rfl⟩ := hok
    simp only [ev_o2] at ho
    split at ho
    · simp only [ev_j, Option.some.injEq, Sum.inl.injEq] at ho
      subst ho
      exact lv_ishr hx hb hd (k H locs lr hP hD hS hl hlen)
    · cases ho
  | ladd =>
    simp only [ev_ok, Bool.and_eq_true, decide_eq_true_eq] at hok
    obtain ⟨hd, rfl⟩ := hok
    simp only [ev_o2] at ho
    split at ho
    · simp only [ev_j, Option.some.injEq, Sum.inl.injEq] at ho
      subst ho
      exact lv_ladd hx hb hd (k H locs lr hP hD hS hl hlen)
    · cases ho
  | lsub =>
    simp only [ev_ok, Bool.and_eq_true, decide_eq_true_eq] at hok
    obtain ⟨hd, rfl⟩ := hok
    simp only [ev_o2] at ho
    split at ho
    · simp only [ev_j, Option.some.injEq, Sum.inl.injEq] at ho
      subst ho
      exact lv_lsub hx hb hd (k H locs lr hP hD hS hl hlen)
    · cases ho
  | lmul =>
    simp only [ev_ok, Bool.and_eq_true, decide_eq_true_eq] at hok
    obtain ⟨hd, rfl⟩ := hok
    simp only [ev_o2] at ho
    split at ho
    · simp only [ev_j, Option.some.injEq, Sum.inl.injEq] at ho
      subst ho
      exact lv_lmul hx hb hd (k H locs lr hP hD hS hl hlen)
    · cases ho
  | land =>
    simp only [ev_ok, Bool.and_eq_true, decide_eq_true_eq] at hok
    obtain ⟨hd, rfl⟩ := hok
    simp only [ev_o2] at ho
    split at ho
    · simp only [ev_j, Option.some.injEq, Sum.inl.injEq] at ho
      subst ho
      exact lv_land hx hb hd (k H locs lr hP hD hS hl hlen)
    · cases ho
  | lneg =>
    simp only [ev_ok, Bool.and_eq_true, decide_eq_true_eq] at hok
    obtain ⟨hd, rfl⟩ := hok
    simp only [ev_o2] at ho
    split at ho
    · simp only [ev_j, Option.some.injEq, Sum.inl.injEq] at ho
      subst ho
      exact lv_lneg hx hb hd (k H locs lr hP hD hS hl hlen)
    · cases ho
  | iushr =>
    simp only [ev_ok, Bool.and_eq_true, decide_eq_true_eq] at hok
    obtain ⟨hd, rfl⟩ := hok
    simp only [ev_o2] at ho
    split at ho
    · simp only [ev_j, Option.some.injEq, Sum.inl.injEq] at ho
      subst ho
      exact lv_iushr hx hb hd rfl (k H locs lr hP hD hS hl hlen)
    · cases ho
  | lshr =>
    simp only [ev_ok, Bool.and_eq_true, decide_eq_true_eq] at hok
    obtain ⟨hd, rfl⟩ := hok
    simp only [ev_o2] at ho
    split at ho
    · simp only [ev_j, Option.some.injEq, Sum.inl.injEq] at ho
      subst ho
      exact lv_lshr hx hb hd rfl (k H locs lr hP hD hS hl hlen)
    · cases ho
  | lushr =>
    simp only [ev_ok, Bool.and_eq_true, decide_eq_true_eq] at hok
    obtain ⟨hd, rfl⟩ := hok
    simp only [ev_o2] at ho
    split at ho
    · simp only [ev_j, Option.some.injEq, Sum.inl.injEq] at ho
      subst ho
      exact lv_lushr hx hb hd rfl (k H locs lr hP hD hS hl hlen)
    · cases ho
  | i2l =>
    simp only [ev_ok, Bool.and_eq_true, decide_eq_true_eq] at hok
    obtain ⟨hd, rfl⟩ := hok
    simp only [ev_o2] at ho
    split at ho
    · simp only [ev_j, Option.some.injEq, Sum.inl.injEq] at ho
      subst ho
      exact lv_i2l hx hb hd rfl (k H locs lr hP hD hS hl hlen)
    · cases ho
  | l2i =>
    simp only [ev_ok, Bool.and_eq_true, decide_eq_true_eq] at hok
    obtain ⟨hd, rfl⟩ := hok
    simp only [ev_o2] at ho
    split at ho
    · simp only [ev_j, Option.some.injEq, Sum.inl.injEq] at ho
      subst ho
      exact lv_l2i hx hb hd rfl (k H locs lr hP hD hS hl hlen)
    · cases ho
  | i2b =>
    simp only [ev_ok, Bool.and_eq_true, decide_eq_true_eq] at hok
    obtain ⟨hd, rfl⟩ := hok
    simp only [ev_o2] at ho
    split at ho
    · simp only [ev_j, Option.some.injEq, Sum.inl.injEq] at ho
      subst ho
      exact lv_i2b hx hb hd rfl (k H locs lr hP hD hS hl hlen)
    · cases ho
  | i2c =>
    simp only [ev_ok, Bool.and_eq_true, decide_eq_true_eq] at hok
    obtain ⟨hd, rfl⟩ := hok
    simp only [ev_o2] at ho
    split at ho
    · simp only [ev_j, Option.some.injEq, Sum.inl.injEq] at ho
      subst ho
      exact lv_i2c hx hb hd rfl (k H locs lr hP hD hS hl hlen)
    · cases ho
  | lcmp =>
    simp only [ev_ok, Bool.and_eq_true, decide_eq_true_eq] at hok
    obtain ⟨hd, rfl⟩ := hok
    simp only [ev_o2] at ho
    split at ho
    · simp only [ev_j, Option.some.injEq, Sum.inl.injEq] at ho
      subst ho
      exact W.lcmp hx hb hd (k H locs lr hP hD hS hl hlen)
    · cases ho
  | idiv =>
    simp only [ev_ok, Bool.and_eq_true, decide_eq_true_eq] at hok
    obtain ⟨hd, rfl⟩ := hok
    simp only [ev_o2] at ho
    split at ho
    · split at ho
      · rename_i hg
        simp only [ev_j, Option.some.injEq, Sum.inl.injEq] at ho
        subst ho
        exact lv_idiv hx hb hd hg (k H locs lr hP hD hS hl hlen)
      · cases ho
    · cases ho
  | irem =>
    simp only [ev_ok, Bool.and_eq_true, decide_eq_true_eq] at hok
    obtain ⟨hd, rfl⟩ := hok
    simp only [ev_o2] at ho
    split at ho
    · split at ho
      · rename_i hg
        simp only [ev_j, Option.some.injEq, Sum.inl.injEq] at ho
        subst ho
        exact lv_irem hx hb hd hg (k H locs lr hP hD hS hl hlen)
      · cases ho
    · cases ho
  | ldiv =>
    simp only [ev_ok, Bool.and_eq_true, decide_eq_true_eq] at hok
    obtain ⟨hd, rfl⟩ := hok
    simp only [ev_o2] at ho
    split at ho
    · split at ho
      · rename_i hg
        simp only [ev_j, Option.some.injEq, Sum.inl.injEq] at ho
        subst ho
        exact lv_ldiv hx hb hd hg (k H locs lr hP hD hS hl hlen)
      · cases ho
    · cases ho
  | lrem =>
    simp only [ev_ok, Bool.and_eq_true, decide_eq_true_eq] at hok
    obtain ⟨hd, rfl⟩ := hok
    simp only [ev_o2] at ho
    split at ho
    · split at ho
      · rename_i hg
        simp only [ev_j, Option.some.injEq, Sum.inl.injEq] at ho
        subst ho
        exact lv_lrem hx hb hd hg (k H locs lr hP hD hS hl hlen)
      · cases ho
    · cases ho
  | dup =>
    simp only [ev_ok, Bool.and_eq_true, decide_eq_true_eq] at hok
    obtain ⟨hd, rfl⟩ := hok
    simp only [ev_o2] at ho
    split at ho
    · split at ho
      · rename_i hg
        simp only [ev_j, Option.some.injEq, Sum.inl.injEq] at ho
        subst ho
        exact lv_dup hx hb hd ((ev_cv_cat ρ _).trans hg) (k H locs lr hP hD hS hl hlen)
      · cases ho
    · cases ho
  | pop =>
    simp only [ev_ok, Bool.and_eq_true, decide_eq_true_eq] at hok
    obtain ⟨hd, rfl⟩ := hok
    simp only [ev_o2] at ho
    split at ho
    · split at ho
      · rename_i hg
        simp only [ev_j, Option.some.injEq, Sum.inl.injEq] at ho
        subst ho
        exact lv_pop hx hb hd ((ev_cv_cat ρ _).trans hg) (k H locs lr hP hD hS hl hlen)
      · cases ho
    · cases ho
  | dup2 =>
    simp only [ev_ok, Bool.and_eq_true, decide_eq_true_eq] at hok
    obtain ⟨hd, rfl⟩ := hok
    simp only [ev_o2] at ho
    split at ho
    · split at ho
      · rename_i hg
        simp only [ev_j, Option.some.injEq, Sum.inl.injEq] at ho
        subst ho
        exact lv_dup2_11 hx hb hd ((ev_cv_cat ρ _).trans hg.1) ((ev_cv_cat ρ _).trans hg.2) (k H locs lr hP hD hS hl hlen)
      · cases ho
    · cases ho
  | _ => simp [ev_o2] at ho
end EVS
