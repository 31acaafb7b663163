/-! ===== SOUNDNESS, instruction by instruction ===== -/
abbrev ev_ty (cA : Nat → ClassId) : List (ClassId × FieldType) := [(cA 0, .int), (cA 1, .long), (cA 2, .char), (cA 3, .byte), (cA 4, .object "WithEyesBound$Player"), (cA 5, .array .long)]
/-- what stays over a method's run -/
def ev_Fx (p : Program) (s : State) (m : MethodId) (args : Array Value) (c : Code) (own : String) (cc : ByteArray) (nL : Nat) (ρ : Nat → Nat) (cA : Nat → ClassId) (dC : Nat → ClassId) (dI : Nat → Nat → Nat) (A : Nat → Prop) : Prop :=
  p.tables.exec = Jvm.exec ∧ c.code = cc ∧ c.maxLocals = nL ∧ s.vm.findClass own = some m.cls ∧ (∀ w ∈ ev_tb, w.before args s = true) ∧ va_K (dC, dI) vwCl (ev_ty cA) s ∧ ev_G ρ A s s.heap ∧ ∀ q, s.heap.size ≤ q → A q
/-- the real machine stands where the abstract one does -/
def ev_Wc (p : Program) (l : Launch) (e : Env) (R : Room) (s : State) (m : MethodId) (args : Array Value) (below : List Frame) (meth : Method) (c : Code) (Q : State → Prop) (nL : Nat) (ρ : Nat → Nat) (cA : Nat → ClassId) (dC : Nat → ClassId) (dI : Nat → Nat → Nat) (A : Nat → Prop) (t : ev_S) : Prop :=
  ∀ (H : Heap) (locs : List Loc) (lr : Array Slot), va_P (dC, dI) vwCl (ev_cw ρ cA 0 t.2.2.2) H → va_D A (ev_cw ρ cA 0 t.2.2.2) → va_S A s.heap H locs → lv_has lr nL (ev_la ρ 0 t.2.1) → t.2.1.length = nL →
    W p l e R s m args below meth c H locs 0 0 Q (F0 m t.1 lr (t.2.2.1.map (ev_cv ρ)))
section EVS
variable {p : Program} {l : Launch} {e : Env} {R : Room} {s : State} {m : MethodId} {args : Array Value} {below : List Frame} {meth : Method} {c : Code} {Q : State → Prop} {own : String} {cc : ByteArray} {nL : Nat} {ρ : Nat → Nat} {cA : Nat → ClassId} {dC : Nat → ClassId} {dI : Nat → Nat → Nat} {A : Nat → Prop} {mt : List ev_MI}
set_option maxHeartbeats 4000000 in
theorem ev_snd1 (F : ev_Fx p s m args c own cc nL ρ cA dC dI A) {en : ev_E} (hok : ev_ok mt own cc en = true) {ls : ev_L} {st : List Value} {h : ev_H} {t : ev_S} (ho : ev_o1 en ls st h = some (.inl t)) (k : ev_Wc p l e R s m args below meth c Q nL ρ cA dC dI A t) : ev_Wc p l e R s m args below meth c Q nL ρ cA dC dI A (en.1, ls, st, h) := by
  obtain ⟨hx, hb, hml, hown, hts, hK, hG, hA⟩ := F
  obtain ⟨pc, i, len, x, tgt, cst, D, P⟩ := en
  intro H locs lr hP hD hS hl hlen
  change va_P (dC, dI) vwCl (ev_cw ρ cA 0 h) H at hP
  change va_D A (ev_cw ρ cA 0 h) at hD
  change lv_has lr nL (ev_la ρ 0 ls) at hl
  change ls.length = nL at hlen
  change W p l e R s m args below meth c H locs 0 0 Q (F0 m pc lr (st.map (ev_cv ρ)))
  cases i with
  | iconst n =>
    simp only [ev_ok, Bool.and_eq_true, decide_eq_true_eq] at hok
    obtain ⟨hd, rfl, rfl⟩ := hok
    simp only [ev_o1, ev_j, Option.some.injEq, Sum.inl.injEq] at ho
    subst ho
    exact lv_iconst hx hb hd rfl (k H locs lr hP hD hS hl hlen)
  | bipush n =>
    simp only [ev_ok, Bool.and_eq_true, decide_eq_true_eq] at hok
    obtain ⟨hd, rfl, rfl⟩ := hok
    simp only [ev_o1, ev_j, Option.some.injEq, Sum.inl.injEq] at ho
    subst ho
    exact lv_bipush hx hb hd rfl (k H locs lr hP hD hS hl hlen)
  | sipush n =>
    simp only [ev_ok, Bool.and_eq_true, decide_eq_true_eq] at hok
    obtain ⟨hd, rfl, rfl⟩ := hok
    simp only [ev_o1, ev_j, Option.some.injEq, Sum.inl.injEq] at ho
    subst ho
    exact lv_sipush hx hb hd rfl (k H locs lr hP hD hS hl hlen)
  | lconst n =>
    simp only [ev_ok, Bool.and_eq_true, decide_eq_true_eq] at hok
    obtain ⟨hd, rfl, rfl⟩ := hok
    simp only [ev_o1, ev_j, Option.some.injEq, Sum.inl.injEq] at ho
    subst ho
    exact lv_lconst hx hb hd rfl (k H locs lr hP hD hS hl hlen)
  | aconst_null =>
    simp only [ev_ok, Bool.and_eq_true, decide_eq_true_eq] at hok
    obtain ⟨hd, rfl, rfl⟩ := hok
    simp only [ev_o1, ev_j, Option.some.injEq, Sum.inl.injEq] at ho
    subst ho
    exact lv_null hx hb hd (k H locs lr hP hD hS hl hlen)
  | ldc n =>
    simp only [ev_ok, Bool.and_eq_true, decide_eq_true_eq] at hok
    obtain ⟨hd, rfl, hw⟩ := hok
    simp only [ev_o1, ev_j, Option.some.injEq, Sum.inl.injEq] at ho
    subst ho
    split at hw
    · exact lv_ldc hx hb hown (hts _ (ev_w_in hw)) hd (k H locs lr hP hD hS hl hlen)
    · rw [decide_eq_true_eq] at hw
      obtain ⟨rfl, rfl, rfl⟩ := hw
      exact va_ldcS hx hb hown hG.2.1.1 hd (k H locs lr hP hD hS hl hlen)
    · cases hw
  | ldc_w n =>
    simp only [ev_ok, Bool.and_eq_true, decide_eq_true_eq] at hok
    obtain ⟨hd, rfl, hw⟩ := hok
    simp only [ev_o1, ev_j, Option.some.injEq, Sum.inl.injEq] at ho
    subst ho
    split at hw
    · exact lv_ldcw hx hb hown (hts _ (ev_w_in hw)) hd (k H locs lr hP hD hS hl hlen)
    · cases hw
  | ldc2_w n =>
    simp only [ev_ok, Bool.and_eq_true, decide_eq_true_eq] at hok
    obtain ⟨hd, rfl, hw⟩ := hok
    simp only [ev_o1, ev_j, Option.some.injEq, Sum.inl.injEq] at ho
    subst ho
    split at hw
    · exact lv_ldc2 hx hb hown (hts _ (ev_w_in hw)) hd (k H locs lr hP hD hS hl hlen)
    · cases hw
  | getstatic n =>
    simp only [ev_ok, Bool.and_eq_true, Bool.or_eq_true, decide_eq_true_eq] at hok
    obtain ⟨hd, rfl, hw⟩ := hok
    simp only [ev_o1, ev_j, Option.some.injEq, Sum.inl.injEq] at ho
    subst ho
    rcases hw with ⟨rfl, hw⟩ | ⟨rfl, hw⟩ | ⟨rfl, hw⟩ | ⟨rfl, hw⟩
    · exact va_getsN hx hb hG.1.1 hS hown (va_Nw.use rfl (hG.2.2.2.1 _ hw)) (fun _ h => h) hd (k H locs lr hP hD hS hl hlen)
    · exact va_getsN hx hb hG.1.2.1 hS hown (va_Nw.use rfl (hG.2.2.2.1 _ hw)) (fun _ h => h) hd (k H locs lr hP hD hS hl hlen)
    · exact va_getsN hx hb hG.1.2.2.1 hS hown (va_Nw.use rfl (hG.2.2.2.1 _ hw)) (fun _ h => h) hd (k H locs lr hP hD hS hl hlen)
    · exact va_gets hx hb hG.2.1.2.2.2.2.2 hS hown (hts _ (ev_w_in hw)) (fun _ h => h) hd (k H locs lr hP hD hS hl hlen)
  | iload n =>
    simp only [ev_ok, Bool.and_eq_true, decide_eq_true_eq] at hok
    obtain ⟨hd, rfl, rfl⟩ := hok
    simp only [ev_o1] at ho
    split at ho
    · rename_i v hv
      simp only [ev_j, Option.some.injEq, Sum.inl.injEq] at ho
      subst ho
      exact lv_iload hx hb hd (ev_ld_has hl hv) (k H locs lr hP hD hS hl hlen)
    · cases ho
  | iload_n n =>
    simp only [ev_ok, Bool.and_eq_true, decide_eq_true_eq] at hok
    obtain ⟨hd, rfl, rfl⟩ := hok
    simp only [ev_o1] at ho
    split at ho
    · rename_i v hv
      simp only [ev_j, Option.some.injEq, Sum.inl.injEq] at ho
      subst ho
      exact lv_iload_n hx hb hd rfl (ev_ld_has hl hv) (k H locs lr hP hD hS hl hlen)
    · cases ho
  | lload n =>
    simp only [ev_ok, Bool.and_eq_true, decide_eq_true_eq] at hok
    obtain ⟨hd, rfl, rfl⟩ := hok
    simp only [ev_o1] at ho
    split at ho
    · rename_i v hv
      simp only [ev_j, Option.some.injEq, Sum.inl.injEq] at ho
      subst ho
      exact lv_lload hx hb hd (ev_ld_has hl hv) (k H locs lr hP hD hS hl hlen)
    · cases ho
  | lload_n n =>
    simp only [ev_ok, Bool.and_eq_true, decide_eq_true_eq] at hok
    obtain ⟨hd, rfl, rfl⟩ := hok
    simp only [ev_o1] at ho
    split at ho
    · rename_i v hv
      simp only [ev_j, Option.some.injEq, Sum.inl.injEq] at ho
      subst ho
      exact lv_lload_n hx hb hd rfl (ev_ld_has hl hv) (k H locs lr hP hD hS hl hlen)
    · cases ho
  | aload n =>
    simp only [ev_ok, Bool.and_eq_true, decide_eq_true_eq] at hok
    obtain ⟨hd, rfl, rfl⟩ := hok
    simp only [ev_o1] at ho
    split at ho
    · rename_i v hv
      simp only [ev_j, Option.some.injEq, Sum.inl.injEq] at ho
      subst ho
      exact lv_aload hx hb hd (ev_ld_has hl hv) (k H locs lr hP hD hS hl hlen)
    · rename_i hv
      simp only [ev_j, Option.some.injEq, Sum.inl.injEq] at ho
      subst ho
      exact lv_aloadN hx hb hd (ev_ld_has hl hv) (k H locs lr hP hD hS hl hlen)
    · cases ho
  | aload_n n =>
    simp only [ev_ok, Bool.and_eq_true, decide_eq_true_eq] at hok
    obtain ⟨hd, rfl, rfl⟩ := hok
    simp only [ev_o1] at ho
    split at ho
    · rename_i v hv
      simp only [ev_j, Option.some.injEq, Sum.inl.injEq] at ho
      subst ho
      exact lv_aload_n hx hb hd rfl (ev_ld_has hl hv) (k H locs lr hP hD hS hl hlen)
    · rename_i hv
      simp only [ev_j, Option.some.injEq, Sum.inl.injEq] at ho
      subst ho
      exact lv_aload_nN hx hb hd rfl (ev_ld_has hl hv) (k H locs lr hP hD hS hl hlen)
    · cases ho
  | istore n =>
    simp only [ev_ok, Bool.and_eq_true, decide_eq_true_eq] at hok
    obtain ⟨hd, rfl, rfl⟩ := hok
    simp only [ev_o1] at ho
    split at ho
    · split at ho
      · rename_i hlt
        simp only [ev_j, Option.some.injEq, Sum.inl.injEq] at ho
        subst ho
        exact lv_istore hx hb hd hl (hlen ▸ hlt) rfl (fun lr hl => k H locs lr hP hD hS (ev_has_mono hl (ev_s1_sub ρ)) ((ev_s1_len _ _ _).trans hlen))
      · cases ho
    · cases ho
  | istore_n n =>
    simp only [ev_ok, Bool.and_eq_true, decide_eq_true_eq] at hok
    obtain ⟨hd, rfl, rfl⟩ := hok
    simp only [ev_o1] at ho
    split at ho
    · split at ho
      · rename_i hlt
        simp only [ev_j, Option.some.injEq, Sum.inl.injEq] at ho
        subst ho
        exact lv_istore_n hx hb hd rfl hl (hlen ▸ hlt) rfl (fun lr hl => k H locs lr hP hD hS (ev_has_mono hl (ev_s1_sub ρ)) ((ev_s1_len _ _ _).trans hlen))
      · cases ho
    · cases ho
  | lstore n =>
    simp only [ev_ok, Bool.and_eq_true, decide_eq_true_eq] at hok
    obtain ⟨hd, rfl, rfl⟩ := hok
    simp only [ev_o1] at ho
    split at ho
    · split at ho
      · rename_i hlt
        simp only [ev_j, Option.some.injEq, Sum.inl.injEq] at ho
        subst ho
        exact lv_lstore hx hb hd hl (hlen ▸ hlt) rfl (fun lr hl => k H locs lr hP hD hS (ev_has_mono hl (ev_s2_sub ρ)) ((ev_s2_len _ _ _).trans hlen))
      · cases ho
    · cases ho
  | lstore_n n =>
    simp only [ev_ok, Bool.and_eq_true, decide_eq_true_eq] at hok
    obtain ⟨hd, rfl, rfl⟩ := hok
    simp only [ev_o1] at ho
    split at ho
    · split at ho
      · rename_i hlt
        simp only [ev_j, Option.some.injEq, Sum.inl.injEq] at ho
        subst ho
        exact lv_lstore_n hx hb hd rfl hl (hlen ▸ hlt) rfl (fun lr hl => k H locs lr hP hD hS (ev_has_mono hl (ev_s2_sub ρ)) ((ev_s2_len _ _ _).trans hlen))
      · cases ho
    · cases ho
  | astore n =>
    simp only [ev_ok, Bool.and_eq_true, decide_eq_true_eq] at hok
    obtain ⟨hd, rfl, rfl⟩ := hok
    simp only [ev_o1] at ho
    split at ho
    · split at ho
      · rename_i hlt
        simp only [ev_j, Option.some.injEq, Sum.inl.injEq] at ho
        subst ho
        exact lv_astore hx hb hd hl (hlen ▸ hlt) rfl (fun lr hl => k H locs lr hP hD hS (ev_has_mono hl (ev_s1_sub ρ)) ((ev_s1_len _ _ _).trans hlen))
      · cases ho
    · split at ho
      · rename_i hlt
        simp only [ev_j, Option.some.injEq, Sum.inl.injEq] at ho
        subst ho
        exact lv_astoreN hx hb hd hl (hlen ▸ hlt) rfl (fun lr hl => k H locs lr hP hD hS (ev_has_mono hl (ev_s1_sub ρ)) ((ev_s1_len _ _ _).trans hlen))
      · cases ho
    · cases ho
  | astore_n n =>
    simp only [ev_ok, Bool.and_eq_true, decide_eq_true_eq] at hok
    obtain ⟨hd, rfl, rfl⟩ := hok
    simp only [ev_o1] at ho
    split at ho
    · split at ho
      · rename_i hlt
        simp only [ev_j, Option.some.injEq, Sum.inl.injEq] at ho
        subst ho
        exact lv_astore_n hx hb hd rfl hl (hlen ▸ hlt) rfl (fun lr hl => k H locs lr hP hD hS (ev_has_mono hl (ev_s1_sub ρ)) ((ev_s1_len _ _ _).trans hlen))
      · cases ho
    · split at ho
      · rename_i hlt
        simp only [ev_j, Option.some.injEq, Sum.inl.injEq] at ho
        subst ho
        exact lv_astore_nN hx hb hd rfl hl (hlen ▸ hlt) rfl (fun lr hl => k H locs lr hP hD hS (ev_has_mono hl (ev_s1_sub ρ)) ((ev_s1_len _ _ _).trans hlen))
      · cases ho
    · cases ho
  | iinc n q =>
    simp only [ev_ok, Bool.and_eq_true, decide_eq_true_eq] at hok
    obtain ⟨hd, rfl, rfl, rfl⟩ := hok
    simp only [ev_o1] at ho
    split at ho
    · rename_i v w hv hw
      cases hw
      split at ho
      · rename_i hlt
        simp only [ev_j, Option.some.injEq, Sum.inl.injEq] at ho
        subst ho
        have hm : (n, Value.int v) ∈ ev_la ρ 0 ls := by
          unfold ev_ld at hv
          split at hv
          · rename_i w0 hw0
            cases hv
            exact ev_la_mem.mpr ⟨n, _, hw0, by rw [Nat.zero_add]; rfl⟩
          · cases hv
        obtain ⟨j, hj⟩ := List.mem_iff_getElem?.mp hm
        exact lv_iinc hx hb hd hl (k := j) hj rfl (hlen ▸ hlt) rfl (fun lr hl => k H locs lr hP hD hS (ev_has_mono hl (ev_s1_sub ρ)) ((ev_s1_len _ _ _).trans hlen))
      · cases ho
    · cases ho
  | _ => simp [ev_o1] at ho
end EVS
