theorem ev_lk {D : List (Nat × Nat)} {ci k : Nat} (h : D.lookup ci = some k) : (ci, k) ∈ D := by
  induction D with
  | nil => cases h
  | cons q r ih =>
    obtain ⟨a, b⟩ := q
    rw [List.lookup_cons] at h
    split at h
    · rename_i e
      cases h
      rw [beq_iff_eq.mp e]
      exact List.mem_cons_self
    · exact List.mem_cons_of_mem _ (ih h)
theorem ev_ins {own : String} {idx : Nat} {P : List Nat} {q : Nat × Nat} (h : ev_okI own idx P q = true) : ∃ C T N nm, vwCl[q.1]? = some (C, T, N) ∧ Cond.classLink own idx nm ∈ ev_tb ∧ (match q.2 with
    | 0 => decide ((C, nm) ∈ ev_cn)
    | 1 => decide (C = nm) || decide ((C, nm) ∈ ev_cy)
    | _ => false) = true := by
  unfold ev_okI at h
  split at h
  · rename_i C T N u1 u2 nm h1 h2
    rw [Bool.and_eq_true] at h
    exact ⟨C, T, N, nm, h1, ev_w_in h.1, h.2⟩
  · cases h
theorem ev_tyAt (cA : Nat → ClassId) {t : Nat} (h : t < 6) : ∃ ty, (ev_ty cA)[t]? = some (cA t, ty) := by
  rcases (show t = 0 ∨ t = 1 ∨ t = 2 ∨ t = 3 ∨ t = 4 ∨ t = 5 by omega) with rfl | rfl | rfl | rfl | rfl | rfl <;> exact ⟨_, rfl⟩
theorem ev_fits (ρ : Nat → Nat) {t : Nat} {v : Value} (ht : t < 3) (h : ev_fit t v = true) : ∃ ty, parseFieldDescriptor (ev_dsc t) = some ty ∧ narrow ty (ev_cv ρ v) = ev_cv ρ v ∧ fits ty (ev_cv ρ v) = true := by
  unfold ev_fit at h
  split at h
  · exact ⟨.int, by decide +kernel, rfl, rfl⟩
  · exact ⟨.long, by decide +kernel, rfl, rfl⟩
  · rw [decide_eq_true_eq] at h
    rcases h with rfl | rfl
    · exact ⟨.boolean, by decide +kernel, (by decide +kernel : narrow .boolean (.int 0) = .int 0), (by decide +kernel : fits .boolean (.int 0) = true)⟩
    · exact ⟨.boolean, by decide +kernel, (by decide +kernel : narrow .boolean (.int 1) = .int 1), (by decide +kernel : fits .boolean (.int 1) = true)⟩
  · cases h
section EVF
variable {s : State} {args : Array Value}
theorem ev_fld (hts : ∀ w ∈ ev_tb, w.before args s = true) {own : String} {idx x : Nat} {P : List Nat} {q : Nat × Nat} (h : ev_okF own idx x P q = true) : ∃ C T N ref, vwCl[q.1]? = some (C, T, N) ∧ x < N ∧ (Cond.fieldLink own idx ref (T x).2.1 (T x).2.2.1).before args s = true ∧ ∀ z, s.fieldFound? (T x).1 (T x).2.1 (T x).2.2.1 = some z → s.fieldFound? ref (T x).2.1 (T x).2.2.1 = some z := by
  unfold ev_okF at h
  split at h
  · rename_i C T N h1
    rw [Bool.and_eq_true, decide_eq_true_eq] at h
    obtain ⟨h2, h3⟩ := h
    split at h3
    · exact ⟨C, T, N, _, h1, h2, hts _ (ev_w_in h3), fun _ z => z⟩
    · split at h3
      · rename_i ref _ _ _
        rw [Bool.and_eq_true] at h3
        exact ⟨C, T, N, ref, h1, h2, hts _ (ev_w_in h3.1), u_same (hts _ (ev_w_in h3.2))⟩
      · cases h3
    · cases h3
  · cases h
end EVF
section EVS
variable {p : Program} {l : Launch} {e : Env} {R : Room} {s : State} {m : MethodId} {args : Array Value} {below : List Frame} {meth : Method} {c : Code} {Q : State → Prop} {own : String} {cc : ByteArray} {nL : Nat} {ρ : Nat → Nat} {cA : Nat → ClassId} {dC : Nat → ClassId} {dI : Nat → Nat → Nat} {A : Nat → Prop} {mt : List ev_MI}
theorem ev_aldg {H : Heap} {locs : List Loc} {D : va_G} {cl : List vw_C} {tys : List (ClassId × FieldType)} {ws : va_W} {a pc : Nat} {lr : Array Slot} {rest : List Value} (hexec : p.tables.exec = Jvm.exec) (hb : c.code = cc) (hK : va_K D cl tys s) (hP : va_P D cl ws H) (q0 t0 : Nat) {cA : ClassId} {ty : FieldType} {n : Nat} {f : Nat → Option Nat} (ha : ws[q0]? = some (a, .inl (cA, n, .inr (.inr (.inr (.inr f)))))) (ht : tys[t0]? = some (cA, .array ty)) {i : Int32} (hin : vp_in i n) (hdg : decode cc pc = .ok (.aaload, 1))
    (kk : W p l e R s m args below meth c H locs 0 0 Q (F0 m (pc + 1) lr (va_rf (f i.toNatClampNeg) :: rest))) : W p l e R s m args below meth c H locs 0 0 Q (F0 m pc lr (.int i :: .ref a :: rest)) := by
  have hlt : i.toNatClampNeg < n := Nat.not_le.mp fun q => hin (Or.inr q)
  exact W.aald (v := va_rf (f i.toNatClampNeg)) (ty := .array ty) hexec hb (hP q0 _ ha) ((hK.2 t0 _ ht).1 n (fun j => va_rf (f j))) rfl (fun q => by cases q) (by show ¬ (i < 0 ∨ (arrV _ _ _).slots.size ≤ _); rw [arrV_size]; exact hin) (by show (arrV _ _ _).slots[_]? = _; rw [arrV_read _ _ hlt]) rfl rfl hdg kk
set_option maxHeartbeats 4000000 in
theorem ev_snd4 (F : ev_Fx p s m args c own cc nL ρ cA dC dI A) {en : ev_E} (hok : ev_ok mt own cc en = true) {ls : ev_L} {st : List Value} {h : ev_H} {t : ev_S} (ho : ev_o4 en ls st h = some (.inl t)) (k : ev_Wc p l e R s m args below meth c Q nL ρ cA dC dI A t) : ev_Wc p l e R s m args below meth c Q nL ρ cA dC dI A (en.1, ls, st, h) := by
  obtain ⟨hx, hb, hml, hown, hts, hK, hG, hA⟩ := F
  obtain ⟨pc, i, len, x, tgt, cst, D, P⟩ := en
  intro H locs lr hP hD hS hl hlen
  change va_P (dC, dI) vwCl (ev_cw ρ cA 0 h) H at hP
  change va_D A (ev_cw ρ cA 0 h) at hD
  change lv_has lr nL (ev_la ρ 0 ls) at hl
  change ls.length = nL at hlen
  change W p l e R s m args below meth c H locs 0 0 Q (F0 m pc lr (st.map (ev_cv ρ)))
  cases i with
  | getfield n =>
    simp only [ev_ok, Bool.and_eq_true, decide_eq_true_eq] at hok
    obtain ⟨hd, rfl, hF, hT⟩ := hok
    simp only [ev_o4] at ho
    split at ho
    · rename_i a r
      split at ho
      · rename_i ha
        subst ha
        split at ho
        · rename_i ht
          rw [if_pos ht, Bool.or_eq_true, Bool.and_eq_true, Bool.and_eq_true, decide_eq_true_eq, decide_eq_true_eq] at hT
          simp only [ev_j, Option.some.injEq, Sum.inl.injEq] at ho
          subst ho
          rcases hT with ⟨rfl, hw⟩ | ⟨rfl, hw⟩
          · exact vk_getf hx hb hG.2.1.2.2.1 hS hown (hts _ (ev_w_in hw)) (fun _ h => h) hd (k H locs lr hP hD hS hl hlen)
          · exact vk_getf hx hb hG.2.1.2.2.2.1 hS hown (hts _ (ev_w_in hw)) (fun _ h => h) hd (k H locs lr hP hD hS hl hlen)
        · cases ho
      · split at ho
        · rename_i ci fs hg
          split at ho
          · rename_i hD0
            split at ho
            · rename_i v hv
              simp only [ev_j, Option.some.injEq, Sum.inl.injEq] at ho
              subst ho
              obtain ⟨j, hj, -⟩ := ev_at ρ cA hg
              obtain ⟨q, hq, hqe⟩ := List.any_eq_true.mp hD0
              have hqc : q.1 = ci := beq_iff_eq.mp hqe
              obtain ⟨C, T, N, ref, h1, h2, h3, h4⟩ := ev_fld hts (List.all_eq_true.mp hF q hq)
              rw [hqc] at h1
              exact va_get (D := (dC, dI)) hx hb hts (ev_lay _ (List.mem_of_getElem? h1)) hown hK hP j hj h1 x h2 h3 h4 (by rw [List.getElem?_map, hv]; rfl) hd (k H locs lr hP hD hS hl hlen)
            · cases ho
          · cases ho
        · cases ho
    · cases ho
  | putfield n =>
    simp only [ev_ok, Bool.and_eq_true, decide_eq_true_eq] at hok
    obtain ⟨hd, rfl, hF, hPu⟩ := hok
    simp only [ev_o4] at ho
    split at ho
    · rename_i v a r
      split at ho
      · rename_i ci fs hg
        split at ho
        · rename_i hc
          obtain ⟨hD0, hxl, hfit⟩ := hc
          simp only [ev_j, Option.some.injEq, Sum.inl.injEq] at ho
          subst ho
          obtain ⟨j, hj, hset⟩ := ev_at ρ cA hg
          obtain ⟨q, hq, hqe⟩ := List.any_eq_true.mp hD0
          have hqc : q.1 = ci := beq_iff_eq.mp hqe
          obtain ⟨C, T, N, ref, h1, h2, h3, h4⟩ := ev_fld hts (List.all_eq_true.mp hF q hq)
          have hp1 := List.all_eq_true.mp hPu q hq
          simp only [ev_okP, h1, decide_eq_true_eq] at hp1
          obtain ⟨p1, p2, p3⟩ := hp1
          rw [hqc] at h1
          obtain ⟨ty0, hty, hnm⟩ := ev_typ _ (List.mem_of_getElem? h1)
          obtain ⟨ty, q1, q2, q3⟩ := ev_fits ρ p3 hfit
          refine va_put (D := (dC, dI)) hx hb hts (ev_lay _ (List.mem_of_getElem? h1)) ty0 hty hnm hown hK hP hD hS j hj h1 x h2 h3 h4 p1 (by rw [p2]; exact q1) q2 q3 (by rw [List.length_map]; exact hxl) hd (fun H1 locs1 hP1 hD1 hS1 => ?_)
          have hs : (ev_cw ρ cA 0 h).set j (ρ a, .inr (ci, (fs.map (ev_cv ρ)).set x (ev_cv ρ v))) = ev_cw ρ cA 0 (h.set a (some (.inr (ci, fs.set x v)))) := by
            rw [← List.map_set]
            exact hset (.inr (ci, fs.set x v))
          rw [hs] at hP1 hD1
          exact k H1 locs1 lr hP1 hD1 hS1 hl hlen
        · cases ho
      · cases ho
    · cases ho
  | arraylength =>
    simp only [ev_ok, Bool.and_eq_true, decide_eq_true_eq] at hok
    obtain ⟨hd, rfl⟩ := hok
    simp only [ev_o4] at ho
    split at ho
    · rename_i a r
      split at ho
      · split at ho
        · rename_i h2
          subst h2
          simp only [ev_j, Option.some.injEq, Sum.inl.injEq] at ho
          subst ho
          exact va_tlen hx hb hG.2.1.2.2.2.2.1 hS rfl hd (k H locs lr hP hD hS hl hlen)
        · cases ho
      · split at ho
        · rename_i tt n d hg
          split at ho
          · rename_i ht6
            simp only [ev_j, Option.some.injEq, Sum.inl.injEq] at ho
            subst ho
            obtain ⟨j, hj, -⟩ := ev_at ρ cA hg
            obtain ⟨ty, hty⟩ := ev_tyAt cA ht6
            exact va_alen hx hb hK hP j tt hj hty rfl hd (k H locs lr hP hD hS hl hlen)
          · cases ho
        · cases ho
    · cases ho
  | iaload =>
    simp only [ev_ok, Bool.and_eq_true, decide_eq_true_eq] at hok
    obtain ⟨hd, rfl⟩ := hok
    simp only [ev_o4] at ho
    split at ho
    · split at ho
      · split at ho
        · rename_i hin
          split at ho
          · rename_i hr
            simp only [ev_j, Option.some.injEq, Sum.inl.injEq] at ho
            subst ho
            exact va_ti hx hb (hG.1.2.2.2 _ hr.1 hr.2) hS hin rfl hd (k H locs lr hP hD hS hl hlen)
          · cases ho
        · cases ho
      · split at ho
        · rename_i n f hg
          split at ho
          · rename_i hin
            simp only [ev_j, Option.some.injEq, Sum.inl.injEq] at ho
            subst ho
            obtain ⟨j, hj, -⟩ := ev_at ρ cA hg
            exact va_iald hx hb hK hP j 0 hj rfl hin hd (k H locs lr hP hD hS hl hlen)
          · cases ho
        · cases ho
    · cases ho
  | baload =>
    simp only [ev_ok, Bool.and_eq_true, decide_eq_true_eq] at hok
    obtain ⟨hd, rfl⟩ := hok
    simp only [ev_o4] at ho
    split at ho
    · split at ho
      · split at ho
        · rename_i hin
          split at ho
          · rename_i hr
            subst hr
            simp only [ev_j, Option.some.injEq, Sum.inl.injEq] at ho
            subst ho
            exact va_tb hx hb hG.2.1.2.2.2.2.1 hS hin rfl hd (k H locs lr hP hD hS hl hlen)
          · cases ho
        · cases ho
      · split at ho
        · rename_i n f hg
          split at ho
          · rename_i hin
            simp only [ev_j, Option.some.injEq, Sum.inl.injEq] at ho
            subst ho
            obtain ⟨j, hj, -⟩ := ev_at ρ cA hg
            exact va_bald hx hb hK hP j 3 hj rfl hin hd (k H locs lr hP hD hS hl hlen)
          · cases ho
        · cases ho
    · cases ho
  | laload =>
    simp only [ev_ok, Bool.and_eq_true, decide_eq_true_eq] at hok
    obtain ⟨hd, rfl⟩ := hok
    simp only [ev_o4] at ho
    split at ho
    · split at ho
      · rename_i n f hg
        split at ho
        · rename_i hin
          simp only [ev_j, Option.some.injEq, Sum.inl.injEq] at ho
          subst ho
          obtain ⟨j, hj, -⟩ := ev_at ρ cA hg
          exact va_lald hx hb hK hP j 1 hj rfl hin hd (k H locs lr hP hD hS hl hlen)
        · cases ho
      · cases ho
    · cases ho
  | caload =>
    simp only [ev_ok, Bool.and_eq_true, decide_eq_true_eq] at hok
    obtain ⟨hd, rfl⟩ := hok
    simp only [ev_o4] at ho
    split at ho
    · split at ho
      · rename_i n f hg
        split at ho
        · rename_i hin
          simp only [ev_j, Option.some.injEq, Sum.inl.injEq] at ho
          subst ho
          obtain ⟨j, hj, -⟩ := ev_at ρ cA hg
          exact va_cald hx hb hK hP j 2 hj rfl hin hd (k H locs lr hP hD hS hl hlen)
        · cases ho
      · cases ho
    · cases ho
  | aaload =>
    simp only [ev_ok, Bool.and_eq_true, decide_eq_true_eq] at hok
    obtain ⟨hd, rfl⟩ := hok
    simp only [ev_o4] at ho
    split at ho
    · split at ho
      · rename_i tt n f hg
        split at ho
        · rename_i hin
          split at ho
          · rename_i htt
            simp only [ev_j, Option.some.injEq, Sum.inl.injEq] at ho
            subst ho
            obtain ⟨j, hj, -⟩ := ev_at ρ cA hg
            have k1 := k H locs lr hP hD hS hl hlen
            have k2 := W.eq (g := F0 m (pc + 1) lr (va_rf ((f _).map ρ) :: _)) (by rw [← ev_cv_rf]; rfl) k1
            rcases htt with rfl | rfl
            · exact va_aldq hx hb hK hP j 4 hj rfl hin hd k2
            · exact ev_aldg hx hb hK hP j 5 hj rfl hin hd k2
          · cases ho
        · cases ho
      · cases ho
    · cases ho
  | iastore =>
    simp only [ev_ok, Bool.and_eq_true, decide_eq_true_eq] at hok
    obtain ⟨hd, rfl⟩ := hok
    simp only [ev_o4] at ho
    split at ho
    · rename_i v0 j0 a0 r0
      split at ho
      · rename_i n f hg
        split at ho
        · rename_i hin
          simp only [ev_j, Option.some.injEq, Sum.inl.injEq] at ho
          subst ho
          obtain ⟨j, hj, hset⟩ := ev_at ρ cA hg
          refine va_iast hx hb hK hP hD hS j 0 hj rfl hin hd (fun H1 locs1 hP1 hD1 hS1 => ?_)
          refine k H1 locs1 lr ?_ ?_ hS1 hl hlen
          · have h9 := hset (.inl (0, n, .inl (upd f j0.toNatClampNeg v0)))
            exact h9 ▸ hP1
          · have h9 := hset (.inl (0, n, .inl (upd f j0.toNatClampNeg v0)))
            exact h9 ▸ hD1
        · cases ho
      · cases ho
    · cases ho
  | lastore =>
    simp only [ev_ok, Bool.and_eq_true, decide_eq_true_eq] at hok
    obtain ⟨hd, rfl⟩ := hok
    simp only [ev_o4] at ho
    split at ho
    · rename_i v0 j0 a0 r0
      split at ho
      · rename_i n f hg
        split at ho
        · rename_i hin
          simp only [ev_j, Option.some.injEq, Sum.inl.injEq] at ho
          subst ho
          obtain ⟨j, hj, hset⟩ := ev_at ρ cA hg
          refine va_last hx hb hK hP hD hS j 1 hj rfl hin hd (fun H1 locs1 hP1 hD1 hS1 => ?_)
          refine k H1 locs1 lr ?_ ?_ hS1 hl hlen
          · have h9 := hset (.inl (1, n, .inr (.inl (vp_updL f j0.toNatClampNeg v0))))
            exact h9 ▸ hP1
          · have h9 := hset (.inl (1, n, .inr (.inl (vp_updL f j0.toNatClampNeg v0))))
            exact h9 ▸ hD1
        · cases ho
      · cases ho
    · cases ho
  | castore =>
    simp only [ev_ok, Bool.and_eq_true, decide_eq_true_eq] at hok
    obtain ⟨hd, rfl⟩ := hok
    simp only [ev_o4] at ho
    split at ho
    · rename_i v0 j0 a0 r0
      split at ho
      · rename_i n f hg
        split at ho
        · rename_i hin
          simp only [ev_j, Option.some.injEq, Sum.inl.injEq] at ho
          subst ho
          obtain ⟨j, hj, hset⟩ := ev_at ρ cA hg
          refine va_cast hx hb hK hP hD hS j 2 hj rfl hin hd (fun H1 locs1 hP1 hD1 hS1 => ?_)
          refine k H1 locs1 lr ?_ ?_ hS1 hl hlen
          · have h9 := hset (.inl (2, n, .inl (upd f j0.toNatClampNeg (vp_nar .char v0))))
            exact h9 ▸ hP1
          · have h9 := hset (.inl (2, n, .inl (upd f j0.toNatClampNeg (vp_nar .char v0))))
            exact h9 ▸ hD1
        · cases ho
      · cases ho
    · cases ho
  | bastore =>
    simp only [ev_ok, Bool.and_eq_true, decide_eq_true_eq] at hok
    obtain ⟨hd, rfl⟩ := hok
    simp only [ev_o4] at ho
    split at ho
    · rename_i v0 j0 a0 r0
      split at ho
      · rename_i n f hg
        split at ho
        · rename_i hin
          simp only [ev_j, Option.some.injEq, Sum.inl.injEq] at ho
          subst ho
          obtain ⟨j, hj, hset⟩ := ev_at ρ cA hg
          refine va_bast hx hb hK hP hD hS j 3 hj rfl hin hd (fun H1 locs1 hP1 hD1 hS1 => ?_)
          refine k H1 locs1 lr ?_ ?_ hS1 hl hlen
          · have h9 := hset (.inl (3, n, .inl (upd f j0.toNatClampNeg (vp_nar .byte v0))))
            exact h9 ▸ hP1
          · have h9 := hset (.inl (3, n, .inl (upd f j0.toNatClampNeg (vp_nar .byte v0))))
            exact h9 ▸ hD1
        · cases ho
      · cases ho
    · cases ho
  | aastore =>
    simp only [ev_ok, Bool.and_eq_true, decide_eq_true_eq] at hok
    obtain ⟨hd, rfl⟩ := hok
    simp only [ev_o4] at ho
    split at ho
    · rename_i i0 a r
      split at ho
      · rename_i n f hg
        split at ho
        · rename_i hin
          simp only [ev_j, Option.some.injEq, Sum.inl.injEq] at ho
          subst ho
          obtain ⟨j, hj, hset⟩ := ev_at ρ cA hg
          refine va_astqN hx hb hK hP hD hS j 4 hj rfl hin hd (fun H1 locs1 hP1 hD1 hS1 => ?_)
          have h9 := hset (.inl (4, n, .inr (.inr (.inr (.inr (va_up f i0.toNatClampNeg none))))))
          have h8 : (fun i => (va_up f i0.toNatClampNeg none i).map ρ) = va_up (fun i => (f i).map ρ) i0.toNatClampNeg none := by
            funext i
            unfold va_up
            split <;> rfl
          simp only [ev_ce, ev_cd, h8] at h9
          refine k H1 locs1 lr ?_ ?_ hS1 hl hlen
          · exact h9 ▸ hP1
          · exact h9 ▸ hD1
        · cases ho
      · cases ho
    · cases ho
  | instanceof n =>
    simp only [ev_ok, Bool.and_eq_true, decide_eq_true_eq] at hok
    obtain ⟨hd, rfl, hI⟩ := hok
    simp only [ev_o4] at ho
    split at ho
    · split at ho
      · rename_i ci fs hg
        obtain ⟨j, hj, -⟩ := ev_at ρ cA hg
        split at ho
        · rename_i hlk
          simp only [ev_j, Option.some.injEq, Sum.inl.injEq] at ho
          subst ho
          obtain ⟨C, T, N, nm, h1, h2, h3⟩ := ev_ins (List.all_eq_true.mp hI _ (ev_lk hlk))
          have h4 : (C, nm) ∈ ev_cn := by simpa using h3
          exact va_instNo hx hb hown (hts _ h2) (hG.2.2.2.2.2 _ h4) (va_recv hK hP h1 hj) hd (k H locs lr hP hD hS hl hlen)
        · rename_i hlk
          simp only [ev_j, Option.some.injEq, Sum.inl.injEq] at ho
          subst ho
          obtain ⟨C, T, N, nm, h1, h2, h3⟩ := ev_ins (List.all_eq_true.mp hI _ (ev_lk hlk))
          have h4 : C = nm ∨ (C, nm) ∈ ev_cy := by simpa using h3
          rcases h4 with rfl | h4
          · exact va_instS hx hb hown (hts _ h2) (hK.1 _ _ h1).2 (va_recv hK hP h1 hj) hd (k H locs lr hP hD hS hl hlen)
          · exact va_instY hx hb hown (hts _ h2) (hG.2.2.2.2.1 _ h4) (va_recv hK hP h1 hj) hd (k H locs lr hP hD hS hl hlen)
        · cases ho
      · cases ho
    · cases ho
  | _ => simp [ev_o4] at ho
end EVS
