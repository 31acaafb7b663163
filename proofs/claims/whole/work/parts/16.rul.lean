/-! ===== RULES for runs of the abstract machine ===== -/
abbrev ev_X (d : Nat) (rt : Option FieldType) (I : List ev_E) (c : ev_S) (z : ev_Z) : Prop := ∃ n, ev_R (ev_M ev_mt d) rt I n c z
/-- what the instruction behind k plain ones gives -/
def ev_nx (rt : Option FieldType) (I : List ev_E) : Nat → ev_S → Option (ev_S ⊕ ev_Z)
  | 0, (pc, ls, st, h) => match ev_find I pc with
    | some e => ev_one rt e ls st h
    | none => none
  | k + 1, (pc, ls, st, h) => match ev_find I pc with
    | some e => (match ev_one rt e ls st h with
      | some (.inl c') => ev_nx rt I k c'
      | _ => none)
    | none => none
/-- the call behind k plain instructions -/
def ev_ci (rt : Option FieldType) (I : List ev_E) : Nat → ev_S → Option (Nat × List Value × List Value × ev_S)
  | 0, (pc, ls, st, h) => match ev_find I pc with
    | some e => (match ev_inv e st h with
      | some (k, as, rest) => some (k, as, rest, (pc, ls, st, h))
      | none => none)
    | none => none
  | k + 1, (pc, ls, st, h) => match ev_find I pc with
    | some e => (match ev_one rt e ls st h with
      | some (.inl c') => ev_ci rt I k c'
      | _ => none)
    | none => none
section RUL
variable {d : Nat} {rt : Option FieldType} {I : List ev_E} {c c' : ev_S} {z : ev_Z}
theorem ev_st1 {pc : Nat} {ls : ev_L} {st : List Value} {h : ev_H} {e : ev_E} (hf : ev_find I pc = some e) (ho : ev_one rt e ls st h = some (.inl c')) (n : ev_X d rt I c' z) : ev_X d rt I (pc, ls, st, h) z := by
  obtain ⟨n, hn⟩ := n
  exact ⟨n + 1, e, hf, Or.inl ⟨c', ho, hn⟩⟩
theorem ev_go : ∀ (k : Nat) {c : ev_S}, ev_nx rt I k c = some (.inl c') → ev_X d rt I c' z → ev_X d rt I c z
  | 0, (pc, ls, st, h), q, n => by
    unfold ev_nx at q
    split at q
    · rename_i e he
      exact ev_st1 he q n
    · cases q
  | k + 1, (pc, ls, st, h), q, n => by
    unfold ev_nx at q
    split at q
    · rename_i e he
      split at q
      · rename_i c1 h1
        exact ev_st1 he h1 (ev_go k q n)
      · cases q
    · cases q
theorem ev_ck (k : Nat) {P : Prop} {hd : Decidable P} (q : ev_nx rt I k c = if P then some (.inl c') else none) (hP : P) (n : ev_X d rt I c' z) : ev_X d rt I c z := ev_go k (q.trans (if_pos hP)) n
theorem ev_br (k : Nat) {P : Prop} {hd : Decidable P} {a b : Nat} {ls : ev_L} {st : List Value} {h : ev_H} (q : ev_nx rt I k c = some (.inl ((if P then a else b), ls, st, h))) (t : P → ev_X d rt I (a, ls, st, h) z) (f : ¬ P → ev_X d rt I (b, ls, st, h) z) : ev_X d rt I c z := by
  by_cases hp : P
  · rw [if_pos hp] at q; exact ev_go k q (t hp)
  · rw [if_neg hp] at q; exact ev_go k q (f hp)
theorem ev_bi (k : Nat) {P P' : Prop} (hi : P ↔ P') {hd : Decidable P} {a b : Nat} {ls : ev_L} {st : List Value} {h : ev_H} (q : ev_nx rt I k c = some (.inl ((if P then a else b), ls, st, h))) (t : P' → ev_X d rt I (a, ls, st, h) z) (f : ¬ P' → ev_X d rt I (b, ls, st, h) z) : ev_X d rt I c z :=
  ev_br k q (fun h => t (hi.mp h)) (fun h => f (fun x => h (hi.mpr x)))
theorem ev_rt : ∀ (k : Nat) {c : ev_S}, ev_nx rt I k c = some (.inr z) → ev_X d rt I c z
  | 0, (pc, ls, st, h), q => by
    unfold ev_nx at q
    split at q
    · rename_i e he
      exact ⟨1, e, he, Or.inr (Or.inl q)⟩
    · cases q
  | k + 1, (pc, ls, st, h), q => by
    unfold ev_nx at q
    split at q
    · rename_i e he
      split at q
      · rename_i c1 h1
        exact ev_st1 he h1 (ev_rt k q)
      · cases q
    · cases q
theorem ev_rk (k : Nat) {P : Prop} {hd : Decidable P} (q : ev_nx rt I k c = if P then some (.inr z) else none) (hP : P) : ev_X d rt I c z := ev_rt k (q.trans (if_pos hP))
theorem ev_cl1 {pc : Nat} {ls : ev_L} {st : List Value} {h : ev_H} {e : ev_E} {kk : Nat} {as rest : List Value} {w : ev_Z} (hf : ev_find I pc = some e) (hi : ev_inv e st h = some (kk, as, rest)) (hm : ev_M ev_mt d kk as h w) (n : ev_X d rt I (pc + 3, ls, w.1.toList ++ rest, w.2) z) : ev_X d rt I (pc, ls, st, h) z := by
  obtain ⟨n, hn⟩ := n
  exact ⟨n + 1, e, hf, Or.inr (Or.inr ⟨kk, as, rest, w, hi, hm, hn⟩)⟩
theorem ev_cal : ∀ (k : Nat) {c : ev_S} {kk : Nat} {as rest : List Value} {pc : Nat} {ls : ev_L} {st : List Value} {h : ev_H} {w : ev_Z}, ev_ci rt I k c = some (kk, as, rest, (pc, ls, st, h)) → ev_M ev_mt d kk as h w → ev_X d rt I (pc + 3, ls, w.1.toList ++ rest, w.2) z → ev_X d rt I c z
  | 0, (pc, ls, st, h), kk, as, rest, pc', ls', st', h', w, q, hm, n => by
    unfold ev_ci at q
    split at q
    · rename_i e he
      split at q
      · rename_i k1 as1 rest1 hi
        simp only [Option.some.injEq, Prod.mk.injEq] at q
        obtain ⟨rfl, rfl, rfl, rfl, rfl, rfl, rfl⟩ := q
        exact ev_cl1 he hi hm n
      · cases q
    · cases q
  | k + 1, (pc, ls, st, h), kk, as, rest, pc', ls', st', h', w, q, hm, n => by
    unfold ev_ci at q
    split at q
    · rename_i e he
      split at q
      · rename_i c1 h1
        exact ev_st1 he h1 (ev_cal k q hm n)
      · cases q
    · cases q
theorem ev_cli (k : Nat) {kk : Nat} {as rest : List Value} {pc : Nat} {ls : ev_L} {st : List Value} {h h' : ev_H} {r : Int32} (q : ev_ci rt I k c = some (kk, as, rest, (pc, ls, st, h))) (hm : ev_M ev_mt d kk as h (some (.int r), h')) (n : ev_X d rt I (pc + 3, ls, .int r :: rest, h') z) : ev_X d rt I c z := ev_cal k q hm n
theorem ev_cll (k : Nat) {kk : Nat} {as rest : List Value} {pc : Nat} {ls : ev_L} {st : List Value} {h h' : ev_H} {r : Int64} (q : ev_ci rt I k c = some (kk, as, rest, (pc, ls, st, h))) (hm : ev_M ev_mt d kk as h (some (.long r), h')) (n : ev_X d rt I (pc + 3, ls, .long r :: rest, h') z) : ev_X d rt I c z := ev_cal k q hm n
theorem ev_clv (k : Nat) {kk : Nat} {as rest : List Value} {pc : Nat} {ls : ev_L} {st : List Value} {h h' : ev_H} (q : ev_ci rt I k c = some (kk, as, rest, (pc, ls, st, h))) (hm : ev_M ev_mt d kk as h (none, h')) (n : ev_X d rt I (pc + 3, ls, rest, h') z) : ev_X d rt I c z := ev_cal k q hm n
theorem ev_clq (k : Nat) {kk : Nat} {as rest : List Value} {pc : Nat} {ls : ev_L} {st : List Value} {h h' : ev_H} {r : Option Nat} (q : ev_ci rt I k c = some (kk, as, rest, (pc, ls, st, h))) (hm : ev_M ev_mt d kk as h (some (va_rf r), h')) (n : ev_X d rt I (pc + 3, ls, va_rf r :: rest, h') z) : ev_X d rt I c z := ev_cal k q hm n
theorem ev_en {k : Nat} {o : String} {y : MethodName} {cc : ByteArray} {nL : Nat} {PM : List Nat} {as : List Value} {h : ev_H} (hk : ev_mt[k]? = some (o, y, cc, nL, rt, I, PM)) (hl : (ev_sl as).length ≤ nL) (n : ev_X d rt I (0, ev_ent nL as, [], h) z) : ev_M ev_mt (d + 1) k as h z := ⟨o, y, cc, nL, rt, I, PM, hk, hl, n⟩
end RUL
/-- fewer locals known -/
def ev_le : ev_L → ev_L → Prop
  | [], [] => True
  | none :: a, _ :: b => ev_le a b
  | some v :: a, some w :: b => v = w ∧ ev_le a b
  | _, _ => False
theorem ev_le_len : ∀ {a b : ev_L}, ev_le a b → a.length = b.length
  | [], [], _ => rfl
  | none :: a, _ :: b, h => congrArg Nat.succ (ev_le_len (a := a) (b := b) h)
  | some v :: a, some w :: b, h => congrArg Nat.succ (ev_le_len h.2)
  | [], _ :: _, h => by cases h
  | none :: _, [], h => by cases h
  | some _ :: _, [], h => by cases h
  | some _ :: _, none :: _, h => by cases h
theorem ev_le_at : ∀ {a b : ev_L}, ev_le a b → ∀ {i : Nat} {v : Value}, a[i]? = some (some v) → b[i]? = some (some v)
  | [], [], _, i, v, h => by simp at h
  | none :: a, _ :: b, hl, i, v, h => by
    cases i with
    | zero => simp at h
    | succ i => simpa using ev_le_at (a := a) (b := b) hl (i := i) (by simpa using h)
  | some x :: a, some w :: b, hl, i, v, h => by
    cases i with
    | zero => rw [← hl.1]; simpa using h
    | succ i => simpa using ev_le_at hl.2 (i := i) (by simpa using h)
  | [], _ :: _, hl, _, _, _ => by cases hl
  | none :: _, [], hl, _, _, _ => by cases hl
  | some _ :: _, [], hl, _, _, _ => by cases hl
  | some _ :: _, none :: _, hl, _, _, _ => by cases hl
theorem ev_le_of : ∀ {a b : ev_L}, a.length = b.length → (∀ (i : Nat) (v : Value), a[i]? = some (some v) → b[i]? = some (some v)) → ev_le a b
  | [], [], _, _ => trivial
  | [], _ :: _, h, _ => by simp at h
  | _ :: _, [], h, _ => by simp at h
  | none :: a, x :: b, h, hq => ev_le_of (a := a) (b := b) (by simpa using h) (fun i v hi => by simpa using hq (i + 1) v (by simpa using hi))
  | some v :: a, x :: b, h, hq => by
    have h0 := hq 0 v rfl
    simp only [List.getElem?_cons_zero, Option.some.injEq] at h0
    subst h0
    exact ⟨rfl, ev_le_of (by simpa using h) (fun i v hi => by simpa using hq (i + 1) v (by simpa using hi))⟩
theorem ev_le_ld {a b : ev_L} (hl : ev_le a b) {x : Nat} {v : Value} (h : ev_ld a x = some v) : ev_ld b x = some v := by
  unfold ev_ld at h
  split at h
  · rename_i w hw
    cases h
    unfold ev_ld
    rw [ev_le_at hl hw]
  · cases h
theorem ev_kl_keep {ls : ev_L} {x i : Nat} {v : Value} (h : ls[i]? = some (some v)) (hn : ¬ (i + 1 = x ∧ v.category = 2)) : (ev_kl ls x)[i]? = some (some v) := by
  unfold ev_kl
  split
  · exact h
  · rename_i j
    split
    · rename_i w hw
      split
      · rename_i hc
        by_cases e : i = j
        · subst e
          rw [hw] at h
          cases h
          exact absurd ⟨rfl, hc⟩ hn
        · rw [List.getElem?_set_ne (fun q => e q.symm)]
          exact h
      · exact h
    · exact h
theorem ev_le_s1 {a b : ev_L} (hl : ev_le a b) (x : Nat) (v : Value) : ev_le (ev_s1 a x v) (ev_s1 b x v) := by
  refine ev_le_of (by rw [ev_s1_len, ev_s1_len, ev_le_len hl]) (fun i w h => ?_)
  unfold ev_s1 at h ⊢
  have hlen : (ev_kl a x).length = (ev_kl b x).length := by rw [ev_kl_len, ev_kl_len, ev_le_len hl]
  by_cases e : i = x
  · subst e
    rw [List.getElem?_set] at h ⊢
    simp only [if_true] at h ⊢
    rw [← hlen]
    exact h
  · rw [List.getElem?_set_ne (fun q => e q.symm)] at h ⊢
    obtain ⟨h1, h2⟩ := ev_kl_get h
    exact ev_kl_keep (ev_le_at hl h1) h2
theorem ev_le_s2 {a b : ev_L} (hl : ev_le a b) (x : Nat) (v : Value) : ev_le (ev_s2 a x v) (ev_s2 b x v) := by
  have h1 := ev_le_s1 hl x v
  refine ev_le_of (by rw [ev_s2_len, ev_s2_len]; exact ev_le_len hl) (fun i w h => ?_)
  unfold ev_s2 at h ⊢
  by_cases e : i = x + 1
  · subst e
    rw [List.getElem?_set] at h
    simp at h
  · rw [List.getElem?_set_ne (fun q => e q.symm)] at h ⊢
    exact ev_le_at h1 h
theorem ev_le_o1 {e : ev_E} {a b : ev_L} (hl : ev_le a b) {st : List Value} {h : ev_H} {pc : Nat} {a' : ev_L} {st' : List Value} {h' : ev_H} (q : ev_o1 e a st h = some (.inl (pc, a', st', h'))) : ∃ b', ev_o1 e b st h = some (.inl (pc, b', st', h')) ∧ ev_le a' b' := by
  obtain ⟨pc0, i, len, x, tgt, cst, D, P⟩ := e
  cases i with
  | iconst _ | bipush _ | sipush _ | lconst _ | ldc _ | ldc_w _ | ldc2_w _ | aconst_null | getstatic _ =>
    simp only [ev_o1, ev_j, Option.some.injEq, Sum.inl.injEq, Prod.mk.injEq] at q ⊢
    obtain ⟨rfl, rfl, rfl, rfl⟩ := q
    exact ⟨b, ⟨rfl, rfl, rfl, rfl⟩, hl⟩
  | iload _ | iload_n _ | lload _ | lload_n _ =>
    simp only [ev_o1] at q ⊢
    split at q
    · rename_i v hv
      rw [ev_le_ld hl hv]
      simp only [ev_j, Option.some.injEq, Sum.inl.injEq, Prod.mk.injEq] at q ⊢
      obtain ⟨rfl, rfl, rfl, rfl⟩ := q
      exact ⟨b, ⟨rfl, rfl, rfl, rfl⟩, hl⟩
    · cases q
  | aload _ | aload_n _ =>
    simp only [ev_o1] at q ⊢
    split at q
    · rename_i v hv
      rw [ev_le_ld hl hv]
      simp only [ev_j, Option.some.injEq, Sum.inl.injEq, Prod.mk.injEq] at q ⊢
      obtain ⟨rfl, rfl, rfl, rfl⟩ := q
      exact ⟨b, ⟨rfl, rfl, rfl, rfl⟩, hl⟩
    · rename_i hv
      rw [ev_le_ld hl hv]
      simp only [ev_j, Option.some.injEq, Sum.inl.injEq, Prod.mk.injEq] at q ⊢
      obtain ⟨rfl, rfl, rfl, rfl⟩ := q
      exact ⟨b, ⟨rfl, rfl, rfl, rfl⟩, hl⟩
    · cases q
  | istore _ | istore_n _ =>
    simp only [ev_o1] at q ⊢
    split at q
    · split at q
      · rename_i hx
        rw [if_pos (ev_le_len hl ▸ hx)]
        simp only [ev_j, Option.some.injEq, Sum.inl.injEq, Prod.mk.injEq] at q ⊢
        obtain ⟨rfl, rfl, rfl, rfl⟩ := q
        exact ⟨_, ⟨rfl, rfl, rfl, rfl⟩, ev_le_s1 hl _ _⟩
      · cases q
    · cases q
  | lstore _ | lstore_n _ =>
    simp only [ev_o1] at q ⊢
    split at q
    · split at q
      · rename_i hx
        rw [if_pos (ev_le_len hl ▸ hx)]
        simp only [ev_j, Option.some.injEq, Sum.inl.injEq, Prod.mk.injEq] at q ⊢
        obtain ⟨rfl, rfl, rfl, rfl⟩ := q
        exact ⟨_, ⟨rfl, rfl, rfl, rfl⟩, ev_le_s2 hl _ _⟩
      · cases q
    · cases q
  | astore _ | astore_n _ =>
    simp only [ev_o1] at q ⊢
    split at q
    · split at q
      · rename_i hx
        rw [if_pos (ev_le_len hl ▸ hx)]
        simp only [ev_j, Option.some.injEq, Sum.inl.injEq, Prod.mk.injEq] at q ⊢
        obtain ⟨rfl, rfl, rfl, rfl⟩ := q
        exact ⟨_, ⟨rfl, rfl, rfl, rfl⟩, ev_le_s1 hl _ _⟩
      · cases q
    · split at q
      · rename_i hx
        rw [if_pos (ev_le_len hl ▸ hx)]
        simp only [ev_j, Option.some.injEq, Sum.inl.injEq, Prod.mk.injEq] at q ⊢
        obtain ⟨rfl, rfl, rfl, rfl⟩ := q
        exact ⟨_, ⟨rfl, rfl, rfl, rfl⟩, ev_le_s1 hl _ _⟩
      · cases q
    · cases q
  | iinc _ _ =>
    simp only [ev_o1] at q ⊢
    split at q
    · rename_i v w hv
      split at q
      · rename_i hx
        rw [ev_le_ld hl hv]
        dsimp only
        rw [if_pos (ev_le_len hl ▸ hx)]
        simp only [ev_j, Option.some.injEq, Sum.inl.injEq, Prod.mk.injEq] at q ⊢
        obtain ⟨rfl, rfl, rfl, rfl⟩ := q
        exact ⟨_, ⟨rfl, rfl, rfl, rfl⟩, ev_le_s1 hl _ _⟩
      · cases q
    · cases q
  | _ => simp [ev_o1] at q
def ev_put (ls : ev_L) (r : ev_S ⊕ ev_Z) : ev_S ⊕ ev_Z := match r with
  | .inl (pc, _, st, h) => .inl (pc, ls, st, h)
  | .inr z => .inr z
theorem ev_nat2 (e : ev_E) (ls : ev_L) (st : List Value) (h : ev_H) : ev_o2 e ls st h = (ev_o2 e [] st h).map (ev_put ls) := by
  obtain ⟨pc, i, len, x, tgt, cst, D, P⟩ := e
  unfold ev_o2
  dsimp only
  repeat' split
  all_goals first | rfl | contradiction | (simp_all; done)
theorem ev_nat3 (e : ev_E) (ls : ev_L) (st : List Value) (h : ev_H) : ev_o3 e ls st h = (ev_o3 e [] st h).map (ev_put ls) := by
  obtain ⟨pc, i, len, x, tgt, cst, D, P⟩ := e
  unfold ev_o3
  dsimp only
  repeat' split
  all_goals first | rfl | contradiction | (simp_all; done)
set_option maxHeartbeats 4000000 in
theorem ev_nat4 (e : ev_E) (ls : ev_L) (st : List Value) (h : ev_H) : ev_o4 e ls st h = (ev_o4 e [] st h).map (ev_put ls) := by
  obtain ⟨pc, i, len, x, tgt, cst, D, P⟩ := e
  unfold ev_o4
  dsimp only
  repeat' split
  all_goals first | rfl | contradiction | (simp_all; done)
set_option maxHeartbeats 4000000 in
theorem ev_nat5 (rt : Option FieldType) (e : ev_E) (ls : ev_L) (st : List Value) (h : ev_H) : ev_o5 rt e ls st h = (ev_o5 rt e [] st h).map (ev_put ls) := by
  obtain ⟨pc, i, len, x, tgt, cst, D, P⟩ := e
  unfold ev_o5
  dsimp only
  repeat' split
  all_goals first | rfl | contradiction | (simp_all; done)
theorem ev_one_nat {rt : Option FieldType} {e : ev_E} {ls : ev_L} {st : List Value} {h : ev_H} : ev_one rt e ls st h = ev_o1 e ls st h ∧ (∀ b, ev_one rt e b st h = ev_o1 e b st h) ∨ ∃ f : ev_L → Option (ev_S ⊕ ev_Z), (∀ b, ev_one rt e b st h = f b) ∧ ∀ b, f b = (f []).map (ev_put b) := by
  unfold ev_one
  split
  all_goals first
    | exact Or.inl ⟨rfl, fun _ => rfl⟩
    | exact Or.inr ⟨fun b => ev_o2 e b st h, fun _ => rfl, fun b => ev_nat2 e b st h⟩
    | exact Or.inr ⟨fun b => ev_o3 e b st h, fun _ => rfl, fun b => ev_nat3 e b st h⟩
    | exact Or.inr ⟨fun b => ev_o4 e b st h, fun _ => rfl, fun b => ev_nat4 e b st h⟩
    | exact Or.inr ⟨fun b => ev_o5 rt e b st h, fun _ => rfl, fun b => ev_nat5 rt e b st h⟩
theorem ev_le_one {rt : Option FieldType} {e : ev_E} {a b : ev_L} (hl : ev_le a b) {st : List Value} {h : ev_H} {t : ev_S} (q : ev_one rt e a st h = some (.inl t)) : ∃ b', ev_one rt e b st h = some (.inl (t.1, b', t.2.2.1, t.2.2.2)) ∧ ev_le t.2.1 b' := by
  obtain ⟨pc, a', st', h'⟩ := t
  rcases ev_one_nat (rt := rt) (e := e) (ls := a) (st := st) (h := h) with ⟨h1, h2⟩ | ⟨f, h1, h2⟩
  · rw [h1] at q
    rw [h2 b]
    exact ev_le_o1 hl q
  · rw [h1 a, h2 a] at q
    rw [h1 b, h2 b]
    cases hf : f [] with
    | none => rw [hf] at q; cases q
    | some r =>
      rw [hf] at q
      cases r with
      | inl t =>
        obtain ⟨p1, l1, s1, g1⟩ := t
        simp only [Option.map_some, ev_put, Option.some.injEq, Sum.inl.injEq, Prod.mk.injEq] at q ⊢
        obtain ⟨rfl, rfl, rfl, rfl⟩ := q
        exact ⟨b, ⟨rfl, rfl, rfl, rfl⟩, hl⟩
      | inr z => simp [ev_put] at q
theorem ev_le_ret {rt : Option FieldType} {e : ev_E} {a b : ev_L} {st : List Value} {h : ev_H} {z : ev_Z} (q : ev_one rt e a st h = some (.inr z)) : ev_one rt e b st h = some (.inr z) := by
  rcases ev_one_nat (rt := rt) (e := e) (ls := a) (st := st) (h := h) with ⟨h1, h2⟩ | ⟨f, h1, h2⟩
  · rw [h1] at q
    exact absurd q ev_n1
  · rw [h1 a, h2 a] at q
    rw [h1 b, h2 b]
    cases hf : f [] with
    | none => rw [hf] at q; cases q
    | some r =>
      rw [hf] at q
      cases r with
      | inl t => simp [ev_put] at q
      | inr z => simpa [ev_put] using q
theorem ev_le_R {cf : Nat → List Value → ev_H → ev_Z → Prop} {rt : Option FieldType} {I : List ev_E} : ∀ (n : Nat) {pc : Nat} {a b : ev_L} {st : List Value} {h : ev_H} {z : ev_Z}, ev_le a b → ev_R cf rt I n (pc, a, st, h) z → ev_R cf rt I n (pc, b, st, h) z
  | 0, _, _, _, _, _, _, _, q => by cases q
  | n + 1, pc, a, b, st, h, z, hl, q => by
    obtain ⟨e, hf, q⟩ := q
    refine ⟨e, hf, ?_⟩
    rcases q with ⟨t, h1, h2⟩ | h1 | ⟨k, as, rest, w, h1, h2, h3⟩
    · obtain ⟨b', g1, g2⟩ := ev_le_one hl h1
      exact Or.inl ⟨_, g1, ev_le_R n g2 h2⟩
    · exact Or.inr (Or.inl (ev_le_ret h1))
    · exact Or.inr (Or.inr ⟨k, as, rest, w, h1, h2, ev_le_R n hl h3⟩)
theorem ev_dr {d : Nat} {rt : Option FieldType} {I : List ev_E} {pc : Nat} {a b : ev_L} {st : List Value} {h : ev_H} {z : ev_Z} (hl : ev_le a b) (n : ev_X d rt I (pc, a, st, h) z) : ev_X d rt I (pc, b, st, h) z := by
  obtain ⟨n, hn⟩ := n
  exact ⟨n, ev_le_R n hl hn⟩
