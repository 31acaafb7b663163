/-! ===== THE ABSTRACT MACHINE AND THE REAL ONE: values, cells, locals ===== -/
def ev_tb : List Cond := lw_tbl.filter goodWord
theorem ev_goodIn {ws : List Cond} (h : ∀ w ∈ ws, w ∈ ev_tb) : GoodIn ev_tb ws := fun w hw => ⟨h w hw, good_of_word (List.mem_filter.mp (h w hw)).2⟩
/-- the word w stands at the place p of the tables -/
def ev_w (P : List Nat) (j : Nat) (w : Cond) : Bool := match P[j]? with
  | some p => decide (lw_tbl[p]? = some w) && goodWord w
  | none => false
theorem ev_w_in {P : List Nat} {j : Nat} {w : Cond} (h : ev_w P j w = true) : w ∈ ev_tb := by
  unfold ev_w at h
  split at h
  · rw [Bool.and_eq_true, decide_eq_true_eq] at h
    exact List.mem_filter.mpr ⟨List.mem_of_getElem? h.1, h.2⟩
  · cases h
def ev_cv (ρ : Nat → Nat) (v : Value) : Value := match v with
  | .ref a => .ref (ρ a)
  | v => v
theorem ev_cv_cat (ρ : Nat → Nat) (v : Value) : (ev_cv ρ v).category = v.category := by cases v <;> rfl
theorem ev_cv_rf (ρ : Nat → Nat) (r : Option Nat) : ev_cv ρ (va_rf r) = va_rf (r.map ρ) := by cases r <;> rfl
theorem ev_cat_cv (ρ : Nat → Nat) (st : List Value) : ((st.map (ev_cv ρ)).map fun v => v.category).sum = ev_cat st := by
  unfold ev_cat
  rw [List.map_map]
  congr 1
  exact List.map_congr_left (fun v _ => ev_cv_cat ρ v)
def ev_cd (ρ : Nat → Nat) (d : (Nat → Int32) ⊕ (Nat → Int64) ⊕ (Nat → UInt32) ⊕ (Nat → UInt64) ⊕ (Nat → Option Nat)) : (Nat → Int32) ⊕ (Nat → Int64) ⊕ (Nat → UInt32) ⊕ (Nat → UInt64) ⊕ (Nat → Option Nat) := match d with
  | .inr (.inr (.inr (.inr f))) => .inr (.inr (.inr (.inr (fun i => (f i).map ρ))))
  | d => d
def ev_ce (ρ : Nat → Nat) (cA : Nat → ClassId) (c : ev_C) : va_E := match c with
  | .inl (t, n, d) => .inl (cA t, n, ev_cd ρ d)
  | .inr (ci, fs) => .inr (ci, fs.map (ev_cv ρ))
def ev_cw (ρ : Nat → Nat) (cA : Nat → ClassId) : Nat → ev_H → va_W
  | _, [] => []
  | k, none :: t => ev_cw ρ cA (k + 1) t
  | k, some c :: t => (ρ k, ev_ce ρ cA c) :: ev_cw ρ cA (k + 1) t
theorem ev_cw_at (ρ : Nat → Nat) (cA : Nat → ClassId) : ∀ (h : ev_H) (k a : Nat) (c : ev_C), h[a]? = some (some c) → ∃ j, (ev_cw ρ cA k h)[j]? = some (ρ (k + a), ev_ce ρ cA c) ∧ ∀ c', (ev_cw ρ cA k h).set j (ρ (k + a), ev_ce ρ cA c') = ev_cw ρ cA k (h.set a (some c'))
  | [], _, a, c, h => by simp at h
  | o :: t, k, 0, c, h => by
    simp only [List.getElem?_cons_zero, Option.some.injEq] at h
    subst h
    exact ⟨0, rfl, fun c' => rfl⟩
  | o :: t, k, a + 1, c, h => by
    have h' : t[a]? = some (some c) := by simpa using h
    obtain ⟨j, h1, h2⟩ := ev_cw_at ρ cA t (k + 1) a c h'
    have e : k + 1 + a = k + (a + 1) := by omega
    rw [e] at h1 h2
    cases o with
    | none => exact ⟨j, h1, fun c' => h2 c'⟩
    | some q =>
      refine ⟨j + 1, ?_, fun c' => ?_⟩
      · show ((ρ k, ev_ce ρ cA q) :: ev_cw ρ cA (k + 1) t)[j + 1]? = _
        rw [List.getElem?_cons_succ]; exact h1
      · show ((ρ k, ev_ce ρ cA q) :: ev_cw ρ cA (k + 1) t).set (j + 1) _ = (ρ k, ev_ce ρ cA q) :: ev_cw ρ cA (k + 1) (t.set a (some c'))
        rw [List.set_cons_succ, h2 c']
theorem ev_get_at {h : ev_H} {a : Nat} {c : ev_C} (hg : ev_get h a = some c) : h[a]? = some (some c) := by
  unfold ev_get at hg
  split at hg
  · cases hg; assumption
  · cases hg
theorem ev_at (ρ : Nat → Nat) (cA : Nat → ClassId) {h : ev_H} {a : Nat} {c : ev_C} (hg : ev_get h a = some c) : ∃ j, (ev_cw ρ cA 0 h)[j]? = some (ρ a, ev_ce ρ cA c) ∧ ∀ c', (ev_cw ρ cA 0 h).set j (ρ a, ev_ce ρ cA c') = ev_cw ρ cA 0 (h.set a (some c')) := by
  obtain ⟨j, h1, h2⟩ := ev_cw_at ρ cA h 0 a c (ev_get_at hg)
  rw [Nat.zero_add] at h1 h2
  exact ⟨j, h1, h2⟩
/-- locals -/
def ev_la (ρ : Nat → Nat) : Nat → ev_L → List (Nat × Value)
  | _, [] => []
  | k, none :: t => ev_la ρ (k + 1) t
  | k, some v :: t => (k, ev_cv ρ v) :: ev_la ρ (k + 1) t
theorem ev_la_mem {ρ : Nat → Nat} : ∀ {ls : ev_L} {k : Nat} {q : Nat × Value}, q ∈ ev_la ρ k ls ↔ ∃ x v, ls[x]? = some (some v) ∧ q = (k + x, ev_cv ρ v)
  | [], k, q => by simp [ev_la]
  | none :: t, k, q => by
    show q ∈ ev_la ρ (k + 1) t ↔ _
    rw [ev_la_mem]
    constructor
    · rintro ⟨x, v, h1, h2⟩
      exact ⟨x + 1, v, by simpa using h1, by rw [h2]; congr 1; omega⟩
    · rintro ⟨x, v, h1, h2⟩
      cases x with
      | zero => simp at h1
      | succ x => exact ⟨x, v, by simpa using h1, by rw [h2]; congr 1; omega⟩
  | some w :: t, k, q => by
    show q ∈ (k, ev_cv ρ w) :: ev_la ρ (k + 1) t ↔ _
    rw [List.mem_cons, ev_la_mem]
    constructor
    · rintro (h | ⟨x, v, h1, h2⟩)
      · exact ⟨0, w, rfl, h⟩
      · exact ⟨x + 1, v, by simpa using h1, by rw [h2]; congr 1; omega⟩
    · rintro ⟨x, v, h1, h2⟩
      cases x with
      | zero =>
        simp at h1
        subst h1
        exact Or.inl h2
      | succ x => exact Or.inr ⟨x, v, by simpa using h1, by rw [h2]; congr 1; omega⟩
theorem ev_has_mono {lr : Array Slot} {nL : Nat} {l l' : List (Nat × Value)} (h : lv_has lr nL l) (hs : ∀ q ∈ l', q ∈ l) : lv_has lr nL l' := ⟨h.1, h.2.1, fun q hq => h.2.2 q (hs q hq)⟩
theorem ev_ld_has {ρ : Nat → Nat} {lr : Array Slot} {nL : Nat} {ls : ev_L} {x : Nat} {v : Value} (h : lv_has lr nL (ev_la ρ 0 ls)) (hv : ev_ld ls x = some v) : lr[x]? = some (.val (ev_cv ρ v)) := by
  unfold ev_ld at hv
  split at hv
  · rename_i w hw
    obtain rfl : w = v := Option.some.inj hv
    exact h.2.2 (x, ev_cv ρ w) (ev_la_mem.mpr ⟨x, w, hw, by rw [Nat.zero_add]⟩)
  · cases hv
theorem ev_kl_get {ls : ev_L} {x j : Nat} {v : Value} (h : (ev_kl ls x)[j]? = some (some v)) : ls[j]? = some (some v) ∧ ¬ (j + 1 = x ∧ v.category = 2) := by
  unfold ev_kl at h
  split at h
  · exact ⟨h, fun q => by omega⟩
  · rename_i i
    split at h
    · rename_i w hw
      split at h
      · by_cases e : j = i
        · subst e
          rw [List.getElem?_set] at h
          simp at h
        · rw [List.getElem?_set_ne (fun q => e q.symm)] at h
          exact ⟨h, fun q => by omega⟩
      · rename_i hc
        refine ⟨h, fun q => ?_⟩
        obtain ⟨q1, q2⟩ := q
        have : j = i := by omega
        subst this
        rw [hw] at h
        cases h
        exact hc q2
    · rename_i hn
      refine ⟨h, fun q => ?_⟩
      have : j = i := by omega
      subst this
      exact hn v h
theorem ev_s1_sub (ρ : Nat → Nat) {ls : ev_L} {x : Nat} {v : Value} : ∀ q ∈ ev_la ρ 0 (ev_s1 ls x v), q ∈ (x, ev_cv ρ v) :: (ev_la ρ 0 ls).filter (fun q => !(q.1 == x) && !(q.1 + 1 == x && q.2.category == 2)) := by
  intro q hq
  obtain ⟨j, w, h1, h2⟩ := ev_la_mem.mp hq
  rw [Nat.zero_add] at h2
  unfold ev_s1 at h1
  by_cases e : j = x
  · subst e
    rw [List.getElem?_set] at h1
    simp only [if_true] at h1
    split at h1
    · cases h1
      rw [h2]
      exact List.mem_cons_self
    · cases h1
  · rw [List.getElem?_set_ne (fun q => e q.symm)] at h1
    obtain ⟨h3, h4⟩ := ev_kl_get h1
    refine List.mem_cons_of_mem _ (List.mem_filter.mpr ⟨ev_la_mem.mpr ⟨j, w, h3, by rw [Nat.zero_add]; exact h2⟩, ?_⟩)
    rw [h2]
    simp only [Bool.and_eq_true, Bool.not_eq_true', beq_eq_false_iff_ne, ne_eq, Bool.and_eq_false_iff, ev_cv_cat]
    refine ⟨e, ?_⟩
    by_cases g : j + 1 = x
    · exact Or.inr (fun z => h4 ⟨g, z⟩)
    · exact Or.inl g
theorem ev_s2_sub (ρ : Nat → Nat) {ls : ev_L} {x : Nat} {v : Value} : ∀ q ∈ ev_la ρ 0 (ev_s2 ls x v), q ∈ (x, ev_cv ρ v) :: (ev_la ρ 0 ls).filter (fun q => !(q.1 == x) && (!(q.1 == x + 1) && !(q.1 + 1 == x && q.2.category == 2))) := by
  intro q hq
  obtain ⟨j, w, h1, h2⟩ := ev_la_mem.mp hq
  rw [Nat.zero_add] at h2
  unfold ev_s2 at h1
  by_cases e1 : j = x + 1
  · subst e1
    rw [List.getElem?_set] at h1
    simp at h1
  · rw [List.getElem?_set_ne (fun q => e1 q.symm)] at h1
    by_cases e : j = x
    · subst e
      rw [List.getElem?_set] at h1
      simp only [if_true] at h1
      split at h1
      · cases h1
        rw [h2]
        exact List.mem_cons_self
      · cases h1
    · rw [List.getElem?_set_ne (fun q => e q.symm)] at h1
      obtain ⟨h3, h4⟩ := ev_kl_get h1
      refine List.mem_cons_of_mem _ (List.mem_filter.mpr ⟨ev_la_mem.mpr ⟨j, w, h3, by rw [Nat.zero_add]; exact h2⟩, ?_⟩)
      rw [h2]
      simp only [Bool.and_eq_true, Bool.not_eq_true', beq_eq_false_iff_ne, ne_eq, Bool.and_eq_false_iff, ev_cv_cat]
      refine ⟨e, e1, ?_⟩
      by_cases g : j + 1 = x
      · exact Or.inr (fun z => h4 ⟨g, z⟩)
      · exact Or.inl g
/-- the locals at the entry -/
def ev_sl (as : List Value) : ev_L := match as with
  | [] => []
  | v :: r => if v.category = 2 then some v :: none :: ev_sl r else some v :: ev_sl r
def ev_ent (nL : Nat) (as : List Value) : ev_L := ev_sl as ++ List.replicate (nL - (ev_sl as).length) none
theorem ev_sl_mem (ρ : Nat → Nat) : ∀ (as : List Value) (k : Nat), ∀ q ∈ ev_la ρ k (ev_sl as), q ∈ lv_args k (as.map (ev_cv ρ))
  | [], k, q, h => by simp [ev_sl, ev_la] at h
  | v :: r, k, q, h => by
    unfold ev_sl at h
    show q ∈ (k, ev_cv ρ v) :: lv_args (if (ev_cv ρ v).category = 2 then k + 2 else k + 1) (r.map (ev_cv ρ))
    rw [ev_cv_cat]
    split at h
    · rename_i hc
      rw [if_pos hc]
      have h' : q ∈ (k, ev_cv ρ v) :: ev_la ρ (k + 1 + 1) (ev_sl r) := h
      rcases List.mem_cons.mp h' with e | h2
      · rw [e]; exact List.mem_cons_self
      · exact List.mem_cons_of_mem _ (ev_sl_mem ρ r (k + 2) q h2)
    · rename_i hc
      rw [if_neg hc]
      have h' : q ∈ (k, ev_cv ρ v) :: ev_la ρ (k + 1) (ev_sl r) := h
      rcases List.mem_cons.mp h' with e | h2
      · rw [e]; exact List.mem_cons_self
      · exact List.mem_cons_of_mem _ (ev_sl_mem ρ r (k + 1) q h2)
theorem ev_sl_len (ρ : Nat → Nat) : ∀ as : List Value, (lg_sl (as.map (ev_cv ρ))).length = (ev_sl as).length
  | [] => rfl
  | v :: r => by
    have ih := ev_sl_len ρ r
    unfold lg_sl at ih ⊢
    rw [List.map_cons, List.flatMap_cons, List.length_append, ih, ev_cv_cat]
    rw [ev_sl]
    split <;> simp <;> omega
theorem ev_ent_sub (ρ : Nat → Nat) (nL : Nat) (as : List Value) : ∀ q ∈ ev_la ρ 0 (ev_ent nL as), q ∈ lv_args 0 (as.map (ev_cv ρ)) := by
  intro q hq
  obtain ⟨x, v, h1, h2⟩ := ev_la_mem.mp hq
  refine ev_sl_mem ρ as 0 q (ev_la_mem.mpr ⟨x, v, ?_, h2⟩)
  unfold ev_ent at h1
  by_cases hl : x < (ev_sl as).length
  · rw [List.getElem?_append_left hl] at h1; exact h1
  · rw [List.getElem?_append_right (by omega), List.getElem?_replicate] at h1
    split at h1 <;> simp at h1
theorem ev_ent_len {nL : Nat} {as : List Value} (h : (ev_sl as).length ≤ nL) : (ev_ent nL as).length = nL := by
  unfold ev_ent
  rw [List.length_append, List.length_replicate]
  omega
theorem ev_kl_len (ls : ev_L) (x : Nat) : (ev_kl ls x).length = ls.length := by
  unfold ev_kl
  split
  · rfl
  · split
    · split
      · rw [List.length_set]
      · rfl
    · rfl
theorem ev_s1_len (ls : ev_L) (x : Nat) (v : Value) : (ev_s1 ls x v).length = ls.length := by unfold ev_s1; rw [List.length_set, ev_kl_len]
theorem ev_s2_len (ls : ev_L) (x : Nat) (v : Value) : (ev_s2 ls x v).length = ls.length := by unfold ev_s2; rw [List.length_set, List.length_set, ev_kl_len]
/-- links within the nest; casts that go, casts that don't -/
def ev_nm : List (String × Nat × MethodName × String) := [("WithEyesBound$Ring", 64, yX11_isWithin, "WithEyesBound"), ("WithEyesBound$Odds", 92, yX11_commonDivisor, "WithEyesBound"), ("WithEyesBound$Ring", 87, yX11_mixed, "WithEyesBound"), ("WithEyesBound$Odds", 105, yX11_mixed, "WithEyesBound"), ("WithEyesBound$Naming", 81, yX11_mixed, "WithEyesBound"), ("WithEyesBound$Page", 51, yX11_mixed, "WithEyesBound")]
def ev_nf : List (String × Nat × String × String) := [("WithEyesBound$Ring", 51, "ROW_STEP", "[I"), ("WithEyesBound$Ring", 57, "COLUMN_STEP", "[I"), ("WithEyesBound$Odds", 82, "FELT", "[I"), ("WithEyesBound$Behind", 15, "ROW_STEP", "[I"), ("WithEyesBound$Behind", 19, "COLUMN_STEP", "[I")]
def ev_cy : List (String × String) := [(RX10, RX9), (RX2, RX1)]
def ev_cn : List (String × String) := [(RX6, RX9), (RX6, RX10), (RX6, RX1), (RX6, RX2), (RX6, RX0), (RX9, RX10), (RX9, RX1), (RX9, RX2), (RX9, RX0), (RX10, RX1), (RX10, RX2), (RX10, RX0), (RX1, RX9), (RX1, RX10), (RX1, RX2), (RX1, RX0), (RX2, RX9), (RX2, RX10), (RX2, RX0), (RX0, RX9), (RX0, RX10), (RX0, RX1), (RX0, RX2)]
/-- what lies outside the heap of the abstract machine -/
def ev_G (ρ : Nat → Nat) (A : Nat → Prop) (U : State) (H : Heap) : Prop :=
  (va_Z "WithEyesBound" "FELT" "[I" (.ref (ρ 1000)) A U H ∧ va_Z "WithEyesBound" "ROW_STEP" "[I" (.ref (ρ 1001)) A U H ∧ va_Z "WithEyesBound" "COLUMN_STEP" "[I" (.ref (ρ 1002)) A U H ∧
  (∀ a, 1000 ≤ a → a < 1003 → va_T .int (ρ a) (ev_sn a) (fun j => .int (ev_sf a j)) A U H)) ∧ (vk_R "WithEyesBound$Page" 23 ".bpx" (ρ 2000) U ∧
  va_O "java/lang/String" (ρ 2000) A U H ∧ va_OF "java/lang/String" "coder" "B" (.int 0) (ρ 2000) A U H ∧ va_OF "java/lang/String" "value" "[B" (.ref (ρ 2001)) (ρ 2000) A U H ∧ va_T .byte (ρ 2001) (ev_sn 2001) (fun j => .int (ev_sf 2001 j)) A U H ∧
  va_Z "java/lang/String" "COMPACT_STRINGS" "Z" (.int 1) A U H) ∧
  ((∀ q ∈ ev_nm, va_Nw (.methodLinkNest q.1 q.2.1 q.2.2.1 q.2.2.2) U) ∧ (∀ q ∈ ev_nf, va_Nw (.fieldLinkNest q.1 q.2.1 "WithEyesBound" q.2.2.1 q.2.2.2 "WithEyesBound") U) ∧ (∀ q ∈ ev_cy, va_Nw (.castable q.1 q.2) U) ∧ ∀ q ∈ ev_cn, va_Nc q.1 q.2 U)
theorem ev_G.warm {ρ : Nat → Nat} {A : Nat → Prop} {s U : State} {H : Heap} (hW : s.WarmedH U.vm) (h : ev_G ρ A s H) : ev_G ρ A U H := by
  obtain ⟨⟨h1, h2, h3, h4⟩, ⟨h5, h6, h7, h8, h9, h10⟩, g1, g2, g3, g4⟩ := h
  exact ⟨⟨h1.moved hW.alike, h2.moved hW.alike, h3.moved hW.alike, fun a x y => (h4 a x y).moved hW.alike⟩, ⟨h5.warm hW, va_O.moved hW.alike h6, va_OF.moved hW.alike h7, va_OF.moved hW.alike h8, h9.moved hW.alike, h10.moved hW.alike⟩, fun q hq => (g1 q hq).warmM hW, fun q hq => (g2 q hq).warmF hW, fun q hq => (g3 q hq).warmC hW, fun q hq => (g4 q hq).moved hW.alike⟩
theorem ev_G.same {ρ : Nat → Nat} {A : Nat → Prop} {s U : State} {H : Heap} (hv : U.vm = s.vm) (h : ev_G ρ A s H) : ev_G ρ A U H := by
  obtain ⟨⟨h1, h2, h3, h4⟩, ⟨h5, h6, h7, h8, h9, h10⟩, g1, g2, g3, g4⟩ := h
  have hA : s.vm.Alike U.vm := by rw [hv]; exact Vm.Alike.refl s.vm
  exact ⟨⟨h1.moved hA, h2.moved hA, h3.moved hA, fun a x y => (h4 a x y).moved hA⟩, ⟨h5.same hv, va_O.moved hA h6, va_OF.moved hA h7, va_OF.moved hA h8, h9.moved hA, h10.moved hA⟩, fun q hq => va_Nw.same rfl hv.symm (g1 q hq), fun q hq => va_Nw.same rfl hv.symm (g2 q hq), fun q hq => va_Nw.same rfl hv.symm (g3 q hq), fun q hq => (g4 q hq).moved hA⟩
theorem ev_G.kept {ρ : Nat → Nat} {A : Nat → Prop} {U : State} {H H1 : Heap} (h : ev_G ρ A U H) (hq : ∀ a : Nat, a < H.size → ¬ A a → H1[a]? = H[a]?) : ev_G ρ A U H1 := by
  obtain ⟨⟨h1, h2, h3, h4⟩, ⟨h5, h6, h7, h8, h9, h10⟩, g⟩ := h
  exact ⟨⟨h1.kept hq, h2.kept hq, h3.kept hq, fun a x y => (h4 a x y).kept hq⟩, ⟨h5, h6.kept hq, h7.kept hq, h8.kept hq, h9.kept hq, h10.kept hq⟩, g⟩
theorem ev_G.narrow {ρ : Nat → Nat} {A B : Nat → Prop} {U : State} {H : Heap} (h : ev_G ρ A U H) (hAB : ∀ q, B q → A q) : ev_G ρ B U H := by
  obtain ⟨⟨h1, h2, h3, h4⟩, ⟨h5, h6, h7, h8, h9, h10⟩, g⟩ := h
  exact ⟨⟨h1.narrow hAB, h2.narrow hAB, h3.narrow hAB, fun a x y => (h4 a x y).narrow hAB⟩, ⟨h5, h6.narrow hAB, h7.narrow hAB, h8.narrow hAB, h9.narrow hAB, h10.narrow hAB⟩, g⟩
