/-! ===== four rows of 144 longs at once: 'new long[4][144]' ===== -/
def mlO (cO : ClassId) (z i : Nat) : Cell := arrV cO 4 (fun j => if j < i then .ref (z + 1 + j) else .null)
def mlI (cI : ClassId) : Cell := arrV cI 144 (fun _ => .long 0)
/-- the state when i of the rows are made and stored -/
def mlS (T : State) (cO cI : ClassId) : Nat → State
  | 0 => T.pushCell (mlO cO T.heap.size 0)
  | i + 1 => ((mlS T cO cI i).pushCell (mlI cI)).setCell T.heap.size (mlO cO T.heap.size (i + 1))
theorem mlO_sz (cO : ClassId) (z i : Nat) : (mlO cO z i).slots.size = 4 := arrV_size _ _ _
theorem mlI_sz (cI : ClassId) : (mlI cI).slots.size = 144 := arrV_size _ _ _
theorem mlO_st (cO : ClassId) (z i : Nat) : (mlO cO z i).setSlot i (.ref (z + 1 + i)) = mlO cO z (i + 1) := by
  unfold mlO
  rw [arrV_store]
  congr 1
  funext j
  unfold updV
  by_cases h : j = i
  · subst h; rw [if_pos rfl, if_pos (Nat.lt_succ_self j)]
  · rw [if_neg h]
    dsimp only
    by_cases g : j < i
    · rw [if_pos g, if_pos (by omega)]
    · rw [if_neg g, if_neg (by omega)]
theorem mlS_f (T : State) (cO cI : ClassId) : ∀ i, (mlS T cO cI i).heap.size = T.heap.size + 1 + i ∧ (mlS T cO cI i).heap[T.heap.size]? = some (mlO cO T.heap.size i) ∧ (mlS T cO cI i).vm = T.vm ∧ (mlS T cO cI i).slotsUsed = T.slotsUsed + 4 + i * 144
  | 0 => ⟨by simp [mlS], by simp [mlS], rfl, by simp [mlS, mlO_sz]⟩
  | i + 1 => by
    obtain ⟨h1, h2, h3, h4⟩ := mlS_f T cO cI i
    have hlt : T.heap.size < (mlS T cO cI i).heap.size := by omega
    have hz : ((mlS T cO cI i).pushCell (mlI cI)).heap[T.heap.size]? = some (mlO cO T.heap.size i) := by rw [State.heap_pushCell_of_lt (h := hlt)]; exact h2
    refine ⟨?_, State.heap_setCell_self hz, by simp [mlS, h3], ?_⟩
    · simp [mlS, State.setCell, h1]; omega
    · simp [mlS, h4, mlI_sz]; omega
theorem mlS_top (T : State) (f : JFrame) (cO cI : ClassId) : ∀ i, mlS (T.setTop f) cO cI i = (mlS T cO cI i).setTop f
  | 0 => rfl
  | i + 1 => by simp only [mlS, mlS_top T f cO cI i, State.heap_setTop, State.pushCell_setTop, State.setCell_setTop]
theorem mlS_old (T : State) (cO cI : ClassId) {a : Nat} (ha : a < T.heap.size) : ∀ i, (mlS T cO cI i).heap[a]? = T.heap[a]?
  | 0 => State.heap_pushCell_of_lt _ _ ha
  | i + 1 => by
    have h1 := (mlS_f T cO cI i).1
    show (((mlS T cO cI i).pushCell (mlI cI)).setCell T.heap.size _).heap[a]? = _
    have hlt : a < (mlS T cO cI i).heap.size := by rw [h1]; omega
    rw [State.heap_setCell_other (Nat.ne_of_gt ha), State.heap_pushCell_of_lt (h := hlt)]
    exact mlS_old T cO cI ha i
theorem mlS_row (T : State) (cO cI : ClassId) : ∀ i j, j < i → (mlS T cO cI i).heap[T.heap.size + 1 + j]? = some (mlI cI)
  | 0, j, h => absurd h (Nat.not_lt_zero j)
  | i + 1, j, h => by
    have h1 := (mlS_f T cO cI i).1
    show (((mlS T cO cI i).pushCell (mlI cI)).setCell T.heap.size _).heap[T.heap.size + 1 + j]? = _
    rw [State.heap_setCell_other (show T.heap.size ≠ T.heap.size + 1 + j by omega)]
    by_cases e : j = i
    · subst e
      rw [← h1]
      simp
    · have hlt : T.heap.size + 1 + j < (mlS T cO cI i).heap.size := by rw [h1]; omega
      rw [State.heap_pushCell_of_lt (h := hlt)]
      exact mlS_row T cO cI i j (by omega)
section ML
variable {E : CtlPost} {e : Env} {d : Bool} {acts : List Action} {s : State}
theorem ml_new {k comp : ClassId} {K : Class} {ty : FieldType} {n : Nat} {v : Value} (hk : s.vm.classes[k]? = some K) (hkind : K.kind = .array comp ty) (h1 : ¬ n > e.platform.arrayLengthLimit) (h2 : ¬ n * componentBytes ty > e.platform.maxHeapBytes) (hfit : fits ty v = true) (hdef : v.isDefault = true) (h3 : s.heap.size < e.platform.maxCells) (h4 : s.slotsUsed + n ≤ e.platform.maxSlots) {Q : Addr → Pre} (hq : Q s.heap.size d acts (s.pushCell (arrV k n (fun _ => v)))) : wp (Jvm.newArray k n v) Q E e d acts s := by
  have hf : ∀ i x, (Array.replicate n v)[i]? = some x → s.fitsSlot k .none i x = true := by
    intro i x hx
    rw [Array.getElem?_replicate] at hx
    split at hx
    · cases hx; simp [State.fitsSlot, State.slotType?, hk, hkind, hfit]
    · cases hx
  have ha : allocActs (Array.replicate n v) s.heap.size acts = acts := by
    unfold allocActs
    rw [if_pos]
    rw [Array.all_replicate]
    split <;> simp [hdef]
  rw [← arrV_new] at hq
  simp only [Jvm.newArray, Jvm.arrayFits, wp_bind', Jvm.W.ask, Jvm.W.ite, h1, if_false, wp_pure', Jvm.W.theClass, hk, hkind, h2, Jvm.W.alloc, Jvm.W.stop, Option.some.injEq, exists_eq_left', Array.size_replicate, ha]
  rw [if_neg (by omega)]
  exact ⟨h3, h4, hf, hq⟩
theorem ml_inner {cI cL : ClassId} {K : Class} (hk : s.vm.classes[cI]? = some K) (hkind : K.kind = .array cL .long) (h1 : ¬ 144 > e.platform.arrayLengthLimit) (h2 : ¬ 144 * 8 > e.platform.maxHeapBytes) (h3 : s.heap.size < e.platform.maxCells) (h4 : s.slotsUsed + 144 ≤ e.platform.maxSlots) {Q : Addr → Pre} (hq : Q s.heap.size d acts (s.pushCell (mlI cI))) : wp (multianewarray.make cI [144]) Q E e d acts s := by
  rw [multianewarray.make]
  simp only [wp_bind', Jvm.W.ite, show ¬ (144 : Int32) < 0 by decide, if_false, wp_pure', Jvm.W.theClass, hk, hkind, Option.some.injEq, exists_eq_left']
  exact ml_new (n := 144) (ty := .long) (v := .long 0) hk hkind h1 h2 rfl rfl h3 h4 hq
theorem ml_make {cO cI cL : ClassId} {KO KI : Class} (hO : s.vm.classes[cO]? = some KO) (hOk : KO.kind = .array cI (.array .long)) (hI : s.vm.classes[cI]? = some KI) (hIk : KI.kind = .array cL .long) (h1 : ¬ 144 > e.platform.arrayLengthLimit) (h2 : ¬ 144 * 8 > e.platform.maxHeapBytes) (h3 : s.heap.size + 5 ≤ e.platform.maxCells) (h4 : s.slotsUsed + 580 ≤ e.platform.maxSlots) {Q : Addr → Pre} (hq : ∀ d' acts', Q s.heap.size d' acts' (mlS s cO cI 4)) : wp (multianewarray.make cO [4, 144]) Q E e d acts s := by
  rw [multianewarray.make]
  simp only [wp_bind', Jvm.W.ite, show ¬ (4 : Int32) < 0 by decide, if_false, wp_pure', Jvm.W.theClass, hO, hOk, Option.some.injEq, exists_eq_left']
  refine ml_new (n := 4) (ty := .array .long) (v := .null) hO hOk (by omega) (by show ¬ 4 * 4 > e.platform.maxHeapBytes; omega) rfl rfl (by omega) (by omega) ?_
  simp only [show ([(144 : Int32)].find? (· < 0)) = none by decide]
  rw [ite_self, wp_bind', Std.Legacy.Range.forIn_eq_forIn_range']
  show wp (forIn (List.range' 0 4 1) PUnit.unit _) _ E e d acts _
  have h0 : s.pushCell (arrV cO 4 (fun _ => Value.null)) = mlS s cO cI 0 := by
    show _ = s.pushCell (mlO cO s.heap.size 0)
    unfold mlO
    rfl
  rw [h0]
  refine wp_forIn_inv (fun rest t => ∃ i, i ≤ 4 ∧ rest = List.range' i (4 - i) ∧ t = mlS s cO cI i) _ _ ⟨0, Nat.zero_le _, rfl, rfl⟩ ?_ ?_
  · rintro x rest t d' acts' Q' ⟨i, hi, hr, rfl⟩ hnext
    have hlt : i < 4 := by
      rcases Nat.lt_or_ge i 4 with h | h
      · exact h
      · rw [show 4 - i = 0 by omega] at hr; cases hr
    rw [show 4 - i = (4 - (i + 1)) + 1 by omega, List.range'_succ] at hr
    obtain ⟨rfl, rfl⟩ := List.cons.inj hr
    obtain ⟨f1, f2, f3, f4⟩ := mlS_f s cO cI x
    have hm : x * 144 ≤ 3 * 144 := Nat.mul_le_mul_right _ (by omega)
    simp only [wp_bind']
    refine ml_inner (by rw [f3]; exact hI) hIk h1 h2 (by rw [f1]; omega) (by rw [f4]; omega) ?_
    have hlt0 : s.heap.size < (mlS s cO cI x).heap.size := by rw [f1]; omega
    simp only [wp_bind', Jvm.W.writeLoc, wp_pure']
    refine ⟨mlO cO s.heap.size x, by rw [State.heap_pushCell_of_lt (h := hlt0)]; exact f2, by simp [mlO, arrV], by rw [mlO_sz]; exact hlt, ?_, hnext _ _ _ ⟨x + 1, hlt, rfl, ?_⟩⟩
    · simp [mlO, arrV, State.fitsSlot, State.slotType?, f3, hO, hOk, fits]
    · rw [f1, mlO_st]; rfl
  · rintro t d' acts' ⟨i, hi, hr, rfl⟩
    have : i = 4 := by
      rcases Nat.lt_or_ge i 4 with h | h
      · rw [show 4 - i = (4 - (i + 1)) + 1 by omega, List.range'_succ] at hr; cases hr
      · omega
    subst this
    simp only [wp_pure']
    exact hq _ _
end ML
section MLW
variable {p : Program} {l : Launch} {e : Env} {R : Room} {s : State} {m : MethodId} {args : Array Value} {below : List Frame} {meth : Method} {c : Code} {T : State} {locs : List Loc} {cells slots : Nat}
theorem ml_stand (X : Stand p l e R s m args below meth c T locs cells slots) (cO cI : ClassId) : ∀ i, Stand p l e R s m args below meth c (mlS T cO cI i) (locs ++ (List.range i).map fun j => ⟨T.heap.size, j⟩) (cells + 1 + i) (slots + 4 + i * 144)
  | 0 => by
    have h := X.pushed (mlO cO T.heap.size 0)
    rw [mlO_sz] at h
    simpa [mlS] using h
  | i + 1 => by
    have Xi := ml_stand X cO cI i
    obtain ⟨f1, f2, -⟩ := mlS_f T cO cI i
    have hlt0 : T.heap.size < (mlS T cO cI i).heap.size := by rw [f1]; omega
    have hcell : ((mlS T cO cI i).pushCell (mlI cI)).heap[T.heap.size]? = some (mlO cO T.heap.size i) := by rw [State.heap_pushCell_of_lt (h := hlt0)]; exact f2
    have h := (Xi.pushed (mlI cI)).stored hcell i (.ref (T.heap.size + 1 + i))
    rw [mlI_sz, mlO_st] at h
    have e2 : (locs ++ (List.range (i + 1)).map fun j => (⟨T.heap.size, j⟩ : Loc)) = (locs ++ (List.range i).map fun j => (⟨T.heap.size, j⟩ : Loc)) ++ [⟨T.heap.size, i⟩] := by simp [List.range_succ, List.append_assoc]
    rw [e2, show slots + 4 + (i + 1) * 144 = slots + 4 + i * 144 + 144 by omega]
    exact h
theorem ml_over {U : State} {A : Array Value} (h : (Cond.arrayOver (.array .long)).before A U = true) : ∃ cI cO K, U.vm.findClass "[J" = some cI ∧ U.vm.classes[cO]? = some K ∧ K.kind = .array cI (.array .long) ∧ U.vm.findClass "[[J" = some cO := by
  have h' : (Cond.arrayOver (.array .long)).holds A U none U [] = true := h
  simp only [Cond.holds, Cond.value, beq_iff_eq] at h'
  cases hc : U.vm.findClass (FieldType.array .long).toString with
  | none => simp [hc] at h'
  | some cI =>
    simp only [hc, Option.bind_some, Option.bind_eq_some_iff, Option.map_eq_some_iff] at h'
    obtain ⟨cO, hi, K, hk, hb⟩ := h'
    obtain ⟨hlt, hp, -⟩ := Array.findIdx?_eq_some_iff_getElem.mp hi
    have hkk : U.vm.classes[cO] = K := (Array.getElem?_eq_some_iff.mp hk).2
    rw [hkk] at hp
    cases hkind : K.kind with
    | array component ty =>
      rw [hkind] at hb hp
      simp at hb hp
      exact ⟨cI, cO, K, hc, hk, by rw [hkind, hp, hb.1], hb.2⟩
    | _ => rw [hkind] at hb; simp at hb
variable {Q : State → Prop} {H : Heap}
/-- the row of 'multianewarray' -/
theorem ml_W {cc : ByteArray} (hexec : p.tables.exec = Jvm.exec) (hb : c.code = cc) {own : String} {index : Nat} (hown : s.vm.findClass own = some m.cls) (hclink : (Cond.classLink own index "[[J").before args s = true) (hover : (Cond.arrayOver (.array .long)).before args s = true) (harr : (Cond.arrayClass .long).before args s = true) {pc : Nat} {ls : Array Slot} {rest : List Value} (hdg : decode cc pc = .ok (.multianewarray index 2, 4)) (hcells : cells + 5 ≤ R.cells) (hslots : slots + 580 ≤ R.slots)
    (kk : ∀ (H1 : Heap) (cO cI : ClassId), s.vm.findClass "[[J" = some cO → s.vm.findClass "[J" = some cI → H1.size = H.size + 5 → H1[H.size]? = some (mlO cO H.size 4) → (∀ j, j < 4 → H1[H.size + 1 + j]? = some (mlI cI)) → (∀ q, q < H.size → H1[q]? = H[q]?) → W p l e R s m args below meth c H1 (locs ++ (List.range 4).map fun j => ⟨H.size, j⟩) (cells + 5) (slots + 580) Q (F0 m (pc + 4) ls (.ref H.size :: rest))) : W p l e R s m args below meth c H locs cells slots Q (F0 m pc ls (.int 144 :: .int 4 :: rest)) := by
  intro T hT X
  subst hT
  subst hb
  have hpl : e.platform.magicAccessors = ({} : Platform).magicAccessors := by rw [X.admits.platform]
  obtain ⟨cI, cO, KO, hcI, hKO, hKOk, hcO⟩ := ml_over hover
  obtain ⟨cI', KI, cL, hcI', hKI, hKIk⟩ := Cond.arrayClass_spec harr
  obtain rfl : cI' = cI := Option.some.inj (hcI'.symm.trans hcI)
  obtain ⟨c0, hc0, hcl⟩ := Cond.classLink_spec hown hclink e.platform hpl
  cases hcO.symm.trans hc0
  obtain ⟨hg1, hw1, hr1⟩ := State.classEntry (e := e) X.warmed hcl
  generalize T.vm.noted m.cls index (.cls cO) = vm1 at hg1 hw1 hr1
  have hal : s.vm.Alike vm1 := hw1.alike
  obtain ⟨KO1, hKO1, heO⟩ := hal.2.2 _ _ hKO
  obtain ⟨KI1, hKI1, heI⟩ := hal.2.2 _ _ hKI
  have X1 := X.noted hw1
  have X2 := ml_stand X1 cO cI' 4
  obtain ⟨hm1, hm2⟩ := X.roomAbove hcells hslots
  obtain ⟨f1, f2, f3, f4⟩ := mlS_f (T.setVm vm1) cO cI' 4
  obtain ⟨t, a1, b1⟩ := kk (mlS (T.setVm vm1) cO cI' 4).heap cO cI' hcO hcI f1 f2 (fun j hj => mlS_row (T.setVm vm1) cO cI' 4 j hj) (fun q hq => mlS_old (T.setVm vm1) cO cI' hq 4) _ rfl X2
  refine ⟨t, ?_, b1⟩
  have hl1 : ¬ 144 > e.platform.arrayLengthLimit := by rw [Launch.admits_arrayLengthLimit X.admits]; omega
  have hh1 : ¬ 144 * 8 > e.platform.maxHeapBytes := by rw [Launch.admits_maxHeapBytes X.admits]; omega
  jvm_step X.here [hexec, hdg]
  simp only [multianewarray.sem, wp_bind', Jvm.W.resolveClassAt_links (State.method?_setTop (F0 m pc ls (.int 144 :: .int 4 :: rest)) X.here.top) hg1]
  rw [Jvm.W.popN, if_neg (by decide)]
  refine ⟨F0 m pc ls (.int 144 :: .int 4 :: rest), State.topJava?_setTop' (s := T.setVm vm1) _ X.here.top, [.int 4, .int 144], rest, rfl, rfl, ?_⟩
  simp only [List.mapM_cons, List.mapM_nil, wp_bind', wp_pure']
  refine ml_make (KO := KO1) (KI := KI1) (cL := cL) hKO1 (by rw [heO]; exact hKOk) hKI1 (by rw [heI]; exact hKIk) hl1 hh1 (by show T.heap.size + 5 ≤ _; omega) (by show T.slotsUsed + 580 ≤ _; omega) (fun d' acts' => ?_)
  have eS : ((T.setTop (F0 m pc ls (.int 144 :: .int 4 :: rest))).setVm vm1).setTop { F0 m pc ls (.int 144 :: .int 4 :: rest) with stack := rest } = (T.setVm vm1).setTop { F0 m pc ls (.int 144 :: .int 4 :: rest) with stack := rest } := by
    show ((T.setVm vm1).setTop _).setTop _ = _
    rw [State.setTop_setTop]
  rw [eS, mlS_top]
  simp only [wp_bind', Jvm.W.mark, Jvm.W.pushRef, State.topJava?_setTop' _ X2.here.top, Option.some.injEq, exists_eq_left', State.setTop_setTop, State.heap_setTop]
  intro acts
  simp [jvm, X2.here.top]
  exact a1
end MLW
