/-! ===== what makes things: rows and contracts ===== -/
theorem tb_mem {w : Cond} (i : Nat) (h : (decide (lw_tbl[i]? = some w) && goodWord w) = true) : w ∈ ev_tb := by
  rw [Bool.and_eq_true, decide_eq_true_eq] at h
  exact List.mem_filter.mpr ⟨List.mem_of_getElem? h.1, h.2⟩
theorem gi_T {Ts : List Cond} (hTs : ∀ w ∈ ev_tb, w ∈ Ts) {y : MethodName} {b : ByteArray} {n : Nat} {r : Option FieldType} (h : Cond.code y b n r ∈ ev_tb) : GoodIn Ts (Cond.code y b n r :: ev_tb) := fun w hw => by
  have hw' : w ∈ ev_tb := by
    rcases List.mem_cons.mp hw with rfl | hw
    · exact h
    · exact hw
  exact ⟨hTs w hw', good_of_word (List.mem_filter.mp hw').2⟩
/-- links of constructors within the nest; what may be stored among players -/
def cn_l : List (String × Nat × MethodName) := [("WithEyesBound", 9, yX5_init), ("WithEyesBound", 18, yX7_init), ("WithEyesBound", 309, yX9_init), ("WithEyesBound$Shy", 3, yX6_init), ("WithEyesBound", 312, yX10_init), ("WithEyesBound$Small", 3, yX9_init), ("WithEyesBound", 315, yX1_init), ("WithEyesBound$Caller", 3, yX6_init), ("WithEyesBound", 318, yX2_init), ("WithEyesBound$Feigned", 3, yX1_init), ("WithEyesBound", 321, yX0_init), ("WithEyesBound$Behind", 3, yX6_init), ("WithEyesBound", 322, yX6_init)]
def cn_c : List String := [RX0, RX1, RX2, RX9, RX10]
def cn_G (U : State) : Prop := (∀ q ∈ cn_l, va_Nw (.methodLinkNest q.1 q.2.1 q.2.2 "WithEyesBound") U) ∧ va_AO "WithEyesBound$Player" U ∧ va_Nw (.arrayOver (.array .long)) U ∧ ∀ q ∈ cn_c, va_Nw (.castable q "WithEyesBound$Player") U
theorem ml_over2 {U : State} {A : Array Value} (h : (Cond.arrayOver (.array .long)).before A U = true) : ∃ cI cO K, U.vm.findClass "[J" = some cI ∧ (U.vm.classes.findIdx? fun (x : Class) => match x.kind with | .array component _ => component == cI | _ => false) = some cO ∧ U.vm.classes[cO]? = some K ∧ K.kind = .array cI (.array .long) ∧ U.vm.findClass "[[J" = some cO := by
  have h' : (Cond.arrayOver (.array .long)).holds A U none U [] = true := h
  simp only [Cond.holds, Cond.value, beq_iff_eq] at h'
  cases hc : U.vm.findClass (FieldType.array .long).toString with
  | none => simp [hc] at h'
  | some cI =>
    simp only [hc, Option.bind_some, Option.bind_eq_some_iff, Option.map_eq_some_iff] at h'
    obtain ⟨cO, hi, K, hk, hb⟩ := h'
    obtain ⟨hlt, hp, -⟩ := Array.findIdx?_eq_some_iff_getElem.mp hi
    have hkk : U.vm.classes[cO] = K := (Array.getElem?_eq_some_iff.mp hk).2
    rw [hkk] at hp
    cases hkind : K.kind with
    | array component ty =>
      rw [hkind] at hb hp
      simp at hb hp
      exact ⟨cI, cO, K, hc, hi, hk, by rw [hkind, hp, hb.1], hb.2⟩
    | _ => rw [hkind] at hb; simp at hb
theorem cn_over {u U : State} (hvm : u.vm.Alike U.vm) (h : va_Nw (.arrayOver (.array .long)) u) : va_Nw (.arrayOver (.array .long)) U := by
  obtain ⟨cI, cO, K, h1, h2, h3, h4, h5⟩ := ml_over2 (show (Cond.arrayOver (.array .long)).before #[] u = true from h)
  obtain ⟨K', hK', he⟩ := hvm.2.2 _ _ h3
  have hi : (U.vm.classes.findIdx? fun (x : Class) => match x.kind with | .array component _ => component == cI | _ => false) = some cO := by
    rw [Vm.Alike.findIdx?_eq hvm _ (fun _ => rfl)]
    exact h2
  have hkind : K'.kind = .array cI (.array .long) := by rw [he]; exact h4
  have f1 : U.vm.findClass (FieldType.array .long).toString = some cI := by rw [hvm.findClass]; exact h1
  have f2 : U.vm.findClass ("[" ++ (FieldType.array .long).toString) = some cO := by rw [hvm.findClass]; exact h5
  unfold va_Nw Cond.before Cond.holds
  simp only [Cond.value]
  rw [f1, Option.bind_some]
  refine (congrArg (fun o : Option Nat => (o.bind (fun c => (U.vm.classes[c]?).map fun (k : Class) => match k.kind with | .array _ ty => decide (ty = FieldType.array .long) && decide (U.vm.findClass ("[" ++ (FieldType.array .long).toString) = some c) | _ => false) == some true)) hi).trans ?_
  simp [hK', hkind, f2]
theorem cn_G.warm {s U : State} (hW : s.WarmedH U.vm) (h : cn_G s) : cn_G U := ⟨fun q hq => (h.1 q hq).warmM hW, h.2.1.moved hW.alike, cn_over hW.alike h.2.2.1, fun q hq => (h.2.2.2 q hq).warmC hW⟩
theorem cn_G.same {s U : State} (hv : U.vm = s.vm) (h : cn_G s) : cn_G U := by
  have hA : s.vm.Alike U.vm := by rw [hv]; exact Vm.Alike.refl s.vm
  exact ⟨fun q hq => va_Nw.same rfl hv.symm (h.1 q hq), h.2.1.moved hA, cn_over hA h.2.2.1, fun q hq => va_Nw.same rfl hv.symm (h.2.2.2 q hq)⟩
def cn_Pc (dC : Nat → ClassId) (dI : Nat → Nat → Nat) (cA : Nat → ClassId) (av : List Value) (W0 : va_W) (sz : Nat) : Array Value → State → Prop := va_Pc av (fun U => U.heap.size = sz ∧ va_P (dC, dI) vwCl W0 U.heap ∧ va_K (dC, dI) vwCl (ev_ty cA) U ∧ va_D (fun _ => True) W0 ∧ cn_G U)
def cn_Q (dC : Nat → ClassId) (dI : Nat → Nat → Nat) (W0 : va_W) (sz : Nat) (P : Option Value → va_W → Prop) : Array Value → State → Outcome → State → Prop := fun _ st oc t => (∃ v w1, oc = .returned v ∧ P v w1 ∧ va_P (dC, dI) vwCl w1 t.heap ∧ va_D (va_A W0 sz) w1) ∧ va_F (va_A W0 sz) st t
theorem cn_blind {dC : Nat → ClassId} {dI : Nat → Nat → Nat} {cA : Nat → ClassId} {av : List Value} {W0 : va_W} {sz : Nat} : FrameBlind (cn_Pc dC dI cA av W0 sz) := by
  intro a U g mk hq
  obtain ⟨e1, e2, e3, e4, e5, e6⟩ := hq
  exact ⟨e1, e2, e3, va_K.moved (u := U) (U := U.calling g mk a) (Vm.Alike.refl U.vm) e4, e5, cn_G.same (s := U) (U := U.calling g mk a) rfl e6⟩
section CN
variable {p : Program} {l : Launch} {e : Env} {R : Room} {s : State} {m : MethodId} {args : Array Value} {below : List Frame} {meth : Method} {c : Code} {Q : State → Prop} {own : String} {cc : ByteArray} {nL : Nat} {cA : Nat → ClassId} {dC : Nat → ClassId} {dI : Nat → Nat → Nat} {A : Nat → Prop} {H : Heap} {locs : List Loc} {cells slots : Nat} {Ts : List Cond} {ws wc : va_W} {pc : Nat} {ls : Array Slot} {rest : List Value}
/-- behind a call that makes things -/
theorem cn_callg {mc ms : Nat} {st0 : List Value} {P : Option Value → va_W → Prop} {ag : Array Value} (hP : va_P (dC, dI) vwCl (ws ++ wc) H) (hD : va_D A (ws ++ wc)) (hS : va_S A s.heap H locs) (hA : ∀ q, s.heap.size ≤ q → A q) (hr : va_Run p l e R s m args below meth c H locs cells slots mc ms (F0 m pc ls st0) rest (cn_Q dC dI wc H.size P ag) (va_A wc H.size))
    (kk : ∀ (v : Option Value) (w1 : va_W) (H1 : Heap) (locs1 : List Loc), P v w1 → va_P (dC, dI) vwCl (ws ++ w1) H1 → va_D A (ws ++ w1) → va_S A s.heap H1 locs1 → W p l e R s m args below meth c H1 locs1 (cells + mc) (slots + ms) Q (F0 m (pc + 3) ls (v.toList ++ rest))) : W p l e R s m args below meth c H locs cells slots Q (F0 m pc ls st0) := by
  have hsub : ∀ q, va_A wc H.size q → A q := by
    intro q hq
    rcases hq with ⟨j, e0, hj⟩ | hq
    · exact (wl_Dr hD).2 j _ hj
    · exact hA q (Nat.le_trans hS.1 hq)
  intro T hT X
  obtain ⟨v', st₀, t, T', L, h0, X', hL, e1, e2, ⟨⟨v, w1, hv, hp, hP1, hD1⟩, hz, hk⟩, st⟩ := hr T hT X
  cases hv
  rw [h0] at hz hk
  obtain ⟨hP2, hD2⟩ := wl_join (H1 := T'.heap) (wl_Ps hP) (wl_Ds hD) (fun q hq => hA q (Nat.le_trans hS.1 hq)) (fun q h1 h2 => by rw [e1]; exact hk q h1 h2) (by rw [e1]; exact hP1) hD1
  obtain ⟨t2, a1, b1⟩ := kk _ w1 T'.heap (locs ++ L) hp (wl_Ps hP2) (wl_Ds hD2)
    ⟨Nat.le_trans hS.1 (by rw [e1]; exact hz), fun q h1 h2 => by rw [e1, hk q (Nat.lt_of_lt_of_le h1 hS.1) (fun z => h2 (hsub q z))]; exact hS.2.1 q h1 h2, fun q hq => by
      rcases List.mem_append.mp hq with h | h
      · exact hS.2.2 q h
      · exact hsub _ (hL q h)⟩ T' rfl X'
  exact ⟨t2, st t2 a1, b1⟩
theorem cn_pre (hK : va_K (dC, dI) vwCl (ev_ty cA) s) (hG : cn_G s) (hP : va_P (dC, dI) vwCl (ws ++ wc) H) (hD : va_D A (ws ++ wc)) {av : List Value} : ∀ U : State, U.heap = H → s.WarmedH U.vm → cn_Pc dC dI cA av wc H.size av.toArray U := fun U hU hW => ⟨rfl, by rw [hU], by rw [hU]; exact wl_Pr hP, va_K.moved hW.alike hK, (wl_Dr hD).weaken (fun _ _ _ _ => trivial), hG.warm hW⟩
/-- a constructor is called -/
theorem cn_I (S : CallFix p m c cc nL s args Ts own) (hTs : ∀ w ∈ ev_tb, w ∈ Ts) (hK : va_K (dC, dI) vwCl (ev_ty cA) s) (hG : cn_G s) (hP : va_P (dC, dI) vwCl (ws ++ wc) H) (hD : va_D A (ws ++ wc)) (hS : va_S A s.heap H locs) (hA : ∀ q, s.heap.size ≤ q → A q) {y : MethodName} {bytes : ByteArray} {maxL mc ms n index b : Nat} {rm : Room} {P : Option Value → va_W → Prop} {As st0 : List Value}
    (hM : Met l y (Cond.code y bytes maxL none :: ev_tb) rm (cn_Pc dC dI cA (.ref b :: As) wc H.size) (cn_Q dC dI wc H.size P) mc ms (va_A wc H.size)) (hw : Cond.code y bytes maxL none ∈ ev_tb) (hrc : rm.cells = mc) (hrs : rm.slots = ms) (hini : Cond.initialized y.cls ∈ ev_tb) (hlk : Cond.methodLink own index y ∈ ev_tb) (hinst : Cond.instanceMethod y ∈ ev_tb) (hyn : y.name = "<init>") (hdsc : y.cls ≠ "java/lang/invoke/MethodHandle" ∧ y.cls ≠ "java/lang/invoke/VarHandle" ∧ (parseMethodDescriptor y.desc).map (fun d => d.parameters.length) = some n) (hR : rm.frames + 1 ≤ R.frames ∧ 8 + (maxL + 11) + rm.locals ≤ R.locals) (hroom : cells + mc ≤ R.cells ∧ slots + ms ≤ R.slots) (hn : As.length = n) (hls : ls.size = nL) (hst : st0 = As.reverse ++ .ref b :: rest) (hcat : (rest.map fun v => v.category).sum ≤ 8) (hd : decode cc pc = .ok (.invokespecial index, 3))
    (kk : ∀ (v : Option Value) (w1 : va_W) (H1 : Heap) (locs1 : List Loc), P v w1 → va_P (dC, dI) vwCl (ws ++ w1) H1 → va_D A (ws ++ w1) → va_S A s.heap H1 locs1 → W p l e R s m args below meth c H1 locs1 (cells + mc) (slots + ms) Q (F0 m (pc + 3) ls (v.toList ++ rest))) : W p l e R s m args below meth c H locs cells slots Q (F0 m pc ls st0) := by
  have hts := S.2.2.2.2
  have hrun := va_runI (H := H) (locs := locs) (cells := cells) (slots := slots) (below := below) (meth := meth) (e := e) (g := F0 m pc ls st0) (rest := rest) (As := As) (b := b) S hM (cwI (R := R) n hts (gi_T hTs hw) rfl hrc hrs (hts _ (hTs _ hini)) (hts _ (hTs _ hlk)) (hts _ (hTs _ hinst)) hyn hdsc hR) ⟨cn_blind, cn_pre hK hG hP hD⟩ rfl hn hls hst (lv_room hcat) hd hroom
  exact cn_callg hP hD hS hA hrun kk
/-- a constructor of a nest mate is called -/
theorem cn_IN (S : CallFix p m c cc nL s args Ts own) (hTs : ∀ w ∈ ev_tb, w ∈ Ts) (hK : va_K (dC, dI) vwCl (ev_ty cA) s) (hG : cn_G s) (hP : va_P (dC, dI) vwCl (ws ++ wc) H) (hD : va_D A (ws ++ wc)) (hS : va_S A s.heap H locs) (hA : ∀ q, s.heap.size ≤ q → A q) {y : MethodName} {bytes : ByteArray} {maxL mc ms n index b : Nat} {rm : Room} {P : Option Value → va_W → Prop} {As st0 : List Value}
    (hM : Met l y (Cond.code y bytes maxL none :: ev_tb) rm (cn_Pc dC dI cA (.ref b :: As) wc H.size) (cn_Q dC dI wc H.size P) mc ms (va_A wc H.size)) (hw : Cond.code y bytes maxL none ∈ ev_tb) (hrc : rm.cells = mc) (hrs : rm.slots = ms) (hini : Cond.initialized y.cls ∈ ev_tb) (hlk : (own, index, y) ∈ cn_l) (hinst : Cond.instanceMethod y ∈ ev_tb) (hyn : y.name = "<init>") (hdsc : y.cls ≠ "java/lang/invoke/MethodHandle" ∧ y.cls ≠ "java/lang/invoke/VarHandle" ∧ (parseMethodDescriptor y.desc).map (fun d => d.parameters.length) = some n) (hR : rm.frames + 1 ≤ R.frames ∧ 8 + (maxL + 11) + rm.locals ≤ R.locals) (hroom : cells + mc ≤ R.cells ∧ slots + ms ≤ R.slots) (hn : As.length = n) (hls : ls.size = nL) (hst : st0 = As.reverse ++ .ref b :: rest) (hcat : (rest.map fun v => v.category).sum ≤ 8) (hd : decode cc pc = .ok (.invokespecial index, 3))
    (kk : ∀ (v : Option Value) (w1 : va_W) (H1 : Heap) (locs1 : List Loc), P v w1 → va_P (dC, dI) vwCl (ws ++ w1) H1 → va_D A (ws ++ w1) → va_S A s.heap H1 locs1 → W p l e R s m args below meth c H1 locs1 (cells + mc) (slots + ms) Q (F0 m (pc + 3) ls (v.toList ++ rest))) : W p l e R s m args below meth c H locs cells slots Q (F0 m pc ls st0) := by
  have hts := S.2.2.2.2
  have hnw := hG.1 _ hlk
  have hrun := va_runIN (host := "WithEyesBound") (H := H) (locs := locs) (cells := cells) (slots := slots) (below := below) (meth := meth) (e := e) (g := F0 m pc ls st0) (rest := rest) (As := As) (b := b) S hM ⟨va_cnB (R := R) n hts (gi_T hTs hw) rfl hrc hrs hnw (hts _ (hTs _ hini)) hdsc hR, hyn, hts _ (hTs _ hinst)⟩ ⟨cn_blind, cn_pre hK hG hP hD⟩ rfl hn hls hst (lv_room hcat) hd hroom
  exact cn_callg hP hD hS hA hrun kk
/-- a static method that makes things is called -/
theorem cn_S (S : CallFix p m c cc nL s args Ts own) (hTs : ∀ w ∈ ev_tb, w ∈ Ts) (hK : va_K (dC, dI) vwCl (ev_ty cA) s) (hG : cn_G s) (hP : va_P (dC, dI) vwCl (ws ++ wc) H) (hD : va_D A (ws ++ wc)) (hS : va_S A s.heap H locs) (hA : ∀ q, s.heap.size ≤ q → A q) {y : MethodName} {bytes : ByteArray} {maxL mc ms n index : Nat} {ret : Option FieldType} {rm : Room} {P : Option Value → va_W → Prop} {As st0 : List Value}
    (hM : Met l y (Cond.code y bytes maxL ret :: ev_tb) rm (cn_Pc dC dI cA As wc H.size) (cn_Q dC dI wc H.size P) mc ms (va_A wc H.size)) (hw : Cond.code y bytes maxL ret ∈ ev_tb) (hrc : rm.cells = mc) (hrs : rm.slots = ms) (hini : Cond.initialized y.cls ∈ ev_tb) (hlk : Cond.methodLink own index y ∈ ev_tb) (hstat : Cond.static y ∈ ev_tb) (hdsc : y.cls ≠ "java/lang/invoke/MethodHandle" ∧ y.cls ≠ "java/lang/invoke/VarHandle" ∧ (parseMethodDescriptor y.desc).map (fun d => d.parameters.length) = some n) (hR : rm.frames + 1 ≤ R.frames ∧ 8 + (maxL + 11) + rm.locals ≤ R.locals) (hroom : cells + mc ≤ R.cells ∧ slots + ms ≤ R.slots) (hn : As.length = n) (hls : ls.size = nL) (hst : st0 = As.reverse ++ rest) (hcat : (rest.map fun v => v.category).sum ≤ 8) (hd : decode cc pc = .ok (.invokestatic index, 3))
    (kk : ∀ (v : Option Value) (w1 : va_W) (H1 : Heap) (locs1 : List Loc), P v w1 → va_P (dC, dI) vwCl (ws ++ w1) H1 → va_D A (ws ++ w1) → va_S A s.heap H1 locs1 → W p l e R s m args below meth c H1 locs1 (cells + mc) (slots + ms) Q (F0 m (pc + 3) ls (v.toList ++ rest))) : W p l e R s m args below meth c H locs cells slots Q (F0 m pc ls st0) := by
  have hts := S.2.2.2.2
  have hgood : GoodIn Ts (va_wsS own index y (Cond.code y bytes maxL ret :: ev_tb)) := by
    intro w hw'
    unfold va_wsS at hw'
    have hin : w ∈ ev_tb := by
      rcases List.mem_append.mp hw' with h | h
      · simp only [List.mem_cons, List.not_mem_nil, or_false] at h
        rcases h with rfl | rfl | rfl
        · exact hlk
        · exact hstat
        · exact hini
      · rcases List.mem_cons.mp h with rfl | h
        · exact hw
        · exact h
    exact ⟨hTs w hin, good_of_word (List.mem_filter.mp hin).2⟩
  have hrun := va_runS (H := H) (locs := locs) (cells := cells) (slots := slots) (below := below) (meth := meth) (e := e) (g := F0 m pc ls st0) (rest := rest) (As := As) S hM (va_cwS (R := R) n hts hgood rfl hrc hrs hdsc hR) ⟨cn_blind, cn_pre hK hG hP hD⟩ rfl hn hls hst (lv_room hcat) hd hroom
  exact cn_callg hP hD hS hA hrun kk
/-- an array of numbers -/
theorem cn_newa (hexec : p.tables.exec = Jvm.exec) (hb : c.code = cc) {atype : ArrayType} (harr : (Cond.arrayClass (newarray.typeOf atype)).before args s = true) {ty : FieldType} (hty : newarray.typeOf atype = ty) (t : Nat) (hK : va_K (dC, dI) vwCl (ev_ty cA) s) (ht : (ev_ty cA)[t]? = some (cA t, ty)) (hprim : va_RA s (cA t) ty = (s.vm.findClass ("[" ++ ty.toString) = some (cA t))) (hprim2 : ∀ x, va_RA s x ty = (s.vm.findClass ("[" ++ ty.toString) = some x)) (hP : va_P (dC, dI) vwCl ws H) (hD : va_D A ws) (hS : va_S A s.heap H locs) (hA : ∀ q, s.heap.size ≤ q → A q)
    {n : Int32} {N' : Nat} {a0 : vp_A} (ha : ∀ cA : ClassId, vp_cell cA a0 = arrV cA N' (fun _ => defaultValue ty)) (hn : ¬ n < 0) (hN : n.toNatClampNeg = N') (hbytes : N' * componentBytes ty ≤ 536870912) (hcells : cells + 1 ≤ R.cells) (hslots : slots + N' ≤ R.slots) (hdg : decode cc pc = .ok (.newarray atype, 2))
    (kk : ∀ (q : Nat) (H1 : Heap), va_P (dC, dI) vwCl (ws ++ [(q, .inl (cA t, a0))]) H1 → va_D A (ws ++ [(q, .inl (cA t, a0))]) → va_S A s.heap H1 locs → W p l e R s m args below meth c H1 locs (cells + 1) (slots + N') Q (F0 m (pc + 2) ls (.ref q :: rest))) : W p l e R s m args below meth c H locs cells slots Q (F0 m pc ls (.int n :: rest)) := by
  refine va_newa (D := (dC, dI)) hexec hb harr hty hK hP hD hS hA ha hn hN hbytes hcells hslots hdg (fun q cB H1 hK1 hP1 hD1 hS1 => ?_)
  have h1 := (hK1.2 6 (cB, ty) rfl).2
  have h2 := (hK.2 t _ ht).2
  rw [hprim2] at h1
  change va_RA s (cA t) ty at h2
  rw [hprim] at h2
  obtain rfl : cB = cA t := Option.some.inj (h1.symm.trans h2)
  exact kk q H1 hP1 hD1 hS1
/-- the array of players -/
theorem cn_newq (hexec : p.tables.exec = Jvm.exec) (hb : c.code = cc) {index : Nat} (hown : s.vm.findClass own = some m.cls) (hclink : (Cond.classLink own index "WithEyesBound$Player").before args s = true) (hG : cn_G s) (hK : va_K (dC, dI) vwCl (ev_ty cA) s) (hP : va_P (dC, dI) vwCl ws H) (hD : va_D A ws) (hS : va_S A s.heap H locs) (hA : ∀ q, s.heap.size ≤ q → A q)
    {n : Int32} {N' : Nat} (hn : ¬ n < 0) (hN : n.toNatClampNeg = N') (hbytes : N' * 4 ≤ 536870912) (hcells : cells + 1 ≤ R.cells) (hslots : slots + N' ≤ R.slots) (hdg : decode cc pc = .ok (.anewarray index, 3))
    (kk : ∀ (q : Nat) (H1 : Heap), va_P (dC, dI) vwCl (ws ++ [(q, .inl (cA 4, N', .inr (.inr (.inr (.inr (fun _ => none))))))]) H1 → va_D A (ws ++ [(q, .inl (cA 4, N', .inr (.inr (.inr (.inr (fun _ => none))))))]) → va_S A s.heap H1 locs → W p l e R s m args below meth c H1 locs (cells + 1) (slots + N') Q (F0 m (pc + 3) ls (.ref q :: rest))) : W p l e R s m args below meth c H locs cells slots Q (F0 m pc ls (.int n :: rest)) := by
  refine va_newq (D := (dC, dI)) hexec hb hown hclink hG.2.1 hK hP hD hS hA hn hN hbytes hcells hslots hdg (fun q cB H1 hK1 hP1 hD1 hS1 => ?_)
  obtain ⟨-, -, -, -, -, h1⟩ := (hK1.2 6 (cB, .object "WithEyesBound$Player") rfl).2
  obtain ⟨-, -, -, -, -, h2⟩ := (hK.2 4 (cA 4, .object "WithEyesBound$Player") rfl).2
  obtain rfl : cB = cA 4 := Option.some.inj (h1.symm.trans h2)
  exact kk q H1 hP1 hD1 hS1
/-- the rows of outcomes -/
theorem cn_multi (hexec : p.tables.exec = Jvm.exec) (hb : c.code = cc) {index : Nat} (hown : s.vm.findClass own = some m.cls) (hclink : (Cond.classLink own index "[[J").before args s = true) (hG : cn_G s) (harr : (Cond.arrayClass .long).before args s = true) (hK : va_K (dC, dI) vwCl (ev_ty cA) s) (hP : va_P (dC, dI) vwCl ws H) (hD : va_D A ws) (hS : va_S A s.heap H locs) (hA : ∀ q, s.heap.size ≤ q → A q) (hcells : cells + 5 ≤ R.cells) (hslots : slots + 580 ≤ R.slots) (hdg : decode cc pc = .ok (.multianewarray index 2, 4))
    (kk : ∀ (q : Nat) (H1 : Heap) (locs1 : List Loc), va_P (dC, dI) vwCl (ws ++ [(q, .inl (cA 5, 4, .inr (.inr (.inr (.inr (fun j => some (q + 1 + j))))))), (q + 1, .inl (cA 1, 144, .inr (.inl (fun _ => 0)))), (q + 2, .inl (cA 1, 144, .inr (.inl (fun _ => 0)))), (q + 3, .inl (cA 1, 144, .inr (.inl (fun _ => 0)))), (q + 4, .inl (cA 1, 144, .inr (.inl (fun _ => 0))))]) H1 → va_D A (ws ++ [(q, .inl (cA 5, 4, .inr (.inr (.inr (.inr (fun j => some (q + 1 + j))))))), (q + 1, .inl (cA 1, 144, .inr (.inl (fun _ => 0)))), (q + 2, .inl (cA 1, 144, .inr (.inl (fun _ => 0)))), (q + 3, .inl (cA 1, 144, .inr (.inl (fun _ => 0)))), (q + 4, .inl (cA 1, 144, .inr (.inl (fun _ => 0))))]) → va_S A s.heap H1 locs1 → W p l e R s m args below meth c H1 locs1 (cells + 5) (slots + 580) Q (F0 m (pc + 4) ls (.ref q :: rest))) : W p l e R s m args below meth c H locs cells slots Q (F0 m pc ls (.int 144 :: .int 4 :: rest)) := by
  refine ml_W hexec hb hown hclink (show (Cond.arrayOver (.array .long)).before args s = true from hG.2.2.1) harr hdg hcells hslots (fun H1 cO cI h1 h2 z1 o1 i1 old => ?_)
  have k5 : s.vm.findClass "[[J" = some (cA 5) := (hK.2 5 (cA 5, .array .long) rfl).2
  have k1 : s.vm.findClass "[J" = some (cA 1) := (hK.2 1 (cA 1, .long) rfl).2
  obtain rfl : cO = cA 5 := Option.some.inj (h1.symm.trans k5)
  obtain rfl : cI = cA 1 := Option.some.inj (h2.symm.trans k1)
  have hlt : ∀ (k : Nat) (x : Nat × va_E), ws[k]? = some x → x.1 < H.size := fun k x hx => (hP k x hx).lt
  have hin : ∀ j, j < 4 → H1[H.size + 1 + j]? = some (vp_cell (cA 1) (144, .inr (.inl (fun _ => 0)))) := fun j hj => i1 j hj
  have hout : H1[H.size]? = some (vp_cell (cA 5) (4, .inr (.inr (.inr (.inr (fun j => some (H.size + 1 + j))))))) := by
    rw [o1, vp_cell_q]
    unfold mlO arrV
    congr 2
  refine kk H.size H1 _ ((hP.kept (fun k x hx => old x.1 (hlt k x hx))).app (fun k x hx => ?_)) (va_D.app hD ⟨fun i j x y hx hy hxy => ?_, fun k x hx => ?_⟩ (fun i j x y hx hy hxy => ?_)) ⟨Nat.le_trans hS.1 (by omega), fun x h1 h2 => (old x (Nat.lt_of_lt_of_le h1 hS.1)).trans (hS.2.1 x h1 h2), fun x hx => ?_⟩
  · match k, hx with
    | 0, hx => cases hx; exact hout
    | 1, hx => cases hx; exact hin 0 (by decide)
    | 2, hx => cases hx; exact hin 1 (by decide)
    | 3, hx => cases hx; exact hin 2 (by decide)
    | 4, hx => cases hx; exact hin 3 (by decide)
    | k + 5, hx => simp at hx
  · have hadr : ∀ (i : Nat) (x : Nat × va_E), ([(H.size, .inl (cA 5, 4, .inr (.inr (.inr (.inr (fun j => some (H.size + 1 + j))))))), (H.size + 1, .inl (cA 1, 144, .inr (.inl (fun _ => 0)))), (H.size + 2, .inl (cA 1, 144, .inr (.inl (fun _ => 0)))), (H.size + 3, .inl (cA 1, 144, .inr (.inl (fun _ => 0)))), (H.size + 4, .inl (cA 1, 144, .inr (.inl (fun _ => 0))))] : va_W)[i]? = some x → x.1 = H.size + i := by
      intro i x hx
      match i, hx with
      | 0, hx => cases hx; rfl
      | 1, hx => cases hx; rfl
      | 2, hx => cases hx; rfl
      | 3, hx => cases hx; rfl
      | 4, hx => cases hx; rfl
      | i + 5, hx => simp at hx
    have a := hadr i x hx
    have b := hadr j y hy
    omega
  · have : H.size ≤ x.1 := by
      match k, hx with
      | 0, hx => cases hx; exact Nat.le_refl _
      | 1, hx => cases hx; exact Nat.le_add_right _ _
      | 2, hx => cases hx; exact Nat.le_add_right _ _
      | 3, hx => cases hx; exact Nat.le_add_right _ _
      | 4, hx => cases hx; exact Nat.le_add_right _ _
      | k + 5, hx => simp at hx
    exact hA _ (Nat.le_trans hS.1 this)
  · have h1 := hlt i x hx
    have : H.size ≤ y.1 := by
      match j, hy with
      | 0, hy => cases hy; exact Nat.le_refl _
      | 1, hy => cases hy; exact Nat.le_add_right _ _
      | 2, hy => cases hy; exact Nat.le_add_right _ _
      | 3, hy => cases hy; exact Nat.le_add_right _ _
      | 4, hy => cases hy; exact Nat.le_add_right _ _
      | j + 5, hy => simp at hy
    omega
  · rcases List.mem_append.mp hx with h | h
    · exact hS.2.2 x h
    · obtain ⟨j, -, rfl⟩ := List.mem_map.mp h
      exact hA _ hS.1
end CN
