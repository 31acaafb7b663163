/-! ===== THE START: what the tables and the Statement give ===== -/
section ST
variable {s : State} {args : Array Value}
theorem st_cls (hts : ∀ w ∈ lw_tbl, w.before args s = true) : ∃ (dC : Nat → ClassId) (dI : Nat → Nat → Nat), ∀ (c : Nat) (q : vw_C), vwCl[c]? = some q → u_Kn s q.1 q.2.1 q.2.2 (dC c) (dI c) := by
  have hin : ∀ q ∈ vwCl, Cond.instantiable q.1 q.2.2 ∈ lw_tbl := by decide +kernel
  have h : ∀ c : Nat, ∃ d : ClassId × (Nat → Nat), ∀ q, vwCl[c]? = some q → u_Kn s q.1 q.2.1 q.2.2 d.1 d.2 := by
    intro c
    cases hq : vwCl[c]? with
    | none => exact ⟨((0 : Nat), fun _ => 0), fun q h => by cases h⟩
    | some q =>
      have hm := List.mem_of_getElem? hq
      obtain ⟨a, b, hk⟩ := u_known (C := q.1) (T := q.2.1) (N := q.2.2) (n := q.2.2) hts (fun w hw => lw_ts w (ev_lay q hm w hw)) (hts _ (hin q hm))
      exact ⟨(a, b), fun q' h => by cases h; exact hk⟩
  obtain ⟨d, hd⟩ := Classical.axiomOfChoice h
  exact ⟨fun c => (d c).1, fun c => (d c).2, hd⟩
theorem st_prim {ty : FieldType} (h : (Cond.arrayClass ty).before args s = true) : ∃ c, ArrOfT s c ty ∧ s.vm.findClass ("[" ++ ty.toString) = some c := by
  obtain ⟨c, k, comp, h1, h2, h3⟩ := Cond.arrayClass_spec (show (Cond.arrayClass ty).holds args s none s [] = true from h)
  exact ⟨c, fun n z => ⟨fun k h => (by cases h), k, h2, comp, h3⟩, h1⟩
theorem st_K (hts : ∀ w ∈ lw_tbl, w.before args s = true) : ∃ (dC : Nat → ClassId) (dI : Nat → Nat → Nat) (cA : Nat → ClassId), va_K (dC, dI) vwCl (ev_ty cA) s := by
  obtain ⟨dC, dI, hk⟩ := st_cls hts
  obtain ⟨c0, a0, b0⟩ := st_prim (hts (.arrayClass .int) (List.mem_of_getElem? (i := 140) (by decide +kernel)))
  obtain ⟨c1, a1, b1⟩ := st_prim (hts (.arrayClass .long) (List.mem_of_getElem? (i := 169) (by decide +kernel)))
  obtain ⟨c2, a2, b2⟩ := st_prim (hts (.arrayClass .char) (List.mem_of_getElem? (i := 110) (by decide +kernel)))
  obtain ⟨c3, a3, b3⟩ := st_prim (hts (.arrayClass .byte) (List.mem_of_getElem? (i := 407) (by decide +kernel)))
  have h4 := hts (.arrayOver (.object "WithEyesBound$Player")) (List.mem_of_getElem? (i := 171) (by decide +kernel))
  obtain ⟨comp, c4, k4, f1, -, f2, f3, f4⟩ := Cond.arrayOver_spec (show (Cond.arrayOver (.object "WithEyesBound$Player")).holds args s none s [] = true from h4)
  obtain ⟨cI, c5, k5, g1, -, g2, g3, g4⟩ := ml_over2 (hts (.arrayOver (.array .long)) (List.mem_of_getElem? (i := 148) (by decide +kernel)))
  refine ⟨dC, dI, fun t => [c0, c1, c2, c3, c4, c5].getD t c0, hk, fun k q hq => ?_⟩
  match k, hq with
  | 0, hq => cases hq; exact ⟨a0, b0⟩
  | 1, hq => cases hq; exact ⟨a1, b1⟩
  | 2, hq => cases hq; exact ⟨a2, b2⟩
  | 3, hq => cases hq; exact ⟨a3, b3⟩
  | 4, hq => cases hq; exact ⟨fun n z => ⟨fun k h => (by cases h), k4, f2, comp, f3⟩, k4, comp, f2, f3, f1, f4⟩
  | 5, hq => cases hq; exact ⟨fun n z => ⟨fun k h => (by cases h), k5, g2, cI, g3⟩, g4⟩
  | k + 6, hq => simp at hq
theorem st_C (hts : ∀ w ∈ lw_tbl, w.before args s = true) : cn_G s := by
  have m1 : ∀ q ∈ cn_l, Cond.methodLinkNest q.1 q.2.1 q.2.2 "WithEyesBound" ∈ lw_tbl := by decide +kernel
  have m2 : ∀ q ∈ cn_c, Cond.castable q "WithEyesBound$Player" ∈ lw_tbl := by decide +kernel
  exact ⟨fun q hq => va_Nw.of rfl (hts _ (m1 q hq)), va_AO.of (hts (.arrayOver (.object "WithEyesBound$Player")) (List.mem_of_getElem? (i := 171) (by decide +kernel))), (show (Cond.arrayOver (.array .long)).before args s = true from hts (.arrayOver (.array .long)) (List.mem_of_getElem? (i := 148) (by decide +kernel))), fun q hq => va_Nw.of rfl (hts _ (m2 q hq))⟩
theorem st_N (hts : ∀ w ∈ lw_tbl, w.before args s = true) (hs : ∀ c ∈ flatC (Jvm.Cond.and given_1 narrow_1), c.before args s = true) : (∀ q ∈ ev_nm, va_Nw (.methodLinkNest q.1 q.2.1 q.2.2.1 q.2.2.2) s) ∧ (∀ q ∈ ev_nf, va_Nw (.fieldLinkNest q.1 q.2.1 "WithEyesBound" q.2.2.1 q.2.2.2 "WithEyesBound") s) ∧ (∀ q ∈ ev_cy, va_Nw (.castable q.1 q.2) s) ∧ ∀ q ∈ ev_cn, va_Nc q.1 q.2 s := by
  have m1 : ∀ q ∈ ev_nm, Cond.methodLinkNest q.1 q.2.1 q.2.2.1 q.2.2.2 ∈ lw_tbl := by decide +kernel
  have m2 : ∀ q ∈ ev_nf, Cond.fieldLinkNest q.1 q.2.1 "WithEyesBound" q.2.2.1 q.2.2.2 "WithEyesBound" ∈ lw_tbl := by decide +kernel
  have m3 : ∀ q ∈ ev_cy, Cond.castable q.1 q.2 ∈ lw_tbl := by decide +kernel
  have m4 : ∀ q ∈ ev_cn, Cond.not (.castable q.1 q.2) ∈ flatC (Jvm.Cond.and given_1 narrow_1) := by decide +kernel
  exact ⟨fun q hq => va_Nw.of rfl (hts _ (m1 q hq)), fun q hq => va_Nw.of rfl (hts _ (m2 q hq)), fun q hq => va_Nw.of rfl (hts _ (m3 q hq)), fun q hq => va_Nc.of (hs _ (m4 q hq))⟩
theorem st_len : ∀ i : Nat, i < 1 → ([4] : List Nat).getD i 0 < 2 ^ 31 := by decide
theorem st_G (hts : ∀ w ∈ lw_tbl, w.before args s = true) (hgv : (Jvm.Cond.and given_1 narrow_1).before args s = true) : ∃ z : Nat → Nat, ev_G z (lwA s) s s.heap := by
  have hs := flat_of_before _ hgv
  have hA : ∀ a : Nat, a < s.heap.size → ¬ lwA s a := fun a h => Nat.not_le.mpr h
  obtain ⟨tF, eF, hF⟩ := va_Tof (tm := .static "WithEyesBound" "FELT" "[I") (ty := .int) (N := 4) (f := fun j => .int (ev_sf 1000 j)) (A := lwA s) (by decide) (hs (.arrayOf (.static "WithEyesBound" "FELT" "[I") .int) (by decide +kernel)) (va_eqt (z := 4) (hs (.eq (.length (.static "WithEyesBound" "FELT" "[I")) (.int 4)) (by decide +kernel))) (fun j hj => by
    match j, hj with
    | 0, _ => exact va_eqt (hs (.eq (.elem (.static "WithEyesBound" "FELT" "[I") (.int 0)) (.int 0)) (by decide +kernel))
    | 1, _ => exact va_eqt (hs (.eq (.elem (.static "WithEyesBound" "FELT" "[I") (.int 1)) (.int 3)) (by decide +kernel))
    | 2, _ => exact va_eqt (hs (.eq (.elem (.static "WithEyesBound" "FELT" "[I") (.int 2)) (.int 2)) (by decide +kernel))
    | 3, _ => exact va_eqt (hs (.eq (.elem (.static "WithEyesBound" "FELT" "[I") (.int 3)) (.int 1)) (by decide +kernel))
    | j + 4, hj => exact absurd hj (by omega)) hA
  obtain ⟨tR, eR, hR⟩ := va_Tof (tm := .static "WithEyesBound" "ROW_STEP" "[I") (ty := .int) (N := 4) (f := fun j => .int (ev_sf 1001 j)) (A := lwA s) (by decide) (hs (.arrayOf (.static "WithEyesBound" "ROW_STEP" "[I") .int) (by decide +kernel)) (va_eqt (z := 4) (hs (.eq (.length (.static "WithEyesBound" "ROW_STEP" "[I")) (.int 4)) (by decide +kernel))) (fun j hj => by
    match j, hj with
    | 0, _ => exact va_eqt (hs (.eq (.elem (.static "WithEyesBound" "ROW_STEP" "[I") (.int 0)) (.int (-1))) (by decide +kernel))
    | 1, _ => exact va_eqt (hs (.eq (.elem (.static "WithEyesBound" "ROW_STEP" "[I") (.int 1)) (.int 0)) (by decide +kernel))
    | 2, _ => exact va_eqt (hs (.eq (.elem (.static "WithEyesBound" "ROW_STEP" "[I") (.int 2)) (.int 1)) (by decide +kernel))
    | 3, _ => exact va_eqt (hs (.eq (.elem (.static "WithEyesBound" "ROW_STEP" "[I") (.int 3)) (.int 0)) (by decide +kernel))
    | j + 4, hj => exact absurd hj (by omega)) hA
  obtain ⟨tC, eC, hC⟩ := va_Tof (tm := .static "WithEyesBound" "COLUMN_STEP" "[I") (ty := .int) (N := 4) (f := fun j => .int (ev_sf 1002 j)) (A := lwA s) (by decide) (hs (.arrayOf (.static "WithEyesBound" "COLUMN_STEP" "[I") .int) (by decide +kernel)) (va_eqt (z := 4) (hs (.eq (.length (.static "WithEyesBound" "COLUMN_STEP" "[I")) (.int 4)) (by decide +kernel))) (fun j hj => by
    match j, hj with
    | 0, _ => exact va_eqt (hs (.eq (.elem (.static "WithEyesBound" "COLUMN_STEP" "[I") (.int 0)) (.int 0)) (by decide +kernel))
    | 1, _ => exact va_eqt (hs (.eq (.elem (.static "WithEyesBound" "COLUMN_STEP" "[I") (.int 1)) (.int 1)) (by decide +kernel))
    | 2, _ => exact va_eqt (hs (.eq (.elem (.static "WithEyesBound" "COLUMN_STEP" "[I") (.int 2)) (.int 0)) (by decide +kernel))
    | 3, _ => exact va_eqt (hs (.eq (.elem (.static "WithEyesBound" "COLUMN_STEP" "[I") (.int 3)) (.int (-1))) (by decide +kernel))
    | j + 4, hj => exact absurd hj (by omega)) hA
  obtain ⟨adK, adV, hK, eK⟩ := vk_Sof (args := args) (s := s) (N := 1) (tm := fun _ => .string "WithEyesBound$Page" 23) (len := [4]) (byt := [[46, 98, 112, 120]]) (A := lwA s) (fun i hi => st_len i hi) (fun i _ => hs (.exactly (.string "WithEyesBound$Page" 23) "java/lang/String") (by decide +kernel)) (fun i _ => hs (.eq (.field (.string "WithEyesBound$Page" 23) "java/lang/String" "coder" "B") (.int 0)) (by decide +kernel)) (fun i _ => hs (.arrayOf (.field (.string "WithEyesBound$Page" 23) "java/lang/String" "value" "[B") .byte) (by decide +kernel)) (fun i hi => by
    have hi0 : i = 0 := Nat.lt_one_iff.mp hi
    subst hi0
    exact hs (.eq (.length (.field (.string "WithEyesBound$Page" 23) "java/lang/String" "value" "[B")) (.int 4)) (by decide +kernel)) (fun i hi j hj => by
    have hi0 : i = 0 := Nat.lt_one_iff.mp hi
    subst hi0
    have hj : j < 4 := hj
    match j, hj with
    | 0, _ => exact hs (.eq (.elem (.field (.string "WithEyesBound$Page" 23) "java/lang/String" "value" "[B") (.int 0)) (.int 46)) (by decide +kernel)
    | 1, _ => exact hs (.eq (.elem (.field (.string "WithEyesBound$Page" 23) "java/lang/String" "value" "[B") (.int 1)) (.int 98)) (by decide +kernel)
    | 2, _ => exact hs (.eq (.elem (.field (.string "WithEyesBound$Page" 23) "java/lang/String" "value" "[B") (.int 2)) (.int 112)) (by decide +kernel)
    | 3, _ => exact hs (.eq (.elem (.field (.string "WithEyesBound$Page" 23) "java/lang/String" "value" "[B") (.int 3)) (.int 120)) (by decide +kernel)
    | j + 4, hj => exact absurd hj (by omega)) (fun i j hi hj hij => absurd (show i = j by omega) hij) hA
  have hini := hts (.initialized "WithEyesBound") (List.mem_of_getElem? (i := 57) (by decide +kernel))
  obtain ⟨k1, k2, k3, k4⟩ := hK.1 0 (by decide)
  refine ⟨fun k => if k = 1000 then tF else if k = 1001 then tR else if k = 1002 then tC else if k = 2000 then adK 0 else adV 0, ⟨?_, ?_, ?_, fun a ha1 ha2 => ?_⟩, ⟨?_, k1, k2, k3, k4, ?_⟩, st_N hts hs⟩
  · exact va_Zref (hts (.laysStatic "WithEyesBound" "FELT" "[I") (List.mem_of_getElem? (i := 545) (by decide +kernel))) hini eF hA
  · exact va_Zref (hts (.laysStatic "WithEyesBound" "ROW_STEP" "[I") (List.mem_of_getElem? (i := 439) (by decide +kernel))) hini eR hA
  · exact va_Zref (hts (.laysStatic "WithEyesBound" "COLUMN_STEP" "[I") (List.mem_of_getElem? (i := 445) (by decide +kernel))) hini eC hA
  · rcases (show a = 1000 ∨ a = 1001 ∨ a = 1002 by omega) with rfl | rfl | rfl
    · exact hF
    · exact hR
    · exact hC
  · exact vk_R.of (hts (.stringRef "WithEyesBound$Page" 23 ".bpx") (List.mem_of_getElem? (i := 320) (by decide +kernel))) (eK 0 (by decide))
  · exact va_Zof (hts (.laysStatic "java/lang/String" "COMPACT_STRINGS" "Z") (List.mem_of_getElem? (i := 334) (by decide +kernel))) (hts (.initialized "java/lang/String") (List.mem_of_getElem? (i := 64) (by decide +kernel))) (va_eqi (hs (.eq (.static "java/lang/String" "COMPACT_STRINGS" "Z") (.int 1)) (by decide +kernel))) hA
end ST
