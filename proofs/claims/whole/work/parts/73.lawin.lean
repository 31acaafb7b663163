/-! ===== THE LAW'S LOOP: what stands at its head ===== -/
abbrev lwA (s : State) : Nat → Prop := fun q => s.heap.size ≤ q
def lw_In (p : Program) (l : Launch) (e : Env) (s : State) (m : MethodId) (below : List Frame) (meth : Method) (c : Code) (b : Nat) (cA : Nat → ClassId) (dC : Nat → ClassId) (dI : Nat → Nat → Nat) (N : Nat) : Prop :=
  ∀ (σ : SX) (μ : SM) (ρX ρM : Nat → Nat) (H : Heap) (locs : List Loc) (ls : Array Slot), Rel N σ μ → va_P (dC, dI) vwCl (ev_cw ρX cA 0 (hX σ) ++ ev_cw ρM cA 0 (hM μ)) H → va_D (lwA s) (ev_cw ρX cA 0 (hX σ) ++ ev_cw ρM cA 0 (hM μ)) → va_S (lwA s) s.heap H locs → ev_G ρX (lwA s) s s.heap → ev_G ρM (lwA s) s s.heap → lv_has ls 4 [(0, .ref b), (1, .ref (ρX 0)), (2, .ref (ρM 0)), (3, .int (nI (7 * N)))] →
    W p l e room_1 s m #[Value.ref b] below meth c H locs (100 + N) (4000 + 6 * N) (lw_Z below #[Value.ref b] s) (F0 m 18 ls [])
section LAW
variable {p : Program} {l : Launch} {e : Env} {s : State} {m : MethodId} {below : List Frame} {meth : Method} {c : Code} {b L : Nat} {xs : Nat → Int32} {cA : Nat → ClassId} {dC : Nat → ClassId} {dI : Nat → Nat → Nat}
variable {N : Nat} {σ : SX} {μ : SM} {ρX ρM : Nat → Nat} {H : Heap} {locs : List Loc} {ls : Array Slot} {cells slots : Nat} {Q : State → Prop}
/-- both have answered alike: on to the next call -/
theorem lc_end (C0 : lw_At p s m meth c b L xs) (hN : N < 512) (ih : lw_In p l e s m below meth c b cA dC dI (N + 1)) (hR : Rel (N + 1) σ μ) (hP : va_P (dC, dI) vwCl (ev_cw ρX cA 0 (hX σ) ++ ev_cw ρM cA 0 (hM μ)) H) (hD : va_D (lwA s) (ev_cw ρX cA 0 (hX σ) ++ ev_cw ρM cA 0 (hM μ))) (hS : va_S (lwA s) s.heap H locs) (hGX : ev_G ρX (lwA s) s s.heap) (hGM : ev_G ρM (lwA s) s s.heap) (hl : lv_has ls 4 [(0, .ref b), (1, .ref (ρX 0)), (2, .ref (ρM 0)), (3, .int (nI (7 * N)))]) (hc : cells ≤ 100 + (N + 1)) (hs : slots ≤ 4000 + 6 * (N + 1)) : W p l e room_1 s m #[Value.ref b] below meth c H locs cells slots (lw_Z below #[Value.ref b] s) (F0 m 1389 ls []) := by
  obtain ⟨hx, hb, hr, hml, hown, hts, hX', hbl, hlocks, hgv⟩ := C0
  refine W.widen hc hs ?_
  refine lv_iinc (v := nI (7 * (N + 1))) (lv' := [(3, .int (nI (7 * (N + 1)))), (0, .ref b), (1, .ref (ρX 0)), (2, .ref (ρM 0))]) hx hb d_law_1389 hl (k := 3) rfl (by rw [Nat.mul_add]; exact nI_add (7 * N) 7) (by decide) rfl (fun ls hl => ?_)
  refine lv_goto (tgt := 18) hx hb d_law_1392 (by decide) ?_
  exact ih σ μ ρX ρM H locs ls hR hP hD hS hGX hGM (lv_sub hl [1, 2, 3, 0] rfl)
/-- an int of the script is pushed: its place by a small constant -/
theorem lw_arg {R : Room} {args : Array Value} (hx : p.tables.exec = Jvm.exec) (hb : c.code = code) (hX : va_X b L xs s s.heap) (hbl : b < s.heap.size) (hS : va_S (lwA s) s.heap H locs) {i j pc : Nat} {n : Int} {qx qm : Nat} {rest : List Value} (hl : lv_has ls 4 [(0, .ref b), (1, .ref qx), (2, .ref qm), (3, .int (nI i))]) (hi : i + j < L) (hL : L ≤ 3584) (d0 : decode code pc = .ok (.aload_n 0, 1)) (d1 : decode code (pc + 1) = .ok (.iload_n 3, 1)) (d2 : decode code (pc + 2) = .ok (.iconst n, 1)) (hn : Int32.ofInt n = nI j) (d3 : decode code (pc + 3) = .ok (.iadd, 1)) (d4 : decode code (pc + 4) = .ok (.iaload, 1))
    (k : W p l e R s m args below meth c H locs cells slots Q (F0 m (pc + 5) ls (.int (xs (i + j)) :: rest))) : W p l e R s m args below meth c H locs cells slots Q (F0 m pc ls rest) := by
  refine lv_aload_n hx hb d0 rfl (lv_at hl 0 rfl) ?_
  refine lv_iload_n hx hb d1 rfl (lv_at hl 3 rfl) ?_
  refine lv_iconst (v := nI j) hx hb d2 hn ?_
  refine lv_iadd hx hb d3 ?_
  rw [nI_add]
  refine va_sld hx hb hX hbl (Nat.not_le.mpr hbl) hS (vp_in_nI hi (by omega)) d4 ?_
  rw [nI_clamp (by omega)]
  exact k
theorem lw_argb {R : Room} {args : Array Value} (hx : p.tables.exec = Jvm.exec) (hb : c.code = code) (hX : va_X b L xs s s.heap) (hbl : b < s.heap.size) (hS : va_S (lwA s) s.heap H locs) {i j pc : Nat} {n : Int} {qx qm : Nat} {rest : List Value} (hl : lv_has ls 4 [(0, .ref b), (1, .ref qx), (2, .ref qm), (3, .int (nI i))]) (hi : i + j < L) (hL : L ≤ 3584) (d0 : decode code pc = .ok (.aload_n 0, 1)) (d1 : decode code (pc + 1) = .ok (.iload_n 3, 1)) (d2 : decode code (pc + 2) = .ok (.bipush n, 2)) (hn : (Int8.ofInt n).toInt32 = nI j) (d3 : decode code (pc + 4) = .ok (.iadd, 1)) (d4 : decode code (pc + 5) = .ok (.iaload, 1))
    (k : W p l e R s m args below meth c H locs cells slots Q (F0 m (pc + 6) ls (.int (xs (i + j)) :: rest))) : W p l e R s m args below meth c H locs cells slots Q (F0 m pc ls rest) := by
  refine lv_aload_n hx hb d0 rfl (lv_at hl 0 rfl) ?_
  refine lv_iload_n hx hb d1 rfl (lv_at hl 3 rfl) ?_
  refine lv_bipush (v := nI j) hx hb d2 hn ?_
  refine lv_iadd hx hb d3 ?_
  rw [nI_add]
  refine va_sld hx hb hX hbl (Nat.not_le.mpr hbl) hS (vp_in_nI hi (by omega)) d4 ?_
  rw [nI_clamp (by omega)]
  exact k
end LAW
