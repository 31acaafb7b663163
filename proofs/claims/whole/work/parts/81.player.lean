/-! ===== player of the class ===== -/
theorem kc_lay {kd : Nat} (h : kd < 6) : ∃ C, vwCl[ev_kc kd]? = some (C, TX6, 6) ∧ (kd = 0 ∧ C = "WithEyesBound$Player" ∨ C ∈ cn_c) := by
  rcases (show kd = 0 ∨ kd = 1 ∨ kd = 2 ∨ kd = 3 ∨ kd = 4 ∨ kd = 5 by omega) with rfl | rfl | rfl | rfl | rfl | rfl
  · exact ⟨_, rfl, Or.inl ⟨rfl, rfl⟩⟩
  · exact ⟨_, rfl, Or.inr (by decide)⟩
  · exact ⟨_, rfl, Or.inr (by decide)⟩
  · exact ⟨_, rfl, Or.inr (by decide)⟩
  · exact ⟨_, rfl, Or.inr (by decide)⟩
  · exact ⟨_, rfl, Or.inr (by decide)⟩
theorem c_kind (l : Launch) (dC : Nat → ClassId) (dI : Nat → Nat → Nat) (cA : Nat → ClassId) (sz : Nat) {kd : Nat} (h : kd < 6) : Met l yX11_playerOfKind (Cond.code yX11_playerOfKind cX11_playerOfKind 1 (some (.object "WithEyesBound$Player")) :: ev_tb) { frames := 4, cells := 1, slots := 6, locals := 72 } (cn_Pc dC dI cA [.int (nI kd)] [] sz) (cn_Q dC dI [] sz (fun v w1 => ∃ q, v = some (.ref q) ∧ w1 = [(q, .inr (ev_kc kd, [.int 0, .int (-1), .int 0, .int 0, .int 0, .int 0]))])) 1 6 (va_A [] sz) := by
  rcases (show kd = 0 ∨ kd = 1 ∨ kd = 2 ∨ kd = 3 ∨ kd = 4 ∨ kd = 5 by omega) with rfl | rfl | rfl | rfl | rfl | rfl
  · exact c_kind_0 l dC dI cA sz
  · exact c_kind_1 l dC dI cA sz
  · exact c_kind_2 l dC dI cA sz
  · exact c_kind_3 l dC dI cA sz
  · exact c_kind_4 l dC dI cA sz
  · exact c_kind_5 l dC dI cA sz
theorem ls_set (w : va_W) (x y : Nat × va_E) : (w ++ [x]).set w.length y = w ++ [y] := by
  induction w with
  | nil => rfl
  | cons a t ih => exact congrArg (a :: ·) ih
theorem ls_at (w : va_W) (x : Nat × va_E) : (w ++ [x])[w.length]? = some x := by
  rw [List.getElem?_append_right (Nat.le_refl _), Nat.sub_self]; rfl
section PLR
variable {p : Program} {l : Launch} {e : Env} {R : Room} {s : State} {m : MethodId} {args : Array Value} {below : List Frame} {meth : Method} {c : Code} {Q : State → Prop} {cc : ByteArray} {cA : Nat → ClassId} {dC : Nat → ClassId} {dI : Nat → Nat → Nat} {A : Nat → Prop} {H : Heap} {locs : List Loc} {cells slots : Nat} {ws : va_W} {pc : Nat} {ls : Array Slot} {rest : List Value}
/-- a number is put into a player just made -/
theorem pl_put (hx : p.tables.exec = Jvm.exec) (hb : c.code = cc) (hts : ∀ w ∈ ev_tb, w.before args s = true) (hown : s.vm.findClass RX11 = some m.cls) (hK : va_K (dC, dI) vwCl (ev_ty cA) s) {q kd : Nat} (hk : kd < 6) {fs : List Value} (hP : va_P (dC, dI) vwCl (ws ++ [(q, .inr (ev_kc kd, fs))]) H) (hD : va_D A (ws ++ [(q, .inr (ev_kc kd, fs))])) (hS : va_S A s.heap H locs) {index k i : Nat} (h6 : k < 6) (hlk : lw_tbl[i]? = some (.fieldLink RX11 index "WithEyesBound$Player" (TX6 k).2.1 "I") ∧ goodWord (.fieldLink RX11 index "WithEyesBound$Player" (TX6 k).2.1 "I") = true) (hl : fs.length = 6) {v : Int32} (hd : decode cc pc = .ok (.putfield index, 3))
    (kk : ∀ (H1 : Heap) (locs1 : List Loc), va_P (dC, dI) vwCl (ws ++ [(q, .inr (ev_kc kd, fs.set k (.int v)))]) H1 → va_D A (ws ++ [(q, .inr (ev_kc kd, fs.set k (.int v)))]) → va_S A s.heap H1 locs1 → W p l e R s m args below meth c H1 locs1 cells slots Q (F0 m (pc + 3) ls rest)) : W p l e R s m args below meth c H locs cells slots Q (F0 m pc ls (.int v :: .ref q :: rest)) := by
  obtain ⟨C, hc, -⟩ := kc_lay hk
  have hT : ∀ k, k < 6 → (TX6 k).1 = "WithEyesBound$Player" ∧ (TX6 k).2.2.1 = "I" ∧ (TX6 k).2.2.2 = false := by decide
  obtain ⟨t1, t2, t3⟩ := hT k h6
  have hw : Cond.fieldLink RX11 index "WithEyesBound$Player" (TX6 k).2.1 "I" ∈ ev_tb := List.mem_filter.mpr ⟨List.mem_of_getElem? hlk.1, hlk.2⟩
  refine va_put (D := (dC, dI)) (v := .int v) (ty := .int) (ref := "WithEyesBound$Player") hx hb hts (ev_lay _ (List.mem_of_getElem? hc)) tyX6 tyX6_ok nmX6 hown hK hP hD hS ws.length (ls_at ws _) hc k h6 (by rw [t2]; exact hts _ hw) (fun _ h9 => by rw [t1] at h9; exact h9) t3 (by rw [t2]; decide +kernel) rfl rfl (by rw [hl]; exact h6) hd (fun H1 locs1 hP1 hD1 hS1 => ?_)
  rw [ls_set] at hP1 hD1
  exact kk H1 locs1 hP1 hD1 hS1
end PLR
