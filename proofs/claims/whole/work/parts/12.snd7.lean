/-! ===== a method's run in the abstract machine; the whole soundness ===== -/
def ev_M (mt : List ev_MI) : Nat → Nat → List Value → ev_H → ev_Z → Prop
  | 0, _, _, _, _ => False
  | d + 1, k, as, h, z => ∃ (o : String) (y : MethodName) (cc : ByteArray) (nL : Nat) (rt : Option FieldType) (I : List ev_E) (PM : List Nat), mt[k]? = some (o, y, cc, nL, rt, I, PM) ∧ (ev_sl as).length ≤ nL ∧ ∃ n, ev_R (ev_M mt d) rt I n (0, ev_ent nL as, [], h) z
theorem ev_n1 {e : ev_E} {ls : ev_L} {st : List Value} {h : ev_H} {z : ev_Z} : ev_o1 e ls st h ≠ some (.inr z) := by
  intro q
  unfold ev_o1 at q
  repeat' split at q
  all_goals first | cases q | (simp [ev_j] at q; done)
theorem ev_n2 {e : ev_E} {ls : ev_L} {st : List Value} {h : ev_H} {z : ev_Z} : ev_o2 e ls st h ≠ some (.inr z) := by
  intro q
  unfold ev_o2 at q
  repeat' split at q
  all_goals first | cases q | (simp [ev_j] at q; done)
theorem ev_n3 {e : ev_E} {ls : ev_L} {st : List Value} {h : ev_H} {z : ev_Z} : ev_o3 e ls st h ≠ some (.inr z) := by
  intro q
  unfold ev_o3 at q
  repeat' split at q
  all_goals first | cases q | (simp [ev_j] at q; done)
theorem ev_n4 {e : ev_E} {ls : ev_L} {st : List Value} {h : ev_H} {z : ev_Z} : ev_o4 e ls st h ≠ some (.inr z) := by
  intro q
  unfold ev_o4 at q
  repeat' split at q
  all_goals first | cases q | (simp [ev_j] at q; done)
theorem ev_one_of {rt : Option FieldType} {e : ev_E} {ls : ev_L} {st : List Value} {h : ev_H} {r : ev_S ⊕ ev_Z} (q : ev_one rt e ls st h = some r) : ev_o1 e ls st h = some r ∨ ev_o2 e ls st h = some r ∨ ev_o3 e ls st h = some r ∨ ev_o4 e ls st h = some r ∨ ev_o5 rt e ls st h = some r := by
  unfold ev_one at q
  split at q
  all_goals first | exact Or.inl q | exact Or.inr (Or.inl q) | exact Or.inr (Or.inr (Or.inl q)) | exact Or.inr (Or.inr (Or.inr (Or.inl q))) | exact Or.inr (Or.inr (Or.inr (Or.inr q)))
theorem ev_find_in : ∀ {I : List ev_E} {pc : Nat} {e : ev_E}, ev_find I pc = some e → e ∈ I ∧ e.1 = pc
  | [], _, _, h => by cases h
  | a :: r, pc, e, h => by
    unfold ev_find at h
    split at h
    · rename_i hp
      cases h
      exact ⟨List.mem_cons_self, hp⟩
    · exact ⟨List.mem_cons_of_mem _ (ev_find_in h).1, (ev_find_in h).2⟩
section EVS
variable {p : Program} {l : Launch} {e : Env} {s : State} {m : MethodId} {args : Array Value} {below : List Frame} {meth : Method} {c : Code} {own : String} {cc : ByteArray} {nL : Nat} {ρ : Nat → Nat} {cA : Nat → ClassId} {dC : Nat → ClassId} {dI : Nat → Nat → Nat} {A : Nat → Prop} {mt : List ev_MI}
theorem ev_sndN {d : Nat} (F : ev_Fx p s m args c own cc nL ρ cA dC dI A) {rt : Option FieldType} (hr : meth.sig.returnType = rt) (hlocks : meth.locks = false) {h0 : ev_H} (hAe : va_A (ev_cw ρ cA 0 h0) s.heap.size = A) {I : List ev_E} (hI : ∀ en ∈ I, ev_ok mt own cc en = true)
    (ih : ∀ k as h z, ev_M mt d k as h z → ∀ (o : String) (y : MethodName) (cY : ByteArray) (nY : Nat) (rY : Option FieldType) (I : List ev_E) (PM : List Nat), mt[k]? = some (o, y, cY, nY, rY, I, PM) → ∀ sz, Met l y (Cond.code y cY nY rY :: ev_tb) (ev_rm d) (ev_Pc ρ cA dC dI as h sz) (ev_Qc ρ cA dC dI h sz z) 0 0 (va_A (ev_cw ρ cA 0 h) sz)) :
    ∀ (n : Nat) (t : ev_S) (z : ev_Z), ev_R (ev_M mt d) rt I n t z → ev_Wc p l e (ev_rm (d + 1)) s m args below meth c (MQ below (ev_Qc ρ cA dC dI h0 s.heap.size z) args s 0 0 A) nL ρ cA dC dI A t
  | 0, t, z, h => by cases h
  | n + 1, (pc, ls, st, h), z, hrun => by
    obtain ⟨en, hf, hcase⟩ := hrun
    obtain ⟨hin, hpc⟩ := ev_find_in hf
    subst hpc
    have hok := hI en hin
    rcases hcase with ⟨t', h1, h2⟩ | h1 | ⟨k, as, rest, z', h1, h2, h3⟩
    · have hnext := ev_sndN F hr hlocks hAe hI ih n t' z h2
      rcases ev_one_of h1 with q | q | q | q | q
      · exact ev_snd1 F hok q hnext
      · exact ev_snd2 F hok q hnext
      · exact ev_snd3 F hok q hnext
      · exact ev_snd4 F hok q hnext
      · exact ev_snd5 F ⟨by unfold ev_rm; exact Nat.succ_le_succ (Nat.zero_le _), by unfold ev_rm; dsimp only; omega⟩ hok q hnext
    · rcases ev_one_of h1 with q | q | q | q | q
      · exact absurd q ev_n1
      · exact absurd q ev_n2
      · exact absurd q ev_n3
      · exact absurd q ev_n4
      · exact ev_sndR F hr hlocks hAe hok q
    · exact ev_sndC F hok h1 (fun o y cY nY rY I PM hmi sz => ih k as h z' h2 o y cY nY rY I PM hmi sz) (ev_sndN F hr hlocks hAe hI ih n _ z h3)
theorem ev_sound (hmt : mt.all (ev_okM mt) = true) (l : Launch) (ρ : Nat → Nat) (cA : Nat → ClassId) (dC : Nat → ClassId) (dI : Nat → Nat → Nat) : ∀ (d k : Nat) (as : List Value) (h : ev_H) (z : ev_Z), ev_M mt d k as h z → ∀ (o : String) (y : MethodName) (cY : ByteArray) (nY : Nat) (rY : Option FieldType) (I : List ev_E) (PM : List Nat), mt[k]? = some (o, y, cY, nY, rY, I, PM) → ∀ sz, Met l y (Cond.code y cY nY rY :: ev_tb) (ev_rm d) (ev_Pc ρ cA dC dI as h sz) (ev_Qc ρ cA dC dI h sz z) 0 0 (va_A (ev_cw ρ cA 0 h) sz)
  | 0, k, as, h, z, hm => by cases hm
  | d + 1, k, as, h, z, hm => by
    intro o y cY nY rY I PM hmi sz
    obtain ⟨o', y', cY', nY', rY', I', PM', hmi', hlen, n, hrun⟩ := hm
    rw [hmi] at hmi'
    cases hmi'
    have hq := List.all_eq_true.mp hmt _ (List.mem_of_getElem? hmi)
    simp only [ev_okM, Bool.and_eq_true, decide_eq_true_eq] at hq
    obtain ⟨hyo, hcode, hplain, hI⟩ := hq
    refine Met.ofW (cc := cY) (maxL := nY) (ret := rY) hplain rfl ?_
    intro p e s m args below meth c s₁ B hml hv
    obtain ⟨rfl, hsz, hP, hK, hD0, hG⟩ := hv
    subst hsz
    have hts := atoms_spec (ws := Cond.code y cY nY rY :: ev_tb) B.pre
    have hown : s.vm.findClass o = some m.cls := by rw [← hyo]; exact findClass_of_methodNamed B.named
    have hD := hD0.self (sz := s.heap.size)
    have F : ev_Fx p s m (as.map (ev_cv ρ)).toArray c o cY nY ρ cA dC dI (va_A (ev_cw ρ cA 0 h) s.heap.size) := ⟨B.exec, B.bytes, hml, hown, fun w hw => hts w (List.mem_cons_of_mem _ hw), hK, hG, fun q hq => Or.inr hq⟩
    have hl := lv_entry (as.map (ev_cv ρ)) (n := nY) (by rw [ev_sl_len]; exact hlen)
    rw [lg_entry_eq]
    have key := ev_sndN (below := below) (e := e) F B.returns B.notSynchronized rfl (fun en hin => List.all_eq_true.mp hI en hin) (fun k as h z hm => ev_sound hmt l ρ cA dC dI d k as h z hm) n _ z hrun
    exact key s.heap [] _ hP hD va_S.rf (ev_has_mono hl (ev_ent_sub ρ nY as)) (ev_ent_len hlen)
end EVS
