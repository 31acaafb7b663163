/-! ===== reading the page: the reference, and both together ===== -/
def fS (ch : Nat) (q : RdS) (f : Nat → Int32) : Nat → Int32 := match srt ch with
  | some s => upd f (q.1 * q.2.2.1 + q.2.1) (nI s)
  | none => f
theorem nI_add0 (n : Nat) : nI n + (0 : Int32) = nI n := nI_add n 0
theorem cm_1 (ν : SM) (f : Nat → Int32) (v : Int32) : sm_rp_newColumns (sm_rp_newCell ν f) v = sm_rp_newCell (sm_rp_newColumns ν v) f := rfl
theorem cm_2 (ν : SM) (a v : Int32) : sm_rp_newColumns (sm_rp_newRows ν a) v = sm_rp_newRows (sm_rp_newColumns ν v) a := rfl
theorem cm_3 (ν : SM) (a v : Int32) : sm_rp_newColumns (sm_rp_newColumns ν a) v = sm_rp_newColumns ν v := rfl
theorem cm_4 (ν : SM) (f : Nat → Int32) (v : Int32) : sm_rp_newRows (sm_rp_newCell ν f) v = sm_rp_newCell (sm_rp_newRows ν v) f := rfl
theorem cm_5 (ν : SM) (a v : Int32) : sm_rp_newRows (sm_rp_newRows ν a) v = sm_rp_newRows ν v := rfl
theorem cm_6 (ν : SM) (f g : Nat → Int32) : sm_rp_newCell (sm_rp_newCell ν f) g = sm_rp_newCell ν g := rfl
theorem mS_row (μ : SM) (r c wd : Nat) (ce : Nat → Nat) (f : Nat → Int32) : sm_rp_newRows (sm_rp_newColumns (mS μ (r, c, wd, ce) f) (nI c)) (nI (r + 1)) = mS μ (r + 1, 0, c, ce) f := by
  unfold mS
  rw [cm_1, cm_2, cm_3, cm_4, cm_5]
theorem mS_cell (μ : SM) (r c c' wd : Nat) (ce ce' : Nat → Nat) (f g : Nat → Int32) : sm_rp_newCell (mS μ (r, c, wd, ce) f) g = mS μ (r, c', wd, ce') g := by
  unfold mS
  rw [cm_6]
theorem m_one {μ : SM} {k : SM → Int32 → Int32 → Int32 → Option SM} {L i ch : Nat} {q : RdS} {f : Nat → Int32} (hI : rdI q) (hL : gm_pg_pageLength μ = nI L) (hi : i < L) (h45 : L ≤ 45) (hc : ch < 127) (hs : gm_pg_page μ i = nI ch) :
    fX12_readPage_b16 k (mS μ q f) (nI q.2.1) (nI i) 1 = match stp ch q with
      | some q' => k (mS μ q' (fS ch q f)) (nI q'.2.1) (nI (i + 1)) 1
      | none => k (mS μ q f) (nI q.2.1) (nI i) 0 := by
  have h36 := fun z => rd_36 hI z
  obtain ⟨r, c, wd, ce⟩ := q
  obtain ⟨h1, h2, h3, h4, h5, h6⟩ := hI
  simp only at h1 h2 h3 h4 h5 h6 h36
  have a1 : gm_pg_pageLength (mS μ (r, c, wd, ce) f) = nI L := by unfold mS; rw [pm_pg_pageLength_rp_newCell, pm_pg_pageLength_rp_newRows, pm_pg_pageLength_rp_newColumns]; exact hL
  have a2 : gm_pg_page (mS μ (r, c, wd, ce) f) i = nI ch := by unfold mS; rw [pm_pg_page_rp_newCell, pm_pg_page_rp_newRows, pm_pg_page_rp_newColumns]; exact hs
  have a3 : gm_rp_newRows (mS μ (r, c, wd, ce) f) = nI r := by unfold mS; rw [pm_rp_newRows_rp_newCell, pm_rp_newRows_rp_newRows]
  have a5 : gm_rp_newColumns (mS μ (r, c, wd, ce) f) = nI wd := by unfold mS; rw [pm_rp_newColumns_rp_newCell, pm_rp_newColumns_rp_newRows, pm_rp_newColumns_rp_newColumns]
  have a6 : gm_rp_newCell (mS μ (r, c, wd, ce) f) = f := by unfold mS; rw [pm_rp_newCell_rp_newCell]
  unfold fX12_readPage_b16 fX12_readPage_b55 fX12_readPage_b93 fX12_readPage_b135 fX12_readPage_b155 fX12_readPage_b157 fX12_readPage_b167
  simp only []
  rw [a1, if_pos (ltE i L hi (by omega)), if_neg (by decide), if_pos (inb (show i < 45 by omega) (by omega)), cl_nI (by omega), a2, a3, a5, a6, m_idx ch hc, bindS, nI_add0]
  simp only [if_true, if_neg (show ¬ (1 : Int32) = 0 by decide), if_pos (inbN (show i < 45 by omega) (show i < 2 ^ 31 by omega))]
  by_cases e : ch = 47
  · subst e
    rw [show srt 47 = none from rfl, show stp 47 (r, c, wd, ce) = if 47 = 47 ∧ r < 5 ∧ (if r = 0 then 2 ≤ c else c = wd) then some (r + 1, 0, c, ce) else none from rfl, show fS 47 (r, c, wd, ce) f = f from rfl, show oI none = -1 from rfl]
    simp only [if_true, if_pos (show nI 47 = 47 from rfl), nI_lit1, ite_self, mS_row]
    by_cases r5 : r < 5
    · rw [if_pos (show nI r < (5 : Int32) from ltE r 5 r5 (by omega))]
      by_cases r0 : r = 0
      · subst r0
        rw [if_pos (show nI 0 = 0 from rfl)]
        by_cases c2 : 2 ≤ c
        · rw [if_pos (show (1 : Int32) < nI c from ltE 1 c (by omega) (by omega)), if_pos ⟨trivial, r5, by rw [if_pos rfl]; exact c2⟩]
          rfl
        · rw [if_neg (show ¬ (1 : Int32) < nI c from nltE 1 c (by omega) (by omega)), if_neg (fun z => c2 (by have := z.2.2; rwa [if_pos rfl] at this))]
      · rw [if_neg (show ¬ nI r = 0 from neE r 0 r0 (by omega) (by decide))]
        by_cases cw : c = wd
        · rw [if_pos (by rw [cw]), if_pos ⟨trivial, r5, by rw [if_neg r0]; exact cw⟩]
          rfl
        · rw [if_neg (neE c wd cw (by omega) (by omega)), if_neg (fun z => cw (by have := z.2.2; rwa [if_neg r0] at this))]
    · rw [if_neg (show ¬ nI r < (5 : Int32) from nltE r 5 (by omega) (by omega)), if_neg (fun z => r5 z.2.1)]
  · simp only [if_neg (show ¬ nI ch = (47 : Int32) from neE ch 47 e (by omega) (by omega))]
    unfold stp fS
    cases hq : srt ch with
    | none =>
      simp only [if_pos (show oI none = -1 from rfl), ite_self]
      rw [if_neg (fun z => e z.1)]
    | some s =>
      simp only [if_neg (oI_m1 (show s < 100 by have := srt_lt hq; omega)), nI_lit1, pk_mul, nI_add]
      by_cases r0 : r = 0
      · subst r0
        rw [if_pos (show nI 0 = 0 from rfl), if_pos rfl] at *
        by_cases c6 : c < 6
        · have := h36 c6
          rw [if_pos (show nI c < (6 : Int32) from ltE c 6 c6 (by omega)), if_pos c6, if_pos (inb (show 0 * wd + c < 36 by omega) (by omega)), cl_nI (by omega), mS_cell μ _ _ (c + 1) _ _ (updN' ce (0 * wd + c) s)]
          rfl
        · rw [if_neg (show ¬ nI c < (6 : Int32) from nltE c 6 (by omega) (by omega)), if_neg c6]
      · rw [if_neg r0] at h36
        rw [if_neg (show ¬ nI r = 0 from neE r 0 r0 (by omega) (by decide)), if_neg r0]
        by_cases c6 : c < wd
        · have := h36 c6
          rw [if_pos (ltE c wd c6 (by omega)), if_pos c6, if_pos (inb (show r * wd + c < 36 by omega) (by omega)), cl_nI (by omega), mS_cell μ _ _ (c + 1) _ _ (updN' ce (r * wd + c) s)]
          rfl
        · rw [if_neg (nltE c wd (by omega) (by omega)), if_neg c6]
