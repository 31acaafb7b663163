/-! ===== THE LAW'S LOOP ===== -/
theorem and63 (x : Int32) : ∃ k, k < 64 ∧ x &&& 63 = nI k := by
  refine ⟨x.toBitVec.toNat % 64, Nat.mod_lt _ (by decide), ?_⟩
  apply Int32.toBitVec_inj.mp
  rw [Int32.toBitVec_and]
  apply BitVec.eq_of_toNat_eq
  rw [BitVec.toNat_and]
  have h1 : (63 : Int32).toBitVec.toNat = 2 ^ 6 - 1 := rfl
  rw [h1, Nat.and_two_pow_sub_one_eq_mod]
  show _ = (BitVec.ofInt 32 ((x.toBitVec.toNat % 64 : Nat) : Int)).toNat
  rw [BitVec.toNat_ofInt]
  have := Nat.mod_lt x.toBitVec.toNat (show 0 < 64 by decide)
  omega
theorem lp_in {L N : Nat} (hL : L ≤ 3584) (hN : N ≤ 512) (h : ¬ nI L - nI 7 < nI (7 * N)) : 7 * N + 7 ≤ L := by
  by_cases h7 : L < 7
  · exfalso
    apply h
    have h0 : nI L - nI 7 < 0 := by
      rcases (show L = 0 ∨ L = 1 ∨ L = 2 ∨ L = 3 ∨ L = 4 ∨ L = 5 ∨ L = 6 by omega) with rfl | rfl | rfl | rfl | rfl | rfl | rfl <;> decide
    exact Int32.lt_of_lt_of_le h0 (nI_pos' (by omega))
  · have e : nI L - nI 7 = nI (L - 7) := by
      rw [show nI L = nI (L - 7) + nI 7 from by rw [nI_add, Nat.sub_add_cancel (by omega)], Int32.add_sub_cancel]
    rw [e, nI_ltI (by omega) (by omega)] at h
    omega
section LAW
variable {p : Program} {l : Launch} {e : Env} {s : State} {m : MethodId} {below : List Frame} {meth : Method} {c : Code} {b L : Nat} {xs : Nat → Int32} {cA : Nat → ClassId} {dC : Nat → ClassId} {dI : Nat → Nat → Nat}
variable {N : Nat} {σ : SX} {μ : SM} {ρX ρM : Nat → Nat} {H : Heap} {locs : List Loc} {ls : Array Slot}
theorem lc_all (C0 : lw_At p s m meth c b L xs) (hL : L ≤ 3584) (hi : 7 * N + 7 ≤ L) (hK : va_K (dC, dI) vwCl (ev_ty cA) s) (hC : cn_G s) (ih : lw_In p l e s m below meth c b cA dC dI (N + 1)) (hR : Rel N σ μ) (hP : va_P (dC, dI) vwCl (ev_cw ρX cA 0 (hX σ) ++ ev_cw ρM cA 0 (hM μ)) H) (hD : va_D (lwA s) (ev_cw ρX cA 0 (hX σ) ++ ev_cw ρM cA 0 (hM μ))) (hS : va_S (lwA s) s.heap H locs) (hGX : ev_G ρX (lwA s) s s.heap) (hGM : ev_G ρM (lwA s) s s.heap) (hl : lv_has ls 4 [(0, .ref b), (1, .ref (ρX 0)), (2, .ref (ρM 0)), (3, .int (nI (7 * N)))]) (k : Nat) (hk : k < 64) : W p l e room_1 s m #[Value.ref b] below meth c H locs (100 + N) (4000 + 6 * N) (lw_Z below #[Value.ref b] s) (F0 m 33 ls [.int (nI k)]) := by
  obtain ⟨hx, hb, hr, hml, hown, hts, hX', hbl, hlocks, hgv⟩ := id C0
  match k, hk with
  | 0, _ => exact lv_tableIn (tgt := 180) (off := 147) hx hb d_law_33 (by decide) (by decide) (by decide) (by decide) (lc_letters C0 hL hi hK ih hR hP hD hS hGX hGM hl)
  | 1, _ => exact lv_tableIn (tgt := 233) (off := 200) hx hb d_law_33 (by decide) (by decide) (by decide) (by decide) (lc_blank C0 hL hi hK ih hR hP hD hS hGX hGM hl)
  | 2, _ => exact lv_tableIn (tgt := 246) (off := 213) hx hb d_law_33 (by decide) (by decide) (by decide) (by decide) (lc_fault C0 hL hi hK ih hR hP hD hS hGX hGM hl)
  | 3, _ => exact lv_tableIn (tgt := 259) (off := 226) hx hb d_law_33 (by decide) (by decide) (by decide) (by decide) (lc_ring C0 hL hi hK ih hR hP hD hS hGX hGM hl)
  | 4, _ => exact lv_tableIn (tgt := 272) (off := 239) hx hb d_law_33 (by decide) (by decide) (by decide) (by decide) (lc_cell C0 hL hi hK ih hR hP hD hS hGX hGM hl)
  | 5, _ => exact lv_tableIn (tgt := 295) (off := 262) hx hb d_law_33 (by decide) (by decide) (by decide) (by decide) (lc_set C0 hL hi hK ih hR hP hD hS hGX hGM hl)
  | 6, _ => exact lv_tableIn (tgt := 328) (off := 295) hx hb d_law_33 (by decide) (by decide) (by decide) (by decide) (lc_lost C0 hL hi hK ih hR hP hD hS hGX hGM hl)
  | 7, _ => exact lv_tableIn (tgt := 341) (off := 308) hx hb d_law_33 (by decide) (by decide) (by decide) (by decide) (lc_turned C0 hL hi hK ih hR hP hD hS hGX hGM hl)
  | 8, _ => exact lv_tableIn (tgt := 364) (off := 331) hx hb d_law_33 (by decide) (by decide) (by decide) (by decide) (lc_step C0 hL hi hK ih hR hP hD hS hGX hGM hl)
  | 9, _ => exact lv_tableIn (tgt := 397) (off := 364) hx hb d_law_33 (by decide) (by decide) (by decide) (by decide) (lc_heard C0 hL hi hK ih hR hP hD hS hGX hGM hl)
  | 10, _ => exact lv_tableIn (tgt := 440) (off := 407) hx hb d_law_33 (by decide) (by decide) (by decide) (by decide) (lc_odds C0 hL hi hK ih hR hP hD hS hGX hGM hl)
  | 11, _ => exact lv_tableIn (tgt := 474) (off := 441) hx hb d_law_33 (by decide) (by decide) (by decide) (by decide) (lc_ways C0 hL hi hK ih hR hP hD hS hGX hGM hl)
  | 12, _ => exact lv_tableIn (tgt := 508) (off := 475) hx hb d_law_33 (by decide) (by decide) (by decide) (by decide) (lc_likeliest C0 hL hi hK ih hR hP hD hS hGX hGM hl)
  | 13, _ => exact lv_tableIn (tgt := 521) (off := 488) hx hb d_law_33 (by decide) (by decide) (by decide) (by decide) (lc_knows C0 hL hi hK ih hR hP hD hS hGX hGM hl)
  | 14, _ => exact lv_tableIn (tgt := 545) (off := 512) hx hb d_law_33 (by decide) (by decide) (by decide) (by decide) (lc_expected C0 hL hi hK ih hR hP hD hS hGX hGM hl)
  | 15, _ => exact lv_tableIn (tgt := 609) (off := 576) hx hb d_law_33 (by decide) (by decide) (by decide) (by decide) (lc_next C0 hL hi hK ih hR hP hD hS hGX hGM hl)
  | 16, _ => exact lv_tableIn (tgt := 652) (off := 619) hx hb d_law_33 (by decide) (by decide) (by decide) (by decide) (lc_post C0 hL hi hK ih hR hP hD hS hGX hGM hl)
  | 17, _ => exact lv_tableIn (tgt := 696) (off := 663) hx hb d_law_33 (by decide) (by decide) (by decide) (by decide) (lc_player C0 hL hi hK hC ih hR hP hD hS hGX hGM hl)
  | 18, _ => exact lv_tableIn (tgt := 759) (off := 726) hx hb d_law_33 (by decide) (by decide) (by decide) (by decide) (lc_as C0 hL hi hK ih hR hP hD hS hGX hGM hl)
  | 19, _ => exact lv_tableIn (tgt := 792) (off := 759) hx hb d_law_33 (by decide) (by decide) (by decide) (by decide) (lc_about C0 hL hi hK ih hR hP hD hS hGX hGM hl)
  | 20, _ => exact lv_tableIn (tgt := 825) (off := 792) hx hb d_law_33 (by decide) (by decide) (by decide) (by decide) (lc_move C0 hL hi hK ih hR hP hD hS hGX hGM hl)
  | 21, _ => exact lv_tableIn (tgt := 858) (off := 825) hx hb d_law_33 (by decide) (by decide) (by decide) (by decide) (lc_game C0 hL hi hK ih hR hP hD hS hGX hGM hl)
  | 22, _ => exact lv_tableIn (tgt := 933) (off := 900) hx hb d_law_33 (by decide) (by decide) (by decide) (by decide) (lc_lasts C0 hL hi hK ih hR hP hD hS hGX hGM hl)
  | 23, _ => exact lv_tableIn (tgt := 996) (off := 963) hx hb d_law_33 (by decide) (by decide) (by decide) (by decide) (lc_stand C0 hL hi hK ih hR hP hD hS hGX hGM hl)
  | 24, _ => exact lv_tableIn (tgt := 1071) (off := 1038) hx hb d_law_33 (by decide) (by decide) (by decide) (by decide) (lc_feels C0 hL hi hK ih hR hP hD hS hGX hGM hl)
  | 25, _ => exact lv_tableIn (tgt := 1114) (off := 1081) hx hb d_law_33 (by decide) (by decide) (by decide) (by decide) (lc_jackets C0 hL hi hK ih hR hP hD hS hGX hGM hl)
  | 26, _ => exact lv_tableIn (tgt := 1157) (off := 1124) hx hb d_law_33 (by decide) (by decide) (by decide) (by decide) (lc_named C0 hL hi hK ih hR hP hD hS hGX hGM hl)
  | 27, _ => exact lv_tableIn (tgt := 1220) (off := 1187) hx hb d_law_33 (by decide) (by decide) (by decide) (by decide) (lc_says C0 hL hi hK ih hR hP hD hS hGX hGM hl)
  | 28, _ => exact lv_tableIn (tgt := 1263) (off := 1230) hx hb d_law_33 (by decide) (by decide) (by decide) (by decide) (lc_when C0 hL hi hK ih hR hP hD hS hGX hGM hl)
  | 29, _ => exact lv_tableIn (tgt := 1326) (off := 1293) hx hb d_law_33 (by decide) (by decide) (by decide) (by decide) (lc_image C0 hL hi hK ih hR hP hD hS hGX hGM hl)
  | 30, _ => exact lv_tableIn (tgt := 1339) (off := 1306) hx hb d_law_33 (by decide) (by decide) (by decide) (by decide) (lc_restore C0 hL hi hK ih hR hP hD hS hGX hGM hl)
  | 31, _ => exact lv_tableIn (tgt := 1352) (off := 1319) hx hb d_law_33 (by decide) (by decide) (by decide) (by decide) (lc_count C0 hL hi hK ih hR hP hD hS hGX hGM hl)
  | 32, _ => exact lv_tableIn (tgt := 1375) (off := 1342) hx hb d_law_33 (by decide) (by decide) (by decide) (by decide) (lc_digest C0 hL hi hK ih hR hP hD hS hGX hGM hl)
  | k + 33, hk =>
    refine lv_tableOut (tgt := 1389) hx hb d_law_33 (Or.inr ?_) (by decide) ?_
    · rw [nI_toInt (by omega)]; omega
    · exact lc_end C0 (by omega) ih (hR.mono (Nat.le_succ N)) hP hD hS hGX hGM hl (by omega) (by omega)
theorem lw_loop (C0 : lw_At p s m meth c b L xs) (hL : L ≤ 3584) (hK : va_K (dC, dI) vwCl (ev_ty cA) s) (hC : cn_G s) : ∀ (k N : Nat), N + k = 512 → lw_In p l e s m below meth c b cA dC dI N := by
  obtain ⟨hx, hb, hr, hml, hown, hts, hX', hbl, hlocks, hgv⟩ := id C0
  have step : ∀ N, N ≤ 512 → (7 * N + 7 ≤ L → lw_In p l e s m below meth c b cA dC dI (N + 1)) → lw_In p l e s m below meth c b cA dC dI N := by
    intro N hN ih σ μ ρX ρM H locs ls hR hP hD hS hGX hGM hl
    refine lv_iload_n hx hb d_law_18 rfl (lv_at hl 3 rfl) ?_
    refine lv_aload_n hx hb d_law_19 rfl (lv_at hl 0 rfl) ?_
    refine va_slen hx hb hX' hbl (Nat.not_le.mpr hbl) hS d_law_20 ?_
    refine lv_bipush (v := nI 7) hx hb d_law_21 rfl ?_
    refine lv_isub hx hb d_law_23 ?_
    refine lv_icmp_gt (tgt := 1395) hx hb d_law_24 (by decide) (fun _ => ?_) (fun hin => ?_)
    · refine lv_iconst (v := 1) hx hb d_law_1395 rfl ?_
      refine va_forget (fun q hq => hS.2.2 q hq) ?_
      refine W.widen (k := 600000) (n := 7302250) (by omega) (by omega) ?_
      exact lw_ret hx hb hr hlocks d_law_1396
    · have hi := lp_in hL hN hin
      refine lv_aload_n hx hb d_law_27 rfl (lv_at hl 0 rfl) ?_
      refine lv_iload_n hx hb d_law_28 rfl (lv_at hl 3 rfl) ?_
      refine va_sld hx hb hX' hbl (Nat.not_le.mpr hbl) hS (vp_in_nI (show 7 * N < L by omega) (by omega)) d_law_29 ?_
      refine lv_bipush (v := 63) hx hb d_law_30 rfl ?_
      refine lv_iand hx hb d_law_32 ?_
      obtain ⟨k, hk, ek⟩ := and63 (xs (nI (7 * N)).toNatClampNeg)
      rw [ek]
      exact lc_all C0 hL hi hK hC (ih hi) hR hP hD hS hGX hGM hl k hk
  intro k
  induction k with
  | zero => exact fun N h => step N (by omega) (fun hi => absurd hi (by omega))
  | succ k ih => exact fun N h => step N (by omega) (fun _ => ih (N + 1) (by omega))
end LAW
