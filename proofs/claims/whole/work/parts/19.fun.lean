/-! ===== THE METHODS AS FUNCTIONS (by program) ===== -/
def fX0_kind (σ : SX) (v0 : Nat) : Option (Int32) :=
  some ((5 : Int32))
def fX7_apart_b70 (σ : SX) (w0 : Int32) (w1 : Int32) : Option (Int32) :=
  some ((w1 + w0))
def fX7_apart_b57 (σ : SX) (v5 : Int32) (w0 : Int32) : Option (Int32) :=
  (if v5 < 0 then
    fX7_apart_b70 σ (-v5) w0
  else
    fX7_apart_b70 σ v5 w0)
def fX7_apart_b22 (σ : SX) : Option (Int32) :=
  some ((0 : Int32))
def fX7_apart (σ : SX) (v1 : Int32) (v2 : Int32) (v3 : Int32) : Option (Int32) :=
  (if v1 < 0 then
    fX7_apart_b22 σ
  else
    (if v1 < (36 : Int32) then
      (if v1 < (36 : Int32) then
        (if ¬ (v1 < 0 ∨ 36 ≤ v1.toNatClampNeg) then
          (if ¬ (v1 < 0 ∨ 36 ≤ v1.toNatClampNeg) then
            (if (((gx_rg_rows σ) v1.toNatClampNeg) - v2) < 0 then
              fX7_apart_b57 σ (((gx_rg_columns σ) v1.toNatClampNeg) - v3) (-(((gx_rg_rows σ) v1.toNatClampNeg) - v2))
            else
              fX7_apart_b57 σ (((gx_rg_columns σ) v1.toNatClampNeg) - v3) (((gx_rg_rows σ) v1.toNatClampNeg) - v2))
          else none)
        else none)
      else
        fX7_apart_b22 σ)
    else
      fX7_apart_b22 σ))
def fX7_ahead_b31 (σ : SX) (w0 : Int32) : Option (Int32) :=
  some (w0)
def fX7_ahead_b30 (σ : SX) : Option (Int32) :=
  fX7_ahead_b31 σ (-1 : Int32)
def fX7_ahead (σ : SX) (v1 : Int32) (v2 : Int32) : Option (Int32) :=
  (if ((v1 * (4 : Int32)) + (v2 &&& (3 : Int32))) < 0 then
    fX7_ahead_b30 σ
  else
    (if ((v1 * (4 : Int32)) + (v2 &&& (3 : Int32))) < (144 : Int32) then
      (if ¬ (((v1 * (4 : Int32)) + (v2 &&& (3 : Int32))) < 0 ∨ 144 ≤ ((v1 * (4 : Int32)) + (v2 &&& (3 : Int32))).toNatClampNeg) then
        fX7_ahead_b31 σ ((gx_rg_beside σ) ((v1 * (4 : Int32)) + (v2 &&& (3 : Int32))).toNatClampNeg)
      else none)
    else
      fX7_ahead_b30 σ))
def fX7_isFree_b36 (σ : SX) (w0 : Int32) : Option (Int32) :=
  (if w0 = 0 ∨ w0 = 1 then some (w0) else none)
def fX7_isFree_b35 (σ : SX) : Option (Int32) :=
  fX7_isFree_b36 σ (0 : Int32)
def fX7_isFree (σ : SX) (v1 : Int32) : Option (Int32) :=
  (if v1 < 0 then
    fX7_isFree_b35 σ
  else
    (if v1 < (gx_rg_size σ) then
      (if v1 < (36 : Int32) then
        (if ¬ (v1 < 0 ∨ 36 ≤ v1.toNatClampNeg) then
          (if (1 : Int32) < ((gx_rg_kinds σ) v1.toNatClampNeg) then
            fX7_isFree_b35 σ
          else
            fX7_isFree_b36 σ (1 : Int32))
        else none)
      else
        fX7_isFree_b35 σ)
    else
      fX7_isFree_b35 σ))
def fX7_choose_b70 (σ : SX) (k18 : Int32 → Int32 → Int32 → Int32 → Int32 → Int32 → Int32 → Option (Int32)) (v1 : Int32) (v2 : Int32) (v3 : Int32) (v4 : Int32) (v5 : Int32) (v6 : Int32) (v7 : Int32) : Option (Int32) :=
  k18 v1 v2 v3 v4 v5 v6 (v7 + (1 : Int32))
def fX7_choose_b18 (σ : SX) (k18 : Int32 → Int32 → Int32 → Int32 → Int32 → Int32 → Int32 → Option (Int32)) (v1 : Int32) (v2 : Int32) (v3 : Int32) (v4 : Int32) (v5 : Int32) (v6 : Int32) (v7 : Int32) : Option (Int32) :=
  (if v7 < (4 : Int32) then
    ((fX7_ahead σ v1 v7).bind (fun r2 =>
      ((fX7_isFree σ r2).bind (fun r3 =>
        (if r3 = 0 then
          fX7_choose_b70 σ k18 v1 v2 v3 v4 v5 v6 v7
        else
          ((fX7_apart σ r2 v2 v3).bind (fun r4 =>
            (if (v4 * r4) < v6 then
              fX7_choose_b70 σ k18 v1 v2 v3 v4 r2 (v4 * r4) v7
            else
              fX7_choose_b70 σ k18 v1 v2 v3 v4 v5 v6 v7))))))))
  else
    some (v5))
def fX7_choose_l18 (σ : SX) : Nat → Int32 → Int32 → Int32 → Int32 → Int32 → Int32 → Int32 → Option (Int32)
  | 0, _, _, _, _, _, _, _ => none
  | n + 1, v1, v2, v3, v4, v5, v6, v7 => fX7_choose_b18 σ (fX7_choose_l18 σ n) v1 v2 v3 v4 v5 v6 v7
def fX7_choose (σ : SX) (v1 : Int32) (v2 : Int32) (v3 : Int32) (v4 : Int32) : Option (Int32) :=
  ((fX7_apart σ v1 v2 v3).bind (fun r1 =>
    fX7_choose_l18 σ 1000 v1 v2 v3 v4 v1 (v4 * r1) (0 : Int32)))
def fX0_goOn (σ : SX) (v0 : Nat) (v2 : Int32) (v3 : Int32) (v4 : Int32) : Option (SX) :=
  (if gx_pok σ v0 = true then
    (if ¬ ((v4 &&& (3 : Int32)) < 0 ∨ 4 ≤ (v4 &&& (3 : Int32)).toNatClampNeg) then
      (if ¬ ((v4 &&& (3 : Int32)) < 0 ∨ 4 ≤ (v4 &&& (3 : Int32)).toNatClampNeg) then
        ((fX7_choose σ ((gx_pl_at σ) (v0 - 20)) (v2 - (ev_sf 1001 (v4 &&& (3 : Int32)).toNatClampNeg)) (v3 - (ev_sf 1002 (v4 &&& (3 : Int32)).toNatClampNeg)) (1 : Int32)).bind (fun r1 =>
          (if gx_pok σ v0 = true then
            some ((sx_pl_at σ (upd (gx_pl_at σ) (v0 - 20) r1)))
          else none)))
      else none)
    else none)
  else none)
def fX1_kind (σ : SX) (v0 : Nat) : Option (Int32) :=
  some ((3 : Int32))
def fX1_callsFrom (σ : SX) (v0 : Nat) : Option (Int32) :=
  (if gx_pok σ v0 = true then
    some (((gx_pl_at σ) (v0 - 20)))
  else none)
def fX2_kind (σ : SX) (v0 : Nat) : Option (Int32) :=
  some ((4 : Int32))
def fX2_callsFrom (σ : SX) (v0 : Nat) : Option (Int32) :=
  (if gx_pok σ v0 = true then
    some ((((gx_rg_size σ) - (1 : Int32)) - ((gx_pl_at σ) (v0 - 20))))
  else none)
def fX3_changeJackets (σ : SX) (v1 : Int32) (v2 : Int32) (v3 : Int32) : Option (SX) :=
  some ((sx_nm_changed (sx_nm_second (sx_nm_first σ v1) v2) v3))
def fX3_forgetJackets (σ : SX) : Option (SX) :=
  ((fX3_changeJackets σ (-1 : Int32) (-1 : Int32) (0 : Int32)).bind (fun r1 =>
    some (r1)))
def fX3_keep (σ : SX) : Option (SX) :=
  some ((sx_nm_keptChanged (sx_nm_keptSecond (sx_nm_keptFirst σ (gx_nm_first σ)) (gx_nm_second σ)) (gx_nm_changed σ)))
def fX3_takeKept (σ : SX) : Option (SX) :=
  ((fX3_changeJackets σ (gx_nm_keptFirst σ) (gx_nm_keptSecond σ) (gx_nm_keptChanged σ)).bind (fun r1 =>
    some (r1)))
def fX3_sizeWeight_b34 (σ : SX) (w0 : Int32) : Option (Int32) :=
  some (w0)
def fX3_sizeWeight_b26 (σ : SX) : Option (Int32) :=
  fX3_sizeWeight_b34 σ (gx_nm_sizeOff σ)
def fX3_sizeWeight (σ : SX) (v1 : Int32) : Option (Int32) :=
  (if v1 = 0 then
    fX3_sizeWeight_b34 σ ((10 : Int32) - ((2 : Int32) * (gx_nm_sizeOff σ)))
  else
    (if v1 = (1 : Int32) then
      fX3_sizeWeight_b26 σ
    else
      (if v1 = (-1 : Int32) then
        fX3_sizeWeight_b26 σ
      else
        fX3_sizeWeight_b34 σ (0 : Int32))))
def fX3_clothOf_b36 (σ : SX) (w0 : Int32) : Option (Int32) :=
  some (w0)
def fX3_clothOf_b23 (σ : SX) (w0 : Option Nat) : Option (Int32) :=
  (ev_q w0
    (fX3_clothOf_b36 σ (-1 : Int32))
    (fun a1 =>
    (if gx_pok σ a1 = true then
      fX3_clothOf_b36 σ ((gx_pl_cloth σ) (a1 - 20))
    else none)))
def fX3_clothOf_b22 (σ : SX) : Option (Int32) :=
  fX3_clothOf_b23 σ none
def fX3_clothOf (σ : SX) (v1 : Int32) : Option (Int32) :=
  (if v1 < 0 then
    fX3_clothOf_b22 σ
  else
    (if v1 < (6 : Int32) then
      (if ¬ (v1 < 0 ∨ 6 ≤ v1.toNatClampNeg) then
        fX3_clothOf_b23 σ ((gx_pl_arr σ) v1.toNatClampNeg)
      else none)
    else
      fX3_clothOf_b22 σ))
def fX3_likeWeight_b14 (w0 : Int32) : Option (Int32) :=
  some (w0)
def fX3_likeWeight (v0 : Int32) (v1 : Int32) : Option (Int32) :=
  (if v0 = 0 then
    fX3_likeWeight_b14 ((10 : Int32) - v1)
  else
    fX3_likeWeight_b14 ((4 : Int32) * v1))
def fX3_clothWeight_b75 (σ : SX) (v3 : Int32) (w0 : Int32) : Option (Int32) :=
  ((fX3_likeWeight w0 (gx_nm_clothRight σ)).bind (fun r2 =>
    some (((((10 : Int32) - (gx_nm_changed σ)) * v3) + ((gx_nm_changed σ) * r2)))))
def fX3_clothWeight_b64 (σ : SX) (v3 : Int32) (w0 : Int32) (w2 : Int32) : Option (Int32) :=
  ((fX3_clothOf σ w0).bind (fun r3 =>
    (if w2 = r3 then
      fX3_clothWeight_b75 σ v3 (1 : Int32)
    else
      fX3_clothWeight_b75 σ v3 (0 : Int32))))
def fX3_clothWeight_b43 (σ : SX) (v1 : Int32) (v2 : Int32) (v3 : Int32) : Option (Int32) :=
  (if v1 = (gx_nm_first σ) then
    fX3_clothWeight_b64 σ v3 (gx_nm_second σ) v2
  else
    fX3_clothWeight_b64 σ v3 (gx_nm_first σ) v2)
def fX3_clothWeight_b14 (σ : SX) (v1 : Int32) (v2 : Int32) (w0 : Int32) : Option (Int32) :=
  ((fX3_likeWeight w0 (gx_nm_clothRight σ)).bind (fun r4 =>
    (if v1 = (gx_nm_first σ) then
      fX3_clothWeight_b43 σ v1 v2 r4
    else
      (if v1 = (gx_nm_second σ) then
        fX3_clothWeight_b43 σ v1 v2 r4
      else
        some (((10 : Int32) * r4))))))
def fX3_clothWeight (σ : SX) (v1 : Int32) (v2 : Int32) : Option (Int32) :=
  ((fX3_clothOf σ v1).bind (fun r1 =>
    (if v2 = r1 then
      fX3_clothWeight_b14 σ v1 v2 (1 : Int32)
    else
      fX3_clothWeight_b14 σ v1 v2 (0 : Int32))))
def fX3_weigh_b95 (σ : SX) : Option (SX) :=
  some (σ)
def fX3_weigh_b88 (k3 : SX → Int32 → Int32 → Int32 → Int32 → Option (SX)) (σ : SX) (v1 : Int32) (v2 : Int32) (v3 : Int32) (v4 : Int32) (w0 : Int32) (w1 : Int32) : Option (SX) :=
  (if ¬ (w1 < 0 ∨ 6 ≤ w1.toNatClampNeg) then
    k3 (sx_nm_weights σ (upd (gx_nm_weights σ) w1.toNatClampNeg w0)) v1 v2 v3 (v4 + (1 : Int32))
  else none)
def fX3_weigh_b80 (k3 : SX → Int32 → Int32 → Int32 → Int32 → Option (SX)) (σ : SX) (v1 : Int32) (v2 : Int32) (v3 : Int32) (v4 : Int32) (w0 : Int32) (w1 : Int32) (w2 : Int32) : Option (SX) :=
  ((fX3_likeWeight w0 (gx_nm_giggleRight σ)).bind (fun r1 =>
    fX3_weigh_b88 k3 σ v1 v2 v3 v4 (w1 * r1) w2))
def fX3_weigh_b3 (k3 : SX → Int32 → Int32 → Int32 → Int32 → Option (SX)) (σ : SX) (v1 : Int32) (v2 : Int32) (v3 : Int32) (v4 : Int32) : Option (SX) :=
  (if v4 < (6 : Int32) then
    (if v4 < (6 : Int32) then
      (if ¬ (v4 < 0 ∨ 6 ≤ v4.toNatClampNeg) then
        (ev_q ((gx_pl_arr σ) v4.toNatClampNeg)
          (fX3_weigh_b88 k3 σ v1 v2 v3 v4 (0 : Int32) v4)
          (fun a2 =>
          (if gx_pok σ a2 = true then
            ((fX3_sizeWeight σ (v1 - ((gx_pl_size σ) (a2 - 20)))).bind (fun r3 =>
              ((fX3_clothWeight σ v4 v2).bind (fun r4 =>
                (if gx_pok σ a2 = true then
                  (if v3 = ((gx_pl_giggle σ) (a2 - 20)) then
                    fX3_weigh_b80 k3 σ v1 v2 v3 v4 (1 : Int32) (r3 * r4) v4
                  else
                    fX3_weigh_b80 k3 σ v1 v2 v3 v4 (0 : Int32) (r3 * r4) v4)
                else none)))))
          else none)))
      else none)
    else
      fX3_weigh_b95 σ)
  else
    fX3_weigh_b95 σ)
def fX3_weigh_l3 : Nat → SX → Int32 → Int32 → Int32 → Int32 → Option (SX)
  | 0, _, _, _, _, _ => none
  | n + 1, σ, v1, v2, v3, v4 => fX3_weigh_b3 (fX3_weigh_l3 n) σ v1 v2 v3 v4
def fX3_weigh (σ : SX) (v1 : Int32) (v2 : Int32) (v3 : Int32) : Option (SX) :=
  fX3_weigh_l3 1000 σ v1 v2 v3 (0 : Int32)
def fX3_weightOf_b24 (σ : SX) (w0 : Int64) : Option (Int64) :=
  some (w0)
def fX3_weightOf_b23 (σ : SX) : Option (Int64) :=
  fX3_weightOf_b24 σ (0 : Int64)
def fX3_weightOf (σ : SX) (v1 : Int32) : Option (Int64) :=
  (if v1 < 0 then
    fX3_weightOf_b23 σ
  else
    (if v1 < (6 : Int32) then
      (if ¬ (v1 < 0 ∨ 6 ≤ v1.toNatClampNeg) then
        fX3_weightOf_b24 σ (((gx_nm_weights σ) v1.toNatClampNeg).toInt64)
      else none)
    else
      fX3_weightOf_b23 σ))
def fX3_total_b14 (σ : SX) (k14 : Int64 → Int32 → Option (Int64)) (v1 : Int64) (v5 : Int32) : Option (Int64) :=
  (if v5 < (6 : Int32) then
    (if ¬ (v5 < 0 ∨ 6 ≤ v5.toNatClampNeg) then
      k14 (v1 + ((gx_nm_weights σ) v5.toNatClampNeg).toInt64) (v5 + (1 : Int32))
    else none)
  else
    some (v1))
def fX3_total_l14 (σ : SX) : Nat → Int64 → Int32 → Option (Int64)
  | 0, _, _ => none
  | n + 1, v1, v5 => fX3_total_b14 σ (fX3_total_l14 σ n) v1 v5
def fX3_total (σ : SX) : Option (Int64) :=
  fX3_total_l14 σ 1000 (0 : Int64) (0 : Int32)
def fX3_likeliestPlayer_b29 (σ : SX) (k4 : Int32 → Int32 → Option (Int32)) (v1 : Int32) (v2 : Int32) : Option (Int32) :=
  k4 v1 (v2 + (1 : Int32))
def fX3_likeliestPlayer_b4 (σ : SX) (k4 : Int32 → Int32 → Option (Int32)) (v1 : Int32) (v2 : Int32) : Option (Int32) :=
  (if v2 < (6 : Int32) then
    ((fX3_weightOf σ v2).bind (fun r1 =>
      ((fX3_weightOf σ v1).bind (fun r2 =>
        (if r2 < r1 then
          fX3_likeliestPlayer_b29 σ k4 v2 v2
        else
          fX3_likeliestPlayer_b29 σ k4 v1 v2)))))
  else
    some (v1))
def fX3_likeliestPlayer_l4 (σ : SX) : Nat → Int32 → Int32 → Option (Int32)
  | 0, _, _ => none
  | n + 1, v1, v2 => fX3_likeliestPlayer_b4 σ (fX3_likeliestPlayer_l4 σ n) v1 v2
def fX3_likeliestPlayer (σ : SX) : Option (Int32) :=
  fX3_likeliestPlayer_l4 σ 1000 (-1 : Int32) (0 : Int32)
def fX11_mixed (v0 : Int64) (v2 : Int64) : Option (Int64) :=
  some ((((31 : Int64) * v0) + v2))
def fX3_mixInto (σ : SX) (v1 : Int64) : Option (Int64) :=
  ((fX11_mixed v1 ((gx_nm_sizeOff σ).toInt64)).bind (fun r1 =>
    ((fX11_mixed r1 ((gx_nm_clothRight σ).toInt64)).bind (fun r2 =>
      ((fX11_mixed r2 ((gx_nm_giggleRight σ).toInt64)).bind (fun r3 =>
        ((fX11_mixed r3 ((gx_nm_first σ).toInt64)).bind (fun r4 =>
          ((fX11_mixed r4 ((gx_nm_second σ).toInt64)).bind (fun r5 =>
            ((fX11_mixed r5 ((gx_nm_changed σ).toInt64)).bind (fun r6 =>
              some (r6)))))))))))))
def fJ7_fill_w_b6 (k6 : SX → Int64 → Int32 → Option (SX)) (σ : SX) (v1 : Int64) (v3 : Int32) : Option (SX) :=
  (if v3 < (144 : Int32) then
    (if ¬ (v3 < 0 ∨ 144 ≤ v3.toNatClampNeg) then
      k6 (sx_od_weights σ (vp_updL (gx_od_weights σ) v3.toNatClampNeg v1)) v1 (v3 + (1 : Int32))
    else none)
  else
    some (σ))
def fJ7_fill_w_l6 : Nat → SX → Int64 → Int32 → Option (SX)
  | 0, _, _, _ => none
  | n + 1, σ, v1, v3 => fJ7_fill_w_b6 (fJ7_fill_w_l6 n) σ v1 v3
def fJ7_fill_w (σ : SX) (v1 : Int64) : Option (SX) :=
  fJ7_fill_w_l6 1000 σ v1 (0 : Int32)
def fX4_putHim_b34 (σ : SX) : Option (SX) :=
  some ((sx_od_updates σ (0 : Int32)))
def fX4_putHim (σ : SX) (v1 : Int32) (v2 : Int32) : Option (SX) :=
  ((fJ7_fill_w σ (0 : Int64)).bind (fun r1 =>
    (if ((v1 * (4 : Int32)) + v2) < 0 then
      fX4_putHim_b34 r1
    else
      (if ((v1 * (4 : Int32)) + v2) < (144 : Int32) then
        (if ¬ (((v1 * (4 : Int32)) + v2) < 0 ∨ 144 ≤ ((v1 * (4 : Int32)) + v2).toNatClampNeg) then
          fX4_putHim_b34 (sx_od_weights r1 (vp_updL (gx_od_weights r1) ((v1 * (4 : Int32)) + v2).toNatClampNeg (1 : Int64)))
        else none)
      else
        fX4_putHim_b34 r1))))
def fX4_loseHim_b34 (k2 : SX → Int32 → Option (SX)) (σ : SX) (v1 : Int32) (w0 : Int64) (w1 : Int32) : Option (SX) :=
  (if ¬ (w1 < 0 ∨ 144 ≤ w1.toNatClampNeg) then
    k2 (sx_od_weights σ (vp_updL (gx_od_weights σ) w1.toNatClampNeg w0)) (v1 + (1 : Int32))
  else none)
def fX4_loseHim_b2 (k2 : SX → Int32 → Option (SX)) (σ : SX) (v1 : Int32) : Option (SX) :=
  (if v1 < (144 : Int32) then
    ((fX7_isFree σ (v1 / (4 : Int32))).bind (fun r1 =>
      (if r1 = 0 then
        fX4_loseHim_b34 k2 σ v1 (0 : Int64) v1
      else
        fX4_loseHim_b34 k2 σ v1 (1 : Int64) v1)))
  else
    some ((sx_od_updates σ (0 : Int32))))
def fX4_loseHim_l2 : Nat → SX → Int32 → Option (SX)
  | 0, _, _ => none
  | n + 1, σ, v1 => fX4_loseHim_b2 (fX4_loseHim_l2 n) σ v1
def fX4_loseHim (σ : SX) : Option (SX) :=
  fX4_loseHim_l2 1000 σ (0 : Int32)
def fX4_keep (σ : SX) : Option (SX) :=
  some ((sx_od_keptUpdates (sx_od_kept σ (va_cpy (gx_od_weights σ) (gx_od_kept σ) 0 0 144)) (gx_od_updates σ)))
def fX4_takeKept (σ : SX) : Option (SX) :=
  some ((sx_od_updates (sx_od_weights σ (va_cpy (gx_od_kept σ) (gx_od_weights σ) 0 0 144)) (gx_od_keptUpdates σ)))
def fX4_aboveNought_b38 (σ : SX) (k13 : Int32 → Int32 → Option (Int32)) (v4 : Int32) (w0 : Int32) (w1 : Int32) : Option (Int32) :=
  k13 (w1 + w0) (v4 + (1 : Int32))
def fX4_aboveNought_b13 (σ : SX) (k13 : Int32 → Int32 → Option (Int32)) (v1 : Int32) (v4 : Int32) : Option (Int32) :=
  (if v4 < (144 : Int32) then
    (if ¬ (v4 < 0 ∨ 144 ≤ v4.toNatClampNeg) then
      (if (0 : Int64) < ((gx_od_weights σ) v4.toNatClampNeg) then
        fX4_aboveNought_b38 σ k13 v4 (1 : Int32) v1
      else
        fX4_aboveNought_b38 σ k13 v4 (0 : Int32) v1)
    else none)
  else
    some (v1))
def fX4_aboveNought_l13 (σ : SX) : Nat → Int32 → Int32 → Option (Int32)
  | 0, _, _ => none
  | n + 1, v1, v4 => fX4_aboveNought_b13 σ (fX4_aboveNought_l13 σ n) v1 v4
def fX4_aboveNought (σ : SX) : Option (Int32) :=
  fX4_aboveNought_l13 σ 1000 (0 : Int32) (0 : Int32)
def fX4_total_b14 (σ : SX) (k14 : Int64 → Int32 → Option (Int64)) (v1 : Int64) (v5 : Int32) : Option (Int64) :=
  (if v5 < (144 : Int32) then
    (if ¬ (v5 < 0 ∨ 144 ≤ v5.toNatClampNeg) then
      k14 (v1 + ((gx_od_weights σ) v5.toNatClampNeg)) (v5 + (1 : Int32))
    else none)
  else
    some (v1))
def fX4_total_l14 (σ : SX) : Nat → Int64 → Int32 → Option (Int64)
  | 0, _, _ => none
  | n + 1, v1, v5 => fX4_total_b14 σ (fX4_total_l14 σ n) v1 v5
def fX4_total (σ : SX) : Option (Int64) :=
  fX4_total_l14 σ 1000 (0 : Int64) (0 : Int32)
def fX4_sumOfCell_w_b12 (σ : SX) : Option (Int64) :=
  some ((0 : Int64))
def fX4_sumOfCell_w (σ : SX) (v1 : Int32) : Option (Int64) :=
  (if v1 < 0 then
    fX4_sumOfCell_w_b12 σ
  else
    (if (v1 + (3 : Int32)) < (144 : Int32) then
      (if ¬ (v1 < 0 ∨ 144 ≤ v1.toNatClampNeg) then
        (if ¬ ((v1 + (1 : Int32)) < 0 ∨ 144 ≤ (v1 + (1 : Int32)).toNatClampNeg) then
          (if ¬ ((v1 + (2 : Int32)) < 0 ∨ 144 ≤ (v1 + (2 : Int32)).toNatClampNeg) then
            (if ¬ ((v1 + (3 : Int32)) < 0 ∨ 144 ≤ (v1 + (3 : Int32)).toNatClampNeg) then
              some ((((((gx_od_weights σ) v1.toNatClampNeg) + ((gx_od_weights σ) (v1 + (1 : Int32)).toNatClampNeg)) + ((gx_od_weights σ) (v1 + (2 : Int32)).toNatClampNeg)) + ((gx_od_weights σ) (v1 + (3 : Int32)).toNatClampNeg)))
            else none)
          else none)
        else none)
      else none)
    else
      fX4_sumOfCell_w_b12 σ))
def fX4_ofCell (σ : SX) (v1 : Int32) : Option (Int64) :=
  ((fX4_sumOfCell_w σ (v1 * (4 : Int32))).bind (fun r1 =>
    some (r1)))
def fX4_ofWay_b35 (σ : SX) (k5 : Int32 → Int64 → Int32 → Option (Int64)) (v1 : Int32) (v4 : Int32) (w0 : Int64) (w1 : Int64) : Option (Int64) :=
  k5 v1 (w1 + w0) (v4 + (1 : Int32))
def fX4_ofWay_b5 (σ : SX) (k5 : Int32 → Int64 → Int32 → Option (Int64)) (v1 : Int32) (v2 : Int64) (v4 : Int32) : Option (Int64) :=
  (if v4 < (144 : Int32) then
    (if (v4 &&& (3 : Int32)) = v1 then
      (if ¬ (v4 < 0 ∨ 144 ≤ v4.toNatClampNeg) then
        fX4_ofWay_b35 σ k5 v1 v4 ((gx_od_weights σ) v4.toNatClampNeg) v2
      else none)
    else
      fX4_ofWay_b35 σ k5 v1 v4 (0 : Int64) v2)
  else
    some (v2))
def fX4_ofWay_l5 (σ : SX) : Nat → Int32 → Int64 → Int32 → Option (Int64)
  | 0, _, _, _ => none
  | n + 1, v1, v2, v4 => fX4_ofWay_b5 σ (fX4_ofWay_l5 σ n) v1 v2 v4
def fX4_ofWay (σ : SX) (v1 : Int32) : Option (Int64) :=
  fX4_ofWay_l5 σ 1000 v1 (0 : Int64) (0 : Int32)
def fX4_bestCell_b31 (σ : SX) (k4 : Int32 → Int32 → Option (Int32)) (v1 : Int32) (v2 : Int32) : Option (Int32) :=
  k4 v1 (v2 + (1 : Int32))
def fX4_bestCell_b4 (σ : SX) (k4 : Int32 → Int32 → Option (Int32)) (v1 : Int32) (v2 : Int32) : Option (Int32) :=
  (if v2 < (gx_rg_size σ) then
    ((fX4_ofCell σ v2).bind (fun r1 =>
      ((fX4_ofCell σ v1).bind (fun r2 =>
        (if r2 < r1 then
          fX4_bestCell_b31 σ k4 v2 v2
        else
          fX4_bestCell_b31 σ k4 v1 v2)))))
  else
    some (v1))
def fX4_bestCell_l4 (σ : SX) : Nat → Int32 → Int32 → Option (Int32)
  | 0, _, _ => none
  | n + 1, v1, v2 => fX4_bestCell_b4 σ (fX4_bestCell_l4 σ n) v1 v2
def fX4_bestCell (σ : SX) : Option (Int32) :=
  fX4_bestCell_l4 σ 1000 (0 : Int32) (1 : Int32)
def fJ7_fill_o_b6 (k6 : SX → Nat → Int64 → Int32 → Option (SX)) (σ : SX) (v0 : Nat) (v1 : Int64) (v3 : Int32) : Option (SX) :=
  (if v3 < (144 : Int32) then
    (if v0 < 4 then (if ¬ (v3 < 0 ∨ 144 ≤ v3.toNatClampNeg) then
      k6 (sx_od_outs σ (ox_up (gx_od_outs σ) v0 v3.toNatClampNeg v1)) v0 v1 (v3 + (1 : Int32))
    else none) else none)
  else
    some (σ))
def fJ7_fill_o_l6 : Nat → SX → Nat → Int64 → Int32 → Option (SX)
  | 0, _, _, _, _ => none
  | n + 1, σ, v0, v1, v3 => fJ7_fill_o_b6 (fJ7_fill_o_l6 n) σ v0 v1 v3
def fJ7_fill_o (σ : SX) (v0 : Nat) (v1 : Int64) : Option (SX) :=
  (if v0 < 4 then
    fJ7_fill_o_l6 1000 σ v0 v1 (0 : Int32)
  else none)
def fX4_clearOutcomes_b2 (k2 : SX → Int32 → Option (SX)) (σ : SX) (v1 : Int32) : Option (SX) :=
  (if v1 < (4 : Int32) then
    (if ¬ (v1 < 0 ∨ 4 ≤ v1.toNatClampNeg) then
      ((fJ7_fill_o σ v1.toNatClampNeg (0 : Int64)).bind (fun r1 =>
        k2 r1 (v1 + (1 : Int32))))
    else none)
  else
    some (σ))
def fX4_clearOutcomes_l2 : Nat → SX → Int32 → Option (SX)
  | 0, _, _ => none
  | n + 1, σ, v1 => fX4_clearOutcomes_b2 (fX4_clearOutcomes_l2 n) σ v1
def fX4_clearOutcomes (σ : SX) : Option (SX) :=
  fX4_clearOutcomes_l2 1000 σ (0 : Int32)
def fX4_add_b38 (σ : SX) : Option (SX) :=
  some (σ)
def fX4_add (σ : SX) (v1 : Int32) (v2 : Int32) (v3 : Int32) (v4 : Int64) : Option (SX) :=
  (if ((v2 * (4 : Int32)) + (v3 &&& (3 : Int32))) < 0 then
    fX4_add_b38 σ
  else
    (if ((v2 * (4 : Int32)) + (v3 &&& (3 : Int32))) < (144 : Int32) then
      (if ¬ ((v1 &&& (3 : Int32)) < 0 ∨ 4 ≤ (v1 &&& (3 : Int32)).toNatClampNeg) then
        (if (v1 &&& (3 : Int32)).toNatClampNeg < 4 then (if ¬ (((v2 * (4 : Int32)) + (v3 &&& (3 : Int32))) < 0 ∨ 144 ≤ ((v2 * (4 : Int32)) + (v3 &&& (3 : Int32))).toNatClampNeg) then
          (if (v1 &&& (3 : Int32)).toNatClampNeg < 4 then (if ¬ (((v2 * (4 : Int32)) + (v3 &&& (3 : Int32))) < 0 ∨ 144 ≤ ((v2 * (4 : Int32)) + (v3 &&& (3 : Int32))).toNatClampNeg) then
            fX4_add_b38 (sx_od_outs σ (ox_up (gx_od_outs σ) (v1 &&& (3 : Int32)).toNatClampNeg ((v2 * (4 : Int32)) + (v3 &&& (3 : Int32))).toNatClampNeg (((gx_od_outs σ) (v1 &&& (3 : Int32)).toNatClampNeg ((v2 * (4 : Int32)) + (v3 &&& (3 : Int32))).toNatClampNeg) + v4)))
          else none) else none)
        else none) else none)
      else none)
    else
      fX4_add_b38 σ))
def fX4_foretellTurn_b78 (k6 : SX → Int32 → Int32 → Option (SX)) (σ : SX) (v1 : Int32) (v2 : Int32) : Option (SX) :=
  k6 σ v1 (v2 + (1 : Int32))
def fX4_foretellTurn_b6 (k6 : SX → Int32 → Int32 → Option (SX)) (σ : SX) (v1 : Int32) (v2 : Int32) : Option (SX) :=
  (if v2 < (144 : Int32) then
    (if ¬ (v2 < 0 ∨ 144 ≤ v2.toNatClampNeg) then
      (if (0 : Int64) < ((gx_od_weights σ) v2.toNatClampNeg) then
        ((fX4_add σ (0 : Int32) (v2 / (4 : Int32)) (v2 + (3 : Int32)) (v1.toInt64 * ((gx_od_weights σ) v2.toNatClampNeg))).bind (fun r2 =>
          ((fX4_add r2 (0 : Int32) (v2 / (4 : Int32)) v2 (((10 : Int32) - ((2 : Int32) * v1)).toInt64 * ((gx_od_weights σ) v2.toNatClampNeg))).bind (fun r3 =>
            ((fX4_add r3 (0 : Int32) (v2 / (4 : Int32)) (v2 + (1 : Int32)) (v1.toInt64 * ((gx_od_weights σ) v2.toNatClampNeg))).bind (fun r4 =>
              fX4_foretellTurn_b78 k6 r4 v1 v2))))))
      else
        fX4_foretellTurn_b78 k6 σ v1 v2)
    else none)
  else
    some (σ))
def fX4_foretellTurn_l6 : Nat → SX → Int32 → Int32 → Option (SX)
  | 0, _, _, _ => none
  | n + 1, σ, v1, v2 => fX4_foretellTurn_b6 (fX4_foretellTurn_l6 n) σ v1 v2
def fX4_foretellTurn (σ : SX) (v1 : Int32) : Option (SX) :=
  ((fX4_clearOutcomes σ).bind (fun r1 =>
    fX4_foretellTurn_l6 1000 r1 v1 (0 : Int32)))
def fX7_kindOf_b31 (σ : SX) (w0 : Int32) : Option (Int32) :=
  some (w0)
def fX7_kindOf_b30 (σ : SX) : Option (Int32) :=
  fX7_kindOf_b31 σ (3 : Int32)
def fX7_kindOf (σ : SX) (v1 : Int32) : Option (Int32) :=
  (if v1 < 0 then
    fX7_kindOf_b30 σ
  else
    (if v1 < (gx_rg_size σ) then
      (if v1 < (36 : Int32) then
        (if ¬ (v1 < 0 ∨ 36 ≤ v1.toNatClampNeg) then
          fX7_kindOf_b31 σ ((gx_rg_kinds σ) v1.toNatClampNeg)
        else none)
      else
        fX7_kindOf_b30 σ)
    else
      fX7_kindOf_b30 σ))
def fX4_walk_b58 (σ : SX) (v2 : Int32) (v3 : Int64) (w0 : Int32) (w1 : Int32) : Option (SX) :=
  ((fX4_add σ w1 w0 v2 v3).bind (fun r3 =>
    some (r3)))
def fX4_walk_b31 (σ : SX) (v1 : Int32) (v2 : Int32) (v3 : Int64) (v6 : Int32) (w0 : Int32) : Option (SX) :=
  (if ¬ ((w0 &&& (3 : Int32)) < 0 ∨ 4 ≤ (w0 &&& (3 : Int32)).toNatClampNeg) then
    (if (1 : Int32) < w0 then
      fX4_walk_b58 σ v2 v3 v1 (ev_sf 1000 (w0 &&& (3 : Int32)).toNatClampNeg)
    else
      fX4_walk_b58 σ v2 v3 v6 (ev_sf 1000 (w0 &&& (3 : Int32)).toNatClampNeg))
  else none)
def fX4_walk (σ : SX) (v1 : Int32) (v2 : Int32) (v3 : Int64) (v5 : Int32) : Option (SX) :=
  ((fX7_ahead σ v1 v2).bind (fun r1 =>
    (if r1 = v5 then
      fX4_walk_b31 σ v1 v2 v3 r1 (3 : Int32)
    else
      ((fX7_kindOf σ r1).bind (fun r2 =>
        fX4_walk_b31 σ v1 v2 v3 r1 r2)))))
def fX4_foretellStep_b96 (k7 : SX → Int32 → Int32 → Int32 → Int32 → Option (SX)) (σ : SX) (v1 : Int32) (v2 : Int32) (v3 : Int32) (v4 : Int32) : Option (SX) :=
  k7 σ v1 v2 v3 (v4 + (1 : Int32))
def fX4_foretellStep_b7 (k7 : SX → Int32 → Int32 → Int32 → Int32 → Option (SX)) (σ : SX) (v1 : Int32) (v2 : Int32) (v3 : Int32) (v4 : Int32) : Option (SX) :=
  (if v4 < (144 : Int32) then
    (if ¬ (v4 < 0 ∨ 144 ≤ v4.toNatClampNeg) then
      (if (0 : Int64) < ((gx_od_weights σ) v4.toNatClampNeg) then
        ((fX4_walk σ (v4 / (4 : Int32)) ((v4 + v1) + (3 : Int32)) (v2.toInt64 * ((gx_od_weights σ) v4.toNatClampNeg)) v3).bind (fun r2 =>
          ((fX4_walk r2 (v4 / (4 : Int32)) (v4 + v1) (((10 : Int32) - ((2 : Int32) * v2)).toInt64 * ((gx_od_weights σ) v4.toNatClampNeg)) v3).bind (fun r3 =>
            ((fX4_walk r3 (v4 / (4 : Int32)) ((v4 + v1) + (1 : Int32)) (v2.toInt64 * ((gx_od_weights σ) v4.toNatClampNeg)) v3).bind (fun r4 =>
              fX4_foretellStep_b96 k7 r4 v1 v2 v3 v4))))))
      else
        fX4_foretellStep_b96 k7 σ v1 v2 v3 v4)
    else none)
  else
    some (σ))
def fX4_foretellStep_l7 : Nat → SX → Int32 → Int32 → Int32 → Int32 → Option (SX)
  | 0, _, _, _, _, _ => none
  | n + 1, σ, v1, v2, v3, v4 => fX4_foretellStep_b7 (fX4_foretellStep_l7 n) σ v1 v2 v3 v4
def fX4_foretellStep (σ : SX) (v1 : Int32) (v2 : Int32) (v3 : Int32) : Option (SX) :=
  ((fX4_clearOutcomes σ).bind (fun r1 =>
    fX4_foretellStep_l7 1000 r1 v1 v2 v3 (0 : Int32)))
def fX7_rowOf_b23 (σ : SX) (w0 : Int32) : Option (Int32) :=
  some (w0)
def fX7_rowOf_b22 (σ : SX) : Option (Int32) :=
  fX7_rowOf_b23 σ (0 : Int32)
def fX7_rowOf (σ : SX) (v1 : Int32) : Option (Int32) :=
  (if v1 < 0 then
    fX7_rowOf_b22 σ
  else
    (if v1 < (36 : Int32) then
      (if ¬ (v1 < 0 ∨ 36 ≤ v1.toNatClampNeg) then
        fX7_rowOf_b23 σ ((gx_rg_rows σ) v1.toNatClampNeg)
      else none)
    else
      fX7_rowOf_b22 σ))
def fX7_columnOf_b23 (σ : SX) (w0 : Int32) : Option (Int32) :=
  some (w0)
def fX7_columnOf_b22 (σ : SX) : Option (Int32) :=
  fX7_columnOf_b23 σ (0 : Int32)
def fX7_columnOf (σ : SX) (v1 : Int32) : Option (Int32) :=
  (if v1 < 0 then
    fX7_columnOf_b22 σ
  else
    (if v1 < (36 : Int32) then
      (if ¬ (v1 < 0 ∨ 36 ≤ v1.toNatClampNeg) then
        fX7_columnOf_b23 σ ((gx_rg_columns σ) v1.toNatClampNeg)
      else none)
    else
      fX7_columnOf_b22 σ))
def fX7_wayTo_b61 (σ : SX) (w0 : Int32) : Option (Int32) :=
  some (w0)
def fX7_wayTo_b51 (σ : SX) (v4 : Int32) : Option (Int32) :=
  (if 0 < v4 then
    fX7_wayTo_b61 σ (1 : Int32)
  else
    fX7_wayTo_b61 σ (3 : Int32))
def fX7_wayTo_b50 (σ : SX) (w0 : Int32) : Option (Int32) :=
  some (w0)
def fX7_wayTo (σ : SX) (v1 : Int32) (v2 : Int32) : Option (Int32) :=
  ((fX7_rowOf σ v2).bind (fun r1 =>
    ((fX7_rowOf σ v1).bind (fun r2 =>
      ((fX7_columnOf σ v2).bind (fun r3 =>
        ((fX7_columnOf σ v1).bind (fun r4 =>
          (if (r1 - r2) = 0 then
            fX7_wayTo_b51 σ (r3 - r4)
          else
            (if (if 0 ≤ (r1 - r2) then (r1 - r2) else 0 - (r1 - r2)) < (if 0 ≤ (r3 - r4) then (r3 - r4) else 0 - (r3 - r4)) then
              fX7_wayTo_b51 σ (r3 - r4)
            else
              (if (r1 - r2) < 0 then
                fX7_wayTo_b50 σ (0 : Int32)
              else
                fX7_wayTo_b50 σ (2 : Int32))))))))))))
def fX4_hearFrom_b61 (k24 : SX → Int32 → Int32 → Int32 → Int64 → Int32 → Int32 → Int32 → Option (SX)) (σ : SX) (v1 : Int32) (v2 : Int32) (v3 : Int32) (v4 : Int64) (v6 : Int32) (v7 : Int32) (v8 : Int32) (w0 : Int32) : Option (SX) :=
  ((fX4_add σ v8 v6 v3 (w0.toInt64 * v4)).bind (fun r2 =>
    k24 r2 v1 v2 v3 v4 v6 v7 (v8 + (1 : Int32))))
def fX4_hearFrom_b24 (k24 : SX → Int32 → Int32 → Int32 → Int64 → Int32 → Int32 → Int32 → Option (SX)) (σ : SX) (v1 : Int32) (v2 : Int32) (v3 : Int32) (v4 : Int64) (v6 : Int32) (v7 : Int32) (v8 : Int32) : Option (SX) :=
  (if v8 < (4 : Int32) then
    (if v6 = v1 then
      fX4_hearFrom_b61 k24 σ v1 v2 v3 v4 v6 v7 v8 (15 : Int32)
    else
      (if v8 = v7 then
        fX4_hearFrom_b61 k24 σ v1 v2 v3 v4 v6 v7 v8 ((6 : Int32) * v2)
      else
        fX4_hearFrom_b61 k24 σ v1 v2 v3 v4 v6 v7 v8 ((2 : Int32) * ((10 : Int32) - v2))))
  else
    some (σ))
def fX4_hearFrom_l24 : Nat → SX → Int32 → Int32 → Int32 → Int64 → Int32 → Int32 → Int32 → Option (SX)
  | 0, _, _, _, _, _, _, _, _ => none
  | n + 1, σ, v1, v2, v3, v4, v6, v7, v8 => fX4_hearFrom_b24 (fX4_hearFrom_l24 n) σ v1 v2 v3 v4 v6 v7 v8
def fX4_hearFrom (σ : SX) (v1 : Int32) (v2 : Int32) (v3 : Int32) (v4 : Int64) : Option (SX) :=
  ((fX7_wayTo σ (v3 / (4 : Int32)) v1).bind (fun r1 =>
    fX4_hearFrom_l24 1000 σ v1 v2 v3 v4 (v3 / (4 : Int32)) ((r1 - v3) &&& (3 : Int32)) (0 : Int32)))
def fX4_foretellCall_b39 (k6 : SX → Int32 → Int32 → Int32 → Option (SX)) (σ : SX) (v1 : Int32) (v2 : Int32) (v3 : Int32) : Option (SX) :=
  k6 σ v1 v2 (v3 + (1 : Int32))
def fX4_foretellCall_b6 (k6 : SX → Int32 → Int32 → Int32 → Option (SX)) (σ : SX) (v1 : Int32) (v2 : Int32) (v3 : Int32) : Option (SX) :=
  (if v3 < (144 : Int32) then
    (if ¬ (v3 < 0 ∨ 144 ≤ v3.toNatClampNeg) then
      (if (0 : Int64) < ((gx_od_weights σ) v3.toNatClampNeg) then
        ((fX4_hearFrom σ v1 v2 v3 ((gx_od_weights σ) v3.toNatClampNeg)).bind (fun r2 =>
          fX4_foretellCall_b39 k6 r2 v1 v2 v3))
      else
        fX4_foretellCall_b39 k6 σ v1 v2 v3)
    else none)
  else
    some (σ))
def fX4_foretellCall_l6 : Nat → SX → Int32 → Int32 → Int32 → Option (SX)
  | 0, _, _, _, _ => none
  | n + 1, σ, v1, v2, v3 => fX4_foretellCall_b6 (fX4_foretellCall_l6 n) σ v1 v2 v3
def fX4_foretellCall (σ : SX) (v1 : Int32) (v2 : Int32) : Option (SX) :=
  ((fX4_clearOutcomes σ).bind (fun r1 =>
    fX4_foretellCall_l6 1000 r1 v1 v2 (0 : Int32)))
def fX11_commonDivisor_b66 (v4 : Int64) : Option (Int64) :=
  some (v4)
def fX11_commonDivisor_b31 (k31 : Int64 → Int64 → Int32 → Option (Int64)) (v4 : Int64) (v6 : Int64) (v8 : Int32) : Option (Int64) :=
  (if v8 < (100 : Int32) then
    (if v6 = (0 : Int64) then
      fX11_commonDivisor_b66 v4
    else
      (if ¬ v6 = 0 then
        k31 v6 (v4 - v4 / v6 * v6) (v8 + (1 : Int32))
      else none))
  else
    fX11_commonDivisor_b66 v4)
def fX11_commonDivisor_l31 : Nat → Int64 → Int64 → Int32 → Option (Int64)
  | 0, _, _, _ => none
  | n + 1, v4, v6, v8 => fX11_commonDivisor_b31 (fX11_commonDivisor_l31 n) v4 v6 v8
def fX11_commonDivisor_b26 (v4 : Int64) (w0 : Int64) : Option (Int64) :=
  fX11_commonDivisor_l31 1000 v4 w0 (0 : Int32)
def fX11_commonDivisor_b12 (v2 : Int64) (w0 : Int64) : Option (Int64) :=
  (if v2 < (0 : Int64) then
    fX11_commonDivisor_b26 w0 (-v2)
  else
    fX11_commonDivisor_b26 w0 v2)
def fX11_commonDivisor (v0 : Int64) (v2 : Int64) : Option (Int64) :=
  (if v0 < (0 : Int64) then
    fX11_commonDivisor_b12 v2 (-v0)
  else
    fX11_commonDivisor_b12 v2 v0)
def fX4_narrowTo_b90 (σ : SX) : Option (Int32 × SX) :=
  ((fX4_aboveNought (sx_od_updates σ ((gx_od_updates σ) + (1 : Int32)))).bind (fun r1 =>
    some (r1, (sx_od_updates σ ((gx_od_updates σ) + (1 : Int32))))))
def fX4_narrowTo_b54 (k54 : SX → Nat → Int64 → Int32 → Option (Int32 × SX)) (σ : SX) (v2 : Nat) (v3 : Int64) (v5 : Int32) : Option (Int32 × SX) :=
  (if v5 < (144 : Int32) then
    (if v2 < 4 then
      (if v5 < (144 : Int32) then
        (if v2 < 4 then (if ¬ (v5 < 0 ∨ 144 ≤ v5.toNatClampNeg) then
          (if ¬ v3 = 0 then
            (if ¬ (v5 < 0 ∨ 144 ≤ v5.toNatClampNeg) then
              k54 (sx_od_weights σ (vp_updL (gx_od_weights σ) v5.toNatClampNeg (((gx_od_outs σ) v2 v5.toNatClampNeg) / v3))) v2 v3 (v5 + (1 : Int32))
            else none)
          else none)
        else none) else none)
      else
        fX4_narrowTo_b90 σ)
    else none)
  else
    fX4_narrowTo_b90 σ)
def fX4_narrowTo_l54 : Nat → SX → Nat → Int64 → Int32 → Option (Int32 × SX)
  | 0, _, _, _, _ => none
  | n + 1, σ, v2, v3, v5 => fX4_narrowTo_b54 (fX4_narrowTo_l54 n) σ v2 v3 v5
def fX4_narrowTo_b42 (σ : SX) (v2 : Nat) (v3 : Int64) : Option (Int32 × SX) :=
  (if v3 = (0 : Int64) then
    some ((-103 : Int32), σ)
  else
    fX4_narrowTo_l54 1000 σ v2 v3 (0 : Int32))
def fX4_narrowTo_b14 (k14 : SX → Nat → Int64 → Int32 → Option (Int32 × SX)) (σ : SX) (v2 : Nat) (v3 : Int64) (v5 : Int32) : Option (Int32 × SX) :=
  (if v2 < 4 then
    (if v5 < (144 : Int32) then
      (if v3 = (1 : Int64) then
        fX4_narrowTo_b42 σ v2 v3
      else
        (if v2 < 4 then (if ¬ (v5 < 0 ∨ 144 ≤ v5.toNatClampNeg) then
          ((fX11_commonDivisor ((gx_od_outs σ) v2 v5.toNatClampNeg) v3).bind (fun r2 =>
            k14 σ v2 r2 (v5 + (1 : Int32))))
        else none) else none))
    else
      fX4_narrowTo_b42 σ v2 v3)
  else none)
def fX4_narrowTo_l14 : Nat → SX → Nat → Int64 → Int32 → Option (Int32 × SX)
  | 0, _, _, _, _ => none
  | n + 1, σ, v2, v3, v5 => fX4_narrowTo_b14 (fX4_narrowTo_l14 n) σ v2 v3 v5
def fX4_narrowTo (σ : SX) (v1 : Int32) : Option (Int32 × SX) :=
  (if ¬ ((v1 &&& (3 : Int32)) < 0 ∨ 4 ≤ (v1 &&& (3 : Int32)).toNatClampNeg) then
    fX4_narrowTo_l14 1000 σ ((v1 &&& (3 : Int32)).toNatClampNeg) (0 : Int64) (0 : Int32)
  else none)
def fX4_sumOfCell_o_b12 (σ : SX) : Option (Int64) :=
  some ((0 : Int64))
def fX4_sumOfCell_o (σ : SX) (v0 : Nat) (v1 : Int32) : Option (Int64) :=
  (if v1 < 0 then
    fX4_sumOfCell_o_b12 σ
  else
    (if v0 < 4 then
      (if (v1 + (3 : Int32)) < (144 : Int32) then
        (if v0 < 4 then (if ¬ (v1 < 0 ∨ 144 ≤ v1.toNatClampNeg) then
          (if v0 < 4 then (if ¬ ((v1 + (1 : Int32)) < 0 ∨ 144 ≤ (v1 + (1 : Int32)).toNatClampNeg) then
            (if v0 < 4 then (if ¬ ((v1 + (2 : Int32)) < 0 ∨ 144 ≤ (v1 + (2 : Int32)).toNatClampNeg) then
              (if v0 < 4 then (if ¬ ((v1 + (3 : Int32)) < 0 ∨ 144 ≤ (v1 + (3 : Int32)).toNatClampNeg) then
                some ((((((gx_od_outs σ) v0 v1.toNatClampNeg) + ((gx_od_outs σ) v0 (v1 + (1 : Int32)).toNatClampNeg)) + ((gx_od_outs σ) v0 (v1 + (2 : Int32)).toNatClampNeg)) + ((gx_od_outs σ) v0 (v1 + (3 : Int32)).toNatClampNeg)))
              else none) else none)
            else none) else none)
          else none) else none)
        else none) else none)
      else
        fX4_sumOfCell_o_b12 σ)
    else none))
def fX4_likeliestOfAll_b15 (σ : SX) (k4 : Int64 → Int32 → Option (Int64)) (k15 : Int64 → Int32 → Int64 → Int32 → Option (Int64)) (v1 : Int64) (v3 : Int32) (v4 : Int64) (v6 : Int32) : Option (Int64) :=
  (if v6 < (144 : Int32) then
    (if ¬ (v3 < 0 ∨ 4 ≤ v3.toNatClampNeg) then
      ((fX4_sumOfCell_o σ v3.toNatClampNeg v6).bind (fun r1 =>
        k15 v1 v3 (if r1 < v4 then v4 else r1) (v6 + (4 : Int32))))
    else none)
  else
    k4 (v1 + v4) (v3 + (1 : Int32)))
def fX4_likeliestOfAll_l15 (σ : SX) (k4 : Int64 → Int32 → Option (Int64)) : Nat → Int64 → Int32 → Int64 → Int32 → Option (Int64)
  | 0, _, _, _, _ => none
  | n + 1, v1, v3, v4, v6 => fX4_likeliestOfAll_b15 σ k4 (fX4_likeliestOfAll_l15 σ k4 n) v1 v3 v4 v6
def fX4_likeliestOfAll_b4 (σ : SX) (k4 : Int64 → Int32 → Option (Int64)) (v1 : Int64) (v3 : Int32) : Option (Int64) :=
  (if v3 < (4 : Int32) then
    fX4_likeliestOfAll_l15 σ k4 1000 v1 v3 (0 : Int64) (0 : Int32)
  else
    some (v1))
def fX4_likeliestOfAll_l4 (σ : SX) : Nat → Int64 → Int32 → Option (Int64)
  | 0, _, _ => none
  | n + 1, v1, v3 => fX4_likeliestOfAll_b4 σ (fX4_likeliestOfAll_l4 σ n) v1 v3
def fX4_likeliestOfAll (σ : SX) : Option (Int64) :=
  fX4_likeliestOfAll_l4 σ 1000 (0 : Int64) (0 : Int32)
def fX4_mixInto_b47 (σ : SX) (v3 : Int64) : Option (Int64) :=
  some (v3)
def fX4_mixInto_b5 (σ : SX) (k5 : Int64 → Int32 → Option (Int64)) (v3 : Int64) (v5 : Int32) : Option (Int64) :=
  (if v5 < ((gx_rg_size σ) * (4 : Int32)) then
    (if v5 < (144 : Int32) then
      (if ¬ (v5 < 0 ∨ 144 ≤ v5.toNatClampNeg) then
        ((fX11_mixed v3 ((gx_od_weights σ) v5.toNatClampNeg)).bind (fun r1 =>
          k5 r1 (v5 + (1 : Int32))))
      else none)
    else
      fX4_mixInto_b47 σ v3)
  else
    fX4_mixInto_b47 σ v3)
def fX4_mixInto_l5 (σ : SX) : Nat → Int64 → Int32 → Option (Int64)
  | 0, _, _ => none
  | n + 1, v3, v5 => fX4_mixInto_b5 σ (fX4_mixInto_l5 σ n) v3 v5
def fX4_mixInto (σ : SX) (v1 : Int64) : Option (Int64) :=
  fX4_mixInto_l5 σ 1000 v1 (0 : Int32)
def fX5_codeAt (v0 : Int64) (v2 : Int32) : Option (Int32) :=
  some (((v0.toUInt64 >>> (((8 : Int32) * v2).toInt64.toUInt64 &&& Int64.toUInt64 63)).toInt64.toInt32 &&& (255 : Int32)))
def fX5_lettersIn_b45 (k4 : Int64 → Int32 → Int32 → Option (Int32)) (v0 : Int64) (v2 : Int32) (v3 : Int32) : Option (Int32) :=
  k4 v0 v2 (v3 + (1 : Int32))
def fX5_lettersIn_b37 (k4 : Int64 → Int32 → Int32 → Option (Int32)) (v0 : Int64) (v2 : Int32) (v3 : Int32) (v4 : Int32) : Option (Int32) :=
  (if v4 = 0 then
    fX5_lettersIn_b45 k4 v0 v2 v3
  else
    fX5_lettersIn_b45 k4 v0 (v2 + (1 : Int32)) v3)
def fX5_lettersIn_b34 : Option (Int32) :=
  some ((-102 : Int32))
def fX5_lettersIn_b4 (k4 : Int64 → Int32 → Int32 → Option (Int32)) (v0 : Int64) (v2 : Int32) (v3 : Int32) : Option (Int32) :=
  (if v3 < (8 : Int32) then
    ((fX5_codeAt v0 v3).bind (fun r1 =>
      (if (126 : Int32) < r1 then
        fX5_lettersIn_b34
      else
        (if r1 = 0 then
          fX5_lettersIn_b37 k4 v0 v2 v3 r1
        else
          (if v2 < v3 then
            fX5_lettersIn_b34
          else
            fX5_lettersIn_b37 k4 v0 v2 v3 r1)))))
  else
    some (v2))
def fX5_lettersIn_l4 : Nat → Int64 → Int32 → Int32 → Option (Int32)
  | 0, _, _, _ => none
  | n + 1, v0, v2, v3 => fX5_lettersIn_b4 (fX5_lettersIn_l4 n) v0 v2 v3
def fX5_lettersIn (v0 : Int64) : Option (Int32) :=
  fX5_lettersIn_l4 1000 v0 (0 : Int32) (0 : Int32)
def fX5_write_b53 (σ : SX) : Option (SX) :=
  some (σ)
def fX5_write_b3 (k3 : SX → Int64 → Int32 → Int32 → Option (SX)) (σ : SX) (v1 : Int64) (v3 : Int32) (v4 : Int32) : Option (SX) :=
  (if v4 < v3 then
    (if (gx_pg_length σ) < (45 : Int32) then
      ((fX5_codeAt v1 v4).bind (fun r1 =>
        (if ¬ ((gx_pg_length σ) < 0 ∨ 45 ≤ (gx_pg_length σ).toNatClampNeg) then
          k3 (sx_pg_length (sx_pg_signs σ (upd (gx_pg_signs σ) (gx_pg_length σ).toNatClampNeg (vp_nar .char (r1.toUInt32 % 65536).toInt32))) ((gx_pg_length σ) + (1 : Int32))) v1 v3 (v4 + (1 : Int32))
        else none)))
    else
      fX5_write_b53 σ)
  else
    fX5_write_b53 σ)
def fX5_write_l3 : Nat → SX → Int64 → Int32 → Int32 → Option (SX)
  | 0, _, _, _, _ => none
  | n + 1, σ, v1, v3, v4 => fX5_write_b3 (fX5_write_l3 n) σ v1 v3 v4
def fX5_write (σ : SX) (v1 : Int64) (v3 : Int32) : Option (SX) :=
  fX5_write_l3 1000 σ v1 v3 (0 : Int32)
def fJ0_isLatin1_b18 (w0 : Int32) : Option (Int32) :=
  (if w0 = 0 ∨ w0 = 1 then some (w0) else none)
def fJ0_isLatin1_b17 : Option (Int32) :=
  fJ0_isLatin1_b18 (0 : Int32)
def fJ0_isLatin1 : Option (Int32) :=
  (if (1 : Int32) = 0 then
    fJ0_isLatin1_b17
  else
    (if (0 : Int32) = 0 then
      fJ0_isLatin1_b18 (1 : Int32)
    else
      fJ0_isLatin1_b17))
def fJ0_coder_b14 (w0 : Int32) : Option (Int32) :=
  (if w0 = 0 then some (w0) else none)
def fJ0_coder : Option (Int32) :=
  (if (1 : Int32) = 0 then
    fJ0_coder_b14 (1 : Int32)
  else
    fJ0_coder_b14 (0 : Int32))
def fJ0_length : Option (Int32) :=
  ((fJ0_coder).bind (fun r1 =>
    some (((4 : Int32) >>> (r1 &&& 31)))))
def fJ1_canEncode_b16 (w0 : Int32) : Option (Int32) :=
  (if w0 = 0 ∨ w0 = 1 then some (w0) else none)
def fJ1_canEncode_b15 : Option (Int32) :=
  fJ1_canEncode_b16 (0 : Int32)
def fJ1_canEncode (v0 : Int32) : Option (Int32) :=
  (if v0 < 0 then
    fJ1_canEncode_b15
  else
    (if (255 : Int32) < v0 then
      fJ1_canEncode_b15
    else
      fJ1_canEncode_b16 (1 : Int32)))
def fJ1_indexOfChar_b7 (k7 : Int32 → Int32 → Int32 → Option (Int32)) (v3 : Int32) (v4 : Int32) (v5 : Int32) : Option (Int32) :=
  (if v5 < v3 then
    (if ¬ (v5 < 0 ∨ 4 ≤ v5.toNatClampNeg) then
      (if (ev_sf 2001 v5.toNatClampNeg) = v4 then
        some (v5)
      else
        k7 v3 v4 (v5 + (1 : Int32)))
    else none)
  else
    some ((-1 : Int32)))
def fJ1_indexOfChar_l7 : Nat → Int32 → Int32 → Int32 → Option (Int32)
  | 0, _, _, _ => none
  | n + 1, v3, v4, v5 => fJ1_indexOfChar_b7 (fJ1_indexOfChar_l7 n) v3 v4 v5
def fJ1_indexOfChar (v1 : Int32) (v2 : Int32) (v3 : Int32) : Option (Int32) :=
  fJ1_indexOfChar_l7 1000 v3 v1.toInt8.toInt32 v2
def fJ1_indexOf (v1 : Int32) (v2 : Int32) (v3 : Int32) : Option (Int32) :=
  ((fJ1_canEncode v1).bind (fun r1 =>
    (if r1 = 0 then
      some ((-1 : Int32))
    else
      (if (if v2 < (0 : Int32) then (0 : Int32) else v2) < (if (4 : Int32) < v3 then (4 : Int32) else v3) then
        ((fJ1_indexOfChar v1 (if v2 < (0 : Int32) then (0 : Int32) else v2) (if (4 : Int32) < v3 then (4 : Int32) else v3)).bind (fun r2 =>
          some (r2)))
      else
        some ((-1 : Int32))))))
def fJ0_indexOf2 (v1 : Int32) (v2 : Int32) : Option (Int32) :=
  ((fJ0_isLatin1).bind (fun r1 =>
    (if r1 = 0 then
      ((fJ0_length).bind (fun r2 =>
        none))
    else
      ((fJ0_length).bind (fun r3 =>
        ((fJ1_indexOf v1 v2 r3).bind (fun r4 =>
          some (r4))))))))
def fJ0_indexOf1 (v1 : Int32) : Option (Int32) :=
  ((fJ0_indexOf2 v1 (0 : Int32)).bind (fun r1 =>
    some (r1)))
def fX5_kindAt_b28 (σ : SX) (w0 : Int32) : Option (Int32) :=
  some (w0)
def fX5_kindAt_b27 (σ : SX) : Option (Int32) :=
  fX5_kindAt_b28 σ (-1 : Int32)
def fX5_kindAt (σ : SX) (v1 : Int32) : Option (Int32) :=
  (if v1 < 0 then
    fX5_kindAt_b27 σ
  else
    (if v1 < (45 : Int32) then
      (if ¬ (v1 < 0 ∨ 45 ≤ v1.toNatClampNeg) then
        ((fJ0_indexOf1 ((gx_pg_signs σ) v1.toNatClampNeg)).bind (fun r1 =>
          fX5_kindAt_b28 σ r1))
      else none)
    else
      fX5_kindAt_b27 σ))
def fX5_mayEndRow_b42 (σ : SX) (w0 : Int32) : Option (Int32) :=
  (if w0 = 0 ∨ w0 = 1 then some (w0) else none)
def fX5_mayEndRow_b41 (σ : SX) : Option (Int32) :=
  fX5_mayEndRow_b42 σ (0 : Int32)
def fX5_mayEndRow_b37 (σ : SX) : Option (Int32) :=
  fX5_mayEndRow_b42 σ (1 : Int32)
def fX5_mayEndRow (σ : SX) : Option (Int32) :=
  (if (gx_pg_row σ) < (5 : Int32) then
    (if (gx_pg_row σ) = 0 then
      (if (gx_pg_column σ) < (2 : Int32) then
        fX5_mayEndRow_b41 σ
      else
        fX5_mayEndRow_b37 σ)
    else
      (if (gx_pg_column σ) = (gx_pg_width σ) then
        fX5_mayEndRow_b37 σ
      else
        fX5_mayEndRow_b41 σ))
  else
    fX5_mayEndRow_b41 σ)
def fX5_readOn_b130 (σ : SX) : Option (Int32 × SX) :=
  some ((gx_pg_length σ), σ)
def fX5_readOn_b124 (k17 : SX → Int32 → Option (Int32 × SX)) (σ : SX) (v1 : Int32) : Option (Int32 × SX) :=
  k17 σ (v1 + (1 : Int32))
def fX5_readOn_b112 (σ : SX) (v1 : Int32) : Option (Int32 × SX) :=
  some (v1, σ)
def fX5_readOn_b109 (k17 : SX → Int32 → Option (Int32 × SX)) (σ : SX) (v1 : Int32) (w0 : Int32) (w1 : Int32) : Option (Int32 × SX) :=
  (if w1 < w0 then
    fX5_readOn_b124 k17 (sx_pg_column σ ((gx_pg_column σ) + (1 : Int32))) v1
  else
    fX5_readOn_b112 σ v1)
def fX5_readOn_b17 (k17 : SX → Int32 → Option (Int32 × SX)) (σ : SX) (v1 : Int32) : Option (Int32 × SX) :=
  (if v1 < (gx_pg_length σ) then
    (if v1 < (45 : Int32) then
      (if ¬ (v1 < 0 ∨ 45 ≤ v1.toNatClampNeg) then
        (if ((gx_pg_signs σ) v1.toNatClampNeg) = (47 : Int32) then
          ((fX5_mayEndRow σ).bind (fun r1 =>
            (if r1 = 0 then
              some (v1, σ)
            else
              fX5_readOn_b124 k17 (sx_pg_row (sx_pg_column (sx_pg_width σ (gx_pg_column σ)) (0 : Int32)) ((gx_pg_row σ) + (1 : Int32))) v1)))
        else
          ((fX5_kindAt σ v1).bind (fun r2 =>
            (if r2 = (-1 : Int32) then
              fX5_readOn_b112 σ v1
            else
              (if (gx_pg_row σ) = 0 then
                fX5_readOn_b109 k17 σ v1 (6 : Int32) (gx_pg_column σ)
              else
                fX5_readOn_b109 k17 σ v1 (gx_pg_width σ) (gx_pg_column σ))))))
      else none)
    else
      fX5_readOn_b130 σ)
  else
    fX5_readOn_b130 σ)
def fX5_readOn_l17 : Nat → SX → Int32 → Option (Int32 × SX)
  | 0, _, _ => none
  | n + 1, σ, v1 => fX5_readOn_b17 (fX5_readOn_l17 n) σ v1
def fX5_readOn (σ : SX) : Option (Int32 × SX) :=
  fX5_readOn_l17 1000 (sx_pg_width (sx_pg_column (sx_pg_row σ (0 : Int32)) (0 : Int32)) (0 : Int32)) (0 : Int32)
def fX5_isWhole_b34 (σ : SX) (w0 : Int32) : Option (Int32 × SX) :=
  (if w0 = 0 ∨ w0 = 1 then some (w0, σ) else none)
def fX5_isWhole_b33 (σ : SX) : Option (Int32 × SX) :=
  fX5_isWhole_b34 σ (0 : Int32)
def fX5_isWhole (σ : SX) : Option (Int32 × SX) :=
  ((fX5_readOn σ).bind (fun r1 =>
    (if r1.1 = (gx_pg_length r1.2) then
      (if 0 < (gx_pg_row r1.2) then
        (if (gx_pg_column r1.2) = (gx_pg_width r1.2) then
          fX5_isWhole_b34 r1.2 (1 : Int32)
        else
          fX5_isWhole_b33 r1.2)
      else
        fX5_isWhole_b33 r1.2)
    else
      fX5_isWhole_b33 r1.2)))
def fX5_hasFree_b25 (σ : SX) : Option (Int32) :=
  some ((1 : Int32))
def fX5_hasFree_b2 (σ : SX) (k2 : Int32 → Option (Int32)) (v1 : Int32) : Option (Int32) :=
  (if v1 < (gx_pg_length σ) then
    ((fX5_kindAt σ v1).bind (fun r1 =>
      (if r1 = 0 then
        fX5_hasFree_b25 σ
      else
        (if r1 = (1 : Int32) then
          fX5_hasFree_b25 σ
        else
          k2 (v1 + (1 : Int32))))))
  else
    some ((0 : Int32)))
def fX5_hasFree_l2 (σ : SX) : Nat → Int32 → Option (Int32)
  | 0, _ => none
  | n + 1, v1 => fX5_hasFree_b2 σ (fX5_hasFree_l2 σ n) v1
def fX5_hasFree (σ : SX) : Option (Int32) :=
  fX5_hasFree_l2 σ 1000 (0 : Int32)
def fX5_mixInto_b43 (σ : SX) (v3 : Int64) : Option (Int64) :=
  some (v3)
def fX5_mixInto_b5 (σ : SX) (k5 : Int64 → Int32 → Option (Int64)) (v3 : Int64) (v5 : Int32) : Option (Int64) :=
  (if v5 < (gx_pg_length σ) then
    (if v5 < (45 : Int32) then
      (if ¬ (v5 < 0 ∨ 45 ≤ v5.toNatClampNeg) then
        ((fX11_mixed v3 (((gx_pg_signs σ) v5.toNatClampNeg).toInt64)).bind (fun r1 =>
          k5 r1 (v5 + (1 : Int32))))
      else none)
    else
      fX5_mixInto_b43 σ v3)
  else
    fX5_mixInto_b43 σ v3)
def fX5_mixInto_l5 (σ : SX) : Nat → Int64 → Int32 → Option (Int64)
  | 0, _, _ => none
  | n + 1, v3, v5 => fX5_mixInto_b5 σ (fX5_mixInto_l5 σ n) v3 v5
def fX5_mixInto (σ : SX) (v1 : Int64) : Option (Int64) :=
  fX5_mixInto_l5 σ 1000 v1 (0 : Int32)
def fX6_kind (σ : SX) (v0 : Nat) : Option (Int32) :=
  some ((0 : Int32))
def fX6_goOn (σ : SX) (v0 : Nat) (v2 : Int32) (v3 : Int32) (v4 : Int32) : Option (Unit) :=
  some ()
def fX6_callsFrom (σ : SX) (v0 : Nat) : Option (Int32) :=
  some ((-1 : Int32))
def fX6_isCaught (σ : SX) (v0 : Nat) : Option (Int32) :=
  some ((1 : Int32))
def fX9_kind (σ : SX) (v0 : Nat) : Option (Int32) :=
  some ((1 : Int32))
def fX10_kind (σ : SX) (v0 : Nat) : Option (Int32) :=
  some ((2 : Int32))
def d_kind (σ : SX) (v0 : Nat) : Option (Int32) :=
  if gx_pl_kd σ (v0 - 20) = 0 then fX6_kind σ v0 else if gx_pl_kd σ (v0 - 20) = 1 then fX9_kind σ v0 else if gx_pl_kd σ (v0 - 20) = 2 then fX10_kind σ v0 else if gx_pl_kd σ (v0 - 20) = 3 then fX1_kind σ v0 else if gx_pl_kd σ (v0 - 20) = 4 then fX2_kind σ v0 else fX0_kind σ v0
def fX6_detail (σ : SX) (v0 : Nat) (v1 : Int32) : Option (Int32) :=
  (if v1 = (0 : Int32) then
    (if gx_pok σ v0 = true then
      ((d_kind σ v0).bind (fun r1 =>
      some (r1)))
    else none)
  else (if v1 = (1 : Int32) then
    (if gx_pok σ v0 = true then
      some (((gx_pl_told σ) (v0 - 20)))
    else none)
  else (if v1 = (2 : Int32) then
    (if gx_pok σ v0 = true then
      some (((gx_pl_size σ) (v0 - 20)))
    else none)
  else (if v1 = (3 : Int32) then
    (if gx_pok σ v0 = true then
      some (((gx_pl_cloth σ) (v0 - 20)))
    else none)
  else (if gx_pok σ v0 = true then
      some (((gx_pl_giggle σ) (v0 - 20)))
    else none)))))
def fX7_put_b75 (σ : SX) : Option (SX) :=
  some (σ)
def fX7_put_b71 (σ : SX) (w0 : Int32) (w1 : Int32) : Option (SX) :=
  fX7_put_b75 (sx_rg_free σ (w1 + w0))
def fX7_put_b66 (σ : SX) (w0 : Int32) : Option (SX) :=
  fX7_put_b71 σ (1 : Int32) w0
def fX7_put (σ : SX) (v1 : Int32) (v2 : Int32) (v3 : Int32) : Option (SX) :=
  (if (gx_rg_size σ) < (36 : Int32) then
    (if ¬ ((gx_rg_size σ) < 0 ∨ 36 ≤ (gx_rg_size σ).toNatClampNeg) then
      (if ¬ ((gx_rg_size σ) < 0 ∨ 36 ≤ (gx_rg_size σ).toNatClampNeg) then
        (if ¬ ((gx_rg_size σ) < 0 ∨ 36 ≤ (gx_rg_size σ).toNatClampNeg) then
          (if v1 = 0 then
            fX7_put_b66 (sx_rg_size (sx_rg_columns (sx_rg_rows (sx_rg_kinds σ (upd (gx_rg_kinds σ) (gx_rg_size σ).toNatClampNeg v1)) (upd (gx_rg_rows σ) (gx_rg_size σ).toNatClampNeg v2)) (upd (gx_rg_columns σ) (gx_rg_size σ).toNatClampNeg v3)) ((gx_rg_size σ) + (1 : Int32))) (gx_rg_free σ)
          else
            (if v1 = (1 : Int32) then
              fX7_put_b66 (sx_rg_size (sx_rg_columns (sx_rg_rows (sx_rg_kinds σ (upd (gx_rg_kinds σ) (gx_rg_size σ).toNatClampNeg v1)) (upd (gx_rg_rows σ) (gx_rg_size σ).toNatClampNeg v2)) (upd (gx_rg_columns σ) (gx_rg_size σ).toNatClampNeg v3)) ((gx_rg_size σ) + (1 : Int32))) (gx_rg_free σ)
            else
              fX7_put_b71 (sx_rg_size (sx_rg_columns (sx_rg_rows (sx_rg_kinds σ (upd (gx_rg_kinds σ) (gx_rg_size σ).toNatClampNeg v1)) (upd (gx_rg_rows σ) (gx_rg_size σ).toNatClampNeg v2)) (upd (gx_rg_columns σ) (gx_rg_size σ).toNatClampNeg v3)) ((gx_rg_size σ) + (1 : Int32))) (0 : Int32) (gx_rg_free σ)))
        else none)
      else none)
    else none)
  else
    fX7_put_b75 σ)
def fX7_has_b17 (σ : SX) (w0 : Int32) : Option (Int32) :=
  (if w0 = 0 ∨ w0 = 1 then some (w0) else none)
def fX7_has_b16 (σ : SX) : Option (Int32) :=
  fX7_has_b17 σ (0 : Int32)
def fX7_has (σ : SX) (v1 : Int32) : Option (Int32) :=
  (if v1 < 0 then
    fX7_has_b16 σ
  else
    (if v1 < (gx_rg_size σ) then
      fX7_has_b17 σ (1 : Int32)
    else
      fX7_has_b16 σ))
def fX11_isWithin_b14 (w0 : Int32) : Option (Int32) :=
  (if w0 = 0 ∨ w0 = 1 then some (w0) else none)
def fX11_isWithin_b13 : Option (Int32) :=
  fX11_isWithin_b14 (0 : Int32)
def fX11_isWithin (v0 : Int32) (v1 : Int32) : Option (Int32) :=
  (if v0 < 0 then
    fX11_isWithin_b13
  else
    (if v1 < v0 then
      fX11_isWithin_b13
    else
      fX11_isWithin_b14 (1 : Int32)))
def fX7_findBeside_b107 (k2 : SX → Int32 → Int32 → Int32 → Option (SX)) (σ : SX) (v1 : Int32) (v2 : Int32) (v3 : Int32) (w0 : Int32) (w1 : Int32) : Option (SX) :=
  (if ¬ (w1 < 0 ∨ 144 ≤ w1.toNatClampNeg) then
    k2 (sx_rg_beside σ (upd (gx_rg_beside σ) w1.toNatClampNeg w0)) v1 v2 (v3 + (1 : Int32))
  else none)
def fX7_findBeside_b84 (k2 : SX → Int32 → Int32 → Int32 → Option (SX)) (σ : SX) (v1 : Int32) (v2 : Int32) (v3 : Int32) (v5 : Int32) (v6 : Int32) (w0 : Int32) : Option (SX) :=
  (if w0 = 0 then
    fX7_findBeside_b107 k2 σ v1 v2 v3 (-1 : Int32) v3
  else
    fX7_findBeside_b107 k2 σ v1 v2 v3 ((v5 * v2) + v6) v3)
def fX7_findBeside_b83 (k2 : SX → Int32 → Int32 → Int32 → Option (SX)) (σ : SX) (v1 : Int32) (v2 : Int32) (v3 : Int32) (v5 : Int32) (v6 : Int32) : Option (SX) :=
  fX7_findBeside_b84 k2 σ v1 v2 v3 v5 v6 (0 : Int32)
def fX7_findBeside_b2 (k2 : SX → Int32 → Int32 → Int32 → Option (SX)) (σ : SX) (v1 : Int32) (v2 : Int32) (v3 : Int32) : Option (SX) :=
  (if v3 < (144 : Int32) then
    ((fX7_rowOf σ (v3 / (4 : Int32))).bind (fun r1 =>
      (if ¬ ((v3 &&& (3 : Int32)) < 0 ∨ 4 ≤ (v3 &&& (3 : Int32)).toNatClampNeg) then
        ((fX7_columnOf σ (v3 / (4 : Int32))).bind (fun r2 =>
          (if ¬ ((v3 &&& (3 : Int32)) < 0 ∨ 4 ≤ (v3 &&& (3 : Int32)).toNatClampNeg) then
            ((fX7_has σ (v3 / (4 : Int32))).bind (fun r3 =>
              (if r3 = 0 then
                fX7_findBeside_b83 k2 σ v1 v2 v3 (r1 + (ev_sf 1001 (v3 &&& (3 : Int32)).toNatClampNeg)) (r2 + (ev_sf 1002 (v3 &&& (3 : Int32)).toNatClampNeg))
              else
                ((fX11_isWithin (r1 + (ev_sf 1001 (v3 &&& (3 : Int32)).toNatClampNeg)) (v1 - (1 : Int32))).bind (fun r4 =>
                  (if r4 = 0 then
                    fX7_findBeside_b83 k2 σ v1 v2 v3 (r1 + (ev_sf 1001 (v3 &&& (3 : Int32)).toNatClampNeg)) (r2 + (ev_sf 1002 (v3 &&& (3 : Int32)).toNatClampNeg))
                  else
                    ((fX11_isWithin (r2 + (ev_sf 1002 (v3 &&& (3 : Int32)).toNatClampNeg)) (v2 - (1 : Int32))).bind (fun r5 =>
                      (if r5 = 0 then
                        fX7_findBeside_b83 k2 σ v1 v2 v3 (r1 + (ev_sf 1001 (v3 &&& (3 : Int32)).toNatClampNeg)) (r2 + (ev_sf 1002 (v3 &&& (3 : Int32)).toNatClampNeg))
                      else
                        fX7_findBeside_b84 k2 σ v1 v2 v3 (r1 + (ev_sf 1001 (v3 &&& (3 : Int32)).toNatClampNeg)) (r2 + (ev_sf 1002 (v3 &&& (3 : Int32)).toNatClampNeg)) (1 : Int32))))))))))
          else none)))
      else none)))
  else
    some (σ))
def fX7_findBeside_l2 : Nat → SX → Int32 → Int32 → Int32 → Option (SX)
  | 0, _, _, _, _ => none
  | n + 1, σ, v1, v2, v3 => fX7_findBeside_b2 (fX7_findBeside_l2 n) σ v1 v2 v3
def fX7_findBeside (σ : SX) (v1 : Int32) (v2 : Int32) : Option (SX) :=
  fX7_findBeside_l2 1000 σ v1 v2 (0 : Int32)
def fX7_readFrom_b59 (k17 : SX → Int32 → Int32 → Int32 → Option (SX)) (σ : SX) (v2 : Int32) (v3 : Int32) (v4 : Int32) : Option (SX) :=
  k17 σ v2 v3 (v4 + (1 : Int32))
def fX7_readFrom_b17 (k17 : SX → Int32 → Int32 → Int32 → Option (SX)) (σ : SX) (v2 : Int32) (v3 : Int32) (v4 : Int32) : Option (SX) :=
  (if v4 < (gx_pg_length σ) then
    ((fX5_kindAt σ v4).bind (fun r1 =>
      (if r1 = (-1 : Int32) then
        fX7_readFrom_b59 k17 σ (v2 + (1 : Int32)) (0 : Int32) v4
      else
        ((fX7_put σ r1 v2 v3).bind (fun r2 =>
          fX7_readFrom_b59 k17 r2 v2 (v3 + (1 : Int32)) v4)))))
  else
    ((fX7_findBeside σ (v2 + (1 : Int32)) v3).bind (fun r3 =>
      some (r3))))
def fX7_readFrom_l17 : Nat → SX → Int32 → Int32 → Int32 → Option (SX)
  | 0, _, _, _, _ => none
  | n + 1, σ, v2, v3, v4 => fX7_readFrom_b17 (fX7_readFrom_l17 n) σ v2 v3 v4
def fX7_readFrom (σ : SX) : Option (SX) :=
  fX7_readFrom_l17 1000 (sx_rg_free (sx_rg_size σ (0 : Int32)) (0 : Int32)) (0 : Int32) (0 : Int32) (0 : Int32)
def fX7_isRead_b12 (σ : SX) (w0 : Int32) : Option (Int32) :=
  (if w0 = 0 ∨ w0 = 1 then some (w0) else none)
def fX7_isRead (σ : SX) : Option (Int32) :=
  (if 0 < (gx_rg_size σ) then
    fX7_isRead_b12 σ (1 : Int32)
  else
    fX7_isRead_b12 σ (0 : Int32))
def fX7_firstFree_b2 (σ : SX) (k2 : Int32 → Option (Int32)) (v1 : Int32) : Option (Int32) :=
  (if v1 < (gx_rg_size σ) then
    ((fX7_isFree σ v1).bind (fun r1 =>
      (if r1 = 0 then
        k2 (v1 + (1 : Int32))
      else
        some (v1))))
  else
    some ((-1 : Int32)))
def fX7_firstFree_l2 (σ : SX) : Nat → Int32 → Option (Int32)
  | 0, _ => none
  | n + 1, v1 => fX7_firstFree_b2 σ (fX7_firstFree_l2 σ n) v1
def fX7_firstFree (σ : SX) : Option (Int32) :=
  fX7_firstFree_l2 σ 1000 (0 : Int32)
def fX7_mixInto_b5 (σ : SX) (k5 : Int64 → Int32 → Option (Int64)) (v3 : Int64) (v5 : Int32) : Option (Int64) :=
  (if v5 < (gx_rg_size σ) then
    ((fX7_kindOf σ v5).bind (fun r1 =>
      ((fX11_mixed v3 r1.toInt64).bind (fun r2 =>
        k5 r2 (v5 + (1 : Int32))))))
  else
    some (v3))
def fX7_mixInto_l5 (σ : SX) : Nat → Int64 → Int32 → Option (Int64)
  | 0, _, _ => none
  | n + 1, v3, v5 => fX7_mixInto_b5 σ (fX7_mixInto_l5 σ n) v3 v5
def fX7_mixInto (σ : SX) (v1 : Int64) : Option (Int64) :=
  fX7_mixInto_l5 σ 1000 v1 (0 : Int32)
def fX8_begin (σ : SX) (v1 : Int32) (v2 : Int32) (v3 : Int32) (v4 : Int32) : Option (SX) :=
  some ((sx_rd_tenths (sx_rd_drift (sx_rd_firstWay (sx_rd_firstCell σ v1) v2) v3) v4))
def fX9_goOn (σ : SX) (v0 : Nat) (v2 : Int32) (v3 : Int32) (v4 : Int32) : Option (SX) :=
  (if gx_pok σ v0 = true then
    ((fX7_choose σ ((gx_pl_at σ) (v0 - 20)) v2 v3 (-1 : Int32)).bind (fun r1 =>
      (if gx_pok σ v0 = true then
        some ((sx_pl_at σ (upd (gx_pl_at σ) (v0 - 20) r1)))
      else none)))
  else none)
def d_goOn (σ : SX) (v0 : Nat) (v2 : Int32) (v3 : Int32) (v4 : Int32) : Option (SX) :=
  if gx_pl_kd σ (v0 - 20) = 0 then (fX6_goOn σ v0 v2 v3 v4).map (fun _ => σ) else if gx_pl_kd σ (v0 - 20) = 1 then fX9_goOn σ v0 v2 v3 v4 else if gx_pl_kd σ (v0 - 20) = 2 then fX9_goOn σ v0 v2 v3 v4 else if gx_pl_kd σ (v0 - 20) = 3 then (fX6_goOn σ v0 v2 v3 v4).map (fun _ => σ) else if gx_pl_kd σ (v0 - 20) = 4 then (fX6_goOn σ v0 v2 v3 v4).map (fun _ => σ) else fX0_goOn σ v0 v2 v3 v4
def fX8_playersGo_b69 (k36 : SX → Int32 → Int32 → Int32 → Option (SX)) (σ : SX) (v1 : Int32) (v2 : Int32) (v5 : Int32) : Option (SX) :=
  k36 σ v1 v2 (v5 + (1 : Int32))
def fX8_playersGo_b36 (k36 : SX → Int32 → Int32 → Int32 → Option (SX)) (σ : SX) (v1 : Int32) (v2 : Int32) (v5 : Int32) : Option (SX) :=
  (if v5 < (6 : Int32) then
    (if ¬ (v5 < 0 ∨ 6 ≤ v5.toNatClampNeg) then
      (ev_q ((gx_pl_arr σ) v5.toNatClampNeg)
        (fX8_playersGo_b69 k36 σ v1 v2 v5)
        (fun a3 =>
        (if gx_pok σ a3 = true then
          ((d_goOn σ a3 v1 v2 (gx_rd_hisWay σ)).bind (fun r4 =>
          fX8_playersGo_b69 k36 r4 v1 v2 v5))
        else none)))
    else none)
  else
    some (σ))
def fX8_playersGo_l36 : Nat → SX → Int32 → Int32 → Int32 → Option (SX)
  | 0, _, _, _, _ => none
  | n + 1, σ, v1, v2, v5 => fX8_playersGo_b36 (fX8_playersGo_l36 n) σ v1 v2 v5
def fX8_playersGo (σ : SX) : Option (SX) :=
  ((fX7_rowOf σ (gx_rd_hisCell σ)).bind (fun r1 =>
    ((fX7_columnOf σ (gx_rd_hisCell σ)).bind (fun r2 =>
      fX8_playersGo_l36 1000 σ r1 r2 (0 : Int32)))))
def d_callsFrom (σ : SX) (v0 : Nat) : Option (Int32) :=
  if gx_pl_kd σ (v0 - 20) = 0 then fX6_callsFrom σ v0 else if gx_pl_kd σ (v0 - 20) = 1 then fX6_callsFrom σ v0 else if gx_pl_kd σ (v0 - 20) = 2 then fX6_callsFrom σ v0 else if gx_pl_kd σ (v0 - 20) = 3 then fX1_callsFrom σ v0 else if gx_pl_kd σ (v0 - 20) = 4 then fX2_callsFrom σ v0 else fX6_callsFrom σ v0
def fX8_lookToCall_b140 (σ : SX) : Option (SX) :=
  some (σ)
def fX8_lookToCall_b105 (k16 : SX → Int32 → Int32 → Int32 → Option (SX)) (σ : SX) (v1 : Int32) (v2 : Int32) (v5 : Int32) : Option (SX) :=
  k16 σ v1 v2 (v5 + (1 : Int32))
def fX8_lookToCall_b99 (k16 : SX → Int32 → Int32 → Int32 → Option (SX)) (σ : SX) (v5 : Int32) (v7 : Int32) (v8 : Int32) : Option (SX) :=
  fX8_lookToCall_b105 k16 σ v7 v8 v5
def fX8_lookToCall_b47 (k16 : SX → Int32 → Int32 → Int32 → Option (SX)) (σ : SX) (v1 : Int32) (v2 : Int32) (v5 : Int32) (w0 : Int32) : Option (SX) :=
  (if w0 = (-1 : Int32) then
    fX8_lookToCall_b105 k16 σ v1 v2 v5
  else
    ((fX7_rowOf σ (gx_rd_hisCell σ)).bind (fun r1 =>
      ((fX7_columnOf σ (gx_rd_hisCell σ)).bind (fun r2 =>
        ((fX7_apart σ w0 r1 r2).bind (fun r3 =>
          (if v1 = (-1 : Int32) then
            fX8_lookToCall_b99 k16 σ v5 w0 r3
          else
            (if r3 < v2 then
              fX8_lookToCall_b99 k16 σ v5 w0 r3
            else
              fX8_lookToCall_b105 k16 σ v1 v2 v5)))))))))
def fX8_lookToCall_b16 (k16 : SX → Int32 → Int32 → Int32 → Option (SX)) (σ : SX) (v1 : Int32) (v2 : Int32) (v5 : Int32) : Option (SX) :=
  (if v5 < (6 : Int32) then
    (if ¬ (v5 < 0 ∨ 6 ≤ v5.toNatClampNeg) then
      (ev_q ((gx_pl_arr σ) v5.toNatClampNeg)
        (fX8_lookToCall_b47 k16 σ v1 v2 v5 (-1 : Int32))
        (fun a4 =>
        (if gx_pok σ a4 = true then
          ((d_callsFrom σ a4).bind (fun r5 =>
          fX8_lookToCall_b47 k16 σ v1 v2 v5 r5))
        else none)))
    else none)
  else
    (if v1 = (-1 : Int32) then
      fX8_lookToCall_b140 σ
    else
      (if v1 = (gx_rd_hisCell σ) then
        fX8_lookToCall_b140 σ
      else
        ((fX7_wayTo σ (gx_rd_hisCell σ) v1).bind (fun r6 =>
          fX8_lookToCall_b140 (sx_rd_hisWay σ r6))))))
def fX8_lookToCall_l16 : Nat → SX → Int32 → Int32 → Int32 → Option (SX)
  | 0, _, _, _, _ => none
  | n + 1, σ, v1, v2, v5 => fX8_lookToCall_b16 (fX8_lookToCall_l16 n) σ v1 v2 v5
def fX8_lookToCall (σ : SX) : Option (SX) :=
  fX8_lookToCall_l16 1000 σ (-1 : Int32) (0 : Int32) (0 : Int32)
def fX8_draw (σ : SX) : Option (Int32 × SX) :=
  some (((((((1103515245 : Int64) * (gx_rd_seed σ)) + (12345 : Int64)) &&& (2147483647 : Int64)) / (65536 : Int64)) - (((((1103515245 : Int64) * (gx_rd_seed σ)) + (12345 : Int64)) &&& (2147483647 : Int64)) / (65536 : Int64)) / (10 : Int64) * (10 : Int64)).toInt32, (sx_rd_seed σ ((((1103515245 : Int64) * (gx_rd_seed σ)) + (12345 : Int64)) &&& (2147483647 : Int64))))
def fX8_heGoes_b70 (σ : SX) : Option (SX) :=
  some (σ)
def fX8_heGoes_b23 (σ : SX) : Option (SX) :=
  ((fX7_ahead σ (gx_rd_hisCell σ) (gx_rd_hisWay σ)).bind (fun r2 =>
    ((fX7_isFree σ r2).bind (fun r3 =>
      (if r3 = 0 then
        fX8_heGoes_b70 (sx_rd_hisWay σ (((gx_rd_hisWay σ) + (1 : Int32)) &&& (3 : Int32)))
      else
        fX8_heGoes_b70 (sx_rd_hisCell σ r2))))))
def fX8_heGoes (σ : SX) : Option (SX) :=
  ((fX8_draw σ).bind (fun r1 =>
    (if r1.1 < (gx_rd_drift r1.2) then
      fX8_heGoes_b23 (sx_rd_hisWay r1.2 (((gx_rd_hisWay r1.2) + (1 : Int32)) &&& (3 : Int32)))
    else
      fX8_heGoes_b23 r1.2)))
def fX10_isCaught_b13 (σ : SX) (w0 : Int32) : Option (Int32 × SX) :=
  (if w0 = 0 ∨ w0 = 1 then some (w0, σ) else none)
def fX10_isCaught (σ : SX) (v0 : Nat) : Option (Int32 × SX) :=
  ((fX8_draw σ).bind (fun r1 =>
    (if r1.1 < (5 : Int32) then
      fX10_isCaught_b13 r1.2 (0 : Int32)
    else
      fX10_isCaught_b13 r1.2 (1 : Int32))))
def d_isCaught (σ : SX) (v0 : Nat) : Option (Int32 × SX) :=
  if gx_pl_kd σ (v0 - 20) = 0 then (fX6_isCaught σ v0).map (fun r => (r, σ)) else if gx_pl_kd σ (v0 - 20) = 1 then (fX6_isCaught σ v0).map (fun r => (r, σ)) else if gx_pl_kd σ (v0 - 20) = 2 then fX10_isCaught σ v0 else if gx_pl_kd σ (v0 - 20) = 3 then (fX6_isCaught σ v0).map (fun r => (r, σ)) else if gx_pl_kd σ (v0 - 20) = 4 then (fX6_isCaught σ v0).map (fun r => (r, σ)) else (fX6_isCaught σ v0).map (fun r => (r, σ))
def fX8_touch_b60 (σ : SX) : Option (SX) :=
  some (σ)
def fX8_touch_b54 (k2 : SX → Int32 → Option (SX)) (σ : SX) (v1 : Int32) : Option (SX) :=
  k2 σ (v1 + (1 : Int32))
def fX8_touch_b2 (k2 : SX → Int32 → Option (SX)) (σ : SX) (v1 : Int32) : Option (SX) :=
  (if v1 < (6 : Int32) then
    (if (gx_rd_touched σ) = (-1 : Int32) then
      (if ¬ (v1 < 0 ∨ 6 ≤ v1.toNatClampNeg) then
        (ev_q ((gx_pl_arr σ) v1.toNatClampNeg)
          (fX8_touch_b54 k2 σ v1)
          (fun a1 =>
          (if gx_pok σ a1 = true then
            (if ((gx_pl_at σ) (a1 - 20)) = (gx_rd_hisCell σ) then
              (if gx_pok σ a1 = true then
                ((d_isCaught σ a1).bind (fun r2 =>
                (if r2.1 = 0 then
                  fX8_touch_b54 k2 r2.2 v1
                else
                  fX8_touch_b54 k2 (sx_rd_touched r2.2 v1) v1)))
              else none)
            else
              fX8_touch_b54 k2 σ v1)
          else none)))
      else none)
    else
      fX8_touch_b60 σ)
  else
    fX8_touch_b60 σ)
def fX8_touch_l2 : Nat → SX → Int32 → Option (SX)
  | 0, _, _ => none
  | n + 1, σ, v1 => fX8_touch_b2 (fX8_touch_l2 n) σ v1
def fX8_touch (σ : SX) : Option (SX) :=
  fX8_touch_l2 1000 σ (0 : Int32)
def fX8_play_b136 (σ : SX) : Option (SX) :=
  some (σ)
def fX8_play_b127 (k73 : SX → Int32 → Option (SX)) (σ : SX) (v2 : Int32) (w0 : Int32) : Option (SX) :=
  k73 (sx_rd_tenth σ w0) (v2 + (1 : Int32))
def fX8_play_b103 (k73 : SX → Int32 → Option (SX)) (σ : SX) (v2 : Int32) : Option (SX) :=
  ((fX8_heGoes σ).bind (fun r1 =>
    ((fX8_touch r1).bind (fun r2 =>
      (if (gx_rd_touched r2) = (-1 : Int32) then
        fX8_play_b127 k73 r2 v2 (v2 + (1 : Int32))
      else
        fX8_play_b127 k73 r2 v2 v2)))))
def fX8_play_b73 (k73 : SX → Int32 → Option (SX)) (σ : SX) (v2 : Int32) : Option (SX) :=
  (if v2 < (gx_rd_tenths σ) then
    (if (gx_rd_touched σ) = (-1 : Int32) then
      ((fX8_playersGo σ).bind (fun r3 =>
        (if (v2 - v2 / (3 : Int32) * (3 : Int32)) = 0 then
          ((fX8_lookToCall r3).bind (fun r4 =>
            fX8_play_b103 k73 r4 v2))
        else
          fX8_play_b103 k73 r3 v2)))
    else
      fX8_play_b136 σ)
  else
    fX8_play_b136 σ)
def fX8_play_l73 : Nat → SX → Int32 → Option (SX)
  | 0, _, _ => none
  | n + 1, σ, v2 => fX8_play_b73 (fX8_play_l73 n) σ v2
def fX8_play_b65 (k38 : SX → Int32 → Option (SX)) (σ : SX) (v4 : Int32) : Option (SX) :=
  k38 σ (v4 + (1 : Int32))
def fX8_play_b38 (k38 : SX → Int32 → Option (SX)) (σ : SX) (v4 : Int32) : Option (SX) :=
  (if v4 < (6 : Int32) then
    (if ¬ (v4 < 0 ∨ 6 ≤ v4.toNatClampNeg) then
      (ev_q ((gx_pl_arr σ) v4.toNatClampNeg)
        (fX8_play_b65 k38 σ v4)
        (fun a5 =>
        (if gx_pok σ a5 = true then
          (if gx_pok σ a5 = true then
            fX8_play_b65 k38 (sx_pl_at σ (upd (gx_pl_at σ) (a5 - 20) ((gx_pl_told σ) (a5 - 20)))) v4
          else none)
        else none)))
    else none)
  else
    fX8_play_l73 1000 σ (0 : Int32))
def fX8_play_l38 : Nat → SX → Int32 → Option (SX)
  | 0, _, _ => none
  | n + 1, σ, v4 => fX8_play_b38 (fX8_play_l38 n) σ v4
def fX8_play (σ : SX) (v1 : Int32) : Option (SX) :=
  fX8_play_l38 1000 (sx_rd_touched (sx_rd_hisWay (sx_rd_hisCell (sx_rd_seed σ v1.toInt64) (gx_rd_firstCell σ)) (gx_rd_firstWay σ)) (-1 : Int32)) (0 : Int32)
def fX8_outcome (σ : SX) (v1 : Int32) : Option (Int32) :=
  (if v1 = (0 : Int32) then
    some ((gx_rd_touched σ))
  else (if v1 = (1 : Int32) then
    some ((gx_rd_tenth σ))
  else (if v1 = (2 : Int32) then
    some ((gx_rd_hisCell σ))
  else some ((gx_rd_seed σ).toInt32))))
def fX8_seedsThatTouch_b48 (σ : SX) (v4 : Int32) : Option (Int32 × SX) :=
  some (v4, σ)
def fX8_seedsThatTouch_b39 (k6 : SX → Int32 → Int32 → Int32 → Int32 → Int32 → Option (Int32 × SX)) (σ : SX) (v1 : Int32) (v2 : Int32) (v3 : Int32) (v5 : Int32) (w0 : Int32) (w1 : Int32) : Option (Int32 × SX) :=
  k6 σ v1 v2 v3 (w1 + w0) (v5 + (1 : Int32))
def fX8_seedsThatTouch_b6 (k6 : SX → Int32 → Int32 → Int32 → Int32 → Int32 → Option (Int32 × SX)) (σ : SX) (v1 : Int32) (v2 : Int32) (v3 : Int32) (v4 : Int32) (v5 : Int32) : Option (Int32 × SX) :=
  (if v5 < v2 then
    (if v4 < v3 then
      ((fX8_play σ v5).bind (fun r1 =>
        (if (gx_rd_touched r1) = v1 then
          fX8_seedsThatTouch_b39 k6 r1 v1 v2 v3 v5 (1 : Int32) v4
        else
          fX8_seedsThatTouch_b39 k6 r1 v1 v2 v3 v5 (0 : Int32) v4)))
    else
      fX8_seedsThatTouch_b48 σ v4)
  else
    fX8_seedsThatTouch_b48 σ v4)
def fX8_seedsThatTouch_l6 : Nat → SX → Int32 → Int32 → Int32 → Int32 → Int32 → Option (Int32 × SX)
  | 0, _, _, _, _, _, _ => none
  | n + 1, σ, v1, v2, v3, v4, v5 => fX8_seedsThatTouch_b6 (fX8_seedsThatTouch_l6 n) σ v1 v2 v3 v4 v5
def fX8_seedsThatTouch (σ : SX) (v1 : Int32) (v2 : Int32) (v3 : Int32) : Option (Int32 × SX) :=
  fX8_seedsThatTouch_l6 1000 σ v1 v2 v3 (0 : Int32) (0 : Int32)
def fX11_letters (σ : SX) (v1 : Int64) : Option (Int32 × SX) :=
  ((fX5_lettersIn v1).bind (fun r1 =>
    (if r1 < 0 then
      some ((-102 : Int32), σ)
    else
      (if (45 : Int32) < ((gx_pg_length σ) + r1) then
        some ((-104 : Int32), σ)
      else
        ((fX5_write σ v1 r1).bind (fun r2 =>
          some ((gx_pg_length r2), r2)))))))
def fX11_blank (σ : SX) : Option (Int32 × SX) :=
  some ((gx_pg_length σ), (sx_pg_length σ (0 : Int32)))
def fX11_fault (σ : SX) : Option (Int32 × SX) :=
  ((fX5_readOn σ).bind (fun r1 =>
    some (r1.1, r1.2)))
def fX11_ring_b44 (k44 : SX → Int32 → Option (Int32 × SX)) (σ : SX) (v1 : Int32) : Option (Int32 × SX) :=
  (if v1 < (6 : Int32) then
    (if ¬ (v1 < 0 ∨ 6 ≤ v1.toNatClampNeg) then
      k44 (sx_pl_arr σ (va_up (gx_pl_arr σ) v1.toNatClampNeg none)) (v1 + (1 : Int32))
    else none)
  else
    ((fX3_forgetJackets (sx_tp_playing σ (0 : Int32))).bind (fun r4 =>
      ((fX4_loseHim r4).bind (fun r5 =>
        some ((gx_rg_size r5), (sx_tp_ringsRead (sx_tp_imageKept r5 (0 : Int32)) ((gx_tp_ringsRead r5) + (1 : Int32)))))))))
def fX11_ring_l44 : Nat → SX → Int32 → Option (Int32 × SX)
  | 0, _, _ => none
  | n + 1, σ, v1 => fX11_ring_b44 (fX11_ring_l44 n) σ v1
def fX11_ring_b20 (σ : SX) : Option (Int32 × SX) :=
  some ((-103 : Int32), σ)
def fX11_ring (σ : SX) : Option (Int32 × SX) :=
  ((fX5_isWhole σ).bind (fun r1 =>
    (if r1.1 = 0 then
      fX11_ring_b20 r1.2
    else
      ((fX5_hasFree r1.2).bind (fun r2 =>
        (if r2 = 0 then
          fX11_ring_b20 r1.2
        else
          ((fX7_readFrom r1.2).bind (fun r3 =>
            fX11_ring_l44 1000 (sx_pg_length r3 (0 : Int32)) (0 : Int32)))))))))
def fX11_cell_b24 (σ : SX) (w0 : Int32) : Option (Int32) :=
  some (w0)
def fX11_cell (σ : SX) (v1 : Int32) : Option (Int32) :=
  ((fX7_has σ v1).bind (fun r1 =>
    (if r1 = 0 then
      fX11_cell_b24 σ (-101 : Int32)
    else
      ((fX7_kindOf σ v1).bind (fun r2 =>
        fX11_cell_b24 σ r2)))))
def fX11_set (σ : SX) (v1 : Int32) (v2 : Int32) : Option (Int32 × SX) :=
  ((fX7_isFree σ v1).bind (fun r1 =>
    (if r1 = 0 then
      some ((-101 : Int32), σ)
    else
      ((fX11_isWithin v2 (3 : Int32)).bind (fun r2 =>
        (if r2 = 0 then
          some ((-102 : Int32), σ)
        else
          ((fX4_putHim σ v1 v2).bind (fun r3 =>
            some ((1 : Int32), r3)))))))))
def fX11_lost (σ : SX) : Option (Int32 × SX) :=
  ((fX7_isRead σ).bind (fun r1 =>
    (if r1 = 0 then
      some ((-103 : Int32), σ)
    else
      ((fX4_loseHim σ).bind (fun r2 =>
        ((fX4_aboveNought r2).bind (fun r3 =>
          some (r3, r2))))))))
def fX11_turned (σ : SX) (v1 : Int32) : Option (Int32 × SX) :=
  ((fX7_isRead σ).bind (fun r1 =>
    (if r1 = 0 then
      some ((-103 : Int32), σ)
    else
      ((fX11_isWithin v1 (5 : Int32)).bind (fun r2 =>
        (if r2 = 0 then
          some ((-102 : Int32), σ)
        else
          (if (gx_od_updates σ) < (9 : Int32) then
            ((fX4_foretellTurn σ v1).bind (fun r3 =>
              ((fX4_narrowTo r3 (0 : Int32)).bind (fun r4 =>
                some (r4.1, r4.2)))))
          else
            some ((-104 : Int32), σ))))))))
def fX11_step_b29 (σ : SX) : Option (Int32 × SX) :=
  some ((-102 : Int32), σ)
def fX11_step (σ : SX) (v1 : Int32) (v2 : Int32) : Option (Int32 × SX) :=
  ((fX7_isRead σ).bind (fun r1 =>
    (if r1 = 0 then
      some ((-103 : Int32), σ)
    else
      ((fX11_isWithin v1 (5 : Int32)).bind (fun r2 =>
        (if r2 = 0 then
          fX11_step_b29 σ
        else
          ((fX11_isWithin v2 (3 : Int32)).bind (fun r3 =>
            (if r3 = 0 then
              fX11_step_b29 σ
            else
              (if (gx_od_updates σ) < (9 : Int32) then
                ((fX4_foretellStep σ (0 : Int32) v1 (-1 : Int32)).bind (fun r4 =>
                  ((fX4_narrowTo r4 v2).bind (fun r5 =>
                    some (r5.1, r5.2)))))
              else
                some ((-104 : Int32), σ)))))))))))
def fX11_heard_b31 (σ : SX) : Option (Int32 × SX) :=
  some ((-102 : Int32), σ)
def fX11_heard (σ : SX) (v1 : Int32) (v2 : Int32) (v3 : Int32) : Option (Int32 × SX) :=
  ((fX7_isFree σ v1).bind (fun r1 =>
    (if r1 = 0 then
      some ((-101 : Int32), σ)
    else
      ((fX11_isWithin v2 (3 : Int32)).bind (fun r2 =>
        (if r2 = 0 then
          fX11_heard_b31 σ
        else
          ((fX11_isWithin v3 (10 : Int32)).bind (fun r3 =>
            (if r3 = 0 then
              fX11_heard_b31 σ
            else
              (if (gx_od_updates σ) < (9 : Int32) then
                ((fX4_foretellCall σ v1 v3).bind (fun r4 =>
                  ((fX4_narrowTo r4 v2).bind (fun r5 =>
                    some (r5.1, r5.2)))))
              else
                some ((-104 : Int32), σ)))))))))))
def fX11_term_b36 (w0 : Int64) : Option (Int64) :=
  some (w0)
def fX11_term_b17 (v5 : Int64) (w0 : Int64) : Option (Int64) :=
  (if v5 = (0 : Int64) then
    fX11_term_b36 w0
  else
    (if ¬ v5 = 0 then
      fX11_term_b36 (w0 / v5)
    else none))
def fX11_term (v0 : Int64) (v2 : Int64) (v4 : Int32) : Option (Int64) :=
  ((fX11_commonDivisor v0 v2).bind (fun r1 =>
    (if v4 = 0 then
      fX11_term_b17 r1 v0
    else
      fX11_term_b17 r1 v2)))
def fX11_odds (σ : SX) (v1 : Int32) (v2 : Int32) : Option (Int64) :=
  ((fX7_has σ v1).bind (fun r1 =>
    (if r1 = 0 then
      some ((-101 : Int64))
    else
      ((fX11_isWithin v2 (1 : Int32)).bind (fun r2 =>
        (if r2 = 0 then
          some ((-102 : Int64))
        else
          ((fX4_ofCell σ v1).bind (fun r3 =>
            ((fX4_total σ).bind (fun r4 =>
              ((fX11_term r3 r4 v2).bind (fun r5 =>
                some (r5)))))))))))))
def fX11_ways_b30 (σ : SX) : Option (Int64) :=
  some ((-102 : Int64))
def fX11_ways (σ : SX) (v1 : Int32) (v2 : Int32) : Option (Int64) :=
  ((fX7_isRead σ).bind (fun r1 =>
    (if r1 = 0 then
      some ((-103 : Int64))
    else
      ((fX11_isWithin v1 (3 : Int32)).bind (fun r2 =>
        (if r2 = 0 then
          fX11_ways_b30 σ
        else
          ((fX11_isWithin v2 (1 : Int32)).bind (fun r3 =>
            (if r3 = 0 then
              fX11_ways_b30 σ
            else
              ((fX4_ofWay σ v1).bind (fun r4 =>
                ((fX4_total σ).bind (fun r5 =>
                  ((fX11_term r4 r5 v2).bind (fun r6 =>
                    some (r6))))))))))))))))
def fX11_likeliest_b22 (σ : SX) (w0 : Int32) : Option (Int32) :=
  some (w0)
def fX11_likeliest (σ : SX) : Option (Int32) :=
  ((fX7_isRead σ).bind (fun r1 =>
    (if r1 = 0 then
      fX11_likeliest_b22 σ (-103 : Int32)
    else
      ((fX4_bestCell σ).bind (fun r2 =>
        fX11_likeliest_b22 σ r2)))))
def fX11_knows (σ : SX) (v1 : Int32) : Option (Int64) :=
  ((fX7_isRead σ).bind (fun r1 =>
    (if r1 = 0 then
      some ((-103 : Int64))
    else
      ((fX11_isWithin v1 (1 : Int32)).bind (fun r2 =>
        (if r2 = 0 then
          some ((-102 : Int64))
        else
          ((fX4_bestCell σ).bind (fun r3 =>
            ((fX4_ofCell σ r3).bind (fun r4 =>
              ((fX4_total σ).bind (fun r5 =>
                ((fX11_term r4 r5 v1).bind (fun r6 =>
                  some (r6)))))))))))))))
def fX11_sixtiethsExpected_b42 (σ : SX) (v2 : Int32) (w0 : Int32) : Option (Int64 × SX) :=
  ((fX4_foretellStep σ w0 v2 (-1 : Int32)).bind (fun r3 =>
    ((fX4_likeliestOfAll r3).bind (fun r4 =>
      some (((6 : Int64) * r4), r3)))))
def fX11_sixtiethsExpected (σ : SX) (v1 : Int32) (v2 : Int32) (v3 : Int32) (v4 : Int32) : Option (Int64 × SX) :=
  (if v1 = (3 : Int32) then
    ((fX4_foretellCall σ v3 v4).bind (fun r1 =>
      ((fX4_likeliestOfAll r1).bind (fun r2 =>
        some (r2, r1)))))
  else
    (if v1 = (1 : Int32) then
      fX11_sixtiethsExpected_b42 σ v2 (3 : Int32)
    else
      (if v1 = (2 : Int32) then
        fX11_sixtiethsExpected_b42 σ v2 (1 : Int32)
      else
        fX11_sixtiethsExpected_b42 σ v2 (0 : Int32))))
def fX11_expected_b82 (σ : SX) (v1 : Int32) (v2 : Int32) (v3 : Int32) (v4 : Int32) (v5 : Int32) : Option (Int64 × SX) :=
  (if (7 : Int32) < (gx_od_updates σ) then
    some ((-103 : Int64), σ)
  else
    ((fX11_sixtiethsExpected σ v1 v2 v3 v4).bind (fun r6 =>
      ((fX4_total r6.2).bind (fun r7 =>
        ((fX11_term r6.1 ((60 : Int64) * r7) v5).bind (fun r8 =>
          some (r8, r6.2))))))))
def fX11_expected_b63 (σ : SX) (v1 : Int32) (v2 : Int32) (v3 : Int32) (v4 : Int32) (v5 : Int32) : Option (Int64 × SX) :=
  (if v1 = (3 : Int32) then
    ((fX11_isWithin v4 (10 : Int32)).bind (fun r9 =>
      (if r9 = 0 then
        some ((-102 : Int64), σ)
      else
        fX11_expected_b82 σ v1 v2 v3 v4 v5)))
  else
    fX11_expected_b82 σ v1 v2 v3 v4 v5)
def fX11_expected_b39 (σ : SX) : Option (Int64 × SX) :=
  some ((-102 : Int64), σ)
def fX11_expected (σ : SX) (v1 : Int32) (v2 : Int32) (v3 : Int32) (v4 : Int32) (v5 : Int32) : Option (Int64 × SX) :=
  ((fX7_isRead σ).bind (fun r1 =>
    (if r1 = 0 then
      some ((-103 : Int64), σ)
    else
      ((fX11_isWithin v1 (3 : Int32)).bind (fun r2 =>
        (if r2 = 0 then
          fX11_expected_b39 σ
        else
          ((fX11_isWithin v2 (5 : Int32)).bind (fun r3 =>
            (if r3 = 0 then
              fX11_expected_b39 σ
            else
              ((fX11_isWithin v5 (1 : Int32)).bind (fun r4 =>
                (if r4 = 0 then
                  fX11_expected_b39 σ
                else
                  (if v1 = (3 : Int32) then
                    ((fX7_isFree σ v3).bind (fun r5 =>
                      (if r5 = 0 then
                        some ((-101 : Int64), σ)
                      else
                        fX11_expected_b63 σ v1 v2 v3 v4 v5)))
                  else
                    fX11_expected_b63 σ v1 v2 v3 v4 v5)))))))))))))
def fX11_bestDoing_b44 (k11 : SX → Int32 → Int32 → Int32 → Int32 → Int64 → Int32 → Option (Int32 × SX)) (σ : SX) (v1 : Int32) (v2 : Int32) (v3 : Int32) (v4 : Int32) (v5 : Int64) (v7 : Int32) : Option (Int32 × SX) :=
  k11 σ v1 v2 v3 v4 v5 (v7 + (1 : Int32))
def fX11_bestDoing_b11 (k11 : SX → Int32 → Int32 → Int32 → Int32 → Int64 → Int32 → Option (Int32 × SX)) (σ : SX) (v1 : Int32) (v2 : Int32) (v3 : Int32) (v4 : Int32) (v5 : Int64) (v7 : Int32) : Option (Int32 × SX) :=
  (if (3 : Int32) < v7 then
    some (v4, σ)
  else
    ((fX11_sixtiethsExpected σ v7 v1 v2 v3).bind (fun r1 =>
      (if v5 < r1.1 then
        fX11_bestDoing_b44 k11 r1.2 v1 v2 v3 v7 r1.1 v7
      else
        fX11_bestDoing_b44 k11 r1.2 v1 v2 v3 v4 v5 v7))))
def fX11_bestDoing_l11 : Nat → SX → Int32 → Int32 → Int32 → Int32 → Int64 → Int32 → Option (Int32 × SX)
  | 0, _, _, _, _, _, _, _ => none
  | n + 1, σ, v1, v2, v3, v4, v5, v7 => fX11_bestDoing_b11 (fX11_bestDoing_l11 n) σ v1 v2 v3 v4 v5 v7
def fX11_bestDoing (σ : SX) (v1 : Int32) (v2 : Int32) (v3 : Int32) : Option (Int32 × SX) :=
  fX11_bestDoing_l11 1000 σ v1 v2 v3 (0 : Int32) (-1 : Int64) (0 : Int32)
def fX11_next (σ : SX) (v1 : Int32) (v2 : Int32) (v3 : Int32) : Option (Int32 × SX) :=
  ((fX7_isRead σ).bind (fun r1 =>
    (if r1 = 0 then
      some ((-103 : Int32), σ)
    else
      ((fX11_isWithin v1 (5 : Int32)).bind (fun r2 =>
        (if r2 = 0 then
          some ((-102 : Int32), σ)
        else
          ((fX7_isFree σ v2).bind (fun r3 =>
            (if r3 = 0 then
              some ((-101 : Int32), σ)
            else
              ((fX11_isWithin v3 (10 : Int32)).bind (fun r4 =>
                (if r4 = 0 then
                  some ((-102 : Int32), σ)
                else
                  (if (7 : Int32) < (gx_od_updates σ) then
                    some ((-103 : Int32), σ)
                  else
                    ((fX11_bestDoing σ v1 v2 v3).bind (fun r5 =>
                      some (r5.1, r5.2))))))))))))))))
def fX11_post_b43 (σ : SX) : Option (Int64 × SX) :=
  some ((-1000000000000000002 : Int64), σ)
def fX11_post_b23 (σ : SX) : Option (Int64 × SX) :=
  some ((-1000000000000000001 : Int64), σ)
def fX11_post (σ : SX) (v1 : Int32) (v2 : Int32) (v3 : Int32) : Option (Int64 × SX) :=
  ((fX7_has σ v1).bind (fun r1 =>
    (if r1 = 0 then
      fX11_post_b23 σ
    else
      ((fX7_kindOf σ v1).bind (fun r2 =>
        (if r2 = (2 : Int32) then
          ((fX11_isWithin v2 (5 : Int32)).bind (fun r3 =>
            (if r3 = 0 then
              fX11_post_b43 σ
            else
              ((fX11_isWithin v3 (1 : Int32)).bind (fun r4 =>
                (if r4 = 0 then
                  fX11_post_b43 σ
                else
                  (if (7 : Int32) < (gx_od_updates σ) then
                    some ((-1000000000000000003 : Int64), σ)
                  else
                    ((fX4_foretellStep σ (0 : Int32) v2 (-1 : Int32)).bind (fun r5 =>
                      ((fX4_likeliestOfAll r5).bind (fun r6 =>
                        ((fX4_foretellStep r5 (0 : Int32) v2 v1).bind (fun r7 =>
                          ((fX4_likeliestOfAll r7).bind (fun r8 =>
                            ((fX4_total r7).bind (fun r9 =>
                              ((fX11_term (r6 - r8) ((10 : Int64) * r9) v3).bind (fun r10 =>
                                some (r10, r7))))))))))))))))))))
        else
          fX11_post_b23 σ))))))
def fX11_playerOf_b23 (σ : SX) (w0 : Option Nat) : Option (Option Nat) :=
  (ev_q w0
    (some (none))
    (fun a1 =>
    some ((some a1))))
def fX11_playerOf_b22 (σ : SX) : Option (Option Nat) :=
  fX11_playerOf_b23 σ none
def fX11_playerOf (σ : SX) (v1 : Int32) : Option (Option Nat) :=
  (if v1 < 0 then
    fX11_playerOf_b22 σ
  else
    (if v1 < (6 : Int32) then
      (if ¬ (v1 < 0 ∨ 6 ≤ v1.toNatClampNeg) then
        fX11_playerOf_b23 σ ((gx_pl_arr σ) v1.toNatClampNeg)
      else none)
    else
      fX11_playerOf_b22 σ))
def fX11_isOfKind (σ : SX) (v0 : Nat) (v1 : Int32) : Option (Int32) :=
  (if v1 = (1 : Int32) then
    (if gx_pok σ v0 = true then
      (if (ox_ins [(0, 0), (1, 0), (2, 0), (6, 0), (9, 1), (10, 1)] (gx_pl_kd σ (v0 - 20))) = 0 ∨ (ox_ins [(0, 0), (1, 0), (2, 0), (6, 0), (9, 1), (10, 1)] (gx_pl_kd σ (v0 - 20))) = 1 then some ((ox_ins [(0, 0), (1, 0), (2, 0), (6, 0), (9, 1), (10, 1)] (gx_pl_kd σ (v0 - 20)))) else none)
    else none)
  else (if v1 = (2 : Int32) then
    (if gx_pok σ v0 = true then
      (if (ox_ins [(0, 0), (1, 0), (2, 0), (6, 0), (9, 0), (10, 1)] (gx_pl_kd σ (v0 - 20))) = 0 ∨ (ox_ins [(0, 0), (1, 0), (2, 0), (6, 0), (9, 0), (10, 1)] (gx_pl_kd σ (v0 - 20))) = 1 then some ((ox_ins [(0, 0), (1, 0), (2, 0), (6, 0), (9, 0), (10, 1)] (gx_pl_kd σ (v0 - 20)))) else none)
    else none)
  else (if v1 = (3 : Int32) then
    (if gx_pok σ v0 = true then
      (if (ox_ins [(0, 0), (1, 1), (2, 1), (6, 0), (9, 0), (10, 0)] (gx_pl_kd σ (v0 - 20))) = 0 ∨ (ox_ins [(0, 0), (1, 1), (2, 1), (6, 0), (9, 0), (10, 0)] (gx_pl_kd σ (v0 - 20))) = 1 then some ((ox_ins [(0, 0), (1, 1), (2, 1), (6, 0), (9, 0), (10, 0)] (gx_pl_kd σ (v0 - 20)))) else none)
    else none)
  else (if v1 = (4 : Int32) then
    (if gx_pok σ v0 = true then
      (if (ox_ins [(0, 0), (1, 0), (2, 1), (6, 0), (9, 0), (10, 0)] (gx_pl_kd σ (v0 - 20))) = 0 ∨ (ox_ins [(0, 0), (1, 0), (2, 1), (6, 0), (9, 0), (10, 0)] (gx_pl_kd σ (v0 - 20))) = 1 then some ((ox_ins [(0, 0), (1, 0), (2, 1), (6, 0), (9, 0), (10, 0)] (gx_pl_kd σ (v0 - 20)))) else none)
    else none)
  else (if v1 = (5 : Int32) then
    (if gx_pok σ v0 = true then
      (if (ox_ins [(0, 1), (1, 0), (2, 0), (6, 0), (9, 0), (10, 0)] (gx_pl_kd σ (v0 - 20))) = 0 ∨ (ox_ins [(0, 1), (1, 0), (2, 0), (6, 0), (9, 0), (10, 0)] (gx_pl_kd σ (v0 - 20))) = 1 then some ((ox_ins [(0, 1), (1, 0), (2, 0), (6, 0), (9, 0), (10, 0)] (gx_pl_kd σ (v0 - 20)))) else none)
    else none)
  else some ((1 : Int32)))))))
def fX11_as_b37 (σ : SX) (w0 : Int32) : Option (Int32) :=
  some (w0)
def fX11_as (σ : SX) (v1 : Int32) (v2 : Int32) : Option (Int32) :=
  ((fX11_playerOf σ v1).bind (fun r1 =>
    (ev_q r1
      (some ((-101 : Int32)))
      (fun a2 =>
      ((fX11_isWithin v2 (5 : Int32)).bind (fun r3 =>
        (if r3 = 0 then
          some ((-102 : Int32))
        else
          ((fX11_isOfKind σ a2 v2).bind (fun r4 =>
            (if r4 = 0 then
              fX11_as_b37 σ (-1 : Int32)
            else
              fX11_as_b37 σ v1))))))))))
def fX11_about_b31 (σ : SX) (w0 : Int32) : Option (Int32) :=
  some (w0)
def fX11_about (σ : SX) (v1 : Int32) (v2 : Int32) : Option (Int32) :=
  ((fX11_playerOf σ v1).bind (fun r1 =>
    (ev_q r1
      (some ((-101 : Int32)))
      (fun a2 =>
      ((fX11_isWithin v2 (4 : Int32)).bind (fun r3 =>
        (if r3 = 0 then
          fX11_about_b31 σ (-102 : Int32)
        else
          (if gx_pok σ a2 = true then
            ((fX6_detail σ a2 v2).bind (fun r4 =>
            fX11_about_b31 σ r4))
          else none))))))))
def fX11_move_b21 (σ : SX) : Option (Int32 × SX) :=
  some ((-101 : Int32), σ)
def fX11_move (σ : SX) (v1 : Int32) (v2 : Int32) : Option (Int32 × SX) :=
  ((fX11_playerOf σ v1).bind (fun r1 =>
    (ev_q r1
      (fX11_move_b21 σ)
      (fun a2 =>
      ((fX7_isFree σ v2).bind (fun r3 =>
        (if r3 = 0 then
          fX11_move_b21 σ
        else
          (if gx_pok σ a2 = true then
            (if gx_pok σ a2 = true then
              some (((gx_pl_told σ) (a2 - 20)), (sx_pl_told σ (upd (gx_pl_told σ) (a2 - 20) v2)))
            else none)
          else none))))))))
def fX11_mayStart_b32 (w0 : Int32) : Option (Int32) :=
  (if w0 = 0 ∨ w0 = 1 then some (w0) else none)
def fX11_mayStart_b31 : Option (Int32) :=
  fX11_mayStart_b32 (0 : Int32)
def fX11_mayStart (v0 : Int32) (v1 : Int32) (v2 : Int32) (v3 : Int32) : Option (Int32) :=
  ((fX11_isWithin v0 (3 : Int32)).bind (fun r1 =>
    (if r1 = 0 then
      fX11_mayStart_b31
    else
      ((fX11_isWithin v1 (9 : Int32)).bind (fun r2 =>
        (if r2 = 0 then
          fX11_mayStart_b31
        else
          (if v2 < (1 : Int32) then
            fX11_mayStart_b31
          else
            (if v3 < v2 then
              fX11_mayStart_b31
            else
              fX11_mayStart_b32 (1 : Int32)))))))))
def fX11_game_b41 (σ : SX) : Option (Int32 × SX) :=
  some ((-102 : Int32), σ)
def fX11_game (σ : SX) (v1 : Int32) (v2 : Int32) (v3 : Int32) (v4 : Int32) (v5 : Int32) (v6 : Int32) : Option (Int32 × SX) :=
  ((fX7_isFree σ v1).bind (fun r1 =>
    (if r1 = 0 then
      some ((-101 : Int32), σ)
    else
      ((fX11_mayStart v2 v3 v5 (200 : Int32)).bind (fun r2 =>
        (if r2 = 0 then
          fX11_game_b41 σ
        else
          (if v4 < 0 then
            fX11_game_b41 σ
          else
            ((fX11_isWithin v6 (3 : Int32)).bind (fun r3 =>
              (if r3 = 0 then
                fX11_game_b41 σ
              else
                ((fX8_begin σ v1 v2 v3 v5).bind (fun r4 =>
                  ((fX8_play r4 v4).bind (fun r5 =>
                    ((fX8_outcome r5 v6).bind (fun r6 =>
                      some (r6, r5)))))))))))))))))
def fX11_lasts_b40 (σ : SX) : Option (Int32 × SX) :=
  some ((-102 : Int32), σ)
def fX11_lasts (σ : SX) (v1 : Int32) (v2 : Int32) (v3 : Int32) (v4 : Int32) (v5 : Int32) : Option (Int32 × SX) :=
  ((fX7_isFree σ v1).bind (fun r1 =>
    (if r1 = 0 then
      some ((-101 : Int32), σ)
    else
      ((fX11_mayStart v2 v3 v4 (200 : Int32)).bind (fun r2 =>
        (if r2 = 0 then
          fX11_lasts_b40 σ
        else
          (if v5 < (1 : Int32) then
            fX11_lasts_b40 σ
          else
            (if (20 : Int32) < v5 then
              fX11_lasts_b40 σ
            else
              ((fX8_begin σ v1 v2 v3 v4).bind (fun r3 =>
                ((fX8_seedsThatTouch r3 (-1 : Int32) v5 v5).bind (fun r4 =>
                  some (r4.1, r4.2)))))))))))))
def fX11_stand_b190 (σ : SX) (v7 : Nat) (v8 : Int32) (v9 : Int32) : Option (Int32 × SX) :=
  (if gx_pok σ v7 = true then
    some (v9, (sx_pl_told σ (upd (gx_pl_told σ) (v7 - 20) v8)))
  else none)
def fX11_stand_b184 (k109 : SX → Int32 → Int32 → Nat → Int32 → Int32 → Int32 → Int32 → Option (Int32 × SX)) (σ : SX) (v1 : Int32) (v6 : Int32) (v7 : Nat) (v8 : Int32) (v9 : Int32) (v10 : Int32) (v11 : Int32) : Option (Int32 × SX) :=
  k109 σ v1 v6 v7 v8 v9 v10 (v11 + (1 : Int32))
def fX11_stand_b173 (k109 : SX → Int32 → Int32 → Nat → Int32 → Int32 → Int32 → Int32 → Option (Int32 × SX)) (σ : SX) (v1 : Int32) (v6 : Int32) (v7 : Nat) (v8 : Int32) (v10 : Int32) (v11 : Int32) (v12 : Int32) (w0 : Int32) : Option (Int32 × SX) :=
  fX11_stand_b184 k109 σ v1 v6 v7 v8 w0 (if v10 < v12 then v10 else v12) v11
def fX11_stand_b109 (k109 : SX → Int32 → Int32 → Nat → Int32 → Int32 → Int32 → Int32 → Option (Int32 × SX)) (σ : SX) (v1 : Int32) (v6 : Int32) (v7 : Nat) (v8 : Int32) (v9 : Int32) (v10 : Int32) (v11 : Int32) : Option (Int32 × SX) :=
  (if v11 < (gx_rg_size σ) then
    (if 0 < v10 then
      ((fX7_isFree σ v11).bind (fun r6 =>
        (if r6 = 0 then
          fX11_stand_b184 k109 σ v1 v6 v7 v8 v9 v10 v11
        else
          (if gx_pok σ v7 = true then
            ((fX8_seedsThatTouch (sx_pl_told σ (upd (gx_pl_told σ) (v7 - 20) v11)) v1 v6 v10).bind (fun r7 =>
              (if r7.1 < v10 then
                fX11_stand_b173 k109 r7.2 v1 v6 v7 v8 v10 v11 r7.1 v11
              else
                fX11_stand_b173 k109 r7.2 v1 v6 v7 v8 v10 v11 r7.1 v9)))
          else none))))
    else
      fX11_stand_b190 σ v7 v8 v9)
  else
    fX11_stand_b190 σ v7 v8 v9)
def fX11_stand_l109 : Nat → SX → Int32 → Int32 → Nat → Int32 → Int32 → Int32 → Int32 → Option (Int32 × SX)
  | 0, _, _, _, _, _, _, _, _ => none
  | n + 1, σ, v1, v6, v7, v8, v9, v10, v11 => fX11_stand_b109 (fX11_stand_l109 n) σ v1 v6 v7 v8 v9 v10 v11
def fX11_stand_b52 (σ : SX) : Option (Int32 × SX) :=
  some ((-102 : Int32), σ)
def fX11_stand_b23 (σ : SX) : Option (Int32 × SX) :=
  some ((-101 : Int32), σ)
def fX11_stand (σ : SX) (v1 : Int32) (v2 : Int32) (v3 : Int32) (v4 : Int32) (v5 : Int32) (v6 : Int32) : Option (Int32 × SX) :=
  ((fX11_playerOf σ v1).bind (fun r1 =>
    (ev_q r1
      (fX11_stand_b23 σ)
      (fun a2 =>
      ((fX7_isFree σ v2).bind (fun r3 =>
        (if r3 = 0 then
          fX11_stand_b23 σ
        else
          ((fX11_mayStart v3 v4 v5 (50 : Int32)).bind (fun r4 =>
            (if r4 = 0 then
              fX11_stand_b52 σ
            else
              (if v6 < (1 : Int32) then
                fX11_stand_b52 σ
              else
                (if (9 : Int32) < v6 then
                  fX11_stand_b52 σ
                else
                  (if (gx_tp_standsDone σ) < (20 : Int32) then
                    ((fX8_begin (sx_tp_standsDone σ ((gx_tp_standsDone σ) + (1 : Int32))) v2 v3 v4 v5).bind (fun r5 =>
                      (if gx_pok r5 a2 = true then
                        fX11_stand_l109 1000 r5 v1 v6 a2 ((gx_pl_told r5) (a2 - 20)) (-1 : Int32) (v6 + (1 : Int32)) (0 : Int32)
                      else none)))
                  else
                    some ((-103 : Int32), σ))))))))))))))
def fX11_feels_b26 (σ : SX) : Option (Int32 × SX) :=
  some ((-102 : Int32), σ)
def fX11_feels (σ : SX) (v1 : Int32) (v2 : Int32) (v3 : Int32) : Option (Int32 × SX) :=
  ((fX11_isWithin v1 (5 : Int32)).bind (fun r1 =>
    (if r1 = 0 then
      fX11_feels_b26 σ
    else
      ((fX11_isWithin v2 (10 : Int32)).bind (fun r2 =>
        (if r2 = 0 then
          fX11_feels_b26 σ
        else
          ((fX11_isWithin v3 (10 : Int32)).bind (fun r3 =>
            (if r3 = 0 then
              fX11_feels_b26 σ
            else
              some ((1 : Int32), (sx_nm_giggleRight (sx_nm_clothRight (sx_nm_sizeOff σ v1) v2) v3)))))))))))
def fX11_jackets_b21 (σ : SX) : Option (Int32 × SX) :=
  some ((-101 : Int32), σ)
def fX11_jackets (σ : SX) (v1 : Int32) (v2 : Int32) (v3 : Int32) : Option (Int32 × SX) :=
  ((fX11_playerOf σ v1).bind (fun r1 =>
    (ev_q r1
      (fX11_jackets_b21 σ)
      (fun a2 =>
      ((fX11_playerOf σ v2).bind (fun r3 =>
        (ev_q r3
          (fX11_jackets_b21 σ)
          (fun a4 =>
          (if v1 = v2 then
            fX11_jackets_b21 σ
          else
            ((fX11_isWithin v3 (10 : Int32)).bind (fun r5 =>
              (if r5 = 0 then
                some ((-102 : Int32), σ)
              else
                ((fX3_changeJackets σ v1 v2 v3).bind (fun r6 =>
                  some ((1 : Int32), r6)))))))))))))))
def fX11_couldBeFelt_b30 (w0 : Int32) : Option (Int32) :=
  (if w0 = 0 ∨ w0 = 1 then some (w0) else none)
def fX11_couldBeFelt_b29 : Option (Int32) :=
  fX11_couldBeFelt_b30 (0 : Int32)
def fX11_couldBeFelt (v0 : Int32) (v1 : Int32) (v2 : Int32) : Option (Int32) :=
  ((fX11_isWithin v0 (9 : Int32)).bind (fun r1 =>
    (if r1 = 0 then
      fX11_couldBeFelt_b29
    else
      ((fX11_isWithin v1 (4 : Int32)).bind (fun r2 =>
        (if r2 = 0 then
          fX11_couldBeFelt_b29
        else
          ((fX11_isWithin v2 (4 : Int32)).bind (fun r3 =>
            (if r3 = 0 then
              fX11_couldBeFelt_b29
            else
              fX11_couldBeFelt_b30 (1 : Int32))))))))))
def fX11_named_b80 (σ : SX) (w0 : Int32) : Option (Int32 × SX) :=
  some (w0, σ)
def fX11_named_b30 (σ : SX) : Option (Int32 × SX) :=
  some ((-102 : Int32), σ)
def fX11_named (σ : SX) (v1 : Int32) (v2 : Int32) (v3 : Int32) (v4 : Int32) (v5 : Int32) : Option (Int32 × SX) :=
  ((fX11_playerOf σ v1).bind (fun r1 =>
    (ev_q r1
      (some ((-101 : Int32), σ))
      (fun a2 =>
      ((fX11_couldBeFelt v2 v3 v4).bind (fun r3 =>
        (if r3 = 0 then
          fX11_named_b30 σ
        else
          ((fX11_isWithin v5 (1 : Int32)).bind (fun r4 =>
            (if r4 = 0 then
              fX11_named_b30 σ
            else
              ((fX3_weigh σ v2 v3 v4).bind (fun r5 =>
                ((fX3_total r5).bind (fun r6 =>
                  (if r6 = (0 : Int64) then
                    fX11_named_b80 r5 (-1 : Int32)
                  else
                    ((fX3_weightOf r5 v1).bind (fun r7 =>
                      ((fX11_term r7 r6 v5).bind (fun r8 =>
                        fX11_named_b80 r5 r8.toInt32)))))))))))))))))))
def fX11_says (σ : SX) (v1 : Int32) (v2 : Int32) (v3 : Int32) : Option (Int32 × SX) :=
  ((fX11_couldBeFelt v1 v2 v3).bind (fun r1 =>
    (if r1 = 0 then
      some ((-102 : Int32), σ)
    else
      ((fX3_weigh σ v1 v2 v3).bind (fun r2 =>
        ((fX3_likeliestPlayer r2).bind (fun r3 =>
          some (r3, r2))))))))
def fX11_when_b91 (σ : SX) (w0 : Int32) : Option (Int32 × SX) :=
  some (w0, σ)
def fX11_when_b29 (σ : SX) : Option (Int32 × SX) :=
  some ((-102 : Int32), σ)
def fX11_when (σ : SX) (v1 : Int32) (v2 : Int32) (v3 : Int32) (v4 : Int32) (v5 : Int32) : Option (Int32 × SX) :=
  ((fX11_couldBeFelt v1 v2 v3).bind (fun r1 =>
    (if r1 = 0 then
      fX11_when_b29 σ
    else
      ((fX11_isWithin v4 (99 : Int32)).bind (fun r2 =>
        (if r2 = 0 then
          fX11_when_b29 σ
        else
          ((fX11_isWithin v5 (99 : Int32)).bind (fun r3 =>
            (if r3 = 0 then
              fX11_when_b29 σ
            else
              ((fX3_weigh σ v1 v2 v3).bind (fun r4 =>
                ((fX3_likeliestPlayer r4).bind (fun r5 =>
                  ((fX3_weightOf r4 r5).bind (fun r6 =>
                    ((fX3_total r4).bind (fun r7 =>
                      (if (v5.toInt64 * (r7 - r6)) < (v4.toInt64 * r6) then
                        fX11_when_b91 r4 (1 : Int32)
                      else
                        fX11_when_b91 r4 (0 : Int32)))))))))))))))))))
def fX11_image_b62 (k37 : SX → Int32 → Option (Int32 × SX)) (σ : SX) (v3 : Int32) : Option (Int32 × SX) :=
  k37 σ (v3 + (1 : Int32))
def fX11_image_b37 (k37 : SX → Int32 → Option (Int32 × SX)) (σ : SX) (v3 : Int32) : Option (Int32 × SX) :=
  (if v3 < (6 : Int32) then
    (if ¬ (v3 < 0 ∨ 6 ≤ v3.toNatClampNeg) then
      (ev_q ((gx_pl_arr σ) v3.toNatClampNeg)
        (fX11_image_b62 k37 σ v3)
        (fun a4 =>
        (if gx_pok σ a4 = true then
          (if gx_pok σ a4 = true then
            fX11_image_b62 k37 (sx_pl_kept σ (upd (gx_pl_kept σ) (a4 - 20) ((gx_pl_told σ) (a4 - 20)))) v3
          else none)
        else none)))
    else none)
  else
    some ((gx_tp_playing σ), (sx_tp_imageKept σ (1 : Int32))))
def fX11_image_l37 : Nat → SX → Int32 → Option (Int32 × SX)
  | 0, _, _ => none
  | n + 1, σ, v3 => fX11_image_b37 (fX11_image_l37 n) σ v3
def fX11_image (σ : SX) : Option (Int32 × SX) :=
  ((fX7_isRead σ).bind (fun r1 =>
    (if r1 = 0 then
      some ((-103 : Int32), σ)
    else
      ((fX4_keep σ).bind (fun r2 =>
        ((fX3_keep r2).bind (fun r3 =>
          fX11_image_l37 1000 r3 (0 : Int32))))))))
def fX11_restore_b68 (k34 : SX → Int32 → Option (Int32 × SX)) (σ : SX) (v3 : Int32) : Option (Int32 × SX) :=
  k34 σ (v3 + (1 : Int32))
def fX11_restore_b34 (k34 : SX → Int32 → Option (Int32 × SX)) (σ : SX) (v3 : Int32) : Option (Int32 × SX) :=
  (if v3 < (6 : Int32) then
    (if ¬ (v3 < 0 ∨ 6 ≤ v3.toNatClampNeg) then
      (ev_q ((gx_pl_arr σ) v3.toNatClampNeg)
        (fX11_restore_b68 k34 σ v3)
        (fun a3 =>
        (if gx_pok σ a3 = true then
          (if ((gx_pl_kept σ) (a3 - 20)) = (-1 : Int32) then
            fX11_restore_b68 k34 σ v3
          else
            (if gx_pok σ a3 = true then
              (if gx_pok σ a3 = true then
                fX11_restore_b68 k34 (sx_pl_told σ (upd (gx_pl_told σ) (a3 - 20) ((gx_pl_kept σ) (a3 - 20)))) v3
              else none)
            else none))
        else none)))
    else none)
  else
    some ((gx_tp_playing σ), σ))
def fX11_restore_l34 : Nat → SX → Int32 → Option (Int32 × SX)
  | 0, _, _ => none
  | n + 1, σ, v3 => fX11_restore_b34 (fX11_restore_l34 n) σ v3
def fX11_restore (σ : SX) : Option (Int32 × SX) :=
  (if (gx_tp_imageKept σ) = 0 then
    some ((-103 : Int32), σ)
  else
    ((fX4_takeKept σ).bind (fun r1 =>
      ((fX3_takeKept r1).bind (fun r2 =>
        fX11_restore_l34 1000 r2 (0 : Int32))))))
def fX11_count (σ : SX) (v1 : Int32) : Option (Int32) :=
  (if v1 = (0 : Int32) then
    some ((gx_rg_size σ))
  else (if v1 = (1 : Int32) then
    some ((gx_rg_free σ))
  else (if v1 = (2 : Int32) then
    some ((gx_tp_playing σ))
  else (if v1 = (3 : Int32) then
    some ((gx_od_updates σ))
  else (if v1 = (4 : Int32) then
    ((fX4_aboveNought σ).bind (fun r1 =>
      some (r1)))
  else (if v1 = (5 : Int32) then
    some ((gx_pg_length σ))
  else (if v1 = (6 : Int32) then
    some ((gx_tp_ringsRead σ))
  else (if v1 = (7 : Int32) then
    some ((gx_tp_standsDone σ))
  else some ((-102 : Int32))))))))))
def fX11_digest_b161 (k161 : SX → Int64 → Int32 → Option (Int64 × SX)) (σ : SX) (v1 : Int64) (v3 : Int32) : Option (Int64 × SX) :=
  (if (7 : Int32) < v3 then
    some (v1, σ)
  else
    ((fX11_count σ v3).bind (fun r3 =>
      ((fX11_mixed v1 r3.toInt64).bind (fun r4 =>
        k161 σ r4 (v3 + (1 : Int32)))))))
def fX11_digest_l161 : Nat → SX → Int64 → Int32 → Option (Int64 × SX)
  | 0, _, _, _ => none
  | n + 1, σ, v1, v3 => fX11_digest_b161 (fX11_digest_l161 n) σ v1 v3
def fX11_digest_b150 (σ : SX) (v1 : Int64) : Option (Int64 × SX) :=
  ((fX5_mixInto σ v1).bind (fun r5 =>
    fX11_digest_l161 1000 σ r5 (0 : Int32)))
def fX11_digest_b76 (k30 : SX → Int64 → Int32 → Option (Int64 × SX)) (σ : SX) (v1 : Int64) (v5 : Int32) : Option (Int64 × SX) :=
  k30 σ v1 (v5 + (1 : Int32))
def fX11_digest_b46 (k30 : SX → Int64 → Int32 → Option (Int64 × SX)) (k46 : SX → Int64 → Int32 → (Option Nat) → Int32 → Option (Int64 × SX)) (σ : SX) (v1 : Int64) (v5 : Int32) (v6 : Option Nat) (v7 : Int32) : Option (Int64 × SX) :=
  (ev_q v6
    (fX11_digest_b76 k30 σ v1 v5)
    (fun a6 =>
    (if (4 : Int32) < v7 then
      fX11_digest_b76 k30 σ v1 v5
    else
      (if gx_pok σ a6 = true then
        ((fX6_detail σ a6 v7).bind (fun r7 =>
        ((fX11_mixed v1 r7.toInt64).bind (fun r8 =>
          k46 σ r8 v5 (some a6) (v7 + (1 : Int32))))))
      else none))))
def fX11_digest_l46 (k30 : SX → Int64 → Int32 → Option (Int64 × SX)) : Nat → SX → Int64 → Int32 → (Option Nat) → Int32 → Option (Int64 × SX)
  | 0, _, _, _, _, _ => none
  | n + 1, σ, v1, v5, v6, v7 => fX11_digest_b46 k30 (fX11_digest_l46 k30 n) σ v1 v5 v6 v7
def fX11_digest_b30 (k30 : SX → Int64 → Int32 → Option (Int64 × SX)) (σ : SX) (v1 : Int64) (v5 : Int32) : Option (Int64 × SX) :=
  (if v5 < (6 : Int32) then
    (if ¬ (v5 < 0 ∨ 6 ≤ v5.toNatClampNeg) then
      (ev_q ((gx_pl_arr σ) v5.toNatClampNeg)
        (fX11_digest_l46 k30 1000 σ v1 v5 none (0 : Int32))
        (fun a9 =>
        fX11_digest_l46 k30 1000 σ v1 v5 (some a9) (0 : Int32)))
    else none)
  else
    ((fX3_mixInto σ v1).bind (fun r10 =>
      (if 0 < (gx_tp_playing σ) then
        ((fX7_firstFree σ).bind (fun r11 =>
          ((fX8_begin σ r11 (0 : Int32) (2 : Int32) (20 : Int32)).bind (fun r12 =>
            ((fX8_play r12 (1 : Int32)).bind (fun r13 =>
              ((fX8_outcome r13 (0 : Int32)).bind (fun r14 =>
                ((fX11_mixed r10 r14.toInt64).bind (fun r15 =>
                  ((fX8_outcome r13 (1 : Int32)).bind (fun r16 =>
                    ((fX11_mixed r15 r16.toInt64).bind (fun r17 =>
                      fX11_digest_b150 r13 r17))))))))))))))
      else
        fX11_digest_b150 σ r10))))
def fX11_digest_l30 : Nat → SX → Int64 → Int32 → Option (Int64 × SX)
  | 0, _, _, _ => none
  | n + 1, σ, v1, v5 => fX11_digest_b30 (fX11_digest_l30 n) σ v1 v5
def fX11_digest (σ : SX) : Option (Int64 × SX) :=
  ((fX7_mixInto σ (457 : Int64)).bind (fun r1 =>
    ((fX4_mixInto σ r1).bind (fun r2 =>
      fX11_digest_l30 1000 σ r2 (0 : Int32)))))
def fX12_within_b15 (w0 : Int32) : Option (Int32) :=
  (if w0 = 0 ∨ w0 = 1 then some (w0) else none)
def fX12_within_b14 : Option (Int32) :=
  fX12_within_b15 (0 : Int32)
def fX12_within (v0 : Int32) (v1 : Int32) (v2 : Int32) : Option (Int32) :=
  (if v0 < v1 then
    fX12_within_b14
  else
    (if v2 < v0 then
      fX12_within_b14
    else
      fX12_within_b15 (1 : Int32)))
def fX12_size_b10 (w0 : Int32) : Option (Int32) :=
  some (w0)
def fX12_size (v0 : Int32) : Option (Int32) :=
  (if v0 < 0 then
    fX12_size_b10 (-v0)
  else
    fX12_size_b10 v0)
def fX12_divisor_b17 (k17 : Int64 → Int64 → Option (Int64)) (v4 : Int64) (v6 : Int64) : Option (Int64) :=
  (if v6 = (0 : Int64) then
    some (v4)
  else
    (if ¬ v6 = 0 then
      k17 v6 (v4 - v4 / v6 * v6)
    else none))
def fX12_divisor_l17 : Nat → Int64 → Int64 → Option (Int64)
  | 0, _, _ => none
  | n + 1, v4, v6 => fX12_divisor_b17 (fX12_divisor_l17 n) v4 v6
def fX12_divisor_b12 (v2 : Int64) (w0 : Int64) : Option (Int64) :=
  fX12_divisor_l17 1000 w0 v2
def fX12_divisor (v0 : Int64) (v2 : Int64) : Option (Int64) :=
  (if v0 < (0 : Int64) then
    fX12_divisor_b12 v2 (-v0)
  else
    fX12_divisor_b12 v2 v0)
def fX12_lowest_b23 (w0 : Int64) : Option (Int64) :=
  some (w0)
def fX12_lowest (v0 : Int64) (v2 : Int64) (v4 : Int32) : Option (Int64) :=
  ((fX12_divisor v0 v2).bind (fun r1 =>
    (if v4 = 0 then
      (if ¬ r1 = 0 then
        fX12_lowest_b23 (v0 / r1)
      else none)
    else
      (if ¬ r1 = 0 then
        fX12_lowest_b23 (v2 / r1)
      else none))))
def fX12_letters_b102 (k102 : SM → Int64 → Int32 → Int32 → Option (Int32 × SM)) (σ : SM) (v1 : Int64) (v3 : Int32) (v5 : Int32) : Option (Int32 × SM) :=
  (if v5 < v3 then
    (if ¬ (((gm_pg_pageLength σ) + v5) < 0 ∨ 45 ≤ ((gm_pg_pageLength σ) + v5).toNatClampNeg) then
      k102 (sm_pg_page σ (upd (gm_pg_page σ) ((gm_pg_pageLength σ) + v5).toNatClampNeg (vp_nar .byte (v1 >>> (((8 : Int32) * v5).toInt64 &&& 63)).toInt32.toInt8.toInt32))) v1 v3 (v5 + (1 : Int32))
    else none)
  else
    some (((gm_pg_pageLength σ) + v3), (sm_pg_pageLength σ ((gm_pg_pageLength σ) + v3))))
def fX12_letters_l102 : Nat → SM → Int64 → Int32 → Int32 → Option (Int32 × SM)
  | 0, _, _, _, _ => none
  | n + 1, σ, v1, v3, v5 => fX12_letters_b102 (fX12_letters_l102 n) σ v1 v3 v5
def fX12_letters_b77 (k8 : SM → Int64 → Int32 → Int32 → Int32 → Option (Int32 × SM)) (σ : SM) (v1 : Int64) (v4 : Int32) (v5 : Int32) (w0 : Int32) (w1 : Int32) : Option (Int32 × SM) :=
  k8 σ v1 (w1 + w0) v4 (v5 + (1 : Int32))
def fX12_letters_b64 (k8 : SM → Int64 → Int32 → Int32 → Int32 → Option (Int32 × SM)) (σ : SM) (v1 : Int64) (v3 : Int32) (v5 : Int32) (v6 : Int32) (w0 : Int32) : Option (Int32 × SM) :=
  (if v6 = 0 then
    fX12_letters_b77 k8 σ v1 w0 v5 (0 : Int32) v3
  else
    fX12_letters_b77 k8 σ v1 w0 v5 (1 : Int32) v3)
def fX12_letters_b59 (k8 : SM → Int64 → Int32 → Int32 → Int32 → Option (Int32 × SM)) (σ : SM) (v1 : Int64) (v3 : Int32) (v5 : Int32) (v6 : Int32) : Option (Int32 × SM) :=
  fX12_letters_b64 k8 σ v1 v3 v5 v6 (1 : Int32)
def fX12_letters_b49 (k8 : SM → Int64 → Int32 → Int32 → Int32 → Option (Int32 × SM)) (σ : SM) (v1 : Int64) (v3 : Int32) (v4 : Int32) (v5 : Int32) (v6 : Int32) : Option (Int32 × SM) :=
  (if v4 = 0 then
    (if v6 = 0 then
      fX12_letters_b59 k8 σ v1 v3 v5 v6
    else
      fX12_letters_b64 k8 σ v1 v3 v5 v6 (0 : Int32))
  else
    fX12_letters_b59 k8 σ v1 v3 v5 v6)
def fX12_letters_b46 (σ : SM) : Option (Int32 × SM) :=
  some ((-102 : Int32), σ)
def fX12_letters_b8 (k8 : SM → Int64 → Int32 → Int32 → Int32 → Option (Int32 × SM)) (σ : SM) (v1 : Int64) (v3 : Int32) (v4 : Int32) (v5 : Int32) : Option (Int32 × SM) :=
  (if v5 < (8 : Int32) then
    (if (126 : Int32) < ((v1 >>> (((8 : Int32) * v5).toInt64 &&& 63)) &&& (255 : Int64)).toInt32 then
      fX12_letters_b46 σ
    else
      (if v4 = 0 then
        fX12_letters_b49 k8 σ v1 v3 v4 v5 (((v1 >>> (((8 : Int32) * v5).toInt64 &&& 63)) &&& (255 : Int64)).toInt32)
      else
        (if ((v1 >>> (((8 : Int32) * v5).toInt64 &&& 63)) &&& (255 : Int64)).toInt32 = 0 then
          fX12_letters_b49 k8 σ v1 v3 v4 v5 (((v1 >>> (((8 : Int32) * v5).toInt64 &&& 63)) &&& (255 : Int64)).toInt32)
        else
          fX12_letters_b46 σ)))
  else
    (if (45 : Int32) < ((gm_pg_pageLength σ) + v3) then
      some ((-104 : Int32), σ)
    else
      fX12_letters_l102 1000 σ v1 v3 (0 : Int32)))
def fX12_letters_l8 : Nat → SM → Int64 → Int32 → Int32 → Int32 → Option (Int32 × SM)
  | 0, _, _, _, _, _ => none
  | n + 1, σ, v1, v3, v4, v5 => fX12_letters_b8 (fX12_letters_l8 n) σ v1 v3 v4 v5
def fX12_letters (σ : SM) (v1 : Int64) : Option (Int32 × SM) :=
  fX12_letters_l8 1000 σ v1 (0 : Int32) (0 : Int32) (0 : Int32)
def fX12_blank (σ : SM) : Option (Int32 × SM) :=
  some ((gm_pg_pageLength σ), (sm_pg_pageLength σ (0 : Int32)))
def fX12_sortOf_b41 (w0 : Int32) : Option (Int32) :=
  some (w0)
def fX12_sortOf (v0 : Int32) : Option (Int32) :=
  (if v0 = (46 : Int32) then
    fX12_sortOf_b41 (0 : Int32)
  else
    (if v0 = (98 : Int32) then
      fX12_sortOf_b41 (1 : Int32)
    else
      (if v0 = (112 : Int32) then
        fX12_sortOf_b41 (2 : Int32)
      else
        (if v0 = (120 : Int32) then
          fX12_sortOf_b41 (3 : Int32)
        else
          fX12_sortOf_b41 (-1 : Int32)))))
def fX12_readPage_b206 (σ : SM) (w0 : Int32) : Option (SM) :=
  (if w0 = 0 ∨ w0 = 1 then
    some ((sm_rp_isWhole σ w0))
  else none)
def fX12_readPage_b205 (σ : SM) : Option (SM) :=
  fX12_readPage_b206 σ (0 : Int32)
def fX12_readPage_b172 (σ : SM) (v1 : Int32) (v2 : Int32) : Option (SM) :=
  (if v2 = (gm_pg_pageLength σ) then
    (if 0 < (gm_rp_newRows σ) then
      (if v1 = (gm_rp_newColumns σ) then
        fX12_readPage_b206 (sm_rp_faultAt σ v2) (1 : Int32)
      else
        fX12_readPage_b205 (sm_rp_faultAt σ v2))
    else
      fX12_readPage_b205 (sm_rp_faultAt σ v2))
  else
    fX12_readPage_b205 (sm_rp_faultAt σ v2))
def fX12_readPage_b167 (k16 : SM → Int32 → Int32 → Int32 → Option (SM)) (σ : SM) (v1 : Int32) (v3 : Int32) (w0 : Int32) (w1 : Int32) : Option (SM) :=
  k16 σ v1 (w1 + w0) v3
def fX12_readPage_b157 (k16 : SM → Int32 → Int32 → Int32 → Option (SM)) (σ : SM) (v1 : Int32) (v2 : Int32) (v3 : Int32) : Option (SM) :=
  (if v3 = 0 then
    fX12_readPage_b167 k16 σ v1 v3 (0 : Int32) v2
  else
    fX12_readPage_b167 k16 σ v1 v3 (1 : Int32) v2)
def fX12_readPage_b155 (k16 : SM → Int32 → Int32 → Int32 → Option (SM)) (σ : SM) (v1 : Int32) (v2 : Int32) : Option (SM) :=
  fX12_readPage_b157 k16 σ v1 v2 (0 : Int32)
def fX12_readPage_b135 (k16 : SM → Int32 → Int32 → Int32 → Option (SM)) (σ : SM) (v1 : Int32) (v2 : Int32) (v3 : Int32) : Option (SM) :=
  fX12_readPage_b157 k16 (sm_rp_newRows (sm_rp_newColumns σ v1) ((gm_rp_newRows σ) + (1 : Int32))) (0 : Int32) v2 v3
def fX12_readPage_b93 (k16 : SM → Int32 → Int32 → Int32 → Option (SM)) (σ : SM) (v1 : Int32) (v2 : Int32) (v3 : Int32) : Option (SM) :=
  (if ¬ (v2 < 0 ∨ 45 ≤ v2.toNatClampNeg) then
    (if ((gm_pg_page σ) v2.toNatClampNeg) = (47 : Int32) then
      (if (gm_rp_newRows σ) < (5 : Int32) then
        (if (gm_rp_newRows σ) = 0 then
          (if (1 : Int32) < v1 then
            fX12_readPage_b135 k16 σ v1 v2 v3
          else
            fX12_readPage_b155 k16 σ v1 v2)
        else
          (if v1 = (gm_rp_newColumns σ) then
            fX12_readPage_b135 k16 σ v1 v2 v3
          else
            fX12_readPage_b155 k16 σ v1 v2))
      else
        fX12_readPage_b155 k16 σ v1 v2)
    else
      fX12_readPage_b155 k16 σ v1 v2)
  else none)
def fX12_readPage_b55 (k16 : SM → Int32 → Int32 → Int32 → Option (SM)) (σ : SM) (v1 : Int32) (v2 : Int32) (v3 : Int32) (v4 : Int32) (w0 : Int32) : Option (SM) :=
  (if v4 = (-1 : Int32) then
    fX12_readPage_b93 k16 σ v1 v2 v3
  else
    (if v1 < w0 then
      (if ¬ ((((gm_rp_newRows σ) * (gm_rp_newColumns σ)) + v1) < 0 ∨ 36 ≤ (((gm_rp_newRows σ) * (gm_rp_newColumns σ)) + v1).toNatClampNeg) then
        fX12_readPage_b157 k16 (sm_rp_newCell σ (upd (gm_rp_newCell σ) (((gm_rp_newRows σ) * (gm_rp_newColumns σ)) + v1).toNatClampNeg v4)) (v1 + (1 : Int32)) v2 v3
      else none)
    else
      fX12_readPage_b93 k16 σ v1 v2 v3))
def fX12_readPage_b16 (k16 : SM → Int32 → Int32 → Int32 → Option (SM)) (σ : SM) (v1 : Int32) (v2 : Int32) (v3 : Int32) : Option (SM) :=
  (if v2 < (gm_pg_pageLength σ) then
    (if v3 = 0 then
      fX12_readPage_b172 σ v1 v2
    else
      (if ¬ (v2 < 0 ∨ 45 ≤ v2.toNatClampNeg) then
        ((fX12_sortOf ((gm_pg_page σ) v2.toNatClampNeg)).bind (fun r1 =>
          (if (gm_rp_newRows σ) = 0 then
            fX12_readPage_b55 k16 σ v1 v2 v3 r1 (6 : Int32)
          else
            fX12_readPage_b55 k16 σ v1 v2 v3 r1 (gm_rp_newColumns σ))))
      else none))
  else
    fX12_readPage_b172 σ v1 v2)
def fX12_readPage_l16 : Nat → SM → Int32 → Int32 → Int32 → Option (SM)
  | 0, _, _, _, _ => none
  | n + 1, σ, v1, v2, v3 => fX12_readPage_b16 (fX12_readPage_l16 n) σ v1 v2 v3
def fX12_readPage (σ : SM) : Option (SM) :=
  fX12_readPage_l16 1000 (sm_rp_newColumns (sm_rp_newRows σ (0 : Int32)) (0 : Int32)) (0 : Int32) (0 : Int32) (1 : Int32)
def fX12_fault (σ : SM) : Option (Int32 × SM) :=
  ((fX12_readPage σ).bind (fun r1 =>
    some ((gm_rp_faultAt r1), r1)))
def fX12_cells (σ : SM) : Option (Int32) :=
  some (((gm_rg_rows σ) * (gm_rg_columns σ)))
def fX12_isCell (σ : SM) (v1 : Int32) : Option (Int32) :=
  ((fX12_cells σ).bind (fun r1 =>
    ((fX12_within v1 (0 : Int32) (r1 - (1 : Int32))).bind (fun r2 =>
      (if r2 = 0 ∨ r2 = 1 then some (r2) else none)))))
def fX12_isFree_b23 (σ : SM) (w0 : Int32) : Option (Int32) :=
  (if w0 = 0 ∨ w0 = 1 then some (w0) else none)
def fX12_isFree_b22 (σ : SM) : Option (Int32) :=
  fX12_isFree_b23 σ (0 : Int32)
def fX12_isFree (σ : SM) (v1 : Int32) : Option (Int32) :=
  ((fX12_isCell σ v1).bind (fun r1 =>
    (if r1 = 0 then
      fX12_isFree_b22 σ
    else
      (if ¬ (v1 < 0 ∨ 36 ≤ v1.toNatClampNeg) then
        (if ((gm_rg_cellOf σ) v1.toNatClampNeg) < (2 : Int32) then
          fX12_isFree_b23 σ (1 : Int32)
        else
          fX12_isFree_b22 σ)
      else none))))
def fX12_layLost_b44 (k4 : SM → Int32 → Int32 → Option (Int32 × SM)) (σ : SM) (v2 : Int32) (w0 : Int32) (w1 : Int32) : Option (Int32 × SM) :=
  k4 σ (w1 + w0) (v2 + (1 : Int32))
def fX12_layLost_b33 (k4 : SM → Int32 → Int32 → Option (Int32 × SM)) (σ : SM) (v1 : Int32) (v2 : Int32) (v3 : Int32) (w0 : Int64) (w1 : Int32) : Option (Int32 × SM) :=
  (if ¬ (w1 < 0 ∨ 144 ≤ w1.toNatClampNeg) then
    (if v3 = 0 then
      fX12_layLost_b44 k4 (sm_od_weight σ (vp_updL (gm_od_weight σ) w1.toNatClampNeg w0)) v2 (0 : Int32) v1
    else
      fX12_layLost_b44 k4 (sm_od_weight σ (vp_updL (gm_od_weight σ) w1.toNatClampNeg w0)) v2 (1 : Int32) v1)
  else none)
def fX12_layLost_b4 (k4 : SM → Int32 → Int32 → Option (Int32 × SM)) (σ : SM) (v1 : Int32) (v2 : Int32) : Option (Int32 × SM) :=
  (if v2 < (144 : Int32) then
    ((fX12_isFree σ (v2 / (4 : Int32))).bind (fun r1 =>
      (if r1 = 0 then
        fX12_layLost_b33 k4 σ v1 v2 r1 (0 : Int64) v2
      else
        fX12_layLost_b33 k4 σ v1 v2 r1 (1 : Int64) v2)))
  else
    some (v1, (sm_od_updates σ (0 : Int32))))
def fX12_layLost_l4 : Nat → SM → Int32 → Int32 → Option (Int32 × SM)
  | 0, _, _, _ => none
  | n + 1, σ, v1, v2 => fX12_layLost_b4 (fX12_layLost_l4 n) σ v1 v2
def fX12_layLost (σ : SM) : Option (Int32 × SM) :=
  fX12_layLost_l4 1000 σ (0 : Int32) (0 : Int32)
def fX12_ring_b81 (k81 : SM → Int32 → Option (Int32 × SM)) (σ : SM) (v2 : Int32) : Option (Int32 × SM) :=
  (if v2 < ((gm_rg_rows σ) * (gm_rg_columns σ)) then
    (if ¬ (v2 < 0 ∨ 36 ≤ v2.toNatClampNeg) then
      (if ¬ (v2 < 0 ∨ 36 ≤ v2.toNatClampNeg) then
        k81 (sm_rg_cellOf σ (upd (gm_rg_cellOf σ) v2.toNatClampNeg ((gm_rp_newCell σ) v2.toNatClampNeg))) (v2 + (1 : Int32))
      else none)
    else none)
  else
    ((fX12_layLost (sm_nm_jacketTenths (sm_nm_jacketB (sm_nm_jacketA (sm_pl_players (sm_rg_rings σ ((gm_rg_rings σ) + (1 : Int32))) (0 : Int32)) (-1 : Int32)) (-1 : Int32)) (0 : Int32))).bind (fun r2 =>
      some (((gm_rg_rows r2.2) * (gm_rg_columns r2.2)), (sm_pg_pageLength r2.2 (0 : Int32))))))
def fX12_ring_l81 : Nat → SM → Int32 → Option (Int32 × SM)
  | 0, _, _ => none
  | n + 1, σ, v2 => fX12_ring_b81 (fX12_ring_l81 n) σ v2
def fX12_ring_b54 (σ : SM) (v1 : Int32) : Option (Int32 × SM) :=
  (if v1 = 0 then
    some ((-103 : Int32), σ)
  else
    fX12_ring_l81 1000 (sm_rg_columns (sm_rg_rows σ ((gm_rp_newRows σ) + (1 : Int32))) (gm_rp_newColumns σ)) (0 : Int32))
def fX12_ring_b46 (k8 : SM → Int32 → Int32 → Option (Int32 × SM)) (σ : SM) (v2 : Int32) (w0 : Int32) (w1 : Int32) : Option (Int32 × SM) :=
  k8 σ (w1 + w0) (v2 + (1 : Int32))
def fX12_ring_b8 (k8 : SM → Int32 → Int32 → Option (Int32 × SM)) (σ : SM) (v1 : Int32) (v2 : Int32) : Option (Int32 × SM) :=
  (if (gm_rp_isWhole σ) = 0 then
    fX12_ring_b54 σ v1
  else
    (if v2 < (((gm_rp_newRows σ) + (1 : Int32)) * (gm_rp_newColumns σ)) then
      (if ¬ (v2 < 0 ∨ 36 ≤ v2.toNatClampNeg) then
        (if ((gm_rp_newCell σ) v2.toNatClampNeg) < (2 : Int32) then
          fX12_ring_b46 k8 σ v2 (1 : Int32) v1
        else
          fX12_ring_b46 k8 σ v2 (0 : Int32) v1)
      else none)
    else
      fX12_ring_b54 σ v1))
def fX12_ring_l8 : Nat → SM → Int32 → Int32 → Option (Int32 × SM)
  | 0, _, _, _ => none
  | n + 1, σ, v1, v2 => fX12_ring_b8 (fX12_ring_l8 n) σ v1 v2
def fX12_ring (σ : SM) : Option (Int32 × SM) :=
  ((fX12_readPage σ).bind (fun r1 =>
    fX12_ring_l8 1000 r1 (0 : Int32) (0 : Int32)))
def fX12_cell_b19 (σ : SM) (w0 : Int32) : Option (Int32) :=
  some (w0)
def fX12_cell (σ : SM) (v1 : Int32) : Option (Int32) :=
  ((fX12_isCell σ v1).bind (fun r1 =>
    (if r1 = 0 then
      fX12_cell_b19 σ (-101 : Int32)
    else
      (if ¬ (v1 < 0 ∨ 36 ≤ v1.toNatClampNeg) then
        fX12_cell_b19 σ ((gm_rg_cellOf σ) v1.toNatClampNeg)
      else none))))
def fX12_on_b96 (σ : SM) (w0 : Int32) : Option (Int32) :=
  some (w0)
def fX12_on_b95 (σ : SM) : Option (Int32) :=
  fX12_on_b96 σ (-1 : Int32)
def fX12_on_b51 (σ : SM) (v3 : Int32) (w0 : Int32) (w1 : Int32) : Option (Int32) :=
  ((fX12_within v3 (0 : Int32) ((gm_rg_rows σ) - (1 : Int32))).bind (fun r1 =>
    (if r1 = 0 then
      fX12_on_b95 σ
    else
      ((fX12_within (w1 + w0) (0 : Int32) ((gm_rg_columns σ) - (1 : Int32))).bind (fun r2 =>
        (if r2 = 0 then
          fX12_on_b95 σ
        else
          fX12_on_b96 σ ((v3 * (gm_rg_columns σ)) + (w1 + w0))))))))
def fX12_on_b24 (σ : SM) (v1 : Int32) (v2 : Int32) (w0 : Int32) (w1 : Int32) : Option (Int32) :=
  (if ¬ (gm_rg_columns σ) = 0 then
    (if v2 = (1 : Int32) then
      fX12_on_b51 σ (w1 + w0) (1 : Int32) (v1 - v1 / (gm_rg_columns σ) * (gm_rg_columns σ))
    else
      (if v2 = (3 : Int32) then
        fX12_on_b51 σ (w1 + w0) (-1 : Int32) (v1 - v1 / (gm_rg_columns σ) * (gm_rg_columns σ))
      else
        fX12_on_b51 σ (w1 + w0) (0 : Int32) (v1 - v1 / (gm_rg_columns σ) * (gm_rg_columns σ))))
  else none)
def fX12_on (σ : SM) (v1 : Int32) (v2 : Int32) : Option (Int32) :=
  (if ¬ (gm_rg_columns σ) = 0 then
    (if v2 = 0 then
      fX12_on_b24 σ v1 v2 (-1 : Int32) (v1 / (gm_rg_columns σ))
    else
      (if v2 = (2 : Int32) then
        fX12_on_b24 σ v1 v2 (1 : Int32) (v1 / (gm_rg_columns σ))
      else
        fX12_on_b24 σ v1 v2 (0 : Int32) (v1 / (gm_rg_columns σ))))
  else none)
def fX12_isWay (v0 : Int32) : Option (Int32) :=
  ((fX12_within v0 (0 : Int32) (3 : Int32)).bind (fun r1 =>
    (if r1 = 0 ∨ r1 = 1 then some (r1) else none)))
def fX12_clear_b2 (k2 : SM → Int32 → Option (SM)) (σ : SM) (v1 : Int32) : Option (SM) :=
  (if v1 < (144 : Int32) then
    (if ¬ (v1 < 0 ∨ 144 ≤ v1.toNatClampNeg) then
      k2 (sm_od_then σ (vp_updL (gm_od_then σ) v1.toNatClampNeg (0 : Int64))) (v1 + (1 : Int32))
    else none)
  else
    some (σ))
def fX12_clear_l2 : Nat → SM → Int32 → Option (SM)
  | 0, _, _ => none
  | n + 1, σ, v1 => fX12_clear_b2 (fX12_clear_l2 n) σ v1
def fX12_clear (σ : SM) : Option (SM) :=
  fX12_clear_l2 1000 σ (0 : Int32)
def fX12_set_b49 (k23 : SM → Int32 → Int32 → Int32 → Option (Int32 × SM)) (σ : SM) (v1 : Int32) (v2 : Int32) (v3 : Int32) (w0 : Int64) (w1 : Int32) : Option (Int32 × SM) :=
  (if ¬ (w1 < 0 ∨ 144 ≤ w1.toNatClampNeg) then
    k23 (sm_od_weight σ (vp_updL (gm_od_weight σ) w1.toNatClampNeg w0)) v1 v2 (v3 + (1 : Int32))
  else none)
def fX12_set_b23 (k23 : SM → Int32 → Int32 → Int32 → Option (Int32 × SM)) (σ : SM) (v1 : Int32) (v2 : Int32) (v3 : Int32) : Option (Int32 × SM) :=
  (if v3 < (144 : Int32) then
    (if v3 = (((4 : Int32) * v1) + v2) then
      fX12_set_b49 k23 σ v1 v2 v3 (1 : Int64) v3
    else
      fX12_set_b49 k23 σ v1 v2 v3 (0 : Int64) v3)
  else
    some ((1 : Int32), (sm_od_updates σ (0 : Int32))))
def fX12_set_l23 : Nat → SM → Int32 → Int32 → Int32 → Option (Int32 × SM)
  | 0, _, _, _, _ => none
  | n + 1, σ, v1, v2, v3 => fX12_set_b23 (fX12_set_l23 n) σ v1 v2 v3
def fX12_set (σ : SM) (v1 : Int32) (v2 : Int32) : Option (Int32 × SM) :=
  ((fX12_isFree σ v1).bind (fun r1 =>
    (if r1 = 0 then
      some ((-101 : Int32), σ)
    else
      ((fX12_isWay v2).bind (fun r2 =>
        (if r2 = 0 then
          some ((-102 : Int32), σ)
        else
          fX12_set_l23 1000 σ v1 v2 (0 : Int32)))))))
def fX12_lost_b16 (σ : SM) (w0 : Int32) : Option (Int32 × SM) :=
  some (w0, σ)
def fX12_lost (σ : SM) : Option (Int32 × SM) :=
  (if (gm_rg_rings σ) = 0 then
    fX12_lost_b16 σ (-103 : Int32)
  else
    ((fX12_layLost σ).bind (fun r1 =>
      fX12_lost_b16 r1.2 r1.1)))
def fX12_above_b28 (σ : SM) (k4 : Int32 → Int32 → Option (Int32)) (v2 : Int32) (w0 : Int32) (w1 : Int32) : Option (Int32) :=
  k4 (w1 + w0) (v2 + (1 : Int32))
def fX12_above_b4 (σ : SM) (k4 : Int32 → Int32 → Option (Int32)) (v1 : Int32) (v2 : Int32) : Option (Int32) :=
  (if v2 < (144 : Int32) then
    (if ¬ (v2 < 0 ∨ 144 ≤ v2.toNatClampNeg) then
      (if (0 : Int64) < ((gm_od_weight σ) v2.toNatClampNeg) then
        fX12_above_b28 σ k4 v2 (1 : Int32) v1
      else
        fX12_above_b28 σ k4 v2 (0 : Int32) v1)
    else none)
  else
    some (v1))
def fX12_above_l4 (σ : SM) : Nat → Int32 → Int32 → Option (Int32)
  | 0, _, _ => none
  | n + 1, v1, v2 => fX12_above_b4 σ (fX12_above_l4 σ n) v1 v2
def fX12_above (σ : SM) : Option (Int32) :=
  fX12_above_l4 σ 1000 (0 : Int32) (0 : Int32)
def fX12_take_b38 (k38 : SM → Int64 → Int32 → Option (Int32 × SM)) (σ : SM) (v1 : Int64) (v3 : Int32) : Option (Int32 × SM) :=
  (if v3 < (144 : Int32) then
    (if ¬ (v3 < 0 ∨ 144 ≤ v3.toNatClampNeg) then
      (if ¬ v1 = 0 then
        (if ¬ (v3 < 0 ∨ 144 ≤ v3.toNatClampNeg) then
          k38 (sm_od_weight σ (vp_updL (gm_od_weight σ) v3.toNatClampNeg (((gm_od_then σ) v3.toNatClampNeg) / v1))) v1 (v3 + (1 : Int32))
        else none)
      else none)
    else none)
  else
    ((fX12_above (sm_od_updates σ ((gm_od_updates σ) + (1 : Int32)))).bind (fun r1 =>
      some (r1, (sm_od_updates σ ((gm_od_updates σ) + (1 : Int32)))))))
def fX12_take_l38 : Nat → SM → Int64 → Int32 → Option (Int32 × SM)
  | 0, _, _, _ => none
  | n + 1, σ, v1, v3 => fX12_take_b38 (fX12_take_l38 n) σ v1 v3
def fX12_take_b4 (k4 : SM → Int64 → Int32 → Option (Int32 × SM)) (σ : SM) (v1 : Int64) (v3 : Int32) : Option (Int32 × SM) :=
  (if v3 < (144 : Int32) then
    (if ¬ (v3 < 0 ∨ 144 ≤ v3.toNatClampNeg) then
      ((fX12_divisor v1 ((gm_od_then σ) v3.toNatClampNeg)).bind (fun r2 =>
        k4 σ r2 (v3 + (1 : Int32))))
    else none)
  else
    (if v1 = (0 : Int64) then
      some ((-1 : Int32), σ)
    else
      fX12_take_l38 1000 σ v1 (0 : Int32)))
def fX12_take_l4 : Nat → SM → Int64 → Int32 → Option (Int32 × SM)
  | 0, _, _, _ => none
  | n + 1, σ, v1, v3 => fX12_take_b4 (fX12_take_l4 n) σ v1 v3
def fX12_take (σ : SM) : Option (Int32 × SM) :=
  fX12_take_l4 1000 σ (0 : Int64) (0 : Int32)
def fX12_turned_b40 (k40 : SM → Int32 → Int32 → Option (Int32 × SM)) (σ : SM) (v1 : Int32) (v2 : Int32) : Option (Int32 × SM) :=
  (if v2 < (144 : Int32) then
    (if ¬ (v2 < 0 ∨ 144 ≤ v2.toNatClampNeg) then
      (if ¬ (v2 < 0 ∨ 144 ≤ v2.toNatClampNeg) then
        (if ¬ (v2 < 0 ∨ 144 ≤ v2.toNatClampNeg) then
          (if ¬ ((((v2 / (4 : Int32)) * (4 : Int32)) + (((v2 - v2 / (4 : Int32) * (4 : Int32)) + (1 : Int32)) - ((v2 - v2 / (4 : Int32) * (4 : Int32)) + (1 : Int32)) / (4 : Int32) * (4 : Int32))) < 0 ∨ 144 ≤ (((v2 / (4 : Int32)) * (4 : Int32)) + (((v2 - v2 / (4 : Int32) * (4 : Int32)) + (1 : Int32)) - ((v2 - v2 / (4 : Int32) * (4 : Int32)) + (1 : Int32)) / (4 : Int32) * (4 : Int32))).toNatClampNeg) then
            (if ¬ (v2 < 0 ∨ 144 ≤ v2.toNatClampNeg) then
              (if ¬ ((((v2 / (4 : Int32)) * (4 : Int32)) + (((v2 - v2 / (4 : Int32) * (4 : Int32)) + (1 : Int32)) - ((v2 - v2 / (4 : Int32) * (4 : Int32)) + (1 : Int32)) / (4 : Int32) * (4 : Int32))) < 0 ∨ 144 ≤ (((v2 / (4 : Int32)) * (4 : Int32)) + (((v2 - v2 / (4 : Int32) * (4 : Int32)) + (1 : Int32)) - ((v2 - v2 / (4 : Int32) * (4 : Int32)) + (1 : Int32)) / (4 : Int32) * (4 : Int32))).toNatClampNeg) then
                (if ¬ ((((v2 / (4 : Int32)) * (4 : Int32)) + (((v2 - v2 / (4 : Int32) * (4 : Int32)) + (3 : Int32)) - ((v2 - v2 / (4 : Int32) * (4 : Int32)) + (3 : Int32)) / (4 : Int32) * (4 : Int32))) < 0 ∨ 144 ≤ (((v2 / (4 : Int32)) * (4 : Int32)) + (((v2 - v2 / (4 : Int32) * (4 : Int32)) + (3 : Int32)) - ((v2 - v2 / (4 : Int32) * (4 : Int32)) + (3 : Int32)) / (4 : Int32) * (4 : Int32))).toNatClampNeg) then
                  (if ¬ (v2 < 0 ∨ 144 ≤ v2.toNatClampNeg) then
                    (if ¬ ((((v2 / (4 : Int32)) * (4 : Int32)) + (((v2 - v2 / (4 : Int32) * (4 : Int32)) + (3 : Int32)) - ((v2 - v2 / (4 : Int32) * (4 : Int32)) + (3 : Int32)) / (4 : Int32) * (4 : Int32))) < 0 ∨ 144 ≤ (((v2 / (4 : Int32)) * (4 : Int32)) + (((v2 - v2 / (4 : Int32) * (4 : Int32)) + (3 : Int32)) - ((v2 - v2 / (4 : Int32) * (4 : Int32)) + (3 : Int32)) / (4 : Int32) * (4 : Int32))).toNatClampNeg) then
                      k40 (sm_od_then (sm_od_then (sm_od_then σ (vp_updL (gm_od_then σ) v2.toNatClampNeg (((gm_od_then σ) v2.toNatClampNeg) + (((10 : Int32) - ((2 : Int32) * v1)).toInt64 * ((gm_od_weight σ) v2.toNatClampNeg))))) (vp_updL (vp_updL (gm_od_then σ) v2.toNatClampNeg (((gm_od_then σ) v2.toNatClampNeg) + (((10 : Int32) - ((2 : Int32) * v1)).toInt64 * ((gm_od_weight σ) v2.toNatClampNeg)))) (((v2 / (4 : Int32)) * (4 : Int32)) + (((v2 - v2 / (4 : Int32) * (4 : Int32)) + (1 : Int32)) - ((v2 - v2 / (4 : Int32) * (4 : Int32)) + (1 : Int32)) / (4 : Int32) * (4 : Int32))).toNatClampNeg (((vp_updL (gm_od_then σ) v2.toNatClampNeg (((gm_od_then σ) v2.toNatClampNeg) + (((10 : Int32) - ((2 : Int32) * v1)).toInt64 * ((gm_od_weight σ) v2.toNatClampNeg)))) (((v2 / (4 : Int32)) * (4 : Int32)) + (((v2 - v2 / (4 : Int32) * (4 : Int32)) + (1 : Int32)) - ((v2 - v2 / (4 : Int32) * (4 : Int32)) + (1 : Int32)) / (4 : Int32) * (4 : Int32))).toNatClampNeg) + (v1.toInt64 * ((gm_od_weight σ) v2.toNatClampNeg))))) (vp_updL (vp_updL (vp_updL (gm_od_then σ) v2.toNatClampNeg (((gm_od_then σ) v2.toNatClampNeg) + (((10 : Int32) - ((2 : Int32) * v1)).toInt64 * ((gm_od_weight σ) v2.toNatClampNeg)))) (((v2 / (4 : Int32)) * (4 : Int32)) + (((v2 - v2 / (4 : Int32) * (4 : Int32)) + (1 : Int32)) - ((v2 - v2 / (4 : Int32) * (4 : Int32)) + (1 : Int32)) / (4 : Int32) * (4 : Int32))).toNatClampNeg (((vp_updL (gm_od_then σ) v2.toNatClampNeg (((gm_od_then σ) v2.toNatClampNeg) + (((10 : Int32) - ((2 : Int32) * v1)).toInt64 * ((gm_od_weight σ) v2.toNatClampNeg)))) (((v2 / (4 : Int32)) * (4 : Int32)) + (((v2 - v2 / (4 : Int32) * (4 : Int32)) + (1 : Int32)) - ((v2 - v2 / (4 : Int32) * (4 : Int32)) + (1 : Int32)) / (4 : Int32) * (4 : Int32))).toNatClampNeg) + (v1.toInt64 * ((gm_od_weight σ) v2.toNatClampNeg)))) (((v2 / (4 : Int32)) * (4 : Int32)) + (((v2 - v2 / (4 : Int32) * (4 : Int32)) + (3 : Int32)) - ((v2 - v2 / (4 : Int32) * (4 : Int32)) + (3 : Int32)) / (4 : Int32) * (4 : Int32))).toNatClampNeg (((vp_updL (vp_updL (gm_od_then σ) v2.toNatClampNeg (((gm_od_then σ) v2.toNatClampNeg) + (((10 : Int32) - ((2 : Int32) * v1)).toInt64 * ((gm_od_weight σ) v2.toNatClampNeg)))) (((v2 / (4 : Int32)) * (4 : Int32)) + (((v2 - v2 / (4 : Int32) * (4 : Int32)) + (1 : Int32)) - ((v2 - v2 / (4 : Int32) * (4 : Int32)) + (1 : Int32)) / (4 : Int32) * (4 : Int32))).toNatClampNeg (((vp_updL (gm_od_then σ) v2.toNatClampNeg (((gm_od_then σ) v2.toNatClampNeg) + (((10 : Int32) - ((2 : Int32) * v1)).toInt64 * ((gm_od_weight σ) v2.toNatClampNeg)))) (((v2 / (4 : Int32)) * (4 : Int32)) + (((v2 - v2 / (4 : Int32) * (4 : Int32)) + (1 : Int32)) - ((v2 - v2 / (4 : Int32) * (4 : Int32)) + (1 : Int32)) / (4 : Int32) * (4 : Int32))).toNatClampNeg) + (v1.toInt64 * ((gm_od_weight σ) v2.toNatClampNeg)))) (((v2 / (4 : Int32)) * (4 : Int32)) + (((v2 - v2 / (4 : Int32) * (4 : Int32)) + (3 : Int32)) - ((v2 - v2 / (4 : Int32) * (4 : Int32)) + (3 : Int32)) / (4 : Int32) * (4 : Int32))).toNatClampNeg) + (v1.toInt64 * ((gm_od_weight σ) v2.toNatClampNeg))))) v1 (v2 + (1 : Int32))
                    else none)
                  else none)
                else none)
              else none)
            else none)
          else none)
        else none)
      else none)
    else none)
  else
    ((fX12_take σ).bind (fun r3 =>
      some (r3.1, r3.2))))
def fX12_turned_l40 : Nat → SM → Int32 → Int32 → Option (Int32 × SM)
  | 0, _, _, _ => none
  | n + 1, σ, v1, v2 => fX12_turned_b40 (fX12_turned_l40 n) σ v1 v2
def fX12_turned (σ : SM) (v1 : Int32) : Option (Int32 × SM) :=
  (if (gm_rg_rings σ) = 0 then
    some ((-103 : Int32), σ)
  else
    ((fX12_within v1 (0 : Int32) (5 : Int32)).bind (fun r1 =>
      (if r1 = 0 then
        some ((-102 : Int32), σ)
      else
        (if (gm_od_updates σ) = (9 : Int32) then
          some ((-104 : Int32), σ)
        else
          ((fX12_clear σ).bind (fun r2 =>
            fX12_turned_l40 1000 r2 v1 (0 : Int32))))))))
def fX12_sortAt_b23 (σ : SM) (w0 : Int32) : Option (Int32) :=
  some (w0)
def fX12_sortAt_b13 (σ : SM) : Option (Int32) :=
  fX12_sortAt_b23 σ (3 : Int32)
def fX12_sortAt (σ : SM) (v1 : Int32) : Option (Int32) :=
  (if v1 = (-1 : Int32) then
    fX12_sortAt_b13 σ
  else
    (if v1 = (gm_rp_gonePost σ) then
      fX12_sortAt_b13 σ
    else
      (if ¬ (v1 < 0 ∨ 36 ≤ v1.toNatClampNeg) then
        fX12_sortAt_b23 σ ((gm_rg_cellOf σ) v1.toNatClampNeg)
      else none)))
def fX12_feltOf_b27 (w0 : Int32) : Option (Int32) :=
  some (w0)
def fX12_feltOf (v0 : Int32) : Option (Int32) :=
  (if v0 = 0 then
    fX12_feltOf_b27 (0 : Int32)
  else
    (if v0 = (3 : Int32) then
      fX12_feltOf_b27 (1 : Int32)
    else
      (if v0 = (2 : Int32) then
        fX12_feltOf_b27 (2 : Int32)
      else
        fX12_feltOf_b27 (3 : Int32))))
def fX12_stepOne_b67 (σ : SM) : Option (SM) :=
  some (σ)
def fX12_stepOne_b42 (σ : SM) (v1 : Int32) (v2 : Int32) (v3 : Int32) (w0 : Int32) : Option (SM) :=
  (if ¬ ((((4 : Int32) * w0) + v2) < 0 ∨ 144 ≤ (((4 : Int32) * w0) + v2).toNatClampNeg) then
    (if ¬ (v1 < 0 ∨ 144 ≤ v1.toNatClampNeg) then
      (if ¬ ((((4 : Int32) * w0) + v2) < 0 ∨ 144 ≤ (((4 : Int32) * w0) + v2).toNatClampNeg) then
        fX12_stepOne_b67 (sm_od_then σ (vp_updL (gm_od_then σ) (((4 : Int32) * w0) + v2).toNatClampNeg (((gm_od_then σ) (((4 : Int32) * w0) + v2).toNatClampNeg) + (v3.toInt64 * ((gm_od_weight σ) v1.toNatClampNeg)))))
      else none)
    else none)
  else none)
def fX12_stepOne (σ : SM) (v1 : Int32) (v2 : Int32) (v3 : Int32) (v4 : Int32) : Option (SM) :=
  ((fX12_on σ (v1 / (4 : Int32)) v2).bind (fun r1 =>
    ((fX12_sortAt σ r1).bind (fun r2 =>
      ((fX12_feltOf r2).bind (fun r3 =>
        (if r3 = v4 then
          (if r2 < (2 : Int32) then
            fX12_stepOne_b42 σ v1 v2 v3 r1
          else
            fX12_stepOne_b42 σ v1 v2 v3 (v1 / (4 : Int32)))
        else
          fX12_stepOne_b67 σ)))))))
def fX12_layStep_b81 (k7 : SM → Int32 → Int32 → Int32 → Int32 → Option (SM)) (σ : SM) (v1 : Int32) (v2 : Int32) (v3 : Int32) (v4 : Int32) : Option (SM) :=
  k7 σ v1 v2 v3 (v4 + (1 : Int32))
def fX12_layStep_b7 (k7 : SM → Int32 → Int32 → Int32 → Int32 → Option (SM)) (σ : SM) (v1 : Int32) (v2 : Int32) (v3 : Int32) (v4 : Int32) : Option (SM) :=
  ((fX12_cells σ).bind (fun r2 =>
    (if v4 < ((4 : Int32) * r2) then
      (if ¬ (v4 < 0 ∨ 144 ≤ v4.toNatClampNeg) then
        (if (0 : Int64) < ((gm_od_weight σ) v4.toNatClampNeg) then
          ((fX12_stepOne σ v4 ((v4 + v1) - (v4 + v1) / (4 : Int32) * (4 : Int32)) ((10 : Int32) - ((2 : Int32) * v2)) v3).bind (fun r3 =>
            ((fX12_stepOne r3 v4 ((((v4 + v1) - (v4 + v1) / (4 : Int32) * (4 : Int32)) + (3 : Int32)) - (((v4 + v1) - (v4 + v1) / (4 : Int32) * (4 : Int32)) + (3 : Int32)) / (4 : Int32) * (4 : Int32)) v2 v3).bind (fun r4 =>
              ((fX12_stepOne r4 v4 ((((v4 + v1) - (v4 + v1) / (4 : Int32) * (4 : Int32)) + (1 : Int32)) - (((v4 + v1) - (v4 + v1) / (4 : Int32) * (4 : Int32)) + (1 : Int32)) / (4 : Int32) * (4 : Int32)) v2 v3).bind (fun r5 =>
                fX12_layStep_b81 k7 r5 v1 v2 v3 v4))))))
        else
          fX12_layStep_b81 k7 σ v1 v2 v3 v4)
      else none)
    else
      some (σ))))
def fX12_layStep_l7 : Nat → SM → Int32 → Int32 → Int32 → Int32 → Option (SM)
  | 0, _, _, _, _, _ => none
  | n + 1, σ, v1, v2, v3, v4 => fX12_layStep_b7 (fX12_layStep_l7 n) σ v1 v2 v3 v4
def fX12_layStep (σ : SM) (v1 : Int32) (v2 : Int32) (v3 : Int32) : Option (SM) :=
  ((fX12_clear σ).bind (fun r1 =>
    fX12_layStep_l7 1000 r1 v1 v2 v3 (0 : Int32)))
def fX12_step_b66 (σ : SM) (w0 : Int32) : Option (Int32 × SM) :=
  some (w0, σ)
def fX12_step_b28 (σ : SM) : Option (Int32 × SM) :=
  some ((-102 : Int32), σ)
def fX12_step (σ : SM) (v1 : Int32) (v2 : Int32) : Option (Int32 × SM) :=
  (if (gm_rg_rings σ) = 0 then
    some ((-103 : Int32), σ)
  else
    ((fX12_within v1 (0 : Int32) (5 : Int32)).bind (fun r1 =>
      (if r1 = 0 then
        fX12_step_b28 σ
      else
        ((fX12_within v2 (0 : Int32) (3 : Int32)).bind (fun r2 =>
          (if r2 = 0 then
            fX12_step_b28 σ
          else
            (if (gm_od_updates σ) = (9 : Int32) then
              some ((-104 : Int32), σ)
            else
              ((fX12_layStep σ (0 : Int32) v1 v2).bind (fun r3 =>
                ((fX12_take r3).bind (fun r4 =>
                  (if r4.1 = (-1 : Int32) then
                    fX12_step_b66 r4.2 (-103 : Int32)
                  else
                    fX12_step_b66 r4.2 r4.1)))))))))))))
def fX12_liesFrom_b74 (σ : SM) (w0 : Int32) : Option (Int32) :=
  some (w0)
def fX12_liesFrom_b40 (σ : SM) (v3 : Int32) (v4 : Int32) : Option (Int32) :=
  ((fX12_size v3).bind (fun r1 =>
    ((fX12_size v4).bind (fun r2 =>
      (if r1 < r2 then
        (if 0 < v4 then
          fX12_liesFrom_b74 σ (1 : Int32)
        else
          fX12_liesFrom_b74 σ (3 : Int32))
      else
        (if v3 < 0 then
          fX12_liesFrom_b74 σ (0 : Int32)
        else
          fX12_liesFrom_b74 σ (2 : Int32)))))))
def fX12_liesFrom (σ : SM) (v1 : Int32) (v2 : Int32) : Option (Int32) :=
  (if ¬ (gm_rg_columns σ) = 0 then
    (if ¬ (gm_rg_columns σ) = 0 then
      (if ¬ (gm_rg_columns σ) = 0 then
        (if ¬ (gm_rg_columns σ) = 0 then
          (if ((v2 / (gm_rg_columns σ)) - (v1 / (gm_rg_columns σ))) = 0 then
            (if ((v2 - v2 / (gm_rg_columns σ) * (gm_rg_columns σ)) - (v1 - v1 / (gm_rg_columns σ) * (gm_rg_columns σ))) = 0 then
              some ((-1 : Int32))
            else
              fX12_liesFrom_b40 σ ((v2 / (gm_rg_columns σ)) - (v1 / (gm_rg_columns σ))) ((v2 - v2 / (gm_rg_columns σ) * (gm_rg_columns σ)) - (v1 - v1 / (gm_rg_columns σ) * (gm_rg_columns σ))))
          else
            fX12_liesFrom_b40 σ ((v2 / (gm_rg_columns σ)) - (v1 / (gm_rg_columns σ))) ((v2 - v2 / (gm_rg_columns σ) * (gm_rg_columns σ)) - (v1 - v1 / (gm_rg_columns σ) * (gm_rg_columns σ))))
        else none)
      else none)
    else none)
  else none)
def fX12_layHeard_b68 (k7 : SM → Int32 → Int32 → Int32 → Int32 → Option (SM)) (σ : SM) (v1 : Int32) (v2 : Int32) (v3 : Int32) (v4 : Int32) (w0 : Int32) : Option (SM) :=
  (if ¬ (v4 < 0 ∨ 144 ≤ v4.toNatClampNeg) then
    (if ¬ (v4 < 0 ∨ 144 ≤ v4.toNatClampNeg) then
      k7 (sm_od_then σ (vp_updL (gm_od_then σ) v4.toNatClampNeg (w0.toInt64 * ((gm_od_weight σ) v4.toNatClampNeg)))) v1 v2 v3 (v4 + (1 : Int32))
    else none)
  else none)
def fX12_layHeard_b7 (k7 : SM → Int32 → Int32 → Int32 → Int32 → Option (SM)) (σ : SM) (v1 : Int32) (v2 : Int32) (v3 : Int32) (v4 : Int32) : Option (SM) :=
  ((fX12_cells σ).bind (fun r2 =>
    (if v4 < ((4 : Int32) * r2) then
      ((fX12_liesFrom σ (v4 / (4 : Int32)) v1).bind (fun r3 =>
        (if r3 = (-1 : Int32) then
          fX12_layHeard_b68 k7 σ v1 v2 v3 v4 (15 : Int32)
        else
          (if (((r3 + (4 : Int32)) - (v4 - v4 / (4 : Int32) * (4 : Int32))) - ((r3 + (4 : Int32)) - (v4 - v4 / (4 : Int32) * (4 : Int32))) / (4 : Int32) * (4 : Int32)) = v2 then
            fX12_layHeard_b68 k7 σ v1 v2 v3 v4 ((6 : Int32) * v3)
          else
            fX12_layHeard_b68 k7 σ v1 v2 v3 v4 ((2 : Int32) * ((10 : Int32) - v3))))))
    else
      some (σ))))
def fX12_layHeard_l7 : Nat → SM → Int32 → Int32 → Int32 → Int32 → Option (SM)
  | 0, _, _, _, _, _ => none
  | n + 1, σ, v1, v2, v3, v4 => fX12_layHeard_b7 (fX12_layHeard_l7 n) σ v1 v2 v3 v4
def fX12_layHeard (σ : SM) (v1 : Int32) (v2 : Int32) (v3 : Int32) : Option (SM) :=
  ((fX12_clear σ).bind (fun r1 =>
    fX12_layHeard_l7 1000 r1 v1 v2 v3 (0 : Int32)))
def fX12_heard_b69 (σ : SM) (w0 : Int32) : Option (Int32 × SM) :=
  some (w0, σ)
def fX12_heard_b28 (σ : SM) : Option (Int32 × SM) :=
  some ((-102 : Int32), σ)
def fX12_heard (σ : SM) (v1 : Int32) (v2 : Int32) (v3 : Int32) : Option (Int32 × SM) :=
  ((fX12_isFree σ v1).bind (fun r1 =>
    (if r1 = 0 then
      some ((-101 : Int32), σ)
    else
      ((fX12_isWay v2).bind (fun r2 =>
        (if r2 = 0 then
          fX12_heard_b28 σ
        else
          ((fX12_within v3 (0 : Int32) (10 : Int32)).bind (fun r3 =>
            (if r3 = 0 then
              fX12_heard_b28 σ
            else
              (if (gm_od_updates σ) = (9 : Int32) then
                some ((-104 : Int32), σ)
              else
                ((fX12_layHeard σ v1 v2 v3).bind (fun r4 =>
                  ((fX12_take r4).bind (fun r5 =>
                    (if r5.1 = (-1 : Int32) then
                      fX12_heard_b69 r5.2 (-103 : Int32)
                    else
                      fX12_heard_b69 r5.2 r5.1)))))))))))))))
def fX12_all_b4 (σ : SM) (k4 : Int64 → Int32 → Option (Int64)) (v1 : Int64) (v3 : Int32) : Option (Int64) :=
  (if v3 < (144 : Int32) then
    (if ¬ (v3 < 0 ∨ 144 ≤ v3.toNatClampNeg) then
      k4 (v1 + ((gm_od_weight σ) v3.toNatClampNeg)) (v3 + (1 : Int32))
    else none)
  else
    some (v1))
def fX12_all_l4 (σ : SM) : Nat → Int64 → Int32 → Option (Int64)
  | 0, _, _ => none
  | n + 1, v1, v3 => fX12_all_b4 σ (fX12_all_l4 σ n) v1 v3
def fX12_all (σ : SM) : Option (Int64) :=
  fX12_all_l4 σ 1000 (0 : Int64) (0 : Int32)
def fX12_ofCell (σ : SM) (v1 : Int32) : Option (Int64) :=
  (if ¬ (((4 : Int32) * v1) < 0 ∨ 144 ≤ ((4 : Int32) * v1).toNatClampNeg) then
    (if ¬ ((((4 : Int32) * v1) + (1 : Int32)) < 0 ∨ 144 ≤ (((4 : Int32) * v1) + (1 : Int32)).toNatClampNeg) then
      (if ¬ ((((4 : Int32) * v1) + (2 : Int32)) < 0 ∨ 144 ≤ (((4 : Int32) * v1) + (2 : Int32)).toNatClampNeg) then
        (if ¬ ((((4 : Int32) * v1) + (3 : Int32)) < 0 ∨ 144 ≤ (((4 : Int32) * v1) + (3 : Int32)).toNatClampNeg) then
          some ((((((gm_od_weight σ) ((4 : Int32) * v1).toNatClampNeg) + ((gm_od_weight σ) (((4 : Int32) * v1) + (1 : Int32)).toNatClampNeg)) + ((gm_od_weight σ) (((4 : Int32) * v1) + (2 : Int32)).toNatClampNeg)) + ((gm_od_weight σ) (((4 : Int32) * v1) + (3 : Int32)).toNatClampNeg)))
        else none)
      else none)
    else none)
  else none)
def fX12_isPart (v0 : Int32) : Option (Int32) :=
  ((fX12_within v0 (0 : Int32) (1 : Int32)).bind (fun r1 =>
    (if r1 = 0 ∨ r1 = 1 then some (r1) else none)))
def fX12_odds_b38 (σ : SM) (w0 : Int64) : Option (Int64) :=
  some (w0)
def fX12_odds (σ : SM) (v1 : Int32) (v2 : Int32) : Option (Int64) :=
  ((fX12_isCell σ v1).bind (fun r1 =>
    (if r1 = 0 then
      some ((-101 : Int64))
    else
      ((fX12_isPart v2).bind (fun r2 =>
        (if r2 = 0 then
          fX12_odds_b38 σ (-102 : Int64)
        else
          ((fX12_ofCell σ v1).bind (fun r3 =>
            ((fX12_all σ).bind (fun r4 =>
              ((fX12_lowest r3 r4 v2).bind (fun r5 =>
                fX12_odds_b38 σ r5))))))))))))
def fX12_ways_b34 (σ : SM) (k34 : Int32 → Int32 → Int64 → Int32 → Option (Int64)) (v1 : Int32) (v2 : Int32) (v3 : Int64) (v5 : Int32) : Option (Int64) :=
  ((fX12_cells σ).bind (fun r3 =>
    (if v5 < r3 then
      (if ¬ ((((4 : Int32) * v5) + v1) < 0 ∨ 144 ≤ (((4 : Int32) * v5) + v1).toNatClampNeg) then
        k34 v1 v2 (v3 + ((gm_od_weight σ) (((4 : Int32) * v5) + v1).toNatClampNeg)) (v5 + (1 : Int32))
      else none)
    else
      ((fX12_all σ).bind (fun r4 =>
        ((fX12_lowest v3 r4 v2).bind (fun r5 =>
          some (r5))))))))
def fX12_ways_l34 (σ : SM) : Nat → Int32 → Int32 → Int64 → Int32 → Option (Int64)
  | 0, _, _, _, _ => none
  | n + 1, v1, v2, v3, v5 => fX12_ways_b34 σ (fX12_ways_l34 σ n) v1 v2 v3 v5
def fX12_ways_b25 (σ : SM) : Option (Int64) :=
  some ((-102 : Int64))
def fX12_ways (σ : SM) (v1 : Int32) (v2 : Int32) : Option (Int64) :=
  (if (gm_rg_rings σ) = 0 then
    some ((-103 : Int64))
  else
    ((fX12_isWay v1).bind (fun r1 =>
      (if r1 = 0 then
        fX12_ways_b25 σ
      else
        ((fX12_isPart v2).bind (fun r2 =>
          (if r2 = 0 then
            fX12_ways_b25 σ
          else
            fX12_ways_l34 σ 1000 v1 v2 (0 : Int64) (0 : Int32))))))))
def fX12_likeliestNow_b31 (σ : SM) (k4 : Int32 → Int32 → Option (Int32)) (v2 : Int32) (w0 : Int32) : Option (Int32) :=
  k4 w0 (v2 + (1 : Int32))
def fX12_likeliestNow_b4 (σ : SM) (k4 : Int32 → Int32 → Option (Int32)) (v1 : Int32) (v2 : Int32) : Option (Int32) :=
  ((fX12_cells σ).bind (fun r1 =>
    (if v2 < r1 then
      ((fX12_ofCell σ v2).bind (fun r2 =>
        ((fX12_ofCell σ v1).bind (fun r3 =>
          (if r3 < r2 then
            fX12_likeliestNow_b31 σ k4 v2 v2
          else
            fX12_likeliestNow_b31 σ k4 v2 v1)))))
    else
      some (v1))))
def fX12_likeliestNow_l4 (σ : SM) : Nat → Int32 → Int32 → Option (Int32)
  | 0, _, _ => none
  | n + 1, v1, v2 => fX12_likeliestNow_b4 σ (fX12_likeliestNow_l4 σ n) v1 v2
def fX12_likeliestNow (σ : SM) : Option (Int32) :=
  fX12_likeliestNow_l4 σ 1000 (0 : Int32) (1 : Int32)
def fX12_likeliest_b16 (σ : SM) (w0 : Int32) : Option (Int32) :=
  some (w0)
def fX12_likeliest (σ : SM) : Option (Int32) :=
  (if (gm_rg_rings σ) = 0 then
    fX12_likeliest_b16 σ (-103 : Int32)
  else
    ((fX12_likeliestNow σ).bind (fun r1 =>
      fX12_likeliest_b16 σ r1)))
def fX12_knows_b40 (σ : SM) (w0 : Int64) : Option (Int64) :=
  some (w0)
def fX12_knows (σ : SM) (v1 : Int32) : Option (Int64) :=
  (if (gm_rg_rings σ) = 0 then
    some ((-103 : Int64))
  else
    ((fX12_isPart v1).bind (fun r1 =>
      (if r1 = 0 then
        fX12_knows_b40 σ (-102 : Int64)
      else
        ((fX12_likeliestNow σ).bind (fun r2 =>
          ((fX12_ofCell σ r2).bind (fun r3 =>
            ((fX12_all σ).bind (fun r4 =>
              ((fX12_lowest r3 r4 v1).bind (fun r5 =>
                fX12_knows_b40 σ r5))))))))))))
def fX12_greatestThen_b68 (σ : SM) (k4 : Int64 → Int32 → Option (Int64)) (v3 : Int32) (w0 : Int64) : Option (Int64) :=
  k4 w0 (v3 + (1 : Int32))
def fX12_greatestThen_b4 (σ : SM) (k4 : Int64 → Int32 → Option (Int64)) (v1 : Int64) (v3 : Int32) : Option (Int64) :=
  ((fX12_cells σ).bind (fun r1 =>
    (if v3 < r1 then
      (if ¬ (((4 : Int32) * v3) < 0 ∨ 144 ≤ ((4 : Int32) * v3).toNatClampNeg) then
        (if ¬ ((((4 : Int32) * v3) + (1 : Int32)) < 0 ∨ 144 ≤ (((4 : Int32) * v3) + (1 : Int32)).toNatClampNeg) then
          (if ¬ ((((4 : Int32) * v3) + (2 : Int32)) < 0 ∨ 144 ≤ (((4 : Int32) * v3) + (2 : Int32)).toNatClampNeg) then
            (if ¬ ((((4 : Int32) * v3) + (3 : Int32)) < 0 ∨ 144 ≤ (((4 : Int32) * v3) + (3 : Int32)).toNatClampNeg) then
              (if v1 < (((((gm_od_then σ) ((4 : Int32) * v3).toNatClampNeg) + ((gm_od_then σ) (((4 : Int32) * v3) + (1 : Int32)).toNatClampNeg)) + ((gm_od_then σ) (((4 : Int32) * v3) + (2 : Int32)).toNatClampNeg)) + ((gm_od_then σ) (((4 : Int32) * v3) + (3 : Int32)).toNatClampNeg)) then
                fX12_greatestThen_b68 σ k4 v3 (((((gm_od_then σ) ((4 : Int32) * v3).toNatClampNeg) + ((gm_od_then σ) (((4 : Int32) * v3) + (1 : Int32)).toNatClampNeg)) + ((gm_od_then σ) (((4 : Int32) * v3) + (2 : Int32)).toNatClampNeg)) + ((gm_od_then σ) (((4 : Int32) * v3) + (3 : Int32)).toNatClampNeg))
              else
                fX12_greatestThen_b68 σ k4 v3 v1)
            else none)
          else none)
        else none)
      else none)
    else
      some (v1))))
def fX12_greatestThen_l4 (σ : SM) : Nat → Int64 → Int32 → Option (Int64)
  | 0, _, _ => none
  | n + 1, v1, v3 => fX12_greatestThen_b4 σ (fX12_greatestThen_l4 σ n) v1 v3
def fX12_greatestThen (σ : SM) : Option (Int64) :=
  fX12_greatestThen_l4 σ 1000 (0 : Int64) (0 : Int32)
def fX12_expectedNow_b54 (k6 : SM → Int32 → Int32 → Int32 → Int32 → Int64 → Int32 → Option (Int64 × SM)) (σ : SM) (v1 : Int32) (v2 : Int32) (v3 : Int32) (v4 : Int32) (v5 : Int64) (v7 : Int32) : Option (Int64 × SM) :=
  ((fX12_greatestThen σ).bind (fun r1 =>
    k6 σ v1 v2 v3 v4 (v5 + r1) (v7 + (1 : Int32))))
def fX12_expectedNow_b48 (k6 : SM → Int32 → Int32 → Int32 → Int32 → Int64 → Int32 → Option (Int64 × SM)) (σ : SM) (v1 : Int32) (v2 : Int32) (v3 : Int32) (v4 : Int32) (v5 : Int64) (v7 : Int32) (w0 : Int32) : Option (Int64 × SM) :=
  ((fX12_layStep σ w0 v2 v7).bind (fun r2 =>
    fX12_expectedNow_b54 k6 r2 v1 v2 v3 v4 v5 v7))
def fX12_expectedNow_b6 (k6 : SM → Int32 → Int32 → Int32 → Int32 → Int64 → Int32 → Option (Int64 × SM)) (σ : SM) (v1 : Int32) (v2 : Int32) (v3 : Int32) (v4 : Int32) (v5 : Int64) (v7 : Int32) : Option (Int64 × SM) :=
  (if v7 < (4 : Int32) then
    (if v1 = (3 : Int32) then
      ((fX12_layHeard σ v3 v7 v4).bind (fun r3 =>
        fX12_expectedNow_b54 k6 r3 v1 v2 v3 v4 v5 v7))
    else
      (if v1 = 0 then
        fX12_expectedNow_b48 k6 σ v1 v2 v3 v4 v5 v7 (0 : Int32)
      else
        (if v1 = (1 : Int32) then
          fX12_expectedNow_b48 k6 σ v1 v2 v3 v4 v5 v7 (3 : Int32)
        else
          fX12_expectedNow_b48 k6 σ v1 v2 v3 v4 v5 v7 (1 : Int32))))
  else
    some (v5, σ))
def fX12_expectedNow_l6 : Nat → SM → Int32 → Int32 → Int32 → Int32 → Int64 → Int32 → Option (Int64 × SM)
  | 0, _, _, _, _, _, _, _ => none
  | n + 1, σ, v1, v2, v3, v4, v5, v7 => fX12_expectedNow_b6 (fX12_expectedNow_l6 n) σ v1 v2 v3 v4 v5 v7
def fX12_expectedNow (σ : SM) (v1 : Int32) (v2 : Int32) (v3 : Int32) (v4 : Int32) : Option (Int64 × SM) :=
  fX12_expectedNow_l6 1000 σ v1 v2 v3 v4 (0 : Int64) (0 : Int32)
def fX12_areMany_b14 (σ : SM) (w0 : Int32) : Option (Int32) :=
  (if w0 = 0 ∨ w0 = 1 then some (w0) else none)
def fX12_areMany (σ : SM) : Option (Int32) :=
  (if (7 : Int32) < (gm_od_updates σ) then
    fX12_areMany_b14 σ (1 : Int32)
  else
    fX12_areMany_b14 σ (0 : Int32))
def fX12_expected_b112 (σ : SM) (v5 : Int32) (w0 : Int64) (w1 : Int64) : Option (Int64 × SM) :=
  ((fX12_all σ).bind (fun r5 =>
    ((fX12_lowest w1 (w0 * r5) v5).bind (fun r6 =>
      some (r6, σ)))))
def fX12_expected_b78 (σ : SM) (v1 : Int32) (v2 : Int32) (v3 : Int32) (v4 : Int32) (v5 : Int32) : Option (Int64 × SM) :=
  ((fX12_areMany σ).bind (fun r7 =>
    (if r7 = 0 then
      ((fX12_expectedNow σ v1 v2 v3 v4).bind (fun r8 =>
        (if v1 = (3 : Int32) then
          fX12_expected_b112 r8.2 v5 (60 : Int64) r8.1
        else
          fX12_expected_b112 r8.2 v5 (10 : Int64) r8.1)))
    else
      some ((-103 : Int64), σ))))
def fX12_expected_b58 (σ : SM) (v1 : Int32) (v2 : Int32) (v3 : Int32) (v4 : Int32) (v5 : Int32) : Option (Int64 × SM) :=
  (if v1 = (3 : Int32) then
    ((fX12_within v4 (0 : Int32) (10 : Int32)).bind (fun r9 =>
      (if r9 = 0 then
        some ((-102 : Int64), σ)
      else
        fX12_expected_b78 σ v1 v2 v3 v4 v5)))
  else
    fX12_expected_b78 σ v1 v2 v3 v4 v5)
def fX12_expected_b37 (σ : SM) : Option (Int64 × SM) :=
  some ((-102 : Int64), σ)
def fX12_expected (σ : SM) (v1 : Int32) (v2 : Int32) (v3 : Int32) (v4 : Int32) (v5 : Int32) : Option (Int64 × SM) :=
  (if (gm_rg_rings σ) = 0 then
    some ((-103 : Int64), σ)
  else
    ((fX12_within v1 (0 : Int32) (3 : Int32)).bind (fun r1 =>
      (if r1 = 0 then
        fX12_expected_b37 σ
      else
        ((fX12_within v2 (0 : Int32) (5 : Int32)).bind (fun r2 =>
          (if r2 = 0 then
            fX12_expected_b37 σ
          else
            ((fX12_isPart v5).bind (fun r3 =>
              (if r3 = 0 then
                fX12_expected_b37 σ
              else
                (if v1 = (3 : Int32) then
                  ((fX12_isFree σ v3).bind (fun r4 =>
                    (if r4 = 0 then
                      some ((-101 : Int64), σ)
                    else
                      fX12_expected_b58 σ v1 v2 v3 v4 v5)))
                else
                  fX12_expected_b58 σ v1 v2 v3 v4 v5)))))))))))
def fX12_next_b143 (k65 : SM → Int32 → Int32 → Int32 → Int32 → Int64 → Int32 → Option (Int32 × SM)) (σ : SM) (v1 : Int32) (v2 : Int32) (v3 : Int32) (v4 : Int32) (v7 : Int32) (w0 : Int64) : Option (Int32 × SM) :=
  k65 σ v1 v2 v3 v4 w0 (v7 + (1 : Int32))
def fX12_next_b129 (k65 : SM → Int32 → Int32 → Int32 → Int32 → Int64 → Int32 → Option (Int32 × SM)) (σ : SM) (v1 : Int32) (v2 : Int32) (v3 : Int32) (v5 : Int64) (v7 : Int32) (v8 : Int64) (v10 : Int32) (w0 : Int32) : Option (Int32 × SM) :=
  (if v10 = 0 then
    fX12_next_b143 k65 σ v1 v2 v3 w0 v7 v5
  else
    fX12_next_b143 k65 σ v1 v2 v3 w0 v7 v8)
def fX12_next_b115 (k65 : SM → Int32 → Int32 → Int32 → Int32 → Int64 → Int32 → Option (Int32 × SM)) (σ : SM) (v1 : Int32) (v2 : Int32) (v3 : Int32) (v4 : Int32) (v5 : Int64) (v7 : Int32) (v8 : Int64) (w0 : Int32) : Option (Int32 × SM) :=
  (if w0 = 0 then
    fX12_next_b129 k65 σ v1 v2 v3 v5 v7 v8 w0 v4
  else
    fX12_next_b129 k65 σ v1 v2 v3 v5 v7 v8 w0 v7)
def fX12_next_b110 (k65 : SM → Int32 → Int32 → Int32 → Int32 → Int64 → Int32 → Option (Int32 × SM)) (σ : SM) (v1 : Int32) (v2 : Int32) (v3 : Int32) (v4 : Int32) (v5 : Int64) (v7 : Int32) (v8 : Int64) : Option (Int32 × SM) :=
  fX12_next_b115 k65 σ v1 v2 v3 v4 v5 v7 v8 (1 : Int32)
def fX12_next_b93 (k65 : SM → Int32 → Int32 → Int32 → Int32 → Int64 → Int32 → Option (Int32 × SM)) (σ : SM) (v1 : Int32) (v2 : Int32) (v3 : Int32) (v4 : Int32) (v5 : Int64) (v7 : Int32) (w0 : Int64) (w1 : Int64) : Option (Int32 × SM) :=
  (if v4 = (-1 : Int32) then
    fX12_next_b110 k65 σ v1 v2 v3 v4 v5 v7 (w1 * w0)
  else
    (if v5 < (w1 * w0) then
      fX12_next_b110 k65 σ v1 v2 v3 v4 v5 v7 (w1 * w0)
    else
      fX12_next_b115 k65 σ v1 v2 v3 v4 v5 v7 (w1 * w0) (0 : Int32)))
def fX12_next_b65 (k65 : SM → Int32 → Int32 → Int32 → Int32 → Int64 → Int32 → Option (Int32 × SM)) (σ : SM) (v1 : Int32) (v2 : Int32) (v3 : Int32) (v4 : Int32) (v5 : Int64) (v7 : Int32) : Option (Int32 × SM) :=
  (if v7 < (4 : Int32) then
    ((fX12_expectedNow σ v7 v1 v2 v3).bind (fun r5 =>
      (if v7 = (3 : Int32) then
        fX12_next_b93 k65 r5.2 v1 v2 v3 v4 v5 v7 (1 : Int64) r5.1
      else
        fX12_next_b93 k65 r5.2 v1 v2 v3 v4 v5 v7 (6 : Int64) r5.1)))
  else
    some (v4, σ))
def fX12_next_l65 : Nat → SM → Int32 → Int32 → Int32 → Int32 → Int64 → Int32 → Option (Int32 × SM)
  | 0, _, _, _, _, _, _, _ => none
  | n + 1, σ, v1, v2, v3, v4, v5, v7 => fX12_next_b65 (fX12_next_l65 n) σ v1 v2 v3 v4 v5 v7
def fX12_next (σ : SM) (v1 : Int32) (v2 : Int32) (v3 : Int32) : Option (Int32 × SM) :=
  (if (gm_rg_rings σ) = 0 then
    some ((-103 : Int32), σ)
  else
    ((fX12_within v1 (0 : Int32) (5 : Int32)).bind (fun r1 =>
      (if r1 = 0 then
        some ((-102 : Int32), σ)
      else
        ((fX12_isFree σ v2).bind (fun r2 =>
          (if r2 = 0 then
            some ((-101 : Int32), σ)
          else
            ((fX12_within v3 (0 : Int32) (10 : Int32)).bind (fun r3 =>
              (if r3 = 0 then
                some ((-102 : Int32), σ)
              else
                ((fX12_areMany σ).bind (fun r4 =>
                  (if r4 = 0 then
                    fX12_next_l65 1000 σ v1 v2 v3 (-1 : Int32) (0 : Int64) (0 : Int32)
                  else
                    some ((-103 : Int32), σ))))))))))))))
def fX12_post_b38 (σ : SM) : Option (Int64 × SM) :=
  some ((-1000000000000000002 : Int64), σ)
def fX12_post_b18 (σ : SM) : Option (Int64 × SM) :=
  some ((-1000000000000000001 : Int64), σ)
def fX12_post (σ : SM) (v1 : Int32) (v2 : Int32) (v3 : Int32) : Option (Int64 × SM) :=
  ((fX12_isCell σ v1).bind (fun r1 =>
    (if r1 = 0 then
      fX12_post_b18 σ
    else
      (if ¬ (v1 < 0 ∨ 36 ≤ v1.toNatClampNeg) then
        (if ((gm_rg_cellOf σ) v1.toNatClampNeg) = (2 : Int32) then
          ((fX12_within v2 (0 : Int32) (5 : Int32)).bind (fun r2 =>
            (if r2 = 0 then
              fX12_post_b38 σ
            else
              ((fX12_isPart v3).bind (fun r3 =>
                (if r3 = 0 then
                  fX12_post_b38 σ
                else
                  ((fX12_areMany σ).bind (fun r4 =>
                    (if r4 = 0 then
                      ((fX12_expectedNow σ (0 : Int32) v2 (0 : Int32) (0 : Int32)).bind (fun r5 =>
                        ((fX12_expectedNow (sm_rp_gonePost r5.2 v1) (0 : Int32) v2 (0 : Int32) (0 : Int32)).bind (fun r6 =>
                          ((fX12_all (sm_rp_gonePost r6.2 (-1 : Int32))).bind (fun r7 =>
                            ((fX12_lowest (r5.1 - r6.1) ((10 : Int64) * r7) v3).bind (fun r8 =>
                              some (r8, (sm_rp_gonePost r6.2 (-1 : Int32)))))))))))
                    else
                      some ((-1000000000000000003 : Int64), σ))))))))))
        else
          fX12_post_b18 σ)
      else none))))
def fX12_isPlayer (σ : SM) (v1 : Int32) : Option (Int32) :=
  ((fX12_within v1 (0 : Int32) ((gm_pl_players σ) - (1 : Int32))).bind (fun r1 =>
    (if r1 = 0 ∨ r1 = 1 then some (r1) else none)))
def fX12_player_b53 (σ : SM) : Option (Int32 × SM) :=
  some ((-102 : Int32), σ)
def fX12_player (σ : SM) (v1 : Int32) (v2 : Int32) (v3 : Int32) (v4 : Int32) (v5 : Int32) : Option (Int32 × SM) :=
  ((fX12_within v1 (0 : Int32) (5 : Int32)).bind (fun r1 =>
    (if r1 = 0 then
      some ((-102 : Int32), σ)
    else
      ((fX12_isFree σ v2).bind (fun r2 =>
        (if r2 = 0 then
          some ((-101 : Int32), σ)
        else
          ((fX12_within v3 (0 : Int32) (9 : Int32)).bind (fun r3 =>
            (if r3 = 0 then
              fX12_player_b53 σ
            else
              ((fX12_within v4 (0 : Int32) (4 : Int32)).bind (fun r4 =>
                (if r4 = 0 then
                  fX12_player_b53 σ
                else
                  ((fX12_within v5 (0 : Int32) (4 : Int32)).bind (fun r5 =>
                    (if r5 = 0 then
                      fX12_player_b53 σ
                    else
                      (if (gm_pl_players σ) = (6 : Int32) then
                        some ((-104 : Int32), σ)
                      else
                        (if ¬ ((gm_pl_players σ) < 0 ∨ 6 ≤ (gm_pl_players σ).toNatClampNeg) then
                          (if ¬ ((gm_pl_players σ) < 0 ∨ 6 ≤ (gm_pl_players σ).toNatClampNeg) then
                            (if ¬ ((gm_pl_players σ) < 0 ∨ 6 ≤ (gm_pl_players σ).toNatClampNeg) then
                              (if ¬ ((gm_pl_players σ) < 0 ∨ 6 ≤ (gm_pl_players σ).toNatClampNeg) then
                                (if ¬ ((gm_pl_players σ) < 0 ∨ 6 ≤ (gm_pl_players σ).toNatClampNeg) then
                                  some ((((gm_pl_players σ) + (1 : Int32)) - (1 : Int32)), (sm_pl_players (sm_pl_giggleOf (sm_pl_clothOf (sm_pl_sizeOf (sm_pl_placeOf (sm_pl_kindOf σ (upd (gm_pl_kindOf σ) (gm_pl_players σ).toNatClampNeg v1)) (upd (gm_pl_placeOf σ) (gm_pl_players σ).toNatClampNeg v2)) (upd (gm_pl_sizeOf σ) (gm_pl_players σ).toNatClampNeg v3)) (upd (gm_pl_clothOf σ) (gm_pl_players σ).toNatClampNeg v4)) (upd (gm_pl_giggleOf σ) (gm_pl_players σ).toNatClampNeg v5)) ((gm_pl_players σ) + (1 : Int32))))
                                else none)
                              else none)
                            else none)
                          else none)
                        else none)))))))))))))))))
def fX12_as_b64 (σ : SM) (w0 : Int32) : Option (Int32) :=
  some (w0)
def fX12_as_b63 (σ : SM) : Option (Int32) :=
  fX12_as_b64 σ (-1 : Int32)
def fX12_as_b59 (σ : SM) (v1 : Int32) : Option (Int32) :=
  fX12_as_b64 σ v1
def fX12_as_b49 (σ : SM) (v1 : Int32) (v2 : Int32) (v3 : Int32) : Option (Int32) :=
  (if v2 = (3 : Int32) then
    (if v3 = (4 : Int32) then
      fX12_as_b59 σ v1
    else
      fX12_as_b63 σ)
  else
    fX12_as_b63 σ)
def fX12_as (σ : SM) (v1 : Int32) (v2 : Int32) : Option (Int32) :=
  ((fX12_isPlayer σ v1).bind (fun r1 =>
    (if r1 = 0 then
      some ((-101 : Int32))
    else
      ((fX12_within v2 (0 : Int32) (5 : Int32)).bind (fun r2 =>
        (if r2 = 0 then
          some ((-102 : Int32))
        else
          (if ¬ (v1 < 0 ∨ 6 ≤ v1.toNatClampNeg) then
            (if v2 = 0 then
              fX12_as_b59 σ v1
            else
              (if ((gm_pl_kindOf σ) v1.toNatClampNeg) = v2 then
                fX12_as_b59 σ v1
              else
                (if v2 = (1 : Int32) then
                  (if ((gm_pl_kindOf σ) v1.toNatClampNeg) = (2 : Int32) then
                    fX12_as_b59 σ v1
                  else
                    fX12_as_b49 σ v1 v2 ((gm_pl_kindOf σ) v1.toNatClampNeg))
                else
                  fX12_as_b49 σ v1 v2 ((gm_pl_kindOf σ) v1.toNatClampNeg))))
          else none)))))))
def fX12_playerTold (σ : SM) (v1 : Int32) (v2 : Int32) : Option (Int32) :=
  (if v2 = (0 : Int32) then
    (if ¬ (v1 < 0 ∨ 6 ≤ v1.toNatClampNeg) then
      some (((gm_pl_kindOf σ) v1.toNatClampNeg))
    else none)
  else (if v2 = (1 : Int32) then
    (if ¬ (v1 < 0 ∨ 6 ≤ v1.toNatClampNeg) then
      some (((gm_pl_placeOf σ) v1.toNatClampNeg))
    else none)
  else (if v2 = (2 : Int32) then
    (if ¬ (v1 < 0 ∨ 6 ≤ v1.toNatClampNeg) then
      some (((gm_pl_sizeOf σ) v1.toNatClampNeg))
    else none)
  else (if v2 = (3 : Int32) then
    (if ¬ (v1 < 0 ∨ 6 ≤ v1.toNatClampNeg) then
      some (((gm_pl_clothOf σ) v1.toNatClampNeg))
    else none)
  else (if ¬ (v1 < 0 ∨ 6 ≤ v1.toNatClampNeg) then
      some (((gm_pl_giggleOf σ) v1.toNatClampNeg))
    else none)))))
def fX12_about_b33 (σ : SM) (w0 : Int32) : Option (Int32) :=
  some (w0)
def fX12_about (σ : SM) (v1 : Int32) (v2 : Int32) : Option (Int32) :=
  ((fX12_isPlayer σ v1).bind (fun r1 =>
    (if r1 = 0 then
      fX12_about_b33 σ (-101 : Int32)
    else
      ((fX12_within v2 (0 : Int32) (4 : Int32)).bind (fun r2 =>
        (if r2 = 0 then
          fX12_about_b33 σ (-102 : Int32)
        else
          ((fX12_playerTold σ v1 v2).bind (fun r3 =>
            fX12_about_b33 σ r3))))))))
def fX12_move_b16 (σ : SM) : Option (Int32 × SM) :=
  some ((-101 : Int32), σ)
def fX12_move (σ : SM) (v1 : Int32) (v2 : Int32) : Option (Int32 × SM) :=
  ((fX12_isPlayer σ v1).bind (fun r1 =>
    (if r1 = 0 then
      fX12_move_b16 σ
    else
      ((fX12_isFree σ v2).bind (fun r2 =>
        (if r2 = 0 then
          fX12_move_b16 σ
        else
          (if ¬ (v1 < 0 ∨ 6 ≤ v1.toNatClampNeg) then
            (if ¬ (v1 < 0 ∨ 6 ≤ v1.toNatClampNeg) then
              some (((gm_pl_placeOf σ) v1.toNatClampNeg), (sm_pl_placeOf σ (upd (gm_pl_placeOf σ) v1.toNatClampNeg v2)))
            else none)
          else none)))))))
def fX12_draw (σ : SM) (v1 : Int32) : Option (Int32 × SM) :=
  (if ¬ v1.toInt64 = 0 then
    some (((((((1103515245 : Int64) * (gm_gm_seedNow σ)) + (12345 : Int64)) &&& (2147483647 : Int64)) / (65536 : Int64)) - (((((1103515245 : Int64) * (gm_gm_seedNow σ)) + (12345 : Int64)) &&& (2147483647 : Int64)) / (65536 : Int64)) / v1.toInt64 * v1.toInt64).toInt32, (sm_gm_seedNow σ ((((1103515245 : Int64) * (gm_gm_seedNow σ)) + (12345 : Int64)) &&& (2147483647 : Int64))))
  else none)
def fX12_far (σ : SM) (v1 : Int32) (v2 : Int32) (v3 : Int32) : Option (Int32) :=
  (if ¬ (gm_rg_columns σ) = 0 then
    ((fX12_size ((v1 / (gm_rg_columns σ)) - v2)).bind (fun r1 =>
      (if ¬ (gm_rg_columns σ) = 0 then
        ((fX12_size ((v1 - v1 / (gm_rg_columns σ) * (gm_rg_columns σ)) - v3)).bind (fun r2 =>
          some ((r1 + r2))))
      else none)))
  else none)
def fX12_goes_b95 (σ : SM) (k6 : Int32 → Int32 → Int32 → Int32 → Int32 → Int32 → Option (Int32)) (v1 : Int32) (v2 : Int32) (v3 : Int32) (v4 : Int32) (v6 : Int32) (w0 : Int32) : Option (Int32) :=
  k6 v1 v2 v3 v4 w0 (v6 + (1 : Int32))
def fX12_goes_b93 (σ : SM) (k6 : Int32 → Int32 → Int32 → Int32 → Int32 → Int32 → Option (Int32)) (v1 : Int32) (v2 : Int32) (v3 : Int32) (v4 : Int32) (v5 : Int32) (v6 : Int32) : Option (Int32) :=
  fX12_goes_b95 σ k6 v1 v2 v3 v4 v6 v5
def fX12_goes_b88 (σ : SM) (k6 : Int32 → Int32 → Int32 → Int32 → Int32 → Int32 → Option (Int32)) (v1 : Int32) (v2 : Int32) (v3 : Int32) (v4 : Int32) (v6 : Int32) (v7 : Int32) : Option (Int32) :=
  fX12_goes_b95 σ k6 v1 v2 v3 v4 v6 v7
def fX12_goes_b39 (σ : SM) (k6 : Int32 → Int32 → Int32 → Int32 → Int32 → Int32 → Option (Int32)) (v1 : Int32) (v2 : Int32) (v3 : Int32) (v4 : Int32) (v5 : Int32) (v6 : Int32) (v7 : Int32) (w0 : Int32) : Option (Int32) :=
  ((fX12_far σ v5 v2 v3).bind (fun r1 =>
    (if v7 = (-1 : Int32) then
      fX12_goes_b93 σ k6 v1 v2 v3 v4 v5 v6
    else
      ((fX12_isFree σ v7).bind (fun r2 =>
        (if r2 = 0 then
          fX12_goes_b93 σ k6 v1 v2 v3 v4 v5 v6
        else
          (if v4 = 0 then
            (if w0 < r1 then
              fX12_goes_b88 σ k6 v1 v2 v3 v4 v6 v7
            else
              fX12_goes_b93 σ k6 v1 v2 v3 v4 v5 v6)
          else
            (if r1 < w0 then
              fX12_goes_b88 σ k6 v1 v2 v3 v4 v6 v7
            else
              fX12_goes_b93 σ k6 v1 v2 v3 v4 v5 v6))))))))
def fX12_goes_b6 (σ : SM) (k6 : Int32 → Int32 → Int32 → Int32 → Int32 → Int32 → Option (Int32)) (v1 : Int32) (v2 : Int32) (v3 : Int32) (v4 : Int32) (v5 : Int32) (v6 : Int32) : Option (Int32) :=
  (if v6 < (4 : Int32) then
    ((fX12_on σ v1 v6).bind (fun r3 =>
      (if r3 = (-1 : Int32) then
        fX12_goes_b39 σ k6 v1 v2 v3 v4 v5 v6 r3 (0 : Int32)
      else
        ((fX12_far σ r3 v2 v3).bind (fun r4 =>
          fX12_goes_b39 σ k6 v1 v2 v3 v4 v5 v6 r3 r4)))))
  else
    some (v5))
def fX12_goes_l6 (σ : SM) : Nat → Int32 → Int32 → Int32 → Int32 → Int32 → Int32 → Option (Int32)
  | 0, _, _, _, _, _, _ => none
  | n + 1, v1, v2, v3, v4, v5, v6 => fX12_goes_b6 σ (fX12_goes_l6 σ n) v1 v2 v3 v4 v5 v6
def fX12_goes (σ : SM) (v1 : Int32) (v2 : Int32) (v3 : Int32) (v4 : Int32) : Option (Int32) :=
  fX12_goes_l6 σ 1000 v1 v2 v3 v4 v1 (0 : Int32)
def fX12_goPlayers_b167 (k79 : SM → Int32 → Int32 → Int32 → Int32 → Int32 → Option (SM)) (σ : SM) (v1 : Int32) (v2 : Int32) (v3 : Int32) (v4 : Int32) (v5 : Int32) : Option (SM) :=
  k79 σ v1 v2 v3 v4 (v5 + (1 : Int32))
def fX12_goPlayers_b110 (k79 : SM → Int32 → Int32 → Int32 → Int32 → Int32 → Option (SM)) (σ : SM) (v1 : Int32) (v2 : Int32) (v3 : Int32) (v4 : Int32) (v5 : Int32) : Option (SM) :=
  (if ¬ (v5 < 0 ∨ 6 ≤ v5.toNatClampNeg) then
    ((fX12_goes σ ((gm_gm_place σ) v5.toNatClampNeg) v1 v2 (1 : Int32)).bind (fun r1 =>
      (if ¬ (v5 < 0 ∨ 6 ≤ v5.toNatClampNeg) then
        fX12_goPlayers_b167 k79 (sm_gm_place σ (upd (gm_gm_place σ) v5.toNatClampNeg r1)) v1 v2 v3 v4 v5
      else none)))
  else none)
def fX12_goPlayers_b79 (k79 : SM → Int32 → Int32 → Int32 → Int32 → Int32 → Option (SM)) (σ : SM) (v1 : Int32) (v2 : Int32) (v3 : Int32) (v4 : Int32) (v5 : Int32) : Option (SM) :=
  (if v5 < (gm_pl_players σ) then
    (if ¬ (v5 < 0 ∨ 6 ≤ v5.toNatClampNeg) then
      (if ((gm_pl_kindOf σ) v5.toNatClampNeg) = (1 : Int32) then
        fX12_goPlayers_b110 k79 σ v1 v2 v3 v4 v5
      else
        (if ¬ (v5 < 0 ∨ 6 ≤ v5.toNatClampNeg) then
          (if ((gm_pl_kindOf σ) v5.toNatClampNeg) = (2 : Int32) then
            fX12_goPlayers_b110 k79 σ v1 v2 v3 v4 v5
          else
            (if ¬ (v5 < 0 ∨ 6 ≤ v5.toNatClampNeg) then
              (if ((gm_pl_kindOf σ) v5.toNatClampNeg) = (5 : Int32) then
                (if ¬ (v5 < 0 ∨ 6 ≤ v5.toNatClampNeg) then
                  ((fX12_goes σ ((gm_gm_place σ) v5.toNatClampNeg) v3 v4 (0 : Int32)).bind (fun r2 =>
                    (if ¬ (v5 < 0 ∨ 6 ≤ v5.toNatClampNeg) then
                      fX12_goPlayers_b167 k79 (sm_gm_place σ (upd (gm_gm_place σ) v5.toNatClampNeg r2)) v1 v2 v3 v4 v5
                    else none)))
                else none)
              else
                fX12_goPlayers_b167 k79 σ v1 v2 v3 v4 v5)
            else none))
        else none))
    else none)
  else
    some (σ))
def fX12_goPlayers_l79 : Nat → SM → Int32 → Int32 → Int32 → Int32 → Int32 → Option (SM)
  | 0, _, _, _, _, _, _ => none
  | n + 1, σ, v1, v2, v3, v4, v5 => fX12_goPlayers_b79 (fX12_goPlayers_l79 n) σ v1 v2 v3 v4 v5
def fX12_goPlayers_b73 (σ : SM) (v1 : Int32) (v2 : Int32) (v3 : Int32) (w0 : Int32) (w1 : Int32) : Option (SM) :=
  fX12_goPlayers_l79 1000 σ v1 v2 v3 (w1 + w0) (0 : Int32)
def fX12_goPlayers_b45 (σ : SM) (v1 : Int32) (v2 : Int32) (w0 : Int32) (w1 : Int32) : Option (SM) :=
  (if (gm_gm_looks σ) = (1 : Int32) then
    fX12_goPlayers_b73 σ v1 v2 (w1 + w0) (-1 : Int32) v2
  else
    (if (gm_gm_looks σ) = (3 : Int32) then
      fX12_goPlayers_b73 σ v1 v2 (w1 + w0) (1 : Int32) v2
    else
      fX12_goPlayers_b73 σ v1 v2 (w1 + w0) (0 : Int32) v2))
def fX12_goPlayers (σ : SM) : Option (SM) :=
  (if ¬ (gm_rg_columns σ) = 0 then
    (if ¬ (gm_rg_columns σ) = 0 then
      (if (gm_gm_looks σ) = 0 then
        fX12_goPlayers_b45 σ ((gm_gm_his σ) / (gm_rg_columns σ)) ((gm_gm_his σ) - (gm_gm_his σ) / (gm_rg_columns σ) * (gm_rg_columns σ)) (1 : Int32) ((gm_gm_his σ) / (gm_rg_columns σ))
      else
        (if (gm_gm_looks σ) = (2 : Int32) then
          fX12_goPlayers_b45 σ ((gm_gm_his σ) / (gm_rg_columns σ)) ((gm_gm_his σ) - (gm_gm_his σ) / (gm_rg_columns σ) * (gm_rg_columns σ)) (-1 : Int32) ((gm_gm_his σ) / (gm_rg_columns σ))
        else
          fX12_goPlayers_b45 σ ((gm_gm_his σ) / (gm_rg_columns σ)) ((gm_gm_his σ) - (gm_gm_his σ) / (gm_rg_columns σ) * (gm_rg_columns σ)) (0 : Int32) ((gm_gm_his σ) / (gm_rg_columns σ))))
    else none)
  else none)
def fX12_callOf_b65 (σ : SM) (w0 : Int32) : Option (Int32) :=
  some (w0)
def fX12_callOf (σ : SM) (v1 : Int32) : Option (Int32) :=
  (if ¬ (v1 < 0 ∨ 6 ≤ v1.toNatClampNeg) then
    (if ¬ (gm_rg_columns σ) = 0 then
      (if ¬ (v1 < 0 ∨ 6 ≤ v1.toNatClampNeg) then
        (if ¬ (gm_rg_columns σ) = 0 then
          (if ¬ (v1 < 0 ∨ 6 ≤ v1.toNatClampNeg) then
            (if ((gm_pl_kindOf σ) v1.toNatClampNeg) = (4 : Int32) then
              fX12_callOf_b65 σ (((((((gm_rg_rows σ) - (1 : Int32)) - (((gm_gm_place σ) v1.toNatClampNeg) / (gm_rg_columns σ))) * (gm_rg_columns σ)) + (gm_rg_columns σ)) - (1 : Int32)) - (((gm_gm_place σ) v1.toNatClampNeg) - ((gm_gm_place σ) v1.toNatClampNeg) / (gm_rg_columns σ) * (gm_rg_columns σ)))
            else
              (if ¬ (v1 < 0 ∨ 6 ≤ v1.toNatClampNeg) then
                fX12_callOf_b65 σ ((gm_gm_place σ) v1.toNatClampNeg)
              else none))
          else none)
        else none)
      else none)
    else none)
  else none)
def fX12_nearestCall_b98 (σ : SM) (k4 : Int32 → Int32 → Option (Int32)) (v1 : Int32) (v2 : Int32) : Option (Int32) :=
  k4 v1 (v2 + (1 : Int32))
def fX12_nearestCall_b97 (σ : SM) (k4 : Int32 → Int32 → Option (Int32)) (v2 : Int32) (w0 : Int32) : Option (Int32) :=
  fX12_nearestCall_b98 σ k4 w0 v2
def fX12_nearestCall_b92 (σ : SM) (k4 : Int32 → Int32 → Option (Int32)) (v2 : Int32) (v3 : Int32) : Option (Int32) :=
  fX12_nearestCall_b97 σ k4 v2 v3
def fX12_nearestCall_b32 (σ : SM) (k4 : Int32 → Int32 → Option (Int32)) (v1 : Int32) (v2 : Int32) : Option (Int32) :=
  ((fX12_callOf σ v2).bind (fun r1 =>
    (if v1 = (-1 : Int32) then
      fX12_nearestCall_b92 σ k4 v2 r1
    else
      (if ¬ (gm_rg_columns σ) = 0 then
        (if ¬ (gm_rg_columns σ) = 0 then
          ((fX12_far σ r1 ((gm_gm_his σ) / (gm_rg_columns σ)) ((gm_gm_his σ) - (gm_gm_his σ) / (gm_rg_columns σ) * (gm_rg_columns σ))).bind (fun r2 =>
            (if ¬ (gm_rg_columns σ) = 0 then
              (if ¬ (gm_rg_columns σ) = 0 then
                ((fX12_far σ v1 ((gm_gm_his σ) / (gm_rg_columns σ)) ((gm_gm_his σ) - (gm_gm_his σ) / (gm_rg_columns σ) * (gm_rg_columns σ))).bind (fun r3 =>
                  (if r2 < r3 then
                    fX12_nearestCall_b92 σ k4 v2 r1
                  else
                    fX12_nearestCall_b97 σ k4 v2 v1)))
              else none)
            else none)))
        else none)
      else none))))
def fX12_nearestCall_b4 (σ : SM) (k4 : Int32 → Int32 → Option (Int32)) (v1 : Int32) (v2 : Int32) : Option (Int32) :=
  (if v2 < (gm_pl_players σ) then
    (if ¬ (v2 < 0 ∨ 6 ≤ v2.toNatClampNeg) then
      (if ((gm_pl_kindOf σ) v2.toNatClampNeg) = (3 : Int32) then
        fX12_nearestCall_b32 σ k4 v1 v2
      else
        (if ¬ (v2 < 0 ∨ 6 ≤ v2.toNatClampNeg) then
          (if ((gm_pl_kindOf σ) v2.toNatClampNeg) = (4 : Int32) then
            fX12_nearestCall_b32 σ k4 v1 v2
          else
            fX12_nearestCall_b98 σ k4 v1 v2)
        else none))
    else none)
  else
    some (v1))
def fX12_nearestCall_l4 (σ : SM) : Nat → Int32 → Int32 → Option (Int32)
  | 0, _, _ => none
  | n + 1, v1, v2 => fX12_nearestCall_b4 σ (fX12_nearestCall_l4 σ n) v1 v2
def fX12_nearestCall (σ : SM) : Option (Int32) :=
  fX12_nearestCall_l4 σ 1000 (-1 : Int32) (0 : Int32)
def fX12_goHim_b114 (σ : SM) : Option (SM) :=
  some (σ)
def fX12_goHim_b67 (σ : SM) (w0 : Int32) : Option (SM) :=
  ((fX12_on (sm_gm_looks σ w0) (gm_gm_his σ) w0).bind (fun r2 =>
    ((fX12_isFree (sm_gm_looks σ w0) r2).bind (fun r3 =>
      (if r3 = 0 then
        fX12_goHim_b114 (sm_gm_looks (sm_gm_looks σ w0) ((w0 + (1 : Int32)) - (w0 + (1 : Int32)) / (4 : Int32) * (4 : Int32)))
      else
        fX12_goHim_b114 (sm_gm_his (sm_gm_looks σ w0) r2))))))
def fX12_goHim_b41 (σ : SM) (v2 : Int32) : Option (SM) :=
  ((fX12_draw σ (10 : Int32)).bind (fun r4 =>
    (if r4.1 < v2 then
      fX12_goHim_b67 r4.2 (((gm_gm_looks r4.2) + (1 : Int32)) - ((gm_gm_looks r4.2) + (1 : Int32)) / (4 : Int32) * (4 : Int32))
    else
      fX12_goHim_b67 r4.2 (gm_gm_looks r4.2))))
def fX12_goHim_b14 (σ : SM) (v2 : Int32) (w0 : Int32) : Option (SM) :=
  (if w0 = (-1 : Int32) then
    fX12_goHim_b41 σ v2
  else
    (if w0 = (gm_gm_his σ) then
      fX12_goHim_b41 σ v2
    else
      ((fX12_liesFrom σ (gm_gm_his σ) w0).bind (fun r5 =>
        fX12_goHim_b41 (sm_gm_looks σ r5) v2))))
def fX12_goHim (σ : SM) (v1 : Int32) (v2 : Int32) : Option (SM) :=
  (if (v1 - v1 / (3 : Int32) * (3 : Int32)) = 0 then
    ((fX12_nearestCall σ).bind (fun r1 =>
      fX12_goHim_b14 σ v2 r1))
  else
    fX12_goHim_b14 σ v2 (-1 : Int32))
def fX12_touchedNow_b45 (k2 : SM → Int32 → Option (Int32 × SM)) (σ : SM) (v1 : Int32) : Option (Int32 × SM) :=
  k2 σ (v1 + (1 : Int32))
def fX12_touchedNow_b43 (σ : SM) (v1 : Int32) : Option (Int32 × SM) :=
  some (v1, σ)
def fX12_touchedNow_b2 (k2 : SM → Int32 → Option (Int32 × SM)) (σ : SM) (v1 : Int32) : Option (Int32 × SM) :=
  (if v1 < (gm_pl_players σ) then
    (if ¬ (v1 < 0 ∨ 6 ≤ v1.toNatClampNeg) then
      (if ((gm_gm_place σ) v1.toNatClampNeg) = (gm_gm_his σ) then
        (if ¬ (v1 < 0 ∨ 6 ≤ v1.toNatClampNeg) then
          (if ((gm_pl_kindOf σ) v1.toNatClampNeg) = (2 : Int32) then
            ((fX12_draw σ (10 : Int32)).bind (fun r1 =>
              (if (4 : Int32) < r1.1 then
                fX12_touchedNow_b43 r1.2 v1
              else
                fX12_touchedNow_b45 k2 r1.2 v1)))
          else
            fX12_touchedNow_b43 σ v1)
        else none)
      else
        fX12_touchedNow_b45 k2 σ v1)
    else none)
  else
    some ((-1 : Int32), σ))
def fX12_touchedNow_l2 : Nat → SM → Int32 → Option (Int32 × SM)
  | 0, _, _ => none
  | n + 1, σ, v1 => fX12_touchedNow_b2 (fX12_touchedNow_l2 n) σ v1
def fX12_touchedNow (σ : SM) : Option (Int32 × SM) :=
  fX12_touchedNow_l2 1000 σ (0 : Int32)
def fX12_play_b122 (σ : SM) : Option (SM) :=
  some (σ)
def fX12_play_b113 (k63 : SM → Int32 → Int32 → Int32 → Option (SM)) (σ : SM) (v3 : Int32) (v5 : Int32) (v6 : Int32) (w0 : Int32) : Option (SM) :=
  k63 (sm_gm_touchedAt σ w0) v3 v5 (v6 + (1 : Int32))
def fX12_play_b63 (k63 : SM → Int32 → Int32 → Int32 → Option (SM)) (σ : SM) (v3 : Int32) (v5 : Int32) (v6 : Int32) : Option (SM) :=
  (if v6 < v5 then
    (if (gm_gm_touched σ) = (-1 : Int32) then
      ((fX12_goPlayers σ).bind (fun r1 =>
        ((fX12_goHim r1 v6 v3).bind (fun r2 =>
          ((fX12_touchedNow r2).bind (fun r3 =>
            (if r3.1 = (-1 : Int32) then
              fX12_play_b113 k63 (sm_gm_touched r3.2 r3.1) v3 v5 v6 v5
            else
              fX12_play_b113 k63 (sm_gm_touched r3.2 r3.1) v3 v5 v6 v6)))))))
    else
      fX12_play_b122 σ)
  else
    fX12_play_b122 σ)
def fX12_play_l63 : Nat → SM → Int32 → Int32 → Int32 → Option (SM)
  | 0, _, _, _, _ => none
  | n + 1, σ, v3, v5, v6 => fX12_play_b63 (fX12_play_l63 n) σ v3 v5 v6
def fX12_play_b31 (k31 : SM → Int32 → Int32 → Int32 → Option (SM)) (σ : SM) (v3 : Int32) (v5 : Int32) (v6 : Int32) : Option (SM) :=
  (if v6 < (gm_pl_players σ) then
    (if ¬ (v6 < 0 ∨ 6 ≤ v6.toNatClampNeg) then
      (if ¬ (v6 < 0 ∨ 6 ≤ v6.toNatClampNeg) then
        k31 (sm_gm_place σ (upd (gm_gm_place σ) v6.toNatClampNeg ((gm_pl_placeOf σ) v6.toNatClampNeg))) v3 v5 (v6 + (1 : Int32))
      else none)
    else none)
  else
    fX12_play_l63 1000 σ v3 v5 (0 : Int32))
def fX12_play_l31 : Nat → SM → Int32 → Int32 → Int32 → Option (SM)
  | 0, _, _, _, _ => none
  | n + 1, σ, v3, v5, v6 => fX12_play_b31 (fX12_play_l31 n) σ v3 v5 v6
def fX12_play (σ : SM) (v1 : Int32) (v2 : Int32) (v3 : Int32) (v4 : Int32) (v5 : Int32) : Option (SM) :=
  fX12_play_l31 1000 (sm_gm_touchedAt (sm_gm_touched (sm_gm_seedNow (sm_gm_looks (sm_gm_his σ v1) v2) v4.toInt64) (-1 : Int32)) v5) v3 v5 (0 : Int32)
def fX12_game_b112 (σ : SM) (w0 : Int32) : Option (Int32 × SM) :=
  some (w0, σ)
def fX12_game_b55 (σ : SM) : Option (Int32 × SM) :=
  some ((-102 : Int32), σ)
def fX12_game (σ : SM) (v1 : Int32) (v2 : Int32) (v3 : Int32) (v4 : Int32) (v5 : Int32) (v6 : Int32) : Option (Int32 × SM) :=
  ((fX12_isFree σ v1).bind (fun r1 =>
    (if r1 = 0 then
      some ((-101 : Int32), σ)
    else
      ((fX12_isWay v2).bind (fun r2 =>
        (if r2 = 0 then
          fX12_game_b55 σ
        else
          ((fX12_within v3 (0 : Int32) (9 : Int32)).bind (fun r3 =>
            (if r3 = 0 then
              fX12_game_b55 σ
            else
              (if v4 < 0 then
                fX12_game_b55 σ
              else
                ((fX12_within v5 (1 : Int32) (200 : Int32)).bind (fun r4 =>
                  (if r4 = 0 then
                    fX12_game_b55 σ
                  else
                    ((fX12_within v6 (0 : Int32) (3 : Int32)).bind (fun r5 =>
                      (if r5 = 0 then
                        fX12_game_b55 σ
                      else
                        ((fX12_play σ v1 v2 v3 v4 v5).bind (fun r6 =>
                          (if v6 = 0 then
                            fX12_game_b112 r6 (gm_gm_touched r6)
                          else
                            (if v6 = (1 : Int32) then
                              fX12_game_b112 r6 (gm_gm_touchedAt r6)
                            else
                              (if v6 = (2 : Int32) then
                                fX12_game_b112 r6 (gm_gm_his r6)
                              else
                                fX12_game_b112 r6 ((gm_gm_seedNow r6).toInt32))))))))))))))))))))))
def fX12_lasts_b93 (k60 : SM → Int32 → Int32 → Int32 → Int32 → Int32 → Int32 → Int32 → Option (Int32 × SM)) (σ : SM) (v1 : Int32) (v2 : Int32) (v3 : Int32) (v4 : Int32) (v5 : Int32) (v7 : Int32) (w0 : Int32) (w1 : Int32) : Option (Int32 × SM) :=
  k60 σ v1 v2 v3 v4 v5 (w1 + w0) (v7 + (1 : Int32))
def fX12_lasts_b60 (k60 : SM → Int32 → Int32 → Int32 → Int32 → Int32 → Int32 → Int32 → Option (Int32 × SM)) (σ : SM) (v1 : Int32) (v2 : Int32) (v3 : Int32) (v4 : Int32) (v5 : Int32) (v6 : Int32) (v7 : Int32) : Option (Int32 × SM) :=
  (if v7 < v5 then
    ((fX12_play σ v1 v2 v3 v7 v4).bind (fun r6 =>
      (if (gm_gm_touched r6) = (-1 : Int32) then
        fX12_lasts_b93 k60 r6 v1 v2 v3 v4 v5 v7 (1 : Int32) v6
      else
        fX12_lasts_b93 k60 r6 v1 v2 v3 v4 v5 v7 (0 : Int32) v6)))
  else
    some (v6, σ))
def fX12_lasts_l60 : Nat → SM → Int32 → Int32 → Int32 → Int32 → Int32 → Int32 → Int32 → Option (Int32 × SM)
  | 0, _, _, _, _, _, _, _, _ => none
  | n + 1, σ, v1, v2, v3, v4, v5, v6, v7 => fX12_lasts_b60 (fX12_lasts_l60 n) σ v1 v2 v3 v4 v5 v6 v7
def fX12_lasts_b51 (σ : SM) : Option (Int32 × SM) :=
  some ((-102 : Int32), σ)
def fX12_lasts (σ : SM) (v1 : Int32) (v2 : Int32) (v3 : Int32) (v4 : Int32) (v5 : Int32) : Option (Int32 × SM) :=
  ((fX12_isFree σ v1).bind (fun r1 =>
    (if r1 = 0 then
      some ((-101 : Int32), σ)
    else
      ((fX12_isWay v2).bind (fun r2 =>
        (if r2 = 0 then
          fX12_lasts_b51 σ
        else
          ((fX12_within v3 (0 : Int32) (9 : Int32)).bind (fun r3 =>
            (if r3 = 0 then
              fX12_lasts_b51 σ
            else
              ((fX12_within v4 (1 : Int32) (200 : Int32)).bind (fun r4 =>
                (if r4 = 0 then
                  fX12_lasts_b51 σ
                else
                  ((fX12_within v5 (1 : Int32) (20 : Int32)).bind (fun r5 =>
                    (if r5 = 0 then
                      fX12_lasts_b51 σ
                    else
                      fX12_lasts_l60 1000 σ v1 v2 v3 v4 v5 (0 : Int32) (0 : Int32))))))))))))))))
def fX12_stand_b210 (k103 : SM → Int32 → Int32 → Int32 → Int32 → Int32 → Int32 → Int32 → Int32 → Int32 → Int32 → Option (Int32 × SM)) (σ : SM) (v1 : Int32) (v2 : Int32) (v3 : Int32) (v4 : Int32) (v5 : Int32) (v6 : Int32) (v7 : Int32) (v8 : Int32) (v9 : Int32) (v10 : Int32) : Option (Int32 × SM) :=
  k103 σ v1 v2 v3 v4 v5 v6 v7 v8 v9 (v10 + (1 : Int32))
def fX12_stand_b208 (k103 : SM → Int32 → Int32 → Int32 → Int32 → Int32 → Int32 → Int32 → Int32 → Int32 → Int32 → Option (Int32 × SM)) (σ : SM) (v1 : Int32) (v2 : Int32) (v3 : Int32) (v4 : Int32) (v5 : Int32) (v6 : Int32) (v7 : Int32) (v8 : Int32) (v10 : Int32) (w0 : Int32) : Option (Int32 × SM) :=
  fX12_stand_b210 k103 σ v1 v2 v3 v4 v5 v6 v7 v8 w0 v10
def fX12_stand_b192 (k103 : SM → Int32 → Int32 → Int32 → Int32 → Int32 → Int32 → Int32 → Int32 → Int32 → Int32 → Option (Int32 × SM)) (σ : SM) (v1 : Int32) (v2 : Int32) (v3 : Int32) (v4 : Int32) (v5 : Int32) (v6 : Int32) (v7 : Int32) (v9 : Int32) (v10 : Int32) (v11 : Int32) (w0 : Int32) : Option (Int32 × SM) :=
  (if v11 < v9 then
    fX12_stand_b208 k103 σ v1 v2 v3 v4 v5 v6 v7 w0 v10 v11
  else
    fX12_stand_b208 k103 σ v1 v2 v3 v4 v5 v6 v7 w0 v10 v9)
def fX12_stand_b169 (k103 : SM → Int32 → Int32 → Int32 → Int32 → Int32 → Int32 → Int32 → Int32 → Int32 → Int32 → Option (Int32 × SM)) (k135 : SM → Int32 → Int32 → Int32 → Int32 → Int32 → Int32 → Int32 → Int32 → Int32 → Int32 → Int32 → Int32 → Option (Int32 × SM)) (σ : SM) (v1 : Int32) (v2 : Int32) (v3 : Int32) (v4 : Int32) (v5 : Int32) (v6 : Int32) (v7 : Int32) (v8 : Int32) (v9 : Int32) (v10 : Int32) (v12 : Int32) (w0 : Int32) (w1 : Int32) : Option (Int32 × SM) :=
  k135 σ v1 v2 v3 v4 v5 v6 v7 v8 v9 v10 (w1 + w0) (v12 + (1 : Int32))
def fX12_stand_b135 (k103 : SM → Int32 → Int32 → Int32 → Int32 → Int32 → Int32 → Int32 → Int32 → Int32 → Int32 → Option (Int32 × SM)) (k135 : SM → Int32 → Int32 → Int32 → Int32 → Int32 → Int32 → Int32 → Int32 → Int32 → Int32 → Int32 → Int32 → Option (Int32 × SM)) (σ : SM) (v1 : Int32) (v2 : Int32) (v3 : Int32) (v4 : Int32) (v5 : Int32) (v6 : Int32) (v7 : Int32) (v8 : Int32) (v9 : Int32) (v10 : Int32) (v11 : Int32) (v12 : Int32) : Option (Int32 × SM) :=
  (if v12 < v6 then
    ((fX12_play σ v2 v3 v4 v12 v5).bind (fun r7 =>
      (if (gm_gm_touched r7) = v1 then
        fX12_stand_b169 k103 k135 r7 v1 v2 v3 v4 v5 v6 v7 v8 v9 v10 v12 (1 : Int32) v11
      else
        fX12_stand_b169 k103 k135 r7 v1 v2 v3 v4 v5 v6 v7 v8 v9 v10 v12 (0 : Int32) v11)))
  else
    (if v11 < v9 then
      fX12_stand_b192 k103 σ v1 v2 v3 v4 v5 v6 v7 v9 v10 v11 v10
    else
      fX12_stand_b192 k103 σ v1 v2 v3 v4 v5 v6 v7 v9 v10 v11 v8))
def fX12_stand_l135 (k103 : SM → Int32 → Int32 → Int32 → Int32 → Int32 → Int32 → Int32 → Int32 → Int32 → Int32 → Option (Int32 × SM)) : Nat → SM → Int32 → Int32 → Int32 → Int32 → Int32 → Int32 → Int32 → Int32 → Int32 → Int32 → Int32 → Int32 → Option (Int32 × SM)
  | 0, _, _, _, _, _, _, _, _, _, _, _, _, _ => none
  | n + 1, σ, v1, v2, v3, v4, v5, v6, v7, v8, v9, v10, v11, v12 => fX12_stand_b135 k103 (fX12_stand_l135 k103 n) σ v1 v2 v3 v4 v5 v6 v7 v8 v9 v10 v11 v12
def fX12_stand_b103 (k103 : SM → Int32 → Int32 → Int32 → Int32 → Int32 → Int32 → Int32 → Int32 → Int32 → Int32 → Option (Int32 × SM)) (σ : SM) (v1 : Int32) (v2 : Int32) (v3 : Int32) (v4 : Int32) (v5 : Int32) (v6 : Int32) (v7 : Int32) (v8 : Int32) (v9 : Int32) (v10 : Int32) : Option (Int32 × SM) :=
  ((fX12_cells σ).bind (fun r8 =>
    (if v10 < r8 then
      ((fX12_isFree σ v10).bind (fun r9 =>
        (if r9 = 0 then
          fX12_stand_b210 k103 σ v1 v2 v3 v4 v5 v6 v7 v8 v9 v10
        else
          (if ¬ (v1 < 0 ∨ 6 ≤ v1.toNatClampNeg) then
            fX12_stand_l135 k103 1000 (sm_pl_placeOf σ (upd (gm_pl_placeOf σ) v1.toNatClampNeg v10)) v1 v2 v3 v4 v5 v6 v7 v8 v9 v10 (0 : Int32) (0 : Int32)
          else none))))
    else
      (if ¬ (v1 < 0 ∨ 6 ≤ v1.toNatClampNeg) then
        some (v8, (sm_pl_placeOf σ (upd (gm_pl_placeOf σ) v1.toNatClampNeg v7)))
      else none))))
def fX12_stand_l103 : Nat → SM → Int32 → Int32 → Int32 → Int32 → Int32 → Int32 → Int32 → Int32 → Int32 → Int32 → Option (Int32 × SM)
  | 0, _, _, _, _, _, _, _, _, _, _, _ => none
  | n + 1, σ, v1, v2, v3, v4, v5, v6, v7, v8, v9, v10 => fX12_stand_b103 (fX12_stand_l103 n) σ v1 v2 v3 v4 v5 v6 v7 v8 v9 v10
def fX12_stand_b59 (σ : SM) : Option (Int32 × SM) :=
  some ((-102 : Int32), σ)
def fX12_stand_b16 (σ : SM) : Option (Int32 × SM) :=
  some ((-101 : Int32), σ)
def fX12_stand (σ : SM) (v1 : Int32) (v2 : Int32) (v3 : Int32) (v4 : Int32) (v5 : Int32) (v6 : Int32) : Option (Int32 × SM) :=
  ((fX12_isPlayer σ v1).bind (fun r1 =>
    (if r1 = 0 then
      fX12_stand_b16 σ
    else
      ((fX12_isFree σ v2).bind (fun r2 =>
        (if r2 = 0 then
          fX12_stand_b16 σ
        else
          ((fX12_isWay v3).bind (fun r3 =>
            (if r3 = 0 then
              fX12_stand_b59 σ
            else
              ((fX12_within v4 (0 : Int32) (9 : Int32)).bind (fun r4 =>
                (if r4 = 0 then
                  fX12_stand_b59 σ
                else
                  ((fX12_within v5 (1 : Int32) (50 : Int32)).bind (fun r5 =>
                    (if r5 = 0 then
                      fX12_stand_b59 σ
                    else
                      ((fX12_within v6 (1 : Int32) (9 : Int32)).bind (fun r6 =>
                        (if r6 = 0 then
                          fX12_stand_b59 σ
                        else
                          (if (gm_nm_asks σ) = (20 : Int32) then
                            some ((-103 : Int32), σ)
                          else
                            (if ¬ (v1 < 0 ∨ 6 ≤ v1.toNatClampNeg) then
                              fX12_stand_l103 1000 (sm_nm_asks σ ((gm_nm_asks σ) + (1 : Int32))) v1 v2 v3 v4 v5 v6 ((gm_pl_placeOf σ) v1.toNatClampNeg) (-1 : Int32) (268435456 : Int32) (0 : Int32)
                            else none))))))))))))))))))))
def fX12_feels_b29 (σ : SM) : Option (Int32 × SM) :=
  some ((-102 : Int32), σ)
def fX12_feels (σ : SM) (v1 : Int32) (v2 : Int32) (v3 : Int32) : Option (Int32 × SM) :=
  ((fX12_within v1 (0 : Int32) (5 : Int32)).bind (fun r1 =>
    (if r1 = 0 then
      fX12_feels_b29 σ
    else
      ((fX12_within v2 (0 : Int32) (10 : Int32)).bind (fun r2 =>
        (if r2 = 0 then
          fX12_feels_b29 σ
        else
          ((fX12_within v3 (0 : Int32) (10 : Int32)).bind (fun r3 =>
            (if r3 = 0 then
              fX12_feels_b29 σ
            else
              some ((1 : Int32), (sm_nm_giggleRight (sm_nm_clothRight (sm_nm_unsure σ v1) v2) v3)))))))))))
def fX12_jackets_b21 (σ : SM) : Option (Int32 × SM) :=
  some ((-101 : Int32), σ)
def fX12_jackets (σ : SM) (v1 : Int32) (v2 : Int32) (v3 : Int32) : Option (Int32 × SM) :=
  ((fX12_isPlayer σ v1).bind (fun r1 =>
    (if r1 = 0 then
      fX12_jackets_b21 σ
    else
      ((fX12_isPlayer σ v2).bind (fun r2 =>
        (if r2 = 0 then
          fX12_jackets_b21 σ
        else
          (if v1 = v2 then
            fX12_jackets_b21 σ
          else
            ((fX12_within v3 (0 : Int32) (10 : Int32)).bind (fun r3 =>
              (if r3 = 0 then
                some ((-102 : Int32), σ)
              else
                some ((1 : Int32), (sm_nm_jacketTenths (sm_nm_jacketB (sm_nm_jacketA σ v1) v2) v3))))))))))))
def fX12_byCloth_b26 (σ : SM) (w0 : Int32) : Option (Int32) :=
  some (w0)
def fX12_byCloth (σ : SM) (v1 : Int32) (v2 : Int32) : Option (Int32) :=
  (if ¬ (v1 < 0 ∨ 6 ≤ v1.toNatClampNeg) then
    (if ((gm_pl_clothOf σ) v1.toNatClampNeg) = v2 then
      fX12_byCloth_b26 σ ((4 : Int32) * (gm_nm_clothRight σ))
    else
      fX12_byCloth_b26 σ ((10 : Int32) - (gm_nm_clothRight σ)))
  else none)
def fX12_likely_b122 (σ : SM) (v1 : Int32) (v3 : Int32) (v6 : Int32) (v7 : Int32) (v8 : Int32) (w0 : Int32) : Option (Int32) :=
  ((fX12_byCloth σ v1 v3).bind (fun r2 =>
    ((fX12_byCloth σ v8 v3).bind (fun r3 =>
      some (((v6 * v7) * ((((10 : Int32) - w0) * r2) + (w0 * r3))))))))
def fX12_likely_b106 (σ : SM) (v1 : Int32) (v3 : Int32) (v6 : Int32) (v7 : Int32) (w0 : Int32) : Option (Int32) :=
  (if w0 = v1 then
    fX12_likely_b122 σ v1 v3 v6 v7 w0 (0 : Int32)
  else
    fX12_likely_b122 σ v1 v3 v6 v7 w0 (gm_nm_jacketTenths σ))
def fX12_likely_b73 (σ : SM) (v1 : Int32) (v3 : Int32) (v6 : Int32) (w0 : Int32) : Option (Int32) :=
  (if v1 = (gm_nm_jacketA σ) then
    fX12_likely_b106 σ v1 v3 v6 w0 (gm_nm_jacketB σ)
  else
    (if v1 = (gm_nm_jacketB σ) then
      fX12_likely_b106 σ v1 v3 v6 w0 (gm_nm_jacketA σ)
    else
      fX12_likely_b106 σ v1 v3 v6 w0 v1))
def fX12_likely_b44 (σ : SM) (v1 : Int32) (v3 : Int32) (v4 : Int32) (w0 : Int32) : Option (Int32) :=
  (if ¬ (v1 < 0 ∨ 6 ≤ v1.toNatClampNeg) then
    (if ((gm_pl_giggleOf σ) v1.toNatClampNeg) = v4 then
      fX12_likely_b73 σ v1 v3 w0 ((4 : Int32) * (gm_nm_giggleRight σ))
    else
      fX12_likely_b73 σ v1 v3 w0 ((10 : Int32) - (gm_nm_giggleRight σ)))
  else none)
def fX12_likely (σ : SM) (v1 : Int32) (v2 : Int32) (v3 : Int32) (v4 : Int32) : Option (Int32) :=
  (if ¬ (v1 < 0 ∨ 6 ≤ v1.toNatClampNeg) then
    ((fX12_size (((gm_pl_sizeOf σ) v1.toNatClampNeg) - v2)).bind (fun r1 =>
      (if r1 = 0 then
        fX12_likely_b44 σ v1 v3 v4 ((10 : Int32) - ((2 : Int32) * (gm_nm_unsure σ)))
      else
        (if r1 = (1 : Int32) then
          fX12_likely_b44 σ v1 v3 v4 (gm_nm_unsure σ)
        else
          fX12_likely_b44 σ v1 v3 v4 (0 : Int32)))))
  else none)
def fX12_likelyAll_b6 (σ : SM) (k6 : Int32 → Int32 → Int32 → Int32 → Int32 → Option (Int32)) (v1 : Int32) (v2 : Int32) (v3 : Int32) (v4 : Int32) (v5 : Int32) : Option (Int32) :=
  (if v5 < (gm_pl_players σ) then
    ((fX12_likely σ v5 v1 v2 v3).bind (fun r1 =>
      k6 v1 v2 v3 (v4 + r1) (v5 + (1 : Int32))))
  else
    some (v4))
def fX12_likelyAll_l6 (σ : SM) : Nat → Int32 → Int32 → Int32 → Int32 → Int32 → Option (Int32)
  | 0, _, _, _, _, _ => none
  | n + 1, v1, v2, v3, v4, v5 => fX12_likelyAll_b6 σ (fX12_likelyAll_l6 σ n) v1 v2 v3 v4 v5
def fX12_likelyAll (σ : SM) (v1 : Int32) (v2 : Int32) (v3 : Int32) : Option (Int32) :=
  fX12_likelyAll_l6 σ 1000 v1 v2 v3 (0 : Int32) (0 : Int32)
def fX12_isFelt_b33 (w0 : Int32) : Option (Int32) :=
  (if w0 = 0 ∨ w0 = 1 then some (w0) else none)
def fX12_isFelt_b32 : Option (Int32) :=
  fX12_isFelt_b33 (0 : Int32)
def fX12_isFelt (v0 : Int32) (v1 : Int32) (v2 : Int32) : Option (Int32) :=
  ((fX12_within v0 (0 : Int32) (9 : Int32)).bind (fun r1 =>
    (if r1 = 0 then
      fX12_isFelt_b32
    else
      ((fX12_within v1 (0 : Int32) (4 : Int32)).bind (fun r2 =>
        (if r2 = 0 then
          fX12_isFelt_b32
        else
          ((fX12_within v2 (0 : Int32) (4 : Int32)).bind (fun r3 =>
            (if r3 = 0 then
              fX12_isFelt_b32
            else
              fX12_isFelt_b33 (1 : Int32))))))))))
def fX12_named_b70 (σ : SM) (w0 : Int32) : Option (Int32) :=
  some (w0)
def fX12_named_b29 (σ : SM) : Option (Int32) :=
  some ((-102 : Int32))
def fX12_named (σ : SM) (v1 : Int32) (v2 : Int32) (v3 : Int32) (v4 : Int32) (v5 : Int32) : Option (Int32) :=
  ((fX12_isPlayer σ v1).bind (fun r1 =>
    (if r1 = 0 then
      some ((-101 : Int32))
    else
      ((fX12_isFelt v2 v3 v4).bind (fun r2 =>
        (if r2 = 0 then
          fX12_named_b29 σ
        else
          ((fX12_isPart v5).bind (fun r3 =>
            (if r3 = 0 then
              fX12_named_b29 σ
            else
              ((fX12_likelyAll σ v2 v3 v4).bind (fun r4 =>
                (if r4 = 0 then
                  fX12_named_b70 σ (-1 : Int32)
                else
                  ((fX12_likely σ v1 v2 v3 v4).bind (fun r5 =>
                    ((fX12_lowest r5.toInt64 r4.toInt64 v5).bind (fun r6 =>
                      fX12_named_b70 σ r6.toInt32))))))))))))))))
def fX12_saysNow_b59 (σ : SM) (k9 : Int32 → Int32 → Int32 → Int32 → Int32 → Int32 → Option (Int32)) (v1 : Int32) (v2 : Int32) (v3 : Int32) (v4 : Int32) (v6 : Int32) (w0 : Int32) : Option (Int32) :=
  k9 v1 v2 v3 v4 w0 (v6 + (1 : Int32))
def fX12_saysNow_b43 (σ : SM) (k9 : Int32 → Int32 → Int32 → Int32 → Int32 → Int32 → Option (Int32)) (v1 : Int32) (v2 : Int32) (v3 : Int32) (v5 : Int32) (v6 : Int32) (v7 : Int32) (w0 : Int32) : Option (Int32) :=
  (if v5 < v7 then
    fX12_saysNow_b59 σ k9 v1 v2 v3 w0 v6 v7
  else
    fX12_saysNow_b59 σ k9 v1 v2 v3 w0 v6 v5)
def fX12_saysNow_b9 (σ : SM) (k9 : Int32 → Int32 → Int32 → Int32 → Int32 → Int32 → Option (Int32)) (v1 : Int32) (v2 : Int32) (v3 : Int32) (v4 : Int32) (v5 : Int32) (v6 : Int32) : Option (Int32) :=
  (if v6 < (gm_pl_players σ) then
    ((fX12_likely σ v6 v1 v2 v3).bind (fun r1 =>
      (if v5 < r1 then
        fX12_saysNow_b43 σ k9 v1 v2 v3 v5 v6 r1 v6
      else
        fX12_saysNow_b43 σ k9 v1 v2 v3 v5 v6 r1 v4)))
  else
    some (v4))
def fX12_saysNow_l9 (σ : SM) : Nat → Int32 → Int32 → Int32 → Int32 → Int32 → Int32 → Option (Int32)
  | 0, _, _, _, _, _, _ => none
  | n + 1, v1, v2, v3, v4, v5, v6 => fX12_saysNow_b9 σ (fX12_saysNow_l9 σ n) v1 v2 v3 v4 v5 v6
def fX12_saysNow (σ : SM) (v1 : Int32) (v2 : Int32) (v3 : Int32) : Option (Int32) :=
  fX12_saysNow_l9 σ 1000 v1 v2 v3 (-1 : Int32) (0 : Int32) (0 : Int32)
def fX12_says_b21 (σ : SM) (w0 : Int32) : Option (Int32) :=
  some (w0)
def fX12_says (σ : SM) (v1 : Int32) (v2 : Int32) (v3 : Int32) : Option (Int32) :=
  ((fX12_isFelt v1 v2 v3).bind (fun r1 =>
    (if r1 = 0 then
      fX12_says_b21 σ (-102 : Int32)
    else
      ((fX12_saysNow σ v1 v2 v3).bind (fun r2 =>
        fX12_says_b21 σ r2)))))
def fX12_when_b88 (σ : SM) (w0 : Int32) : Option (Int32) :=
  some (w0)
def fX12_when_b31 (σ : SM) : Option (Int32) :=
  some ((-102 : Int32))
def fX12_when (σ : SM) (v1 : Int32) (v2 : Int32) (v3 : Int32) (v4 : Int32) (v5 : Int32) : Option (Int32) :=
  ((fX12_isFelt v1 v2 v3).bind (fun r1 =>
    (if r1 = 0 then
      fX12_when_b31 σ
    else
      ((fX12_within v4 (0 : Int32) (99 : Int32)).bind (fun r2 =>
        (if r2 = 0 then
          fX12_when_b31 σ
        else
          ((fX12_within v5 (0 : Int32) (99 : Int32)).bind (fun r3 =>
            (if r3 = 0 then
              fX12_when_b31 σ
            else
              ((fX12_saysNow σ v1 v2 v3).bind (fun r4 =>
                (if r4 = (-1 : Int32) then
                  some ((0 : Int32))
                else
                  ((fX12_likely σ r4 v1 v2 v3).bind (fun r5 =>
                    ((fX12_likelyAll σ v1 v2 v3).bind (fun r6 =>
                      (if (v5 * (r6 - r5)) < (v4 * r5) then
                        fX12_when_b88 σ (1 : Int32)
                      else
                        fX12_when_b88 σ (0 : Int32))))))))))))))))))
def fX12_image_b92 (k92 : SM → Int32 → Option (Int32 × SM)) (σ : SM) (v1 : Int32) : Option (Int32 × SM) :=
  (if v1 < (gm_pl_players σ) then
    (if ¬ (v1 < 0 ∨ 6 ≤ v1.toNatClampNeg) then
      (if ¬ (v1 < 0 ∨ 6 ≤ v1.toNatClampNeg) then
        k92 (sm_kp_keptPlace σ (upd (gm_kp_keptPlace σ) v1.toNatClampNeg ((gm_pl_placeOf σ) v1.toNatClampNeg))) (v1 + (1 : Int32))
      else none)
    else none)
  else
    some ((gm_pl_players σ), σ))
def fX12_image_l92 : Nat → SM → Int32 → Option (Int32 × SM)
  | 0, _, _ => none
  | n + 1, σ, v1 => fX12_image_b92 (fX12_image_l92 n) σ v1
def fX12_image_b65 (k65 : SM → Int32 → Option (Int32 × SM)) (σ : SM) (v1 : Int32) : Option (Int32 × SM) :=
  (if v1 < (144 : Int32) then
    (if ¬ (v1 < 0 ∨ 144 ≤ v1.toNatClampNeg) then
      (if ¬ (v1 < 0 ∨ 144 ≤ v1.toNatClampNeg) then
        k65 (sm_kp_keptWeight σ (vp_updL (gm_kp_keptWeight σ) v1.toNatClampNeg ((gm_od_weight σ) v1.toNatClampNeg))) (v1 + (1 : Int32))
      else none)
    else none)
  else
    fX12_image_l92 1000 σ (0 : Int32))
def fX12_image_l65 : Nat → SM → Int32 → Option (Int32 × SM)
  | 0, _, _ => none
  | n + 1, σ, v1 => fX12_image_b65 (fX12_image_l65 n) σ v1
def fX12_image (σ : SM) : Option (Int32 × SM) :=
  (if (gm_rg_rings σ) = 0 then
    some ((-103 : Int32), σ)
  else
    fX12_image_l65 1000 (sm_kp_keptTenths (sm_kp_keptB (sm_kp_keptA (sm_kp_keptUpdates (sm_kp_keptPlayers (sm_kp_keptRing (sm_kp_isKept σ (1 : Int32)) (gm_rg_rings σ)) (gm_pl_players σ)) (gm_od_updates σ)) (gm_nm_jacketA σ)) (gm_nm_jacketB σ)) (gm_nm_jacketTenths σ)) (0 : Int32))
def fX12_restore_b82 (k82 : SM → Int32 → Option (Int32 × SM)) (σ : SM) (v1 : Int32) : Option (Int32 × SM) :=
  (if v1 < (gm_kp_keptPlayers σ) then
    (if ¬ (v1 < 0 ∨ 6 ≤ v1.toNatClampNeg) then
      (if ¬ (v1 < 0 ∨ 6 ≤ v1.toNatClampNeg) then
        k82 (sm_pl_placeOf σ (upd (gm_pl_placeOf σ) v1.toNatClampNeg ((gm_kp_keptPlace σ) v1.toNatClampNeg))) (v1 + (1 : Int32))
      else none)
    else none)
  else
    some ((gm_pl_players σ), σ))
def fX12_restore_l82 : Nat → SM → Int32 → Option (Int32 × SM)
  | 0, _, _ => none
  | n + 1, σ, v1 => fX12_restore_b82 (fX12_restore_l82 n) σ v1
def fX12_restore_b55 (k55 : SM → Int32 → Option (Int32 × SM)) (σ : SM) (v1 : Int32) : Option (Int32 × SM) :=
  (if v1 < (144 : Int32) then
    (if ¬ (v1 < 0 ∨ 144 ≤ v1.toNatClampNeg) then
      (if ¬ (v1 < 0 ∨ 144 ≤ v1.toNatClampNeg) then
        k55 (sm_od_weight σ (vp_updL (gm_od_weight σ) v1.toNatClampNeg ((gm_kp_keptWeight σ) v1.toNatClampNeg))) (v1 + (1 : Int32))
      else none)
    else none)
  else
    fX12_restore_l82 1000 σ (0 : Int32))
def fX12_restore_l55 : Nat → SM → Int32 → Option (Int32 × SM)
  | 0, _, _ => none
  | n + 1, σ, v1 => fX12_restore_b55 (fX12_restore_l55 n) σ v1
def fX12_restore_b18 (σ : SM) : Option (Int32 × SM) :=
  some ((-103 : Int32), σ)
def fX12_restore (σ : SM) : Option (Int32 × SM) :=
  (if (gm_kp_isKept σ) = 0 then
    fX12_restore_b18 σ
  else
    (if (gm_kp_keptRing σ) = (gm_rg_rings σ) then
      fX12_restore_l55 1000 (sm_nm_jacketTenths (sm_nm_jacketB (sm_nm_jacketA (sm_od_updates σ (gm_kp_keptUpdates σ)) (gm_kp_keptA σ)) (gm_kp_keptB σ)) (gm_kp_keptTenths σ)) (0 : Int32)
    else
      fX12_restore_b18 σ))
def fX12_freeMany_b26 (σ : SM) (k4 : Int32 → Int32 → Option (Int32)) (v2 : Int32) (w0 : Int32) (w1 : Int32) : Option (Int32) :=
  k4 (w1 + w0) (v2 + (1 : Int32))
def fX12_freeMany_b4 (σ : SM) (k4 : Int32 → Int32 → Option (Int32)) (v1 : Int32) (v2 : Int32) : Option (Int32) :=
  ((fX12_cells σ).bind (fun r1 =>
    (if v2 < r1 then
      ((fX12_isFree σ v2).bind (fun r2 =>
        (if r2 = 0 then
          fX12_freeMany_b26 σ k4 v2 (0 : Int32) v1
        else
          fX12_freeMany_b26 σ k4 v2 (1 : Int32) v1)))
    else
      some (v1))))
def fX12_freeMany_l4 (σ : SM) : Nat → Int32 → Int32 → Option (Int32)
  | 0, _, _ => none
  | n + 1, v1, v2 => fX12_freeMany_b4 σ (fX12_freeMany_l4 σ n) v1 v2
def fX12_freeMany (σ : SM) : Option (Int32) :=
  fX12_freeMany_l4 σ 1000 (0 : Int32) (0 : Int32)
def fX12_howMany (σ : SM) (v1 : Int32) : Option (Int32) :=
  (if v1 = (0 : Int32) then
    ((fX12_cells σ).bind (fun r1 =>
      some (r1)))
  else (if v1 = (1 : Int32) then
    ((fX12_freeMany σ).bind (fun r2 =>
      some (r2)))
  else (if v1 = (2 : Int32) then
    some ((gm_pl_players σ))
  else (if v1 = (3 : Int32) then
    some ((gm_od_updates σ))
  else (if v1 = (4 : Int32) then
    ((fX12_above σ).bind (fun r3 =>
      some (r3)))
  else (if v1 = (5 : Int32) then
    some ((gm_pg_pageLength σ))
  else (if v1 = (6 : Int32) then
    some ((gm_rg_rings σ))
  else (if v1 = (7 : Int32) then
    some ((gm_nm_asks σ))
  else some ((-102 : Int32))))))))))
def fX12_count (σ : SM) (v1 : Int32) : Option (Int32) :=
  ((fX12_howMany σ v1).bind (fun r1 =>
    some (r1)))
def fX12_mix (σ : SM) (v1 : Int64) : Option (SM) :=
  some ((sm_gm_h σ (((31 : Int64) * (gm_gm_h σ)) + v1)))
def fX12_mixGame_b2 (k2 : SM → Int32 → Option (SM)) (σ : SM) (v1 : Int32) : Option (SM) :=
  ((fX12_isFree σ v1).bind (fun r1 =>
    (if r1 = 0 then
      k2 σ (v1 + (1 : Int32))
    else
      ((fX12_play σ v1 (0 : Int32) (2 : Int32) (1 : Int32) (20 : Int32)).bind (fun r2 =>
        ((fX12_mix r2 ((gm_gm_touched r2).toInt64)).bind (fun r3 =>
          ((fX12_mix r3 ((gm_gm_touchedAt r3).toInt64)).bind (fun r4 =>
            some (r4))))))))))
def fX12_mixGame_l2 : Nat → SM → Int32 → Option (SM)
  | 0, _, _ => none
  | n + 1, σ, v1 => fX12_mixGame_b2 (fX12_mixGame_l2 n) σ v1
def fX12_mixGame (σ : SM) : Option (SM) :=
  fX12_mixGame_l2 1000 σ (0 : Int32)
def fX12_digest_b203 (k203 : SM → Int32 → Option (Int64 × SM)) (σ : SM) (v1 : Int32) : Option (Int64 × SM) :=
  (if v1 < (8 : Int32) then
    ((fX12_howMany σ v1).bind (fun r1 =>
      ((fX12_mix σ r1.toInt64).bind (fun r2 =>
        k203 r2 (v1 + (1 : Int32))))))
  else
    some ((gm_gm_h σ), σ))
def fX12_digest_l203 : Nat → SM → Int32 → Option (Int64 × SM)
  | 0, _, _ => none
  | n + 1, σ, v1 => fX12_digest_b203 (fX12_digest_l203 n) σ v1
def fX12_digest_b176 (k176 : SM → Int32 → Option (Int64 × SM)) (σ : SM) (v1 : Int32) : Option (Int64 × SM) :=
  (if v1 < (gm_pg_pageLength σ) then
    (if ¬ (v1 < 0 ∨ 45 ≤ v1.toNatClampNeg) then
      ((fX12_mix σ (((gm_pg_page σ) v1.toNatClampNeg).toInt64)).bind (fun r3 =>
        k176 r3 (v1 + (1 : Int32))))
    else none)
  else
    fX12_digest_l203 1000 σ (0 : Int32))
def fX12_digest_l176 : Nat → SM → Int32 → Option (Int64 × SM)
  | 0, _, _ => none
  | n + 1, σ, v1 => fX12_digest_b176 (fX12_digest_l176 n) σ v1
def fX12_digest_b174 (σ : SM) : Option (Int64 × SM) :=
  fX12_digest_l176 1000 σ (0 : Int32)
def fX12_digest_b74 (k64 : SM → Int32 → Option (Int64 × SM)) (k74 : SM → Int32 → Int32 → Option (Int64 × SM)) (σ : SM) (v1 : Int32) (v2 : Int32) : Option (Int64 × SM) :=
  (if v2 < (5 : Int32) then
    ((fX12_playerTold σ v1 v2).bind (fun r4 =>
      ((fX12_mix σ r4.toInt64).bind (fun r5 =>
        k74 r5 v1 (v2 + (1 : Int32))))))
  else
    k64 σ (v1 + (1 : Int32)))
def fX12_digest_l74 (k64 : SM → Int32 → Option (Int64 × SM)) : Nat → SM → Int32 → Int32 → Option (Int64 × SM)
  | 0, _, _, _ => none
  | n + 1, σ, v1, v2 => fX12_digest_b74 k64 (fX12_digest_l74 k64 n) σ v1 v2
def fX12_digest_b64 (k64 : SM → Int32 → Option (Int64 × SM)) (σ : SM) (v1 : Int32) : Option (Int64 × SM) :=
  (if v1 < (gm_pl_players σ) then
    fX12_digest_l74 k64 1000 σ v1 (0 : Int32)
  else
    ((fX12_mix σ ((gm_nm_unsure σ).toInt64)).bind (fun r6 =>
      ((fX12_mix r6 ((gm_nm_clothRight r6).toInt64)).bind (fun r7 =>
        ((fX12_mix r7 ((gm_nm_giggleRight r7).toInt64)).bind (fun r8 =>
          ((fX12_mix r8 ((gm_nm_jacketA r8).toInt64)).bind (fun r9 =>
            ((fX12_mix r9 ((gm_nm_jacketB r9).toInt64)).bind (fun r10 =>
              ((fX12_mix r10 ((gm_nm_jacketTenths r10).toInt64)).bind (fun r11 =>
                (if 0 < (gm_rg_rings r11) then
                  (if 0 < (gm_pl_players r11) then
                    ((fX12_mixGame r11).bind (fun r12 =>
                      fX12_digest_b174 r12))
                  else
                    fX12_digest_b174 r11)
                else
                  fX12_digest_b174 r11))))))))))))))
def fX12_digest_l64 : Nat → SM → Int32 → Option (Int64 × SM)
  | 0, _, _ => none
  | n + 1, σ, v1 => fX12_digest_b64 (fX12_digest_l64 n) σ v1
def fX12_digest_b36 (k36 : SM → Int32 → Option (Int64 × SM)) (σ : SM) (v1 : Int32) : Option (Int64 × SM) :=
  ((fX12_cells σ).bind (fun r13 =>
    (if v1 < ((4 : Int32) * r13) then
      (if ¬ (v1 < 0 ∨ 144 ≤ v1.toNatClampNeg) then
        ((fX12_mix σ ((gm_od_weight σ) v1.toNatClampNeg)).bind (fun r14 =>
          k36 r14 (v1 + (1 : Int32))))
      else none)
    else
      fX12_digest_l64 1000 σ (0 : Int32))))
def fX12_digest_l36 : Nat → SM → Int32 → Option (Int64 × SM)
  | 0, _, _ => none
  | n + 1, σ, v1 => fX12_digest_b36 (fX12_digest_l36 n) σ v1
def fX12_digest_b9 (k9 : SM → Int32 → Option (Int64 × SM)) (σ : SM) (v1 : Int32) : Option (Int64 × SM) :=
  ((fX12_cells σ).bind (fun r15 =>
    (if v1 < r15 then
      (if ¬ (v1 < 0 ∨ 36 ≤ v1.toNatClampNeg) then
        ((fX12_mix σ (((gm_rg_cellOf σ) v1.toNatClampNeg).toInt64)).bind (fun r16 =>
          k9 r16 (v1 + (1 : Int32))))
      else none)
    else
      fX12_digest_l36 1000 σ (0 : Int32))))
def fX12_digest_l9 : Nat → SM → Int32 → Option (Int64 × SM)
  | 0, _, _ => none
  | n + 1, σ, v1 => fX12_digest_b9 (fX12_digest_l9 n) σ v1
def fX12_digest (σ : SM) : Option (Int64 × SM) :=
  fX12_digest_l9 1000 (sm_gm_h σ (457 : Int64)) (0 : Int32)
