/-! ===== WHAT AN ENTRY OF A METHOD'S TABLE MUST BE ===== -/
/-- the class that it is of, name, bytes, locals, answer, entries, places of words (its code, its class initialised) -/
abbrev ev_MI : Type := String × MethodName × ByteArray × Nat × Option FieldType × List ev_E × List Nat
def ev_wd (P : List Nat) (j : Nat) : Option Cond := match P[j]? with
  | some p => lw_tbl[p]?
  | none => none
def ev_pn (y : MethodName) (n : Nat) : Bool := decide (y.cls ≠ "java/lang/invoke/MethodHandle" ∧ y.cls ≠ "java/lang/invoke/VarHandle" ∧ (parseMethodDescriptor y.desc).map (fun d => d.parameters.length) = some n)
/-- the name of a class by its number -/
def ev_cl (ci : Nat) : Option String := if ci = 2000 then some "java/lang/String" else (vwCl[ci]?).map (fun q => q.1)
def ev_okF (own : String) (idx x : Nat) (P : List Nat) (q : Nat × Nat) : Bool := match vwCl[q.1]? with
  | some (_, T, N) => decide (x < N) && (match P with
    | [_] => ev_w P 0 (.fieldLink own idx (T x).1 (T x).2.1 (T x).2.2.1)
    | [p, _] => (match lw_tbl[p]? with
      | some (.fieldLink _ _ ref _ _) => ev_w P 0 (.fieldLink own idx ref (T x).2.1 (T x).2.2.1) && ev_w P 1 (.sameField ref (T x).1 (T x).2.1 (T x).2.2.1)
      | _ => false)
    | _ => false)
  | none => false
def ev_dsc (t : Nat) : String := match t with
  | 0 => "I"
  | 1 => "J"
  | _ => "Z"
def ev_okP (x t : Nat) (q : Nat × Nat) : Bool := match vwCl[q.1]? with
  | some (_, T, _) => decide ((T x).2.2.2 = false ∧ (T x).2.2.1 = ev_dsc t ∧ t < 3)
  | none => false
def ev_okS (mt : List ev_MI) (own : String) (idx n : Nat) (D : List (Nat × Nat)) (P : List Nat) : Bool := match D with
  | [(0, k)] => (match mt[k]? with
    | some (_, y, cc, nL, rt, _, PM) => ev_pn y n && (ev_w PM 0 (.code y cc nL rt) && (decide (nL ≤ 21) && (ev_w P 1 (.static y) && (ev_w P 2 (.initialized y.cls) && (ev_w P 0 (.methodLink own idx y) || decide ((own, idx, y, "WithEyesBound") ∈ ev_nm))))))
    | none => false)
  | _ => false
def ev_okV1 (mt : List ev_MI) (own : String) (idx n : Nat) (C : String) (k : Nat) (P : List Nat) : Bool := match mt[k]? with
  | some (_, y, cc, nL, rt, _, PM) => ev_pn y n && (ev_w PM 0 (.code y cc nL rt) && (decide (nL ≤ 21) && (if y.cls = C ∧ ev_w P 0 (.methodLink own idx y) = true then ev_w P 1 (.instanceMethod y) && (ev_w P 2 (.selects C y y) && ev_w P 3 (.initialized C)) else (match ev_wd P 0 with
    | some (.methodLink _ _ x) => ev_w P 0 (.methodLink own idx x) && (ev_w P 1 (.sameMethod x.cls x.cls x.name x.desc) && (ev_w P 2 (.selects C x y) && (ev_w P 3 (.instanceMethod y) && (ev_w P 4 (.initialized y.cls) && (ev_pn x n && (decide (x = y) || (ev_w P 5 (.instanceMethod x) && (match ev_wd P 6 with
      | some (.code _ b m0 r0) => ev_w P 6 (.code x b m0 r0)
      | _ => false))))))))
    | _ => false))))
  | none => false
def ev_okV (mt : List ev_MI) (own : String) (idx n : Nat) : List (Nat × Nat) → List Nat → Bool
  | [], _ => true
  | (ci, k) :: r, P => (match ev_cl ci with
    | some C => ev_okV1 mt own idx n C k (P.take 8)
    | none => false) && ev_okV mt own idx n r (P.drop 8)
def ev_okI (own : String) (idx : Nat) (P : List Nat) (q : Nat × Nat) : Bool := match vwCl[q.1]?, ev_wd P 0 with
  | some (C, _, _), some (.classLink _ _ nm) => ev_w P 0 (.classLink own idx nm) && (match q.2 with
    | 0 => decide ((C, nm) ∈ ev_cn)
    | 1 => decide (C = nm) || decide ((C, nm) ∈ ev_cy)
    | _ => false)
  | _, _ => false
def ev_okT (pc : Nat) (offs : List Int) : Nat → List (Nat × Nat) → Bool
  | _, [] => decide (offs = [])
  | k, (j, t) :: r => (match offs with
    | o :: os => decide (j = k ∧ k < 1000 ∧ (pc : Int) + o = (t : Int)) && ev_okT pc os (k + 1) r
    | [] => false)
def ev_ok (mt : List ev_MI) (own : String) (cc : ByteArray) (e : ev_E) : Bool := match e with
  | (pc, i, len, x, tgt, cst, D, P) => decide (decode cc pc = .ok (i, len)) && (match i with
    | .iconst n => decide (len = 1 ∧ cst = .int (Int32.ofInt n))
    | .bipush n => decide (len = 2 ∧ cst = .int (Int8.ofInt n).toInt32)
    | .sipush n => decide (len = 3 ∧ cst = .int (Int16.ofInt n).toInt32)
    | .lconst n => decide (len = 1 ∧ cst = .long (Int64.ofNat n.val))
    | .aconst_null => decide (len = 1 ∧ cst = .null)
    | .ldc k => decide (len = 2) && (match cst with
      | .int v => ev_w P 0 (.constant own k v)
      | .ref a => decide (a = 2000 ∧ own = "WithEyesBound$Page" ∧ k = 23)
      | _ => false)
    | .ldc_w k => decide (len = 3) && (match cst with
      | .int v => ev_w P 0 (.constant own k v)
      | _ => false)
    | .ldc2_w k => decide (len = 3) && (match cst with
      | .long v => ev_w P 0 (.constantLong own k v)
      | _ => false)
    | .getstatic k => decide (len = 3) && (decide (cst = .ref 1000 ∧ (own, k, "FELT", "[I") ∈ ev_nf) || (decide (cst = .ref 1001 ∧ (own, k, "ROW_STEP", "[I") ∈ ev_nf) || (decide (cst = .ref 1002 ∧ (own, k, "COLUMN_STEP", "[I") ∈ ev_nf) || (decide (cst = .int 1) && ev_w P 0 (.fieldLink own k "java/lang/String" "COMPACT_STRINGS" "Z")))))
    | .iload k | .lload k | .aload k | .istore k | .lstore k | .astore k => decide (len = 2 ∧ k = x)
    | .iload_n k | .lload_n k | .aload_n k | .istore_n k | .lstore_n k | .astore_n k => decide (len = 1 ∧ k.val = x)
    | .iinc k n => decide (len = 3 ∧ k = x ∧ cst = .int (Int32.ofInt n))
    | .goto off | .ifCond _ off | .if_icmp _ off | .ifnull off | .ifnonnull off => decide (len = 3 ∧ (pc : Int) + off = (tgt : Int))
    | .tableswitch d lo hi offs => decide ((pc : Int) + d = (tgt : Int) ∧ 0 ≤ lo ∧ hi = lo + D.length - 1 ∧ lo < 1000) && ev_okT pc offs.toList lo.toNat D
    | .getfield k => decide (len = 3) && (D.all (ev_okF own k x P) && (if tgt = 7 then (decide (cst = .int 0) && ev_w P 0 (.fieldLink own k "java/lang/String" "coder" "B")) || (decide (cst = .ref 2001) && ev_w P 0 (.fieldLink own k "java/lang/String" "value" "[B")) else true))
    | .putfield k => decide (len = 3) && (D.all (ev_okF own k x P) && D.all (ev_okP x tgt))
    | .instanceof k => decide (len = 3) && D.all (ev_okI own k P)
    | .invokestatic k => decide (len = 3) && (match x with
      | 101 => ev_w P 0 (.methodLink own k Lib.Math.min.name) && (ev_w P 1 (.static Lib.Math.min.name) && (ev_w P 2 (.initialized "java/lang/Math") && ev_w P 3 (.code Lib.Math.min.name Lib.Math.min.code 2 (some .int))))
      | 102 => ev_w P 0 (.methodLink own k Lib.MathLoose.max_long.x) && (ev_w P 1 (.static Lib.MathLoose.max_long.x) && (ev_w P 2 (.initialized "java/lang/Math") && ev_w P 3 (.code Lib.MathLoose.max_long.x Lib.MathLoose.max_long.code 4 (some .long))))
      | 103 => ev_w P 0 (.methodLink own k Lib.Math.abs.name) && (ev_w P 1 (.static Lib.Math.abs.name) && (ev_w P 2 (.initialized "java/lang/Math") && ev_w P 3 (.code Lib.Math.abs.name Lib.Math.abs.code 1 (some .int))))
      | 104 => ev_w P 0 (.methodLink own k arraycopyName) && (ev_w P 1 (.static arraycopyName) && (ev_w P 2 (.initialized "java/lang/System") && ev_w P 3 (.native arraycopyName)))
      | 105 => ev_w P 0 (.methodLink own k Lib.Math.max.name) && (ev_w P 1 (.static Lib.Math.max.name) && (ev_w P 2 (.initialized "java/lang/Math") && ev_w P 3 (.code Lib.Math.max.name Lib.Math.max.code 2 (some .int))))
      | _ => ev_okS mt own k x D P)
    | .invokevirtual k => decide (len = 3) && ev_okV mt own k x D P
    | _ => decide (len = 1))
/-- a method: its entries are as they must be, and it may be called -/
def ev_okM (mt : List ev_MI) (q : ev_MI) : Bool := match q with
  | (own, y, cc, nL, rt, I, P) => decide (y.cls = own) && (ev_w P 0 (.code y cc nL rt) && (decide (plainName y.cls = true) && I.all (ev_ok mt own cc)))
/-- the classes: their layouts stand in the tables -/
theorem ev_lay : ∀ q ∈ vwCl, ∀ w ∈ u_ws q.1 q.2.1 q.2.2, w ∈ ev_tb := by
  have h : vwCl.all (fun q => (u_ws q.1 q.2.1 q.2.2).all (fun w => decide (w ∈ lw_tbl) && goodWord w)) = true := by decide +kernel
  intro q hq w hw
  have h1 := List.all_eq_true.mp (List.all_eq_true.mp h q hq) w hw
  rw [Bool.and_eq_true, decide_eq_true_eq] at h1
  exact List.mem_filter.mpr h1
theorem ev_typ : ∀ q ∈ vwCl, ∃ ty : Nat → FieldType, (∀ k, k < q.2.2 → parseFieldDescriptor (q.2.1 k).2.2.1 = some (ty k)) ∧ ∀ a, a < q.2.2 → ∀ b, b < q.2.2 → a ≠ b → (q.2.1 a).2.1 ≠ (q.2.1 b).2.1 := by
  intro q hq
  simp only [vwCl, List.mem_cons, List.not_mem_nil, or_false] at hq
  rcases hq with rfl | rfl | rfl | rfl | rfl | rfl | rfl | rfl | rfl | rfl | rfl | rfl | rfl
  · exact ⟨tyX0, tyX0_ok, nmX0⟩
  · exact ⟨tyX1, tyX1_ok, nmX1⟩
  · exact ⟨tyX2, tyX2_ok, nmX2⟩
  · exact ⟨tyX3, tyX3_ok, nmX3⟩
  · exact ⟨tyX4, tyX4_ok, nmX4⟩
  · exact ⟨tyX5, tyX5_ok, nmX5⟩
  · exact ⟨tyX6, tyX6_ok, nmX6⟩
  · exact ⟨tyX7, tyX7_ok, nmX7⟩
  · exact ⟨tyX8, tyX8_ok, nmX8⟩
  · exact ⟨tyX9, tyX9_ok, nmX9⟩
  · exact ⟨tyX10, tyX10_ok, nmX10⟩
  · exact ⟨tyX11, tyX11_ok, nmX11⟩
  · exact ⟨tyX12, tyX12_ok, nmX12⟩
