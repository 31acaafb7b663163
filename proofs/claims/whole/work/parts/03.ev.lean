/-! ===== THE ABSTRACT MACHINE: places instead of addresses, a heap as a list of cells, one function an instruction ===== -/
/-- a cell: an array (kind of its class, its length and contents) or an object (number of its class in vwCl, its fields) -/
abbrev ev_C : Type := (Nat × vp_A) ⊕ (Nat × List Value)
abbrev ev_H : Type := List (Option ev_C)
abbrev ev_L : Type := List (Option Value)
abbrev ev_S : Type := Nat × ev_L × List Value × ev_H
/-- an answer and the heap behind it -/
abbrev ev_Z : Type := Option Value × ev_H
/-- pc, instruction, length, operand, target, constant, classes with what belongs to each, places of words -/
abbrev ev_E : Type := Nat × Instr × Nat × Nat × Nat × Value × List (Nat × Nat) × List Nat
def ev_ld (ls : ev_L) (x : Nat) : Option Value := match ls[x]? with
  | some (some v) => some v
  | _ => none
def ev_kl (ls : ev_L) (x : Nat) : ev_L := match x with
  | 0 => ls
  | j + 1 => match ls[j]? with
    | some (some v) => if v.category = 2 then ls.set j none else ls
    | _ => ls
def ev_s1 (ls : ev_L) (x : Nat) (v : Value) : ev_L := (ev_kl ls x).set x (some v)
def ev_s2 (ls : ev_L) (x : Nat) (v : Value) : ev_L := ((ev_kl ls x).set x (some v)).set (x + 1) none
def ev_get (h : ev_H) (a : Nat) : Option ev_C := match h[a]? with
  | some (some c) => some c
  | _ => none
def ev_if (k : Jvm.ClassFile.Cond) (a b : Int32) (t n : Nat) : Nat := match k with
  | .eq => if a = b then t else n
  | .ne => if a = b then n else t
  | .lt => if a < b then t else n
  | .ge => if a < b then n else t
  | .gt => if b < a then t else n
  | .le => if b < a then n else t
def ev_sw (D : List (Nat × Nat)) (a : Int32) (t : Nat) : Nat := match D with
  | [] => t
  | (k, u) :: r => if a = Int32.ofNat k then u else ev_sw r a t
/-- what is kept outside the heap: three arrays of numbers (1000 on), a text's bytes (2001) -/
def ev_sta (a : Nat) : Nat × List Int32 := match a with
  | 1000 => (4, [0, 3, 2, 1])
  | 1001 => (4, [-1, 0, 1, 0])
  | 1002 => (4, [0, 1, 0, -1])
  | 2001 => (4, [46, 98, 112, 120])
  | _ => (0, [])
def ev_sn (a : Nat) : Nat := (ev_sta a).1
def ev_sf (a : Nat) (j : Nat) : Int32 := (ev_sta a).2.getD j 0
def ev_fit (t : Nat) (v : Value) : Bool := match t, v with
  | 0, .int _ => true
  | 1, .long _ => true
  | 2, .int x => decide (x = 0 ∨ x = 1)
  | _, _ => false
def ev_cat (st : List Value) : Nat := (st.map fun v => v.category).sum
abbrev ev_j (pc : Nat) (ls : ev_L) (st : List Value) (h : ev_H) : Option (ev_S ⊕ ev_Z) := some (.inl (pc, ls, st, h))
/-- pushes, loads, stores -/
def ev_o1 (e : ev_E) (ls : ev_L) (st : List Value) (h : ev_H) : Option (ev_S ⊕ ev_Z) := match e with
  | (pc, i, len, x, _, cst, _, _) => match i with
    | .iconst _ | .bipush _ | .sipush _ | .lconst _ | .ldc _ | .ldc_w _ | .ldc2_w _ | .aconst_null | .getstatic _ => ev_j (pc + len) ls (cst :: st) h
    | .iload _ | .iload_n _ => match ev_ld ls x with
      | some (.int v) => ev_j (pc + len) ls (.int v :: st) h
      | _ => none
    | .lload _ | .lload_n _ => match ev_ld ls x with
      | some (.long v) => ev_j (pc + len) ls (.long v :: st) h
      | _ => none
    | .aload _ | .aload_n _ => match ev_ld ls x with
      | some (.ref a) => ev_j (pc + len) ls (.ref a :: st) h
      | some .null => ev_j (pc + len) ls (.null :: st) h
      | _ => none
    | .istore _ | .istore_n _ => match st with
      | .int v :: r => if x < ls.length then ev_j (pc + len) (ev_s1 ls x (.int v)) r h else none
      | _ => none
    | .lstore _ | .lstore_n _ => match st with
      | .long v :: r => if x + 1 < ls.length then ev_j (pc + len) (ev_s2 ls x (.long v)) r h else none
      | _ => none
    | .astore _ | .astore_n _ => match st with
      | .ref a :: r => if x < ls.length then ev_j (pc + len) (ev_s1 ls x (.ref a)) r h else none
      | .null :: r => if x < ls.length then ev_j (pc + len) (ev_s1 ls x .null) r h else none
      | _ => none
    | .iinc _ _ => match ev_ld ls x, cst with
      | some (.int v), .int k => if x < ls.length then ev_j (pc + len) (ev_s1 ls x (.int (v + k))) st h else none
      | _, _ => none
    | _ => none
/-- arithmetic, and the stack -/
def ev_o2 (e : ev_E) (ls : ev_L) (st : List Value) (h : ev_H) : Option (ev_S ⊕ ev_Z) := match e with
  | (pc, i, len, _, _, _, _, _) => match i with
    | .iadd => match st with
      | .int b :: .int a :: r => ev_j (pc + len) ls (.int (a + b) :: r) h
      | _ => none
    | .isub => match st with
      | .int b :: .int a :: r => ev_j (pc + len) ls (.int (a - b) :: r) h
      | _ => none
    | .imul => match st with
      | .int b :: .int a :: r => ev_j (pc + len) ls (.int (a * b) :: r) h
      | _ => none
    | .iand => match st with
      | .int b :: .int a :: r => ev_j (pc + len) ls (.int (a &&& b) :: r) h
      | _ => none
    | .ineg => match st with
      | .int a :: r => ev_j (pc + len) ls (.int (-a) :: r) h
      | _ => none
    | .idiv => match st with
      | .int b :: .int a :: r => if ¬ b = 0 then ev_j (pc + len) ls (.int (a / b) :: r) h else none
      | _ => none
    | .irem => match st with
      | .int b :: .int a :: r => if ¬ b = 0 then ev_j (pc + len) ls (.int (a - a / b * b) :: r) h else none
      | _ => none
    | .ishr => match st with
      | .int b :: .int a :: r => ev_j (pc + len) ls (.int (a >>> (b &&& 31)) :: r) h
      | _ => none
    | .iushr => match st with
      | .int b :: .int a :: r => ev_j (pc + len) ls (.int (a.toUInt32 >>> (b.toUInt32 &&& Int32.toUInt32 31)).toInt32 :: r) h
      | _ => none
    | .ladd => match st with
      | .long b :: .long a :: r => ev_j (pc + len) ls (.long (a + b) :: r) h
      | _ => none
    | .lsub => match st with
      | .long b :: .long a :: r => ev_j (pc + len) ls (.long (a - b) :: r) h
      | _ => none
    | .lmul => match st with
      | .long b :: .long a :: r => ev_j (pc + len) ls (.long (a * b) :: r) h
      | _ => none
    | .land => match st with
      | .long b :: .long a :: r => ev_j (pc + len) ls (.long (a &&& b) :: r) h
      | _ => none
    | .lneg => match st with
      | .long a :: r => ev_j (pc + len) ls (.long (-a) :: r) h
      | _ => none
    | .ldiv => match st with
      | .long b :: .long a :: r => if ¬ b = 0 then ev_j (pc + len) ls (.long (a / b) :: r) h else none
      | _ => none
    | .lrem => match st with
      | .long b :: .long a :: r => if ¬ b = 0 then ev_j (pc + len) ls (.long (a - a / b * b) :: r) h else none
      | _ => none
    | .lshr => match st with
      | .int b :: .long a :: r => ev_j (pc + len) ls (.long (a >>> (b.toInt64 &&& 63)) :: r) h
      | _ => none
    | .lushr => match st with
      | .int b :: .long a :: r => ev_j (pc + len) ls (.long (a.toUInt64 >>> (b.toInt64.toUInt64 &&& Int64.toUInt64 63)).toInt64 :: r) h
      | _ => none
    | .i2l => match st with
      | .int a :: r => ev_j (pc + len) ls (.long a.toInt64 :: r) h
      | _ => none
    | .l2i => match st with
      | .long a :: r => ev_j (pc + len) ls (.int a.toInt32 :: r) h
      | _ => none
    | .i2b => match st with
      | .int a :: r => ev_j (pc + len) ls (.int a.toInt8.toInt32 :: r) h
      | _ => none
    | .i2c => match st with
      | .int a :: r => ev_j (pc + len) ls (.int (a.toUInt32 % 65536).toInt32 :: r) h
      | _ => none
    | .lcmp => match st with
      | .long b :: .long a :: r => ev_j (pc + len) ls (.int (lg_cmp a b) :: r) h
      | _ => none
    | .dup => match st with
      | v :: r => if v.category = 1 then ev_j (pc + len) ls (v :: v :: r) h else none
      | _ => none
    | .pop => match st with
      | v :: r => if v.category = 1 then ev_j (pc + len) ls r h else none
      | _ => none
    | .dup2 => match st with
      | v :: w :: r => if v.category = 1 ∧ w.category = 1 then ev_j (pc + len) ls (v :: w :: v :: w :: r) h else none
      | _ => none
    | _ => none
/-- branches -/
def ev_o3 (e : ev_E) (ls : ev_L) (st : List Value) (h : ev_H) : Option (ev_S ⊕ ev_Z) := match e with
  | (pc, i, len, _, tgt, _, D, _) => match i with
    | .goto _ => ev_j tgt ls st h
    | .ifCond k _ => match st with
      | .int a :: r => ev_j (ev_if k a 0 tgt (pc + len)) ls r h
      | _ => none
    | .if_icmp k _ => match st with
      | .int b :: .int a :: r => ev_j (ev_if k a b tgt (pc + len)) ls r h
      | _ => none
    | .ifnull _ => match st with
      | .null :: r => ev_j tgt ls r h
      | .ref _ :: r => ev_j (pc + len) ls r h
      | _ => none
    | .ifnonnull _ => match st with
      | .null :: r => ev_j (pc + len) ls r h
      | .ref _ :: r => ev_j tgt ls r h
      | _ => none
    | .tableswitch _ _ _ _ => match st with
      | .int a :: r => ev_j (ev_sw D a tgt) ls r h
      | _ => none
    | _ => none
/-- fields and arrays -/
def ev_o4 (e : ev_E) (ls : ev_L) (st : List Value) (h : ev_H) : Option (ev_S ⊕ ev_Z) := match e with
  | (pc, i, len, x, tgt, cst, D, _) => match i with
    | .getfield _ => match st with
      | .ref a :: r => if a = 2000 then (if tgt = 7 then ev_j (pc + len) ls (cst :: r) h else none) else match ev_get h a with
        | some (.inr (ci, fs)) => if D.any (fun q => q.1 == ci) = true then (match fs[x]? with
          | some v => ev_j (pc + len) ls (v :: r) h
          | none => none) else none
        | _ => none
      | _ => none
    | .putfield _ => match st with
      | v :: .ref a :: r => match ev_get h a with
        | some (.inr (ci, fs)) => if D.any (fun q => q.1 == ci) = true ∧ x < fs.length ∧ ev_fit tgt v = true then ev_j (pc + len) ls r (h.set a (some (.inr (ci, fs.set x v)))) else none
        | _ => none
      | _ => none
    | .arraylength => match st with
      | .ref a :: r => if x = 1 then (if a = 2001 then ev_j (pc + len) ls (.int (Int32.ofNat (ev_sn a)) :: r) h else none) else match ev_get h a with
        | some (.inl (t, n, _)) => if t < 6 then ev_j (pc + len) ls (.int (Int32.ofNat n) :: r) h else none
        | _ => none
      | _ => none
    | .iaload => match st with
      | .int j :: .ref a :: r => if x = 1 then (if ¬ (j < 0 ∨ ev_sn a ≤ j.toNatClampNeg) then (if 1000 ≤ a ∧ a < 1003 then ev_j (pc + len) ls (.int (ev_sf a j.toNatClampNeg) :: r) h else none) else none) else match ev_get h a with
        | some (.inl (0, n, .inl f)) => if ¬ (j < 0 ∨ n ≤ j.toNatClampNeg) then ev_j (pc + len) ls (.int (f j.toNatClampNeg) :: r) h else none
        | _ => none
      | _ => none
    | .laload => match st with
      | .int j :: .ref a :: r => match ev_get h a with
        | some (.inl (1, n, .inr (.inl f))) => if ¬ (j < 0 ∨ n ≤ j.toNatClampNeg) then ev_j (pc + len) ls (.long (f j.toNatClampNeg) :: r) h else none
        | _ => none
      | _ => none
    | .caload => match st with
      | .int j :: .ref a :: r => match ev_get h a with
        | some (.inl (2, n, .inl f)) => if ¬ (j < 0 ∨ n ≤ j.toNatClampNeg) then ev_j (pc + len) ls (.int (f j.toNatClampNeg) :: r) h else none
        | _ => none
      | _ => none
    | .baload => match st with
      | .int j :: .ref a :: r => if x = 1 then (if ¬ (j < 0 ∨ ev_sn a ≤ j.toNatClampNeg) then (if a = 2001 then ev_j (pc + len) ls (.int (ev_sf a j.toNatClampNeg) :: r) h else none) else none) else match ev_get h a with
        | some (.inl (3, n, .inl f)) => if ¬ (j < 0 ∨ n ≤ j.toNatClampNeg) then ev_j (pc + len) ls (.int (f j.toNatClampNeg) :: r) h else none
        | _ => none
      | _ => none
    | .aaload => match st with
      | .int j :: .ref a :: r => match ev_get h a with
        | some (.inl (t, n, .inr (.inr (.inr (.inr f))))) => if ¬ (j < 0 ∨ n ≤ j.toNatClampNeg) then (if t = 4 ∨ t = 5 then ev_j (pc + len) ls (va_rf (f j.toNatClampNeg) :: r) h else none) else none
        | _ => none
      | _ => none
    | .iastore => match st with
      | .int v :: .int j :: .ref a :: r => match ev_get h a with
        | some (.inl (0, n, .inl f)) => if ¬ (j < 0 ∨ n ≤ j.toNatClampNeg) then ev_j (pc + len) ls r (h.set a (some (.inl (0, n, .inl (upd f j.toNatClampNeg v))))) else none
        | _ => none
      | _ => none
    | .lastore => match st with
      | .long v :: .int j :: .ref a :: r => match ev_get h a with
        | some (.inl (1, n, .inr (.inl f))) => if ¬ (j < 0 ∨ n ≤ j.toNatClampNeg) then ev_j (pc + len) ls r (h.set a (some (.inl (1, n, .inr (.inl (vp_updL f j.toNatClampNeg v)))))) else none
        | _ => none
      | _ => none
    | .castore => match st with
      | .int v :: .int j :: .ref a :: r => match ev_get h a with
        | some (.inl (2, n, .inl f)) => if ¬ (j < 0 ∨ n ≤ j.toNatClampNeg) then ev_j (pc + len) ls r (h.set a (some (.inl (2, n, .inl (upd f j.toNatClampNeg (vp_nar .char v)))))) else none
        | _ => none
      | _ => none
    | .bastore => match st with
      | .int v :: .int j :: .ref a :: r => match ev_get h a with
        | some (.inl (3, n, .inl f)) => if ¬ (j < 0 ∨ n ≤ j.toNatClampNeg) then ev_j (pc + len) ls r (h.set a (some (.inl (3, n, .inl (upd f j.toNatClampNeg (vp_nar .byte v)))))) else none
        | _ => none
      | _ => none
    | .aastore => match st with
      | .null :: .int j :: .ref a :: r => match ev_get h a with
        | some (.inl (4, n, .inr (.inr (.inr (.inr f))))) => if ¬ (j < 0 ∨ n ≤ j.toNatClampNeg) then ev_j (pc + len) ls r (h.set a (some (.inl (4, n, .inr (.inr (.inr (.inr (va_up f j.toNatClampNeg none)))))))) else none
        | _ => none
      | _ => none
    | .instanceof _ => match st with
      | .ref a :: r => match ev_get h a with
        | some (.inr (ci, _)) => match D.lookup ci with
          | some 0 => ev_j (pc + len) ls (.int 0 :: r) h
          | some 1 => ev_j (pc + len) ls (.int 1 :: r) h
          | _ => none
        | _ => none
      | _ => none
    | _ => none
/-- returns, and the library's own functions -/
def ev_o5 (rt : Option FieldType) (e : ev_E) (ls : ev_L) (st : List Value) (h : ev_H) : Option (ev_S ⊕ ev_Z) := match e with
  | (pc, i, len, x, _, _, _, _) => match i with
    | .return_ => match st, rt with
      | [], none => some (.inr (none, h))
      | _, _ => none
    | .ireturn => match st, rt with
      | [.int v], some .int => some (.inr (some (.int v), h))
      | [.int v], some .boolean => if v = 0 ∨ v = 1 then some (.inr (some (.int v), h)) else none
      | [.int v], some .byte => if v = 0 then some (.inr (some (.int v), h)) else none
      | _, _ => none
    | .lreturn => match st, rt with
      | [.long v], some .long => some (.inr (some (.long v), h))
      | _, _ => none
    | .areturn => match st, rt with
      | [.ref a], some (.object _) => some (.inr (some (.ref a), h))
      | [.null], some (.object _) => some (.inr (some .null, h))
      | _, _ => none
    | .invokestatic _ => match x, st with
      | 101, .int b :: .int a :: r => if ev_cat r ≤ 8 then ev_j (pc + len) ls (.int (if b < a then b else a) :: r) h else none
      | 102, .long b :: .long a :: r => if ev_cat r ≤ 8 then ev_j (pc + len) ls (.long (if b < a then a else b) :: r) h else none
      | 103, .int a :: r => if ev_cat r ≤ 8 then ev_j (pc + len) ls (.int (if 0 ≤ a then a else 0 - a) :: r) h else none
      | 104, .int n :: .int dp :: .ref b :: .int sp :: .ref a :: r => match ev_get h a, ev_get h b with
        | some (.inl (1, n0, .inr (.inl f))), some (.inl (1, n1, .inr (.inl g))) => if ev_cat r ≤ 8 ∧ ¬ sp < 0 ∧ ¬ dp < 0 ∧ ¬ n < 0 ∧ sp.toNatClampNeg + n.toNatClampNeg ≤ n0 ∧ dp.toNatClampNeg + n.toNatClampNeg ≤ n1 then ev_j (pc + len) ls r (h.set b (some (.inl (1, n1, .inr (.inl (va_cpy f g sp.toNatClampNeg dp.toNatClampNeg n.toNatClampNeg)))))) else none
        | _, _ => none
      | 105, .int b :: .int a :: r => if ev_cat r ≤ 8 then ev_j (pc + len) ls (.int (if a < b then b else a) :: r) h else none
      | _, _ => none
    | _ => none
/-- one instruction that is no call -/
def ev_one (rt : Option FieldType) (e : ev_E) (ls : ev_L) (st : List Value) (h : ev_H) : Option (ev_S ⊕ ev_Z) := match e.2.1 with
  | .iconst _ | .bipush _ | .sipush _ | .lconst _ | .ldc _ | .ldc_w _ | .ldc2_w _ | .aconst_null | .getstatic _ | .iload _ | .iload_n _ | .lload _ | .lload_n _ | .aload _ | .aload_n _ | .istore _ | .istore_n _ | .lstore _ | .lstore_n _ | .astore _ | .astore_n _ | .iinc _ _ => ev_o1 e ls st h
  | .goto _ | .ifCond _ _ | .if_icmp _ _ | .ifnull _ | .ifnonnull _ | .tableswitch _ _ _ _ => ev_o3 e ls st h
  | .getfield _ | .putfield _ | .arraylength | .iaload | .laload | .caload | .baload | .aaload | .iastore | .lastore | .castore | .bastore | .aastore | .instanceof _ => ev_o4 e ls st h
  | .return_ | .ireturn | .lreturn | .areturn | .invokestatic _ => ev_o5 rt e ls st h
  | _ => ev_o2 e ls st h
/-- a call: the method's number, its arguments, what stays on the stack -/
def ev_inv (e : ev_E) (st : List Value) (h : ev_H) : Option (Nat × List Value × List Value) := match e with
  | (_, i, _, x, _, _, D, _) => match i with
    | .invokestatic _ => if x ≤ st.length ∧ x < 100 ∧ ev_cat (st.drop x) ≤ 8 then (match D.lookup 0 with
      | some k => some (k, (st.take x).reverse, st.drop x)
      | none => none) else none
    | .invokevirtual _ => match st.drop x with
      | .ref a :: r => if x ≤ st.length ∧ x < 100 ∧ ev_cat r ≤ 8 then (if a = 2000 then (match D.lookup 2000 with
          | some k => some (k, .ref a :: (st.take x).reverse, r)
          | none => none) else match ev_get h a with
        | some (.inr (ci, _)) => (match D.lookup ci with
          | some k => some (k, .ref a :: (st.take x).reverse, r)
          | none => none)
        | _ => none) else none
      | _ => none
    | _ => none
def ev_find (I : List ev_E) (pc : Nat) : Option ev_E := match I with
  | [] => none
  | e :: r => if e.1 = pc then some e else ev_find r pc
/-- n steps of a body from a state to an answer; cf says what a call answers -/
def ev_R (cf : Nat → List Value → ev_H → ev_Z → Prop) (rt : Option FieldType) (I : List ev_E) : Nat → ev_S → ev_Z → Prop
  | 0, _, _ => False
  | n + 1, (pc, ls, st, h), r => ∃ e, ev_find I pc = some e ∧ ((∃ c', ev_one rt e ls st h = some (.inl c') ∧ ev_R cf rt I n c' r) ∨ ev_one rt e ls st h = some (.inr r) ∨ ∃ k as rest z, ev_inv e st h = some (k, as, rest) ∧ cf k as h z ∧ ev_R cf rt I n (pc + 3, ls, z.1.toList ++ rest, z.2) r)
