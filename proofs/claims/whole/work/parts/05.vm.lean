/-! THE SMALL MACHINE: values, cells by their number (not their address), one step, a run, a call. -/
abbrev mv_E : Type := (Nat × vp_A) ⊕ (Nat × List Value)
abbrev mv_W : Type := List mv_E
/-- what a call gives: answer, cells, how many cells and slots are new -/
abbrev mv_R : Type := Option Value × mv_W × Nat × Nat
/-- a frame: pc, locals, stack, cells, new cells, new slots -/
abbrev mv_F : Type := Nat × List Value × List Value × mv_W × Nat × Nat
abbrev mv_C : Type := Nat → List Value → mv_W → Option mv_R
def mv_clob (v : Value) : Value := match v with
  | .long _ => .retAddr 0
  | .double _ => .retAddr 0
  | v => v
def mv_hd : List Value → Value → List Value
  | [], _ => []
  | _ :: L, v => v :: L
def mv_st1 : List Value → Nat → Value → List Value
  | [], _, _ => []
  | _ :: L, 0, v => v :: L
  | a :: L, 1, v => mv_clob a :: mv_st1 L 0 v
  | a :: L, i + 2, v => a :: mv_st1 L (i + 1) v
def mv_st2 : List Value → Nat → Value → List Value
  | [], _, _ => []
  | _ :: L, 0, v => v :: mv_hd L (.retAddr 0)
  | a :: L, 1, v => mv_clob a :: mv_st2 L 0 v
  | a :: L, i + 2, v => a :: mv_st2 L (i + 1) v
def mv_get : List (Nat × Instr × Nat) → Nat → Option (Instr × Nat)
  | [], _ => none
  | q :: c, pc => match Nat.beq q.1 pc with
    | true => some q.2
    | false => mv_get c pc
def mv_l2 {α : Type} : List (Nat × Nat × α) → Nat → Nat → Option α
  | [], _, _ => none
  | q :: t, a, b => match Nat.beq q.1 a with
    | true => match Nat.beq q.2.1 b with
      | true => some q.2.2
      | false => mv_l2 t a b
    | false => mv_l2 t a b
def mv_l1 : List (Nat × Nat) → Nat → Nat → Bool
  | [], _, _ => false
  | q :: t, a, b => match Nat.beq q.1 a with
    | true => match Nat.beq q.2 b with
      | true => true
      | false => mv_l1 t a b
    | false => mv_l1 t a b
def mv_tgt (pc : Nat) (o : Int) : Option Nat := match (pc : Int) + o with
  | .ofNat t => some t
  | .negSucc _ => none
def mv_alu (i : Instr) (n : Nat) (st : List Value) : Option (List Value) := match i, n, st with
  | .iconst k, 1, st => some (.int (Int32.ofInt k) :: st)
  | .bipush k, 2, st => some (.int (Int8.ofInt k).toInt32 :: st)
  | .sipush k, 3, st => some (.int (Int16.ofInt k).toInt32 :: st)
  | .lconst k, 1, st => some (.long (Int64.ofNat (k : Nat)) :: st)
  | .iadd, 1, .int y :: .int x :: r => some (.int (x + y) :: r)
  | .isub, 1, .int y :: .int x :: r => some (.int (x - y) :: r)
  | .imul, 1, .int y :: .int x :: r => some (.int (x * y) :: r)
  | .iand, 1, .int y :: .int x :: r => some (.int (x &&& y) :: r)
  | .ior, 1, .int y :: .int x :: r => some (.int (x ||| y) :: r)
  | .ixor, 1, .int y :: .int x :: r => some (.int (x ^^^ y) :: r)
  | .ishl, 1, .int y :: .int x :: r => some (.int (x <<< (y &&& 31)) :: r)
  | .ishr, 1, .int y :: .int x :: r => some (.int (x >>> (y &&& 31)) :: r)
  | .iushr, 1, .int y :: .int x :: r => some (.int ((x.toUInt32 >>> (y.toUInt32 &&& Int32.toUInt32 31)).toInt32) :: r)
  | .idiv, 1, .int y :: .int x :: r => if y = 0 then none else some (.int (x / y) :: r)
  | .ineg, 1, .int x :: r => some (.int (-x) :: r)
  | .i2l, 1, .int x :: r => some (.long x.toInt64 :: r)
  | .ladd, 1, .long y :: .long x :: r => some (.long (x + y) :: r)
  | .lsub, 1, .long y :: .long x :: r => some (.long (x - y) :: r)
  | .lmul, 1, .long y :: .long x :: r => some (.long (x * y) :: r)
  | .ldiv, 1, .long y :: .long x :: r => if y = 0 then none else some (.long (x / y) :: r)
  | .lneg, 1, .long x :: r => some (.long (-x) :: r)
  | .lshl, 1, .int y :: .long x :: r => some (.long (x <<< (y.toInt64 &&& 63)) :: r)
  | .lcmp, 1, .long y :: .long x :: r => some (.int (lg_cmp x y) :: r)
  | .dup, 1, .int x :: r => some (.int x :: .int x :: r)
  | .dup, 1, .ref x :: r => some (.ref x :: .ref x :: r)
  | .dup2, 1, .int y :: .ref x :: r => some (.int y :: .ref x :: .int y :: .ref x :: r)
  | .dup2, 1, .int y :: .int x :: r => some (.int y :: .int x :: .int y :: .int x :: r)
  | .dup2, 1, .long x :: r => some (.long x :: .long x :: r)
  | .pop, 1, .int _ :: r => some r
  | .pop2, 1, .long _ :: r => some r
  | _, _, _ => none
def mv_ldI (L : List Value) (k : Nat) (st : List Value) : Option (List Value × List Value) := match L[k]? with
  | some (.int x) => some (L, .int x :: st)
  | _ => none
def mv_ldL (L : List Value) (k : Nat) (st : List Value) : Option (List Value × List Value) := match L[k]? with
  | some (.long x) => some (L, .long x :: st)
  | _ => none
def mv_ldA (L : List Value) (k : Nat) (st : List Value) : Option (List Value × List Value) := match L[k]? with
  | some (.ref x) => some (L, .ref x :: st)
  | some (.retAddr 1) => some (L, .retAddr 1 :: st)
  | _ => none
def mv_sto (L : List Value) (k : Nat) (v : Value) (r : List Value) : Option (List Value × List Value) := match L[k]? with
  | some _ => some (mv_st1 L k v, r)
  | none => none
def mv_stl (L : List Value) (k : Nat) (v : Value) (r : List Value) : Option (List Value × List Value) := match L[k + 1]? with
  | some _ => some (mv_st2 L k v, r)
  | none => none
def mv_loc (i : Instr) (n : Nat) (L st : List Value) : Option (List Value × List Value) := match i, n, st with
  | .iload k, 2, st => mv_ldI L k st
  | .iload_n k, 1, st => mv_ldI L (k : Nat) st
  | .lload k, 2, st => mv_ldL L k st
  | .lload_n k, 1, st => mv_ldL L (k : Nat) st
  | .aload k, 2, st => mv_ldA L k st
  | .aload_n k, 1, st => mv_ldA L (k : Nat) st
  | .istore k, 2, .int x :: r => mv_sto L k (.int x) r
  | .istore_n k, 1, .int x :: r => mv_sto L (k : Nat) (.int x) r
  | .lstore k, 2, .long x :: r => mv_stl L k (.long x) r
  | .lstore_n k, 1, .long x :: r => mv_stl L (k : Nat) (.long x) r
  | .astore k, 2, .ref x :: r => mv_sto L k (.ref x) r
  | .astore_n k, 1, .ref x :: r => mv_sto L (k : Nat) (.ref x) r
  | .iinc k d, 3, st => match L[k]? with
    | some (.int x) => some (mv_st1 L k (.int (x + Int32.ofInt d)), st)
    | _ => none
  | _, _, _ => none
def mv_ifs (pc : Nat) (o : Int) (r : List Value) (c : Prop) [Decidable c] : Option (Nat × List Value) := match mv_tgt pc o with
  | some t => some (if c then t else pc + 3, r)
  | none => none
def mv_br (i : Instr) (n pc : Nat) (st : List Value) : Option (Nat × List Value) := match i, n, st with
  | .goto o, 3, st => match mv_tgt pc o with
    | some t => some (t, st)
    | none => none
  | .ifCond .eq o, 3, .int x :: r => mv_ifs pc o r (x = 0)
  | .ifCond .ne o, 3, .int x :: r => mv_ifs pc o r (¬ x = 0)
  | .ifCond .lt o, 3, .int x :: r => mv_ifs pc o r (x < 0)
  | .ifCond .ge o, 3, .int x :: r => mv_ifs pc o r (0 ≤ x)
  | .ifCond .gt o, 3, .int x :: r => mv_ifs pc o r (0 < x)
  | .ifCond .le o, 3, .int x :: r => mv_ifs pc o r (x ≤ 0)
  | .if_icmp .eq o, 3, .int y :: .int x :: r => mv_ifs pc o r (x = y)
  | .if_icmp .ne o, 3, .int y :: .int x :: r => mv_ifs pc o r (¬ x = y)
  | .if_icmp .lt o, 3, .int y :: .int x :: r => mv_ifs pc o r (x < y)
  | .if_icmp .ge o, 3, .int y :: .int x :: r => mv_ifs pc o r (y ≤ x)
  | .if_icmp .gt o, 3, .int y :: .int x :: r => mv_ifs pc o r (y < x)
  | .if_icmp .le o, 3, .int y :: .int x :: r => mv_ifs pc o r (x ≤ y)
  | .tableswitch d lo hi offs, _, .int x :: r => if x.toInt < lo ∨ hi < x.toInt then (match mv_tgt pc d with
      | some t => some (t, r)
      | none => none) else (match offs[(x.toInt - lo).toNat]? with
      | some o => match mv_tgt pc o with
        | some t => some (t, r)
        | none => none
      | none => none)
  | _, _, _ => none
def mv_fits (ty : FieldType) (v : Value) : Bool := match ty, v with
  | .int, .int _ => true
  | .object _, .ref _ => true
  | .array _, .ref _ => true
  | _, _ => false
def mv_put (cls : Nat) (ini : Bool) (ci k a : Nat) (v : Value) (fs : List Value) (r : List Value) (w : mv_W) : Option (List Value × mv_W × Nat × Nat) :=
  match mv_fits (mv_ty ci k) v with
  | true => match ((mv_cl ci).2.1 k).2.2.2 with
    | false => some (r, w.set a (.inr (ci, fs.set k v)), 0, 0)
    | true => match ini, Nat.beq cls ci with
      | true, true => some (r, w.set a (.inr (ci, fs.set k v)), 0, 0)
      | _, _ => none
  | false => none
def mv_dfl (ty : FieldType) : Value := match ty with
  | .int => .int 0
  | .long => .long 0
  | _ => .null
/-- Math.max, min of ints, abs of a long -/
def mv_mf (k : Nat) (st : List Value) : Option (List Value) := match k, st with
  | 0, .int y :: .int x :: r => match Nat.ble ((r.map fun v => v.category).sum) 8 with
    | true => some (.int (if x < y then y else x) :: r)
    | false => none
  | 1, .int y :: .int x :: r => match Nat.ble ((r.map fun v => v.category).sum) 8 with
    | true => some (.int (if y < x then y else x) :: r)
    | false => none
  | 2, .long x :: r => match Nat.ble ((r.map fun v => v.category).sum) 8 with
    | true => some (.long (if 0 < x then x else -x) :: r)
    | false => none
  | _, _ => none
def mv_heap (cls : Nat) (ini : Bool) (xs : Nat → Int32) (Ls : Nat) (i : Instr) (n : Nat) (st : List Value) (w : mv_W) : Option (List Value × mv_W × Nat × Nat) := match i, n, st with
  | .getfield x, 3, .ref a :: r => match mv_l2 mv_flds cls x with
    | some (ci, k) => match w[a]? with
      | some (.inr (c', fs)) => match Nat.beq c' ci with
        | true => match fs[k]? with
          | some v => some (v :: r, w, 0, 0)
          | none => none
        | false => none
      | _ => none
    | none => none
  | .putfield x, 3, v :: .ref a :: r => match mv_l2 mv_flds cls x with
    | some (ci, k) => match w[a]? with
      | some (.inr (c', fs)) => match Nat.beq c' ci with
        | true => match fs[k]? with
          | some _ => mv_put cls ini ci k a v fs r w
          | none => none
        | false => none
      | _ => none
    | none => none
  | .iaload, 1, .int x :: .ref a :: r => match w[a]? with
    | some (.inl (0, m, .inl f)) => if x < 0 ∨ m ≤ x.toNatClampNeg then none else some (.int (f x.toNatClampNeg) :: r, w, 0, 0)
    | _ => none
  | .iaload, 1, .int x :: .retAddr 1 :: r => if x < 0 ∨ Ls ≤ x.toNatClampNeg then none else some (.int (xs x.toNatClampNeg) :: r, w, 0, 0)
  | .laload, 1, .int x :: .ref a :: r => match w[a]? with
    | some (.inl (1, m, .inr (.inl f))) => if x < 0 ∨ m ≤ x.toNatClampNeg then none else some (.long (f x.toNatClampNeg) :: r, w, 0, 0)
    | _ => none
  | .aaload, 1, .int x :: .ref a :: r => match w[a]? with
    | some (.inl (2, m, .inr (.inr (.inr (.inr f))))) => if x < 0 ∨ m ≤ x.toNatClampNeg then none else some (va_rf (f x.toNatClampNeg) :: r, w, 0, 0)
    | _ => none
  | .iastore, 1, .int v :: .int x :: .ref a :: r => match w[a]? with
    | some (.inl (0, m, .inl f)) => if x < 0 ∨ m ≤ x.toNatClampNeg then none else some (r, w.set a (.inl (0, m, .inl (upd f x.toNatClampNeg v))), 0, 0)
    | _ => none
  | .lastore, 1, .long v :: .int x :: .ref a :: r => match w[a]? with
    | some (.inl (1, m, .inr (.inl f))) => if x < 0 ∨ m ≤ x.toNatClampNeg then none else some (r, w.set a (.inl (1, m, .inr (.inl (vp_updL f x.toNatClampNeg v)))), 0, 0)
    | _ => none
  | .arraylength, 1, .retAddr 1 :: r => some (.int (Int32.ofNat Ls) :: r, w, 0, 0)
  | .ldc_w x, 3, r => match mv_l2 mv_ldcs cls x with
    | some v => some (.int v :: r, w, 0, 0)
    | none => none
  | .ldc2_w x, 3, r => match mv_l2 mv_ldc2 cls x with
    | some v => some (.long v :: r, w, 0, 0)
    | none => none
  | .invokestatic x, 3, st => match mv_l2 mv_maths cls x with
    | some k => match mv_mf k st with
      | some st' => some (st', w, 0, 0)
      | none => none
    | none => none
  | .new x, 3, r => match mv_l2 mv_news cls x with
    | some ci => some (.ref w.length :: r, w ++ [.inr (ci, (List.range (mv_cl ci).2.2).map (fun k => mv_dfl (mv_ty ci k)))], 1, (mv_cl ci).2.2)
    | none => none
  | .newarray .int, 2, .int x :: r => if x < 0 ∨ 1048576 ≤ x.toNatClampNeg then none else some (.ref w.length :: r, w ++ [.inl (0, x.toNatClampNeg, .inl (fun _ => 0))], 1, x.toNatClampNeg)
  | .newarray .long, 2, .int x :: r => if x < 0 ∨ 1048576 ≤ x.toNatClampNeg then none else some (.ref w.length :: r, w ++ [.inl (1, x.toNatClampNeg, .inr (.inl (fun _ => 0)))], 1, x.toNatClampNeg)
  | .multianewarray x 2, 4, .int k :: .int m :: r => match Nat.beq cls 4, Nat.beq x 9 with
    | true, true => if (k < 0 ∨ m < 0) ∨ 1048576 ≤ k.toNatClampNeg ∨ 1048576 ≤ m.toNatClampNeg then none else
        some (.ref w.length :: r, (w ++ [.inl (2, m.toNatClampNeg, .inr (.inr (.inr (.inr (fun j => if j < m.toNatClampNeg then some (w.length + 1 + j) else none)))))]) ++ List.replicate m.toNatClampNeg (.inl (0, k.toNatClampNeg, .inl (fun _ => 0))), 1 + m.toNatClampNeg, m.toNatClampNeg + m.toNatClampNeg * k.toNatClampNeg)
    | _, _ => none
  | _, _, _ => none
def mv_out (rest : List Value) (o : Option mv_R) : Option (List Value × mv_W × Nat × Nat) := match o with
  | some (v, w, c, k) => match Nat.ble ((rest.map fun v => v.category).sum) 8 with
    | true => some (v.toList ++ rest, w, c, k)
    | false => none
  | none => none
/-- a call of method j with its words M: on an object (its class is looked at), static, or a constructor -/
def mv_do (call : mv_C) (j : Nat) (M : mv_T) (st : List Value) (w : mv_W) : Option (List Value × mv_W × Nat × Nat) :=
  match Nat.beq (st.take M.2.2.2.2.2.2).length M.2.2.2.2.2.2 with
  | false => none
  | true => match M.2.2.2.2.2.1, st.drop M.2.2.2.2.2.2 with
    | 0, rest => mv_out rest (call j (st.take M.2.2.2.2.2.2).reverse w)
    | 1, .ref a :: rest => match w[a]? with
      | some (.inr (c', _)) => match Nat.beq c' M.1 with
        | true => mv_out rest (call j (.ref a :: (st.take M.2.2.2.2.2.2).reverse) w)
        | false => none
      | _ => none
    | 2, .ref a :: rest => mv_out rest (call j (.ref a :: (st.take M.2.2.2.2.2.2).reverse) w)
    | _, _ => none
def mv_lnk (kd : Nat) (call : mv_C) (cls x : Nat) (st : List Value) (w : mv_W) : Option (List Value × mv_W × Nat × Nat) :=
  match (match mv_l2 mv_mths cls x with
    | some j => some j
    | none => mv_l2 mv_nest cls x) with
  | some j => match mv_prog[j]? with
    | some M => match Nat.beq M.2.2.2.2.2.1 kd with
      | true => mv_do call j M st w
      | false => none
    | none => none
  | none => none
def mv_inv (cls : Nat) (call : mv_C) (i : Instr) (n : Nat) (st : List Value) (w : mv_W) : Option (List Value × mv_W × Nat × Nat) := match i, n, st with
  | .invokevirtual x, 3, st => mv_lnk 1 call cls x st w
  | .invokestatic x, 3, st => mv_lnk 0 call cls x st w
  | .invokespecial x, 3, st => match mv_l1 mv_objs cls x, st with
    | true, .ref _ :: r => match Nat.ble ((r.map fun v => v.category).sum) 8 with
      | true => some (r, w, 0, 0)
      | false => none
    | true, _ => none
    | false, st => mv_lnk 2 call cls x st w
  | _, _, _ => none
def mv_ret (ret : Option FieldType) (i : Instr) (n : Nat) (st : List Value) : Option (Option Value) := match i, n, st, ret with
  | .ireturn, 1, [.int x], some .int => some (some (.int x))
  | .ireturn, 1, [.int x], some .boolean => if x = 0 ∨ x = 1 then some (some (.int x)) else none
  | .lreturn, 1, [.long x], some .long => some (some (.long x))
  | .return_, 1, [], none => some none
  | _, _, _, _ => none
/-- a step that is no call and no return -/
def mv_one (cls : Nat) (ini : Bool) (xs : Nat → Int32) (Ls : Nat) (i : Instr) (n : Nat) (s : mv_F) : Option mv_F := match s with
  | (pc, L, st, w, c, k) => match mv_alu i n st with
    | some st' => some (pc + n, L, st', w, c, k)
    | none => match mv_loc i n L st with
      | some (L', st') => some (pc + n, L', st', w, c, k)
      | none => match mv_br i n pc st with
        | some (pc', st') => some (pc', L, st', w, c, k)
        | none => match mv_heap cls ini xs Ls i n st w with
          | some (st', w', dc, dk) => some (pc + n, L, st', w', c + dc, k + dk)
          | none => none
def mv_step (cls : Nat) (ini : Bool) (ret : Option FieldType) (xs : Nat → Int32) (Ls : Nat) (call : mv_C) (i : Instr) (n : Nat) (s : mv_F) : Option (mv_F ⊕ mv_R) :=
  match mv_one cls ini xs Ls i n s with
  | some s' => some (.inl s')
  | none => match s with
    | (pc, L, st, w, c, k) => match mv_inv cls call i n st w with
      | some (st', w', dc, dk) => some (.inl (pc + 3, L, st', w', c + dc, k + dk))
      | none => match mv_ret ret i n st with
        | some r => some (.inr (r, w, c, k))
        | none => none
def mv_run (cls : Nat) (ini : Bool) (ret : Option FieldType) (xs : Nat → Int32) (Ls : Nat) (call : mv_C) (code : List (Nat × Instr × Nat)) : Nat → mv_F → Option mv_R
  | 0, _ => none
  | n + 1, s => match mv_get code s.1 with
    | none => none
    | some (i, len) => match mv_step cls ini ret xs Ls call i len s with
      | some (.inl s') => mv_run cls ini ret xs Ls call code n s'
      | some (.inr r) => some r
      | none => none
def mv_sl : List Value → List Value
  | [] => []
  | .long x :: r => .long x :: .retAddr 0 :: mv_sl r
  | .double x :: r => .double x :: .retAddr 0 :: mv_sl r
  | v :: r => v :: mv_sl r
def mv_loc0 (as : List Value) (nL : Nat) : List Value := mv_sl as ++ List.replicate (nL - (mv_sl as).length) (.retAddr 0)
def mv_call (xs : Nat → Int32) (Ls N : Nat) : Nat → mv_C
  | 0 => fun _ _ _ => none
  | d + 1 => fun j as w => match mv_prog[j]? with
    | none => none
    | some M => match Nat.ble (mv_sl as).length M.2.2.2.1 with
      | true => mv_run M.1 (Nat.beq M.2.2.2.2.2.1 2) M.2.2.2.2.1 xs Ls (mv_call xs Ls N d) (mv_code j) N (0, mv_loc0 as M.2.2.2.1, [], w, 0, 0)
      | false => none
