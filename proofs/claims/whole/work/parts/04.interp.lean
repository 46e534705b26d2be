/-! An interpreter of resolved instructions over worlds. Instr's constructors serve as tags: 'iload n', 'aload n', 'istore n', 'astore n' of either length; 'iconst v' any constant; branches name the place of their target in the list; 'getfield x', 'putfield x' with x = 32 * class + field ('putstatic x': the same for a boolean field);
'invokeinterface j n': a call of method j with n values; 'invokedynamic 0': Math.max; 'invokedynamic 1': System.arraycopy of ints; 'new x': an exception of the kind x is made and thrown; 'freturn': ireturn of a boolean. -/
section XkInterp
abbrev xk_C : Type := Nat × List Value × List Value × xk_W
/-- an index within -/
def xk_ix (j : Int32) (n : Nat) : Bool := decide (0 ≤ j) && decide (j.toNatClampNeg < n)
abbrev xk_R : Type := (Option Value ⊕ Nat) × Nat × xk_W
/-- one plain instruction; sc: the law's script, which lies outside the world, at the place 999 -/
def xk_step (sc : Option (Nat × (Nat → Int32))) (mi : Instr) (i : Nat) (L st : List Value) (w : xk_W) : Option xk_C := match mi with
  | .iconst v => some (i + 1, L, .int (Int32.ofInt v) :: st, w)
  | .lconst v => some (i + 1, L, .long (Int64.ofNat v.val) :: st, w)
  | .iload n => match L[n]? with
    | some (.int x) => some (i + 1, L, .int x :: st, w)
    | _ => none
  | .aload n => match L[n]? with
    | some (.ref x) => some (i + 1, L, .ref x :: st, w)
    | _ => none
  | .istore n => match st with
    | .int x :: r => if n < L.length then some (i + 1, L.set n (.int x), r, w) else none
    | _ => none
  | .astore n => match st with
    | .ref x :: r => if n < L.length then some (i + 1, L.set n (.ref x), r, w) else none
    | _ => none
  | .iinc n v => match L[n]? with
    | some (.int x) => some (i + 1, L.set n (.int (x + Int32.ofInt v)), st, w)
    | _ => none
  | .iadd => match st with
    | .int y :: .int x :: r => some (i + 1, L, .int (x + y) :: r, w)
    | _ => none
  | .isub => match st with
    | .int y :: .int x :: r => some (i + 1, L, .int (x - y) :: r, w)
    | _ => none
  | .imul => match st with
    | .int y :: .int x :: r => some (i + 1, L, .int (x * y) :: r, w)
    | _ => none
  | .iand => match st with
    | .int y :: .int x :: r => some (i + 1, L, .int (x &&& y) :: r, w)
    | _ => none
  | .ior => match st with
    | .int y :: .int x :: r => some (i + 1, L, .int (x ||| y) :: r, w)
    | _ => none
  | .ixor => match st with
    | .int y :: .int x :: r => some (i + 1, L, .int (x ^^^ y) :: r, w)
    | _ => none
  | .ishl => match st with
    | .int y :: .int x :: r => some (i + 1, L, .int (x <<< (y &&& 31)) :: r, w)
    | _ => none
  | .ishr => match st with
    | .int y :: .int x :: r => some (i + 1, L, .int (x >>> (y &&& 31)) :: r, w)
    | _ => none
  | .iushr => match st with
    | .int y :: .int x :: r => some (i + 1, L, .int ((x.toUInt32 >>> (y.toUInt32 &&& Int32.toUInt32 31)).toInt32) :: r, w)
    | _ => none
  | .idiv => match st with
    | .int y :: .int x :: r => if y = 0 then none else some (i + 1, L, .int (x / y) :: r, w)
    | _ => none
  | .irem => match st with
    | .int y :: .int x :: r => if y = 0 then none else some (i + 1, L, .int (x % y) :: r, w)
    | _ => none
  | .ineg => match st with
    | .int x :: r => some (i + 1, L, .int (-x) :: r, w)
    | _ => none
  | .i2l => match st with
    | .int x :: r => some (i + 1, L, .long x.toInt64 :: r, w)
    | _ => none
  | .lcmp => match st with
    | .long y :: .long x :: r => some (i + 1, L, .int (lg_cmp x y) :: r, w)
    | _ => none
  | .dup => match st with
    | u :: r => if xk_one u then some (i + 1, L, u :: u :: r, w) else none
    | _ => none
  | .pop => match st with
    | u :: r => if xk_one u then some (i + 1, L, r, w) else none
    | _ => none
  | .dup_x1 => match st with
    | u :: v :: r => if xk_one u && xk_one v then some (i + 1, L, u :: v :: u :: r, w) else none
    | _ => none
  | .dup2 => match st with
    | u :: v :: r => if xk_one u && xk_one v then some (i + 1, L, u :: v :: u :: v :: r, w) else none
    | _ => none
  | .goto t => some (t.toNat, L, st, w)
  | .ifCond cd t => match st with
    | .int x :: r => match cd with
      | .eq => if x = 0 then some (t.toNat, L, r, w) else some (i + 1, L, r, w)
      | .ne => if x = 0 then some (i + 1, L, r, w) else some (t.toNat, L, r, w)
      | .lt => if x < 0 then some (t.toNat, L, r, w) else some (i + 1, L, r, w)
      | .ge => if 0 ≤ x then some (t.toNat, L, r, w) else some (i + 1, L, r, w)
      | .gt => if 0 < x then some (t.toNat, L, r, w) else some (i + 1, L, r, w)
      | .le => if x ≤ 0 then some (t.toNat, L, r, w) else some (i + 1, L, r, w)
    | _ => none
  | .if_icmp cd t => match st with
    | .int y :: .int x :: r => match cd with
      | .eq => if x = y then some (t.toNat, L, r, w) else some (i + 1, L, r, w)
      | .ne => if x = y then some (i + 1, L, r, w) else some (t.toNat, L, r, w)
      | .lt => if x < y then some (t.toNat, L, r, w) else some (i + 1, L, r, w)
      | .ge => if y ≤ x then some (t.toNat, L, r, w) else some (i + 1, L, r, w)
      | .gt => if y < x then some (t.toNat, L, r, w) else some (i + 1, L, r, w)
      | .le => if x ≤ y then some (t.toNat, L, r, w) else some (i + 1, L, r, w)
    | _ => none
  | .tableswitch d lo hi ts => match st with
    | .int x :: r => if x.toInt < lo ∨ hi < x.toInt then some (d.toNat, L, r, w) else match ts[(x.toInt - lo).toNat]? with
      | some t => some (t.toNat, L, r, w)
      | none => none
    | _ => none
  | .getfield x => match st with
    | .ref a :: r => match w[a]? with
      | some (.inr (ci, fs)) => if ci = x / 32 then (match fs[x % 32]? with
        | some v => some (i + 1, L, v :: r, w)
        | none => none) else none
      | _ => none
    | _ => none
  | .putfield x => match st with
    | .int v :: .ref a :: r => match w[a]? with
      | some (.inr (ci, fs)) => if ci = x / 32 ∧ x % 32 < fs.length then some (i + 1, L, r, w.set a (.inr (ci, fs.set (x % 32) (.int v)))) else none
      | _ => none
    | _ => none
  | .putstatic x => match st with
    | .int v :: .ref a :: r => match w[a]? with
      | some (.inr (ci, fs)) => if ci = x / 32 ∧ x % 32 < fs.length then (if v = 0 ∨ v = 1 then some (i + 1, L, r, w.set a (.inr (ci, fs.set (x % 32) (.int v)))) else none) else none
      | _ => none
    | _ => none
  | .iaload => match st with
    | .int j :: .ref a :: r => match w[a]? with
      | some (.inl (0, n, .inl f)) => if xk_ix j n then some (i + 1, L, .int (f j.toNatClampNeg) :: r, w) else none
      | none => if a = 999 then (match sc with
        | some (n, f) => if xk_ix j n then some (i + 1, L, .int (f j.toNatClampNeg) :: r, w) else none
        | none => none) else none
      | _ => none
    | _ => none
  | .arraylength => match st with
    | .ref a :: r => if a = 999 then (match sc with
        | some (n, _) => some (i + 1, L, .int (Int32.ofNat n) :: r, w)
        | none => none) else none
    | _ => none
  | .baload => match st with
    | .int j :: .ref a :: r => match w[a]? with
      | some (.inl (1, n, .inl f)) => if xk_ix j n then some (i + 1, L, .int (f j.toNatClampNeg) :: r, w) else none
      | _ => none
    | _ => none
  | .laload => match st with
    | .int j :: .ref a :: r => match w[a]? with
      | some (.inl (2, n, .inr f)) => if xk_ix j n then some (i + 1, L, .long (f j.toNatClampNeg) :: r, w) else none
      | _ => none
    | _ => none
  | .iastore => match st with
    | .int x :: .int j :: .ref a :: r => match w[a]? with
      | some (.inl (0, n, .inl f)) => if xk_ix j n then some (i + 1, L, r, w.set a (.inl (0, n, .inl (upd f j.toNatClampNeg x)))) else none
      | _ => none
    | _ => none
  | .bastore => match st with
    | .int x :: .int j :: .ref a :: r => match w[a]? with
      | some (.inl (1, n, .inl f)) => if xk_ix j n then some (i + 1, L, r, w.set a (.inl (1, n, .inl (upd f j.toNatClampNeg (vp_nar .boolean x))))) else none
      | _ => none
    | _ => none
  | .lastore => match st with
    | .long x :: .int j :: .ref a :: r => match w[a]? with
      | some (.inl (2, n, .inr f)) => if xk_ix j n then some (i + 1, L, r, w.set a (.inl (2, n, .inr (vp_updL f j.toNatClampNeg x)))) else none
      | _ => none
    | _ => none
  | .invokedynamic k => match k, st with
    | 0, .int y :: .int x :: r => if r.length ≤ 4 then some (i + 1, L, .int (if x < y then y else x) :: r, w) else none
    | 1, .int n :: .int dp :: .ref b :: .int sp :: .ref a :: r => match w[a]?, w[b]? with
      | some (.inl (0, na, .inl f)), some (.inl (0, nb, .inl g)) => if r.length ≤ 4 ∧ 0 ≤ sp ∧ 0 ≤ dp ∧ 0 ≤ n ∧ sp.toNatClampNeg + n.toNatClampNeg ≤ na ∧ dp.toNatClampNeg + n.toNatClampNeg ≤ nb then
          some (i + 1, L, r, w.set b (.inl (0, nb, .inl (va_cpy f g sp.toNatClampNeg dp.toNatClampNeg n.toNatClampNeg)))) else none
      | _, _ => none
    | _, _ => none
  | _ => none
/-- a method: its instructions, how many locals, the class of its receiver (none: static), its handlers: exception's kind, answer; the script, if it reads it -/
abbrev xk_M : Type := List Instr × Nat × Option Nat × List (Nat × Int) × Option (Nat × (Nat → Int32))
def xk_fit (P : Nat → xk_M) (j na : Nat) (st : List Value) (w : xk_W) : Bool :=
  decide (na ≤ st.length) && decide (st.length ≤ na + 6) && decide (na ≤ (P j).2.1) && (st.take na).all xk_one && (match (P j).2.2.1 with
    | none => true
    | some ci => match (st.take na).reverse with
      | .ref a :: _ => (match w[a]? with
        | some (.inr (c, _)) => decide (c = ci)
        | _ => false)
      | _ => false)
def xk_in (P : Nat → xk_M) (j na : Nat) (st : List Value) : List Value := (st.take na).reverse ++ List.replicate ((P j).2.1 - na) (.retAddr 0)
def xk_body (P : Nat → xk_M) (f : Nat → Nat → List Value → List Value → xk_W → Option xk_R) (k i : Nat) (L st : List Value) (w : xk_W) : Option xk_R :=
  match (P k).1[i]? with
  | none => none
  | some mi => match mi with
    | .return_ => match st with
      | [] => some (.inl none, 0, w)
      | _ => none
    | .ireturn => match st with
      | [.int x] => some (.inl (some (.int x)), 0, w)
      | _ => none
    | .freturn => match st with
      | [.int x] => if x = 0 ∨ x = 1 then some (.inl (some (.int x)), 0, w) else none
      | _ => none
    | .new x => match st with
      | [] => some (.inr x, 1, w)
      | _ => none
    | .invokeinterface j na => if xk_fit P j na st w then (match f j 0 (xk_in P j na st) [] w with
        | none => none
        | some (.inl v, d, w1) => match f k (i + 1) L (v.toList ++ st.drop na) w1 with
          | none => none
          | some (o, d2, w2) => some (o, d + d2, w2)
        | some (.inr x, d, w1) => if (P k).2.2.2.1.isEmpty then some (.inr x, d, w1) else match (P k).2.2.2.1.find? (fun q => q.1 == x) with
          | none => none
          | some q => some (.inl (some (.int (Int32.ofInt q.2))), d, w1)) else none
    | mi => match xk_step (P k).2.2.2.2 mi i L st w with
      | none => none
      | some (i1, L1, st1, w1) => f k i1 L1 st1 w1
def xk_run (P : Nat → xk_M) : Nat → Nat → Nat → List Value → List Value → xk_W → Option xk_R
  | 0 => fun _ _ _ _ _ => none
  | n + 1 => xk_body P (xk_run P n)
end XkInterp
