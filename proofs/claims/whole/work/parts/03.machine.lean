-- a machine of numbers: values are whole numbers, longs and cells; memory is a number for each place of each cell
abbrev am_V : Type := Int ⊕ (Int ⊕ Option Nat)
abbrev am_M : Type := Nat → Nat → Int
abbrev am_L : Type := List (Nat × am_V)
abbrev am_C : Type := Nat × am_L × List am_V × Nat × Nat × am_M
abbrev am_N : Type := am_C ⊕ (Option am_V ⊕ (Nat × Nat))
def am_up (M : am_M) (k j : Nat) (v : Int) : am_M := fun k' j' => if k' = k then (if j' = j then v else M k' j') else M k' j'
def am_zr (M : am_M) (k : Nat) : am_M := fun k' j' => if k' = k then 0 else M k' j'
def am_cp (M : am_M) (src sp dst dp n : Nat) : am_M := fun k' j' => if k' = dst then (if dp ≤ j' ∧ j' < dp + n then M src (sp + (j' - dp)) else M k' j') else M k' j'
abbrev am_R (x : Int) : Prop := -2147483648 ≤ x ∧ x < 2147483648
abbrev am_R6 (x : Int) : Prop := -9223372036854775808 ≤ x ∧ x < 9223372036854775808
def am_nm (x : Int) : Int := (Int32.ofInt x).toInt
def am_w (wr : Bool) (x : Int) : Int := match wr with
  | true => am_nm x
  | false => x
def am_ld (ls : am_L) (i : Nat) : Option am_V := ls.lookup i
def am_c2 (v : am_V) : Bool := match v with
  | .inr (.inl _) => true
  | _ => false
def am_s1 (ls : am_L) (i : Nat) (v : am_V) : am_L := (i, v) :: ls.filter (fun q => !(q.1 == i) && !(q.1 + 1 == i && am_c2 q.2))
def am_s2 (ls : am_L) (i : Nat) (v : am_V) : am_L := (i, v) :: ls.filter (fun q => !(q.1 == i) && (!(q.1 == i + 1) && !(q.1 + 1 == i && am_c2 q.2)))
def am_ar1 : Nat → List am_V → am_L
  | _, [] => []
  | i, v :: vs => (i, v) :: am_ar1 (match am_c2 v with | true => i + 2 | false => i + 1) vs
/-- what the stack holds on top -/
def am_p1 (st : List am_V) (f : Int → List am_V → Option am_N) : Option am_N := match st with
  | .inl x :: r => f x r
  | _ => none
def am_p2 (st : List am_V) (f : Int → Int → List am_V → Option am_N) : Option am_N := match st with
  | .inl y :: .inl x :: r => f x y r
  | _ => none
def am_q2 (st : List am_V) (f : Int → Int → List am_V → Option am_N) : Option am_N := match st with
  | .inr (.inl y) :: .inr (.inl x) :: r => f x y r
  | _ => none
def am_q21 (st : List am_V) (f : Int → Int → List am_V → Option am_N) : Option am_N := match st with
  | .inl y :: .inr (.inl x) :: r => f x y r
  | _ => none
def am_a1 (st : List am_V) (f : Nat → List am_V → Option am_N) : Option am_N := match st with
  | .inr (.inr (some k)) :: r => f k r
  | _ => none
def am_go (pc : Nat) (ls : am_L) (st : List am_V) (nc np : Nat) (M : am_M) : Option am_N := some (.inl (pc, ls, st, nc, np, M))
def am_jp (pc : Nat) (off : Int) (f : Nat → Option am_N) : Option am_N := if 0 ≤ (pc : Int) + off then f ((pc : Int) + off).toNat else none
def am_if (c : Prop) [Decidable c] (pc : Nat) (off : Int) (ls : am_L) (st : List am_V) (nc np : Nat) (M : am_M) : Option am_N :=
  am_jp pc off fun t => if c then am_go t ls st nc np M else am_go (pc + 3) ls st nc np M
def am_b2 (f : Int32 → Int32 → Int32) (x y : Int) : Int := (f (Int32.ofInt x) (Int32.ofInt y)).toInt
def am_bL (f : Int64 → Int64 → Int64) (x y : Int) : Int := (f (Int64.ofInt x) (Int64.ofInt y)).toInt
def am_ct (st : List am_V) : Nat := (st.map fun v => if am_c2 v then 2 else 1).sum
/-- an array of the heap: its type and its length -/
def am_arr (nc k : Nat) (f : Nat → Nat → Option am_N) : Option am_N := if k < nc then (match am_sh[k]? with
  | some (.inl (t, n)) => f t n
  | _ => none) else none
/-- a field of an object of the heap -/
def am_fld (nc k ci j : Nat) (f : Nat → Nat → Nat → Option am_N) : Option am_N := if k < nc then (match am_sh[k]? with
  | some (.inr (c, ks)) => if c = ci then (match ks[j]? with
    | some (t, r, q) => f t r q
    | none => none) else none
  | _ => none) else none
def am_atp (a : ArrayType) : Nat := match a with
  | .int => 0
  | .byte => 1
  | .boolean => 2
  | .long => 3
  | _ => 9
/-- one instruction that neither calls nor ends -/
def am_x (L : Nat) (xs : Nat → Int) (cn : Nat) (ini wr : Bool) (nL pc : Nat) (ls : am_L) (st : List am_V) (nc np : Nat) (M : am_M) (i : Instr) (len : Nat) : Option am_N :=
  match i with
  | .aload_n k => match am_ld ls k.val with
    | some (.inr (.inr (some x))) => am_go (pc + 1) ls (.inr (.inr (some x)) :: st) nc np M
    | _ => none
  | .iload_n k => match am_ld ls k.val with
    | some (.inl x) => am_go (pc + 1) ls (.inl x :: st) nc np M
    | _ => none
  | .iload k => match am_ld ls k with
    | some (.inl x) => am_go (pc + 2) ls (.inl x :: st) nc np M
    | _ => none
  | .lload_n k => match am_ld ls k.val with
    | some (.inr (.inl x)) => am_go (pc + 1) ls (.inr (.inl x) :: st) nc np M
    | _ => none
  | .lload k => match am_ld ls k with
    | some (.inr (.inl x)) => am_go (pc + 2) ls (.inr (.inl x) :: st) nc np M
    | _ => none
  | .istore_n k => am_p1 st fun x r => if k.val < nL then am_go (pc + 1) (am_s1 ls k.val (.inl x)) r nc np M else none
  | .istore k => am_p1 st fun x r => if k < nL then am_go (pc + 2) (am_s1 ls k (.inl x)) r nc np M else none
  | .astore_n k => am_a1 st fun x r => if k.val < nL then am_go (pc + 1) (am_s1 ls k.val (.inr (.inr (some x)))) r nc np M else none
  | .lstore_n k => match st with
    | .inr (.inl x) :: r => if k.val + 1 < nL then am_go (pc + 1) (am_s2 ls k.val (.inr (.inl x))) r nc np M else none
    | _ => none
  | .lstore k => match st with
    | .inr (.inl x) :: r => if k + 1 < nL then am_go (pc + 2) (am_s2 ls k (.inr (.inl x))) r nc np M else none
    | _ => none
  | .iinc k n => match am_ld ls k with
    | some (.inl x) => if k < nL then am_go (pc + 3) (am_s1 ls k (.inl (x + n))) st nc np M else none
    | _ => none
  | .iconst n => am_go (pc + 1) ls (.inl n :: st) nc np M
  | .bipush n => if -128 ≤ n ∧ n < 128 then am_go (pc + 2) ls (.inl n :: st) nc np M else none
  | .sipush n => if -32768 ≤ n ∧ n < 32768 then am_go (pc + 3) ls (.inl n :: st) nc np M else none
  | .lconst n => am_go (pc + 1) ls (.inr (.inl (n.val : Int)) :: st) nc np M
  | .ldc x => match (am_KC.getD cn []).lookup x with
    | some (v, _) => am_go (pc + 2) ls (.inl v :: st) nc np M
    | none => none
  | .ldc_w x => match (am_KC.getD cn []).lookup x with
    | some (v, _) => am_go (pc + 3) ls (.inl v :: st) nc np M
    | none => none
  | .ldc2_w x => match (am_KL.getD cn []).lookup x with
    | some (v, _) => am_go (pc + 3) ls (.inr (.inl v) :: st) nc np M
    | none => none
  | .iadd => am_p2 st fun x y r => am_go (pc + 1) ls (.inl (am_w wr (x + y)) :: r) nc np M
  | .isub => am_p2 st fun x y r => am_go (pc + 1) ls (.inl (am_w wr (x - y)) :: r) nc np M
  | .imul => am_p2 st fun x y r => am_go (pc + 1) ls (.inl (am_w wr (x * y)) :: r) nc np M
  | .idiv => am_p2 st fun x y r => if am_R x ∧ am_R y ∧ y ≠ 0 then am_go (pc + 1) ls (.inl (am_w wr (x.tdiv y)) :: r) nc np M else none
  | .irem => am_p2 st fun x y r => if am_R x ∧ am_R y ∧ y ≠ 0 then am_go (pc + 1) ls (.inl (x.tmod y) :: r) nc np M else none
  | .ineg => am_p1 st fun x r => am_go (pc + 1) ls (.inl (-x) :: r) nc np M
  | .iand => am_p2 st fun x y r => am_go (pc + 1) ls (.inl (am_b2 (fun a b => a &&& b) x y) :: r) nc np M
  | .ior => am_p2 st fun x y r => am_go (pc + 1) ls (.inl (am_b2 (fun a b => a ||| b) x y) :: r) nc np M
  | .ixor => am_p2 st fun x y r => am_go (pc + 1) ls (.inl (am_b2 (fun a b => a ^^^ b) x y) :: r) nc np M
  | .ishl => am_p2 st fun x y r => am_go (pc + 1) ls (.inl (am_b2 (fun a b => a <<< (b &&& 31)) x y) :: r) nc np M
  | .ishr => am_p2 st fun x y r => am_go (pc + 1) ls (.inl (am_b2 (fun a b => a >>> (b &&& 31)) x y) :: r) nc np M
  | .iushr => am_p2 st fun x y r => am_go (pc + 1) ls (.inl (am_b2 (fun a b => (a.toUInt32 >>> (b.toUInt32 &&& Int32.toUInt32 31)).toInt32) x y) :: r) nc np M
  | .i2b => am_p1 st fun x r => am_go (pc + 1) ls (.inl (Int32.ofInt x).toInt8.toInt32.toInt :: r) nc np M
  | .i2l => am_p1 st fun x r => if am_R x then am_go (pc + 1) ls (.inr (.inl x) :: r) nc np M else none
  | .lmul => am_q2 st fun x y r => am_go (pc + 1) ls (.inr (.inl (x * y)) :: r) nc np M
  | .ldiv => am_q2 st fun x y r => if am_R6 x ∧ am_R6 y ∧ y ≠ 0 then am_go (pc + 1) ls (.inr (.inl (x.tdiv y)) :: r) nc np M else none
  | .lrem => am_q2 st fun x y r => if am_R6 x ∧ am_R6 y ∧ y ≠ 0 then am_go (pc + 1) ls (.inr (.inl (x.tmod y)) :: r) nc np M else none
  | .land => am_q2 st fun x y r => am_go (pc + 1) ls (.inr (.inl (am_bL (fun a b => a &&& b) x y)) :: r) nc np M
  | .lor => am_q2 st fun x y r => am_go (pc + 1) ls (.inr (.inl (am_bL (fun a b => a ||| b) x y)) :: r) nc np M
  | .lshl => am_q21 st fun x y r => am_go (pc + 1) ls (.inr (.inl ((Int64.ofInt x) <<< ((Int32.ofInt y).toInt64 &&& 63)).toInt) :: r) nc np M
  | .lshr => am_q21 st fun x y r => am_go (pc + 1) ls (.inr (.inl ((Int64.ofInt x) >>> ((Int32.ofInt y).toInt64 &&& 63)).toInt) :: r) nc np M
  | .lcmp => am_q2 st fun x y r => if am_R6 x ∧ am_R6 y then am_go (pc + 1) ls (.inl (if x > y then 1 else if x = y then 0 else -1) :: r) nc np M else none
  | .dup => match st with
    | v :: r => if am_c2 v then none else am_go (pc + 1) ls (v :: v :: r) nc np M
    | _ => none
  | .dup2 => match st with
    | v :: w :: r => if am_c2 v || am_c2 w then none else am_go (pc + 1) ls (v :: w :: v :: w :: r) nc np M
    | _ => none
  | .pop => match st with
    | v :: r => if am_c2 v then none else am_go (pc + 1) ls r nc np M
    | _ => none
  | .if_icmp c off => am_p2 st fun x y r => if am_R x ∧ am_R y then (match c with
    | .eq => am_if (x = y) pc off ls r nc np M
    | .ne => am_if (x ≠ y) pc off ls r nc np M
    | .lt => am_if (x < y) pc off ls r nc np M
    | .ge => am_if (y ≤ x) pc off ls r nc np M
    | .gt => am_if (y < x) pc off ls r nc np M
    | .le => am_if (x ≤ y) pc off ls r nc np M) else none
  | .ifCond c off => am_p1 st fun x r => if am_R x then (match c with
    | .eq => am_if (x = 0) pc off ls r nc np M
    | .ne => am_if (x ≠ 0) pc off ls r nc np M
    | .lt => am_if (x < 0) pc off ls r nc np M
    | .ge => am_if (0 ≤ x) pc off ls r nc np M
    | .gt => am_if (0 < x) pc off ls r nc np M
    | .le => am_if (x ≤ 0) pc off ls r nc np M) else none
  | .goto off => am_jp pc off fun t => am_go t ls st nc np M
  | .ifnonnull off => am_a1 st fun _ r => am_jp pc off fun t => am_go t ls r nc np M
  | .tableswitch d lo hi offs => am_p1 st fun x r => if am_R x then (if x < lo ∨ hi < x then am_jp pc d fun t => am_go t ls r nc np M else (match offs[(x - lo).toNat]? with
    | some o => am_jp pc o fun t => am_go t ls r nc np M
    | none => none)) else none
  | .lookupswitch d ps => am_p1 st fun x r => if am_R x ∧ (ps.toList.zip (ps.toList.drop 1)).all (fun (a, next) => a.1 < next.1) = true then am_jp pc (Op.lookupswitch.offset ps.toList d x) fun t => am_go t ls r nc np M else none
  | .getfield x => match (am_FL.getD cn []).lookup x with
    | some (ci, j, _) => am_a1 st fun k r => am_fld nc k ci j fun t c q => match t with
      | 0 => am_go (pc + 3) ls (.inl (M k j) :: r) nc np M
      | 1 => am_go (pc + 3) ls (.inl (M k j) :: r) nc np M
      | 2 => if q < np then am_go (pc + 3) ls (.inr (.inr (some c)) :: r) nc np M else none
      | _ => if M k j = 0 then none else am_go (pc + 3) ls (.inr (.inr (some c)) :: r) nc np M
    | none => none
  | .putfield x => match (am_FL.getD cn []).lookup x with
    | some (ci, j, _) => match st with
      | .inl v :: .inr (.inr (some k)) :: r => am_fld nc k ci j fun t _ _ => match t with
        | 0 => am_go (pc + 3) ls r nc np (am_up M k j v)
        | 1 => if v = 0 ∨ v = 1 then am_go (pc + 3) ls r nc np (am_up M k j v) else none
        | _ => none
      | .inr (.inr (some c)) :: .inr (.inr (some k)) :: r => am_fld nc k ci j fun t c' q => match t with
        | 2 => if c = c' ∧ q = np ∧ ini = true ∧ ci = cn then am_go (pc + 3) ls r nc (np + 1) M else none
        | 3 => if c = c' then am_go (pc + 3) ls r nc np (am_up M k j 1) else none
        | _ => none
      | _ => none
    | none => none
  | .iaload => match st with
    | .inl x :: .inr (.inr (some k)) :: r => if k = 999 then (if cn = 17 ∧ 0 ≤ x ∧ x < L then am_go (pc + 1) ls (.inl (xs x.toNat) :: r) nc np M else none) else am_arr nc k fun t n => if t = 0 ∧ 0 ≤ x ∧ x < n then am_go (pc + 1) ls (.inl (M k x.toNat) :: r) nc np M else none
    | _ => none
  | .baload => match st with
    | .inl x :: .inr (.inr (some k)) :: r => am_arr nc k fun t n => if (t = 1 ∨ t = 2) ∧ 0 ≤ x ∧ x < n then am_go (pc + 1) ls (.inl (M k x.toNat) :: r) nc np M else none
    | _ => none
  | .laload => match st with
    | .inl x :: .inr (.inr (some k)) :: r => am_arr nc k fun t n => if t = 3 ∧ 0 ≤ x ∧ x < n then am_go (pc + 1) ls (.inr (.inl (M k x.toNat)) :: r) nc np M else none
    | _ => none
  | .iastore => match st with
    | .inl v :: .inl x :: .inr (.inr (some k)) :: r => am_arr nc k fun t n => if t = 0 ∧ 0 ≤ x ∧ x < n then am_go (pc + 1) ls r nc np (am_up M k x.toNat v) else none
    | _ => none
  | .bastore => match st with
    | .inl v :: .inl x :: .inr (.inr (some k)) :: r => am_arr nc k fun t n => if 0 ≤ x ∧ x < n then (match t with
      | 1 => if nc = 126 then am_go (pc + 1) ls r nc np (am_up M k x.toNat (Int32.ofInt v).toInt8.toInt32.toInt) else none
      | 2 => if v = 0 ∨ v = 1 then am_go (pc + 1) ls r nc np (am_up M k x.toNat v) else none
      | _ => none) else none
    | _ => none
  | .lastore => match st with
    | .inr (.inl v) :: .inl x :: .inr (.inr (some k)) :: r => am_arr nc k fun t n => if t = 3 ∧ nc = 126 ∧ 0 ≤ x ∧ x < n then am_go (pc + 1) ls r nc np (am_up M k x.toNat v) else none
    | _ => none
  | .arraylength => am_a1 st fun k r => if k = 999 then (if cn = 17 then am_go (pc + 1) ls (.inl (L : Int) :: r) nc np M else none) else am_arr nc k fun _ n => am_go (pc + 1) ls (.inl (n : Int) :: r) nc np M
  | .new x => match (am_CL.getD cn []).lookup x with
    | some (ci, _) => match am_sh[nc]? with
      | some (.inr (c, ks)) => if c = ci ∧ ks.all (fun f => f.1 != 2 || Nat.ble np f.2.2) = true then am_go (pc + 3) ls (.inr (.inr (some nc)) :: st) (nc + 1) np (am_zr M nc) else none
      | _ => none
    | none => none
  | .newarray a => am_p1 st fun x r => match am_sh[nc]? with
    | some (.inl (t, n)) => if t = am_atp a ∧ x = n then am_go (pc + 2) ls (.inr (.inr (some nc)) :: r) (nc + 1) np (am_zr M nc) else none
    | _ => none
  | .invokespecial x => match (am_ML.getD cn []).lookup x with
    | some (10000, _, _) => am_a1 st fun _ r => if am_ct r ≤ 8 then am_go (pc + 3) ls r nc np M else none
    | _ => none
  | .invokestatic x => match (am_ML.getD cn []).lookup x with
    | some (10001, _, _) => match st with
      | .inl n :: .inl dp :: .inr (.inr (some d)) :: .inl sp :: .inr (.inr (some s)) :: r => am_arr nc s fun t0 n0 => am_arr nc d fun t1 n1 => if t0 = 0 ∧ t1 = 0 ∧ 0 ≤ n ∧ 0 ≤ dp ∧ 0 ≤ sp ∧ sp + n ≤ n0 ∧ dp + n ≤ n1 ∧ nc = 126 ∧ am_ct r ≤ 8 then am_go (pc + 3) ls r nc np (am_cp M s sp.toNat d dp.toNat n.toNat) else none
      | _ => none
    | _ => none
  | _ => none
def am_rs (lv : List (Nat × List Nat)) (pc : Nat) (ls : am_L) : am_L := match lv.lookup pc with
  | none => ls
  | some l => l.filterMap fun i => (ls.lookup i).map fun v => (i, v)
def am_xw (nc : Nat) (lv : List (Nat × List Nat)) (r : Option am_N) : Option am_N := match r with
  | some (.inl (pc', ls', st', nc', np', M')) => (match Nat.ble nc nc' with
    | true => some (.inl (pc', am_rs lv pc' ls', st', nc', np', M'))
    | false => none)
  | _ => none
/-- one instruction -/
def am_st (L : Nat) (xs : Nat → Int) (me : am_ME) (pc : Nat) (ls : am_L) (st : List am_V) (nc np : Nat) (M : am_M) : Option am_N :=
  match me with
  | (cn, y, _, nL, ret, _, _, wr, ins, lv) => match ins.lookup pc with
    | none => none
    | some (i, len) => match i with
      | .ireturn => match st with
        | [.inl x] => match ret with
          | some .int => some (.inr (.inl (some (.inl x))))
          | some .boolean => if x = 0 ∨ x = 1 then some (.inr (.inl (some (.inl x)))) else none
          | _ => none
        | _ => none
      | .lreturn => match st with
        | [.inr (.inl x)] => match ret with
          | some .long => some (.inr (.inl (some (.inr (.inl x)))))
          | _ => none
        | _ => none
      | .return_ => match st with
        | [] => match ret with
          | none => some (.inr (.inl none))
          | _ => none
        | _ => none
      | .invokevirtual x => match (am_ML.getD cn []).lookup x with
        | some (t, _, _) => some (.inr (.inr (t, 1)))
        | none => none
      | .invokestatic x => match (am_ML.getD cn []).lookup x with
        | some (10001, _, _) => am_xw nc lv (am_x L xs cn (y.name == "<init>") wr nL pc ls st nc np M i len)
        | some (t, _, _) => some (.inr (.inr (t, 0)))
        | none => none
      | .invokespecial x => match (am_ML.getD cn []).lookup x with
        | some (10000, _, _) => am_xw nc lv (am_x L xs cn (y.name == "<init>") wr nL pc ls st nc np M i len)
        | some (t, _, _) => some (.inr (.inr (t, 2)))
        | none => none
      | _ => am_xw nc lv (am_x L xs cn (y.name == "<init>") wr nL pc ls st nc np M i len)

/-- what a call takes from the stack: the arguments, and the rest -/
def am_cl (me : am_ME) (kd : Nat) (st : List am_V) (nc : Nat) : Option (List am_V × List am_V) := match me with
  | (cn, y, _, nL, _, na, stt, _) => if na ≤ st.length ∧ am_ct (st.drop na) ≤ 8 ∧ am_ct (st.take na) ≤ nL then (match kd with
    | 0 => if stt = 0 then some ((st.take na).reverse, st.drop na) else none
    | _ => match (st.take na).reverse with
      | .inr (.inr (some k)) :: _ => (match am_sh[k]? with
        | some (.inr (c, _)) => if stt = 1 ∧ k < nc ∧ c = cn ∧ (kd == 2) = (y.name == "<init>") then some ((st.take na).reverse, st.drop na) else none
        | _ => none)
      | _ => none) else none
abbrev am_O : Type := Option am_V × Nat × Nat × am_M
/-- n steps at most, d calls open in one another at most -/
def am_run (L : Nat) (xs : Nat → Int) : Nat → Nat → am_ME → Nat → am_L → List am_V → Nat → Nat → am_M → Option am_O
  | 0, _, _, _, _, _, _, _, _ => none
  | n + 1, d, me, pc, ls, st, nc, np, M => match am_st L xs me pc ls st nc np M with
    | none => none
    | some (.inl (pc', ls', st', nc', np', M')) => am_run L xs n d me pc' ls' st' nc' np' M'
    | some (.inr (.inl v)) => some (v, nc, np, M)
    | some (.inr (.inr (t, kd))) => match d with
      | 0 => none
      | d' + 1 => match am_me[t]? with
        | none => none
        | some me' => match am_cl me' kd st nc with
          | none => none
          | some (as, rest) => match am_run L xs n d' me' 0 (am_ar1 0 as) [] nc np M with
            | none => none
            | some (v, nc', np', M') => am_run L xs n d me (pc + 3) (am_rs me.2.2.2.2.2.2.2.2.2 (pc + 3) ls) (v.toList ++ rest) nc' np' M'
