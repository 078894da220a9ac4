/-! THE MINI MACHINE: the class's, the reference's and the law's bytecode over a heap of small addresses. A heap: ints and refs and longs by cell and place, a cell's tag and length, how many cells, how many cells and slots were made so far. -/
abbrev mm_H : Type := (Nat → Nat → Int32) × (Nat → Nat → Option Nat) × (Nat → Nat → Int64) × (Nat → Nat × Nat) × Nat × Nat × Nat
abbrev mm_I (H : mm_H) : Nat → Nat → Int32 := H.1
abbrev mm_R (H : mm_H) : Nat → Nat → Option Nat := H.2.1
abbrev mm_L (H : mm_H) : Nat → Nat → Int64 := H.2.2.1
abbrev mm_sh (H : mm_H) : Nat → Nat × Nat := H.2.2.2.1
abbrev mm_n (H : mm_H) : Nat := H.2.2.2.2.1
abbrev mm_nc (H : mm_H) : Nat := H.2.2.2.2.2.1
abbrev mm_ns (H : mm_H) : Nat := H.2.2.2.2.2.2
def mm_u2 {α : Type} (f : Nat → Nat → α) (k j : Nat) (v : α) : Nat → Nat → α := fun a b => if a = k ∧ b = j then v else f a b
def mm_u1 {α : Type} (f : Nat → α) (k : Nat) (v : α) : Nat → α := fun a => if a = k then v else f a
def mm_wI (H : mm_H) (k j : Nat) (v : Int32) : mm_H := (mm_u2 H.1 k j v, H.2)
def mm_wR (H : mm_H) (k j : Nat) (v : Option Nat) : mm_H := (H.1, mm_u2 H.2.1 k j v, H.2.2)
def mm_wL (H : mm_H) (k j : Nat) (v : Int64) : mm_H := (H.1, H.2.1, mm_u2 H.2.2.1 k j v, H.2.2.2)
def mm_new (H : mm_H) (tag len : Nat) : mm_H := (mm_u1 H.1 (mm_n H) (fun _ => 0), mm_u1 H.2.1 (mm_n H) (fun _ => none), mm_u1 H.2.2.1 (mm_n H) (fun _ => 0), mm_u1 (mm_sh H) (mm_n H) (tag, len), mm_n H + 1, mm_nc H + 1, mm_ns H + len)
def mm_thr (H : mm_H) : mm_H := (H.1, H.2.1, H.2.2.1, mm_sh H, mm_n H, mm_nc H + 1, mm_ns H + 6)
/-- a method: its class, its locals, the kind of its answer (0 none, 1 int, 2 boolean, 3 a reference, 4 none, a constructor's, 5 char, 6 byte), its table of handlers, its code -/
abbrev mm_M : Type := Nat × Nat × Nat × List (Nat × Nat × Nat × Nat) × List (Nat × Instr × Nat)
def mm_look {α : Type} : List (Nat × α) → Nat → Option α
  | [], _ => none
  | (k, v) :: r, i => match Nat.beq k i with
    | true => some v
    | false => mm_look r i
def mm_at {α : Type} : List α → Nat → Option α
  | [], _ => none
  | x :: _, 0 => some x
  | _ :: r, n + 1 => mm_at r n
/-- a table by class and constant pool place -/
def mm_tab {α : Type} (T : List (List (Nat × α))) (own i : Nat) : Option α := match mm_at T own with
  | some l => mm_look l i
  | none => none
abbrev mm_St : Type := Nat × List (Option Value) × List Value × mm_H
/-- a step's end: goes on | returns | calls (the method, its arguments, what stays on the stack) | throws -/
abbrev mm_Res : Type := mm_St ⊕ (Option Value ⊕ ((Nat × List Value × List Value × Bool) ⊕ Nat))
def mm_nx (pc : Nat) (lo : List (Option Value)) (st : List Value) (H : mm_H) : Option mm_Res := some (.inl (pc, lo, st, H))
def mm_br (pc : Nat) (off : Int) (lo : List (Option Value)) (st : List Value) (H : mm_H) : Option mm_Res := if 0 ≤ (pc : Int) + off then mm_nx ((pc : Int) + off).toNat lo st H else none
def mm_long : Value → Bool
  | .long _ => true
  | .double _ => true
  | _ => false
/-- a wide value ahead of the place -/
def mm_lg (lo : List (Option Value)) : Nat → Bool
  | 0 => false
  | j + 1 => match mm_at lo j with
    | some (some v) => mm_long v
    | _ => false
def mm_set (lo : List (Option Value)) (i : Nat) (v : Option Value) : List (Option Value) := match lo, i with
  | [], _ => []
  | _ :: r, 0 => v :: r
  | x :: r, n + 1 => x :: mm_set r n v
def mm_sto (pc : Nat) (lo : List (Option Value)) (i : Nat) (v : Value) (st : List Value) (H : mm_H) : Option mm_Res := match mm_lg lo i with
  | true => none
  | false => if i < lo.length then mm_nx pc (mm_set lo i (some v)) st H else none
def mm_ldI (pc : Nat) (lo : List (Option Value)) (i : Nat) (st : List Value) (H : mm_H) : Option mm_Res := match mm_at lo i with
  | some (some (.int x)) => mm_nx pc lo (.int x :: st) H
  | _ => none
def mm_ldL (pc : Nat) (lo : List (Option Value)) (i : Nat) (st : List Value) (H : mm_H) : Option mm_Res := match mm_at lo i with
  | some (some (.long x)) => mm_nx pc lo (.long x :: st) H
  | _ => none
def mm_ldA (pc : Nat) (lo : List (Option Value)) (i : Nat) (st : List Value) (H : mm_H) : Option mm_Res := match mm_at lo i with
  | some (some (.ref x)) => mm_nx pc lo (.ref x :: st) H
  | some (some .null) => mm_nx pc lo (.null :: st) H
  | _ => none
def mm_cat : List Value → Nat
  | [] => 0
  | v :: r => (if mm_long v = true then 2 else 1) + mm_cat r
def mm_ii (st : List Value) (k : Int32 → Int32 → List Value → Option mm_Res) : Option mm_Res := match st with
  | .int y :: .int x :: r => k x y r
  | _ => none
def mm_i (st : List Value) (k : Int32 → List Value → Option mm_Res) : Option mm_Res := match st with
  | .int x :: r => k x r
  | _ => none
/-- the n values on top, the first pushed first; what is below -/
def mm_pop : Nat → List Value → List Value → Option (List Value × List Value)
  | 0, acc, st => some (acc, st)
  | _ + 1, _, [] => none
  | n + 1, acc, v :: st => mm_pop n (v :: acc) st
def mm_slots : List Value → List (Option Value)
  | [] => []
  | v :: r => match mm_long v with
    | true => some v :: none :: mm_slots r
    | false => some v :: mm_slots r
def mm_pad : Nat → List (Option Value) → Option (List (Option Value))
  | n, [] => some (List.replicate n none)
  | 0, _ :: _ => none
  | n + 1, x :: r => match mm_pad n r with
    | some q => some (x :: q)
    | none => none
def mm_enter (As : List Value) (nL : Nat) : Option (List (Option Value)) := mm_pad nL (mm_slots As)
def mm_call (H : mm_H) (mi n ci : Nat) (kind : Nat) (thr : Bool) (st : List Value) : Option mm_Res := match mm_pop n [] st with
  | none => none
  | some (As, st1) => match kind with
    | 0 => if mm_cat st1 ≤ 8 then some (.inr (.inr (.inl (mi, As, st1, thr)))) else none
    | 1 => match st1 with
      | .ref b :: r => if (mm_sh H b).1 = ci ∧ mm_cat r ≤ 8 then some (.inr (.inr (.inl (mi, .ref b :: As, r, thr)))) else none
      | _ => none
    | _ => match st1 with
      | .ref b :: r => if mm_cat r ≤ 8 then some (.inr (.inr (.inl (mi, .ref b :: As, r, thr)))) else none
      | _ => none
def mm_step (M : mm_M) (d pc len : Nat) (lo : List (Option Value)) (st : List Value) (H : mm_H) : Instr → Option mm_Res
  | .aload_n i => mm_ldA (pc + len) lo i.val st H
  | .aload i => mm_ldA (pc + len) lo i st H
  | .iload_n i => mm_ldI (pc + len) lo i.val st H
  | .iload i => mm_ldI (pc + len) lo i st H
  | .lload_n i => mm_ldL (pc + len) lo i.val st H
  | .lload i => mm_ldL (pc + len) lo i st H
  | .iconst i => mm_nx (pc + len) lo (.int (Int32.ofInt i) :: st) H
  | .lconst i => mm_nx (pc + len) lo (.long (Int64.ofNat i.val) :: st) H
  | .bipush i => mm_nx (pc + len) lo (.int (Int8.ofInt i).toInt32 :: st) H
  | .sipush i => mm_nx (pc + len) lo (.int (Int16.ofInt i).toInt32 :: st) H
  | .ldc i => match mm_tab mm_conT M.1 i with
    | some v => mm_nx (pc + len) lo (.int v :: st) H
    | none => match mm_tab mm_strT M.1 i with
      | some j => mm_nx (pc + len) lo (.ref (1000 + j) :: st) H
      | none => none
  | .ldc_w i => match mm_tab mm_conT M.1 i with
    | some v => mm_nx (pc + len) lo (.int v :: st) H
    | none => match mm_tab mm_strT M.1 i with
      | some j => mm_nx (pc + len) lo (.ref (1000 + j) :: st) H
      | none => none
  | .ldc2_w i => match mm_tab mm_conLT M.1 i with
    | some v => mm_nx (pc + len) lo (.long v :: st) H
    | none => none
  | .istore_n i => mm_i st fun x r => mm_sto (pc + len) lo i.val (.int x) r H
  | .istore i => mm_i st fun x r => mm_sto (pc + len) lo i (.int x) r H
  | .astore_n i => match st with
    | .ref x :: r => mm_sto (pc + len) lo i.val (.ref x) r H
    | .null :: r => mm_sto (pc + len) lo i.val .null r H
    | _ => none
  | .astore i => match st with
    | .ref x :: r => mm_sto (pc + len) lo i (.ref x) r H
    | .null :: r => mm_sto (pc + len) lo i .null r H
    | _ => none
  | .iinc i c => match len with
    | 3 => match mm_at lo i with
      | some (some (.int x)) => mm_sto (pc + 3) lo i (.int (x + Int32.ofInt c)) st H
      | _ => none
    | _ => none
  | .iadd => mm_ii st fun x y r => mm_nx (pc + len) lo (.int (x + y) :: r) H
  | .isub => mm_ii st fun x y r => mm_nx (pc + len) lo (.int (x - y) :: r) H
  | .imul => mm_ii st fun x y r => mm_nx (pc + len) lo (.int (x * y) :: r) H
  | .idiv => mm_ii st fun x y r => if y = 0 then none else mm_nx (pc + len) lo (.int (x / y) :: r) H
  | .irem => mm_ii st fun x y r => if y = 0 then none else mm_nx (pc + len) lo (.int (x - x / y * y) :: r) H
  | .iand => mm_ii st fun x y r => mm_nx (pc + len) lo (.int (x &&& y) :: r) H
  | .ior => mm_ii st fun x y r => mm_nx (pc + len) lo (.int (x ||| y) :: r) H
  | .ixor => mm_ii st fun x y r => mm_nx (pc + len) lo (.int (x ^^^ y) :: r) H
  | .ishl => mm_ii st fun x y r => mm_nx (pc + len) lo (.int (x <<< (y &&& 31)) :: r) H
  | .ishr => mm_ii st fun x y r => mm_nx (pc + len) lo (.int (x >>> (y &&& 31)) :: r) H
  | .iushr => mm_ii st fun x y r => mm_nx (pc + len) lo (.int (x.toUInt32 >>> (y.toUInt32 &&& Int32.toUInt32 31)).toInt32 :: r) H
  | .ineg => mm_i st fun x r => mm_nx (pc + len) lo (.int (-x) :: r) H
  | .i2l => mm_i st fun x r => mm_nx (pc + len) lo (.long x.toInt64 :: r) H
  | .i2c => mm_i st fun x r => mm_nx (pc + len) lo (.int (x.toUInt32 % 65536).toInt32 :: r) H
  | .i2b => mm_i st fun x r => mm_nx (pc + len) lo (.int x.toInt8.toInt32 :: r) H
  | .lcmp => match st with
    | .long y :: .long x :: r => mm_nx (pc + len) lo (.int (lg_cmp x y) :: r) H
    | _ => none
  | .dup => match st with
    | v :: r => if mm_long v = true then none else mm_nx (pc + len) lo (v :: v :: r) H
    | _ => none
  | .dup2 => match st with
    | v :: w :: r => if mm_long v = true ∨ mm_long w = true then none else mm_nx (pc + len) lo (v :: w :: v :: w :: r) H
    | _ => none
  | .pop => match st with
    | v :: r => if mm_long v = true then none else mm_nx (pc + len) lo r H
    | _ => none
  | .goto off => mm_br pc off lo st H
  | .ifCond c off => mm_i st fun x r => match c with
    | .eq => if x = 0 then mm_br pc off lo r H else mm_nx (pc + 3) lo r H
    | .ne => if x = 0 then mm_nx (pc + 3) lo r H else mm_br pc off lo r H
    | .lt => if x < 0 then mm_br pc off lo r H else mm_nx (pc + 3) lo r H
    | .ge => if 0 ≤ x then mm_br pc off lo r H else mm_nx (pc + 3) lo r H
    | .gt => if 0 < x then mm_br pc off lo r H else mm_nx (pc + 3) lo r H
    | .le => if x ≤ 0 then mm_br pc off lo r H else mm_nx (pc + 3) lo r H
  | .if_icmp c off => mm_ii st fun x y r => match c with
    | .eq => if x = y then mm_br pc off lo r H else mm_nx (pc + 3) lo r H
    | .ne => if x = y then mm_nx (pc + 3) lo r H else mm_br pc off lo r H
    | .lt => if x < y then mm_br pc off lo r H else mm_nx (pc + 3) lo r H
    | .ge => if y ≤ x then mm_br pc off lo r H else mm_nx (pc + 3) lo r H
    | .gt => if y < x then mm_br pc off lo r H else mm_nx (pc + 3) lo r H
    | .le => if x ≤ y then mm_br pc off lo r H else mm_nx (pc + 3) lo r H
  | .ifnull off => match st with
    | .null :: r => mm_br pc off lo r H
    | .ref _ :: r => mm_nx (pc + 3) lo r H
    | _ => none
  | .ifnonnull off => match st with
    | .null :: r => mm_nx (pc + 3) lo r H
    | .ref _ :: r => mm_br pc off lo r H
    | _ => none
  | .tableswitch dflt lo1 hi1 offs => mm_i st fun x r => if x.toInt < lo1 ∨ hi1 < x.toInt then mm_br pc dflt lo r H else match offs[(x.toInt - lo1).toNat]? with
    | some off => mm_br pc off lo r H
    | none => none
  | .getstatic i => match mm_tab mm_gsT M.1 i with
    | some 0 => mm_nx (pc + 3) lo (.int 1 :: st) H
    | some _ => mm_nx (pc + 3) lo (va_rf (mm_R H 4000 0) :: st) H
    | none => none
  | .getfield i => match mm_tab mm_fldT M.1 i with
    | some (ci, k, _) => (match st with
      | .ref q :: r => if (mm_sh H q).1 = ci then (match mm_tab mm_ftT ci k with
        | some 0 => mm_nx (pc + 3) lo (.int (mm_I H q k) :: r) H
        | some 1 => mm_nx (pc + 3) lo (.int (mm_I H q k) :: r) H
        | some _ => mm_nx (pc + 3) lo (va_rf (mm_R H q k) :: r) H
        | none => none) else none
      | _ => none)
    | none => match mm_tab mm_sfT M.1 i with
      | some k => (match st with
        | .ref q :: r => if (mm_sh H q).1 = 107 then (match k with
          | 0 => mm_nx (pc + 3) lo (.ref (q + 1000) :: r) H
          | _ => mm_nx (pc + 3) lo (.int 0 :: r) H) else none
        | _ => none)
      | none => none
  | .putfield i => match mm_tab mm_fldT M.1 i with
    | none => none
    | some (ci, k, _) => match st with
      | .int x :: .ref q :: r => if (mm_sh H q).1 = ci then (match mm_tab mm_ftT ci k with
        | some 0 => mm_nx (pc + 3) lo r (mm_wI H q k x)
        | some 1 => if x = 0 ∨ x = 1 then mm_nx (pc + 3) lo r (mm_wI H q k x) else none
        | _ => none) else none
      | .ref x :: .ref q :: r => if (mm_sh H q).1 = ci then (match mm_tab mm_ftT ci k with
        | some 2 => mm_nx (pc + 3) lo r (mm_wR H q k (some x))
        | some 6 => if M.2.2.1 = 4 ∧ M.1 = ci then mm_nx (pc + 3) lo r (mm_wR H q k (some x)) else none
        | _ => none) else none
      | _ => none
  | .iaload => match st with
    | .int i :: .ref q :: r => if (mm_sh H q).1 = 100 ∨ (mm_sh H q).1 = 106 then (if i < 0 ∨ (mm_sh H q).2 ≤ i.toNatClampNeg then none else mm_nx (pc + len) lo (.int (mm_I H q i.toNatClampNeg) :: r) H) else none
    | _ => none
  | .baload => match st with
    | .int i :: .ref q :: r => if (mm_sh H q).1 = 101 ∨ (mm_sh H q).1 = 108 then (if i < 0 ∨ (mm_sh H q).2 ≤ i.toNatClampNeg then none else mm_nx (pc + len) lo (.int (mm_I H q i.toNatClampNeg) :: r) H) else none
    | _ => none
  | .laload => match st with
    | .int i :: .ref q :: r => if (mm_sh H q).1 = 102 then (if i < 0 ∨ (mm_sh H q).2 ≤ i.toNatClampNeg then none else mm_nx (pc + len) lo (.long (mm_L H q i.toNatClampNeg) :: r) H) else none
    | _ => none
  | .aaload => match st with
    | .int i :: .ref q :: r => if (mm_sh H q).1 = 103 ∨ (mm_sh H q).1 = 104 ∨ (mm_sh H q).1 = 105 then (if i < 0 ∨ (mm_sh H q).2 ≤ i.toNatClampNeg then none else mm_nx (pc + len) lo (va_rf (mm_R H q i.toNatClampNeg) :: r) H) else none
    | _ => none
  | .iastore => match st with
    | .int x :: .int i :: .ref q :: r => if (mm_sh H q).1 = 100 then (if i < 0 ∨ (mm_sh H q).2 ≤ i.toNatClampNeg then none else mm_nx (pc + len) lo r (mm_wI H q i.toNatClampNeg x)) else none
    | _ => none
  | .bastore => match st with
    | .int x :: .int i :: .ref q :: r => if (mm_sh H q).1 = 101 then (if i < 0 ∨ (mm_sh H q).2 ≤ i.toNatClampNeg then none else mm_nx (pc + len) lo r (mm_wI H q i.toNatClampNeg (vp_nar .byte x))) else none
    | _ => none
  | .lastore => match st with
    | .long x :: .int i :: .ref q :: r => if (mm_sh H q).1 = 102 then (if i < 0 ∨ (mm_sh H q).2 ≤ i.toNatClampNeg then none else mm_nx (pc + len) lo r (mm_wL H q i.toNatClampNeg x)) else none
    | _ => none
  | .aastore => match st with
    | .ref x :: .int i :: .ref q :: r => if ((mm_sh H q).1 = 103 ∧ (mm_sh H x).1 = 0) ∨ ((mm_sh H q).1 = 104 ∧ (mm_sh H x).1 = 8) ∨ ((mm_sh H q).1 = 105 ∧ (mm_sh H x).1 = 107) then (if i < 0 ∨ (mm_sh H q).2 ≤ i.toNatClampNeg then none else mm_nx (pc + len) lo r (mm_wR H q i.toNatClampNeg (some x))) else none
    | _ => none
  | .arraylength => match st with
    | .ref q :: r => if (100 ≤ (mm_sh H q).1 ∧ (mm_sh H q).1 ≤ 106) ∨ (mm_sh H q).1 = 108 then mm_nx (pc + len) lo (.int (Int32.ofNat (mm_sh H q).2) :: r) H else none
    | _ => none
  | .new i => match mm_tab mm_newT M.1 i with
    | some (ci, N) => if mm_n H < 1000 then mm_nx (pc + 3) lo (.ref (mm_n H) :: st) (mm_new H ci N) else none
    | none => match mm_tab mm_excT M.1 i with
      | some (E, ic) => if mm_cat st ≤ 8 ∧ 12 ≤ d then (match mm_look M.2.2.2.2 (pc + 3), mm_look M.2.2.2.2 (pc + 4), mm_look M.2.2.2.2 (pc + 7), M.2.2.2.1 with
        | some (.dup, 1), some (.invokespecial jc, 3), some (.athrow, 1), [] => if jc = ic then some (.inr (.inr (.inr E))) else none
        | _, _, _, _ => none) else none
      | none => none
  | .newarray ty => mm_i st fun x r => if x < 0 ∨ 100000 < x.toNatClampNeg then none else (if mm_n H < 1000 then (match ty with
    | .int => mm_nx (pc + len) lo (.ref (mm_n H) :: r) (mm_new H 100 x.toNatClampNeg)
    | .byte => mm_nx (pc + len) lo (.ref (mm_n H) :: r) (mm_new H 101 x.toNatClampNeg)
    | .long => mm_nx (pc + len) lo (.ref (mm_n H) :: r) (mm_new H 102 x.toNatClampNeg)
    | _ => none) else none)
  | .anewarray i => mm_i st fun x r => if x < 0 ∨ 100000 < x.toNatClampNeg then none else (if mm_n H < 1000 then (match mm_tab mm_arrT M.1 i with
    | some t => mm_nx (pc + len) lo (.ref (mm_n H) :: r) (mm_new H t x.toNatClampNeg)
    | none => none) else none)
  | .invokestatic i => match mm_tab mm_mthT M.1 i with
    | some (0, mi, n, 0, ci) => mm_call H mi n ci 0 true st
    | some (0, mi, n, 1, ci) => mm_call H mi n ci 0 false st
    | some (4, _, _, _, _) => (match st with
      | .int y :: .int x :: r => if mm_cat r ≤ 8 ∧ 12 ≤ d then mm_nx (pc + 3) lo (.int (if x < y then y else x) :: r) H else none
      | _ => none)
    | some (5, _, _, _, _) => (match st with
      | .int y :: .int x :: r => if mm_cat r ≤ 8 ∧ 12 ≤ d then mm_nx (pc + 3) lo (.int (if y < x then y else x) :: r) H else none
      | _ => none)
    | _ => none
  | .invokevirtual i => match mm_tab mm_mthT M.1 i with
    | some (1, mi, n, 0, ci) => mm_call H mi n ci 1 true st
    | some (1, mi, n, 1, ci) => mm_call H mi n ci 1 false st
    | _ => none
  | .invokespecial i => match mm_tab mm_mthT M.1 i with
    | some (2, mi, n, _, ci) => mm_call H mi n ci 2 false st
    | some (3, _, _, _, _) => (match st with
      | .ref _ :: r => if mm_cat r ≤ 8 ∧ 12 ≤ d then mm_nx (pc + 3) lo r H else none
      | _ => none)
    | _ => none
  | .ireturn => match st with
    | [.int x] => (match M.2.2.1 with
      | 1 => some (.inr (.inl (some (.int x))))
      | 2 => if x = 0 ∨ x = 1 then some (.inr (.inl (some (.int x)))) else none
      | 5 => if (x.toUInt32 % 65536).toInt32 = x then some (.inr (.inl (some (.int x)))) else none
      | 6 => if x = 0 ∨ x = 1 then some (.inr (.inl (some (.int x)))) else none
      | _ => none)
    | _ => none
  | .areturn => match st with
    | [.ref x] => (match M.2.2.1 with
      | 3 => some (.inr (.inl (some (.ref x))))
      | _ => none)
    | [.null] => (match M.2.2.1 with
      | 3 => some (.inr (.inl (some .null)))
      | _ => none)
    | _ => none
  | .return_ => match st with
    | [] => (match M.2.2.1 with
      | 0 => some (.inr (.inl none))
      | 4 => some (.inr (.inl none))
      | _ => none)
    | _ => none
  | _ => none
/-- the handler of an exception at a place: the first row that covers it and names its class; rows of another class are passed -/
def mm_hand : List (Nat × Nat × Nat × Nat) → Nat → Nat → Nat → Option Nat
  | [], _, _, _ => none
  | (a, b, h, ct) :: r, own, pc, E => if a ≤ pc ∧ pc < b then (match mm_tab mm_ctT own ct with
    | some E1 => if E1 = E then some h else (if E = 1 ∧ E1 = 0 then mm_hand r own pc E else none)
    | none => none) else mm_hand r own pc E
def mm_run : Nat → Nat → mm_M → Nat → List (Option Value) → List Value → mm_H → Option ((Option Value ⊕ Nat) × mm_H)
  | 0, _, _, _, _, _, _ => none
  | f + 1, d, M, pc, lo, st, H => match mm_look M.2.2.2.2 pc with
    | none => none
    | some (i, len) => match mm_step M d pc len lo st H i with
      | none => none
      | some (.inl (pc1, lo1, st1, H1)) => mm_run f d M pc1 lo1 st1 H1
      | some (.inr (.inl v)) => some (.inl v, H)
      | some (.inr (.inr (.inr E))) => some (.inr E, mm_thr H)
      | some (.inr (.inr (.inl (mi, As, rest, thr)))) => match d with
        | 0 => none
        | d1 + 1 => match mm_at mm_prog mi with
          | none => none
          | some M1 => match mm_enter As M1.2.1 with
            | none => none
            | some lo1 => match mm_run f d1 M1 0 lo1 [] H with
              | none => none
              | some (.inl v, H1) => mm_run f (d1 + 1) M (pc + 3) lo (v.toList ++ rest) H1
              | some (.inr E, H1) => match thr, M1.2.2.2.1, M.2.2.2.1 with
                | true, [], [] => some (.inr E, H1)
                | true, [], h :: hs => match mm_hand (h :: hs) M.1 pc E with
                  | none => none
                  | some hp => match mm_look M.2.2.2.2 hp with
                    | some (.astore_n k, 1) => (match mm_lg lo k.val with
                      | true => none
                      | false => if k.val < lo.length then mm_run f (d1 + 1) M (hp + 1) (mm_set lo k.val none) [] H1 else none)
                    | some (.astore k, 2) => (match mm_lg lo k with
                      | true => none
                      | false => if k < lo.length then mm_run f (d1 + 1) M (hp + 2) (mm_set lo k none) [] H1 else none)
                    | _ => none
                | _, _, _ => none
