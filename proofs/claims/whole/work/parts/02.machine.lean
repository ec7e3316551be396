/-! THE ABSTRACT MACHINE: the claim's bytecode over a pure heap. A value is a Value: .int, .null, .ref k (cell number k of the world), .retAddr 0 (the law's script), .retAddr (j+1) (text constant j). The heap: how many cells, how many slots they have in all, the cells. -/
abbrev am_E : Type := (FieldType × Nat × ((Nat → Int32) ⊕ (Nat → Option Nat))) ⊕ (Nat × List Value)
abbrev am_H : Type := Nat × Nat × (Nat → am_E)
/-- an instruction, with what its pool entry or its offset comes to (two numbers and an int) -/
abbrev am_I : Type := Instr × Nat × Nat × Int32
abbrev am_L : Type := List (Option Value)
/-- what a step comes to: on (pc, locals, stack, heap), or an end (answer), or a call (method, arguments, pc behind, rest of the stack) -/
abbrev am_R : Type := Option ((Nat × am_L × List Value × am_H) ⊕ (Option Value ⊕ (Nat × List Value × Nat × List Value)))
/-- the law's script (its length, its ints), and the bytes of the text constants -/
abbrev am_X : Type := Nat × (Nat → Int32) × (Nat → List Int32)
def am_up (h : Nat → am_E) (a : Nat) (e : am_E) : Nat → am_E := fun b => if b = a then e else h b
def am_no : am_E := .inr (1000, [])
def am_nx (pc : Nat) (ls : am_L) (st : List Value) (H : am_H) : am_R := some (.inl (pc, ls, st, H))
def am_bin (f : Int32 → Int32 → Int32) (pc : Nat) (ls : am_L) (st : List Value) (H : am_H) : am_R := match st with
  | .int y :: .int x :: r => am_nx (pc + 1) ls (.int (f x y) :: r) H
  | _ => none
def am_div (f : Int32 → Int32 → Int32) (pc : Nat) (ls : am_L) (st : List Value) (H : am_H) : am_R := match st with
  | .int y :: .int x :: r => if y = 0 then none else am_nx (pc + 1) ls (.int (f x y) :: r) H
  | _ => none
def am_un (f : Int32 → Int32) (pc : Nat) (ls : am_L) (st : List Value) (H : am_H) : am_R := match st with
  | .int x :: r => am_nx (pc + 1) ls (.int (f x) :: r) H
  | _ => none
def am_iload (i pc : Nat) (ls : am_L) (st : List Value) (H : am_H) : am_R := match ls[i]? with
  | some (some (.int x)) => am_nx pc ls (.int x :: st) H
  | _ => none
def am_aload (i pc : Nat) (ls : am_L) (st : List Value) (H : am_H) : am_R := match ls[i]? with
  | some (some (.ref x)) => am_nx pc ls (.ref x :: st) H
  | some (some (.retAddr x)) => am_nx pc ls (.retAddr x :: st) H
  | _ => none
def am_istore (i pc : Nat) (ls : am_L) (st : List Value) (H : am_H) : am_R := match st with
  | .int x :: r => if i < ls.length then am_nx pc (ls.set i (some (.int x))) r H else none
  | _ => none
def am_astore (i pc : Nat) (ls : am_L) (st : List Value) (H : am_H) : am_R := match st with
  | .ref x :: r => if i < ls.length then am_nx pc (ls.set i (some (.ref x))) r H else none
  | _ => none
def am_iinc (i : Nat) (v : Int32) (pc : Nat) (ls : am_L) (st : List Value) (H : am_H) : am_R := match ls[i]? with
  | some (some (.int x)) => am_nx (pc + 3) (ls.set i (some (.int (x + v)))) st H
  | _ => none
/-- a jump by one int, by two -/
def am_j1 (c : Int32 → Bool) (t pc : Nat) (ls : am_L) (st : List Value) (H : am_H) : am_R := match st with
  | .int x :: r => if c x = true then am_nx t ls r H else am_nx (pc + 3) ls r H
  | _ => none
def am_j2 (c : Int32 → Int32 → Bool) (t pc : Nat) (ls : am_L) (st : List Value) (H : am_H) : am_R := match st with
  | .int y :: .int x :: r => if c x y = true then am_nx t ls r H else am_nx (pc + 3) ls r H
  | _ => none
def am_jr (t pc : Nat) (ls : am_L) (st : List Value) (H : am_H) : am_R := match st with
  | .ref y :: .ref x :: r => if x = y then am_nx (pc + 3) ls r H else am_nx t ls r H
  | _ => none
def am_sw (lo hi : Int) (offs : List Nat) (d : Nat) (ls : am_L) (st : List Value) (H : am_H) : am_R := match st with
  | .int x :: r => if x.toInt < lo ∨ hi < x.toInt then am_nx d ls r H else match offs[(x.toInt - lo).toNat]? with
    | some t => am_nx t ls r H
    | none => none
  | _ => none
def am_getf (ci k pc : Nat) (ls : am_L) (st : List Value) (H : am_H) : am_R := match st with
  | .ref a :: r => match H.2.2 a with
    | .inr (c, fs) => if c = ci then match fs[k]? with
      | some v => am_nx (pc + 3) ls (v :: r) H
      | none => none
      else none
    | _ => none
  | _ => none
/-- a value that a field of this type takes as it is -/
def am_fit (ty : FieldType) (v : Value) : Bool := match ty, v with
  | .int, .int _ => true
  | .boolean, .int x => x == 0 || x == 1
  | .object _, .ref _ => true
  | .array _, .ref _ => true
  | _, _ => false
def am_putf (ty : FieldType) (ci k pc : Nat) (ls : am_L) (st : List Value) (H : am_H) : am_R := match st with
  | v :: .ref a :: r => match H.2.2 a with
    | .inr (c, fs) => if c = ci then if k < fs.length then if am_fit ty v = true then am_nx (pc + 3) ls r (H.1, H.2.1, am_up H.2.2 a (.inr (c, fs.set k v))) else none else none else none
    | _ => none
  | _ => none
/-- an int out of an array: of the world, or of the script -/
def am_ald (X : am_X) (ty : FieldType) (pc : Nat) (ls : am_L) (st : List Value) (H : am_H) : am_R := match st with
  | .int i :: .ref a :: r => match H.2.2 a with
    | .inl (t, n, .inl f) => if t = ty then if i < 0 ∨ n ≤ i.toNatClampNeg then none else am_nx (pc + 1) ls (.int (f i.toNatClampNeg) :: r) H else none
    | _ => none
  | .int i :: .retAddr 0 :: r => if ty = .int then if i < 0 ∨ X.1 ≤ i.toNatClampNeg then none else am_nx (pc + 1) ls (.int (X.2.1 i.toNatClampNeg) :: r) H else none
  | _ => none
def am_ast (ty : FieldType) (w : Int32 → Int32) (pc : Nat) (ls : am_L) (st : List Value) (H : am_H) : am_R := match st with
  | .int x :: .int i :: .ref a :: r => match H.2.2 a with
    | .inl (t, n, .inl f) => if t = ty then if i < 0 ∨ n ≤ i.toNatClampNeg then none else am_nx (pc + 1) ls r (H.1, H.2.1, am_up H.2.2 a (.inl (t, n, .inl (upd f i.toNatClampNeg (w x))))) else none
    | _ => none
  | _ => none
def am_rf (r : Option Nat) : Value := match r with
  | none => .null
  | some a => .ref a
def am_ref (ty : FieldType) : Bool := match ty with
  | .object _ => true
  | .array _ => true
  | _ => false
def am_aald (pc : Nat) (ls : am_L) (st : List Value) (H : am_H) : am_R := match st with
  | .int i :: .ref a :: r => match H.2.2 a with
    | .inl (t, n, .inr f) => if am_ref t = true then if i < 0 ∨ n ≤ i.toNatClampNeg then none else am_nx (pc + 1) ls (am_rf (f i.toNatClampNeg) :: r) H else none
    | _ => none
  | _ => none
/-- an object of class ci into an array of the objects named C -/
def am_aast (nm : Nat → String) (pc : Nat) (ls : am_L) (st : List Value) (H : am_H) : am_R := match st with
  | .ref v :: .int i :: .ref a :: r => match H.2.2 a with
    | .inl (t, n, .inr f) => match H.2.2 v with
      | .inr (c, _) => if c < 13 then if t = .object (nm c) then if i < 0 ∨ n ≤ i.toNatClampNeg then none else am_nx (pc + 1) ls r (H.1, H.2.1, am_up H.2.2 a (.inl (t, n, .inr (va_up f i.toNatClampNeg (some v))))) else none else none
      | _ => none
    | _ => none
  | _ => none
def am_alen (X : am_X) (pc : Nat) (ls : am_L) (st : List Value) (H : am_H) : am_R := match st with
  | .ref a :: r => match H.2.2 a with
    | .inl (_, n, _) => am_nx (pc + 1) ls (.int (Int32.ofNat n) :: r) H
    | _ => none
  | .retAddr 0 :: r => am_nx (pc + 1) ls (.int (Int32.ofNat X.1) :: r) H
  | _ => none
def am_new (ci N : Nat) (fs : List Value) (pc : Nat) (ls : am_L) (st : List Value) (H : am_H) : am_R := am_nx (pc + 3) ls (.ref H.1 :: st) (H.1 + 1, H.2.1 + N, am_up H.2.2 H.1 (.inr (ci, fs)))
/-- a new array of ints, bytes, chars -/
def am_newa (ty : FieldType) (pc : Nat) (ls : am_L) (st : List Value) (H : am_H) : am_R := match st with
  | .int n :: r => if n < 0 ∨ 100000 < n then none else am_nx (pc + 2) ls (.ref H.1 :: r) (H.1 + 1, H.2.1 + n.toNatClampNeg, am_up H.2.2 H.1 (.inl (ty, n.toNatClampNeg, .inl (fun _ => 0))))
  | _ => none
def am_newq (C : String) (pc : Nat) (ls : am_L) (st : List Value) (H : am_H) : am_R := match st with
  | .int n :: r => if n < 0 ∨ 100000 < n then none else am_nx (pc + 3) ls (.ref H.1 :: r) (H.1 + 1, H.2.1 + n.toNatClampNeg, am_up H.2.2 H.1 (.inl (.object C, n.toNatClampNeg, .inr (fun _ => none))))
  | _ => none
/-- new T[n][m]: the outer array first, then its rows -/
def am_mna (ty : FieldType) (pc : Nat) (ls : am_L) (st : List Value) (H : am_H) : am_R := match st with
  | .int k :: .int n :: r => if n < 0 ∨ 100000 < n ∨ k < 0 ∨ 100000 < k then none else am_nx (pc + 4) ls (.ref H.1 :: r) (H.1 + 1 + n.toNatClampNeg, H.2.1 + n.toNatClampNeg + n.toNatClampNeg * k.toNatClampNeg, fun b => if b = H.1 then .inl (.array ty, n.toNatClampNeg, .inr (fun i => if i < n.toNatClampNeg then some (H.1 + 1 + i) else none)) else if H.1 < b ∧ b < H.1 + 1 + n.toNatClampNeg then .inl (ty, k.toNatClampNeg, .inl (fun _ => 0)) else H.2.2 b)
  | _ => none
/-- System.arraycopy of ints, bytes or chars -/
def am_copy (pc : Nat) (ls : am_L) (st : List Value) (H : am_H) : am_R := match st with
  | .int n :: .int dp :: .ref b :: .int sp :: .ref a :: r => match H.2.2 a, H.2.2 b with
    | .inl (t, n0, .inl f), .inl (t2, n1, .inl g) => if t = t2 ∧ am_ref t = false ∧ r.length ≤ 8 then if sp < 0 ∨ dp < 0 ∨ n < 0 ∨ n0 < sp.toNatClampNeg + n.toNatClampNeg ∨ n1 < dp.toNatClampNeg + n.toNatClampNeg then none else am_nx (pc + 3) ls r (H.1, H.2.1, am_up H.2.2 b (.inl (t2, n1, .inl (va_cpy f g sp.toNatClampNeg dp.toNatClampNeg n.toNatClampNeg)))) else none
    | _, _ => none
  | _ => none
/-- length() and charAt(i) of a text constant -/
def am_slen (X : am_X) (pc : Nat) (ls : am_L) (st : List Value) (H : am_H) : am_R := match st with
  | .retAddr (j + 1) :: r => if r.length ≤ 8 then am_nx (pc + 3) ls (.int (Int32.ofNat (X.2.2 j).length) :: r) H else none
  | _ => none
def am_schr (X : am_X) (pc : Nat) (ls : am_L) (st : List Value) (H : am_H) : am_R := match st with
  | .int i :: .retAddr (j + 1) :: r => if i < 0 ∨ (X.2.2 j).length ≤ i.toNatClampNeg ∨ 8 < r.length then none else am_nx (pc + 3) ls (.int ((X.2.2 j).getD i.toNatClampNeg 0) :: r) H
  | _ => none
/-- Math.abs, and max, min -/
def am_m1 (f : Int32 → Int32) (pc : Nat) (ls : am_L) (st : List Value) (H : am_H) : am_R := match st with
  | .int x :: r => if r.length ≤ 8 then am_nx (pc + 3) ls (.int (f x) :: r) H else none
  | _ => none
def am_m2 (f : Int32 → Int32 → Int32) (pc : Nat) (ls : am_L) (st : List Value) (H : am_H) : am_R := match st with
  | .int y :: .int x :: r => if r.length ≤ 8 then am_nx (pc + 3) ls (.int (f x y) :: r) H else none
  | _ => none
def am_oini (pc : Nat) (ls : am_L) (st : List Value) (H : am_H) : am_R := match st with
  | .ref _ :: r => if r.length ≤ 8 then am_nx (pc + 3) ls r H else none
  | _ => none
/-- a call: the top n values are the arguments, the first one deepest; an object's method asks the receiver for its class -/
def am_call (rc : Option Nat) (k n pc : Nat) (st : List Value) (H : am_H) : am_R :=
  if n ≤ st.length ∧ (st.drop n).length ≤ 8 then match rc, (st.take n).reverse with
    | none, as => some (.inr (.inr (k, as, pc + 3, st.drop n)))
    | some ci, .ref a :: as => match H.2.2 a with
      | .inr (c, _) => if c = ci then some (.inr (.inr (k, .ref a :: as, pc + 3, st.drop n))) else none
      | _ => none
    | _, _ => none
  else none
/-- an answer: it fits its type -/
def am_ret (ty : Option FieldType) (st : List Value) : am_R := match ty, st with
  | some .int, [.int x] => some (.inr (.inl (some (.int x))))
  | some .boolean, [.int x] => if x = 0 ∨ x = 1 then some (.inr (.inl (some (.int x)))) else none
  | some .char, [.int x] => if 0 ≤ x ∧ x ≤ 65535 then some (.inr (.inl (some (.int x)))) else none
  | _, _ => none
def am_ldc (v : Int32) (k x pc : Nat) (ls : am_L) (st : List Value) (H : am_H) : am_R := if k = 0 then am_nx pc ls (.int v :: st) H else am_nx pc ls (.retAddr (x + 1) :: st) H
def am_pop (pc : Nat) (ls : am_L) (st : List Value) (H : am_H) : am_R := match st with
  | _ :: r => am_nx (pc + 1) ls r H
  | _ => none
def am_dup (pc : Nat) (ls : am_L) (st : List Value) (H : am_H) : am_R := match st with
  | v :: r => am_nx (pc + 1) ls (v :: v :: r) H
  | _ => none
def am_dup2 (pc : Nat) (ls : am_L) (st : List Value) (H : am_H) : am_R := match st with
  | v :: w :: r => am_nx (pc + 1) ls (v :: w :: v :: w :: r) H
  | _ => none
/-- what a method and a class are, to the machine: a method's answer type, its receiver's class if it is one object's own; the types of a class' fields, how a new one is filled, its name -/
abbrev am_G : Type := (Nat → Option FieldType) × (Nat → Option Nat) × (Nat → Nat → FieldType) × (Nat → List Value) × (Nat → String)
/-- one step of method m at pc -/
def am_step (G : am_G) (X : am_X) (m : Nat) (i : am_I) (pc : Nat) (ls : am_L) (st : List Value) (H : am_H) : am_R := match i.1 with
  | .iconst _ => am_nx (pc + 1) ls (.int i.2.2.2 :: st) H
  | .bipush _ => am_nx (pc + 2) ls (.int i.2.2.2 :: st) H
  | .sipush _ => am_nx (pc + 3) ls (.int i.2.2.2 :: st) H
  | .ldc _ => am_ldc i.2.2.2 i.2.1 i.2.2.1 (pc + 2) ls st H
  | .ldc_w _ => am_ldc i.2.2.2 i.2.1 i.2.2.1 (pc + 3) ls st H
  | .iload _ => am_iload i.2.1 (pc + 2) ls st H
  | .iload_n _ => am_iload i.2.1 (pc + 1) ls st H
  | .aload _ => am_aload i.2.1 (pc + 2) ls st H
  | .aload_n _ => am_aload i.2.1 (pc + 1) ls st H
  | .istore _ => am_istore i.2.1 (pc + 2) ls st H
  | .istore_n _ => am_istore i.2.1 (pc + 1) ls st H
  | .astore_n _ => am_astore i.2.1 (pc + 1) ls st H
  | .iinc _ _ => am_iinc i.2.1 i.2.2.2 pc ls st H
  | .iadd => am_bin (fun x y => x + y) pc ls st H
  | .isub => am_bin (fun x y => x - y) pc ls st H
  | .imul => am_bin (fun x y => x * y) pc ls st H
  | .iand => am_bin (fun x y => x &&& y) pc ls st H
  | .ishr => am_bin (fun x y => x >>> (y &&& 31)) pc ls st H
  | .iushr => am_bin (fun x y => (x.toUInt32 >>> (y.toUInt32 &&& Int32.toUInt32 31)).toInt32) pc ls st H
  | .idiv => am_div (fun x y => x / y) pc ls st H
  | .irem => am_div (fun x y => x - x / y * y) pc ls st H
  | .ineg => am_un (fun x => -x) pc ls st H
  | .i2b => am_un (fun x => x.toInt8.toInt32) pc ls st H
  | .i2c => am_un (fun x => (x.toUInt32 % 65536).toInt32) pc ls st H
  | .ifCond c _ => match c with
    | .eq => am_j1 (fun x => decide (x = 0)) i.2.1 pc ls st H
    | .ne => am_j1 (fun x => decide (¬ x = 0)) i.2.1 pc ls st H
    | .lt => am_j1 (fun x => decide (x < 0)) i.2.1 pc ls st H
    | .ge => am_j1 (fun x => decide (0 ≤ x)) i.2.1 pc ls st H
    | .gt => am_j1 (fun x => decide (0 < x)) i.2.1 pc ls st H
    | .le => am_j1 (fun x => decide (x ≤ 0)) i.2.1 pc ls st H
  | .if_icmp c _ => match c with
    | .eq => am_j2 (fun x y => decide (x = y)) i.2.1 pc ls st H
    | .ne => am_j2 (fun x y => decide (¬ x = y)) i.2.1 pc ls st H
    | .lt => am_j2 (fun x y => decide (x < y)) i.2.1 pc ls st H
    | .ge => am_j2 (fun x y => decide (y ≤ x)) i.2.1 pc ls st H
    | .gt => am_j2 (fun x y => decide (y < x)) i.2.1 pc ls st H
    | .le => am_j2 (fun x y => decide (x ≤ y)) i.2.1 pc ls st H
  | .if_acmp .ne _ => am_jr i.2.1 pc ls st H
  | .goto _ => am_nx i.2.1 ls st H
  | .tableswitch d lo hi offs => am_sw lo hi (offs.toList.map (fun o => ((pc : Int) + o).toNat)) ((pc : Int) + d).toNat ls st H
  | .getfield _ => am_getf i.2.1 i.2.2.1 pc ls st H
  | .putfield _ => am_putf (G.2.2.1 i.2.1 i.2.2.1) i.2.1 i.2.2.1 pc ls st H
  | .iaload => am_ald X .int pc ls st H
  | .baload => am_ald X .byte pc ls st H
  | .caload => am_ald X .char pc ls st H
  | .iastore => am_ast .int (fun x => x) pc ls st H
  | .bastore => am_ast .byte (fun x => vp_nar .byte x) pc ls st H
  | .castore => am_ast .char (fun x => vp_nar .char x) pc ls st H
  | .aaload => am_aald pc ls st H
  | .aastore => am_aast G.2.2.2.2 pc ls st H
  | .arraylength => am_alen X pc ls st H
  | .new _ => am_new i.2.1 i.2.2.1 (G.2.2.2.1 i.2.1) pc ls st H
  | .newarray t => match t with
    | .int => am_newa .int pc ls st H
    | .byte => am_newa .byte pc ls st H
    | .char => am_newa .char pc ls st H
    | _ => none
  | .anewarray _ => am_newq (G.2.2.2.2 i.2.1) pc ls st H
  | .multianewarray _ _ => if i.2.1 = 0 then am_mna .int pc ls st H else am_mna .byte pc ls st H
  | .invokespecial _ => if i.2.1 = 1000 then am_oini pc ls st H else am_call (G.2.1 i.2.1) i.2.1 i.2.2.1 pc st H
  | .invokevirtual _ => if i.2.1 = 1001 then am_slen X pc ls st H else if i.2.1 = 1002 then am_schr X pc ls st H else am_call (G.2.1 i.2.1) i.2.1 i.2.2.1 pc st H
  | .invokestatic _ => if i.2.1 = 1003 then am_copy pc ls st H else if i.2.1 = 1004 then am_m1 (fun x => if 0 ≤ x then x else 0 - x) pc ls st H else if i.2.1 = 1005 then am_m2 (fun x y => if x < y then y else x) pc ls st H else if i.2.1 = 1006 then am_m2 (fun x y => if y < x then y else x) pc ls st H else am_call (G.2.1 i.2.1) i.2.1 i.2.2.1 pc st H
  | .ireturn => am_ret (G.1 m) st
  | .return_ => match G.1 m, st with
    | none, [] => some (.inr (.inl none))
    | _, _ => none
  | .dup => am_dup pc ls st H
  | .dup2 => am_dup2 pc ls st H
  | .pop => am_pop pc ls st H
  | _ => none
/-- a new frame's locals, and what an answer leaves on the stack -/
def am_entry (n : Nat) (as : List Value) : am_L := as.map some ++ List.replicate (n - as.length) none
def am_push (v : Option Value) (r : List Value) : List Value := match v with
  | some x => x :: r
  | none => r
/-- the program: its instructions, each method's number of locals -/
abbrev am_P : Type := (Nat → Nat → Option am_I) × (Nat → Nat)
def am_run (P : am_P) (G : am_G) (X : am_X) : Nat → Nat → Nat → am_L → List Value → am_H → Option (Option Value × am_H)
  | 0, _, _, _, _, _ => none
  | n + 1, m, pc, ls, st, H => match P.1 m pc with
    | none => none
    | some i => match am_step G X m i pc ls st H with
      | none => none
      | some (.inl (pc', ls', st', H')) => am_run P G X n m pc' ls' st' H'
      | some (.inr (.inl v)) => some (v, H)
      | some (.inr (.inr (m', as, pc', r))) => match am_run P G X n m' 0 (am_entry (P.2 m') as) [] H with
        | none => none
        | some (v, H1) => am_run P G X n m pc' ls (am_push v r) H1
