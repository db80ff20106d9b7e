/-! The words of this proof (bk_): a machine over numbers. A value is an int or a long, both as Int, or a cell (kind, which one).
    The memory: kind, which one, place. wp: what must hold at a label so that the method ends with Q. -/
abbrev bk_V : Type := Int ⊕ Int ⊕ (Nat × Nat)
abbrev bk_M : Type := Nat → Nat → Int → Int
abbrev bk_P : Type := List (Nat × List Instr)
abbrev bk_Q : Type := Nat → Int → bk_M → Prop
abbrev bk_T : Type := Nat → Nat → List bk_V → List bk_V → bk_M → Prop
abbrev bk_K : Type := Nat → List bk_V → List bk_V → bk_M → Prop
abbrev bk_Ca : Type := Nat → Nat → List bk_V → bk_M → bk_Q → Prop
abbrev bk_i (z : Int) : bk_V := .inl z
abbrev bk_l (z : Int) : bk_V := .inr (.inl z)
abbrev bk_c (k i : Nat) : bk_V := .inr (.inr (k, i))
abbrev bk_x : bk_V := .inr (.inr (15, 0))
def bk_r32 (z : Int) : Prop := -2147483648 ≤ z ∧ z ≤ 2147483647
def bk_r64 (z : Int) : Prop := -9223372036854775808 ≤ z ∧ z ≤ 9223372036854775807
def bk_w32 (z : Int) : Int := z.bmod 4294967296
def bk_w64 (z : Int) : Int := z.bmod 18446744073709551616
def bk_ushr (x y : Int) : Int := if y = 0 then x else (x % 4294967296) / 2 ^ y.toNat
def bk_and (x y : Int) : Int := (BitVec.ofInt 32 x &&& BitVec.ofInt 32 y).toInt
def bk_or (x y : Int) : Int := (BitVec.ofInt 32 x ||| BitVec.ofInt 32 y).toInt
def bk_xor (x y : Int) : Int := (BitVec.ofInt 32 x ^^^ BitVec.ofInt 32 y).toInt
def bk_andL (x y : Int) : Int := (BitVec.ofInt 64 x &&& BitVec.ofInt 64 y).toInt
def bk_orL (x y : Int) : Int := (BitVec.ofInt 64 x ||| BitVec.ofInt 64 y).toInt
def bk_lcmp (x y : Int) : Int := if x < y then -1 else if x = y then 0 else 1
def bk_up (M : bk_M) (k i : Nat) (j v : Int) : bk_M := fun k' i' j' => if k' = k ∧ i' = i ∧ j' = j then v else M k' i' j'
def bk_cpy (M : bk_M) (sk si : Nat) (sp : Int) (dk di : Nat) (dp n : Int) : bk_M := fun k i j => if k = dk ∧ i = di ∧ dp ≤ j ∧ j < dp + n then M sk si (sp + (j - dp)) else M k i j
def bk_cmp (c : Jvm.ClassFile.Cond) (x y : Int) : Prop := match c with
  | .eq => x = y
  | .ne => x ≠ y
  | .lt => x < y
  | .ge => y ≤ x
  | .gt => y < x
  | .le => x ≤ y
/-- how long an array of a kind is -/
def bk_szs : Nat := 9489531743850434230096306897657502090308656030164759005406452039327660474276510918656599885002508386786954012502521538701964333973176285980539318227106563037177126522380280397682888963888051698359252726067506770194484949958870955326071104036045440247956242432
def bk_sz (k : Nat) : Int := Int.ofNat ((bk_szs >>> (10 * k)) % 1024)
/-- 0 ints, 1 longs, 2 booleans, 3 cells -/
def bk_sos : Nat := 5986310706737834590178239846750809359329052810280960
def bk_so (k : Nat) : Nat := (bk_sos >>> (2 * k)) % 4
/-- an array of cells: the kind of what it holds, and the first of them -/
def bk_aa (k : Nat) : Nat × Nat := match k with
  | 27 => (5, 3)
  | _ => (4, 0)
def bk_nth : Nat → List bk_V → Option bk_V
  | _, [] => none
  | 0, v :: _ => some v
  | n + 1, _ :: l => bk_nth n l
/-- a value into a local: a long there before it, or over it, is gone -/
def bk_set : Nat → bk_V → List bk_V → List bk_V
  | _, _, [] => []
  | 0, v, _ :: l => match v, l with
    | .inr (.inl _), _ :: l => v :: bk_x :: l
    | _, l => v :: l
  | 1, v, w :: l => match w with
    | .inr (.inl _) => bk_x :: bk_set 0 v l
    | _ => w :: bk_set 0 v l
  | n + 2, v, w :: l => w :: bk_set (n + 1) v l
def bk_take : Nat → List bk_V → List bk_V → Option (List bk_V × List bk_V)
  | 0, acc, st => some (acc, st)
  | _ + 1, _, [] => none
  | n + 1, acc, v :: st => bk_take n (v :: acc) st
/-- the receiver is of the class (0: there is none) -/
def bk_rcv : Nat → List bk_V → Bool
  | 0, _ => true
  | q + 1, as => match as with
    | .inr (.inr (k, _)) :: _ => Nat.beq k q
    | _ => false
/-- how many words they take -/
def bk_wd : List bk_V → Nat
  | [] => 0
  | v :: as => match v with
    | .inr (.inl _) => bk_wd as + 2
    | _ => bk_wd as + 1
def bk_push (r : Nat) (z : Int) (st : List bk_V) : List bk_V := match r with
  | 0 => st
  | 1 => .inl z :: st
  | _ => .inr (.inl z) :: st
def bk_sw (x : Int) (T : Int → Prop) (d : Int) : Int → List Int → Prop
  | _, [] => T d
  | lo, o :: os => (x = lo → T o) ∧ (x ≠ lo → bk_sw x T d (lo + 1) os)
def bk_lsw (x : Int) (T : Int → Prop) (d : Int) : List (Int × Int) → Prop
  | [] => T d
  | (k, o) :: os => (x = k → T o) ∧ (x ≠ k → bk_lsw x T d os)
def bk_txt (n : Nat) : List Int := match n with
  | 0 => [32, 105, 115, 32, 108, 101, 102, 116]
  | 1 => [32, 105, 115, 32, 114, 105, 103, 104, 116]
  | 2 => [32, 105, 115, 32, 119, 101, 116]
  | 3 => [32, 97, 116, 32]
  | _ => []
def bk_getf (f : Nat) (M : bk_M) (k i : Nat) (st : List bk_V) (K : List bk_V → Prop) : Prop :=
  bif Nat.beq k (f / 64 % 16) then (match f / 1024 % 8 with
    | 0 => K (.inl (M k i (Int.ofNat (f % 64))) :: st)
    | 1 => K (.inr (.inl (M k i (Int.ofNat (f % 64)))) :: st)
    | 2 => K (.inr (.inr (f / 8192 % 128, i + f / 1048576)) :: st)
    | 3 => K (.inr (.inr (f / 8192 % 128, (M k i (Int.ofNat (f % 64))).toNat)) :: st)
    | _ => K (.inl (M k i (Int.ofNat (f % 64))) :: st)) else False
def bk_putf (f : Nat) (M : bk_M) (k i : Nat) (v : bk_V) (K : bk_M → Prop) : Prop :=
  bif Nat.beq k (f / 64 % 16) then (match f / 1024 % 8, v with
    | 0, .inl z => ∀ M', M' = bk_up M k i (Int.ofNat (f % 64)) z → K M'
    | 1, .inr (.inl z) => ∀ M', M' = bk_up M k i (Int.ofNat (f % 64)) z → K M'
    | 3, .inr (.inr (k2, i2)) => bif Nat.beq k2 (f / 8192 % 128) then (∀ M', M' = bk_up M k i (Int.ofNat (f % 64)) (Int.ofNat i2) → K M') else False
    | 4, .inl z => (z = 0 ∨ z = 1) ∧ ∀ M', M' = bk_up M k i (Int.ofNat (f % 64)) z → K M'
    | _, _ => False) else False
def bk_op (C : bk_Ca) (T : bk_T) (Q : bk_Q) (i : Instr) (K : bk_K) (b : Nat) (ls st : List bk_V) (M : bk_M) : Prop :=
  match i with
  | .sipush v => K b ls (.inl v :: st) M
  | .bipush v => K b ls (.inr (.inl v) :: st) M
  | .ldc n => K b ls (.inr (.inr (14, n)) :: st) M
  | .iload n => match bk_nth n ls with
    | some (.inl x) => K b ls (.inl x :: st) M
    | _ => False
  | .lload n => match bk_nth n ls with
    | some (.inr (.inl x)) => K b ls (.inr (.inl x) :: st) M
    | _ => False
  | .aload n => match bk_nth n ls with
    | some (.inr (.inr (k, i))) => bif Nat.beq k 15 then False else K b ls (.inr (.inr (k, i)) :: st) M
    | _ => False
  | .istore n => match st with
    | .inl x :: st => K b (bk_set n (.inl x) ls) st M
    | _ => False
  | .lstore n => match st with
    | .inr (.inl x) :: st => K b (bk_set n (.inr (.inl x)) ls) st M
    | _ => False
  | .astore n => match st with
    | .inr (.inr c) :: st => K b (bk_set n (.inr (.inr c)) ls) st M
    | _ => False
  | .iinc n c => match bk_nth n ls with
    | some (.inl x) => bk_r32 (x + c) ∧ K b (bk_set n (.inl (x + c)) ls) st M
    | _ => False
  | .getfield f => match st with
    | .inr (.inr (k, i)) :: st => bk_getf f M k i st (fun st => K b ls st M)
    | _ => False
  | .putfield f => match st with
    | v :: .inr (.inr (k, i)) :: st => bk_putf f M k i v (fun M => K b ls st M)
    | _ => False
  | .iaload => match st with
    | .inl j :: .inr (.inr (k, i)) :: st => (0 ≤ j ∧ j < bk_sz k) ∧ (bif Nat.beq (bk_so k) 0 then K b ls (.inl (M k i j) :: st) M else False)
    | _ => False
  | .laload => match st with
    | .inl j :: .inr (.inr (k, i)) :: st => (0 ≤ j ∧ j < bk_sz k) ∧ (bif Nat.beq (bk_so k) 1 then K b ls (.inr (.inl (M k i j)) :: st) M else False)
    | _ => False
  | .baload => match st with
    | .inl j :: .inr (.inr (k, i)) :: st => (0 ≤ j ∧ j < bk_sz k) ∧ (bif Nat.beq (bk_so k) 2 then K b ls (.inl (M k i j) :: st) M else False)
    | _ => False
  | .aaload => match st with
    | .inl j :: .inr (.inr (k, _)) :: st => (0 ≤ j ∧ j < bk_sz k) ∧ (bif Nat.beq (bk_so k) 3 then K b ls (.inr (.inr ((bk_aa k).1, (bk_aa k).2 + j.toNat)) :: st) M else False)
    | _ => False
  | .iastore => match st with
    | .inl z :: .inl j :: .inr (.inr (k, i)) :: st => (0 ≤ j ∧ j < bk_sz k) ∧ (bif Nat.beq (bk_so k) 0 then ∀ M', M' = bk_up M k i j z → K b ls st M' else False)
    | _ => False
  | .lastore => match st with
    | .inr (.inl z) :: .inl j :: .inr (.inr (k, i)) :: st => (0 ≤ j ∧ j < bk_sz k) ∧ (bif Nat.beq (bk_so k) 1 then ∀ M', M' = bk_up M k i j z → K b ls st M' else False)
    | _ => False
  | .bastore => match st with
    | .inl z :: .inl j :: .inr (.inr (k, i)) :: st => (0 ≤ j ∧ j < bk_sz k) ∧ (bif Nat.beq (bk_so k) 2 then (z = 0 ∨ z = 1) ∧ ∀ M', M' = bk_up M k i j z → K b ls st M' else False)
    | _ => False
  | .arraylength => match st with
    | .inr (.inr (k, _)) :: st => bif Nat.ble 16 k then K b ls (.inl (bk_sz k) :: st) M else False
    | _ => False
  | .saload => match st with
    | .inl j :: .inr (.inr (k, _)) :: st => bif Nat.beq k 13 then (0 ≤ j ∧ j < M 13 1 0) ∧ K b ls (.inl (M 13 0 j) :: st) M else False
    | _ => False
  | .swap => match st with
    | .inr (.inr (k, _)) :: st => bif Nat.beq k 13 then K b ls (.inl (M 13 1 0) :: st) M else False
    | _ => False
  | .iadd => match st with
    | .inl y :: .inl x :: st => bk_r32 (x + y) ∧ K b ls (.inl (x + y) :: st) M
    | _ => False
  | .isub => match st with
    | .inl y :: .inl x :: st => bk_r32 (x - y) ∧ K b ls (.inl (x - y) :: st) M
    | _ => False
  | .imul => match st with
    | .inl y :: .inl x :: st => bk_r32 (x * y) ∧ K b ls (.inl (x * y) :: st) M
    | _ => False
  | .dadd => match st with
    | .inl y :: .inl x :: st => K b ls (.inl (bk_w32 (x + y)) :: st) M
    | _ => False
  | .dmul => match st with
    | .inl y :: .inl x :: st => K b ls (.inl (bk_w32 (x * y)) :: st) M
    | _ => False
  | .dsub => match st with
    | .inl y :: .inl x :: st => K b ls (.inl (bk_w32 (x - y)) :: st) M
    | _ => False
  | .fadd => match st with
    | .inr (.inl y) :: .inr (.inl x) :: st => K b ls (.inr (.inl (bk_w64 (x + y))) :: st) M
    | _ => False
  | .fmul => match st with
    | .inl y :: .inr (.inl x) :: st => (0 ≤ y ∧ y < 64) ∧ K b ls (.inr (.inl (bk_w64 (x * 2 ^ y.toNat))) :: st) M
    | _ => False
  | .idiv => match st with
    | .inl y :: .inl x :: st => (0 ≤ x ∧ 0 < y) ∧ K b ls (.inl (x / y) :: st) M
    | _ => False
  | .irem => match st with
    | .inl y :: .inl x :: st => (0 ≤ x ∧ 0 < y) ∧ K b ls (.inl (x % y) :: st) M
    | _ => False
  | .ineg => match st with
    | .inl x :: st => bk_r32 (-x) ∧ K b ls (.inl (-x) :: st) M
    | _ => False
  | .ishl => match st with
    | .inl y :: .inl x :: st => (0 ≤ y ∧ y < 32 ∧ bk_r32 (x * 2 ^ y.toNat)) ∧ K b ls (.inl (x * 2 ^ y.toNat) :: st) M
    | _ => False
  | .ishr => match st with
    | .inl y :: .inl x :: st => (0 ≤ y ∧ y < 32) ∧ K b ls (.inl (x / 2 ^ y.toNat) :: st) M
    | _ => False
  | .iushr => match st with
    | .inl y :: .inl x :: st => (0 ≤ y ∧ y < 32) ∧ K b ls (.inl (bk_ushr x y) :: st) M
    | _ => False
  | .iand => match st with
    | .inl y :: .inl x :: st => K b ls (.inl (bk_and x y) :: st) M
    | _ => False
  | .ior => match st with
    | .inl y :: .inl x :: st => K b ls (.inl (bk_or x y) :: st) M
    | _ => False
  | .ixor => match st with
    | .inl y :: .inl x :: st => K b ls (.inl (bk_xor x y) :: st) M
    | _ => False
  | .ladd => match st with
    | .inr (.inl y) :: .inr (.inl x) :: st => bk_r64 (x + y) ∧ K b ls (.inr (.inl (x + y)) :: st) M
    | _ => False
  | .lsub => match st with
    | .inr (.inl y) :: .inr (.inl x) :: st => bk_r64 (x - y) ∧ K b ls (.inr (.inl (x - y)) :: st) M
    | _ => False
  | .lmul => match st with
    | .inr (.inl y) :: .inr (.inl x) :: st => bk_r64 (x * y) ∧ K b ls (.inr (.inl (x * y)) :: st) M
    | _ => False
  | .ldiv => match st with
    | .inr (.inl y) :: .inr (.inl x) :: st => (0 ≤ x ∧ 0 < y) ∧ K b ls (.inr (.inl (x / y)) :: st) M
    | _ => False
  | .lrem => match st with
    | .inr (.inl y) :: .inr (.inl x) :: st => (0 ≤ x ∧ 0 < y) ∧ K b ls (.inr (.inl (x % y)) :: st) M
    | _ => False
  | .lshl => match st with
    | .inl y :: .inr (.inl x) :: st => (0 ≤ y ∧ y < 64 ∧ bk_r64 (x * 2 ^ y.toNat)) ∧ K b ls (.inr (.inl (x * 2 ^ y.toNat)) :: st) M
    | _ => False
  | .lshr => match st with
    | .inl y :: .inr (.inl x) :: st => (0 ≤ y ∧ y < 64) ∧ K b ls (.inr (.inl (x / 2 ^ y.toNat)) :: st) M
    | _ => False
  | .land => match st with
    | .inr (.inl y) :: .inr (.inl x) :: st => K b ls (.inr (.inl (bk_andL x y)) :: st) M
    | _ => False
  | .lor => match st with
    | .inr (.inl y) :: .inr (.inl x) :: st => K b ls (.inr (.inl (bk_orL x y)) :: st) M
    | _ => False
  | .lcmp => match st with
    | .inr (.inl y) :: .inr (.inl x) :: st => K b ls (.inl (bk_lcmp x y) :: st) M
    | _ => False
  | .i2l => match st with
    | .inl x :: st => K b ls (.inr (.inl x) :: st) M
    | _ => False
  | .l2i => match st with
    | .inr (.inl x) :: st => bk_r32 x ∧ K b ls (.inl x :: st) M
    | _ => False
  | .dup => match st with
    | .inl x :: st => K b ls (.inl x :: .inl x :: st) M
    | .inr (.inr c) :: st => K b ls (.inr (.inr c) :: .inr (.inr c) :: st) M
    | _ => False
  | .dup2 => match st with
    | .inl y :: .inr (.inr c) :: st => K b ls (.inl y :: .inr (.inr c) :: .inl y :: .inr (.inr c) :: st) M
    | _ => False
  | .pop => match st with
    | .inl _ :: st => K b ls st M
    | _ => False
  | .if_icmp c l => match st with
    | .inl y :: .inl x :: st => (bk_cmp c x y → T b l.toNat ls st M) ∧ (¬ bk_cmp c x y → K b ls st M)
    | _ => False
  | .ifCond c l => match st with
    | .inl x :: st => (bk_cmp c x 0 → T b l.toNat ls st M) ∧ (¬ bk_cmp c x 0 → K b ls st M)
    | _ => False
  | .goto l => T b l.toNat ls st M
  | .tableswitch d lo _ ts => match st with
    | .inl x :: st => bk_sw x (fun l => T b l.toNat ls st M) d lo ts.toList
    | _ => False
  | .lookupswitch d ps => match st with
    | .inl x :: st => bk_lsw x (fun l => T b l.toNat ls st M) d ps.toList
    | _ => False
  | .ireturn => match st with
    | [.inl x] => Q 0 x M
    | _ => False
  | .freturn => match st with
    | [.inl x] => (x = 0 ∨ x = 1) ∧ Q 0 x M
    | _ => False
  | .lreturn => match st with
    | [.inr (.inl x)] => Q 0 x M
    | _ => False
  | .return_ => match st with
    | [] => Q 0 0 M
    | _ => False
  | .athrow => match b, st with
    | _ + 1, [] => Q 1 0 M
    | _, _ => False
  | .invokestatic n => match bk_take (n / 4 % 16) [] st with
    | some (as, st) => bif Nat.ble st.length 4 && bk_rcv (n / 32768 % 16) as && Nat.beq (bk_wd as) (n / 524288) then C 0 (n / 64 % 512) as M (fun t r M' => t = 0 ∧ K b ls (bk_push (n % 4) r st) M') else False
    | none => False
  | .invokeinterface n h => match b, bk_take (n / 4 % 16) [] st with
    | b + 1, some (as, st) => bif Nat.ble st.length 4 && bk_rcv (n / 32768 % 16) as && Nat.beq (bk_wd as) (n / 524288) then C 1 (n / 64 % 512) as M (fun t r M' => (t = 0 → K b ls (bk_push (n % 4) r st) M') ∧ (t ≠ 0 → T b (h / 16) (bk_set (h % 16) bk_x ls) [] M')) else False
    | _, _ => False
  | .invokevirtual n => match n, st with
    | 0, .inl len :: .inl dp :: .inr (.inr (dk, di)) :: .inl sp :: .inr (.inr (sk, si)) :: st => (0 ≤ len ∧ 0 ≤ sp ∧ sp + len ≤ bk_sz sk ∧ 0 ≤ dp ∧ dp + len ≤ bk_sz dk) ∧ (bif Nat.beq (bk_so sk) (bk_so dk) && Nat.ble (bk_so sk) 1 && Nat.ble st.length 4 && Nat.ble 16 sk && Nat.ble 16 dk then (∀ M', M' = bk_cpy M sk si sp dk di dp len → K b ls st M') else False)
    | 1, .inl y :: .inl x :: st => bif Nat.ble st.length 4 then K b ls (.inl (if x ≤ y then x else y) :: st) M else False
    | 2, .inl y :: .inl x :: st => bif Nat.ble st.length 4 then K b ls (.inl (if y ≤ x then x else y) :: st) M else False
    | 3, .inl x :: st => bk_r32 (-x) ∧ (bif Nat.ble st.length 4 then K b ls (.inl (if x < 0 then -x else x) :: st) M else False)
    | 4, .inr (.inr (k, i)) :: st => bif Nat.beq k 14 && Nat.ble st.length 4 then K b ls (.inl (Int.ofNat (bk_txt i).length) :: st) M else False
    | 5, .inl j :: .inr (.inr (k, i)) :: st => bif Nat.beq k 14 && Nat.ble st.length 4 then (0 ≤ j ∧ j < Int.ofNat (bk_txt i).length) ∧ K b ls (.inl ((bk_txt i).getD j.toNat 0) :: st) M else False
    | _, _ => False
  | _ => False
def bk_run (C : bk_Ca) (T : bk_T) (Q : bk_Q) : List Instr → bk_K
  | [] => fun _ _ _ _ => False
  | i :: is => bk_op C T Q i (bk_run C T Q is)
def bk_lk (l : Nat) : bk_P → List Instr
  | [] => []
  | (k, is) :: P => bif Nat.beq k l then is else bk_lk l P
/-- the least of what is closed under the instructions -/
def bk_wp (C : bk_Ca) (P : bk_P) (Q : bk_Q) : bk_T := fun b l ls st M =>
  ∀ X : bk_T, (∀ b l ls st M, bk_run C X Q (bk_lk l P) b ls st M → X b l ls st M) → X b l ls st M
def bk_go (C : bk_Ca) (P : bk_P) (Q : bk_Q) (S : List Nat) : Nat → bk_T
  | 0 => bk_wp C P Q
  | n + 1 => fun b l ls st M => bif S.elem l then bk_wp C P Q b l ls st M else bk_run C (bk_go C P Q S n) Q (bk_lk l P) b ls st M
