section
/-! The words of this proof (bk_): a machine over numbers. A value is an int or a long, both as Int, or a cell (kind, which one).
    The memory: kind, which one, place. wp: what must hold at a label so that the method ends with Q. -/
abbrev bk_V : Type := Int ⊕ Int ⊕ (Nat × Nat)
abbrev bk_M : Type := Nat → Nat → Int → Int
abbrev bk_P : Type := List (Nat × List Instr)
abbrev bk_Q : Type := Nat → Int → bk_M → Prop
abbrev bk_T : Type := Nat → Nat → List bk_V → List bk_V → bk_M → Prop
abbrev bk_K : Type := Nat → List bk_V → List bk_V → bk_M → Prop
abbrev bk_Ca : Type := Nat → Nat → List bk_V → bk_M → bk_Q → Prop
abbrev bk_i (z : Int) : bk_V := .inl z
abbrev bk_l (z : Int) : bk_V := .inr (.inl z)
abbrev bk_c (k i : Nat) : bk_V := .inr (.inr (k, i))
abbrev bk_x : bk_V := .inr (.inr (15, 0))
def bk_r32 (z : Int) : Prop := -2147483648 ≤ z ∧ z ≤ 2147483647
def bk_r64 (z : Int) : Prop := -9223372036854775808 ≤ z ∧ z ≤ 9223372036854775807
def bk_w32 (z : Int) : Int := z.bmod 4294967296
def bk_ushr (x y : Int) : Int := if y = 0 then x else (x % 4294967296) / 2 ^ y.toNat
def bk_and (x y : Int) : Int := (BitVec.ofInt 32 x &&& BitVec.ofInt 32 y).toInt
def bk_or (x y : Int) : Int := (BitVec.ofInt 32 x ||| BitVec.ofInt 32 y).toInt
def bk_xor (x y : Int) : Int := (BitVec.ofInt 32 x ^^^ BitVec.ofInt 32 y).toInt
def bk_andL (x y : Int) : Int := (BitVec.ofInt 64 x &&& BitVec.ofInt 64 y).toInt
def bk_orL (x y : Int) : Int := (BitVec.ofInt 64 x ||| BitVec.ofInt 64 y).toInt
def bk_lcmp (x y : Int) : Int := if x < y then -1 else if x = y then 0 else 1
def bk_up (M : bk_M) (k i : Nat) (j v : Int) : bk_M := fun k' i' j' => if k' = k ∧ i' = i ∧ j' = j then v else M k' i' j'
def bk_cpy (M : bk_M) (sk si : Nat) (sp : Int) (dk di : Nat) (dp n : Int) : bk_M := fun k i j => if k = dk ∧ i = di ∧ dp ≤ j ∧ j < dp + n then M sk si (sp + (j - dp)) else M k i j
def bk_cmp (c : Jvm.ClassFile.Cond) (x y : Int) : Prop := match c with
  | .eq => x = y
  | .ne => x ≠ y
  | .lt => x < y
  | .ge => y ≤ x
  | .gt => y < x
  | .le => x ≤ y
/-- how long an array of a kind is -/
def bk_szs : Nat := 9489531743850434230096306897657502090308656030164759005406452039327660474276510918656599885002508386786954012502521538701964333973176285980539318227106563037177126522380280397682888963888051698359252726067506770194484949958870955326071104036045440247956242432
def bk_sz (k : Nat) : Int := Int.ofNat ((bk_szs >>> (10 * k)) % 1024)
/-- 0 ints, 1 longs, 2 booleans, 3 cells -/
def bk_sos : Nat := 5986310706737834590178239846750809359329052810280960
def bk_so (k : Nat) : Nat := (bk_sos >>> (2 * k)) % 4
/-- an array of cells: the kind of what it holds, and the first of them -/
def bk_aa (k : Nat) : Nat × Nat := match k with
  | 27 => (5, 3)
  | _ => (4, 0)
def bk_nth : Nat → List bk_V → Option bk_V
  | _, [] => none
  | 0, v :: _ => some v
  | n + 1, _ :: l => bk_nth n l
/-- a value into a local: a long there before it, or over it, is gone -/
def bk_set : Nat → bk_V → List bk_V → List bk_V
  | _, _, [] => []
  | 0, v, _ :: l => match v, l with
    | .inr (.inl _), _ :: l => v :: bk_x :: l
    | _, l => v :: l
  | 1, v, w :: l => match w with
    | .inr (.inl _) => bk_x :: bk_set 0 v l
    | _ => w :: bk_set 0 v l
  | n + 2, v, w :: l => w :: bk_set (n + 1) v l
def bk_take : Nat → List bk_V → List bk_V → Option (List bk_V × List bk_V)
  | 0, acc, st => some (acc, st)
  | _ + 1, _, [] => none
  | n + 1, acc, v :: st => bk_take n (v :: acc) st
/-- the receiver is of the class (0: there is none) -/
def bk_rcv : Nat → List bk_V → Bool
  | 0, _ => true
  | q + 1, as => match as with
    | .inr (.inr (k, _)) :: _ => Nat.beq k q
    | _ => false
/-- how many words they take -/
def bk_wd : List bk_V → Nat
  | [] => 0
  | v :: as => match v with
    | .inr (.inl _) => bk_wd as + 2
    | _ => bk_wd as + 1
def bk_push (r : Nat) (z : Int) (st : List bk_V) : List bk_V := match r with
  | 0 => st
  | 1 => .inl z :: st
  | _ => .inr (.inl z) :: st
def bk_sw (x : Int) (T : Int → Prop) (d : Int) : Int → List Int → Prop
  | _, [] => T d
  | lo, o :: os => (x = lo → T o) ∧ (x ≠ lo → bk_sw x T d (lo + 1) os)
def bk_lsw (x : Int) (T : Int → Prop) (d : Int) : List (Int × Int) → Prop
  | [] => T d
  | (k, o) :: os => (x = k → T o) ∧ (x ≠ k → bk_lsw x T d os)
def bk_txt (n : Nat) : List Int := match n with
  | 0 => [32, 105, 115, 32, 108, 101, 102, 116]
  | 1 => [32, 105, 115, 32, 114, 105, 103, 104, 116]
  | 2 => [32, 105, 115, 32, 119, 101, 116]
  | 3 => [32, 97, 116, 32]
  | _ => []
def bk_getf (f : Nat) (M : bk_M) (k i : Nat) (st : List bk_V) (K : List bk_V → Prop) : Prop :=
  bif Nat.beq k (f / 64 % 16) then (match f / 1024 % 8 with
    | 0 => K (.inl (M k i (Int.ofNat (f % 64))) :: st)
    | 1 => K (.inr (.inl (M k i (Int.ofNat (f % 64)))) :: st)
    | 2 => K (.inr (.inr (f / 8192 % 128, i + f / 1048576)) :: st)
    | 3 => K (.inr (.inr (f / 8192 % 128, (M k i (Int.ofNat (f % 64))).toNat)) :: st)
    | _ => K (.inl (M k i (Int.ofNat (f % 64))) :: st)) else False
def bk_putf (f : Nat) (M : bk_M) (k i : Nat) (v : bk_V) (K : bk_M → Prop) : Prop :=
  bif Nat.beq k (f / 64 % 16) then (match f / 1024 % 8, v with
    | 0, .inl z => ∀ M', M' = bk_up M k i (Int.ofNat (f % 64)) z → K M'
    | 1, .inr (.inl z) => ∀ M', M' = bk_up M k i (Int.ofNat (f % 64)) z → K M'
    | 3, .inr (.inr (k2, i2)) => bif Nat.beq k2 (f / 8192 % 128) then (∀ M', M' = bk_up M k i (Int.ofNat (f % 64)) (Int.ofNat i2) → K M') else False
    | 4, .inl z => (z = 0 ∨ z = 1) ∧ ∀ M', M' = bk_up M k i (Int.ofNat (f % 64)) z → K M'
    | _, _ => False) else False
def bk_op (C : bk_Ca) (T : bk_T) (Q : bk_Q) (i : Instr) (K : bk_K) (b : Nat) (ls st : List bk_V) (M : bk_M) : Prop :=
  match i with
  | .sipush v => K b ls (.inl v :: st) M
  | .bipush v => K b ls (.inr (.inl v) :: st) M
  | .ldc n => K b ls (.inr (.inr (14, n)) :: st) M
  | .iload n => match bk_nth n ls with
    | some (.inl x) => K b ls (.inl x :: st) M
    | _ => False
  | .lload n => match bk_nth n ls with
    | some (.inr (.inl x)) => K b ls (.inr (.inl x) :: st) M
    | _ => False
  | .aload n => match bk_nth n ls with
    | some (.inr (.inr (k, i))) => bif Nat.beq k 15 then False else K b ls (.inr (.inr (k, i)) :: st) M
    | _ => False
  | .istore n => match st with
    | .inl x :: st => K b (bk_set n (.inl x) ls) st M
    | _ => False
  | .lstore n => match st with
    | .inr (.inl x) :: st => K b (bk_set n (.inr (.inl x)) ls) st M
    | _ => False
  | .astore n => match st with
    | .inr (.inr c) :: st => K b (bk_set n (.inr (.inr c)) ls) st M
    | _ => False
  | .iinc n c => match bk_nth n ls with
    | some (.inl x) => bk_r32 (x + c) ∧ K b (bk_set n (.inl (x + c)) ls) st M
    | _ => False
  | .getfield f => match st with
    | .inr (.inr (k, i)) :: st => bk_getf f M k i st (fun st => K b ls st M)
    | _ => False
  | .putfield f => match st with
    | v :: .inr (.inr (k, i)) :: st => bk_putf f M k i v (fun M => K b ls st M)
    | _ => False
  | .iaload => match st with
    | .inl j :: .inr (.inr (k, i)) :: st => (0 ≤ j ∧ j < bk_sz k) ∧ (bif Nat.beq (bk_so k) 0 then K b ls (.inl (M k i j) :: st) M else False)
    | _ => False
  | .laload => match st with
    | .inl j :: .inr (.inr (k, i)) :: st => (0 ≤ j ∧ j < bk_sz k) ∧ (bif Nat.beq (bk_so k) 1 then K b ls (.inr (.inl (M k i j)) :: st) M else False)
    | _ => False
  | .baload => match st with
    | .inl j :: .inr (.inr (k, i)) :: st => (0 ≤ j ∧ j < bk_sz k) ∧ (bif Nat.beq (bk_so k) 2 then K b ls (.inl (M k i j) :: st) M else False)
    | _ => False
  | .aaload => match st with
    | .inl j :: .inr (.inr (k, _)) :: st => (0 ≤ j ∧ j < bk_sz k) ∧ (bif Nat.beq (bk_so k) 3 then K b ls (.inr (.inr ((bk_aa k).1, (bk_aa k).2 + j.toNat)) :: st) M else False)
    | _ => False
  | .iastore => match st with
    | .inl z :: .inl j :: .inr (.inr (k, i)) :: st => (0 ≤ j ∧ j < bk_sz k) ∧ (bif Nat.beq (bk_so k) 0 then ∀ M', M' = bk_up M k i j z → K b ls st M' else False)
    | _ => False
  | .lastore => match st with
    | .inr (.inl z) :: .inl j :: .inr (.inr (k, i)) :: st => (0 ≤ j ∧ j < bk_sz k) ∧ (bif Nat.beq (bk_so k) 1 then ∀ M', M' = bk_up M k i j z → K b ls st M' else False)
    | _ => False
  | .bastore => match st with
    | .inl z :: .inl j :: .inr (.inr (k, i)) :: st => (0 ≤ j ∧ j < bk_sz k) ∧ (bif Nat.beq (bk_so k) 2 then (z = 0 ∨ z = 1) ∧ ∀ M', M' = bk_up M k i j z → K b ls st M' else False)
    | _ => False
  | .arraylength => match st with
    | .inr (.inr (k, _)) :: st => bif Nat.ble 16 k then K b ls (.inl (bk_sz k) :: st) M else False
    | _ => False
  | .saload => match st with
    | .inl j :: .inr (.inr (k, _)) :: st => bif Nat.beq k 13 then (0 ≤ j ∧ j < M 13 1 0) ∧ K b ls (.inl (M 13 0 j) :: st) M else False
    | _ => False
  | .swap => match st with
    | .inr (.inr (k, _)) :: st => bif Nat.beq k 13 then K b ls (.inl (M 13 1 0) :: st) M else False
    | _ => False
  | .iadd => match st with
    | .inl y :: .inl x :: st => bk_r32 (x + y) ∧ K b ls (.inl (x + y) :: st) M
    | _ => False
  | .isub => match st with
    | .inl y :: .inl x :: st => bk_r32 (x - y) ∧ K b ls (.inl (x - y) :: st) M
    | _ => False
  | .imul => match st with
    | .inl y :: .inl x :: st => bk_r32 (x * y) ∧ K b ls (.inl (x * y) :: st) M
    | _ => False
  | .dadd => match st with
    | .inl y :: .inl x :: st => K b ls (.inl (bk_w32 (x + y)) :: st) M
    | _ => False
  | .dmul => match st with
    | .inl y :: .inl x :: st => K b ls (.inl (bk_w32 (x * y)) :: st) M
    | _ => False
  | .idiv => match st with
    | .inl y :: .inl x :: st => (0 ≤ x ∧ 0 < y) ∧ K b ls (.inl (x / y) :: st) M
    | _ => False
  | .irem => match st with
    | .inl y :: .inl x :: st => (0 ≤ x ∧ 0 < y) ∧ K b ls (.inl (x % y) :: st) M
    | _ => False
  | .ineg => match st with
    | .inl x :: st => bk_r32 (-x) ∧ K b ls (.inl (-x) :: st) M
    | _ => False
  | .ishl => match st with
    | .inl y :: .inl x :: st => (0 ≤ y ∧ y < 32 ∧ bk_r32 (x * 2 ^ y.toNat)) ∧ K b ls (.inl (x * 2 ^ y.toNat) :: st) M
    | _ => False
  | .ishr => match st with
    | .inl y :: .inl x :: st => (0 ≤ y ∧ y < 32) ∧ K b ls (.inl (x / 2 ^ y.toNat) :: st) M
    | _ => False
  | .iushr => match st with
    | .inl y :: .inl x :: st => (0 ≤ y ∧ y < 32) ∧ K b ls (.inl (bk_ushr x y) :: st) M
    | _ => False
  | .iand => match st with
    | .inl y :: .inl x :: st => K b ls (.inl (bk_and x y) :: st) M
    | _ => False
  | .ior => match st with
    | .inl y :: .inl x :: st => K b ls (.inl (bk_or x y) :: st) M
    | _ => False
  | .ixor => match st with
    | .inl y :: .inl x :: st => K b ls (.inl (bk_xor x y) :: st) M
    | _ => False
  | .ladd => match st with
    | .inr (.inl y) :: .inr (.inl x) :: st => bk_r64 (x + y) ∧ K b ls (.inr (.inl (x + y)) :: st) M
    | _ => False
  | .lsub => match st with
    | .inr (.inl y) :: .inr (.inl x) :: st => bk_r64 (x - y) ∧ K b ls (.inr (.inl (x - y)) :: st) M
    | _ => False
  | .lmul => match st with
    | .inr (.inl y) :: .inr (.inl x) :: st => bk_r64 (x * y) ∧ K b ls (.inr (.inl (x * y)) :: st) M
    | _ => False
  | .ldiv => match st with
    | .inr (.inl y) :: .inr (.inl x) :: st => (0 ≤ x ∧ 0 < y) ∧ K b ls (.inr (.inl (x / y)) :: st) M
    | _ => False
  | .lrem => match st with
    | .inr (.inl y) :: .inr (.inl x) :: st => (0 ≤ x ∧ 0 < y) ∧ K b ls (.inr (.inl (x % y)) :: st) M
    | _ => False
  | .lshl => match st with
    | .inl y :: .inr (.inl x) :: st => (0 ≤ y ∧ y < 64 ∧ bk_r64 (x * 2 ^ y.toNat)) ∧ K b ls (.inr (.inl (x * 2 ^ y.toNat)) :: st) M
    | _ => False
  | .lshr => match st with
    | .inl y :: .inr (.inl x) :: st => (0 ≤ y ∧ y < 64) ∧ K b ls (.inr (.inl (x / 2 ^ y.toNat)) :: st) M
    | _ => False
  | .land => match st with
    | .inr (.inl y) :: .inr (.inl x) :: st => K b ls (.inr (.inl (bk_andL x y)) :: st) M
    | _ => False
  | .lor => match st with
    | .inr (.inl y) :: .inr (.inl x) :: st => K b ls (.inr (.inl (bk_orL x y)) :: st) M
    | _ => False
  | .lcmp => match st with
    | .inr (.inl y) :: .inr (.inl x) :: st => K b ls (.inl (bk_lcmp x y) :: st) M
    | _ => False
  | .i2l => match st with
    | .inl x :: st => K b ls (.inr (.inl x) :: st) M
    | _ => False
  | .l2i => match st with
    | .inr (.inl x) :: st => bk_r32 x ∧ K b ls (.inl x :: st) M
    | _ => False
  | .dup => match st with
    | .inl x :: st => K b ls (.inl x :: .inl x :: st) M
    | .inr (.inr c) :: st => K b ls (.inr (.inr c) :: .inr (.inr c) :: st) M
    | _ => False
  | .dup2 => match st with
    | .inl y :: .inr (.inr c) :: st => K b ls (.inl y :: .inr (.inr c) :: .inl y :: .inr (.inr c) :: st) M
    | _ => False
  | .pop => match st with
    | .inl _ :: st => K b ls st M
    | _ => False
  | .if_icmp c l => match st with
    | .inl y :: .inl x :: st => (bk_cmp c x y → T b l.toNat ls st M) ∧ (¬ bk_cmp c x y → K b ls st M)
    | _ => False
  | .ifCond c l => match st with
    | .inl x :: st => (bk_cmp c x 0 → T b l.toNat ls st M) ∧ (¬ bk_cmp c x 0 → K b ls st M)
    | _ => False
  | .goto l => T b l.toNat ls st M
  | .tableswitch d lo _ ts => match st with
    | .inl x :: st => bk_sw x (fun l => T b l.toNat ls st M) d lo ts.toList
    | _ => False
  | .lookupswitch d ps => match st with
    | .inl x :: st => bk_lsw x (fun l => T b l.toNat ls st M) d ps.toList
    | _ => False
  | .ireturn => match st with
    | [.inl x] => Q 0 x M
    | _ => False
  | .freturn => match st with
    | [.inl x] => (x = 0 ∨ x = 1) ∧ Q 0 x M
    | _ => False
  | .lreturn => match st with
    | [.inr (.inl x)] => Q 0 x M
    | _ => False
  | .return_ => match st with
    | [] => Q 0 0 M
    | _ => False
  | .athrow => match b, st with
    | _ + 1, [] => Q 1 0 M
    | _, _ => False
  | .invokestatic n => match bk_take (n / 4 % 16) [] st with
    | some (as, st) => bif Nat.ble st.length 4 && bk_rcv (n / 32768 % 16) as && Nat.beq (bk_wd as) (n / 524288) then C 0 (n / 64 % 512) as M (fun t r M' => t = 0 ∧ K b ls (bk_push (n % 4) r st) M') else False
    | none => False
  | .invokeinterface n h => match b, bk_take (n / 4 % 16) [] st with
    | b + 1, some (as, st) => bif Nat.ble st.length 4 && bk_rcv (n / 32768 % 16) as && Nat.beq (bk_wd as) (n / 524288) then C 1 (n / 64 % 512) as M (fun t r M' => (t = 0 → K b ls (bk_push (n % 4) r st) M') ∧ (t ≠ 0 → T b (h / 16) (bk_set (h % 16) bk_x ls) [] M')) else False
    | _, _ => False
  | .invokevirtual n => match n, st with
    | 0, .inl len :: .inl dp :: .inr (.inr (dk, di)) :: .inl sp :: .inr (.inr (sk, si)) :: st => (0 ≤ len ∧ 0 ≤ sp ∧ sp + len ≤ bk_sz sk ∧ 0 ≤ dp ∧ dp + len ≤ bk_sz dk) ∧ (bif Nat.beq (bk_so sk) (bk_so dk) && Nat.ble (bk_so sk) 1 && Nat.ble st.length 4 && Nat.ble 16 sk && Nat.ble 16 dk then (∀ M', M' = bk_cpy M sk si sp dk di dp len → K b ls st M') else False)
    | 1, .inl y :: .inl x :: st => bif Nat.ble st.length 4 then K b ls (.inl (if x ≤ y then x else y) :: st) M else False
    | 2, .inl y :: .inl x :: st => bif Nat.ble st.length 4 then K b ls (.inl (if y ≤ x then x else y) :: st) M else False
    | 3, .inl x :: st => bk_r32 (-x) ∧ (bif Nat.ble st.length 4 then K b ls (.inl (if x < 0 then -x else x) :: st) M else False)
    | 4, .inr (.inr (k, i)) :: st => bif Nat.beq k 14 && Nat.ble st.length 4 then K b ls (.inl (Int.ofNat (bk_txt i).length) :: st) M else False
    | 5, .inl j :: .inr (.inr (k, i)) :: st => bif Nat.beq k 14 && Nat.ble st.length 4 then (0 ≤ j ∧ j < Int.ofNat (bk_txt i).length) ∧ K b ls (.inl ((bk_txt i).getD j.toNat 0) :: st) M else False
    | _, _ => False
  | _ => False
def bk_run (C : bk_Ca) (T : bk_T) (Q : bk_Q) : List Instr → bk_K
  | [] => fun _ _ _ _ => False
  | i :: is => bk_op C T Q i (bk_run C T Q is)
def bk_lk (l : Nat) : bk_P → List Instr
  | [] => []
  | (k, is) :: P => bif Nat.beq k l then is else bk_lk l P
/-- the least of what is closed under the instructions -/
def bk_wp (C : bk_Ca) (P : bk_P) (Q : bk_Q) : bk_T := fun b l ls st M =>
  ∀ X : bk_T, (∀ b l ls st M, bk_run C X Q (bk_lk l P) b ls st M → X b l ls st M) → X b l ls st M
def bk_go (C : bk_Ca) (P : bk_P) (Q : bk_Q) (S : List Nat) : Nat → bk_T
  | 0 => bk_wp C P Q
  | n + 1 => fun b l ls st M => bif S.elem l then bk_wp C P Q b l ls st M else bk_run C (bk_go C P Q S n) Q (bk_lk l P) b ls st M
end
section
theorem bk_getf_mono {f : Nat} {M : bk_M} {k i : Nat} {st : List bk_V} {K K' : List bk_V → Prop} (hK : ∀ st, K st → K' st) : bk_getf f M k i st K → bk_getf f M k i st K' := by
  unfold bk_getf
  cases Nat.beq k (f / 64 % 16) with
  | false => exact fun h => h
  | true => simp only [cond_true]; split <;> exact hK _
theorem bk_putf_mono {f : Nat} {M : bk_M} {k i : Nat} {v : bk_V} {K K' : bk_M → Prop} (hK : ∀ M, K M → K' M) : bk_putf f M k i v K → bk_putf f M k i v K' := by
  unfold bk_putf
  cases Nat.beq k (f / 64 % 16) with
  | false => exact fun h => h
  | true =>
    simp only [cond_true]
    split
    · exact fun h M' e => hK _ (h M' e)
    · exact fun h M' e => hK _ (h M' e)
    · rename_i k2 i2 _
      cases Nat.beq k2 (f / 8192 % 128) with
      | false => exact fun h => h
      | true => exact fun h M' e => hK _ (h M' e)
    · exact fun h => ⟨h.1, fun M' e => hK _ (h.2 M' e)⟩
    · exact fun h => h
theorem bk_op_mono {C : bk_Ca} (hC : ∀ b μ as M (Q Q' : bk_Q), (∀ t r M, Q t r M → Q' t r M) → C b μ as M Q → C b μ as M Q')
    {T T' : bk_T} (hT : ∀ b l ls st M, T b l ls st M → T' b l ls st M) {Q Q' : bk_Q} (hQ : ∀ t r M, Q t r M → Q' t r M) {K K' : bk_K} (hK : ∀ b ls st M, K b ls st M → K' b ls st M)
    (i : Instr) (b : Nat) (ls st : List bk_V) (M : bk_M) (h : bk_op C T Q i K b ls st M) : bk_op C T' Q' i K' b ls st M := by
  have hsw : ∀ (x : Int) (F G : Int → Prop) (hFG : ∀ l, F l → G l) (d : Int) (os : List Int) (lo : Int), bk_sw x F d lo os → bk_sw x G d lo os := by
    intro x F G hFG d os
    induction os with
    | nil => intro lo h; exact hFG d h
    | cons o os ih => intro lo h; exact ⟨fun e => hFG _ (h.1 e), fun e => ih _ (h.2 e)⟩
  have hlsw : ∀ (x : Int) (F G : Int → Prop) (hFG : ∀ l, F l → G l) (d : Int) (os : List (Int × Int)), bk_lsw x F d os → bk_lsw x G d os := by
    intro x F G hFG d os
    induction os with
    | nil => exact hFG d
    | cons o os ih => intro h; exact ⟨fun e => hFG _ (h.1 e), fun e => ih (h.2 e)⟩
  cases i
  case getfield f =>
    revert h; simp only [bk_op]; split
    · exact bk_getf_mono fun st => hK _ _ _ _
    · exact fun h => h
  case putfield f =>
    revert h; simp only [bk_op]; split
    · exact bk_putf_mono fun M => hK _ _ _ _
    · exact fun h => h
  case iaload =>
    revert h; simp only [bk_op]; split
    · rename_i j k i st
      refine fun h => ⟨h.1, ?_⟩
      have h := h.2
      revert h
      cases Nat.beq (bk_so k) 0 with
      | false => exact fun h => h
      | true => exact hK _ _ _ _
    · exact fun h => h
  case laload =>
    revert h; simp only [bk_op]; split
    · rename_i j k i st
      refine fun h => ⟨h.1, ?_⟩
      have h := h.2
      revert h
      cases Nat.beq (bk_so k) 1 with
      | false => exact fun h => h
      | true => exact hK _ _ _ _
    · exact fun h => h
  case baload =>
    revert h; simp only [bk_op]; split
    · rename_i j k i st
      refine fun h => ⟨h.1, ?_⟩
      have h := h.2
      revert h
      cases Nat.beq (bk_so k) 2 with
      | false => exact fun h => h
      | true => exact hK _ _ _ _
    · exact fun h => h
  case aaload =>
    revert h; simp only [bk_op]; split
    · rename_i j k _ st
      refine fun h => ⟨h.1, ?_⟩
      have h := h.2
      revert h
      cases Nat.beq (bk_so k) 3 with
      | false => exact fun h => h
      | true => exact hK _ _ _ _
    · exact fun h => h
  case iastore =>
    revert h; simp only [bk_op]; split
    · rename_i z j k i st
      refine fun h => ⟨h.1, ?_⟩
      have h := h.2
      revert h
      cases Nat.beq (bk_so k) 0 with
      | false => exact fun h => h
      | true => exact fun h M' e => hK _ _ _ _ (h M' e)
    · exact fun h => h
  case lastore =>
    revert h; simp only [bk_op]; split
    · rename_i z j k i st
      refine fun h => ⟨h.1, ?_⟩
      have h := h.2
      revert h
      cases Nat.beq (bk_so k) 1 with
      | false => exact fun h => h
      | true => exact fun h M' e => hK _ _ _ _ (h M' e)
    · exact fun h => h
  case bastore =>
    revert h; simp only [bk_op]; split
    · rename_i z j k i st
      refine fun h => ⟨h.1, ?_⟩
      have h := h.2
      revert h
      cases Nat.beq (bk_so k) 2 with
      | false => exact fun h => h
      | true => exact fun h => ⟨h.1, fun M' e => hK _ _ _ _ (h.2 M' e)⟩
    · exact fun h => h
  case saload =>
    revert h; simp only [bk_op]; split
    · rename_i j k i st
      cases Nat.beq k 13 with
      | false => exact fun h => h
      | true => exact fun h => ⟨h.1, hK _ _ _ _ h.2⟩
    · exact fun h => h
  case arraylength =>
    revert h; simp only [bk_op]; split
    · rename_i k i st
      cases Nat.ble 16 k with
      | false => exact fun h => h
      | true => exact hK _ _ _ _
    · exact fun h => h
  case swap =>
    revert h; simp only [bk_op]; split
    · rename_i k i st
      cases Nat.beq k 13 with
      | false => exact fun h => h
      | true => exact hK _ _ _ _
    · exact fun h => h
  case invokevirtual n =>
    revert h; simp only [bk_op]; split
    · rename_i len dp dk di sp sk si st
      refine fun h => ⟨h.1, ?_⟩
      have h := h.2
      revert h
      cases (Nat.beq (bk_so sk) (bk_so dk) && Nat.ble (bk_so sk) 1 && Nat.ble st.length 4 && Nat.ble 16 sk && Nat.ble 16 dk) with
      | false => exact fun h => h
      | true => exact fun h M' e => hK _ _ _ _ (h M' e)
    · rename_i y x st
      cases Nat.ble st.length 4 with
      | false => exact fun h => h
      | true => exact hK _ _ _ _
    · rename_i y x st
      cases Nat.ble st.length 4 with
      | false => exact fun h => h
      | true => exact hK _ _ _ _
    · rename_i x st
      cases Nat.ble st.length 4 with
      | false => exact fun h => h
      | true => exact fun h => ⟨h.1, hK _ _ _ _ h.2⟩
    · rename_i k i st
      cases (Nat.beq k 14 && Nat.ble st.length 4) with
      | false => exact fun h => h
      | true => exact hK _ _ _ _
    · rename_i j k i st
      cases (Nat.beq k 14 && Nat.ble st.length 4) with
      | false => exact fun h => h
      | true => exact fun h => ⟨h.1, hK _ _ _ _ h.2⟩
    · exact fun h => h
  case invokestatic n =>
    revert h; simp only [bk_op]; split
    · rename_i as st _
      cases (Nat.ble st.length 4 && bk_rcv (n / 32768 % 16) as && Nat.beq (bk_wd as) (n / 524288)) with
      | false => exact fun h => h
      | true => exact hC _ _ _ _ _ _ (fun t r M e => ⟨e.1, hK _ _ _ _ e.2⟩)
    · exact fun h => h
  case invokeinterface n h' =>
    revert h; simp only [bk_op]; split
    · rename_i as st _
      cases (Nat.ble st.length 4 && bk_rcv (n / 32768 % 16) as && Nat.beq (bk_wd as) (n / 524288)) with
      | false => exact fun h => h
      | true => exact hC _ _ _ _ _ _ (fun t r M e => ⟨fun q => hK _ _ _ _ (e.1 q), fun q => hT _ _ _ _ _ (e.2 q)⟩)
    · exact fun h => h
  case aload n =>
    revert h; simp only [bk_op]; split
    · rename_i k i _
      cases Nat.beq k 15 with
      | false => exact hK _ _ _ _
      | true => exact fun h => h
    · exact fun h => h
  case athrow =>
    revert h; simp only [bk_op]; split
    · exact hQ _ _ _
    · exact fun h => h
  all_goals
    revert h; simp only [bk_op]; (try split) <;>
    first
    | exact fun h => h
    | exact hK _ _ _ _
    | exact hT _ _ _ _ _
    | exact hQ _ _ _
    | exact fun h => ⟨h.1, hQ _ _ _ h.2⟩
    | exact fun h => ⟨h.1, hK _ _ _ _ h.2⟩
    | exact fun h => ⟨fun e => hT _ _ _ _ _ (h.1 e), fun e => hK _ _ _ _ (h.2 e)⟩
    | exact hsw _ _ _ (fun l => hT _ _ _ _ _) _ _ _
    | exact hlsw _ _ _ (fun l => hT _ _ _ _ _) _ _
    | exact hC _ _ _ _ _ _ (fun t r M e => ⟨e.1, hK _ _ _ _ e.2⟩)
    | exact hC _ _ _ _ _ _ (fun t r M e => ⟨fun q => hK _ _ _ _ (e.1 q), fun q => hT _ _ _ _ _ (e.2 q)⟩)
theorem bk_run_mono {C : bk_Ca} (hC : ∀ b μ as M (Q Q' : bk_Q), (∀ t r M, Q t r M → Q' t r M) → C b μ as M Q → C b μ as M Q')
    {T T' : bk_T} (hT : ∀ b l ls st M, T b l ls st M → T' b l ls st M) {Q Q' : bk_Q} (hQ : ∀ t r M, Q t r M → Q' t r M)
    (is : List Instr) : ∀ (b : Nat) (ls st : List bk_V) (M : bk_M), bk_run C T Q is b ls st M → bk_run C T' Q' is b ls st M := by
  induction is with
  | nil => intro b ls st M h; exact h
  | cons i is ih => intro b ls st M h; exact bk_op_mono hC hT hQ ih i b ls st M h
theorem bk_wp_mono {C : bk_Ca} (hC : ∀ b μ as M (Q Q' : bk_Q), (∀ t r M, Q t r M → Q' t r M) → C b μ as M Q → C b μ as M Q')
    {P : bk_P} {Q Q' : bk_Q} (hQ : ∀ t r M, Q t r M → Q' t r M) {b l : Nat} {ls st : List bk_V} {M : bk_M} (h : bk_wp C P Q b l ls st M) : bk_wp C P Q' b l ls st M :=
  fun X hX => h X fun b l ls st M q => hX b l ls st M (bk_run_mono hC (fun _ _ _ _ _ h => h) hQ _ b ls st M q)
theorem bk_wp_fold {C : bk_Ca} (hC : ∀ b μ as M (Q Q' : bk_Q), (∀ t r M, Q t r M → Q' t r M) → C b μ as M Q → C b μ as M Q')
    {P : bk_P} {Q : bk_Q} {b l : Nat} {ls st : List bk_V} {M : bk_M} (h : bk_run C (bk_wp C P Q) Q (bk_lk l P) b ls st M) : bk_wp C P Q b l ls st M :=
  fun X hX => hX b l ls st M (bk_run_mono hC (fun _ _ _ _ _ q => q X hX) (fun _ _ _ h => h) _ b ls st M h)
theorem bk_go_wp {C : bk_Ca} (hC : ∀ b μ as M (Q Q' : bk_Q), (∀ t r M, Q t r M → Q' t r M) → C b μ as M Q → C b μ as M Q')
    {P : bk_P} {Q : bk_Q} {S : List Nat} (n : Nat) : ∀ {b l : Nat} {ls st : List bk_V} {M : bk_M}, bk_go C P Q S n b l ls st M → bk_wp C P Q b l ls st M := by
  induction n with
  | zero => intro b l ls st M h; exact h
  | succ n ih =>
    intro b l ls st M h
    unfold bk_go at h
    cases hs : S.elem l with
    | true => rw [hs] at h; exact h
    | false => rw [hs] at h; exact bk_wp_fold hC (bk_run_mono hC (fun _ _ _ _ _ q => ih q) (fun _ _ _ h => h) _ b ls st M h)
end
section
/-- BanksDealt$Plain.reset()V -/
def P_0 : bk_P := [(0, [.aload 0, .sipush 5, .putfield 320, .aload 0, .sipush 5, .putfield 321, .aload 0, .sipush 0, .putfield 322, .aload 0, .sipush 2, .putfield 323, .aload 0, .sipush 0, .putfield 326, .aload 0, .sipush 0, .putfield 331, .aload 0, .sipush 0, .putfield 337, .sipush 0, .istore 1, .goto 37]),
  (37, [.iload 1, .sipush 36, .if_icmp .ge 56, .aload 0, .getfield 231748, .iload 1, .sipush 5, .iastore, .iinc 1 (1), .goto 37]),
  (56, [.sipush 0, .istore 1, .goto 58]),
  (58, [.iload 1, .sipush 6, .if_icmp .ge 77, .aload 0, .getfield 239941, .iload 1, .sipush 0, .iastore, .iinc 1 (1), .goto 58]),
  (77, [.sipush 0, .istore 1, .goto 79]),
  (79, [.iload 1, .sipush 1, .if_icmp .gt 105, .aload 0, .getfield 305487, .iload 1, .sipush 9, .iastore, .aload 0, .getfield 313680, .iload 1, .sipush 0, .iastore, .iinc 1 (1), .goto 79]),
  (105, [.return_])]
/-- BanksDealt.feed(IIIII)I -/
def P_1 : bk_P := [(0, [.aload 0, .getfield 84672, .getfield 641, .sipush 920, .if_icmp .le 15, .sipush (-1), .ireturn]),
  (15, [.aload 0, .getfield 84672, .iload 1, .invokestatic 1409160, .aload 0, .getfield 84672, .iload 2, .invokestatic 1409160, .aload 0, .getfield 84672, .iload 3, .invokestatic 1409160, .aload 0, .getfield 84672, .iload 4, .invokestatic 1409160, .aload 0, .getfield 84672, .iload 5, .invokestatic 1409160, .aload 0, .getfield 84672, .getfield 641, .ireturn])]
/-- BanksDealt$Tape.add(I)V -/
def P_2 : bk_P := [(0, [.sipush 24, .istore 2, .goto 3]),
  (3, [.iload 2, .ifCond .lt 49, .aload 0, .getfield 641, .sipush 940, .if_icmp .ge 49, .aload 0, .getfield 436864, .aload 0, .getfield 641, .iload 1, .iload 2, .iushr, .sipush 255, .iand, .iastore, .aload 0, .dup, .getfield 641, .sipush 1, .iadd, .putfield 641, .iinc 2 (-8), .goto 3]),
  (49, [.return_])]
/-- BanksDealt.end(I)Z -/
def P_3 : bk_P := [(0, [.iload 1, .ifCond .lt 15, .iload 1, .aload 0, .getfield 84672, .getfield 641, .if_icmp .le 17, .goto 15]),
  (15, [.sipush 0, .freturn]),
  (17, [.aload 0, .getfield 84672, .iload 1, .putfield 641, .sipush 1, .freturn])]
/-- BanksDealt.plain()I -/
def P_4 : bk_P := [(0, [.aload 0, .getfield 51909, .aload 0, .getfield 84672, .aload 0, .getfield 44738, .invokestatic 1802573, .istore 1, .aload 0, .invokestatic 919492, .iload 1, .sipush (-1), .if_icmp .ne 35, .sipush (-1), .aload 0, .getfield 84672, .getfield 647, .isub, .ireturn]),
  (35, [.aload 0, .getfield 68292, .aload 0, .getfield 44738, .invokestatic 1345544, .aload 0, .getfield 44737, .astore 2, .aload 0, .aload 0, .getfield 44738, .putfield 44737, .aload 0, .aload 2, .putfield 44738, .aload 0, .getfield 77511, .invokestatic 854340, .aload 0, .getfield 27340, .invokestatic 657796, .iload 1, .ireturn])]
/-- BanksDealt$PlainReader.readText(LBanksDealt$Tape;LBanksDealt$Plain;)I -/
def P_5 : bk_P := [(0, [.aload 2, .invokestatic 720900, .aload 0, .sipush 0, .putfield 384, .aload 0, .sipush 0, .putfield 385, .aload 0, .bipush 0, .putfield 1410, .aload 0, .sipush 0, .putfield 4483, .aload 1, .sipush 900, .invokestatic 1409416, .sipush 0, .istore 3, .goto 33]),
  (33, [.iload 3, .sipush 900, .if_icmp .ge 79, .aload 1, .getfield 642, .ifCond .ne 49, .iload 3, .ireturn]),
  (49, [.aload 0, .aload 1, .aload 2, .invokestatic 1803085, .ifCond .eq 67, .aload 1, .sipush 59, .invokestatic 1410953, .ifCond .ne 69, .goto 67]),
  (67, [.sipush (-1), .ireturn]),
  (69, [.aload 1, .invokestatic 885188, .iinc 3 (1), .goto 33]),
  (79, [.sipush (-1), .ireturn])]
/-- BanksDealt$Tape.begin(I)V -/
def P_6 : bk_P := [(0, [.aload 0, .iload 1, .putfield 649, .aload 0, .sipush 0, .putfield 650, .aload 0, .sipush 0, .putfield 646, .aload 0, .sipush 0, .putfield 647, .aload 0, .invokestatic 885188, .return_])]
/-- BanksDealt$Tape.step()V -/
def P_7 : bk_P := [(0, [.aload 0, .getfield 650, .istore 1, .goto 5]),
  (5, [.iload 1, .aload 0, .getfield 641, .if_icmp .ge 41, .aload 0, .getfield 436864, .iload 1, .iaload, .sipush 32, .if_icmp .eq 35, .aload 0, .getfield 436864, .iload 1, .iaload, .sipush 10, .if_icmp .ne 41, .goto 35]),
  (35, [.iinc 1 (1), .goto 5]),
  (41, [.aload 0, .iload 1, .putfield 650, .aload 0, .iload 1, .putfield 651, .iload 1, .aload 0, .getfield 649, .if_icmp .lt 86, .aload 0, .getfield 641, .aload 0, .getfield 649, .if_icmp .le 86, .aload 0, .aload 0, .getfield 649, .putfield 651, .aload 0, .sipush 1, .putfield 642, .goto 198]),
  (86, [.iload 1, .aload 0, .getfield 641, .if_icmp .lt 102, .aload 0, .sipush 0, .putfield 642, .goto 198]),
  (102, [.aload 0, .getfield 436864, .iload 1, .iaload, .invokestatic 524805, .ifCond .ne 126, .aload 0, .getfield 436864, .iload 1, .iaload, .invokestatic 524869, .ifCond .eq 165, .goto 126]),
  (126, [.aload 0, .invokestatic 885380, .aload 0, .aload 0, .getfield 642, .sipush 2, .if_icmp .ne 158, .aload 0, .getfield 445064, .aload 0, .getfield 445064, .arraylength, .aload 0, .getfield 1667, .invokestatic 2097869, .goto 159]),
  (158, [.sipush (-1), .goto 159]),
  (159, [.putfield 644, .goto 198]),
  (165, [.aload 0, .iload 1, .sipush 1, .iadd, .putfield 650, .aload 0, .aload 0, .getfield 436864, .iload 1, .iaload, .invokestatic 525061, .ifCond .eq 194, .aload 0, .getfield 436864, .iload 1, .iaload, .goto 195]),
  (194, [.sipush 1, .goto 195]),
  (195, [.putfield 642, .goto 198]),
  (198, [.return_])]
/-- BanksDealt$Tape.isSmall(I)Z -/
def P_8 : bk_P := [(0, [.iload 0, .sipush 97, .if_icmp .lt 16, .iload 0, .sipush 122, .if_icmp .gt 16, .sipush 1, .goto 17]),
  (16, [.sipush 0, .goto 17]),
  (17, [.freturn])]
/-- BanksDealt$Tape.isDigit(I)Z -/
def P_9 : bk_P := [(0, [.iload 0, .sipush 48, .if_icmp .lt 16, .iload 0, .sipush 57, .if_icmp .gt 16, .sipush 1, .goto 17]),
  (16, [.sipush 0, .goto 17]),
  (17, [.freturn])]
/-- BanksDealt$Tape.readWordOrNumber()V -/
def P_10 : bk_P := [(0, [.sipush 0, .istore 1, .sipush 0, .istore 2, .bipush 0, .lstore 3, .sipush 0, .istore 5, .aload 0, .getfield 651, .istore 6, .goto 15]),
  (15, [.iload 6, .aload 0, .getfield 641, .if_icmp .ge 102, .aload 0, .getfield 436864, .iload 6, .iaload, .istore 7, .iload 7, .sipush 97, .if_icmp .lt 66, .iload 7, .sipush 122, .if_icmp .gt 66, .iinc 1 (1), .lload 3, .sipush 5, .lshl, .iload 7, .sipush 97, .isub, .sipush 1, .iadd, .i2l, .ladd, .lstore 3, .goto 96]),
  (66, [.iload 7, .sipush 48, .if_icmp .lt 102, .iload 7, .sipush 57, .if_icmp .gt 102, .iinc 2 (1), .sipush 10, .iload 5, .imul, .iload 7, .iadd, .sipush 48, .isub, .istore 5, .goto 96]),
  (96, [.iinc 6 (1), .goto 15]),
  (102, [.aload 0, .iload 6, .putfield 650, .aload 0, .sipush 1, .putfield 642, .iload 2, .ifCond .ne 136, .iload 1, .sipush 7, .if_icmp .gt 136, .aload 0, .sipush 2, .putfield 642, .aload 0, .lload 3, .putfield 1667, .goto 156]),
  (136, [.iload 1, .ifCond .ne 156, .iload 2, .sipush 3, .if_icmp .gt 156, .aload 0, .sipush 3, .putfield 642, .aload 0, .iload 5, .putfield 645, .goto 156]),
  (156, [.return_])]
/-- BanksDealt.indexOfName([JIJ)I -/
def P_11 : bk_P := [(0, [.sipush 0, .istore 4, .goto 3]),
  (3, [.iload 4, .iload 1, .if_icmp .ge 34, .iload 4, .aload 0, .arraylength, .if_icmp .ge 34, .aload 0, .iload 4, .laload, .lload 2, .lcmp, .ifCond .ne 28, .iload 4, .ireturn]),
  (28, [.iinc 4 (1), .goto 3]),
  (34, [.sipush (-1), .ireturn])]
/-- BanksDealt$Tape.isSign(I)Z -/
def P_12 : bk_P := [(0, [.iload 0, .sipush 59, .if_icmp .eq 36, .iload 0, .sipush 60, .if_icmp .eq 36, .iload 0, .sipush 61, .if_icmp .eq 36, .iload 0, .sipush 62, .if_icmp .eq 36, .iload 0, .sipush 40, .if_icmp .eq 36, .iload 0, .sipush 41, .if_icmp .ne 40, .goto 36]),
  (36, [.sipush 1, .goto 41]),
  (40, [.sipush 0, .goto 41]),
  (41, [.freturn])]
/-- BanksDealt$PlainReader.readLine(LBanksDealt$Tape;LBanksDealt$Plain;)Z -/
def P_13 : bk_P := [(0, [.aload 1, .getfield 642, .sipush 2, .if_icmp .ne 15, .aload 1, .getfield 644, .goto 16]),
  (15, [.sipush (-1), .goto 16]),
  (16, [.tableswitch 117 0 8 #[68, 75, 82, 89, 96, 103, 117, 117, 110]]),
  (68, [.aload 0, .aload 1, .aload 2, .invokestatic 1803149, .freturn]),
  (75, [.aload 0, .aload 1, .aload 2, .invokestatic 1803405, .freturn]),
  (82, [.aload 0, .aload 1, .aload 2, .invokestatic 1803597, .freturn]),
  (89, [.aload 0, .aload 1, .aload 2, .invokestatic 1803661, .freturn]),
  (96, [.aload 0, .aload 1, .aload 2, .invokestatic 1803917, .freturn]),
  (103, [.aload 0, .aload 1, .aload 2, .invokestatic 1803981, .freturn]),
  (110, [.aload 0, .aload 1, .aload 2, .invokestatic 1804109, .freturn]),
  (117, [.aload 1, .sipush 1, .invokestatic 1410057, .freturn])]
/-- BanksDealt$PlainReader.readSize(LBanksDealt$Tape;LBanksDealt$Plain;)Z -/
def P_14 : bk_P := [(0, [.aload 0, .getfield 4483, .ifCond .ne 27, .aload 0, .getfield 384, .sipush 2, .ishr, .sipush 1, .iand, .sipush 1, .if_icmp .eq 27, .aload 0, .sipush 0, .invokestatic 1278921, .ifCond .ne 33, .goto 27]),
  (27, [.aload 1, .sipush 3, .invokestatic 1410057, .freturn]),
  (33, [.aload 1, .sipush 3, .sipush 6, .invokestatic 1934413, .ifCond .ne 45, .sipush 0, .freturn]),
  (45, [.aload 2, .aload 1, .getfield 645, .putfield 320, .aload 1, .sipush 2, .sipush 6, .invokestatic 1934413, .ifCond .ne 65, .sipush 0, .freturn]),
  (65, [.aload 2, .aload 1, .getfield 645, .putfield 321, .sipush 1, .freturn])]
/-- BanksDealt$PlainReader.isFirst(I)Z -/
def P_15 : bk_P := [(0, [.aload 0, .getfield 384, .iload 1, .ishr, .sipush 1, .iand, .ifCond .ne 15, .sipush 1, .goto 16]),
  (15, [.sipush 0, .goto 16]),
  (16, [.istore 2, .aload 0, .dup, .getfield 384, .sipush 1, .iload 1, .ishl, .ior, .putfield 384, .iload 2, .freturn])]
/-- BanksDealt$Tape.fails(I)Z -/
def P_16 : bk_P := [(0, [.aload 0, .iload 1, .putfield 646, .aload 0, .aload 0, .getfield 651, .putfield 647, .sipush 0, .freturn])]
/-- BanksDealt$Tape.between(II)Z -/
def P_17 : bk_P := [(0, [.aload 0, .invokestatic 885188, .aload 0, .getfield 642, .sipush 3, .if_icmp .eq 18, .aload 0, .sipush 1, .invokestatic 1410057, .freturn]),
  (18, [.aload 0, .getfield 645, .iload 1, .if_icmp .lt 34, .aload 0, .getfield 645, .iload 2, .if_icmp .le 42, .goto 34]),
  (34, [.aload 0, .sipush 2, .invokestatic 1410057, .ifCond .eq 46, .goto 42]),
  (42, [.sipush 1, .goto 47]),
  (46, [.sipush 0, .goto 47]),
  (47, [.freturn])]
/-- BanksDealt$PlainReader.readLand(LBanksDealt$Tape;LBanksDealt$Plain;)Z -/
def P_18 : bk_P := [(0, [.aload 0, .aload 1, .aload 2, .invokestatic 1803469, .istore 3, .iload 3, .sipush (-1), .if_icmp .ne 14, .sipush 0, .freturn]),
  (14, [.aload 0, .getfield 1410, .iload 3, .lshr, .bipush 1, .land, .bipush 1, .lcmp, .ifCond .ne 33, .aload 1, .sipush 3, .invokestatic 1410057, .freturn]),
  (33, [.aload 0, .dup, .getfield 1410, .bipush 1, .iload 3, .lshl, .lor, .putfield 1410, .aload 1, .sipush 0, .sipush 9, .invokestatic 1934413, .ifCond .ne 57, .sipush 0, .freturn]),
  (57, [.aload 2, .getfield 231748, .iload 3, .aload 1, .getfield 645, .iastore, .sipush 1, .freturn])]
/-- BanksDealt$PlainReader.readCell(LBanksDealt$Tape;LBanksDealt$Plain;)I -/
def P_19 : bk_P := [(0, [.aload 1, .sipush 0, .aload 2, .getfield 320, .sipush 1, .isub, .invokestatic 1934413, .ifCond .ne 16, .sipush (-1), .ireturn]),
  (16, [.aload 1, .getfield 645, .istore 3, .aload 1, .sipush 0, .aload 2, .getfield 321, .sipush 1, .isub, .invokestatic 1934413, .ifCond .ne 37, .sipush (-1), .ireturn]),
  (37, [.aload 0, .sipush 1, .putfield 4483, .aload 2, .iload 3, .aload 1, .getfield 645, .invokestatic 1770765, .ireturn])]
/-- BanksDealt$Plain.cellAt(II)I -/
def P_20 : bk_P := [(0, [.iload 1, .ifCond .lt 33, .iload 1, .aload 0, .getfield 320, .if_icmp .ge 33, .iload 2, .ifCond .lt 33, .iload 2, .aload 0, .getfield 321, .if_icmp .ge 33, .sipush 6, .iload 2, .imul, .iload 1, .iadd, .goto 34]),
  (33, [.sipush (-1), .goto 34]),
  (34, [.ireturn])]
/-- BanksDealt$PlainReader.readSource(LBanksDealt$Tape;LBanksDealt$Plain;)Z -/
def P_21 : bk_P := [(0, [.aload 0, .sipush 2, .invokestatic 1278921, .ifCond .ne 14, .aload 1, .sipush 3, .invokestatic 1410057, .freturn]),
  (14, [.aload 1, .sipush 0, .aload 2, .getfield 320, .sipush 1, .isub, .invokestatic 1934413, .ifCond .ne 30, .sipush 0, .freturn]),
  (30, [.aload 2, .aload 1, .getfield 645, .putfield 322, .sipush 1, .freturn])]
/-- BanksDealt$PlainReader.readField(LBanksDealt$Tape;LBanksDealt$Plain;)Z -/
def P_22 : bk_P := [(0, [.aload 2, .getfield 326, .istore 3, .iload 3, .sipush 10, .if_icmp .lt 17, .aload 1, .sipush 4, .invokestatic 1410057, .freturn]),
  (17, [.aload 0, .aload 1, .aload 2, .invokestatic 1803725, .ifCond .ne 28, .sipush 0, .freturn]),
  (28, [.aload 2, .getfield 272714, .iload 3, .aload 1, .getfield 1667, .lastore, .aload 0, .aload 1, .aload 2, .invokestatic 1803469, .istore 4, .iload 4, .sipush (-1), .if_icmp .ne 54, .sipush 0, .freturn]),
  (54, [.aload 2, .iload 4, .invokestatic 1050185, .ifCond .eq 69, .aload 1, .sipush 3, .invokestatic 1410057, .freturn]),
  (69, [.aload 1, .sipush 1, .sipush 20, .invokestatic 1934413, .ifCond .ne 81, .sipush 0, .freturn]),
  (81, [.aload 2, .getfield 248135, .iload 3, .iload 4, .iastore, .aload 2, .getfield 256328, .iload 3, .aload 1, .getfield 645, .iastore, .aload 2, .getfield 264521, .iload 3, .sipush 0, .iastore, .aload 2, .dup, .getfield 326, .sipush 1, .iadd, .putfield 326, .sipush 1, .freturn])]
/-- BanksDealt$PlainReader.readNewName(LBanksDealt$Tape;LBanksDealt$Plain;)Z -/
def P_23 : bk_P := [(0, [.aload 1, .invokestatic 885188, .aload 1, .invokestatic 886277, .ifCond .ne 17, .aload 1, .sipush 1, .invokestatic 1410057, .freturn]),
  (17, [.aload 2, .getfield 272714, .aload 2, .getfield 326, .aload 1, .getfield 1667, .invokestatic 2097869, .sipush (-1), .if_icmp .ne 55, .aload 2, .getfield 297294, .aload 2, .getfield 331, .aload 1, .getfield 1667, .invokestatic 2097869, .sipush (-1), .if_icmp .eq 59, .goto 55]),
  (55, [.sipush 1, .goto 60]),
  (59, [.sipush 0, .goto 60]),
  (60, [.istore 3, .iload 3, .ifCond .eq 73, .aload 1, .sipush 3, .invokestatic 1410057, .ifCond .eq 77, .goto 73]),
  (73, [.sipush 1, .goto 78]),
  (77, [.sipush 0, .goto 78]),
  (78, [.freturn])]
/-- BanksDealt$Tape.isName()Z -/
def P_24 : bk_P := [(0, [.aload 0, .getfield 642, .sipush 2, .if_icmp .ne 20, .aload 0, .getfield 644, .sipush (-1), .if_icmp .ne 20, .sipush 1, .goto 21]),
  (20, [.sipush 0, .goto 21]),
  (21, [.freturn])]
/-- BanksDealt$PlainReader.isTaken(LBanksDealt$Plain;I)Z -/
def P_25 : bk_P := [(0, [.sipush 0, .istore 2, .goto 2]),
  (2, [.iload 2, .aload 0, .getfield 326, .if_icmp .ge 28, .aload 0, .getfield 248135, .iload 2, .iaload, .iload 1, .if_icmp .ne 22, .sipush 1, .freturn]),
  (22, [.iinc 2 (1), .goto 2]),
  (28, [.sipush 0, .freturn])]
/-- BanksDealt$PlainReader.readMill(LBanksDealt$Tape;LBanksDealt$Plain;)Z -/
def P_26 : bk_P := [(0, [.aload 2, .getfield 331, .istore 3, .iload 3, .sipush 3, .if_icmp .lt 16, .aload 1, .sipush 4, .invokestatic 1410057, .freturn]),
  (16, [.aload 0, .aload 1, .aload 2, .invokestatic 1803725, .ifCond .ne 27, .sipush 0, .freturn]),
  (27, [.aload 2, .getfield 297294, .iload 3, .aload 1, .getfield 1667, .lastore, .aload 0, .aload 1, .aload 2, .invokestatic 1803469, .istore 4, .iload 4, .sipush (-1), .if_icmp .ne 53, .sipush 0, .freturn]),
  (53, [.aload 2, .getfield 280908, .iload 3, .iload 4, .iastore, .aload 2, .getfield 289101, .iload 3, .sipush 0, .iastore, .aload 2, .dup, .getfield 331, .sipush 1, .iadd, .putfield 331, .sipush 1, .freturn])]
/-- BanksDealt$PlainReader.readPurse(LBanksDealt$Tape;LBanksDealt$Plain;)Z -/
def P_27 : bk_P := [(0, [.aload 1, .invokestatic 885188, .aload 1, .sipush 6, .invokestatic 1410825, .ifCond .ne 28, .aload 1, .sipush 7, .invokestatic 1410825, .ifCond .ne 28, .aload 1, .sipush 1, .invokestatic 1410057, .freturn]),
  (28, [.aload 1, .getfield 644, .sipush 6, .if_icmp .ne 41, .sipush 0, .goto 42]),
  (41, [.sipush 1, .goto 42]),
  (42, [.istore 3, .aload 0, .getfield 385, .iload 3, .ishr, .sipush 1, .iand, .sipush 1, .if_icmp .ne 61, .aload 1, .sipush 3, .invokestatic 1410057, .freturn]),
  (61, [.aload 0, .dup, .getfield 385, .sipush 1, .iload 3, .ishl, .ior, .putfield 385, .aload 1, .sipush 0, .sipush 99, .invokestatic 1934413, .ifCond .ne 85, .sipush 0, .freturn]),
  (85, [.aload 2, .getfield 305487, .iload 3, .aload 1, .getfield 645, .iastore, .sipush 1, .freturn])]
/-- BanksDealt$Tape.isWord(I)Z -/
def P_28 : bk_P := [(0, [.aload 0, .getfield 642, .sipush 2, .if_icmp .ne 20, .aload 0, .getfield 644, .iload 1, .if_icmp .ne 20, .sipush 1, .goto 21]),
  (20, [.sipush 0, .goto 21]),
  (21, [.freturn])]
/-- BanksDealt$PlainReader.readIce(LBanksDealt$Tape;LBanksDealt$Plain;)Z -/
def P_29 : bk_P := [(0, [.aload 0, .sipush 8, .invokestatic 1278921, .ifCond .ne 15, .aload 1, .sipush 3, .invokestatic 1410057, .freturn]),
  (15, [.aload 1, .sipush 0, .sipush 5, .invokestatic 1934413, .ifCond .ne 26, .sipush 0, .freturn]),
  (26, [.aload 2, .aload 1, .getfield 645, .putfield 323, .sipush 1, .freturn])]
/-- BanksDealt$Tape.sign(I)Z -/
def P_30 : bk_P := [(0, [.aload 0, .invokestatic 885188, .aload 0, .getfield 642, .iload 1, .if_icmp .eq 20, .aload 0, .sipush 1, .invokestatic 1410057, .ifCond .eq 24, .goto 20]),
  (20, [.sipush 1, .goto 25]),
  (24, [.sipush 0, .goto 25]),
  (25, [.freturn])]
/-- BanksDealt.emptyTape()V -/
def P_31 : bk_P := [(0, [.aload 0, .aload 0, .getfield 84672, .getfield 646, .putfield 720, .aload 0, .getfield 84672, .sipush 0, .putfield 641, .return_])]
/-- BanksDealt$River.takeLeast(LBanksDealt$Plain;)V -/
def P_32 : bk_P := [(0, [.aload 0, .aload 1, .invokestatic 1345608, .aload 0, .getfield 379393, .sipush 0, .aload 1, .getfield 239941, .sipush 0, .sipush 6, .invokevirtual 0, .return_])]
/-- BanksDealt$River.runFreely(LBanksDealt$Plain;)V -/
def P_33 : bk_P := [(0, [.aload 0, .aload 1, .invokestatic 1345672, .aload 0, .aload 1, .invokestatic 1345736, .return_])]
/-- BanksDealt$River.load(LBanksDealt$Plain;)V -/
def P_34 : bk_P := [(0, [.aload 1, .getfield 231748, .sipush 0, .aload 0, .getfield 371200, .sipush 0, .sipush 36, .invokevirtual 0, .return_])]
/-- BanksDealt$River.run(LBanksDealt$Plain;)V -/
def P_35 : bk_P := [(0, [.aload 1, .getfield 321, .sipush 1, .isub, .istore 2, .iload 2, .istore 3, .goto 9]),
  (9, [.iload 3, .ifCond .lt 125, .aload 1, .getfield 320, .sipush 1, .isub, .aload 1, .getfield 322, .iload 3, .iadd, .invokevirtual 1, .istore 4, .sipush 0, .aload 1, .getfield 322, .iload 3, .isub, .invokevirtual 2, .istore 5, .goto 42]),
  (42, [.iload 5, .iload 4, .if_icmp .gt 119, .sipush 6, .iload 3, .imul, .iload 5, .iadd, .istore 6, .aload 0, .getfield 387588, .iload 6, .aload 0, .getfield 371200, .iload 6, .iaload, .iastore, .iload 3, .iload 2, .if_icmp .ge 113, .aload 0, .getfield 395781, .iload 6, .aload 0, .aload 1, .iload 6, .invokestatic 1870093, .iastore, .aload 0, .getfield 387588, .iload 6, .dup2, .iaload, .aload 0, .getfield 387588, .aload 0, .getfield 395781, .iload 6, .iaload, .iaload, .iadd, .iastore, .goto 113]),
  (113, [.iinc 5 (1), .goto 42]),
  (119, [.iinc 3 (-1), .goto 9]),
  (125, [.aload 1, .getfield 322, .istore 3, .aload 0, .aload 0, .getfield 387588, .iload 3, .iaload, .putfield 514, .sipush 0, .istore 4, .goto 143]),
  (143, [.iload 4, .iload 2, .if_icmp .ge 173, .aload 0, .getfield 379393, .iload 4, .iload 3, .sipush 6, .irem, .iastore, .aload 0, .getfield 395781, .iload 3, .iaload, .istore 3, .iinc 4 (1), .goto 143]),
  (173, [.aload 0, .getfield 379393, .iload 2, .iload 3, .sipush 6, .irem, .iastore, .return_])]
/-- BanksDealt$River.leastBelow(LBanksDealt$Plain;I)I -/
def P_36 : bk_P := [(0, [.iload 2, .sipush 6, .irem, .istore 3, .iload 2, .sipush 6, .iadd, .istore 4, .iload 3, .ifCond .le 22, .iload 4, .sipush 1, .isub, .goto 24]),
  (22, [.iload 4, .goto 24]),
  (24, [.istore 5, .aload 0, .getfield 387588, .iload 4, .iaload, .aload 0, .getfield 387588, .iload 5, .iaload, .if_icmp .ge 47, .iload 4, .istore 5, .goto 47]),
  (47, [.iload 3, .sipush 1, .iadd, .aload 1, .getfield 320, .if_icmp .ge 82, .aload 0, .getfield 387588, .iload 4, .sipush 1, .iadd, .iaload, .aload 0, .getfield 387588, .iload 5, .iaload, .if_icmp .ge 82, .iload 4, .sipush 1, .iadd, .istore 5, .goto 82]),
  (82, [.iload 5, .ireturn])]
/-- BanksDealt$Sentence.forget()V -/
def P_37 : bk_P := [(0, [.aload 0, .sipush 0, .putfield 576, .aload 0, .sipush 0, .putfield 577, .return_])]
/-- BanksDealt$History.forget()V -/
def P_38 : bk_P := [(0, [.aload 0, .sipush 0, .putfield 192, .return_])]
/-- BanksDealt.fault()I -/
def P_39 : bk_P := [(0, [.aload 0, .getfield 720, .ireturn])]
/-- BanksDealt.mill(II)I -/
def P_40 : bk_P := [(0, [.iload 1, .ifCond .lt 15, .iload 1, .aload 0, .getfield 44737, .getfield 331, .if_icmp .lt 17, .goto 15]),
  (15, [.sipush (-1), .ireturn]),
  (17, [.aload 0, .getfield 44737, .getfield 280908, .iload 1, .iaload, .istore 3, .iload 2, .tableswitch 92 0 3 #[60, 65, 70, 82]]),
  (60, [.iload 3, .sipush 6, .irem, .ireturn]),
  (65, [.iload 3, .sipush 6, .idiv, .ireturn]),
  (70, [.aload 0, .getfield 44737, .getfield 239941, .iload 3, .invokestatic 1051209, .ireturn]),
  (82, [.aload 0, .getfield 44737, .getfield 289101, .iload 1, .iaload, .ireturn]),
  (92, [.sipush (-1), .ireturn])]
/-- BanksDealt.bankBy([II)I -/
def P_41 : bk_P := [(0, [.iload 1, .sipush 6, .idiv, .istore 2, .iload 1, .ifCond .lt 15, .iload 2, .aload 0, .arraylength, .if_icmp .lt 17, .goto 15]),
  (15, [.sipush (-1), .ireturn]),
  (17, [.iload 1, .sipush 6, .irem, .istore 3, .iload 3, .aload 0, .iload 2, .iaload, .if_icmp .ne 31, .sipush 2, .ireturn]),
  (31, [.iload 3, .aload 0, .iload 2, .iaload, .if_icmp .ge 42, .sipush 0, .goto 43]),
  (42, [.sipush 1, .goto 43]),
  (43, [.ireturn])]
/-- BanksDealt.height(II)I -/
def P_42 : bk_P := [(0, [.aload 0, .getfield 44737, .iload 1, .iload 2, .invokestatic 1770765, .istore 3, .iload 3, .sipush (-1), .if_icmp .ne 19, .sipush (-1), .goto 28]),
  (19, [.aload 0, .getfield 44737, .getfield 231748, .iload 3, .iaload, .goto 28]),
  (28, [.ireturn])]
/-- BanksDealt.bank(II)I -/
def P_43 : bk_P := [(0, [.aload 0, .getfield 44737, .iload 1, .iload 2, .invokestatic 1770765, .istore 3, .iload 3, .sipush (-1), .if_icmp .ne 19, .sipush (-1), .goto 30]),
  (19, [.aload 0, .getfield 44737, .getfield 239941, .iload 3, .invokestatic 1051209, .goto 30]),
  (30, [.ireturn])]
/-- BanksDealt.bed(I)I -/
def P_44 : bk_P := [(0, [.aload 0, .iload 1, .invokestatic 1444681, .ifCond .eq 20, .aload 0, .getfield 44737, .getfield 239941, .iload 1, .iaload, .goto 21]),
  (20, [.sipush (-1), .goto 21]),
  (21, [.ireturn])]
/-- BanksDealt.isRow(I)Z -/
def P_45 : bk_P := [(0, [.iload 1, .ifCond .lt 19, .iload 1, .aload 0, .getfield 44737, .getfield 321, .if_icmp .ge 19, .sipush 1, .goto 20]),
  (19, [.sipush 0, .goto 20]),
  (20, [.freturn])]
/-- BanksDealt.side(II)I -/
def P_46 : bk_P := [(0, [.iload 1, .invokestatic 527301, .ifCond .ne 9, .sipush (-1), .ireturn]),
  (9, [.iload 2, .tableswitch 92 0 3 #[40, 50, 66, 82]]),
  (40, [.aload 0, .getfield 44737, .getfield 305487, .iload 1, .iaload, .ireturn]),
  (50, [.aload 0, .getfield 44737, .aload 0, .getfield 44737, .getfield 239941, .iload 1, .invokestatic 1772557, .ireturn]),
  (66, [.aload 0, .getfield 44737, .aload 0, .getfield 44737, .getfield 239941, .iload 1, .invokestatic 1772621, .ireturn]),
  (82, [.aload 0, .getfield 44737, .getfield 313680, .iload 1, .iaload, .ireturn]),
  (92, [.sipush (-1), .ireturn])]
/-- BanksDealt.isSide(I)Z -/
def P_47 : bk_P := [(0, [.iload 0, .ifCond .eq 9, .iload 0, .sipush 1, .if_icmp .ne 13, .goto 9]),
  (9, [.sipush 1, .goto 14]),
  (13, [.sipush 0, .goto 14]),
  (14, [.freturn])]
/-- BanksDealt$Plain.fieldsBy([II)I -/
def P_48 : bk_P := [(0, [.sipush 0, .istore 3, .sipush 0, .istore 4, .goto 5]),
  (5, [.iload 4, .aload 0, .getfield 326, .if_icmp .ge 42, .aload 1, .aload 0, .getfield 248135, .iload 4, .iaload, .invokestatic 1051209, .iload 2, .if_icmp .ne 36, .iload 3, .sipush 1, .iload 4, .ishl, .ior, .istore 3, .goto 36]),
  (36, [.iinc 4 (1), .goto 5]),
  (42, [.iload 3, .ireturn])]
/-- BanksDealt$Plain.worthBy([II)I -/
def P_49 : bk_P := [(0, [.sipush 0, .istore 3, .sipush 0, .istore 4, .goto 5]),
  (5, [.iload 4, .aload 0, .getfield 326, .if_icmp .ge 45, .aload 1, .aload 0, .getfield 248135, .iload 4, .iaload, .invokestatic 1051209, .iload 2, .if_icmp .ne 39, .iload 3, .aload 0, .getfield 256328, .iload 4, .iaload, .iadd, .istore 3, .goto 39]),
  (39, [.iinc 4 (1), .goto 5]),
  (45, [.iload 3, .ireturn])]
/-- BanksDealt.now(I)I -/
def P_50 : bk_P := [(0, [.iload 1, .tableswitch 84 0 4 #[36, 44, 60, 68, 76]]),
  (36, [.aload 0, .getfield 44737, .getfield 337, .ireturn]),
  (44, [.aload 0, .getfield 44737, .aload 0, .getfield 44737, .getfield 239941, .sipush 2, .invokestatic 1772557, .ireturn]),
  (60, [.aload 0, .getfield 44737, .invokestatic 724165, .ireturn]),
  (68, [.aload 0, .getfield 44737, .invokestatic 724229, .ireturn]),
  (76, [.aload 0, .getfield 44737, .invokestatic 724293, .ireturn]),
  (84, [.sipush (-1), .ireturn])]
/-- BanksDealt$Plain.bedHeights()I -/
def P_51 : bk_P := [(0, [.sipush 0, .istore 1, .sipush 0, .istore 2, .goto 4]),
  (4, [.iload 2, .aload 0, .getfield 321, .if_icmp .ge 37, .iload 1, .aload 0, .getfield 231748, .sipush 6, .iload 2, .imul, .aload 0, .getfield 239941, .iload 2, .iaload, .iadd, .iaload, .iadd, .istore 1, .iinc 2 (1), .goto 4]),
  (37, [.iload 1, .ireturn])]
/-- BanksDealt$Plain.bends()I -/
def P_52 : bk_P := [(0, [.sipush 0, .istore 1, .sipush 1, .istore 2, .goto 4]),
  (4, [.iload 2, .aload 0, .getfield 321, .if_icmp .ge 38, .aload 0, .getfield 239941, .iload 2, .iaload, .aload 0, .getfield 239941, .iload 2, .sipush 1, .isub, .iaload, .if_icmp .eq 32, .iinc 1 (1), .goto 32]),
  (32, [.iinc 2 (1), .goto 4]),
  (38, [.iload 1, .ireturn])]
/-- BanksDealt$Plain.changes()I -/
def P_53 : bk_P := [(0, [.sipush 0, .istore 1, .sipush 0, .istore 2, .goto 4]),
  (4, [.iload 2, .aload 0, .getfield 326, .if_icmp .ge 27, .iload 1, .aload 0, .getfield 264521, .iload 2, .iaload, .iadd, .istore 1, .iinc 2 (1), .goto 4]),
  (27, [.iload 1, .ireturn])]
/-- BanksDealt.dig(III)I -/
def P_54 : bk_P := [(0, [.aload 0, .iload 1, .iload 2, .iload 3, .sipush (-1), .invokestatic 3018197, .ireturn])]
/-- BanksDealt.workBy(IIII)I -/
def P_55 : bk_P := [(0, [.aload 0, .getfield 44737, .iload 2, .iload 3, .invokestatic 1770765, .istore 5, .iload 1, .invokestatic 527301, .ifCond .eq 24, .iload 5, .sipush (-1), .if_icmp .ne 26, .goto 24]),
  (24, [.sipush (-1), .ireturn]),
  (26, [.aload 0, .getfield 44737, .iload 1, .iload 5, .iload 4, .invokestatic 2297361, .istore 6, .iload 6, .ifCond .ne 68, .aload 0, .getfield 27340, .aload 0, .getfield 44737, .invokestatic 1183304, .aload 0, .getfield 44737, .iload 1, .iload 5, .iload 4, .invokestatic 2297552, .goto 68]),
  (68, [.iload 6, .ireturn])]
/-- BanksDealt$Plain.whyNoWork(III)I -/
def P_56 : bk_P := [(0, [.aload 0, .getfield 305487, .iload 1, .iaload, .sipush 1, .if_icmp .ge 12, .sipush 1, .ireturn]),
  (12, [.aload 0, .getfield 239941, .iload 2, .invokestatic 1051209, .sipush 1, .iload 1, .isub, .if_icmp .ne 28, .sipush 2, .ireturn]),
  (28, [.aload 0, .getfield 231748, .iload 2, .iaload, .iload 3, .iadd, .istore 4, .iload 4, .ifCond .lt 50, .iload 4, .sipush 9, .if_icmp .le 54, .goto 50]),
  (50, [.sipush 3, .goto 55]),
  (54, [.sipush 0, .goto 55]),
  (55, [.ireturn])]
/-- BanksDealt$History.keep(LBanksDealt$Plain;)V -/
def P_57 : bk_P := [(0, [.aload 0, .getfield 223426, .aload 0, .getfield 193, .aaload, .aload 1, .invokestatic 1248904, .aload 0, .aload 0, .getfield 193, .sipush 1, .iadd, .sipush 8, .irem, .putfield 193, .aload 0, .sipush 8, .aload 0, .getfield 192, .sipush 1, .iadd, .invokevirtual 1, .putfield 192, .return_])]
/-- BanksDealt$Plain.copyOf(LBanksDealt$Plain;)V -/
def P_58 : bk_P := [(0, [.aload 0, .aload 1, .getfield 320, .putfield 320, .aload 0, .aload 1, .getfield 321, .putfield 321, .aload 0, .aload 1, .getfield 322, .putfield 322, .aload 0, .aload 1, .getfield 323, .putfield 323, .aload 0, .aload 1, .getfield 326, .putfield 326, .aload 0, .aload 1, .getfield 331, .putfield 331, .aload 0, .aload 1, .getfield 337, .putfield 337, .aload 1, .getfield 231748, .sipush 0, .aload 0, .getfield 231748, .sipush 0, .sipush 36, .invokevirtual 0, .aload 1, .getfield 239941, .sipush 0, .aload 0, .getfield 239941, .sipush 0, .sipush 6, .invokevirtual 0, .aload 1, .getfield 248135, .sipush 0, .aload 0, .getfield 248135, .sipush 0, .sipush 10, .invokevirtual 0, .aload 1, .getfield 256328, .sipush 0, .aload 0, .getfield 256328, .sipush 0, .sipush 10, .invokevirtual 0, .aload 1, .getfield 264521, .sipush 0, .aload 0, .getfield 264521, .sipush 0, .sipush 10, .invokevirtual 0, .aload 1, .getfield 272714, .sipush 0, .aload 0, .getfield 272714, .sipush 0, .sipush 10, .invokevirtual 0, .aload 1, .getfield 280908, .sipush 0, .aload 0, .getfield 280908, .sipush 0, .sipush 3, .invokevirtual 0, .aload 1, .getfield 289101, .sipush 0, .aload 0, .getfield 289101, .sipush 0, .sipush 3, .invokevirtual 0, .aload 1, .getfield 297294, .sipush 0, .aload 0, .getfield 297294, .sipush 0, .sipush 3, .invokevirtual 0, .aload 1, .getfield 305487, .sipush 0, .aload 0, .getfield 305487, .sipush 0, .sipush 2, .invokevirtual 0, .aload 1, .getfield 313680, .sipush 0, .aload 0, .getfield 313680, .sipush 0, .sipush 2, .invokevirtual 0, .aload 1, .getfield 321874, .sipush 0, .aload 0, .getfield 321874, .sipush 0, .sipush 48, .invokevirtual 0, .return_])]
/-- BanksDealt$Plain.work(III)V -/
def P_59 : bk_P := [(0, [.aload 0, .getfield 231748, .iload 2, .dup2, .iaload, .iload 3, .iadd, .iastore, .aload 0, .getfield 305487, .iload 1, .dup2, .iaload, .sipush 1, .isub, .iastore, .aload 0, .getfield 313680, .iload 1, .dup2, .iaload, .sipush 1, .iadd, .iastore, .return_])]
/-- BanksDealt.lay(III)I -/
def P_60 : bk_P := [(0, [.aload 0, .iload 1, .iload 2, .iload 3, .sipush 1, .invokestatic 3018197, .ireturn])]
/-- BanksDealt.roll(III)I -/
def P_61 : bk_P := [(0, [.aload 0, .getfield 44737, .iload 2, .iload 3, .invokestatic 1770765, .istore 4, .iload 1, .ifCond .lt 32, .iload 1, .aload 0, .getfield 44737, .getfield 331, .if_icmp .ge 32, .iload 4, .sipush (-1), .if_icmp .ne 34, .goto 32]),
  (32, [.sipush (-1), .ireturn]),
  (34, [.aload 0, .getfield 44737, .iload 1, .iload 4, .invokestatic 1773453, .istore 5, .iload 5, .ifCond .ne 72, .aload 0, .getfield 27340, .aload 0, .getfield 44737, .invokestatic 1183304, .aload 0, .getfield 44737, .iload 1, .iload 4, .invokestatic 1773516, .goto 72]),
  (72, [.iload 5, .ireturn])]
/-- BanksDealt$Plain.whyNoRoll(II)I -/
def P_62 : bk_P := [(0, [.aload 0, .getfield 280908, .iload 1, .iaload, .sipush 6, .irem, .iload 2, .sipush 6, .irem, .isub, .invokevirtual 3, .istore 3, .aload 0, .getfield 280908, .iload 1, .iaload, .sipush 6, .idiv, .iload 2, .sipush 6, .idiv, .isub, .invokevirtual 3, .istore 4, .iload 3, .iload 4, .iadd, .sipush 1, .if_icmp .eq 47, .sipush 1, .ireturn]),
  (47, [.aload 0, .getfield 239941, .aload 0, .getfield 280908, .iload 1, .iaload, .invokestatic 1051209, .sipush 2, .if_icmp .ne 68, .sipush 2, .goto 69]),
  (68, [.sipush 0, .goto 69]),
  (69, [.ireturn])]
/-- BanksDealt$Plain.rollTo(II)V -/
def P_63 : bk_P := [(0, [.aload 0, .getfield 280908, .iload 1, .iload 2, .iastore, .aload 0, .getfield 289101, .iload 1, .dup2, .iaload, .sipush 1, .iadd, .iastore, .return_])]
/-- BanksDealt.spring(I)I -/
def P_64 : bk_P := [(0, [.aload 0, .getfield 44737, .getfield 337, .sipush 400, .if_icmp .lt 15, .sipush (-1), .ireturn]),
  (15, [.aload 0, .getfield 27340, .aload 0, .getfield 44737, .invokestatic 1183304, .aload 0, .getfield 68292, .iload 1, .putfield 515, .aload 0, .getfield 68292, .aload 0, .getfield 44737, .invokestatic 1347657, .ireturn])]
/-- BanksDealt$River.flood(LBanksDealt$Plain;)I -/
def P_65 : bk_P := [(0, [.sipush 0, .istore 2, .goto 2]),
  (2, [.iload 2, .aload 1, .getfield 321, .if_icmp .ge 65, .sipush 0, .istore 3, .goto 12]),
  (12, [.iload 3, .aload 1, .getfield 320, .if_icmp .ge 59, .sipush 6, .iload 2, .imul, .iload 3, .iadd, .istore 4, .aload 0, .getfield 371200, .iload 4, .aload 1, .getfield 231748, .iload 4, .iaload, .aload 0, .aload 1, .getfield 323, .sipush 1, .iadd, .invokestatic 1347721, .iadd, .iastore, .iinc 3 (1), .goto 12]),
  (59, [.iinc 2 (1), .goto 2]),
  (65, [.aload 0, .aload 1, .invokestatic 1345736, .aload 1, .aload 0, .getfield 379393, .invokestatic 1249481, .istore 2, .aload 1, .invokestatic 725252, .iload 2, .ireturn])]
/-- BanksDealt$River.draw(I)I -/
def P_66 : bk_P := [(0, [.aload 0, .aload 0, .getfield 515, .sipush 1103515245, .dmul, .sipush 12345, .dadd, .putfield 515, .iload 1, .sipush 1, .if_icmp .ge 24, .sipush 0, .goto 33]),
  (24, [.aload 0, .getfield 515, .sipush 8, .iushr, .iload 1, .irem, .goto 33]),
  (33, [.ireturn])]
/-- BanksDealt$Plain.takeBed([I)I -/
def P_67 : bk_P := [(0, [.sipush 0, .istore 2, .sipush 0, .istore 3, .goto 4]),
  (4, [.iload 3, .aload 0, .getfield 326, .if_icmp .ge 57, .aload 1, .aload 0, .getfield 248135, .iload 3, .iaload, .invokestatic 1051209, .aload 0, .getfield 239941, .aload 0, .getfield 248135, .iload 3, .iaload, .invokestatic 1051209, .if_icmp .eq 51, .aload 0, .getfield 264521, .iload 3, .dup2, .iaload, .sipush 1, .iadd, .iastore, .iinc 2 (1), .goto 51]),
  (51, [.iinc 3 (1), .goto 4]),
  (57, [.aload 0, .getfield 239941, .sipush 0, .aload 0, .getfield 321874, .aload 0, .getfield 337, .sipush 8, .irem, .sipush 6, .imul, .sipush 6, .invokevirtual 0, .aload 1, .sipush 0, .aload 0, .getfield 239941, .sipush 0, .sipush 6, .invokevirtual 0, .aload 0, .dup, .getfield 337, .sipush 1, .iadd, .putfield 337, .iload 2, .ireturn])]
/-- BanksDealt$Plain.earn()V -/
def P_68 : bk_P := [(0, [.sipush 0, .istore 1, .goto 2]),
  (2, [.iload 1, .sipush 1, .if_icmp .gt 81, .aload 0, .aload 0, .getfield 239941, .iload 1, .invokestatic 1772621, .sipush 4, .idiv, .istore 2, .sipush 0, .istore 3, .goto 21]),
  (21, [.iload 3, .aload 0, .getfield 331, .if_icmp .ge 55, .aload 0, .getfield 239941, .aload 0, .getfield 280908, .iload 3, .iaload, .invokestatic 1051209, .iload 1, .if_icmp .ne 49, .iinc 2 (2), .goto 49]),
  (49, [.iinc 3 (1), .goto 21]),
  (55, [.aload 0, .getfield 305487, .iload 1, .sipush 999, .aload 0, .getfield 305487, .iload 1, .iaload, .iload 2, .iadd, .invokevirtual 1, .iastore, .iinc 1 (1), .goto 2]),
  (81, [.return_])]
/-- BanksDealt.years(II)I -/
def P_69 : bk_P := [(0, [.iload 1, .sipush 1, .if_icmp .lt 11, .iload 1, .sipush 30, .if_icmp .le 13, .goto 11]),
  (11, [.sipush (-1), .ireturn]),
  (13, [.aload 0, .getfield 44737, .getfield 337, .sipush 400, .if_icmp .lt 28, .sipush 0, .ireturn]),
  (28, [.aload 0, .getfield 27340, .aload 0, .getfield 44737, .invokestatic 1183304, .aload 0, .getfield 68292, .iload 2, .putfield 515, .aload 0, .getfield 68292, .aload 0, .getfield 44737, .iload 1, .invokestatic 1872269, .ireturn])]
/-- BanksDealt$River.floods(LBanksDealt$Plain;I)I -/
def P_70 : bk_P := [(0, [.sipush 0, .istore 3, .sipush 0, .istore 4, .goto 5]),
  (5, [.iload 4, .iload 2, .if_icmp .ge 36, .aload 1, .getfield 337, .sipush 400, .if_icmp .ge 36, .aload 0, .aload 1, .invokestatic 1347657, .pop, .iinc 3 (1), .iinc 4 (1), .goto 5]),
  (36, [.iload 3, .ireturn])]
/-- BanksDealt.undo()I -/
def P_71 : bk_P := [(0, [.aload 0, .getfield 27340, .getfield 192, .ifCond .ne 12, .sipush (-1), .ireturn]),
  (12, [.aload 0, .getfield 27340, .aload 0, .getfield 44737, .invokestatic 1184264, .aload 0, .getfield 27340, .getfield 192, .ireturn])]
/-- BanksDealt$History.takeBack(LBanksDealt$Plain;)V -/
def P_72 : bk_P := [(0, [.aload 0, .getfield 192, .ifCond .le 46, .aload 0, .aload 0, .getfield 193, .sipush 8, .iadd, .sipush 1, .isub, .sipush 8, .irem, .putfield 193, .aload 0, .dup, .getfield 192, .sipush 1, .isub, .putfield 192, .aload 1, .aload 0, .getfield 223426, .aload 0, .getfield 193, .aaload, .invokestatic 1248904, .goto 46]),
  (46, [.return_])]
/-- BanksDealt.would()I -/
def P_73 : bk_P := [(0, [.aload 0, .getfield 68292, .aload 0, .getfield 44737, .invokestatic 1345608, .aload 0, .getfield 68292, .getfield 514, .ireturn])]
/-- BanksDealt.wouldAt(I)I -/
def P_74 : bk_P := [(0, [.aload 0, .iload 1, .invokestatic 1444681, .ifCond .ne 10, .sipush (-1), .ireturn]),
  (10, [.aload 0, .getfield 68292, .aload 0, .getfield 44737, .invokestatic 1345608, .aload 0, .getfield 68292, .getfield 379393, .iload 1, .iaload, .ireturn])]
/-- BanksDealt.wouldBe(I)I -/
def P_75 : bk_P := [(0, [.iload 1, .ifCond .lt 9, .iload 1, .sipush 2, .if_icmp .le 11, .goto 9]),
  (9, [.sipush (-1), .ireturn]),
  (11, [.aload 0, .getfield 68292, .aload 0, .getfield 44737, .invokestatic 1345608, .aload 0, .getfield 44737, .aload 0, .getfield 68292, .getfield 379393, .iload 1, .invokestatic 1772557, .ireturn])]
/-- BanksDealt.tempted(III)I -/
def P_76 : bk_P := [(0, [.aload 0, .iload 1, .invokestatic 1446729, .ifCond .eq 24, .iload 2, .invokestatic 527301, .ifCond .eq 24, .iload 3, .ifCond .lt 24, .iload 3, .sipush 1, .if_icmp .le 26, .goto 24]),
  (24, [.sipush (-1), .ireturn]),
  (26, [.aload 0, .getfield 60105, .aload 0, .getfield 44737, .iload 1, .iload 2, .iload 3, .sipush 1, .if_icmp .ne 45, .sipush 1, .goto 46]),
  (45, [.sipush (-1), .goto 46]),
  (46, [.invokestatic 2888597, .ireturn])]
/-- BanksDealt.isField(I)Z -/
def P_77 : bk_P := [(0, [.iload 1, .ifCond .lt 19, .iload 1, .aload 0, .getfield 44737, .getfield 326, .if_icmp .ge 19, .sipush 1, .goto 20]),
  (19, [.sipush 0, .goto 20]),
  (20, [.freturn])]
/-- BanksDealt$Plans.tempt(LBanksDealt$Plain;III)I -/
def P_78 : bk_P := [(0, [.aload 0, .getfield 1116614, .aload 1, .invokestatic 1345672, .aload 0, .iload 2, .putfield 458, .aload 0, .iload 3, .putfield 459, .aload 0, .aload 1, .iload 3, .iload 4, .sipush (-1), .if_icmp .ne 31, .sipush 0, .goto 33]),
  (31, [.sipush 36, .goto 33]),
  (33, [.iload 4, .sipush (-1), .if_icmp .ne 44, .sipush 36, .goto 46]),
  (44, [.sipush 72, .goto 46]),
  (46, [.invokestatic 2888660, .sipush 0, .istore 5, .goto 52]),
  (52, [.iload 5, .aload 0, .getfield 362953, .arraylength, .if_icmp .gt 122, .aload 0, .aload 1, .sipush 0, .iload 5, .sipush 0, .invokestatic 2888789, .ifCond .eq 116, .sipush 0, .istore 6, .goto 77]),
  (77, [.iload 6, .iload 5, .if_icmp .ge 107, .aload 0, .getfield 330176, .iload 6, .aload 0, .getfield 362953, .iload 6, .iaload, .sipush 36, .irem, .iastore, .iinc 6 (1), .goto 77]),
  (107, [.aload 0, .iload 5, .putfield 449, .iload 5, .ireturn]),
  (116, [.iinc 5 (1), .goto 52]),
  (122, [.sipush (-1), .ireturn])]
/-- BanksDealt$Plans.listWorks(LBanksDealt$Plain;III)V -/
def P_79 : bk_P := [(0, [.aload 0, .sipush 0, .putfield 456, .iload 3, .istore 5, .goto 8]),
  (8, [.iload 5, .iload 4, .if_icmp .ge 65, .aload 0, .getfield 456, .aload 0, .getfield 354759, .arraylength, .if_icmp .ge 65, .aload 0, .aload 1, .iload 2, .iload 5, .invokestatic 2364433, .ifCond .eq 59, .aload 0, .getfield 354759, .aload 0, .getfield 456, .iload 5, .iastore, .aload 0, .dup, .getfield 456, .sipush 1, .iadd, .putfield 456, .goto 59]),
  (59, [.iinc 5 (1), .goto 8]),
  (65, [.return_])]
/-- BanksDealt$Plans.may(LBanksDealt$Plain;II)Z -/
def P_80 : bk_P := [(0, [.iload 3, .sipush 36, .irem, .istore 4, .iload 4, .sipush 6, .irem, .istore 5, .iload 4, .sipush 6, .idiv, .istore 6, .iload 6, .sipush 1, .if_icmp .lt 59, .iload 6, .aload 1, .getfield 321, .if_icmp .ge 59, .iload 5, .aload 1, .getfield 320, .if_icmp .ge 59, .iload 5, .aload 1, .getfield 322, .isub, .invokevirtual 3, .iload 6, .if_icmp .le 61, .goto 59]),
  (59, [.sipush 0, .freturn]),
  (61, [.aload 1, .getfield 239941, .iload 4, .invokestatic 1051209, .sipush 1, .iload 2, .isub, .if_icmp .ne 78, .sipush 0, .freturn]),
  (78, [.iload 3, .sipush 36, .if_icmp .ge 105, .aload 0, .getfield 1116614, .getfield 371200, .iload 4, .iaload, .ifCond .le 101, .sipush 1, .goto 125]),
  (101, [.sipush 0, .goto 125]),
  (105, [.aload 0, .getfield 1116614, .getfield 371200, .iload 4, .iaload, .sipush 9, .if_icmp .ge 124, .sipush 1, .goto 125]),
  (124, [.sipush 0, .goto 125]),
  (125, [.freturn])]
/-- BanksDealt$Plans.tempts(LBanksDealt$Plain;III)Z -/
def P_81 : bk_P := [(0, [.iload 2, .iload 3, .if_icmp .ge 14, .iload 2, .aload 0, .getfield 362953, .arraylength, .if_icmp .lt 54, .goto 14]),
  (14, [.aload 0, .getfield 1116614, .aload 1, .invokestatic 1345736, .aload 0, .getfield 1116614, .getfield 379393, .aload 1, .getfield 248135, .aload 0, .getfield 458, .iaload, .invokestatic 1051209, .aload 0, .getfield 459, .if_icmp .ne 52, .sipush 1, .goto 53]),
  (52, [.sipush 0, .goto 53]),
  (53, [.freturn]),
  (54, [.iload 4, .istore 5, .goto 58]),
  (58, [.iload 5, .aload 0, .getfield 456, .if_icmp .ge 130, .aload 0, .getfield 362953, .iload 2, .aload 0, .getfield 354759, .iload 5, .iaload, .iastore, .aload 0, .aload 0, .getfield 354759, .iload 5, .iaload, .invokestatic 1315976, .aload 0, .aload 1, .iload 2, .sipush 1, .iadd, .iload 3, .iload 5, .sipush 1, .iadd, .invokestatic 2888789, .istore 6, .aload 0, .aload 0, .getfield 354759, .iload 5, .iaload, .invokestatic 1316040, .iload 6, .ifCond .eq 124, .sipush 1, .freturn]),
  (124, [.iinc 5 (1), .goto 58]),
  (130, [.sipush 0, .freturn])]
/-- BanksDealt$Plans.apply(I)V -/
def P_82 : bk_P := [(0, [.aload 0, .getfield 1116614, .getfield 371200, .iload 1, .sipush 36, .irem, .dup2, .iaload, .iload 1, .sipush 36, .if_icmp .ge 23, .sipush (-1), .goto 24]),
  (23, [.sipush 1, .goto 24]),
  (24, [.iadd, .iastore, .return_])]
/-- BanksDealt$Plans.takeBack(I)V -/
def P_83 : bk_P := [(0, [.aload 0, .getfield 1116614, .getfield 371200, .iload 1, .sipush 36, .irem, .dup2, .iaload, .iload 1, .sipush 36, .if_icmp .ge 23, .sipush (-1), .goto 24]),
  (23, [.sipush 1, .goto 24]),
  (24, [.isub, .iastore, .return_])]
/-- BanksDealt.temptedAt(I)I -/
def P_84 : bk_P := [(0, [.iload 1, .ifCond .lt 27, .iload 1, .aload 0, .getfield 60105, .getfield 449, .if_icmp .ge 27, .aload 0, .getfield 60105, .getfield 330176, .iload 1, .iaload, .goto 28]),
  (27, [.sipush (-1), .goto 28]),
  (28, [.ireturn])]
/-- BanksDealt.duelAt(I)I -/
def P_85 : bk_P := [(0, [.aload 0, .getfield 60105, .getfield 4547, .ifCond .eq 31, .iload 1, .ifCond .lt 31, .iload 1, .sipush 2, .if_icmp .ge 31, .aload 0, .getfield 60105, .getfield 338370, .iload 1, .iaload, .goto 32]),
  (31, [.sipush (-1), .goto 32]),
  (32, [.ireturn])]
/-- BanksDealt.pushed(II)I -/
def P_86 : bk_P := [(0, [.iload 1, .invokestatic 527301, .ifCond .eq 16, .iload 2, .ifCond .lt 16, .iload 2, .sipush 2, .if_icmp .le 18, .goto 16]),
  (16, [.sipush (-1), .ireturn]),
  (18, [.aload 0, .getfield 60105, .aload 0, .getfield 44737, .iload 1, .iload 2, .invokestatic 2364881, .ireturn])]
/-- BanksDealt$Plans.push(LBanksDealt$Plain;II)I -/
def P_87 : bk_P := [(0, [.aload 0, .getfield 1116614, .aload 1, .invokestatic 1345672, .aload 0, .aload 1, .iload 2, .sipush 0, .sipush 72, .invokestatic 2888660, .aload 0, .sipush 0, .putfield 453, .aload 0, .getfield 1116614, .aload 1, .invokestatic 1345736, .aload 0, .aload 1, .aload 0, .getfield 1116614, .getfield 379393, .iload 2, .invokestatic 1772621, .putfield 461, .sipush 0, .istore 4, .goto 49]),
  (49, [.iload 4, .aload 0, .getfield 456, .if_icmp .ge 106, .iload 3, .sipush 1, .if_icmp .lt 106, .aload 0, .aload 0, .getfield 354759, .iload 4, .iaload, .invokestatic 1315976, .aload 0, .aload 1, .iload 2, .aload 0, .getfield 354759, .iload 4, .iaload, .sipush (-2), .invokestatic 2889236, .aload 0, .aload 0, .getfield 354759, .iload 4, .iaload, .invokestatic 1316040, .iinc 4 (1), .goto 49]),
  (106, [.sipush 0, .istore 4, .goto 109]),
  (109, [.iload 4, .aload 0, .getfield 456, .if_icmp .ge 234, .iload 3, .sipush 2, .if_icmp .lt 234, .aload 0, .aload 0, .getfield 354759, .iload 4, .iaload, .invokestatic 1315976, .iload 4, .sipush 1, .iadd, .istore 5, .goto 140]),
  (140, [.iload 5, .aload 0, .getfield 456, .if_icmp .ge 217, .aload 0, .getfield 354759, .iload 5, .iaload, .aload 0, .getfield 354759, .iload 4, .iaload, .sipush 36, .iadd, .if_icmp .eq 211, .aload 0, .aload 0, .getfield 354759, .iload 5, .iaload, .invokestatic 1315976, .aload 0, .aload 1, .iload 2, .aload 0, .getfield 354759, .iload 4, .iaload, .aload 0, .getfield 354759, .iload 5, .iaload, .invokestatic 2889236, .aload 0, .aload 0, .getfield 354759, .iload 5, .iaload, .invokestatic 1316040, .goto 211]),
  (211, [.iinc 5 (1), .goto 140]),
  (217, [.aload 0, .aload 0, .getfield 354759, .iload 4, .iaload, .invokestatic 1316040, .iinc 4 (1), .goto 109]),
  (234, [.aload 0, .getfield 461, .ireturn])]
/-- BanksDealt$Plans.weigh(LBanksDealt$Plain;III)V -/
def P_88 : bk_P := [(0, [.aload 0, .getfield 1116614, .aload 1, .invokestatic 1345736, .aload 1, .aload 0, .getfield 1116614, .getfield 379393, .iload 2, .invokestatic 1772621, .istore 5, .iload 5, .aload 0, .getfield 461, .if_icmp .le 68, .aload 0, .iload 5, .putfield 461, .aload 0, .getfield 346564, .sipush 0, .iload 3, .iastore, .aload 0, .getfield 346564, .sipush 1, .iload 4, .iastore, .aload 0, .iload 4, .sipush (-2), .if_icmp .ne 64, .sipush 1, .goto 65]),
  (64, [.sipush 2, .goto 65]),
  (65, [.putfield 453, .goto 68]),
  (68, [.return_])]
/-- BanksDealt.pushedAt(I)I -/
def P_89 : bk_P := [(0, [.iload 1, .ifCond .lt 27, .iload 1, .aload 0, .getfield 60105, .getfield 453, .if_icmp .ge 27, .aload 0, .getfield 60105, .getfield 346564, .iload 1, .iaload, .goto 28]),
  (27, [.sipush (-1), .goto 28]),
  (28, [.ireturn])]
/-- BanksDealt.ago(II)I -/
def P_90 : bk_P := [(0, [.iload 1, .sipush 1, .if_icmp .lt 30, .iload 1, .sipush 8, .if_icmp .gt 30, .iload 1, .aload 0, .getfield 44737, .getfield 337, .if_icmp .gt 30, .aload 0, .iload 2, .invokestatic 1444681, .ifCond .ne 32, .goto 30]),
  (30, [.sipush (-1), .ireturn]),
  (32, [.aload 0, .getfield 44737, .getfield 321874, .aload 0, .getfield 44737, .getfield 337, .iload 1, .isub, .sipush 8, .irem, .sipush 6, .imul, .iload 2, .iadd, .iaload, .ireturn])]
/-- BanksDealt.shares(IIII)I -/
def P_91 : bk_P := [(0, [.iload 1, .invokestatic 527301, .ifCond .eq 15, .iload 2, .iload 3, .invokestatic 1054473, .ifCond .ne 17, .goto 15]),
  (15, [.sipush (-1), .ireturn]),
  (17, [.sipush 0, .istore 5, .sipush 0, .istore 6, .goto 23]),
  (23, [.iload 6, .iload 3, .if_icmp .ge 109, .aload 0, .getfield 2140867, .aload 0, .getfield 44737, .invokestatic 1248904, .aload 0, .getfield 68292, .iload 4, .iload 6, .dadd, .putfield 515, .sipush 0, .istore 7, .goto 55]),
  (55, [.iload 7, .iload 2, .if_icmp .ge 103, .aload 0, .getfield 68292, .aload 0, .getfield 2140867, .sipush 1, .invokestatic 1872269, .sipush 1, .if_icmp .ne 103, .iload 5, .aload 0, .getfield 2140867, .aload 0, .getfield 2140867, .getfield 239941, .iload 1, .invokestatic 1772621, .dadd, .istore 5, .iinc 7 (1), .goto 55]),
  (103, [.iinc 6 (1), .goto 23]),
  (109, [.iload 5, .ireturn])]
/-- BanksDealt.areTrials(II)Z -/
def P_92 : bk_P := [(0, [.iload 0, .sipush 1, .if_icmp .lt 26, .iload 0, .sipush 10, .if_icmp .gt 26, .iload 1, .sipush 1, .if_icmp .lt 26, .iload 1, .sipush 30, .if_icmp .gt 26, .sipush 1, .goto 27]),
  (26, [.sipush 0, .goto 27]),
  (27, [.freturn])]
/-- BanksDealt.ran()I -/
def P_93 : bk_P := [(0, [.aload 0, .getfield 10954, .aload 0, .getfield 84672, .aload 0, .getfield 44737, .invokestatic 1644429, .istore 1, .aload 0, .getfield 84672, .sipush 0, .putfield 641, .iload 1, .ireturn])]
/-- BanksDealt$Bygone.findBeds(LBanksDealt$Tape;LBanksDealt$Plain;)I -/
def P_94 : bk_P := [(0, [.aload 0, .aload 1, .aload 2, .invokestatic 1644493, .ifCond .ne 11, .sipush (-1), .ireturn]),
  (11, [.aload 0, .aload 2, .invokestatic 1120265, .istore 3, .iload 3, .ifCond .le 39, .aload 0, .aload 2, .getfield 321, .putfield 66, .aload 0, .aload 2, .invokestatic 1120392, .aload 0, .aload 2, .invokestatic 1120456, .goto 39]),
  (39, [.iload 3, .ireturn])]
/-- BanksDealt$Bygone.readPairs(LBanksDealt$Tape;LBanksDealt$Plain;)Z -/
def P_95 : bk_P := [(0, [.aload 1, .getfield 641, .sipush 2, .if_icmp .lt 26, .aload 1, .getfield 641, .sipush 20, .if_icmp .gt 26, .aload 1, .getfield 641, .sipush 2, .irem, .ifCond .eq 28, .goto 26]),
  (26, [.sipush 0, .freturn]),
  (28, [.sipush 0, .istore 3, .goto 30]),
  (30, [.iload 3, .sipush 6, .if_icmp .ge 61, .aload 0, .getfield 182339, .iload 3, .sipush 0, .iastore, .aload 0, .getfield 190532, .iload 3, .aload 2, .getfield 320, .sipush 1, .isub, .iastore, .iinc 3 (1), .goto 30]),
  (61, [.sipush 0, .istore 3, .goto 63]),
  (63, [.iload 3, .sipush 1, .iadd, .aload 1, .getfield 641, .if_icmp .ge 212, .aload 1, .getfield 436864, .iload 3, .iaload, .istore 4, .aload 1, .getfield 436864, .iload 3, .sipush 1, .iadd, .iaload, .istore 5, .iload 4, .aload 2, .getfield 326, .if_icmp .ge 106, .iload 5, .sipush 2, .if_icmp .le 108, .goto 106]),
  (106, [.sipush 0, .freturn]),
  (108, [.aload 2, .getfield 248135, .iload 4, .iaload, .sipush 6, .irem, .istore 6, .aload 2, .getfield 248135, .iload 4, .iaload, .sipush 6, .idiv, .istore 7, .iload 5, .sipush 1, .if_icmp .eq 169, .aload 0, .getfield 182339, .iload 7, .aload 0, .getfield 182339, .iload 7, .iaload, .iload 5, .ifCond .ne 163, .iload 6, .sipush 1, .iadd, .goto 165]),
  (163, [.iload 6, .goto 165]),
  (165, [.invokevirtual 2, .iastore, .goto 169]),
  (169, [.iload 5, .ifCond .eq 206, .aload 0, .getfield 190532, .iload 7, .aload 0, .getfield 190532, .iload 7, .iaload, .iload 5, .sipush 1, .if_icmp .ne 200, .iload 6, .sipush 1, .isub, .goto 202]),
  (200, [.iload 6, .goto 202]),
  (202, [.invokevirtual 1, .iastore, .goto 206]),
  (206, [.iinc 3 (2), .goto 63]),
  (212, [.sipush 1, .freturn])]
/-- BanksDealt$Bygone.countBeds(LBanksDealt$Plain;)I -/
def P_96 : bk_P := [(0, [.sipush 0, .istore 2, .aload 1, .getfield 321, .sipush 1, .isub, .istore 3, .goto 9]),
  (9, [.iload 3, .ifCond .lt 99, .sipush 0, .istore 2, .sipush 0, .istore 4, .goto 18]),
  (18, [.iload 4, .aload 1, .getfield 320, .if_icmp .ge 93, .sipush 6, .iload 3, .imul, .iload 4, .iadd, .istore 5, .aload 0, .getfield 198725, .iload 5, .iload 4, .aload 0, .getfield 182339, .iload 3, .iaload, .if_icmp .lt 64, .iload 4, .aload 0, .getfield 190532, .iload 3, .iaload, .if_icmp .le 68, .goto 64]),
  (64, [.sipush 0, .goto 76]),
  (68, [.aload 0, .aload 1, .iload 4, .iload 3, .invokestatic 2168913, .goto 76]),
  (76, [.iastore, .iload 2, .aload 0, .getfield 198725, .iload 5, .iaload, .iadd, .istore 2, .iinc 4 (1), .goto 18]),
  (93, [.iinc 3 (-1), .goto 9]),
  (99, [.iload 2, .ireturn])]
/-- BanksDealt$Bygone.waysOn(LBanksDealt$Plain;II)I -/
def P_97 : bk_P := [(0, [.iload 3, .aload 1, .getfield 321, .sipush 1, .isub, .if_icmp .ne 12, .sipush 1, .ireturn]),
  (12, [.sipush 0, .istore 4, .sipush 0, .iload 2, .sipush 1, .isub, .invokevirtual 2, .istore 5, .goto 24]),
  (24, [.iload 5, .iload 2, .sipush 1, .iadd, .if_icmp .gt 66, .iload 5, .aload 1, .getfield 320, .if_icmp .ge 66, .iload 4, .aload 0, .getfield 198725, .sipush 6, .iload 3, .sipush 1, .iadd, .imul, .iload 5, .iadd, .iaload, .iadd, .istore 4, .iinc 5 (1), .goto 24]),
  (66, [.iload 4, .ireturn])]
/-- BanksDealt$Bygone.keepFirst(LBanksDealt$Plain;)V -/
def P_98 : bk_P := [(0, [.sipush 0, .istore 2, .sipush 0, .istore 3, .goto 4]),
  (4, [.iload 3, .aload 1, .getfield 321, .if_icmp .ge 70, .iload 2, .istore 4, .goto 15]),
  (15, [.iload 4, .aload 1, .getfield 320, .sipush 1, .isub, .if_icmp .ge 47, .aload 0, .getfield 198725, .sipush 6, .iload 3, .imul, .iload 4, .iadd, .iaload, .ifCond .ne 47, .iinc 4 (1), .goto 15]),
  (47, [.aload 0, .getfield 165952, .iload 3, .iload 4, .iastore, .sipush 0, .iload 4, .sipush 1, .isub, .invokevirtual 2, .istore 2, .iinc 3 (1), .goto 4]),
  (70, [.return_])]
/-- BanksDealt$Bygone.keepSure(LBanksDealt$Plain;)V -/
def P_99 : bk_P := [(0, [.sipush 0, .istore 2, .goto 2]),
  (2, [.iload 2, .aload 1, .getfield 321, .if_icmp .ge 117, .sipush 0, .istore 3, .sipush 0, .istore 4, .goto 15]),
  (15, [.iload 4, .aload 1, .getfield 320, .if_icmp .ge 99, .sipush 6, .iload 2, .imul, .iload 4, .iadd, .istore 5, .aload 0, .getfield 206918, .iload 5, .aload 0, .getfield 198725, .iload 5, .iaload, .ifCond .le 70, .iload 2, .ifCond .eq 66, .aload 0, .aload 1, .iload 4, .iload 2, .sipush 1, .isub, .invokestatic 2169105, .ifCond .eq 70, .goto 66]),
  (66, [.sipush 1, .goto 71]),
  (70, [.sipush 0, .goto 71]),
  (71, [.bastore, .aload 0, .getfield 206918, .iload 5, .baload, .ifCond .eq 93, .iinc 3 (1), .aload 0, .getfield 174145, .iload 2, .iload 4, .iastore, .goto 93]),
  (93, [.iinc 4 (1), .goto 15]),
  (99, [.iload 3, .sipush 1, .if_icmp .eq 111, .aload 0, .getfield 174145, .iload 2, .sipush (-1), .iastore, .goto 111]),
  (111, [.iinc 2 (1), .goto 2]),
  (117, [.return_])]
/-- BanksDealt$Bygone.isReached(LBanksDealt$Plain;II)Z -/
def P_100 : bk_P := [(0, [.sipush 0, .iload 2, .sipush 1, .isub, .invokevirtual 2, .istore 4, .goto 9]),
  (9, [.iload 4, .iload 2, .sipush 1, .iadd, .if_icmp .gt 49, .iload 4, .aload 1, .getfield 320, .if_icmp .ge 49, .aload 0, .getfield 206918, .sipush 6, .iload 3, .imul, .iload 4, .iadd, .baload, .ifCond .eq 43, .sipush 1, .freturn]),
  (43, [.iinc 4 (1), .goto 9]),
  (49, [.sipush 0, .freturn])]
/-- BanksDealt.ranAt(I)I -/
def P_101 : bk_P := [(0, [.iload 1, .ifCond .lt 27, .iload 1, .aload 0, .getfield 10954, .getfield 66, .if_icmp .ge 27, .aload 0, .getfield 10954, .getfield 165952, .iload 1, .iaload, .goto 28]),
  (27, [.sipush (-1), .goto 28]),
  (28, [.ireturn])]
/-- BanksDealt.sure(I)I -/
def P_102 : bk_P := [(0, [.iload 1, .ifCond .lt 27, .iload 1, .aload 0, .getfield 10954, .getfield 66, .if_icmp .ge 27, .aload 0, .getfield 10954, .getfield 174145, .iload 1, .iaload, .goto 28]),
  (27, [.sipush (-1), .goto 28]),
  (28, [.ireturn])]
/-- BanksDealt.odds(IIIII)I -/
def P_103 : bk_P := [(0, [.aload 0, .iload 1, .invokestatic 1446729, .ifCond .eq 26, .iload 2, .ifCond .lt 26, .iload 2, .sipush 2, .if_icmp .gt 26, .iload 3, .iload 4, .invokestatic 1054473, .ifCond .ne 28, .goto 26]),
  (26, [.sipush (-1), .ireturn]),
  (28, [.sipush 0, .istore 6, .sipush 0, .istore 7, .goto 34]),
  (34, [.iload 7, .iload 4, .if_icmp .ge 109, .aload 0, .getfield 2140867, .aload 0, .getfield 44737, .invokestatic 1248904, .aload 0, .getfield 68292, .iload 5, .iload 7, .dadd, .putfield 515, .aload 0, .getfield 68292, .aload 0, .getfield 2140867, .iload 3, .invokestatic 1872269, .pop, .aload 0, .getfield 2140867, .getfield 239941, .aload 0, .getfield 2140867, .getfield 248135, .iload 1, .iaload, .invokestatic 1051209, .iload 2, .if_icmp .ne 103, .iinc 6 (1), .goto 103]),
  (103, [.iinc 7 (1), .goto 34]),
  (109, [.iload 6, .ireturn])]
/-- BanksDealt.richest(I)I -/
def P_104 : bk_P := [(0, [.iload 1, .invokestatic 527301, .ifCond .ne 9, .sipush (-1), .ireturn]),
  (9, [.sipush (-1), .istore 2, .sipush 0, .istore 3, .sipush 0, .istore 4, .goto 16]),
  (16, [.iload 4, .aload 0, .getfield 44737, .getfield 326, .if_icmp .ge 86, .aload 0, .getfield 44737, .getfield 256328, .iload 4, .iaload, .iload 3, .if_icmp .le 80, .aload 0, .getfield 44737, .getfield 239941, .aload 0, .getfield 44737, .getfield 248135, .iload 4, .iaload, .invokestatic 1051209, .iload 1, .if_icmp .ne 80, .iload 4, .istore 2, .aload 0, .getfield 44737, .getfield 256328, .iload 4, .iaload, .istore 3, .goto 80]),
  (80, [.iinc 4 (1), .goto 16]),
  (86, [.iload 2, .ireturn])]
/-- BanksDealt.deed(I)I -/
def P_105 : bk_P := [(0, [.aload 0, .iload 1, .invokestatic 1446729, .ifCond .ne 10, .sipush (-1), .ireturn]),
  (10, [.aload 0, .getfield 19147, .aload 0, .getfield 44737, .iload 1, .invokestatic 1677964, .aload 0, .getfield 19147, .getfield 129, .ireturn])]
/-- BanksDealt$Deed.write(LBanksDealt$Plain;I)V -/
def P_106 : bk_P := [(0, [.aload 0, .sipush 0, .putfield 129, .aload 1, .getfield 248135, .iload 2, .iaload, .istore 3, .aload 1, .getfield 239941, .iload 3, .invokestatic 1051209, .istore 4, .aload 0, .aload 1, .getfield 272714, .iload 2, .laload, .invokestatic 1678024, .aload 0, .iload 4, .ifCond .ne 43, .ldc 0, .goto 56]),
  (43, [.iload 4, .sipush 1, .if_icmp .ne 54, .ldc 1, .goto 56]),
  (54, [.ldc 2, .goto 56]),
  (56, [.invokestatic 1153864, .aload 0, .ldc 3, .invokestatic 1153864, .aload 0, .sipush 48, .iload 3, .sipush 6, .irem, .iadd, .invokestatic 1153800, .aload 0, .sipush 32, .invokestatic 1153800, .aload 0, .sipush 48, .iload 3, .sipush 6, .idiv, .iadd, .invokestatic 1153800, .return_])]
/-- BanksDealt$Deed.putName(J)V -/
def P_107 : bk_P := [(0, [.sipush 6, .istore 3, .goto 3]),
  (3, [.iload 3, .ifCond .lt 41, .lload 1, .sipush 5, .iload 3, .imul, .lshr, .bipush 31, .land, .l2i, .istore 4, .iload 4, .ifCond .le 35, .aload 0, .sipush 97, .iload 4, .iadd, .sipush 1, .isub, .invokestatic 1153800, .goto 35]),
  (35, [.iinc 3 (-1), .goto 3]),
  (41, [.return_])]
/-- BanksDealt$Deed.put(I)V -/
def P_108 : bk_P := [(0, [.aload 0, .getfield 129, .aload 0, .getfield 215168, .arraylength, .if_icmp .ge 32, .aload 0, .getfield 215168, .aload 0, .getfield 129, .iload 1, .iastore, .aload 0, .dup, .getfield 129, .sipush 1, .iadd, .putfield 129, .goto 32]),
  (32, [.return_])]
/-- BanksDealt$Deed.putText(Ljava.lang.String;)V -/
def P_109 : bk_P := [(0, [.sipush 0, .istore 2, .goto 2]),
  (2, [.iload 2, .aload 1, .invokevirtual 4, .if_icmp .ge 25, .aload 0, .aload 1, .iload 2, .invokevirtual 5, .invokestatic 1153800, .iinc 2 (1), .goto 2]),
  (25, [.return_])]
/-- BanksDealt.byteAt(I)I -/
def P_110 : bk_P := [(0, [.iload 1, .ifCond .lt 27, .iload 1, .aload 0, .getfield 19147, .getfield 129, .if_icmp .ge 27, .aload 0, .getfield 19147, .getfield 215168, .iload 1, .iaload, .goto 28]),
  (27, [.sipush (-1), .goto 28]),
  (28, [.ireturn])]
/-- BanksDealt.book(I)I -/
def P_111 : bk_P := [(0, [.iload 1, .ifCond .eq 13, .iload 1, .sipush 1, .if_icmp .eq 13, .sipush (-1000), .ireturn]),
  (13, [.aload 0, .getfield 2758, .aload 0, .getfield 84672, .aload 0, .getfield 44737, .invokestatic 1612813, .istore 2, .aload 0, .invokestatic 919492, .iload 2, .ifCond .ne 48, .sipush (-2), .aload 0, .getfield 84672, .getfield 647, .isub, .ireturn]),
  (48, [.aload 0, .getfield 2140867, .aload 0, .getfield 44737, .invokestatic 1248904, .aload 0, .getfield 2758, .aload 0, .getfield 2140867, .aload 0, .getfield 68292, .invokestatic 1613133, .istore 3, .aload 0, .getfield 461518, .sipush 0, .aload 0, .getfield 2758, .getfield 0, .iastore, .aload 0, .getfield 461518, .sipush 1, .iload 3, .iastore, .aload 0, .getfield 461518, .sipush 2, .aload 0, .getfield 2140867, .getfield 337, .iastore, .aload 0, .getfield 461518, .sipush 3, .aload 0, .getfield 2140867, .aload 0, .getfield 2140867, .getfield 239941, .sipush 0, .invokestatic 1772557, .iastore, .aload 0, .sipush 1, .putfield 4815, .iload 1, .sipush 1, .if_icmp .ne 165, .iload 3, .ifCond .le 165, .aload 0, .getfield 27340, .aload 0, .getfield 44737, .invokestatic 1183304, .aload 0, .getfield 44737, .aload 0, .getfield 2140867, .invokestatic 1248904, .goto 165]),
  (165, [.aload 0, .getfield 2758, .getfield 0, .ifCond .ne 179, .sipush (-1), .goto 180]),
  (179, [.iload 3, .goto 180]),
  (180, [.ireturn])]
/-- BanksDealt$Book.readText(LBanksDealt$Tape;LBanksDealt$Plain;)Z -/
def P_112 : bk_P := [(0, [.aload 0, .sipush 0, .putfield 1, .aload 1, .sipush 400, .invokestatic 1409416, .sipush 0, .istore 3, .goto 14]),
  (14, [.iload 3, .sipush 40, .if_icmp .gt 69, .aload 1, .getfield 642, .ifCond .ne 29, .sipush 1, .freturn]),
  (29, [.aload 0, .aload 1, .aload 2, .invokestatic 1612877, .ifCond .eq 47, .aload 1, .sipush 59, .invokestatic 1410953, .ifCond .ne 49, .goto 47]),
  (47, [.sipush 0, .freturn]),
  (49, [.aload 0, .dup, .getfield 1, .sipush 1, .iadd, .putfield 1, .aload 1, .invokestatic 885188, .iinc 3 (1), .goto 14]),
  (69, [.sipush 0, .freturn])]
/-- BanksDealt$Book.readLine(LBanksDealt$Tape;LBanksDealt$Plain;)Z -/
def P_113 : bk_P := [(0, [.aload 1, .invokestatic 886277, .ifCond .eq 25, .aload 2, .getfield 297294, .aload 2, .getfield 331, .aload 1, .getfield 1667, .invokestatic 2097869, .goto 26]),
  (25, [.sipush (-1), .goto 26]),
  (26, [.istore 3, .aload 1, .invokestatic 886277, .ifCond .eq 45, .iload 3, .sipush (-1), .if_icmp .ne 45, .aload 1, .sipush 3, .invokestatic 1410057, .freturn]),
  (45, [.iload 3, .sipush (-1), .if_icmp .ne 63, .aload 1, .invokestatic 531589, .ifCond .ne 63, .aload 1, .sipush 1, .invokestatic 1410057, .freturn]),
  (63, [.aload 0, .getfield 1, .sipush 40, .if_icmp .lt 78, .aload 1, .sipush 4, .invokestatic 1410057, .freturn]),
  (78, [.aload 0, .getfield 133122, .aload 0, .getfield 1, .aload 1, .getfield 644, .iastore, .aload 1, .sipush 12, .invokestatic 1410825, .ifCond .eq 110, .aload 0, .aload 1, .sipush 0, .sipush 999, .invokestatic 2137297, .freturn]),
  (110, [.aload 1, .sipush 13, .invokestatic 1410825, .ifCond .eq 128, .aload 0, .aload 1, .sipush 1, .sipush 30, .invokestatic 2137297, .freturn]),
  (128, [.aload 0, .getfield 141315, .aload 0, .getfield 1, .iload 3, .sipush (-1), .if_icmp .eq 145, .iload 3, .goto 159]),
  (145, [.aload 1, .getfield 644, .sipush 6, .if_icmp .ne 158, .sipush 0, .goto 159]),
  (158, [.sipush 1, .goto 159]),
  (159, [.iastore, .aload 1, .invokestatic 885188, .iload 3, .sipush (-1), .if_icmp .eq 178, .aload 1, .sipush 11, .invokestatic 1410825, .goto 201]),
  (178, [.aload 1, .sipush 9, .invokestatic 1410825, .ifCond .ne 196, .aload 1, .sipush 10, .invokestatic 1410825, .ifCond .eq 200, .goto 196]),
  (196, [.sipush 1, .goto 201]),
  (200, [.sipush 0, .goto 201]),
  (201, [.istore 4, .iload 4, .ifCond .eq 216, .aload 0, .aload 1, .invokestatic 1088777, .goto 221]),
  (216, [.aload 1, .sipush 1, .invokestatic 1410057, .goto 221]),
  (221, [.freturn])]
/-- BanksDealt$Book.isBeginning(LBanksDealt$Tape;)Z -/
def P_114 : bk_P := [(0, [.aload 0, .sipush 6, .invokestatic 1410825, .ifCond .ne 36, .aload 0, .sipush 7, .invokestatic 1410825, .ifCond .ne 36, .aload 0, .sipush 12, .invokestatic 1410825, .ifCond .ne 36, .aload 0, .sipush 13, .invokestatic 1410825, .ifCond .eq 40, .goto 36]),
  (36, [.sipush 1, .goto 41]),
  (40, [.sipush 0, .goto 41]),
  (41, [.freturn])]
/-- BanksDealt$Book.readOne(LBanksDealt$Tape;II)Z -/
def P_115 : bk_P := [(0, [.aload 1, .iload 2, .iload 3, .invokestatic 1934413, .ifCond .ne 11, .sipush 0, .freturn]),
  (11, [.aload 0, .getfield 149508, .aload 0, .getfield 1, .aload 1, .getfield 645, .iastore, .sipush 1, .freturn])]
/-- BanksDealt$Book.readPlace(LBanksDealt$Tape;)Z -/
def P_116 : bk_P := [(0, [.aload 0, .getfield 133122, .aload 0, .getfield 1, .aload 1, .getfield 644, .iastore, .aload 0, .aload 1, .sipush 0, .sipush 5, .invokestatic 2137297, .ifCond .eq 32, .aload 1, .sipush 0, .sipush 5, .invokestatic 1934413, .ifCond .ne 34, .goto 32]),
  (32, [.sipush 0, .freturn]),
  (34, [.aload 0, .getfield 157701, .aload 0, .getfield 1, .aload 1, .getfield 645, .iastore, .sipush 1, .freturn])]
/-- BanksDealt$Book.live(LBanksDealt$Plain;LBanksDealt$River;)I -/
def P_117 : bk_P := [(0, [.aload 0, .sipush 0, .putfield 0, .sipush 0, .istore 3, .goto 7]),
  (7, [.iload 3, .aload 0, .getfield 1, .if_icmp .ge 41, .aload 0, .aload 0, .aload 1, .aload 2, .iload 3, .invokestatic 2137489, .putfield 0, .aload 0, .getfield 0, .ifCond .eq 35, .iload 3, .ireturn]),
  (35, [.iinc 3 (1), .goto 7]),
  (41, [.aload 0, .getfield 1, .ireturn])]
/-- BanksDealt$Book.liveLine(LBanksDealt$Plain;LBanksDealt$River;I)I -/
def P_118 : bk_P := [(0, [.aload 0, .getfield 133122, .iload 3, .iaload, .tableswitch 58 9 11 #[32, 41, 51]]),
  (32, [.aload 0, .aload 1, .iload 3, .sipush (-1), .sipush 0, .invokestatic 2661845, .ireturn]),
  (41, [.aload 0, .aload 1, .iload 3, .sipush 1, .sipush 10, .invokestatic 2661845, .ireturn]),
  (51, [.aload 0, .aload 1, .iload 3, .invokestatic 1613325, .ireturn]),
  (58, [.aload 0, .aload 1, .aload 2, .iload 3, .invokestatic 2137681, .ireturn])]
/-- BanksDealt$Book.liveWork(LBanksDealt$Plain;III)I -/
def P_119 : bk_P := [(0, [.aload 1, .aload 0, .getfield 149508, .iload 2, .iaload, .aload 0, .getfield 157701, .iload 2, .iaload, .invokestatic 1770765, .istore 5, .iload 5, .sipush (-1), .if_icmp .ne 30, .iload 4, .sipush 9, .iadd, .ireturn]),
  (30, [.aload 1, .aload 0, .getfield 141315, .iload 2, .iaload, .iload 5, .iload 3, .invokestatic 2297361, .istore 6, .iload 6, .ifCond .eq 56, .iload 4, .iload 6, .iadd, .ireturn]),
  (56, [.aload 1, .aload 0, .getfield 141315, .iload 2, .iaload, .iload 5, .iload 3, .invokestatic 2297552, .sipush 0, .ireturn])]
/-- BanksDealt$Book.liveRoll(LBanksDealt$Plain;I)I -/
def P_120 : bk_P := [(0, [.aload 1, .aload 0, .getfield 149508, .iload 2, .iaload, .aload 0, .getfield 157701, .iload 2, .iaload, .invokestatic 1770765, .istore 3, .iload 3, .sipush (-1), .if_icmp .ne 25, .sipush 49, .ireturn]),
  (25, [.aload 1, .aload 0, .getfield 141315, .iload 2, .iaload, .iload 3, .invokestatic 1773453, .istore 4, .iload 4, .ifCond .eq 49, .sipush 40, .iload 4, .iadd, .ireturn]),
  (49, [.aload 1, .aload 0, .getfield 141315, .iload 2, .iaload, .iload 3, .invokestatic 1773516, .sipush 0, .ireturn])]
/-- BanksDealt$Book.liveSprings(LBanksDealt$Plain;LBanksDealt$River;I)I -/
def P_121 : bk_P := [(0, [.aload 0, .getfield 133122, .iload 3, .iaload, .sipush 12, .if_icmp .ne 15, .sipush 1, .goto 21]),
  (15, [.aload 0, .getfield 149508, .iload 3, .iaload, .goto 21]),
  (21, [.istore 4, .aload 1, .getfield 337, .iload 4, .iadd, .sipush 400, .if_icmp .le 39, .sipush 31, .ireturn]),
  (39, [.aload 2, .aload 0, .getfield 149508, .iload 3, .iaload, .putfield 515, .sipush 0, .istore 5, .goto 52]),
  (52, [.iload 5, .iload 4, .if_icmp .ge 71, .aload 2, .aload 1, .invokestatic 1347657, .pop, .iinc 5 (1), .goto 52]),
  (71, [.sipush 0, .ireturn])]
/-- BanksDealt.told(I)I -/
def P_122 : bk_P := [(0, [.aload 0, .getfield 4815, .ifCond .eq 29, .iload 1, .ifCond .lt 29, .iload 1, .aload 0, .getfield 461518, .arraylength, .if_icmp .ge 29, .aload 0, .getfield 461518, .iload 1, .iaload, .goto 30]),
  (29, [.sipush (-1), .goto 30]),
  (30, [.ireturn])]
/-- BanksDealt.sentence()I -/
def P_123 : bk_P := [(0, [.aload 0, .getfield 77512, .aload 0, .getfield 84672, .aload 0, .getfield 44737, .invokestatic 1908493, .istore 1, .aload 0, .invokestatic 919492, .iload 1, .ifCond .ne 34, .sipush (-1), .aload 0, .getfield 84672, .getfield 647, .isub, .ireturn]),
  (34, [.aload 0, .getfield 77511, .astore 2, .aload 0, .aload 0, .getfield 77512, .putfield 77511, .aload 0, .aload 2, .putfield 77512, .aload 0, .getfield 77511, .getfield 577, .ireturn])]
/-- BanksDealt$Sentence.readText(LBanksDealt$Tape;LBanksDealt$Plain;)Z -/
def P_124 : bk_P := [(0, [.aload 0, .invokestatic 854340, .aload 1, .sipush 200, .invokestatic 1409416, .aload 0, .aload 1, .aload 2, .sipush 1, .invokestatic 2432849, .ifCond .eq 40, .aload 1, .getfield 642, .ifCond .eq 36, .aload 1, .sipush 1, .invokestatic 1410057, .ifCond .eq 40, .goto 36]),
  (36, [.sipush 1, .goto 41]),
  (40, [.sipush 0, .goto 41]),
  (41, [.freturn])]
/-- BanksDealt$Sentence.readCond(LBanksDealt$Tape;LBanksDealt$Plain;I)Z -/
def P_125 : bk_P := [(0, [.aload 0, .aload 1, .aload 2, .iload 3, .invokestatic 2432913, .ifCond .ne 12, .sipush 0, .freturn]),
  (12, [.sipush 0, .istore 4, .goto 15]),
  (15, [.iload 4, .sipush 200, .if_icmp .ge 63, .aload 1, .sipush 14, .invokestatic 1410825, .ifCond .eq 63, .aload 1, .invokestatic 885188, .aload 0, .aload 1, .aload 2, .iload 3, .invokestatic 2432913, .ifCond .ne 48, .sipush 0, .freturn]),
  (48, [.aload 0, .sipush 14, .sipush 0, .sipush 0, .invokestatic 2433105, .pop, .iinc 4 (1), .goto 15]),
  (63, [.sipush 1, .freturn])]
/-- BanksDealt$Sentence.readAll(LBanksDealt$Tape;LBanksDealt$Plain;I)Z -/
def P_126 : bk_P := [(0, [.aload 0, .aload 1, .aload 2, .iload 3, .invokestatic 2432977, .ifCond .ne 12, .sipush 0, .freturn]),
  (12, [.sipush 0, .istore 4, .goto 15]),
  (15, [.iload 4, .sipush 200, .if_icmp .ge 63, .aload 1, .sipush 15, .invokestatic 1410825, .ifCond .eq 63, .aload 1, .invokestatic 885188, .aload 0, .aload 1, .aload 2, .iload 3, .invokestatic 2432977, .ifCond .ne 48, .sipush 0, .freturn]),
  (48, [.aload 0, .sipush 15, .sipush 0, .sipush 0, .invokestatic 2433105, .pop, .iinc 4 (1), .goto 15]),
  (63, [.sipush 1, .freturn])]
/-- BanksDealt$Sentence.readOne(LBanksDealt$Tape;LBanksDealt$Plain;I)Z -/
def P_127 : bk_P := [(0, [.aload 1, .invokestatic 532485, .ifCond .ne 13, .aload 1, .sipush 1, .invokestatic 1410057, .freturn]),
  (13, [.aload 0, .getfield 577, .sipush 20, .if_icmp .ge 28, .iload 3, .sipush 8, .if_icmp .le 34, .goto 28]),
  (28, [.aload 1, .sipush 4, .invokestatic 1410057, .freturn]),
  (34, [.aload 0, .dup, .getfield 577, .sipush 1, .iadd, .putfield 577, .aload 1, .getfield 642, .sipush 40, .if_icmp .ne 92, .aload 1, .invokestatic 885188, .aload 0, .aload 1, .aload 2, .iload 3, .sipush 1, .iadd, .invokestatic 2432849, .ifCond .ne 71, .sipush 0, .freturn]),
  (71, [.aload 1, .getfield 642, .sipush 41, .if_icmp .eq 86, .aload 1, .sipush 1, .invokestatic 1410057, .freturn]),
  (86, [.aload 1, .invokestatic 885188, .sipush 1, .freturn]),
  (92, [.aload 1, .getfield 644, .sipush 16, .if_icmp .ne 134, .aload 1, .invokestatic 885188, .aload 0, .aload 1, .aload 2, .iload 3, .sipush 1, .iadd, .invokestatic 2432977, .ifCond .eq 132, .aload 0, .sipush 16, .sipush 0, .sipush 0, .invokestatic 2433105, .ifCond .eq 132, .sipush 1, .goto 133]),
  (132, [.sipush 0, .goto 133]),
  (133, [.freturn]),
  (134, [.aload 0, .aload 1, .aload 2, .invokestatic 1908877, .istore 4, .iload 4, .ifCond .eq 151, .aload 1, .invokestatic 885188, .goto 151]),
  (151, [.iload 4, .freturn])]
/-- BanksDealt$Sentence.isBeginning(LBanksDealt$Tape;)Z -/
def P_128 : bk_P := [(0, [.aload 0, .getfield 642, .sipush 40, .if_icmp .eq 53, .aload 0, .getfield 642, .sipush 2, .if_icmp .ne 57, .aload 0, .getfield 644, .sipush 6, .if_icmp .eq 53, .aload 0, .getfield 644, .sipush 7, .if_icmp .eq 53, .aload 0, .getfield 644, .sipush 16, .if_icmp .eq 53, .aload 0, .getfield 644, .sipush 17, .if_icmp .lt 57, .goto 53]),
  (53, [.sipush 1, .goto 58]),
  (57, [.sipush 0, .goto 58]),
  (58, [.freturn])]
/-- BanksDealt$Sentence.put(III)Z -/
def P_129 : bk_P := [(0, [.aload 0, .getfield 576, .aload 0, .getfield 404034, .arraylength, .if_icmp .ge 52, .aload 0, .getfield 404034, .aload 0, .getfield 576, .iload 1, .iastore, .aload 0, .getfield 412227, .aload 0, .getfield 576, .iload 2, .iastore, .aload 0, .getfield 420420, .aload 0, .getfield 576, .iload 3, .iastore, .aload 0, .dup, .getfield 576, .sipush 1, .iadd, .putfield 576, .goto 52]),
  (52, [.sipush 1, .freturn])]
/-- BanksDealt$Sentence.readPlainOne(LBanksDealt$Tape;LBanksDealt$Plain;)Z -/
def P_130 : bk_P := [(0, [.aload 1, .getfield 644, .istore 3, .iload 3, .sipush 19, .if_icmp .eq 17, .iload 3, .sipush 20, .if_icmp .ne 74, .goto 17]),
  (17, [.aload 1, .invokestatic 885188, .aload 1, .invokestatic 886277, .ifCond .ne 34, .aload 1, .sipush 1, .invokestatic 1410057, .freturn]),
  (34, [.aload 2, .getfield 272714, .aload 2, .getfield 326, .aload 1, .getfield 1667, .invokestatic 2097869, .istore 4, .iload 4, .sipush (-1), .if_icmp .ne 65, .aload 1, .sipush 3, .invokestatic 1410057, .goto 73]),
  (65, [.aload 0, .iload 3, .iload 4, .sipush 0, .invokestatic 2433105, .goto 73]),
  (73, [.freturn]),
  (74, [.iload 3, .sipush 21, .if_icmp .lt 149, .aload 1, .invokestatic 885188, .aload 1, .getfield 642, .istore 4, .iload 4, .sipush 60, .if_icmp .eq 117, .iload 4, .sipush 61, .if_icmp .eq 117, .iload 4, .sipush 62, .if_icmp .eq 117, .aload 1, .sipush 1, .invokestatic 1410057, .freturn]),
  (117, [.aload 1, .invokestatic 885188, .aload 1, .getfield 642, .sipush 3, .if_icmp .ne 143, .aload 0, .iload 3, .aload 1, .getfield 645, .iload 4, .invokestatic 2433105, .goto 148]),
  (143, [.aload 1, .sipush 1, .invokestatic 1410057, .goto 148]),
  (148, [.freturn]),
  (149, [.aload 0, .iload 3, .sipush 0, .sipush 0, .invokestatic 2433105, .freturn])]
/-- BanksDealt.said(I)I -/
def P_131 : bk_P := [(0, [.aload 0, .getfield 77511, .getfield 576, .ifCond .eq 15, .iload 1, .sipush (-1), .if_icmp .ge 17, .goto 15]),
  (15, [.sipush (-1), .ireturn]),
  (17, [.aload 0, .getfield 77511, .aload 0, .getfield 44737, .invokestatic 1384713, .istore 2, .iload 1, .sipush (-1), .if_icmp .ne 39, .iload 2, .invokestatic 532997, .ireturn]),
  (39, [.sipush 0, .istore 3, .sipush 0, .istore 4, .goto 44]),
  (44, [.iload 4, .aload 0, .getfield 44737, .getfield 326, .if_icmp .ge 83, .iload 2, .iload 4, .ishr, .sipush 1, .iand, .sipush 1, .if_icmp .ne 77, .iload 3, .iload 1, .if_icmp .ne 74, .iload 4, .ireturn]),
  (74, [.iinc 3 (1), .goto 77]),
  (77, [.iinc 4 (1), .goto 44]),
  (83, [.sipush (-1), .ireturn])]
/-- BanksDealt$Sentence.fieldsSaid(LBanksDealt$Plain;)I -/
def P_132 : bk_P := [(0, [.sipush 1, .aload 1, .getfield 326, .ishl, .sipush 1, .isub, .istore 2, .sipush 0, .istore 3, .sipush 0, .istore 4, .goto 14]),
  (14, [.iload 4, .aload 0, .getfield 576, .if_icmp .ge 185, .aload 0, .getfield 404034, .iload 4, .iaload, .sipush 16, .if_icmp .ne 62, .iload 3, .ifCond .le 179, .aload 0, .getfield 428613, .iload 3, .sipush 1, .isub, .iload 2, .aload 0, .getfield 428613, .iload 3, .sipush 1, .isub, .iaload, .sipush (-1), .ixor, .iand, .iastore, .goto 179]),
  (62, [.aload 0, .getfield 404034, .iload 4, .iaload, .sipush 15, .if_icmp .eq 86, .aload 0, .getfield 404034, .iload 4, .iaload, .sipush 14, .if_icmp .ne 154, .goto 86]),
  (86, [.iload 3, .sipush 1, .if_icmp .le 179, .iinc 3 (-1), .aload 0, .getfield 428613, .iload 3, .sipush 1, .isub, .iaload, .aload 0, .getfield 428613, .iload 3, .iaload, .iand, .istore 5, .aload 0, .getfield 428613, .iload 3, .sipush 1, .isub, .aload 0, .getfield 404034, .iload 4, .iaload, .sipush 15, .if_icmp .ne 135, .iload 5, .goto 150]),
  (135, [.aload 0, .getfield 428613, .iload 3, .sipush 1, .isub, .iaload, .aload 0, .getfield 428613, .iload 3, .iaload, .ior, .goto 150]),
  (150, [.iastore, .goto 179]),
  (154, [.iload 3, .aload 0, .getfield 428613, .arraylength, .if_icmp .ge 179, .aload 0, .getfield 428613, .iload 3, .aload 0, .aload 1, .iload 4, .invokestatic 1909069, .iastore, .iinc 3 (1), .goto 179]),
  (179, [.iinc 4 (1), .goto 14]),
  (185, [.iload 3, .sipush 1, .if_icmp .ne 199, .aload 0, .getfield 428613, .sipush 0, .iaload, .goto 200]),
  (199, [.sipush 0, .goto 200]),
  (200, [.ireturn])]
/-- BanksDealt$Sentence.fieldsOfOne(LBanksDealt$Plain;I)I -/
def P_133 : bk_P := [(0, [.sipush 0, .istore 3, .sipush 0, .istore 4, .goto 5]),
  (5, [.iload 4, .aload 1, .getfield 326, .if_icmp .ge 38, .aload 0, .aload 1, .iload 4, .iload 2, .invokestatic 2433425, .ifCond .eq 32, .iload 3, .sipush 1, .iload 4, .ishl, .ior, .istore 3, .goto 32]),
  (32, [.iinc 4 (1), .goto 5]),
  (38, [.iload 3, .ireturn])]
/-- BanksDealt$Sentence.isSo(LBanksDealt$Plain;II)Z -/
def P_134 : bk_P := [(0, [.aload 1, .getfield 248135, .iload 2, .iaload, .istore 4, .aload 1, .getfield 239941, .iload 4, .invokestatic 1051209, .istore 5, .aload 0, .getfield 404034, .iload 3, .iaload, .tableswitch 276 6 23 #[112, 123, 276, 276, 276, 276, 276, 276, 276, 276, 276, 135, 147, 176, 211, 239, 251, 264]]),
  (112, [.iload 5, .ifCond .ne 121, .sipush 1, .goto 122]),
  (121, [.sipush 0, .goto 122]),
  (122, [.freturn]),
  (123, [.iload 5, .sipush 1, .if_icmp .ne 133, .sipush 1, .goto 134]),
  (133, [.sipush 0, .goto 134]),
  (134, [.freturn]),
  (135, [.iload 5, .sipush 2, .if_icmp .ne 145, .sipush 1, .goto 146]),
  (145, [.sipush 0, .goto 146]),
  (146, [.freturn]),
  (147, [.aload 1, .getfield 239941, .iload 4, .sipush 6, .idiv, .iaload, .iload 4, .sipush 6, .irem, .isub, .invokevirtual 3, .sipush 1, .if_icmp .ne 174, .sipush 1, .goto 175]),
  (174, [.sipush 0, .goto 175]),
  (175, [.freturn]),
  (176, [.iload 5, .sipush 2, .if_icmp .eq 209, .iload 5, .aload 1, .getfield 239941, .aload 1, .getfield 248135, .aload 0, .getfield 412227, .iload 3, .iaload, .iaload, .invokestatic 1051209, .if_icmp .ne 209, .sipush 1, .goto 210]),
  (209, [.sipush 0, .goto 210]),
  (210, [.freturn]),
  (211, [.iload 4, .sipush 6, .idiv, .aload 1, .getfield 248135, .aload 0, .getfield 412227, .iload 3, .iaload, .iaload, .sipush 6, .idiv, .if_icmp .ge 237, .sipush 1, .goto 238]),
  (237, [.sipush 0, .goto 238]),
  (238, [.freturn]),
  (239, [.aload 0, .aload 1, .getfield 256328, .iload 2, .iaload, .iload 3, .invokestatic 1909197, .freturn]),
  (251, [.aload 0, .aload 1, .getfield 231748, .iload 4, .iaload, .iload 3, .invokestatic 1909197, .freturn]),
  (264, [.aload 0, .aload 1, .getfield 264521, .iload 2, .iaload, .iload 3, .invokestatic 1909197, .freturn]),
  (276, [.aload 0, .iload 2, .iload 3, .invokestatic 1909197, .freturn])]
/-- BanksDealt$Sentence.compares(II)Z -/
def P_135 : bk_P := [(0, [.aload 0, .getfield 420420, .iload 2, .iaload, .sipush 60, .if_icmp .ne 27, .iload 1, .aload 0, .getfield 412227, .iload 2, .iaload, .if_icmp .ge 25, .sipush 1, .goto 26]),
  (25, [.sipush 0, .goto 26]),
  (26, [.freturn]),
  (27, [.aload 0, .getfield 420420, .iload 2, .iaload, .sipush 62, .if_icmp .ne 56, .iload 1, .aload 0, .getfield 412227, .iload 2, .iaload, .if_icmp .le 52, .sipush 1, .goto 71]),
  (52, [.sipush 0, .goto 71]),
  (56, [.iload 1, .aload 0, .getfield 412227, .iload 2, .iaload, .if_icmp .ne 70, .sipush 1, .goto 71]),
  (70, [.sipush 0, .goto 71]),
  (71, [.freturn])]
/-- java/lang/Integer.bitCount(I)I -/
def P_136 : bk_P := [(0, [.iload 0, .iload 0, .sipush 1, .iushr, .sipush 1431655765, .iand, .isub, .istore 0, .iload 0, .sipush 858993459, .iand, .iload 0, .sipush 2, .iushr, .sipush 858993459, .iand, .iadd, .istore 0, .iload 0, .iload 0, .sipush 4, .iushr, .iadd, .sipush 252645135, .iand, .istore 0, .iload 0, .iload 0, .sipush 8, .iushr, .iadd, .istore 0, .iload 0, .iload 0, .sipush 16, .iushr, .iadd, .istore 0, .iload 0, .sipush 63, .iand, .ireturn])]
/-- BanksDealt.image(I)Z -/
def P_137 : bk_P := [(0, [.iload 1, .ifCond .lt 13, .iload 1, .aload 0, .getfield 453325, .arraylength, .if_icmp .lt 15, .goto 13]),
  (13, [.sipush 0, .freturn]),
  (15, [.aload 0, .getfield 453325, .iload 1, .aaload, .getfield 11577600, .aload 0, .getfield 44737, .invokestatic 1248904, .aload 0, .getfield 453325, .iload 1, .aaload, .getfield 2173185, .aload 0, .getfield 77511, .invokestatic 1385096, .aload 0, .getfield 453325, .iload 1, .aaload, .sipush 1, .putfield 4354, .sipush 1, .freturn])]
/-- BanksDealt$Sentence.copyOf(LBanksDealt$Sentence;)V -/
def P_138 : bk_P := [(0, [.aload 0, .aload 1, .getfield 576, .putfield 576, .aload 0, .aload 1, .getfield 577, .putfield 577, .aload 1, .getfield 404034, .sipush 0, .aload 0, .getfield 404034, .sipush 0, .aload 0, .getfield 404034, .arraylength, .invokevirtual 0, .aload 1, .getfield 412227, .sipush 0, .aload 0, .getfield 412227, .sipush 0, .aload 0, .getfield 412227, .arraylength, .invokevirtual 0, .aload 1, .getfield 420420, .sipush 0, .aload 0, .getfield 420420, .sipush 0, .aload 0, .getfield 420420, .arraylength, .invokevirtual 0, .return_])]
/-- BanksDealt.restore(I)Z -/
def P_139 : bk_P := [(0, [.iload 1, .ifCond .lt 25, .iload 1, .aload 0, .getfield 453325, .arraylength, .if_icmp .ge 25, .aload 0, .getfield 453325, .iload 1, .aaload, .getfield 4354, .ifCond .ne 27, .goto 25]),
  (25, [.sipush 0, .freturn]),
  (27, [.aload 0, .getfield 44737, .aload 0, .getfield 453325, .iload 1, .aaload, .getfield 11577600, .invokestatic 1248904, .aload 0, .getfield 77511, .aload 0, .getfield 453325, .iload 1, .aaload, .getfield 2173185, .invokestatic 1385096, .aload 0, .getfield 27340, .invokestatic 657796, .sipush 1, .freturn])]
/-- BanksDealt.count(I)I -/
def P_140 : bk_P := [(0, [.iload 1, .tableswitch 100 0 6 #[44, 52, 60, 68, 76, 84, 92]]),
  (44, [.aload 0, .getfield 44737, .getfield 326, .ireturn]),
  (52, [.aload 0, .getfield 44737, .getfield 320, .ireturn]),
  (60, [.aload 0, .getfield 44737, .getfield 321, .ireturn]),
  (68, [.aload 0, .getfield 44737, .getfield 322, .ireturn]),
  (76, [.aload 0, .getfield 44737, .getfield 323, .ireturn]),
  (84, [.aload 0, .getfield 44737, .getfield 331, .ireturn]),
  (92, [.aload 0, .getfield 84672, .getfield 641, .ireturn]),
  (100, [.sipush (-1), .ireturn])]
/-- BanksDealt.field(II)I -/
def P_141 : bk_P := [(0, [.aload 0, .iload 1, .invokestatic 1446729, .ifCond .eq 17, .iload 2, .ifCond .lt 17, .iload 2, .sipush 4, .if_icmp .le 25, .goto 17]),
  (17, [.athrow]),
  (25, [.aload 0, .getfield 44737, .getfield 248135, .iload 1, .iaload, .istore 3, .iload 2, .tableswitch 100 0 3 #[68, 73, 78, 88]]),
  (68, [.iload 3, .sipush 6, .irem, .ireturn]),
  (73, [.iload 3, .sipush 6, .idiv, .ireturn]),
  (78, [.aload 0, .getfield 44737, .getfield 256328, .iload 1, .iaload, .ireturn]),
  (88, [.aload 0, .getfield 44737, .getfield 239941, .iload 3, .invokestatic 1051209, .ireturn]),
  (100, [.aload 0, .getfield 44737, .getfield 264521, .iload 1, .iaload, .ireturn])]
/-- BanksDealt.duel(I)I -/
def P_142 : bk_P := [(0, [.iload 1, .invokestatic 527301, .ifCond .ne 15, .athrow]),
  (15, [.aload 0, .getfield 60105, .aload 0, .getfield 44737, .iload 1, .invokestatic 1844173, .ireturn])]
/-- BanksDealt$Plans.fight(LBanksDealt$Plain;I)I -/
def P_143 : bk_P := [(0, [.aload 0, .getfield 1116614, .aload 1, .invokestatic 1345672, .aload 0, .sipush 1, .putfield 4547, .aload 0, .aload 0, .aload 1, .iload 2, .sipush (-1000), .invokestatic 2368529, .putfield 461, .aload 0, .getfield 338370, .sipush 0, .sipush (-2), .iastore, .aload 0, .getfield 338370, .sipush 1, .aload 0, .getfield 460, .iastore, .sipush 0, .istore 3, .goto 46]),
  (46, [.iload 3, .sipush 72, .if_icmp .ge 131, .aload 1, .getfield 305487, .iload 2, .iaload, .ifCond .le 131, .aload 0, .aload 1, .iload 2, .iload 3, .invokestatic 2364433, .ifCond .eq 125, .aload 0, .iload 3, .invokestatic 1315976, .aload 0, .aload 1, .iload 2, .aload 0, .getfield 461, .invokestatic 2368529, .istore 4, .aload 0, .iload 3, .invokestatic 1316040, .iload 4, .aload 0, .getfield 461, .if_icmp .le 125, .aload 0, .iload 4, .putfield 461, .aload 0, .getfield 338370, .sipush 0, .iload 3, .iastore, .aload 0, .getfield 338370, .sipush 1, .aload 0, .getfield 460, .iastore, .goto 125]),
  (125, [.iinc 3 (1), .goto 46]),
  (131, [.aload 0, .getfield 461, .ireturn])]
/-- BanksDealt$Plans.answered(LBanksDealt$Plain;II)I -/
def P_144 : bk_P := [(0, [.sipush 1, .iload 2, .isub, .istore 4, .aload 0, .aload 1, .iload 2, .invokestatic 1844301, .istore 5, .aload 0, .sipush (-2), .putfield 460, .sipush 0, .istore 6, .goto 22]),
  (22, [.iload 6, .sipush 72, .if_icmp .ge 100, .aload 1, .getfield 305487, .iload 4, .iaload, .ifCond .le 100, .iload 5, .iload 3, .if_icmp .le 100, .aload 0, .aload 1, .iload 4, .iload 6, .invokestatic 2364433, .ifCond .eq 94, .aload 0, .iload 6, .invokestatic 1315976, .aload 0, .aload 1, .iload 2, .invokestatic 1844301, .istore 7, .aload 0, .iload 6, .invokestatic 1316040, .iload 7, .iload 5, .if_icmp .ge 94, .iload 7, .istore 5, .aload 0, .iload 6, .putfield 460, .goto 94]),
  (94, [.iinc 6 (1), .goto 22]),
  (100, [.iload 5, .ireturn])]
/-- BanksDealt$Plans.lead(LBanksDealt$Plain;I)I -/
def P_145 : bk_P := [(0, [.aload 0, .getfield 1116614, .aload 1, .invokestatic 1345736, .aload 1, .aload 0, .getfield 1116614, .getfield 379393, .iload 2, .invokestatic 1772621, .aload 1, .aload 0, .getfield 1116614, .getfield 379393, .sipush 1, .iload 2, .isub, .invokestatic 1772621, .isub, .ireturn])]
/-- BanksDealtModel.thrown()I -/
def P_146 : bk_P := [(0, [.aload 0, .getfield 768, .ireturn])]
/-- BanksDealtModel.feed(IIIII)I -/
def P_147 : bk_P := [(0, [.aload 0, .sipush 0, .putfield 768, .aload 0, .getfield 770, .sipush 20, .iadd, .sipush 940, .if_icmp .le 20, .sipush (-1), .ireturn]),
  (20, [.aload 0, .iload 1, .invokestatic 1484040, .aload 0, .iload 2, .invokestatic 1484040, .aload 0, .iload 3, .invokestatic 1484040, .aload 0, .iload 4, .invokestatic 1484040, .aload 0, .iload 5, .invokestatic 1484040, .aload 0, .getfield 770, .ireturn])]
/-- BanksDealtModel.come(I)V -/
def P_148 : bk_P := [(0, [.sipush 24, .istore 2, .goto 3]),
  (3, [.iload 2, .ifCond .lt 39, .aload 0, .getfield 469761, .aload 0, .getfield 770, .iload 1, .iload 2, .iushr, .sipush 255, .iand, .iastore, .aload 0, .dup, .getfield 770, .sipush 1, .iadd, .putfield 770, .iinc 2 (-8), .goto 3]),
  (39, [.return_])]
/-- BanksDealtModel.end(I)Z -/
def P_149 : bk_P := [(0, [.aload 0, .sipush 0, .putfield 768, .iload 1, .ifCond .lt 17, .iload 1, .aload 0, .getfield 770, .if_icmp .le 19, .goto 17]),
  (17, [.sipush 0, .freturn]),
  (19, [.aload 0, .iload 1, .putfield 770, .sipush 1, .freturn])]
/-- BanksDealtModel.startRead()V -/
def P_150 : bk_P := [(0, [.sipush 0, .istore 1, .goto 2]),
  (2, [.iload 1, .sipush 80, .if_icmp .ge 21, .aload 0, .getfield 486159, .iload 1, .sipush 0, .iastore, .iinc 1 (1), .goto 2]),
  (21, [.sipush 0, .istore 1, .goto 23]),
  (23, [.iload 1, .sipush 5, .if_icmp .ge 41, .aload 0, .getfield 551703, .iload 1, .sipush 0, .bastore, .iinc 1 (1), .goto 23]),
  (41, [.sipush 0, .istore 1, .goto 43]),
  (43, [.iload 1, .sipush 36, .if_icmp .ge 72, .aload 0, .getfield 559896, .iload 1, .sipush 0, .bastore, .aload 0, .getfield 486159, .sipush 6, .iload 1, .iadd, .sipush 5, .iastore, .iinc 1 (1), .goto 43]),
  (72, [.aload 0, .getfield 486159, .sipush 2, .sipush 5, .iastore, .aload 0, .getfield 486159, .sipush 3, .sipush 5, .iastore, .aload 0, .getfield 486159, .sipush 5, .sipush 2, .iastore, .aload 0, .getfield 486159, .sipush 78, .sipush 9, .iastore, .aload 0, .getfield 486159, .sipush 79, .sipush 9, .iastore, .aload 0, .sipush 0, .putfield 4890, .return_])]
/-- BanksDealtModel.startSo()V -/
def P_151 : bk_P := [(0, [.sipush 80, .istore 1, .goto 3]),
  (3, [.iload 1, .sipush 437, .if_icmp .ge 23, .aload 0, .getfield 477966, .iload 1, .sipush 0, .iastore, .iinc 1 (1), .goto 3]),
  (23, [.sipush 0, .istore 1, .goto 25]),
  (25, [.iload 1, .sipush 2, .if_icmp .ge 54, .aload 0, .getfield 477966, .sipush 81, .iload 1, .iadd, .aload 0, .getfield 477966, .sipush 78, .iload 1, .iadd, .iaload, .iastore, .iinc 1 (1), .goto 25]),
  (54, [.sipush 0, .istore 1, .goto 56]),
  (56, [.iload 1, .sipush 36, .if_icmp .ge 86, .aload 0, .getfield 477966, .sipush 85, .iload 1, .iadd, .aload 0, .getfield 477966, .sipush 6, .iload 1, .iadd, .iaload, .iastore, .iinc 1 (1), .goto 56]),
  (86, [.sipush 0, .istore 1, .goto 88]),
  (88, [.iload 1, .sipush 3, .if_icmp .ge 136, .aload 0, .getfield 477966, .sipush 127, .iload 1, .iadd, .aload 0, .getfield 477966, .sipush 72, .iload 1, .iadd, .iaload, .iastore, .aload 0, .getfield 477966, .sipush 130, .iload 1, .iadd, .aload 0, .getfield 477966, .sipush 75, .iload 1, .iadd, .iaload, .iastore, .iinc 1 (1), .goto 88]),
  (136, [.aload 0, .invokestatic 960004, .aload 0, .invokestatic 960069, .pop, .sipush 0, .istore 1, .goto 147]),
  (147, [.iload 1, .sipush 6, .if_icmp .ge 174, .aload 0, .getfield 477966, .sipush 121, .iload 1, .iadd, .aload 0, .getfield 584477, .iload 1, .iaload, .iastore, .iinc 1 (1), .goto 147]),
  (174, [.return_])]
/-- BanksDealtModel.melt()V -/
def P_152 : bk_P := [(0, [.sipush 0, .istore 1, .goto 2]),
  (2, [.iload 1, .sipush 36, .if_icmp .ge 21, .aload 0, .getfield 568091, .iload 1, .sipush 0, .iastore, .iinc 1 (1), .goto 2]),
  (21, [.return_])]
/-- BanksDealtModel.layBest()I -/
def P_153 : bk_P := [(0, [.aload 0, .getfield 477966, .sipush 3, .iaload, .sipush 1, .isub, .istore 1, .goto 9]),
  (9, [.iload 1, .ifCond .lt 91, .sipush 0, .istore 2, .goto 15]),
  (15, [.iload 2, .aload 0, .getfield 477966, .sipush 2, .iaload, .if_icmp .ge 85, .sipush 6, .iload 1, .imul, .iload 2, .iadd, .istore 3, .aload 0, .getfield 576284, .iload 3, .aload 0, .getfield 477966, .sipush 85, .iload 3, .iadd, .iaload, .aload 0, .getfield 568091, .iload 3, .iaload, .iadd, .iload 1, .aload 0, .getfield 477966, .sipush 3, .iaload, .sipush 1, .isub, .if_icmp .ne 69, .sipush 0, .goto 77]),
  (69, [.aload 0, .iload 2, .iload 1, .sipush 1, .iadd, .invokestatic 2008717, .goto 77]),
  (77, [.iadd, .iastore, .iinc 2 (1), .goto 15]),
  (85, [.iinc 1 (-1), .goto 9]),
  (91, [.aload 0, .getfield 584477, .sipush 0, .aload 0, .getfield 477966, .sipush 4, .iaload, .iastore, .sipush 1, .istore 1, .goto 105]),
  (105, [.iload 1, .aload 0, .getfield 477966, .sipush 3, .iaload, .if_icmp .ge 162, .aload 0, .getfield 584477, .iload 1, .sipush 1, .isub, .iaload, .istore 2, .iload 2, .sipush 1, .isub, .istore 3, .goto 128]),
  (128, [.aload 0, .iload 3, .iload 1, .invokestatic 2008781, .aload 0, .iload 2, .iload 1, .invokestatic 2008717, .if_icmp .eq 149, .iinc 3 (1), .goto 128]),
  (149, [.aload 0, .getfield 584477, .iload 1, .iload 3, .iastore, .iinc 1 (1), .goto 105]),
  (162, [.aload 0, .getfield 576284, .aload 0, .getfield 477966, .sipush 4, .iaload, .iaload, .ireturn])]
/-- BanksDealtModel.leastNext(II)I -/
def P_154 : bk_P := [(0, [.aload 0, .iload 1, .sipush 1, .isub, .iload 2, .invokestatic 2008781, .aload 0, .iload 1, .iload 2, .invokestatic 2008781, .aload 0, .iload 1, .sipush 1, .iadd, .iload 2, .invokestatic 2008781, .invokestatic 1058697, .invokestatic 1058697, .ireturn])]
/-- BanksDealtModel.costAt(II)I -/
def P_155 : bk_P := [(0, [.aload 0, .iload 1, .iload 2, .invokestatic 2008845, .ifCond .eq 23, .aload 0, .getfield 576284, .sipush 6, .iload 2, .imul, .iload 1, .iadd, .iaload, .goto 26]),
  (23, [.sipush 100000, .goto 26]),
  (26, [.ireturn])]
/-- BanksDealtModel.isCell(II)Z -/
def P_156 : bk_P := [(0, [.iload 1, .sipush 0, .aload 0, .getfield 477966, .sipush 2, .iaload, .sipush 1, .isub, .invokestatic 1582925, .ifCond .eq 36, .iload 2, .sipush 0, .aload 0, .getfield 477966, .sipush 3, .iaload, .sipush 1, .isub, .invokestatic 1582925, .ifCond .eq 36, .sipush 1, .goto 37]),
  (36, [.sipush 0, .goto 37]),
  (37, [.freturn])]
/-- BanksDealtModel.isIn(III)Z -/
def P_157 : bk_P := [(0, [.iload 0, .iload 1, .if_icmp .lt 14, .iload 0, .iload 2, .if_icmp .gt 14, .sipush 1, .goto 15]),
  (14, [.sipush 0, .goto 15]),
  (15, [.freturn])]
/-- BanksDealtModel.least(II)I -/
def P_158 : bk_P := [(0, [.iload 0, .iload 1, .if_icmp .ge 9, .iload 0, .goto 10]),
  (9, [.iload 1, .goto 10]),
  (10, [.ireturn])]
/-- BanksDealtModel.plain()I -/
def P_159 : bk_P := [(0, [.aload 0, .sipush 900, .invokestatic 1484808, .aload 0, .invokestatic 959876, .sipush 0, .istore 1, .goto 13]),
  (13, [.aload 0, .getfield 775, .ifCond .eq 47, .aload 0, .invokestatic 960901, .ifCond .eq 34, .aload 0, .invokestatic 962309, .ifCond .ne 41, .goto 34]),
  (34, [.sipush (-1), .aload 0, .getfield 779, .isub, .ireturn]),
  (41, [.iinc 1 (1), .goto 13]),
  (47, [.sipush 0, .istore 2, .goto 49]),
  (49, [.iload 2, .sipush 80, .if_icmp .ge 73, .aload 0, .getfield 477966, .iload 2, .aload 0, .getfield 486159, .iload 2, .iaload, .iastore, .iinc 2 (1), .goto 49]),
  (73, [.sipush 0, .istore 2, .goto 75]),
  (75, [.iload 2, .sipush 13, .if_icmp .ge 99, .aload 0, .getfield 518931, .iload 2, .aload 0, .getfield 527124, .iload 2, .laload, .lastore, .iinc 2 (1), .goto 75]),
  (99, [.aload 0, .invokestatic 959940, .aload 0, .sipush 0, .putfield 793, .iload 1, .ireturn])]
/-- BanksDealtModel.begin(I)V -/
def P_160 : bk_P := [(0, [.aload 0, .sipush 0, .putfield 768, .aload 0, .aload 0, .invokestatic 960581, .putfield 771, .aload 0, .iload 1, .putfield 772, .aload 0, .sipush 0, .putfield 778, .aload 0, .sipush 0, .putfield 773, .aload 0, .invokestatic 960644, .return_])]
/-- BanksDealtModel.take()I -/
def P_161 : bk_P := [(0, [.aload 0, .getfield 770, .istore 1, .aload 0, .sipush 0, .putfield 770, .iload 1, .ireturn])]
/-- BanksDealtModel.go()V -/
def P_162 : bk_P := [(0, [.aload 0, .getfield 773, .aload 0, .getfield 771, .if_icmp .ge 52, .aload 0, .getfield 469761, .aload 0, .getfield 773, .iaload, .sipush 32, .if_icmp .eq 39, .aload 0, .getfield 469761, .aload 0, .getfield 773, .iaload, .sipush 10, .if_icmp .ne 52, .goto 39]),
  (39, [.aload 0, .dup, .getfield 773, .sipush 1, .iadd, .putfield 773, .goto 0]),
  (52, [.aload 0, .aload 0, .getfield 773, .putfield 774, .aload 0, .getfield 771, .aload 0, .getfield 772, .if_icmp .le 96, .aload 0, .getfield 774, .aload 0, .getfield 772, .if_icmp .lt 96, .aload 0, .aload 0, .getfield 772, .putfield 774, .aload 0, .sipush 1, .putfield 775, .return_]),
  (96, [.aload 0, .getfield 773, .aload 0, .getfield 771, .if_icmp .lt 113, .aload 0, .sipush 0, .putfield 775, .return_]),
  (113, [.aload 0, .getfield 469761, .aload 0, .getfield 773, .iaload, .istore 1, .iload 1, .invokestatic 534725, .ifCond .ne 198, .iload 1, .invokestatic 534789, .ifCond .ne 198, .aload 0, .iload 1, .sipush 59, .if_icmp .eq 174, .iload 1, .sipush 60, .if_icmp .eq 174, .iload 1, .sipush 61, .if_icmp .eq 174, .iload 1, .sipush 62, .if_icmp .eq 174, .iload 1, .sipush 40, .if_icmp .eq 174, .iload 1, .sipush 41, .if_icmp .ne 178, .goto 174]),
  (174, [.sipush 4, .goto 179]),
  (178, [.sipush 1, .goto 179]),
  (179, [.putfield 775, .aload 0, .iload 1, .putfield 777, .aload 0, .dup, .getfield 773, .sipush 1, .iadd, .putfield 773, .return_]),
  (198, [.iload 1, .invokestatic 534725, .istore 2, .sipush 1, .istore 3, .aload 0, .bipush 0, .putfield 1804, .aload 0, .sipush 0, .putfield 776, .goto 215]),
  (215, [.aload 0, .aload 0, .getfield 773, .invokestatic 1485129, .invokestatic 534725, .ifCond .ne 243, .aload 0, .aload 0, .getfield 773, .invokestatic 1485129, .invokestatic 534789, .ifCond .eq 350, .goto 243]),
  (243, [.aload 0, .getfield 469761, .aload 0, .getfield 773, .iaload, .istore 4, .iload 3, .ifCond .eq 271, .iload 4, .invokestatic 534725, .iload 2, .if_icmp .ne 271, .sipush 1, .goto 272]),
  (271, [.sipush 0, .goto 272]),
  (272, [.istore 3, .aload 0, .getfield 773, .aload 0, .getfield 774, .isub, .sipush 7, .if_icmp .ge 307, .aload 0, .bipush 27, .aload 0, .getfield 1804, .lmul, .iload 4, .i2l, .ladd, .bipush 96, .lsub, .putfield 1804, .goto 307]),
  (307, [.aload 0, .getfield 773, .aload 0, .getfield 774, .isub, .sipush 3, .if_icmp .ge 337, .aload 0, .sipush 10, .aload 0, .getfield 776, .imul, .iload 4, .iadd, .sipush 48, .isub, .putfield 776, .goto 337]),
  (337, [.aload 0, .dup, .getfield 773, .sipush 1, .iadd, .putfield 773, .goto 215]),
  (350, [.aload 0, .iload 3, .ifCond .eq 377, .aload 0, .getfield 773, .aload 0, .getfield 774, .isub, .iload 2, .ifCond .eq 373, .sipush 7, .goto 374]),
  (373, [.sipush 3, .goto 374]),
  (374, [.if_icmp .le 381, .goto 377]),
  (377, [.sipush 1, .goto 390]),
  (381, [.iload 2, .ifCond .eq 389, .sipush 2, .goto 390]),
  (389, [.sipush 3, .goto 390]),
  (390, [.putfield 775, .return_])]
/-- BanksDealtModel.isLetter(I)Z -/
def P_163 : bk_P := [(0, [.iload 0, .sipush 97, .if_icmp .lt 16, .iload 0, .sipush 122, .if_icmp .gt 16, .sipush 1, .goto 17]),
  (16, [.sipush 0, .goto 17]),
  (17, [.freturn])]
/-- BanksDealtModel.isDigit(I)Z -/
def P_164 : bk_P := [(0, [.iload 0, .sipush 48, .if_icmp .lt 16, .iload 0, .sipush 57, .if_icmp .gt 16, .sipush 1, .goto 17]),
  (16, [.sipush 0, .goto 17]),
  (17, [.freturn])]
/-- BanksDealtModel.tapeAt(I)I -/
def P_165 : bk_P := [(0, [.iload 1, .aload 0, .getfield 771, .if_icmp .ge 17, .aload 0, .getfield 469761, .iload 1, .iaload, .goto 18]),
  (17, [.sipush 0, .goto 18]),
  (18, [.ireturn])]
/-- BanksDealtModel.readLine()Z -/
def P_166 : bk_P := [(0, [.aload 0, .sipush 0, .invokestatic 1485257, .ifCond .eq 13, .aload 0, .invokestatic 961157, .freturn]),
  (13, [.aload 0, .sipush 1, .invokestatic 1485257, .ifCond .eq 26, .aload 0, .invokestatic 961541, .freturn]),
  (26, [.aload 0, .sipush 2, .invokestatic 1485257, .ifCond .eq 60, .aload 0, .sipush 1, .invokestatic 1485577, .ifCond .eq 58, .aload 0, .sipush 4, .aload 0, .invokestatic 961605, .invokestatic 2010061, .ifCond .eq 58, .sipush 1, .goto 59]),
  (58, [.sipush 0, .goto 59]),
  (59, [.freturn]),
  (60, [.aload 0, .sipush 3, .invokestatic 1485257, .ifCond .eq 73, .aload 0, .invokestatic 961733, .freturn]),
  (73, [.aload 0, .sipush 4, .invokestatic 1485257, .ifCond .eq 86, .aload 0, .invokestatic 962117, .freturn]),
  (86, [.aload 0, .sipush 5, .invokestatic 1485257, .ifCond .eq 99, .aload 0, .invokestatic 962181, .freturn]),
  (99, [.aload 0, .sipush 6, .invokestatic 1485257, .ifCond .eq 138, .aload 0, .sipush 2, .invokestatic 1485577, .ifCond .eq 134, .aload 0, .sipush 5, .aload 0, .sipush 0, .sipush 5, .invokestatic 2009997, .invokestatic 2010061, .ifCond .eq 134, .sipush 1, .goto 143]),
  (134, [.sipush 0, .goto 143]),
  (138, [.aload 0, .sipush 1, .invokestatic 1485513, .goto 143]),
  (143, [.freturn])]
/-- BanksDealtModel.isWord(I)Z -/
def P_167 : bk_P := [(0, [.aload 0, .getfield 775, .sipush 2, .if_icmp .ne 24, .aload 0, .getfield 1804, .iload 1, .invokestatic 535046, .lcmp, .ifCond .ne 24, .sipush 1, .goto 25]),
  (24, [.sipush 0, .goto 25]),
  (25, [.freturn])]
/-- BanksDealtModel.wordOf(I)J -/
def P_168 : bk_P := [(0, [.iload 0, .tableswitch 483 0 23 #[112, 128, 143, 160, 176, 191, 207, 221, 236, 251, 267, 284, 300, 313, 327, 341, 356, 372, 386, 401, 416, 432, 448, 465]]),
  (112, [.sipush 112, .sipush 108, .sipush 97, .sipush 105, .sipush 110, .sipush 0, .sipush 0, .invokestatic 3680862, .lreturn]),
  (128, [.sipush 108, .sipush 97, .sipush 110, .sipush 100, .sipush 0, .sipush 0, .sipush 0, .invokestatic 3680862, .lreturn]),
  (143, [.sipush 115, .sipush 111, .sipush 117, .sipush 114, .sipush 99, .sipush 101, .sipush 0, .invokestatic 3680862, .lreturn]),
  (160, [.sipush 102, .sipush 105, .sipush 101, .sipush 108, .sipush 100, .sipush 0, .sipush 0, .invokestatic 3680862, .lreturn]),
  (176, [.sipush 109, .sipush 105, .sipush 108, .sipush 108, .sipush 0, .sipush 0, .sipush 0, .invokestatic 3680862, .lreturn]),
  (191, [.sipush 112, .sipush 117, .sipush 114, .sipush 115, .sipush 101, .sipush 0, .sipush 0, .invokestatic 3680862, .lreturn]),
  (207, [.sipush 105, .sipush 99, .sipush 101, .sipush 0, .sipush 0, .sipush 0, .sipush 0, .invokestatic 3680862, .lreturn]),
  (221, [.sipush 100, .sipush 105, .sipush 103, .sipush 115, .sipush 0, .sipush 0, .sipush 0, .invokestatic 3680862, .lreturn]),
  (236, [.sipush 108, .sipush 97, .sipush 121, .sipush 115, .sipush 0, .sipush 0, .sipush 0, .invokestatic 3680862, .lreturn]),
  (251, [.sipush 114, .sipush 111, .sipush 108, .sipush 108, .sipush 115, .sipush 0, .sipush 0, .invokestatic 3680862, .lreturn]),
  (267, [.sipush 115, .sipush 112, .sipush 114, .sipush 105, .sipush 110, .sipush 103, .sipush 0, .invokestatic 3680862, .lreturn]),
  (284, [.sipush 121, .sipush 101, .sipush 97, .sipush 114, .sipush 115, .sipush 0, .sipush 0, .invokestatic 3680862, .lreturn]),
  (300, [.sipush 111, .sipush 114, .sipush 0, .sipush 0, .sipush 0, .sipush 0, .sipush 0, .invokestatic 3680862, .lreturn]),
  (313, [.sipush 97, .sipush 110, .sipush 100, .sipush 0, .sipush 0, .sipush 0, .sipush 0, .invokestatic 3680862, .lreturn]),
  (327, [.sipush 110, .sipush 111, .sipush 116, .sipush 0, .sipush 0, .sipush 0, .sipush 0, .invokestatic 3680862, .lreturn]),
  (341, [.sipush 108, .sipush 101, .sipush 102, .sipush 116, .sipush 0, .sipush 0, .sipush 0, .invokestatic 3680862, .lreturn]),
  (356, [.sipush 114, .sipush 105, .sipush 103, .sipush 104, .sipush 116, .sipush 0, .sipush 0, .invokestatic 3680862, .lreturn]),
  (372, [.sipush 119, .sipush 101, .sipush 116, .sipush 0, .sipush 0, .sipush 0, .sipush 0, .invokestatic 3680862, .lreturn]),
  (386, [.sipush 110, .sipush 101, .sipush 97, .sipush 114, .sipush 0, .sipush 0, .sipush 0, .invokestatic 3680862, .lreturn]),
  (401, [.sipush 115, .sipush 97, .sipush 109, .sipush 101, .sipush 0, .sipush 0, .sipush 0, .invokestatic 3680862, .lreturn]),
  (416, [.sipush 97, .sipush 98, .sipush 111, .sipush 118, .sipush 101, .sipush 0, .sipush 0, .invokestatic 3680862, .lreturn]),
  (432, [.sipush 119, .sipush 111, .sipush 114, .sipush 116, .sipush 104, .sipush 0, .sipush 0, .invokestatic 3680862, .lreturn]),
  (448, [.sipush 104, .sipush 101, .sipush 105, .sipush 103, .sipush 104, .sipush 116, .sipush 0, .invokestatic 3680862, .lreturn]),
  (465, [.sipush 99, .sipush 104, .sipush 97, .sipush 110, .sipush 103, .sipush 101, .sipush 100, .invokestatic 3680862, .lreturn]),
  (483, [.sipush 110, .sipush 117, .sipush 109, .sipush 98, .sipush 101, .sipush 114, .sipush 0, .invokestatic 3680862, .lreturn])]
/-- BanksDealtModel.spelt(IIIIIII)J -/
def P_169 : bk_P := [(0, [.bipush 27, .iload 0, .i2l, .bipush 96, .lsub, .lmul, .iload 1, .i2l, .ladd, .bipush 96, .lsub, .lstore 7, .iload 2, .ifCond .le 38, .bipush 27, .lload 7, .lmul, .iload 2, .i2l, .ladd, .bipush 96, .lsub, .lstore 7, .goto 38]),
  (38, [.iload 3, .ifCond .le 57, .bipush 27, .lload 7, .lmul, .iload 3, .i2l, .ladd, .bipush 96, .lsub, .lstore 7, .goto 57]),
  (57, [.iload 4, .ifCond .le 78, .bipush 27, .lload 7, .lmul, .iload 4, .i2l, .ladd, .bipush 96, .lsub, .lstore 7, .goto 78]),
  (78, [.iload 5, .ifCond .le 99, .bipush 27, .lload 7, .lmul, .iload 5, .i2l, .ladd, .bipush 96, .lsub, .lstore 7, .goto 99]),
  (99, [.iload 6, .ifCond .le 120, .bipush 27, .lload 7, .lmul, .iload 6, .i2l, .ladd, .bipush 96, .lsub, .lstore 7, .goto 120]),
  (120, [.lload 7, .lreturn])]
/-- BanksDealtModel.readPlain()Z -/
def P_170 : bk_P := [(0, [.aload 0, .getfield 4890, .ifCond .eq 13, .aload 0, .sipush 3, .invokestatic 1485513, .freturn]),
  (13, [.aload 0, .sipush 0, .invokestatic 1485577, .ifCond .eq 55, .aload 0, .sipush 2, .aload 0, .sipush 3, .sipush 6, .invokestatic 2009933, .invokestatic 2010061, .ifCond .eq 55, .aload 0, .sipush 3, .aload 0, .sipush 2, .sipush 6, .invokestatic 2009933, .invokestatic 2010061, .ifCond .eq 55, .sipush 1, .goto 56]),
  (55, [.sipush 0, .goto 56]),
  (56, [.freturn])]
/-- BanksDealtModel.bad(I)Z -/
def P_171 : bk_P := [(0, [.aload 0, .aload 0, .getfield 775, .sipush 1, .if_icmp .ne 13, .sipush 1, .goto 14]),
  (13, [.iload 1, .goto 14]),
  (14, [.putfield 778, .aload 0, .aload 0, .getfield 774, .putfield 779, .sipush 0, .freturn])]
/-- BanksDealtModel.isFresh(I)Z -/
def P_172 : bk_P := [(0, [.aload 0, .getfield 551703, .iload 1, .baload, .ifCond .eq 15, .aload 0, .sipush 3, .invokestatic 1485513, .freturn]),
  (15, [.aload 0, .getfield 551703, .iload 1, .sipush 1, .bastore, .aload 0, .invokestatic 960644, .sipush 1, .freturn])]
/-- BanksDealtModel.readBetween(II)Z -/
def P_173 : bk_P := [(0, [.aload 0, .iload 1, .iload 2, .invokestatic 2009997, .freturn])]
/-- BanksDealtModel.readNumber(II)Z -/
def P_174 : bk_P := [(0, [.aload 0, .getfield 775, .sipush 3, .if_icmp .eq 14, .aload 0, .sipush 1, .invokestatic 1485513, .freturn]),
  (14, [.aload 0, .getfield 776, .iload 1, .iload 2, .invokestatic 1582925, .ifCond .ne 32, .aload 0, .sipush 2, .invokestatic 1485513, .freturn]),
  (32, [.aload 0, .aload 0, .getfield 776, .putfield 781, .aload 0, .invokestatic 960644, .sipush 1, .freturn])]
/-- BanksDealtModel.put(IZ)Z -/
def P_175 : bk_P := [(0, [.iload 2, .ifCond .eq 14, .aload 0, .getfield 486159, .iload 1, .aload 0, .getfield 781, .iastore, .goto 14]),
  (14, [.iload 2, .freturn])]
/-- BanksDealtModel.readLand()Z -/
def P_176 : bk_P := [(0, [.aload 0, .invokestatic 960644, .aload 0, .invokestatic 961605, .ifCond .ne 13, .sipush 0, .freturn]),
  (13, [.aload 0, .getfield 781, .istore 1, .aload 0, .aload 0, .getfield 486159, .sipush 3, .iaload, .invokestatic 1485961, .ifCond .ne 33, .sipush 0, .freturn]),
  (33, [.sipush 6, .aload 0, .getfield 776, .imul, .iload 1, .iadd, .istore 2, .aload 0, .getfield 559896, .iload 2, .baload, .ifCond .eq 58, .aload 0, .sipush 3, .invokestatic 1485513, .freturn]),
  (58, [.aload 0, .getfield 559896, .iload 2, .sipush 1, .bastore, .aload 0, .invokestatic 960644, .aload 0, .sipush 6, .iload 2, .iadd, .aload 0, .sipush 0, .sipush 9, .invokestatic 2009997, .invokestatic 2010061, .freturn])]
/-- BanksDealtModel.readX()Z -/
def P_177 : bk_P := [(0, [.aload 0, .sipush 1, .putfield 4890, .aload 0, .sipush 0, .aload 0, .getfield 486159, .sipush 2, .iaload, .sipush 1, .isub, .invokestatic 2009997, .freturn])]
/-- BanksDealtModel.isBelow(I)Z -/
def P_178 : bk_P := [(0, [.aload 0, .getfield 775, .sipush 3, .if_icmp .eq 14, .aload 0, .sipush 1, .invokestatic 1485513, .freturn]),
  (14, [.aload 0, .getfield 776, .iload 1, .if_icmp .lt 30, .aload 0, .sipush 2, .invokestatic 1485513, .ifCond .eq 34, .goto 30]),
  (30, [.sipush 1, .goto 35]),
  (34, [.sipush 0, .goto 35]),
  (35, [.freturn])]
/-- BanksDealtModel.readField()Z -/
def P_179 : bk_P := [(0, [.aload 0, .sipush 0, .sipush 10, .invokestatic 2010381, .ifCond .ne 12, .sipush 0, .freturn]),
  (12, [.aload 0, .getfield 486159, .sipush 0, .iaload, .istore 1, .aload 0, .iload 1, .invokestatic 1486153, .ifCond .eq 55, .aload 0, .sipush 42, .iload 1, .iadd, .aload 0, .invokestatic 961605, .invokestatic 2010061, .ifCond .eq 55, .aload 0, .aload 0, .getfield 486159, .sipush 3, .iaload, .invokestatic 1485961, .ifCond .ne 57, .goto 55]),
  (55, [.sipush 0, .freturn]),
  (57, [.aload 0, .aload 0, .getfield 486159, .sipush 42, .iload 1, .iadd, .iaload, .aload 0, .getfield 776, .invokestatic 2010637, .ifCond .eq 83, .aload 0, .sipush 3, .invokestatic 1485513, .freturn]),
  (83, [.aload 0, .getfield 486159, .sipush 52, .iload 1, .iadd, .aload 0, .getfield 776, .iastore, .aload 0, .invokestatic 960644, .aload 0, .sipush 62, .iload 1, .iadd, .aload 0, .sipush 1, .sipush 20, .invokestatic 2009997, .invokestatic 2010061, .ifCond .ne 120, .sipush 0, .freturn]),
  (120, [.aload 0, .getfield 486159, .sipush 0, .dup2, .iaload, .sipush 1, .iadd, .iastore, .sipush 1, .freturn])]
/-- BanksDealtModel.readFirst(II)Z -/
def P_180 : bk_P := [(0, [.aload 0, .getfield 486159, .iload 1, .iaload, .iload 2, .if_icmp .ne 16, .aload 0, .sipush 4, .invokestatic 1485513, .freturn]),
  (16, [.aload 0, .invokestatic 960644, .sipush 1, .freturn])]
/-- BanksDealtModel.readNew(I)Z -/
def P_181 : bk_P := [(0, [.aload 0, .invokestatic 961925, .ifCond .ne 13, .aload 0, .sipush 1, .invokestatic 1485513, .freturn]),
  (13, [.aload 0, .getfield 527124, .sipush 0, .aload 0, .getfield 486159, .sipush 0, .iaload, .aload 0, .getfield 1804, .invokestatic 2633169, .sipush (-1), .if_icmp .ne 58, .aload 0, .getfield 527124, .sipush 10, .aload 0, .getfield 486159, .sipush 1, .iaload, .aload 0, .getfield 1804, .invokestatic 2633169, .sipush (-1), .if_icmp .eq 64, .goto 58]),
  (58, [.aload 0, .sipush 3, .invokestatic 1485513, .freturn]),
  (64, [.aload 0, .getfield 527124, .iload 1, .aload 0, .getfield 1804, .lastore, .aload 0, .invokestatic 960644, .sipush 1, .freturn])]
/-- BanksDealtModel.isName()Z -/
def P_182 : bk_P := [(0, [.aload 0, .getfield 775, .sipush 2, .if_icmp .eq 10, .sipush 0, .freturn]),
  (10, [.sipush 0, .istore 1, .goto 12]),
  (12, [.iload 1, .sipush 24, .if_icmp .gt 38, .aload 0, .getfield 1804, .iload 1, .invokestatic 535046, .lcmp, .ifCond .ne 32, .sipush 0, .freturn]),
  (32, [.iinc 1 (1), .goto 12]),
  (38, [.sipush 1, .freturn])]
/-- BanksDealtModel.findIn([JIIJ)I -/
def P_183 : bk_P := [(0, [.sipush 0, .istore 5, .goto 3]),
  (3, [.iload 5, .iload 2, .if_icmp .ge 29, .aload 0, .iload 1, .iload 5, .iadd, .laload, .lload 3, .lcmp, .ifCond .ne 23, .iload 5, .ireturn]),
  (23, [.iinc 5 (1), .goto 3]),
  (29, [.sipush (-1), .ireturn])]
/-- BanksDealtModel.isField(II)Z -/
def P_184 : bk_P := [(0, [.sipush 0, .istore 3, .goto 2]),
  (2, [.iload 3, .aload 0, .getfield 486159, .sipush 0, .iaload, .if_icmp .ge 46, .aload 0, .getfield 486159, .sipush 42, .iload 3, .iadd, .iaload, .iload 1, .if_icmp .ne 40, .aload 0, .getfield 486159, .sipush 52, .iload 3, .iadd, .iaload, .iload 2, .if_icmp .ne 40, .sipush 1, .freturn]),
  (40, [.iinc 3 (1), .goto 2]),
  (46, [.sipush 0, .freturn])]
/-- BanksDealtModel.readMill()Z -/
def P_185 : bk_P := [(0, [.aload 0, .sipush 1, .sipush 3, .invokestatic 2010381, .ifCond .ne 11, .sipush 0, .freturn]),
  (11, [.aload 0, .getfield 486159, .sipush 1, .iaload, .istore 1, .aload 0, .sipush 10, .iload 1, .iadd, .invokestatic 1486153, .ifCond .eq 68, .aload 0, .sipush 72, .iload 1, .iadd, .aload 0, .invokestatic 961605, .invokestatic 2010061, .ifCond .eq 68, .aload 0, .sipush 75, .iload 1, .iadd, .aload 0, .sipush 0, .aload 0, .getfield 486159, .sipush 3, .iaload, .sipush 1, .isub, .invokestatic 2009997, .invokestatic 2010061, .ifCond .ne 70, .goto 68]),
  (68, [.sipush 0, .freturn]),
  (70, [.aload 0, .getfield 486159, .sipush 1, .dup2, .iaload, .sipush 1, .iadd, .iastore, .sipush 1, .freturn])]
/-- BanksDealtModel.readPurse()Z -/
def P_186 : bk_P := [(0, [.aload 0, .invokestatic 960644, .aload 0, .invokestatic 962245, .ifCond .ne 17, .aload 0, .sipush 1, .invokestatic 1485513, .freturn]),
  (17, [.aload 0, .sipush 15, .invokestatic 1485257, .ifCond .eq 30, .sipush 0, .goto 31]),
  (30, [.sipush 1, .goto 31]),
  (31, [.istore 1, .aload 0, .sipush 3, .iload 1, .iadd, .invokestatic 1485577, .ifCond .eq 64, .aload 0, .sipush 78, .iload 1, .iadd, .aload 0, .sipush 0, .sipush 99, .invokestatic 2009997, .invokestatic 2010061, .ifCond .eq 64, .sipush 1, .goto 65]),
  (64, [.sipush 0, .goto 65]),
  (65, [.freturn])]
/-- BanksDealtModel.isSideHere()Z -/
def P_187 : bk_P := [(0, [.aload 0, .sipush 15, .invokestatic 1485257, .ifCond .ne 18, .aload 0, .sipush 16, .invokestatic 1485257, .ifCond .eq 22, .goto 18]),
  (18, [.sipush 1, .goto 23]),
  (22, [.sipush 0, .goto 23]),
  (23, [.freturn])]
/-- BanksDealtModel.readEnd()Z -/
def P_188 : bk_P := [(0, [.aload 0, .sipush 59, .invokestatic 1486665, .ifCond .ne 15, .aload 0, .sipush 1, .invokestatic 1485513, .freturn]),
  (15, [.aload 0, .invokestatic 960644, .sipush 1, .freturn])]
/-- BanksDealtModel.isSign(I)Z -/
def P_189 : bk_P := [(0, [.aload 0, .getfield 775, .sipush 4, .if_icmp .ne 20, .aload 0, .getfield 777, .iload 1, .if_icmp .ne 20, .sipush 1, .goto 21]),
  (20, [.sipush 0, .goto 21]),
  (21, [.freturn])]
/-- BanksDealtModel.fault()I -/
def P_190 : bk_P := [(0, [.aload 0, .sipush 0, .putfield 768, .aload 0, .getfield 778, .ireturn])]
/-- BanksDealtModel.field(II)I -/
def P_191 : bk_P := [(0, [.aload 0, .sipush 0, .putfield 768, .aload 0, .iload 1, .invokestatic 1486857, .ifCond .ne 18, .aload 0, .invokestatic 962629, .ireturn]),
  (18, [.iload 2, .tableswitch 99 0 4 #[52, 62, 72, 82, 88]]),
  (52, [.aload 0, .getfield 477966, .sipush 42, .iload 1, .iadd, .iaload, .ireturn]),
  (62, [.aload 0, .getfield 477966, .sipush 52, .iload 1, .iadd, .iaload, .ireturn]),
  (72, [.aload 0, .getfield 477966, .sipush 62, .iload 1, .iadd, .iaload, .ireturn]),
  (82, [.aload 0, .iload 1, .invokestatic 1486985, .ireturn]),
  (88, [.aload 0, .getfield 477966, .sipush 136, .iload 1, .iadd, .iaload, .ireturn]),
  (99, [.aload 0, .invokestatic 962629, .ireturn])]
/-- BanksDealtModel.isFieldAt(I)Z -/
def P_192 : bk_P := [(0, [.iload 1, .sipush 0, .aload 0, .getfield 477966, .sipush 0, .iaload, .sipush 1, .isub, .invokestatic 1582925, .freturn])]
/-- BanksDealtModel.refuse()I -/
def P_193 : bk_P := [(0, [.aload 0, .sipush 1, .putfield 768, .sipush 0, .ireturn])]
/-- BanksDealtModel.whose(I)I -/
def P_194 : bk_P := [(0, [.aload 0, .aload 0, .getfield 477966, .sipush 42, .iload 1, .iadd, .iaload, .aload 0, .getfield 477966, .sipush 52, .iload 1, .iadd, .iaload, .invokestatic 2011341, .ireturn])]
/-- BanksDealtModel.bankOf(II)I -/
def P_195 : bk_P := [(0, [.iload 1, .aload 0, .getfield 477966, .sipush 121, .iload 2, .iadd, .iaload, .invokestatic 1061129, .ireturn])]
/-- BanksDealtModel.sideOf(II)I -/
def P_196 : bk_P := [(0, [.iload 0, .iload 1, .if_icmp .ge 9, .sipush 0, .goto 19]),
  (9, [.iload 0, .iload 1, .if_icmp .le 18, .sipush 1, .goto 19]),
  (18, [.sipush 2, .goto 19]),
  (19, [.ireturn])]
/-- BanksDealtModel.mill(II)I -/
def P_197 : bk_P := [(0, [.aload 0, .sipush 0, .putfield 768, .aload 0, .iload 1, .invokestatic 1487241, .ifCond .ne 15, .sipush (-1), .ireturn]),
  (15, [.iload 2, .tableswitch 104 0 3 #[48, 58, 69, 93]]),
  (48, [.aload 0, .getfield 477966, .sipush 127, .iload 1, .iadd, .iaload, .ireturn]),
  (58, [.aload 0, .getfield 477966, .sipush 130, .iload 1, .iadd, .iaload, .ireturn]),
  (69, [.aload 0, .aload 0, .getfield 477966, .sipush 127, .iload 1, .iadd, .iaload, .aload 0, .getfield 477966, .sipush 130, .iload 1, .iadd, .iaload, .invokestatic 2011341, .ireturn]),
  (93, [.aload 0, .getfield 477966, .sipush 133, .iload 1, .iadd, .iaload, .ireturn]),
  (104, [.sipush (-1), .ireturn])]
/-- BanksDealtModel.isMill(I)Z -/
def P_198 : bk_P := [(0, [.iload 1, .sipush 0, .aload 0, .getfield 477966, .sipush 1, .iaload, .sipush 1, .isub, .invokestatic 1582925, .freturn])]
/-- BanksDealtModel.height(II)I -/
def P_199 : bk_P := [(0, [.aload 0, .sipush 0, .putfield 768, .aload 0, .iload 1, .iload 2, .invokestatic 2008845, .ifCond .eq 31, .aload 0, .getfield 477966, .sipush 85, .sipush 6, .iload 2, .imul, .iadd, .iload 1, .iadd, .iaload, .goto 32]),
  (31, [.sipush (-1), .goto 32]),
  (32, [.ireturn])]
/-- BanksDealtModel.bank(II)I -/
def P_200 : bk_P := [(0, [.aload 0, .sipush 0, .putfield 768, .aload 0, .iload 1, .iload 2, .invokestatic 2008845, .ifCond .eq 23, .aload 0, .iload 1, .iload 2, .invokestatic 2011341, .goto 24]),
  (23, [.sipush (-1), .goto 24]),
  (24, [.ireturn])]
/-- BanksDealtModel.bed(I)I -/
def P_201 : bk_P := [(0, [.aload 0, .sipush 0, .putfield 768, .aload 0, .iload 1, .invokestatic 1487497, .ifCond .eq 25, .aload 0, .getfield 477966, .sipush 121, .iload 1, .iadd, .iaload, .goto 26]),
  (25, [.sipush (-1), .goto 26]),
  (26, [.ireturn])]
/-- BanksDealtModel.isRow(I)Z -/
def P_202 : bk_P := [(0, [.iload 1, .sipush 0, .aload 0, .getfield 477966, .sipush 3, .iaload, .sipush 1, .isub, .invokestatic 1582925, .freturn])]
/-- BanksDealtModel.side(II)I -/
def P_203 : bk_P := [(0, [.aload 0, .sipush 0, .putfield 768, .iload 1, .sipush 0, .sipush 1, .invokestatic 1582925, .ifCond .ne 16, .sipush (-1), .ireturn]),
  (16, [.iload 2, .tableswitch 84 0 3 #[48, 58, 64, 74]]),
  (48, [.aload 0, .getfield 477966, .sipush 81, .iload 1, .iadd, .iaload, .ireturn]),
  (58, [.aload 0, .iload 1, .invokestatic 1487625, .ireturn]),
  (64, [.aload 0, .aload 0, .iload 1, .invokestatic 1487625, .invokestatic 1487689, .ireturn]),
  (74, [.aload 0, .getfield 477966, .sipush 83, .iload 1, .iadd, .iaload, .ireturn]),
  (84, [.sipush (-1), .ireturn])]
/-- BanksDealtModel.fieldsOf(I)I -/
def P_204 : bk_P := [(0, [.sipush 0, .istore 2, .sipush 0, .istore 3, .goto 4]),
  (4, [.iload 3, .aload 0, .getfield 477966, .sipush 0, .iaload, .if_icmp .ge 35, .aload 0, .iload 3, .invokestatic 1486985, .iload 1, .if_icmp .ne 29, .iload 2, .sipush 1, .iload 3, .ishl, .ior, .istore 2, .goto 29]),
  (29, [.iinc 3 (1), .goto 4]),
  (35, [.iload 2, .ireturn])]
/-- BanksDealtModel.worthOf(I)I -/
def P_205 : bk_P := [(0, [.sipush 0, .istore 2, .sipush 0, .istore 3, .goto 4]),
  (4, [.iload 3, .sipush 10, .if_icmp .ge 36, .iload 1, .iload 3, .invokestatic 1061769, .ifCond .eq 30, .iload 2, .aload 0, .getfield 477966, .sipush 62, .iload 3, .iadd, .iaload, .iadd, .istore 2, .goto 30]),
  (30, [.iinc 3 (1), .goto 4]),
  (36, [.iload 2, .ireturn])]
/-- BanksDealtModel.has(II)Z -/
def P_206 : bk_P := [(0, [.iload 0, .iload 1, .ishr, .sipush 1, .iand, .sipush 1, .if_icmp .ne 13, .sipush 1, .goto 14]),
  (13, [.sipush 0, .goto 14]),
  (14, [.freturn])]
/-- BanksDealtModel.now(I)I -/
def P_207 : bk_P := [(0, [.aload 0, .sipush 0, .putfield 768, .sipush 0, .istore 2, .iload 1, .tableswitch 178 0 4 #[44, 52, 58, 103, 149]]),
  (44, [.aload 0, .getfield 477966, .sipush 80, .iaload, .ireturn]),
  (52, [.aload 0, .sipush 2, .invokestatic 1487625, .ireturn]),
  (58, [.sipush 0, .istore 3, .goto 60]),
  (60, [.iload 3, .aload 0, .getfield 477966, .sipush 3, .iaload, .if_icmp .ge 101, .iload 2, .aload 0, .getfield 477966, .sipush 85, .sipush 6, .iload 3, .imul, .iadd, .aload 0, .getfield 477966, .sipush 121, .iload 3, .iadd, .iaload, .iadd, .iaload, .iadd, .istore 2, .iinc 3 (1), .goto 60]),
  (101, [.iload 2, .ireturn]),
  (103, [.sipush 1, .istore 3, .goto 105]),
  (105, [.iload 3, .aload 0, .getfield 477966, .sipush 3, .iaload, .if_icmp .ge 147, .aload 0, .getfield 477966, .sipush 121, .iload 3, .iadd, .iaload, .aload 0, .getfield 477966, .sipush 121, .iload 3, .iadd, .sipush 1, .isub, .iaload, .if_icmp .eq 141, .iinc 2 (1), .goto 141]),
  (141, [.iinc 3 (1), .goto 105]),
  (147, [.iload 2, .ireturn]),
  (149, [.sipush 0, .istore 3, .goto 151]),
  (151, [.iload 3, .sipush 10, .if_icmp .ge 176, .iload 2, .aload 0, .getfield 477966, .sipush 136, .iload 3, .iadd, .iaload, .iadd, .istore 2, .iinc 3 (1), .goto 151]),
  (176, [.iload 2, .ireturn]),
  (178, [.sipush (-1), .ireturn])]
/-- BanksDealtModel.dig(III)I -/
def P_208 : bk_P := [(0, [.aload 0, .sipush 0, .putfield 768, .iload 1, .sipush 0, .sipush 1, .invokestatic 1582925, .ifCond .eq 34, .aload 0, .iload 2, .iload 3, .invokestatic 2008845, .ifCond .eq 34, .aload 0, .sipush 0, .iload 1, .iload 2, .iload 3, .invokestatic 3060821, .goto 35]),
  (34, [.sipush (-1), .goto 35]),
  (35, [.ireturn])]
/-- BanksDealtModel.act(IIII)I -/
def P_209 : bk_P := [(0, [.aload 0, .iload 1, .iload 2, .iload 3, .iload 4, .invokestatic 3060885, .istore 5, .iload 5, .ifCond .eq 19, .iload 5, .ireturn]),
  (19, [.aload 0, .invokestatic 963908, .aload 0, .iload 1, .iload 2, .iload 3, .iload 4, .invokestatic 3061140, .sipush 0, .ireturn])]
/-- BanksDealtModel.why(IIII)I -/
def P_210 : bk_P := [(0, [.iload 1, .sipush 4, .if_icmp .ne 77, .aload 0, .getfield 477966, .sipush 127, .iload 2, .iadd, .iaload, .iload 3, .isub, .invokestatic 537797, .aload 0, .getfield 477966, .sipush 130, .iload 2, .iadd, .iaload, .iload 4, .isub, .invokestatic 537797, .iadd, .sipush 1, .if_icmp .eq 44, .sipush 1, .goto 76]),
  (44, [.aload 0, .aload 0, .getfield 477966, .sipush 127, .iload 2, .iadd, .iaload, .aload 0, .getfield 477966, .sipush 130, .iload 2, .iadd, .iaload, .invokestatic 2011341, .sipush 2, .if_icmp .ne 75, .sipush 2, .goto 76]),
  (75, [.sipush 0, .goto 76]),
  (76, [.ireturn]),
  (77, [.aload 0, .getfield 477966, .sipush 81, .iload 2, .iadd, .iaload, .ifCond .ne 93, .sipush 1, .goto 127]),
  (93, [.aload 0, .iload 3, .iload 4, .invokestatic 2011341, .sipush 1, .iload 2, .isub, .if_icmp .ne 110, .sipush 2, .goto 127]),
  (110, [.aload 0, .iload 1, .iload 2, .iload 3, .iload 4, .invokestatic 3061013, .ifCond .eq 126, .sipush 0, .goto 127]),
  (126, [.sipush 3, .goto 127]),
  (127, [.ireturn])]
/-- BanksDealtModel.size(I)I -/
def P_211 : bk_P := [(0, [.iload 0, .ifCond .ge 9, .iload 0, .ineg, .goto 10]),
  (9, [.iload 0, .goto 10]),
  (10, [.ireturn])]
/-- BanksDealtModel.mayWork(IIII)Z -/
def P_212 : bk_P := [(0, [.aload 0, .iload 3, .iload 4, .invokestatic 2011341, .sipush 1, .iload 2, .isub, .if_icmp .eq 45, .aload 0, .getfield 477966, .sipush 85, .sipush 6, .iload 4, .imul, .iadd, .iload 3, .iadd, .iaload, .iload 1, .ifCond .ne 36, .sipush 0, .goto 38]),
  (36, [.sipush 9, .goto 38]),
  (38, [.if_icmp .eq 45, .sipush 1, .goto 46]),
  (45, [.sipush 0, .goto 46]),
  (46, [.freturn])]
/-- BanksDealtModel.snap()V -/
def P_213 : bk_P := [(0, [.aload 0, .getfield 793, .sipush 8, .if_icmp .ne 49, .sipush 0, .istore 1, .goto 11]),
  (11, [.iload 1, .sipush 805, .if_icmp .ge 39, .aload 0, .getfield 502545, .iload 1, .aload 0, .getfield 502545, .iload 1, .sipush 115, .iadd, .iaload, .iastore, .iinc 1 (1), .goto 11]),
  (39, [.aload 0, .dup, .getfield 793, .sipush 1, .isub, .putfield 793, .goto 49]),
  (49, [.sipush 0, .istore 1, .goto 51]),
  (51, [.iload 1, .sipush 115, .if_icmp .ge 86, .aload 0, .getfield 502545, .sipush 115, .aload 0, .getfield 793, .imul, .iload 1, .iadd, .aload 0, .getfield 477966, .sipush 80, .iload 1, .iadd, .iaload, .iastore, .iinc 1 (1), .goto 51]),
  (86, [.aload 0, .dup, .getfield 793, .sipush 1, .iadd, .putfield 793, .return_])]
/-- BanksDealtModel.live(IIII)V -/
def P_214 : bk_P := [(0, [.iload 1, .sipush 4, .if_icmp .ne 42, .aload 0, .getfield 477966, .sipush 127, .iload 2, .iadd, .iload 3, .iastore, .aload 0, .getfield 477966, .sipush 130, .iload 2, .iadd, .iload 4, .iastore, .aload 0, .getfield 477966, .sipush 133, .iload 2, .iadd, .dup2, .iaload, .sipush 1, .iadd, .iastore, .return_]),
  (42, [.aload 0, .getfield 477966, .sipush 81, .iload 2, .iadd, .dup2, .iaload, .sipush 1, .isub, .iastore, .aload 0, .getfield 477966, .sipush 83, .iload 2, .iadd, .dup2, .iaload, .sipush 1, .iadd, .iastore, .aload 0, .getfield 477966, .sipush 85, .sipush 6, .iload 4, .imul, .iadd, .iload 3, .iadd, .dup2, .iaload, .iload 1, .ifCond .ne 92, .sipush (-1), .goto 93]),
  (92, [.sipush 1, .goto 93]),
  (93, [.iadd, .iastore, .return_])]
/-- BanksDealtModel.lay(III)I -/
def P_215 : bk_P := [(0, [.aload 0, .sipush 0, .putfield 768, .iload 1, .sipush 0, .sipush 1, .invokestatic 1582925, .ifCond .eq 34, .aload 0, .iload 2, .iload 3, .invokestatic 2008845, .ifCond .eq 34, .aload 0, .sipush 1, .iload 1, .iload 2, .iload 3, .invokestatic 3060821, .goto 35]),
  (34, [.sipush (-1), .goto 35]),
  (35, [.ireturn])]
/-- BanksDealtModel.roll(III)I -/
def P_216 : bk_P := [(0, [.aload 0, .sipush 0, .putfield 768, .aload 0, .iload 1, .invokestatic 1487241, .ifCond .eq 33, .aload 0, .iload 2, .iload 3, .invokestatic 2008845, .ifCond .eq 33, .aload 0, .sipush 4, .iload 1, .iload 2, .iload 3, .invokestatic 3060821, .goto 34]),
  (33, [.sipush (-1), .goto 34]),
  (34, [.ireturn])]
/-- BanksDealtModel.undo()I -/
def P_217 : bk_P := [(0, [.aload 0, .sipush 0, .putfield 768, .aload 0, .getfield 793, .ifCond .ne 14, .sipush (-1), .ireturn]),
  (14, [.aload 0, .dup, .getfield 793, .sipush 1, .isub, .putfield 793, .sipush 0, .istore 1, .goto 26]),
  (26, [.iload 1, .sipush 115, .if_icmp .ge 61, .aload 0, .getfield 477966, .sipush 80, .iload 1, .iadd, .aload 0, .getfield 502545, .sipush 115, .aload 0, .getfield 793, .imul, .iload 1, .iadd, .iaload, .iastore, .iinc 1 (1), .goto 26]),
  (61, [.aload 0, .getfield 793, .ireturn])]
/-- BanksDealtModel.spring(I)I -/
def P_218 : bk_P := [(0, [.aload 0, .sipush 0, .putfield 768, .aload 0, .getfield 477966, .sipush 80, .iaload, .sipush 400, .if_icmp .ne 20, .sipush (-1), .ireturn]),
  (20, [.aload 0, .invokestatic 963908, .aload 0, .iload 1, .putfield 798, .aload 0, .invokestatic 964293, .ireturn])]
/-- BanksDealtModel.oneSpring()I -/
def P_219 : bk_P := [(0, [.sipush 0, .istore 1, .goto 2]),
  (2, [.iload 1, .aload 0, .getfield 477966, .sipush 3, .iaload, .if_icmp .ge 59, .sipush 0, .istore 2, .goto 14]),
  (14, [.iload 2, .aload 0, .getfield 477966, .sipush 2, .iaload, .if_icmp .ge 53, .aload 0, .getfield 568091, .sipush 6, .iload 1, .imul, .iload 2, .iadd, .aload 0, .aload 0, .getfield 477966, .sipush 5, .iaload, .sipush 1, .iadd, .invokestatic 1488649, .iastore, .iinc 2 (1), .goto 14]),
  (53, [.iinc 1 (1), .goto 2]),
  (59, [.aload 0, .invokestatic 960069, .pop, .aload 0, .invokestatic 960004, .aload 0, .invokestatic 964420, .sipush 0, .istore 1, .sipush 0, .istore 2, .goto 76]),
  (76, [.iload 2, .aload 0, .getfield 477966, .sipush 0, .iaload, .if_icmp .ge 125, .aload 0, .iload 2, .invokestatic 1486985, .aload 0, .iload 2, .invokestatic 1488777, .if_icmp .ne 102, .goto 119]),
  (102, [.aload 0, .getfield 477966, .sipush 136, .iload 2, .iadd, .dup2, .iaload, .sipush 1, .iadd, .iastore, .iinc 1 (1), .goto 119]),
  (119, [.iinc 2 (1), .goto 76]),
  (125, [.sipush 0, .istore 2, .goto 127]),
  (127, [.iload 2, .aload 0, .getfield 477966, .sipush 3, .iaload, .if_icmp .ge 158, .aload 0, .getfield 477966, .sipush 121, .iload 2, .iadd, .aload 0, .getfield 584477, .iload 2, .iaload, .iastore, .iinc 2 (1), .goto 127]),
  (158, [.aload 0, .sipush 0, .invokestatic 1488840, .aload 0, .sipush 1, .invokestatic 1488840, .aload 0, .getfield 477966, .sipush 80, .dup2, .iaload, .sipush 1, .iadd, .iastore, .iload 1, .ireturn])]
/-- BanksDealtModel.draw(I)I -/
def P_220 : bk_P := [(0, [.aload 0, .aload 0, .getfield 798, .sipush 1103515245, .dmul, .sipush 12345, .dadd, .putfield 798, .aload 0, .getfield 798, .sipush 8, .iushr, .iload 1, .irem, .ireturn])]
/-- BanksDealtModel.keepPast()V -/
def P_221 : bk_P := [(0, [.sipush 47, .istore 1, .goto 3]),
  (3, [.iload 1, .sipush 6, .if_icmp .lt 38, .aload 0, .getfield 477966, .sipush 146, .iload 1, .iadd, .aload 0, .getfield 477966, .sipush 146, .iload 1, .iadd, .sipush 6, .isub, .iaload, .iastore, .iinc 1 (-1), .goto 3]),
  (38, [.sipush 0, .istore 1, .goto 40]),
  (40, [.iload 1, .sipush 6, .if_icmp .ge 71, .aload 0, .getfield 477966, .sipush 146, .iload 1, .iadd, .aload 0, .getfield 477966, .sipush 121, .iload 1, .iadd, .iaload, .iastore, .iinc 1 (1), .goto 40]),
  (71, [.aload 0, .getfield 477966, .sipush 194, .iaload, .sipush 8, .if_icmp .ge 96, .aload 0, .getfield 477966, .sipush 194, .dup2, .iaload, .sipush 1, .iadd, .iastore, .goto 96]),
  (96, [.return_])]
/-- BanksDealtModel.whoseByBest(I)I -/
def P_222 : bk_P := [(0, [.aload 0, .getfield 477966, .sipush 42, .iload 1, .iadd, .iaload, .aload 0, .getfield 584477, .aload 0, .getfield 477966, .sipush 52, .iload 1, .iadd, .iaload, .iaload, .invokestatic 1061129, .ireturn])]
/-- BanksDealtModel.earns(I)V -/
def P_223 : bk_P := [(0, [.aload 0, .aload 0, .iload 1, .invokestatic 1487625, .invokestatic 1487689, .sipush 4, .idiv, .istore 2, .sipush 0, .istore 3, .goto 14]),
  (14, [.iload 3, .aload 0, .getfield 477966, .sipush 1, .iaload, .if_icmp .ge 60, .aload 0, .aload 0, .getfield 477966, .sipush 127, .iload 3, .iadd, .iaload, .aload 0, .getfield 477966, .sipush 130, .iload 3, .iadd, .iaload, .invokestatic 2011341, .iload 1, .if_icmp .ne 54, .iinc 2 (2), .goto 54]),
  (54, [.iinc 3 (1), .goto 14]),
  (60, [.aload 0, .getfield 477966, .sipush 81, .iload 1, .iadd, .sipush 999, .aload 0, .getfield 477966, .sipush 81, .iload 1, .iadd, .iaload, .iload 2, .iadd, .invokestatic 1058697, .iastore, .return_])]
/-- BanksDealtModel.years(II)I -/
def P_224 : bk_P := [(0, [.aload 0, .sipush 0, .putfield 768, .iload 1, .sipush 1, .sipush 30, .invokestatic 1582925, .ifCond .ne 17, .sipush (-1), .ireturn]),
  (17, [.aload 0, .getfield 477966, .sipush 80, .iaload, .sipush 400, .if_icmp .ne 32, .sipush 0, .ireturn]),
  (32, [.aload 0, .invokestatic 963908, .aload 0, .iload 1, .iload 2, .invokestatic 2013261, .ireturn])]
/-- BanksDealtModel.passYears(II)I -/
def P_225 : bk_P := [(0, [.aload 0, .iload 2, .putfield 798, .iload 1, .sipush 400, .aload 0, .getfield 477966, .sipush 80, .iaload, .isub, .invokestatic 1058697, .istore 3, .sipush 0, .istore 4, .goto 24]),
  (24, [.iload 4, .iload 3, .if_icmp .ge 41, .aload 0, .invokestatic 964293, .pop, .iinc 4 (1), .goto 24]),
  (41, [.iload 3, .ireturn])]
/-- BanksDealtModel.ago(II)I -/
def P_226 : bk_P := [(0, [.aload 0, .sipush 0, .putfield 768, .iload 1, .sipush 1, .aload 0, .getfield 477966, .sipush 194, .iaload, .invokestatic 1582925, .ifCond .eq 49, .aload 0, .iload 2, .invokestatic 1487497, .ifCond .eq 49, .aload 0, .getfield 477966, .sipush 146, .sipush 6, .iload 1, .sipush 1, .isub, .imul, .iadd, .iload 2, .iadd, .iaload, .goto 50]),
  (49, [.sipush (-1), .goto 50]),
  (50, [.ireturn])]
/-- BanksDealtModel.would()I -/
def P_227 : bk_P := [(0, [.aload 0, .sipush 0, .putfield 768, .aload 0, .invokestatic 960069, .ireturn])]
/-- BanksDealtModel.wouldAt(I)I -/
def P_228 : bk_P := [(0, [.aload 0, .sipush 0, .putfield 768, .aload 0, .iload 1, .invokestatic 1487497, .ifCond .ne 15, .sipush (-1), .ireturn]),
  (15, [.aload 0, .invokestatic 960069, .pop, .aload 0, .getfield 584477, .iload 1, .iaload, .ireturn])]
/-- BanksDealtModel.wouldBe(I)I -/
def P_229 : bk_P := [(0, [.aload 0, .sipush 0, .putfield 768, .iload 1, .sipush 0, .sipush 2, .invokestatic 1582925, .ifCond .ne 16, .sipush (-1), .ireturn]),
  (16, [.aload 0, .invokestatic 960069, .pop, .aload 0, .iload 1, .invokestatic 1489289, .ireturn])]
/-- BanksDealtModel.fieldsByBest(I)I -/
def P_230 : bk_P := [(0, [.sipush 0, .istore 2, .sipush 0, .istore 3, .goto 4]),
  (4, [.iload 3, .aload 0, .getfield 477966, .sipush 0, .iaload, .if_icmp .ge 35, .aload 0, .iload 3, .invokestatic 1488777, .iload 1, .if_icmp .ne 29, .iload 2, .sipush 1, .iload 3, .ishl, .ior, .istore 2, .goto 29]),
  (29, [.iinc 3 (1), .goto 4]),
  (35, [.iload 2, .ireturn])]
/-- BanksDealtModel.tempted(III)I -/
def P_231 : bk_P := [(0, [.aload 0, .sipush 0, .putfield 768, .aload 0, .iload 1, .invokestatic 1486857, .ifCond .eq 31, .iload 2, .sipush 0, .sipush 1, .invokestatic 1582925, .ifCond .eq 31, .iload 3, .sipush 0, .sipush 1, .invokestatic 1582925, .ifCond .ne 33, .goto 31]),
  (31, [.sipush (-1), .ireturn]),
  (33, [.sipush 0, .istore 4, .goto 36]),
  (36, [.iload 4, .sipush 3, .if_icmp .gt 104, .aload 0, .sipush 0, .iload 4, .sipush 0, .iload 1, .iload 2, .iload 3, .invokestatic 4110877, .ifCond .ne 59, .goto 98]),
  (59, [.aload 0, .iload 4, .putfield 801, .sipush 0, .istore 5, .goto 68]),
  (68, [.iload 5, .iload 4, .if_icmp .ge 95, .aload 0, .getfield 600864, .iload 5, .aload 0, .getfield 592671, .iload 5, .iaload, .iastore, .iinc 5 (1), .goto 68]),
  (95, [.iload 4, .ireturn]),
  (98, [.iinc 4 (1), .goto 36]),
  (104, [.sipush (-1), .ireturn])]
/-- BanksDealtModel.tempts(IIIIII)Z -/
def P_232 : bk_P := [(0, [.iload 1, .iload 2, .if_icmp .ne 27, .aload 0, .invokestatic 960069, .pop, .aload 0, .iload 4, .invokestatic 1488777, .iload 5, .if_icmp .ne 25, .sipush 1, .goto 26]),
  (25, [.sipush 0, .goto 26]),
  (26, [.freturn]),
  (27, [.iload 3, .istore 7, .goto 30]),
  (30, [.iload 7, .sipush 36, .if_icmp .ge 163, .iload 7, .sipush 6, .irem, .istore 8, .iload 7, .sipush 6, .idiv, .istore 9, .aload 0, .iload 8, .iload 9, .invokestatic 2008845, .ifCond .eq 157, .aload 0, .iload 6, .iload 5, .iload 8, .iload 9, .invokestatic 3061013, .ifCond .ne 80, .goto 157]),
  (80, [.iload 6, .ifCond .ne 89, .sipush (-1), .goto 90]),
  (89, [.sipush 1, .goto 90]),
  (90, [.istore 10, .aload 0, .getfield 477966, .sipush 85, .iload 7, .iadd, .dup2, .iaload, .iload 10, .iadd, .iastore, .aload 0, .getfield 592671, .iload 1, .iload 7, .iastore, .aload 0, .iload 1, .sipush 1, .iadd, .iload 2, .iload 7, .sipush 1, .iadd, .iload 4, .iload 5, .iload 6, .invokestatic 4110877, .istore 11, .aload 0, .getfield 477966, .sipush 85, .iload 7, .iadd, .dup2, .iaload, .iload 10, .isub, .iastore, .iload 11, .ifCond .eq 157, .sipush 1, .freturn]),
  (157, [.iinc 7 (1), .goto 30]),
  (163, [.sipush 0, .freturn])]
/-- BanksDealtModel.temptedAt(I)I -/
def P_233 : bk_P := [(0, [.aload 0, .sipush 0, .putfield 768, .iload 1, .sipush 0, .aload 0, .getfield 801, .sipush 1, .isub, .invokestatic 1582925, .ifCond .eq 28, .aload 0, .getfield 600864, .iload 1, .iaload, .goto 29]),
  (28, [.sipush (-1), .goto 29]),
  (29, [.ireturn])]
/-- BanksDealtModel.duel(I)I -/
def P_234 : bk_P := [(0, [.aload 0, .sipush 0, .putfield 768, .iload 1, .sipush 0, .sipush 1, .invokestatic 1582925, .ifCond .ne 19, .aload 0, .invokestatic 962629, .ireturn]),
  (19, [.aload 0, .iload 1, .invokestatic 1489609, .istore 2, .aload 0, .getfield 609058, .sipush 0, .sipush (-2), .iastore, .aload 0, .getfield 609058, .sipush 1, .aload 0, .getfield 804, .iastore, .aload 0, .sipush 1, .putfield 4899, .aload 0, .getfield 477966, .sipush 81, .iload 1, .iadd, .iaload, .ifCond .ne 62, .iload 2, .ireturn]),
  (62, [.sipush 0, .istore 3, .goto 64]),
  (64, [.iload 3, .sipush 72, .if_icmp .ge 162, .aload 0, .iload 3, .iload 1, .invokestatic 2014029, .ifCond .ne 82, .goto 156]),
  (82, [.aload 0, .getfield 477966, .sipush 85, .iload 3, .sipush 36, .irem, .iadd, .dup2, .iaload, .iload 3, .invokestatic 539525, .iadd, .iastore, .aload 0, .iload 1, .invokestatic 1489609, .istore 4, .aload 0, .getfield 477966, .sipush 85, .iload 3, .sipush 36, .irem, .iadd, .dup2, .iaload, .iload 3, .invokestatic 539525, .isub, .iastore, .iload 4, .iload 2, .if_icmp .gt 136, .goto 156]),
  (136, [.iload 4, .istore 2, .aload 0, .getfield 609058, .sipush 0, .iload 3, .iastore, .aload 0, .getfield 609058, .sipush 1, .aload 0, .getfield 804, .iastore, .goto 156]),
  (156, [.iinc 3 (1), .goto 64]),
  (162, [.iload 2, .ireturn])]
/-- BanksDealtModel.answered(I)I -/
def P_235 : bk_P := [(0, [.aload 0, .iload 1, .invokestatic 1489673, .istore 2, .aload 0, .sipush (-2), .putfield 804, .aload 0, .getfield 477966, .sipush 82, .iload 1, .isub, .iaload, .ifCond .ne 26, .iload 2, .ireturn]),
  (26, [.sipush 0, .istore 3, .goto 28]),
  (28, [.iload 3, .sipush 72, .if_icmp .ge 116, .aload 0, .iload 3, .sipush 1, .iload 1, .isub, .invokestatic 2014029, .ifCond .ne 48, .goto 110]),
  (48, [.aload 0, .getfield 477966, .sipush 85, .iload 3, .sipush 36, .irem, .iadd, .dup2, .iaload, .iload 3, .invokestatic 539525, .iadd, .iastore, .aload 0, .iload 1, .invokestatic 1489673, .istore 4, .aload 0, .getfield 477966, .sipush 85, .iload 3, .sipush 36, .irem, .iadd, .dup2, .iaload, .iload 3, .invokestatic 539525, .isub, .iastore, .iload 4, .iload 2, .if_icmp .lt 102, .goto 110]),
  (102, [.iload 4, .istore 2, .aload 0, .iload 3, .putfield 804, .goto 110]),
  (110, [.iinc 3 (1), .goto 28]),
  (116, [.iload 2, .ireturn])]
/-- BanksDealtModel.edge(I)I -/
def P_236 : bk_P := [(0, [.aload 0, .invokestatic 960069, .pop, .aload 0, .aload 0, .iload 1, .invokestatic 1489289, .invokestatic 1487689, .aload 0, .aload 0, .sipush 1, .iload 1, .isub, .invokestatic 1489289, .invokestatic 1487689, .isub, .ireturn])]
/-- BanksDealtModel.mayCode(II)Z -/
def P_237 : bk_P := [(0, [.iload 1, .sipush 36, .irem, .istore 3, .aload 0, .iload 3, .sipush 6, .irem, .iload 3, .sipush 6, .idiv, .invokestatic 2008845, .ifCond .eq 44, .aload 0, .iload 1, .sipush 36, .idiv, .iload 2, .iload 3, .sipush 6, .irem, .iload 3, .sipush 6, .idiv, .invokestatic 3061013, .ifCond .eq 44, .sipush 1, .goto 45]),
  (44, [.sipush 0, .goto 45]),
  (45, [.freturn])]
/-- BanksDealtModel.byCode(I)I -/
def P_238 : bk_P := [(0, [.iload 0, .sipush 36, .if_icmp .ge 10, .sipush (-1), .goto 11]),
  (10, [.sipush 1, .goto 11]),
  (11, [.ireturn])]
/-- BanksDealtModel.duelAt(I)I -/
def P_239 : bk_P := [(0, [.aload 0, .sipush 0, .putfield 768, .aload 0, .getfield 4899, .ifCond .eq 30, .iload 1, .sipush 0, .sipush 1, .invokestatic 1582925, .ifCond .eq 30, .aload 0, .getfield 609058, .iload 1, .iaload, .goto 31]),
  (30, [.sipush (-1), .goto 31]),
  (31, [.ireturn])]
/-- BanksDealtModel.pushed(II)I -/
def P_240 : bk_P := [(0, [.aload 0, .sipush 0, .putfield 768, .iload 1, .sipush 0, .sipush 1, .invokestatic 1582925, .ifCond .eq 23, .iload 2, .sipush 0, .sipush 2, .invokestatic 1582925, .ifCond .ne 25, .goto 23]),
  (23, [.sipush (-1), .ireturn]),
  (25, [.aload 0, .sipush (-1), .putfield 808, .sipush 0, .istore 3, .goto 32]),
  (32, [.iload 3, .iload 2, .if_icmp .gt 51, .aload 0, .sipush 0, .iload 3, .sipush 0, .iload 1, .invokestatic 3062868, .iinc 3 (1), .goto 32]),
  (51, [.aload 0, .getfield 808, .ireturn])]
/-- BanksDealtModel.pushFrom(IIII)V -/
def P_241 : bk_P := [(0, [.iload 1, .iload 2, .if_icmp .ne 73, .aload 0, .invokestatic 960069, .pop, .aload 0, .aload 0, .iload 4, .invokestatic 1489289, .invokestatic 1487689, .istore 5, .iload 5, .aload 0, .getfield 808, .if_icmp .gt 32, .return_]),
  (32, [.aload 0, .iload 5, .putfield 808, .aload 0, .iload 2, .putfield 807, .sipush 0, .istore 6, .goto 46]),
  (46, [.iload 6, .iload 2, .if_icmp .ge 72, .aload 0, .getfield 625446, .iload 6, .aload 0, .getfield 617253, .iload 6, .iaload, .iastore, .iinc 6 (1), .goto 46]),
  (72, [.return_]),
  (73, [.iload 3, .istore 5, .goto 76]),
  (76, [.iload 5, .sipush 72, .if_icmp .ge 188, .iload 1, .ifCond .le 104, .iload 5, .sipush 36, .irem, .aload 0, .getfield 617253, .sipush 0, .iaload, .sipush 36, .irem, .if_icmp .eq 182, .goto 104]),
  (104, [.aload 0, .iload 5, .iload 4, .invokestatic 2014029, .ifCond .ne 118, .goto 182]),
  (118, [.aload 0, .getfield 477966, .sipush 85, .iload 5, .sipush 36, .irem, .iadd, .dup2, .iaload, .iload 5, .invokestatic 539525, .iadd, .iastore, .aload 0, .getfield 617253, .iload 1, .iload 5, .iastore, .aload 0, .iload 1, .sipush 1, .iadd, .iload 2, .iload 5, .sipush 1, .iadd, .iload 4, .invokestatic 3062868, .aload 0, .getfield 477966, .sipush 85, .iload 5, .sipush 36, .irem, .iadd, .dup2, .iaload, .iload 5, .invokestatic 539525, .isub, .iastore, .goto 182]),
  (182, [.iinc 5 (1), .goto 76]),
  (188, [.return_])]
/-- BanksDealtModel.pushedAt(I)I -/
def P_242 : bk_P := [(0, [.aload 0, .sipush 0, .putfield 768, .iload 1, .sipush 0, .aload 0, .getfield 807, .sipush 1, .isub, .invokestatic 1582925, .ifCond .eq 28, .aload 0, .getfield 625446, .iload 1, .iaload, .goto 29]),
  (28, [.sipush (-1), .goto 29]),
  (29, [.ireturn])]
/-- BanksDealtModel.shares(IIII)I -/
def P_243 : bk_P := [(0, [.aload 0, .sipush 0, .putfield 768, .iload 1, .sipush 0, .sipush 1, .invokestatic 1582925, .ifCond .eq 34, .iload 2, .sipush 1, .sipush 10, .invokestatic 1582925, .ifCond .eq 34, .iload 3, .sipush 1, .sipush 30, .invokestatic 1582925, .ifCond .ne 36, .goto 34]),
  (34, [.sipush (-1), .ireturn]),
  (36, [.aload 0, .invokestatic 965892, .sipush 0, .istore 5, .sipush 0, .istore 6, .goto 46]),
  (46, [.iload 6, .iload 3, .if_icmp .ge 118, .aload 0, .iload 4, .iload 6, .dadd, .putfield 798, .sipush 0, .istore 7, .goto 64]),
  (64, [.iload 7, .iload 2, .if_icmp .ge 108, .aload 0, .getfield 477966, .sipush 80, .iaload, .sipush 400, .if_icmp .ge 108, .aload 0, .invokestatic 964293, .pop, .iload 5, .aload 0, .aload 0, .iload 1, .invokestatic 1487625, .invokestatic 1487689, .dadd, .istore 5, .iinc 7 (1), .goto 64]),
  (108, [.aload 0, .invokestatic 965956, .iinc 6 (1), .goto 46]),
  (118, [.iload 5, .ireturn])]
/-- BanksDealtModel.layAside()V -/
def P_244 : bk_P := [(0, [.sipush 0, .istore 1, .goto 2]),
  (2, [.iload 1, .sipush 115, .if_icmp .ge 29, .aload 0, .getfield 510738, .iload 1, .aload 0, .getfield 477966, .sipush 80, .iload 1, .iadd, .iaload, .iastore, .iinc 1 (1), .goto 2]),
  (29, [.return_])]
/-- BanksDealtModel.takeBack()V -/
def P_245 : bk_P := [(0, [.sipush 0, .istore 1, .goto 2]),
  (2, [.iload 1, .sipush 115, .if_icmp .ge 29, .aload 0, .getfield 477966, .sipush 80, .iload 1, .iadd, .aload 0, .getfield 510738, .iload 1, .iaload, .iastore, .iinc 1 (1), .goto 2]),
  (29, [.return_])]
/-- BanksDealtModel.odds(IIIII)I -/
def P_246 : bk_P := [(0, [.aload 0, .sipush 0, .putfield 768, .aload 0, .iload 1, .invokestatic 1486857, .ifCond .eq 43, .iload 2, .sipush 0, .sipush 2, .invokestatic 1582925, .ifCond .eq 43, .iload 3, .sipush 1, .sipush 10, .invokestatic 1582925, .ifCond .eq 43, .iload 4, .sipush 1, .sipush 30, .invokestatic 1582925, .ifCond .ne 45, .goto 43]),
  (43, [.sipush (-1), .ireturn]),
  (45, [.aload 0, .invokestatic 965892, .sipush 0, .istore 6, .sipush 0, .istore 7, .goto 55]),
  (55, [.iload 7, .iload 4, .if_icmp .ge 95, .aload 0, .iload 3, .iload 5, .iload 7, .dadd, .invokestatic 2013261, .pop, .aload 0, .iload 1, .invokestatic 1486985, .iload 2, .if_icmp .ne 85, .iinc 6 (1), .goto 85]),
  (85, [.aload 0, .invokestatic 965956, .iinc 7 (1), .goto 55]),
  (95, [.iload 6, .ireturn])]
/-- BanksDealtModel.ran()I -/
def P_247 : bk_P := [(0, [.aload 0, .sipush 0, .putfield 768, .aload 0, .invokestatic 960581, .istore 1, .iload 1, .sipush 2, .irem, .ifCond .ne 28, .iload 1, .sipush 2, .idiv, .sipush 1, .sipush 10, .invokestatic 1582925, .ifCond .ne 30, .goto 28]),
  (28, [.sipush (-1), .ireturn]),
  (30, [.sipush 0, .istore 2, .goto 32]),
  (32, [.iload 2, .iload 1, .if_icmp .ge 70, .aload 0, .aload 0, .getfield 469761, .iload 2, .iaload, .invokestatic 1486857, .ifCond .eq 62, .aload 0, .getfield 469761, .iload 2, .sipush 1, .iadd, .iaload, .sipush 2, .if_icmp .le 64, .goto 62]),
  (62, [.sipush (-1), .ireturn]),
  (64, [.iinc 2 (2), .goto 32]),
  (70, [.aload 0, .sipush 0, .putfield 813, .sipush 0, .istore 2, .goto 77]),
  (77, [.iload 2, .sipush 6, .if_icmp .ge 113, .aload 0, .getfield 658222, .iload 2, .aload 0, .getfield 641834, .iload 2, .iaload, .iastore, .aload 0, .getfield 666415, .iload 2, .aload 0, .getfield 650027, .iload 2, .iaload, .iastore, .iinc 2 (1), .goto 77]),
  (113, [.aload 0, .sipush 0, .iload 1, .invokestatic 2014732, .aload 0, .getfield 813, .ifCond .le 136, .aload 0, .aload 0, .getfield 477966, .sipush 3, .iaload, .putfield 812, .goto 136]),
  (136, [.sipush 0, .istore 2, .goto 138]),
  (138, [.iload 2, .sipush 6, .if_icmp .ge 181, .aload 0, .getfield 813, .ifCond .ne 181, .aload 0, .getfield 641834, .iload 2, .aload 0, .getfield 658222, .iload 2, .iaload, .iastore, .aload 0, .getfield 650027, .iload 2, .aload 0, .getfield 666415, .iload 2, .iaload, .iastore, .iinc 2 (1), .goto 138]),
  (181, [.aload 0, .getfield 813, .ireturn])]
/-- BanksDealtModel.runFrom(II)V -/
def P_248 : bk_P := [(0, [.iload 1, .aload 0, .getfield 477966, .sipush 3, .iaload, .if_icmp .ne 96, .aload 0, .dup, .getfield 813, .sipush 1, .iadd, .putfield 813, .sipush 0, .istore 3, .goto 22]),
  (22, [.iload 3, .iload 1, .if_icmp .ge 95, .aload 0, .getfield 813, .sipush 1, .if_icmp .ne 47, .aload 0, .getfield 641834, .iload 3, .aload 0, .getfield 633641, .iload 3, .iaload, .iastore, .goto 47]),
  (47, [.aload 0, .getfield 813, .sipush 1, .if_icmp .ne 67, .aload 0, .getfield 650027, .iload 3, .aload 0, .getfield 633641, .iload 3, .iaload, .iastore, .goto 67]),
  (67, [.aload 0, .getfield 650027, .iload 3, .iaload, .aload 0, .getfield 633641, .iload 3, .iaload, .if_icmp .eq 89, .aload 0, .getfield 650027, .iload 3, .sipush (-1), .iastore, .goto 89]),
  (89, [.iinc 3 (1), .goto 22]),
  (95, [.return_]),
  (96, [.iload 1, .ifCond .ne 104, .sipush 0, .goto 114]),
  (104, [.aload 0, .getfield 633641, .iload 1, .sipush 1, .isub, .iaload, .sipush 1, .isub, .goto 114]),
  (114, [.istore 3, .iload 1, .ifCond .ne 130, .aload 0, .getfield 477966, .sipush 2, .iaload, .sipush 1, .isub, .goto 140]),
  (130, [.aload 0, .getfield 633641, .iload 1, .sipush 1, .isub, .iaload, .sipush 1, .iadd, .goto 140]),
  (140, [.istore 4, .iload 3, .istore 5, .goto 145]),
  (145, [.iload 5, .iload 4, .if_icmp .gt 198, .aload 0, .iload 5, .iload 1, .invokestatic 2008845, .ifCond .eq 192, .aload 0, .iload 1, .iload 5, .iload 2, .invokestatic 2539089, .ifCond .ne 176, .goto 192]),
  (176, [.aload 0, .getfield 633641, .iload 1, .iload 5, .iastore, .aload 0, .iload 1, .sipush 1, .iadd, .iload 2, .invokestatic 2014732, .goto 192]),
  (192, [.iinc 5 (1), .goto 145]),
  (198, [.return_])]
/-- BanksDealtModel.rowFits(III)Z -/
def P_249 : bk_P := [(0, [.sipush 0, .istore 4, .goto 3]),
  (3, [.iload 4, .iload 3, .if_icmp .ge 67, .aload 0, .getfield 477966, .sipush 52, .aload 0, .getfield 469761, .iload 4, .iaload, .iadd, .iaload, .iload 1, .if_icmp .ne 61, .aload 0, .getfield 477966, .sipush 42, .aload 0, .getfield 469761, .iload 4, .iaload, .iadd, .iaload, .iload 2, .invokestatic 1061129, .aload 0, .getfield 469761, .iload 4, .sipush 1, .iadd, .iaload, .if_icmp .eq 61, .sipush 0, .freturn]),
  (61, [.iinc 4 (2), .goto 3]),
  (67, [.sipush 1, .freturn])]
/-- BanksDealtModel.ranAt(I)I -/
def P_250 : bk_P := [(0, [.aload 0, .sipush 0, .putfield 768, .iload 1, .sipush 0, .aload 0, .getfield 812, .sipush 1, .isub, .invokestatic 1582925, .ifCond .eq 28, .aload 0, .getfield 641834, .iload 1, .iaload, .goto 29]),
  (28, [.sipush (-1), .goto 29]),
  (29, [.ireturn])]
/-- BanksDealtModel.sure(I)I -/
def P_251 : bk_P := [(0, [.aload 0, .sipush 0, .putfield 768, .iload 1, .sipush 0, .aload 0, .getfield 812, .sipush 1, .isub, .invokestatic 1582925, .ifCond .eq 28, .aload 0, .getfield 650027, .iload 1, .iaload, .goto 29]),
  (28, [.sipush (-1), .goto 29]),
  (29, [.ireturn])]
/-- BanksDealtModel.richest(I)I -/
def P_252 : bk_P := [(0, [.aload 0, .sipush 0, .putfield 768, .iload 1, .sipush 0, .sipush 1, .invokestatic 1582925, .ifCond .ne 16, .sipush (-1), .ireturn]),
  (16, [.sipush (-1), .istore 2, .sipush 0, .istore 3, .goto 20]),
  (20, [.iload 3, .aload 0, .getfield 477966, .sipush 0, .iaload, .if_icmp .ge 73, .aload 0, .iload 3, .invokestatic 1486985, .iload 1, .if_icmp .ne 67, .iload 2, .sipush (-1), .if_icmp .eq 65, .aload 0, .getfield 477966, .sipush 62, .iload 3, .iadd, .iaload, .aload 0, .getfield 477966, .sipush 62, .iload 2, .iadd, .iaload, .if_icmp .le 67, .goto 65]),
  (65, [.iload 3, .istore 2, .goto 67]),
  (67, [.iinc 3 (1), .goto 20]),
  (73, [.iload 2, .ireturn])]
/-- BanksDealtModel.deed(I)I -/
def P_253 : bk_P := [(0, [.aload 0, .sipush 0, .putfield 768, .aload 0, .iload 1, .invokestatic 1486857, .ifCond .ne 15, .sipush (-1), .ireturn]),
  (15, [.aload 0, .sipush 0, .putfield 817, .aload 0, .aload 0, .getfield 518931, .iload 1, .laload, .invokestatic 2015112, .aload 0, .sipush 105, .sipush 115, .sipush 0, .sipush 0, .sipush 0, .sipush 0, .sipush 0, .invokestatic 3680862, .invokestatic 2015240, .aload 0, .sipush 15, .aload 0, .iload 1, .invokestatic 1486985, .iadd, .invokestatic 535046, .invokestatic 2015240, .aload 0, .sipush 97, .sipush 116, .sipush 0, .sipush 0, .sipush 0, .sipush 0, .sipush 0, .invokestatic 3680862, .invokestatic 2015240, .aload 0, .sipush 32, .invokestatic 1490888, .aload 0, .sipush 48, .aload 0, .getfield 477966, .sipush 42, .iload 1, .iadd, .iaload, .iadd, .invokestatic 1490888, .aload 0, .sipush 32, .invokestatic 1490888, .aload 0, .sipush 48, .aload 0, .getfield 477966, .sipush 52, .iload 1, .iadd, .iaload, .iadd, .invokestatic 1490888, .aload 0, .getfield 817, .ireturn])]
/-- BanksDealtModel.writeWord(J)V -/
def P_254 : bk_P := [(0, [.lload 1, .bipush 27, .lcmp, .ifCond .lt 17, .aload 0, .lload 1, .bipush 27, .ldiv, .invokestatic 2015112, .goto 17]),
  (17, [.aload 0, .sipush 96, .lload 1, .bipush 27, .lrem, .l2i, .iadd, .invokestatic 1490888, .return_])]
/-- BanksDealtModel.write(I)V -/
def P_255 : bk_P := [(0, [.aload 0, .getfield 674608, .aload 0, .getfield 817, .iload 1, .iastore, .aload 0, .dup, .getfield 817, .sipush 1, .iadd, .putfield 817, .return_])]
/-- BanksDealtModel.writeNext(J)V -/
def P_256 : bk_P := [(0, [.aload 0, .sipush 32, .invokestatic 1490888, .aload 0, .lload 1, .invokestatic 2015112, .return_])]
/-- BanksDealtModel.byteAt(I)I -/
def P_257 : bk_P := [(0, [.aload 0, .sipush 0, .putfield 768, .iload 1, .sipush 0, .aload 0, .getfield 817, .sipush 1, .isub, .invokestatic 1582925, .ifCond .eq 28, .aload 0, .getfield 674608, .iload 1, .iaload, .goto 29]),
  (28, [.sipush (-1), .goto 29]),
  (29, [.ireturn])]
/-- BanksDealtModel.book(I)I -/
def P_258 : bk_P := [(0, [.aload 0, .sipush 0, .putfield 768, .iload 1, .sipush 0, .sipush 1, .invokestatic 1582925, .ifCond .ne 18, .sipush (-1000), .ireturn]),
  (18, [.aload 0, .sipush 400, .invokestatic 1484808, .aload 0, .sipush 0, .putfield 820, .goto 30]),
  (30, [.aload 0, .getfield 775, .ifCond .eq 65, .aload 0, .invokestatic 966853, .ifCond .ne 52, .sipush (-2), .aload 0, .getfield 779, .isub, .ireturn]),
  (52, [.aload 0, .dup, .getfield 820, .sipush 1, .iadd, .putfield 820, .goto 30]),
  (65, [.aload 0, .invokestatic 965892, .sipush 0, .istore 2, .sipush 0, .istore 3, .goto 73]),
  (73, [.iload 2, .aload 0, .getfield 820, .if_icmp .ge 103, .iload 3, .ifCond .ne 103, .aload 0, .sipush 4, .iload 2, .imul, .invokestatic 1491529, .istore 3, .iload 3, .ifCond .ne 73, .iinc 2 (1), .goto 73]),
  (103, [.aload 0, .getfield 690995, .sipush 0, .iload 3, .iastore, .aload 0, .getfield 690995, .sipush 1, .iload 2, .iastore, .aload 0, .getfield 690995, .sipush 2, .aload 0, .getfield 477966, .sipush 80, .iaload, .iastore, .aload 0, .getfield 690995, .sipush 3, .aload 0, .sipush 0, .invokestatic 1487625, .iastore, .aload 0, .sipush 1, .putfield 4917, .aload 0, .iload 1, .sipush 1, .if_icmp .ne 160, .iload 2, .ifCond .le 160, .sipush 1, .goto 161]),
  (160, [.sipush 0, .goto 161]),
  (161, [.invokestatic 1491592, .iload 3, .ifCond .ne 172, .sipush (-1), .goto 173]),
  (172, [.iload 2, .goto 173]),
  (173, [.ireturn])]
/-- BanksDealtModel.readBookLine()Z -/
def P_259 : bk_P := [(0, [.aload 0, .invokestatic 962245, .istore 1, .aload 0, .sipush 10, .invokestatic 1485257, .ifCond .ne 23, .aload 0, .sipush 11, .invokestatic 1485257, .ifCond .eq 27, .goto 23]),
  (23, [.sipush 1, .goto 28]),
  (27, [.sipush 0, .goto 28]),
  (28, [.istore 2, .iload 1, .ifCond .ne 79, .iload 2, .ifCond .ne 79, .aload 0, .invokestatic 961925, .ifCond .ne 50, .aload 0, .sipush 1, .invokestatic 1485513, .freturn]),
  (50, [.aload 0, .getfield 518931, .sipush 10, .aload 0, .getfield 477966, .sipush 1, .iaload, .aload 0, .getfield 1804, .invokestatic 2633169, .sipush (-1), .if_icmp .ne 79, .aload 0, .sipush 3, .invokestatic 1485513, .freturn]),
  (79, [.aload 0, .getfield 820, .sipush 40, .if_icmp .ne 94, .aload 0, .sipush 4, .invokestatic 1485513, .freturn]),
  (94, [.sipush 4, .aload 0, .getfield 820, .imul, .istore 3, .iload 1, .ifCond .eq 116, .aload 0, .iload 3, .invokestatic 1491209, .ifCond .eq 150, .goto 139]),
  (116, [.iload 2, .ifCond .eq 131, .aload 0, .iload 3, .invokestatic 1491401, .ifCond .eq 150, .goto 139]),
  (131, [.aload 0, .iload 3, .invokestatic 1491465, .ifCond .eq 150, .goto 139]),
  (139, [.aload 0, .invokestatic 962309, .ifCond .eq 150, .sipush 1, .goto 151]),
  (150, [.sipush 0, .goto 151]),
  (151, [.freturn])]
/-- BanksDealtModel.readSide(I)Z -/
def P_260 : bk_P := [(0, [.aload 0, .getfield 682802, .iload 1, .sipush 1, .iadd, .aload 0, .sipush 15, .invokestatic 1485257, .ifCond .eq 20, .sipush 0, .goto 21]),
  (20, [.sipush 1, .goto 21]),
  (21, [.iastore, .aload 0, .invokestatic 960644, .aload 0, .sipush 7, .invokestatic 1485257, .ifCond .ne 50, .aload 0, .sipush 8, .invokestatic 1485257, .ifCond .ne 50, .aload 0, .sipush 1, .invokestatic 1485513, .freturn]),
  (50, [.aload 0, .getfield 682802, .iload 1, .aload 0, .sipush 7, .invokestatic 1485257, .ifCond .eq 68, .sipush 0, .goto 69]),
  (68, [.sipush 1, .goto 69]),
  (69, [.iastore, .aload 0, .invokestatic 960644, .aload 0, .iload 1, .sipush 2, .iadd, .invokestatic 1491273, .freturn])]
/-- BanksDealtModel.readCell(I)Z -/
def P_261 : bk_P := [(0, [.aload 0, .iload 1, .aload 0, .sipush 0, .sipush 5, .invokestatic 2009997, .invokestatic 2015629, .ifCond .eq 34, .aload 0, .iload 1, .sipush 1, .iadd, .aload 0, .sipush 0, .sipush 5, .invokestatic 2009997, .invokestatic 2015629, .ifCond .eq 34, .sipush 1, .goto 35]),
  (34, [.sipush 0, .goto 35]),
  (35, [.freturn])]
/-- BanksDealtModel.keep(IZ)Z -/
def P_262 : bk_P := [(0, [.iload 2, .ifCond .eq 14, .aload 0, .getfield 682802, .iload 1, .aload 0, .getfield 781, .iastore, .goto 14]),
  (14, [.iload 2, .freturn])]
/-- BanksDealtModel.readSprings(I)Z -/
def P_263 : bk_P := [(0, [.aload 0, .sipush 10, .invokestatic 1485257, .istore 2, .aload 0, .getfield 682802, .iload 1, .sipush 3, .iastore, .aload 0, .invokestatic 960644, .iload 2, .ifCond .eq 36, .aload 0, .sipush 0, .sipush 999, .invokestatic 2009997, .ifCond .eq 46, .goto 48]),
  (36, [.aload 0, .sipush 1, .sipush 30, .invokestatic 2009997, .ifCond .ne 48, .goto 46]),
  (46, [.sipush 0, .freturn]),
  (48, [.aload 0, .getfield 682802, .iload 1, .sipush 1, .iadd, .iload 2, .ifCond .eq 63, .sipush 1, .goto 67]),
  (63, [.aload 0, .getfield 781, .goto 67]),
  (67, [.iastore, .aload 0, .getfield 682802, .iload 1, .sipush 2, .iadd, .aload 0, .getfield 781, .iastore, .sipush 1, .freturn])]
/-- BanksDealtModel.readMillRolls(I)Z -/
def P_264 : bk_P := [(0, [.aload 0, .getfield 682802, .iload 1, .sipush 4, .iastore, .aload 0, .getfield 682802, .iload 1, .sipush 1, .iadd, .aload 0, .getfield 518931, .sipush 10, .aload 0, .getfield 477966, .sipush 1, .iaload, .aload 0, .getfield 1804, .invokestatic 2633169, .iastore, .aload 0, .invokestatic 960644, .aload 0, .sipush 9, .invokestatic 1485257, .ifCond .ne 53, .aload 0, .sipush 1, .invokestatic 1485513, .freturn]),
  (53, [.aload 0, .invokestatic 960644, .aload 0, .iload 1, .sipush 2, .iadd, .invokestatic 1491273, .freturn])]
/-- BanksDealtModel.goBy(I)I -/
def P_265 : bk_P := [(0, [.aload 0, .getfield 682802, .iload 1, .sipush 1, .iadd, .iaload, .istore 2, .aload 0, .getfield 682802, .iload 1, .sipush 2, .iadd, .iaload, .istore 3, .aload 0, .getfield 682802, .iload 1, .sipush 3, .iadd, .iaload, .istore 4, .aload 0, .getfield 682802, .iload 1, .iaload, .sipush 3, .if_icmp .ne 65, .aload 0, .getfield 477966, .sipush 80, .iaload, .iload 2, .iadd, .sipush 400, .if_icmp .le 56, .sipush 31, .ireturn]),
  (56, [.aload 0, .iload 2, .iload 3, .invokestatic 2013261, .pop, .sipush 0, .ireturn]),
  (65, [.aload 0, .iload 3, .iload 4, .invokestatic 2008845, .ifCond .ne 88, .sipush 10, .aload 0, .getfield 682802, .iload 1, .iaload, .imul, .sipush 9, .iadd, .ireturn]),
  (88, [.aload 0, .aload 0, .getfield 682802, .iload 1, .iaload, .iload 2, .iload 3, .iload 4, .invokestatic 3060885, .istore 5, .iload 5, .ifCond .eq 122, .sipush 10, .aload 0, .getfield 682802, .iload 1, .iaload, .imul, .iload 5, .iadd, .ireturn]),
  (122, [.aload 0, .aload 0, .getfield 682802, .iload 1, .iaload, .iload 2, .iload 3, .iload 4, .invokestatic 3061140, .sipush 0, .ireturn])]
/-- BanksDealtModel.stay(Z)V -/
def P_266 : bk_P := [(0, [.sipush 0, .istore 2, .goto 2]),
  (2, [.iload 2, .sipush 115, .if_icmp .ge 46, .aload 0, .getfield 477966, .sipush 80, .iload 2, .iadd, .iaload, .istore 3, .aload 0, .getfield 477966, .sipush 80, .iload 2, .iadd, .aload 0, .getfield 510738, .iload 2, .iaload, .iastore, .aload 0, .getfield 510738, .iload 2, .iload 3, .iastore, .iinc 2 (1), .goto 2]),
  (46, [.iload 1, .ifCond .ne 51, .return_]),
  (51, [.aload 0, .invokestatic 963908, .aload 0, .invokestatic 965956, .return_])]
/-- BanksDealtModel.told(I)I -/
def P_267 : bk_P := [(0, [.aload 0, .sipush 0, .putfield 768, .aload 0, .getfield 4917, .ifCond .eq 30, .iload 1, .sipush 0, .sipush 3, .invokestatic 1582925, .ifCond .eq 30, .aload 0, .getfield 690995, .iload 1, .iaload, .goto 31]),
  (30, [.sipush (-1), .goto 31]),
  (31, [.ireturn])]
/-- BanksDealtModel.sentence()I -/
def P_268 : bk_P := [(0, [.aload 0, .sipush 200, .invokestatic 1484808, .aload 0, .sipush 0, .putfield 823, .aload 0, .sipush 0, .putfield 824, .aload 0, .sipush 0, .putfield 825, .aload 0, .invokestatic 967493, .ifCond .ne 36, .sipush (-1), .aload 0, .getfield 779, .isub, .ireturn]),
  (36, [.aload 0, .getfield 775, .ifCond .eq 56, .aload 0, .sipush 1, .invokestatic 1485513, .pop, .sipush (-1), .aload 0, .getfield 779, .isub, .ireturn]),
  (56, [.aload 0, .getfield 477966, .sipush 195, .sipush 1, .iastore, .aload 0, .getfield 477966, .sipush 196, .aload 0, .getfield 826, .iastore, .sipush 0, .istore 1, .goto 79]),
  (79, [.iload 1, .sipush 240, .if_icmp .ge 108, .aload 0, .getfield 477966, .sipush 197, .iload 1, .iadd, .aload 0, .getfield 699190, .iload 1, .iaload, .iastore, .iinc 1 (1), .goto 79]),
  (108, [.aload 0, .getfield 824, .ireturn])]
/-- BanksDealtModel.readOr()Z -/
def P_269 : bk_P := [(0, [.aload 0, .invokestatic 967557, .ifCond .ne 9, .sipush 0, .freturn]),
  (9, [.aload 0, .getfield 826, .istore 1, .goto 14]),
  (14, [.aload 0, .sipush 12, .invokestatic 1485257, .ifCond .eq 51, .aload 0, .invokestatic 960644, .aload 0, .invokestatic 967557, .ifCond .ne 36, .sipush 0, .freturn]),
  (36, [.aload 0, .sipush 3, .iload 1, .aload 0, .getfield 826, .sipush 0, .invokestatic 3064981, .istore 1, .goto 14]),
  (51, [.aload 0, .iload 1, .putfield 826, .sipush 1, .freturn])]
/-- BanksDealtModel.readAnd()Z -/
def P_270 : bk_P := [(0, [.aload 0, .invokestatic 967621, .ifCond .ne 9, .sipush 0, .freturn]),
  (9, [.aload 0, .getfield 826, .istore 1, .goto 14]),
  (14, [.aload 0, .sipush 13, .invokestatic 1485257, .ifCond .eq 51, .aload 0, .invokestatic 960644, .aload 0, .invokestatic 967621, .ifCond .ne 36, .sipush 0, .freturn]),
  (36, [.aload 0, .sipush 2, .iload 1, .aload 0, .getfield 826, .sipush 0, .invokestatic 3064981, .istore 1, .goto 14]),
  (51, [.aload 0, .iload 1, .putfield 826, .sipush 1, .freturn])]
/-- BanksDealtModel.readSaid()Z -/
def P_271 : bk_P := [(0, [.aload 0, .sipush 40, .invokestatic 1486665, .istore 1, .sipush 14, .istore 2, .goto 10]),
  (10, [.iload 2, .sipush 24, .if_icmp .gt 30, .aload 0, .iload 2, .invokestatic 1485257, .ifCond .ne 30, .iinc 2 (1), .goto 10]),
  (30, [.iload 1, .ifCond .ne 46, .iload 2, .sipush 24, .if_icmp .le 46, .aload 0, .sipush 1, .invokestatic 1485513, .freturn]),
  (46, [.aload 0, .getfield 824, .sipush 20, .if_icmp .eq 64, .aload 0, .getfield 825, .sipush 8, .if_icmp .ne 70, .goto 64]),
  (64, [.aload 0, .sipush 4, .invokestatic 1485513, .freturn]),
  (70, [.aload 0, .dup, .getfield 824, .sipush 1, .iadd, .putfield 824, .aload 0, .dup, .getfield 825, .sipush 1, .iadd, .putfield 825, .aload 0, .invokestatic 960644, .sipush 1, .istore 3, .iload 1, .ifCond .eq 108, .aload 0, .invokestatic 967685, .istore 3, .goto 166]),
  (108, [.iload 2, .sipush 14, .if_icmp .ne 122, .aload 0, .invokestatic 967749, .istore 3, .goto 166]),
  (122, [.iload 2, .sipush 19, .if_icmp .ge 146, .aload 0, .aload 0, .sipush 50, .iload 2, .iadd, .sipush 0, .sipush 0, .sipush 0, .invokestatic 3064981, .putfield 826, .goto 166]),
  (146, [.iload 2, .sipush 21, .if_icmp .ge 160, .aload 0, .iload 2, .invokestatic 1492169, .goto 165]),
  (160, [.aload 0, .iload 2, .invokestatic 1492297, .goto 165]),
  (165, [.istore 3, .goto 166]),
  (166, [.aload 0, .dup, .getfield 825, .sipush 1, .isub, .putfield 825, .iload 3, .freturn])]
/-- BanksDealtModel.readBracket()Z -/
def P_272 : bk_P := [(0, [.aload 0, .invokestatic 967493, .ifCond .ne 9, .sipush 0, .freturn]),
  (9, [.aload 0, .sipush 41, .invokestatic 1486665, .ifCond .ne 24, .aload 0, .sipush 1, .invokestatic 1485513, .freturn]),
  (24, [.aload 0, .invokestatic 960644, .sipush 1, .freturn])]
/-- BanksDealtModel.readNot()Z -/
def P_273 : bk_P := [(0, [.aload 0, .invokestatic 967621, .ifCond .ne 9, .sipush 0, .freturn]),
  (9, [.aload 0, .aload 0, .sipush 1, .aload 0, .getfield 826, .sipush 0, .sipush 0, .invokestatic 3064981, .putfield 826, .sipush 1, .freturn])]
/-- BanksDealtModel.saysOne(IIII)I -/
def P_274 : bk_P := [(0, [.sipush 4, .aload 0, .getfield 823, .imul, .istore 5, .aload 0, .getfield 699190, .iload 5, .iload 1, .iastore, .aload 0, .getfield 699190, .iload 5, .sipush 1, .iadd, .iload 2, .iastore, .aload 0, .getfield 699190, .iload 5, .sipush 2, .iadd, .iload 3, .iastore, .aload 0, .getfield 699190, .iload 5, .sipush 3, .iadd, .iload 4, .iastore, .aload 0, .dup, .getfield 823, .sipush 1, .iadd, .putfield 823, .aload 0, .getfield 823, .sipush 1, .isub, .ireturn])]
/-- BanksDealtModel.readOf(I)Z -/
def P_275 : bk_P := [(0, [.aload 0, .invokestatic 967941, .ifCond .ne 9, .sipush 0, .freturn]),
  (9, [.aload 0, .aload 0, .sipush 50, .iload 1, .iadd, .aload 0, .getfield 781, .sipush 0, .sipush 0, .invokestatic 3064981, .putfield 826, .sipush 1, .freturn])]
/-- BanksDealtModel.readFieldName()Z -/
def P_276 : bk_P := [(0, [.aload 0, .invokestatic 961925, .ifCond .ne 13, .aload 0, .sipush 1, .invokestatic 1485513, .freturn]),
  (13, [.aload 0, .aload 0, .getfield 518931, .sipush 0, .aload 0, .getfield 477966, .sipush 0, .iaload, .aload 0, .getfield 1804, .invokestatic 2633169, .putfield 781, .aload 0, .getfield 781, .sipush (-1), .if_icmp .ne 49, .aload 0, .sipush 3, .invokestatic 1485513, .freturn]),
  (49, [.aload 0, .invokestatic 960644, .sipush 1, .freturn])]
/-- BanksDealtModel.readCompare(I)Z -/
def P_277 : bk_P := [(0, [.aload 0, .sipush 60, .invokestatic 1486665, .ifCond .ne 33, .aload 0, .sipush 61, .invokestatic 1486665, .ifCond .ne 33, .aload 0, .sipush 62, .invokestatic 1486665, .ifCond .ne 33, .aload 0, .sipush 1, .invokestatic 1485513, .freturn]),
  (33, [.aload 0, .getfield 777, .istore 2, .aload 0, .invokestatic 960644, .aload 0, .sipush 0, .sipush 999, .invokestatic 2009997, .ifCond .ne 55, .sipush 0, .freturn]),
  (55, [.aload 0, .aload 0, .sipush 50, .iload 1, .iadd, .sipush 0, .aload 0, .getfield 781, .iload 2, .invokestatic 3064981, .putfield 826, .sipush 1, .freturn])]
/-- BanksDealtModel.said(I)I -/
def P_278 : bk_P := [(0, [.aload 0, .sipush 0, .putfield 768, .aload 0, .getfield 477966, .sipush 195, .iaload, .ifCond .ne 18, .sipush (-1), .ireturn]),
  (18, [.sipush 0, .istore 2, .sipush 0, .istore 3, .goto 22]),
  (22, [.iload 3, .aload 0, .getfield 477966, .sipush 0, .iaload, .if_icmp .ge 67, .aload 0, .aload 0, .getfield 477966, .sipush 196, .iaload, .iload 3, .invokestatic 2016717, .ifCond .ne 51, .goto 61]),
  (51, [.iload 2, .iload 1, .if_icmp .ne 58, .iload 3, .ireturn]),
  (58, [.iinc 2 (1), .goto 61]),
  (61, [.iinc 3 (1), .goto 22]),
  (67, [.iload 1, .sipush (-1), .if_icmp .ne 76, .iload 2, .goto 77]),
  (76, [.sipush (-1), .goto 77]),
  (77, [.ireturn])]
/-- BanksDealtModel.holds(II)Z -/
def P_279 : bk_P := [(0, [.sipush 197, .sipush 4, .iload 1, .imul, .iadd, .istore 3, .aload 0, .getfield 477966, .iload 3, .sipush 1, .iadd, .iaload, .istore 4, .aload 0, .getfield 477966, .iload 3, .sipush 2, .iadd, .iaload, .istore 5, .aload 0, .getfield 477966, .iload 3, .iaload, .lookupswitch 291 #[(1, 116), (2, 132), (3, 158), (65, 184), (66, 198), (67, 213), (68, 228), (69, 234), (70, 263)]]),
  (116, [.aload 0, .iload 4, .iload 2, .invokestatic 2016717, .ifCond .ne 130, .sipush 1, .goto 131]),
  (130, [.sipush 0, .goto 131]),
  (131, [.freturn]),
  (132, [.aload 0, .iload 4, .iload 2, .invokestatic 2016717, .ifCond .eq 156, .aload 0, .iload 5, .iload 2, .invokestatic 2016717, .ifCond .eq 156, .sipush 1, .goto 157]),
  (156, [.sipush 0, .goto 157]),
  (157, [.freturn]),
  (158, [.aload 0, .iload 4, .iload 2, .invokestatic 2016717, .ifCond .ne 178, .aload 0, .iload 5, .iload 2, .invokestatic 2016717, .ifCond .eq 182, .goto 178]),
  (178, [.sipush 1, .goto 183]),
  (182, [.sipush 0, .goto 183]),
  (183, [.freturn]),
  (184, [.aload 0, .iload 2, .invokestatic 1486985, .ifCond .ne 196, .sipush 1, .goto 197]),
  (196, [.sipush 0, .goto 197]),
  (197, [.freturn]),
  (198, [.aload 0, .iload 2, .invokestatic 1486985, .sipush 1, .if_icmp .ne 211, .sipush 1, .goto 212]),
  (211, [.sipush 0, .goto 212]),
  (212, [.freturn]),
  (213, [.aload 0, .iload 2, .invokestatic 1486985, .sipush 2, .if_icmp .ne 226, .sipush 1, .goto 227]),
  (226, [.sipush 0, .goto 227]),
  (227, [.freturn]),
  (228, [.aload 0, .iload 2, .invokestatic 1492489, .freturn]),
  (234, [.aload 0, .iload 2, .invokestatic 1486985, .sipush 2, .if_icmp .eq 261, .aload 0, .iload 2, .invokestatic 1486985, .aload 0, .iload 4, .invokestatic 1486985, .if_icmp .ne 261, .sipush 1, .goto 262]),
  (261, [.sipush 0, .goto 262]),
  (262, [.freturn]),
  (263, [.aload 0, .getfield 477966, .sipush 52, .iload 2, .iadd, .iaload, .aload 0, .getfield 477966, .sipush 52, .iload 4, .iadd, .iaload, .if_icmp .ge 289, .sipush 1, .goto 290]),
  (289, [.sipush 0, .goto 290]),
  (290, [.freturn]),
  (291, [.aload 0, .getfield 477966, .iload 3, .iaload, .sipush 50, .isub, .istore 6, .iload 6, .sipush 21, .if_icmp .ne 321, .aload 0, .getfield 477966, .sipush 62, .iload 2, .iadd, .iaload, .goto 382]),
  (321, [.iload 6, .sipush 22, .if_icmp .ne 361, .aload 0, .getfield 477966, .sipush 85, .sipush 6, .aload 0, .getfield 477966, .sipush 52, .iload 2, .iadd, .iaload, .imul, .iadd, .aload 0, .getfield 477966, .sipush 42, .iload 2, .iadd, .iaload, .iadd, .iaload, .goto 382]),
  (361, [.iload 6, .sipush 23, .if_icmp .ne 381, .aload 0, .getfield 477966, .sipush 136, .iload 2, .iadd, .iaload, .goto 382]),
  (381, [.iload 2, .goto 382]),
  (382, [.istore 7, .aload 0, .getfield 477966, .iload 3, .sipush 3, .iadd, .iaload, .sipush 60, .if_icmp .ne 412, .iload 7, .iload 5, .if_icmp .ge 408, .sipush 1, .goto 452]),
  (408, [.sipush 0, .goto 452]),
  (412, [.aload 0, .getfield 477966, .iload 3, .sipush 3, .iadd, .iaload, .sipush 61, .if_icmp .ne 440, .iload 7, .iload 5, .if_icmp .ne 436, .sipush 1, .goto 452]),
  (436, [.sipush 0, .goto 452]),
  (440, [.iload 7, .iload 5, .if_icmp .le 451, .sipush 1, .goto 452]),
  (451, [.sipush 0, .goto 452]),
  (452, [.freturn])]
/-- BanksDealtModel.isNear(I)Z -/
def P_280 : bk_P := [(0, [.aload 0, .getfield 477966, .sipush 42, .iload 1, .iadd, .iaload, .aload 0, .getfield 477966, .sipush 121, .aload 0, .getfield 477966, .sipush 52, .iload 1, .iadd, .iaload, .iadd, .iaload, .isub, .invokestatic 537797, .sipush 1, .if_icmp .ne 38, .sipush 1, .goto 39]),
  (38, [.sipush 0, .goto 39]),
  (39, [.freturn])]
/-- BanksDealtModel.image(I)Z -/
def P_281 : bk_P := [(0, [.aload 0, .sipush 0, .putfield 768, .iload 1, .sipush 0, .sipush 1, .invokestatic 1582925, .ifCond .ne 16, .sipush 0, .freturn]),
  (16, [.sipush 0, .istore 2, .goto 18]),
  (18, [.iload 2, .sipush 437, .if_icmp .ge 49, .aload 0, .getfield 494352, .sipush 437, .iload 1, .imul, .iload 2, .iadd, .aload 0, .getfield 477966, .iload 2, .iaload, .iastore, .iinc 2 (1), .goto 18]),
  (49, [.sipush 0, .istore 2, .goto 51]),
  (51, [.iload 2, .sipush 13, .if_icmp .ge 80, .aload 0, .getfield 535317, .sipush 13, .iload 1, .imul, .iload 2, .iadd, .aload 0, .getfield 518931, .iload 2, .laload, .lastore, .iinc 2 (1), .goto 51]),
  (80, [.aload 0, .getfield 543510, .iload 1, .sipush 1, .bastore, .sipush 1, .freturn])]
/-- BanksDealtModel.restore(I)Z -/
def P_282 : bk_P := [(0, [.aload 0, .sipush 0, .putfield 768, .iload 1, .sipush 0, .sipush 1, .invokestatic 1582925, .ifCond .eq 23, .aload 0, .getfield 543510, .iload 1, .baload, .ifCond .ne 25, .goto 23]),
  (23, [.sipush 0, .freturn]),
  (25, [.sipush 0, .istore 2, .goto 27]),
  (27, [.iload 2, .sipush 437, .if_icmp .ge 58, .aload 0, .getfield 477966, .iload 2, .aload 0, .getfield 494352, .sipush 437, .iload 1, .imul, .iload 2, .iadd, .iaload, .iastore, .iinc 2 (1), .goto 27]),
  (58, [.sipush 0, .istore 2, .goto 60]),
  (60, [.iload 2, .sipush 13, .if_icmp .ge 89, .aload 0, .getfield 518931, .iload 2, .aload 0, .getfield 535317, .sipush 13, .iload 1, .imul, .iload 2, .iadd, .laload, .lastore, .iinc 2 (1), .goto 60]),
  (89, [.aload 0, .sipush 0, .putfield 793, .sipush 1, .freturn])]
/-- BanksDealtModel.count(I)I -/
def P_283 : bk_P := [(0, [.aload 0, .sipush 0, .putfield 768, .iload 1, .tableswitch 95 0 6 #[48, 55, 62, 69, 76, 83, 90]]),
  (48, [.aload 0, .getfield 477966, .sipush 0, .iaload, .ireturn]),
  (55, [.aload 0, .getfield 477966, .sipush 2, .iaload, .ireturn]),
  (62, [.aload 0, .getfield 477966, .sipush 3, .iaload, .ireturn]),
  (69, [.aload 0, .getfield 477966, .sipush 4, .iaload, .ireturn]),
  (76, [.aload 0, .getfield 477966, .sipush 5, .iaload, .ireturn]),
  (83, [.aload 0, .getfield 477966, .sipush 1, .iaload, .ireturn]),
  (90, [.aload 0, .getfield 770, .ireturn]),
  (95, [.sipush (-1), .ireturn])]
/-- BanksDealtLaw.field(LBanksDealt;II[J)I -/
def P_284 : bk_P := [(0, [.aload 3, .sipush 0, .aload 0, .iload 1, .iload 2, .invokeinterface 1975117 244, .i2l, .lastore, .goto 17]),
  (15, [.sipush 1, .ireturn]),
  (17, [.sipush 0, .ireturn])]
/-- BanksDealtLaw.duel(LBanksDealt;I[J)I -/
def P_285 : bk_P := [(0, [.aload 2, .sipush 0, .aload 0, .iload 1, .invokeinterface 1450889 211, .i2l, .lastore, .goto 15]),
  (13, [.sipush 1, .ireturn]),
  (15, [.sipush 0, .ireturn])]
/-- BanksDealtLaw.law([I)Z -/
def P_286 : bk_P := [(20, [.sipush 0, .istore 4, .goto 23]),
  (23, [.iload 4, .aload 0, .swap, .sipush 6, .isub, .if_icmp .gt 1594, .aload 0, .iload 4, .saload, .sipush 63, .iand, .tableswitch 1588 0 41 #[224, 297, 322, 335, 348, 416, 453, 490, 527, 552, 589, 614, 663, 712, 761, 786, 823, 836, 849, 874, 899, 948, 973, 1029, 1054, 1091, 1116, 1153, 1214, 1227, 1252, 1277, 1350, 1375, 1400, 1425, 1450, 1475, 1488, 1513, 1538, 1563]]),
  (224, [.aload 1, .aload 0, .iload 4, .sipush 1, .iadd, .saload, .aload 0, .iload 4, .sipush 2, .iadd, .saload, .aload 0, .iload 4, .sipush 3, .iadd, .saload, .aload 0, .iload 4, .sipush 4, .iadd, .saload, .aload 0, .iload 4, .sipush 5, .iadd, .saload, .invokestatic 3539033, .aload 2, .aload 0, .iload 4, .sipush 1, .iadd, .saload, .aload 0, .iload 4, .sipush 2, .iadd, .saload, .aload 0, .iload 4, .sipush 3, .iadd, .saload, .aload 0, .iload 4, .sipush 4, .iadd, .saload, .aload 0, .iload 4, .sipush 5, .iadd, .saload, .invokestatic 3581145, .if_icmp .eq 1588, .sipush 0, .freturn]),
  (297, [.aload 1, .aload 0, .iload 4, .sipush 1, .iadd, .saload, .invokestatic 1441993, .aload 2, .aload 0, .iload 4, .sipush 1, .iadd, .saload, .invokestatic 1484105, .if_icmp .eq 1588, .sipush 0, .freturn]),
  (322, [.aload 1, .invokestatic 917765, .aload 2, .invokestatic 960453, .if_icmp .eq 1588, .sipush 0, .freturn]),
  (335, [.aload 1, .invokestatic 920005, .aload 2, .invokestatic 962437, .if_icmp .eq 1588, .sipush 0, .freturn]),
  (348, [.aload 1, .aload 0, .iload 4, .sipush 1, .iadd, .saload, .aload 0, .iload 4, .sipush 2, .iadd, .saload, .aload 3, .invokestatic 2115345, .istore 5, .aload 2, .aload 0, .iload 4, .sipush 1, .iadd, .saload, .aload 0, .iload 4, .sipush 2, .iadd, .saload, .invokestatic 2011085, .istore 6, .aload 2, .invokestatic 959621, .iload 5, .if_icmp .eq 396, .sipush 0, .freturn]),
  (396, [.iload 5, .ifCond .ne 413, .aload 3, .sipush 0, .laload, .iload 6, .i2l, .lcmp, .ifCond .eq 413, .sipush 0, .freturn]),
  (413, [.goto 1588]),
  (416, [.aload 1, .aload 0, .iload 4, .sipush 1, .iadd, .saload, .aload 0, .iload 4, .sipush 2, .iadd, .saload, .invokestatic 1968653, .aload 2, .aload 0, .iload 4, .sipush 1, .iadd, .saload, .aload 0, .iload 4, .sipush 2, .iadd, .saload, .invokestatic 2011469, .if_icmp .eq 1588, .sipush 0, .freturn]),
  (453, [.aload 1, .aload 0, .iload 4, .sipush 1, .iadd, .saload, .aload 0, .iload 4, .sipush 2, .iadd, .saload, .invokestatic 1968781, .aload 2, .aload 0, .iload 4, .sipush 1, .iadd, .saload, .aload 0, .iload 4, .sipush 2, .iadd, .saload, .invokestatic 2011597, .if_icmp .eq 1588, .sipush 0, .freturn]),
  (490, [.aload 1, .aload 0, .iload 4, .sipush 1, .iadd, .saload, .aload 0, .iload 4, .sipush 2, .iadd, .saload, .invokestatic 1968845, .aload 2, .aload 0, .iload 4, .sipush 1, .iadd, .saload, .aload 0, .iload 4, .sipush 2, .iadd, .saload, .invokestatic 2011661, .if_icmp .eq 1588, .sipush 0, .freturn]),
  (527, [.aload 1, .aload 0, .iload 4, .sipush 1, .iadd, .saload, .invokestatic 1444617, .aload 2, .aload 0, .iload 4, .sipush 1, .iadd, .saload, .invokestatic 1487433, .if_icmp .eq 1588, .sipush 0, .freturn]),
  (552, [.aload 1, .aload 0, .iload 4, .sipush 1, .iadd, .saload, .aload 0, .iload 4, .sipush 2, .iadd, .saload, .invokestatic 1969037, .aload 2, .aload 0, .iload 4, .sipush 1, .iadd, .saload, .aload 0, .iload 4, .sipush 2, .iadd, .saload, .invokestatic 2011853, .if_icmp .eq 1588, .sipush 0, .freturn]),
  (589, [.aload 1, .aload 0, .iload 4, .sipush 1, .iadd, .saload, .invokestatic 1445001, .aload 2, .aload 0, .iload 4, .sipush 1, .iadd, .saload, .invokestatic 1487817, .if_icmp .eq 1588, .sipush 0, .freturn]),
  (614, [.aload 1, .aload 0, .iload 4, .sipush 1, .iadd, .saload, .aload 0, .iload 4, .sipush 2, .iadd, .saload, .aload 0, .iload 4, .sipush 3, .iadd, .saload, .invokestatic 2493841, .aload 2, .aload 0, .iload 4, .sipush 1, .iadd, .saload, .aload 0, .iload 4, .sipush 2, .iadd, .saload, .aload 0, .iload 4, .sipush 3, .iadd, .saload, .invokestatic 2536465, .if_icmp .eq 1588, .sipush 0, .freturn]),
  (663, [.aload 1, .aload 0, .iload 4, .sipush 1, .iadd, .saload, .aload 0, .iload 4, .sipush 2, .iadd, .saload, .aload 0, .iload 4, .sipush 3, .iadd, .saload, .invokestatic 2494225, .aload 2, .aload 0, .iload 4, .sipush 1, .iadd, .saload, .aload 0, .iload 4, .sipush 2, .iadd, .saload, .aload 0, .iload 4, .sipush 3, .iadd, .saload, .invokestatic 2536913, .if_icmp .eq 1588, .sipush 0, .freturn]),
  (712, [.aload 1, .aload 0, .iload 4, .sipush 1, .iadd, .saload, .aload 0, .iload 4, .sipush 2, .iadd, .saload, .aload 0, .iload 4, .sipush 3, .iadd, .saload, .invokestatic 2494289, .aload 2, .aload 0, .iload 4, .sipush 1, .iadd, .saload, .aload 0, .iload 4, .sipush 2, .iadd, .saload, .aload 0, .iload 4, .sipush 3, .iadd, .saload, .invokestatic 2536977, .if_icmp .eq 1588, .sipush 0, .freturn]),
  (761, [.aload 1, .aload 0, .iload 4, .sipush 1, .iadd, .saload, .invokestatic 1445897, .aload 2, .aload 0, .iload 4, .sipush 1, .iadd, .saload, .invokestatic 1488521, .if_icmp .eq 1588, .sipush 0, .freturn]),
  (786, [.aload 1, .aload 0, .iload 4, .sipush 1, .iadd, .saload, .aload 0, .iload 4, .sipush 2, .iadd, .saload, .invokestatic 1970509, .aload 2, .aload 0, .iload 4, .sipush 1, .iadd, .saload, .aload 0, .iload 4, .sipush 2, .iadd, .saload, .invokestatic 2013197, .if_icmp .eq 1588, .sipush 0, .freturn]),
  (823, [.aload 1, .invokestatic 922053, .aload 2, .invokestatic 964165, .if_icmp .eq 1588, .sipush 0, .freturn]),
  (836, [.aload 1, .invokestatic 922181, .aload 2, .invokestatic 964805, .if_icmp .eq 1588, .sipush 0, .freturn]),
  (849, [.aload 1, .aload 0, .iload 4, .sipush 1, .iadd, .saload, .invokestatic 1446537, .aload 2, .aload 0, .iload 4, .sipush 1, .iadd, .saload, .invokestatic 1489161, .if_icmp .eq 1588, .sipush 0, .freturn]),
  (874, [.aload 1, .aload 0, .iload 4, .sipush 1, .iadd, .saload, .invokestatic 1446601, .aload 2, .aload 0, .iload 4, .sipush 1, .iadd, .saload, .invokestatic 1489225, .if_icmp .eq 1588, .sipush 0, .freturn]),
  (899, [.aload 1, .aload 0, .iload 4, .sipush 1, .iadd, .saload, .aload 0, .iload 4, .sipush 2, .iadd, .saload, .aload 0, .iload 4, .sipush 3, .iadd, .saload, .invokestatic 2495249, .aload 2, .aload 0, .iload 4, .sipush 1, .iadd, .saload, .aload 0, .iload 4, .sipush 2, .iadd, .saload, .aload 0, .iload 4, .sipush 3, .iadd, .saload, .invokestatic 2537937, .if_icmp .eq 1588, .sipush 0, .freturn]),
  (948, [.aload 1, .aload 0, .iload 4, .sipush 1, .iadd, .saload, .invokestatic 1447177, .aload 2, .aload 0, .iload 4, .sipush 1, .iadd, .saload, .invokestatic 1489481, .if_icmp .eq 1588, .sipush 0, .freturn]),
  (973, [.aload 1, .aload 0, .iload 4, .sipush 1, .iadd, .saload, .aload 3, .invokestatic 1591117, .istore 5, .aload 2, .aload 0, .iload 4, .sipush 1, .iadd, .saload, .invokestatic 1489545, .istore 6, .aload 2, .invokestatic 959621, .iload 5, .if_icmp .eq 1009, .sipush 0, .freturn]),
  (1009, [.iload 5, .ifCond .ne 1026, .aload 3, .sipush 0, .laload, .iload 6, .i2l, .lcmp, .ifCond .eq 1026, .sipush 0, .freturn]),
  (1026, [.goto 1588]),
  (1029, [.aload 1, .aload 0, .iload 4, .sipush 1, .iadd, .saload, .invokestatic 1447241, .aload 2, .aload 0, .iload 4, .sipush 1, .iadd, .saload, .invokestatic 1489865, .if_icmp .eq 1588, .sipush 0, .freturn]),
  (1054, [.aload 1, .aload 0, .iload 4, .sipush 1, .iadd, .saload, .aload 0, .iload 4, .sipush 2, .iadd, .saload, .invokestatic 1971597, .aload 2, .aload 0, .iload 4, .sipush 1, .iadd, .saload, .aload 0, .iload 4, .sipush 2, .iadd, .saload, .invokestatic 2014221, .if_icmp .eq 1588, .sipush 0, .freturn]),
  (1091, [.aload 1, .aload 0, .iload 4, .sipush 1, .iadd, .saload, .invokestatic 1447497, .aload 2, .aload 0, .iload 4, .sipush 1, .iadd, .saload, .invokestatic 1490057, .if_icmp .eq 1588, .sipush 0, .freturn]),
  (1116, [.aload 1, .aload 0, .iload 4, .sipush 1, .iadd, .saload, .aload 0, .iload 4, .sipush 2, .iadd, .saload, .invokestatic 1971853, .aload 2, .aload 0, .iload 4, .sipush 1, .iadd, .saload, .aload 0, .iload 4, .sipush 2, .iadd, .saload, .invokestatic 2013325, .if_icmp .eq 1588, .sipush 0, .freturn]),
  (1153, [.aload 1, .aload 0, .iload 4, .sipush 1, .iadd, .saload, .aload 0, .iload 4, .sipush 2, .iadd, .saload, .aload 0, .iload 4, .sipush 3, .iadd, .saload, .aload 0, .iload 4, .sipush 4, .iadd, .saload, .invokestatic 3020501, .aload 2, .aload 0, .iload 4, .sipush 1, .iadd, .saload, .aload 0, .iload 4, .sipush 2, .iadd, .saload, .aload 0, .iload 4, .sipush 3, .iadd, .saload, .aload 0, .iload 4, .sipush 4, .iadd, .saload, .invokestatic 3062997, .if_icmp .eq 1588, .sipush 0, .freturn]),
  (1214, [.aload 1, .invokestatic 923461, .aload 2, .invokestatic 966085, .if_icmp .eq 1588, .sipush 0, .freturn]),
  (1227, [.aload 1, .aload 0, .iload 4, .sipush 1, .iadd, .saload, .invokestatic 1448265, .aload 2, .aload 0, .iload 4, .sipush 1, .iadd, .saload, .invokestatic 1490569, .if_icmp .eq 1588, .sipush 0, .freturn]),
  (1252, [.aload 1, .aload 0, .iload 4, .sipush 1, .iadd, .saload, .invokestatic 1448329, .aload 2, .aload 0, .iload 4, .sipush 1, .iadd, .saload, .invokestatic 1490633, .if_icmp .eq 1588, .sipush 0, .freturn]),
  (1277, [.aload 1, .aload 0, .iload 4, .sipush 1, .iadd, .saload, .aload 0, .iload 4, .sipush 2, .iadd, .saload, .aload 0, .iload 4, .sipush 3, .iadd, .saload, .aload 0, .iload 4, .sipush 4, .iadd, .saload, .aload 0, .iload 4, .sipush 5, .iadd, .saload, .invokestatic 3545561, .aload 2, .aload 0, .iload 4, .sipush 1, .iadd, .saload, .aload 0, .iload 4, .sipush 2, .iadd, .saload, .aload 0, .iload 4, .sipush 3, .iadd, .saload, .aload 0, .iload 4, .sipush 4, .iadd, .saload, .aload 0, .iload 4, .sipush 5, .iadd, .saload, .invokestatic 3587481, .if_icmp .eq 1588, .sipush 0, .freturn]),
  (1350, [.aload 1, .aload 0, .iload 4, .sipush 1, .iadd, .saload, .invokestatic 1448457, .aload 2, .aload 0, .iload 4, .sipush 1, .iadd, .saload, .invokestatic 1490697, .if_icmp .eq 1588, .sipush 0, .freturn]),
  (1375, [.aload 1, .aload 0, .iload 4, .sipush 1, .iadd, .saload, .invokestatic 1448521, .aload 2, .aload 0, .iload 4, .sipush 1, .iadd, .saload, .invokestatic 1490761, .if_icmp .eq 1588, .sipush 0, .freturn]),
  (1400, [.aload 1, .aload 0, .iload 4, .sipush 1, .iadd, .saload, .invokestatic 1448841, .aload 2, .aload 0, .iload 4, .sipush 1, .iadd, .saload, .invokestatic 1491017, .if_icmp .eq 1588, .sipush 0, .freturn]),
  (1425, [.aload 1, .aload 0, .iload 4, .sipush 1, .iadd, .saload, .invokestatic 1448905, .aload 2, .aload 0, .iload 4, .sipush 1, .iadd, .saload, .invokestatic 1491081, .if_icmp .eq 1588, .sipush 0, .freturn]),
  (1450, [.aload 1, .aload 0, .iload 4, .sipush 1, .iadd, .saload, .invokestatic 1449609, .aload 2, .aload 0, .iload 4, .sipush 1, .iadd, .saload, .invokestatic 1491657, .if_icmp .eq 1588, .sipush 0, .freturn]),
  (1475, [.aload 1, .invokestatic 925381, .aload 2, .invokestatic 967429, .if_icmp .eq 1588, .sipush 0, .freturn]),
  (1488, [.aload 1, .aload 0, .iload 4, .sipush 1, .iadd, .saload, .invokestatic 1450185, .aload 2, .aload 0, .iload 4, .sipush 1, .iadd, .saload, .invokestatic 1492361, .if_icmp .eq 1588, .sipush 0, .freturn]),
  (1513, [.aload 1, .aload 0, .iload 4, .sipush 1, .iadd, .saload, .invokestatic 1450569, .aload 2, .aload 0, .iload 4, .sipush 1, .iadd, .saload, .invokestatic 1492553, .if_icmp .eq 1588, .sipush 0, .freturn]),
  (1538, [.aload 1, .aload 0, .iload 4, .sipush 1, .iadd, .saload, .invokestatic 1450697, .aload 2, .aload 0, .iload 4, .sipush 1, .iadd, .saload, .invokestatic 1492617, .if_icmp .eq 1588, .sipush 0, .freturn]),
  (1563, [.aload 1, .aload 0, .iload 4, .sipush 1, .iadd, .saload, .invokestatic 1450761, .aload 2, .aload 0, .iload 4, .sipush 1, .iadd, .saload, .invokestatic 1492681, .if_icmp .eq 1588, .sipush 0, .freturn]),
  (1588, [.iinc 4 (6), .goto 23]),
  (1594, [.sipush 1, .freturn])]
def bk_prog : Nat → bk_P × Nat
  | 0 => (P_0, 2)
  | 1 => (P_1, 6)
  | 2 => (P_2, 3)
  | 3 => (P_3, 2)
  | 4 => (P_4, 3)
  | 5 => (P_5, 4)
  | 6 => (P_6, 2)
  | 7 => (P_7, 2)
  | 8 => (P_8, 1)
  | 9 => (P_9, 1)
  | 10 => (P_10, 8)
  | 11 => (P_11, 5)
  | 12 => (P_12, 1)
  | 13 => (P_13, 3)
  | 14 => (P_14, 3)
  | 15 => (P_15, 3)
  | 16 => (P_16, 2)
  | 17 => (P_17, 3)
  | 18 => (P_18, 4)
  | 19 => (P_19, 4)
  | 20 => (P_20, 3)
  | 21 => (P_21, 3)
  | 22 => (P_22, 5)
  | 23 => (P_23, 4)
  | 24 => (P_24, 1)
  | 25 => (P_25, 3)
  | 26 => (P_26, 5)
  | 27 => (P_27, 4)
  | 28 => (P_28, 2)
  | 29 => (P_29, 3)
  | 30 => (P_30, 2)
  | 31 => (P_31, 1)
  | 32 => (P_32, 2)
  | 33 => (P_33, 2)
  | 34 => (P_34, 2)
  | 35 => (P_35, 7)
  | 36 => (P_36, 6)
  | 37 => (P_37, 1)
  | 38 => (P_38, 1)
  | 39 => (P_39, 1)
  | 40 => (P_40, 4)
  | 41 => (P_41, 4)
  | 42 => (P_42, 4)
  | 43 => (P_43, 4)
  | 44 => (P_44, 2)
  | 45 => (P_45, 2)
  | 46 => (P_46, 3)
  | 47 => (P_47, 1)
  | 48 => (P_48, 5)
  | 49 => (P_49, 5)
  | 50 => (P_50, 2)
  | 51 => (P_51, 3)
  | 52 => (P_52, 3)
  | 53 => (P_53, 3)
  | 54 => (P_54, 4)
  | 55 => (P_55, 7)
  | 56 => (P_56, 5)
  | 57 => (P_57, 2)
  | 58 => (P_58, 2)
  | 59 => (P_59, 4)
  | 60 => (P_60, 4)
  | 61 => (P_61, 6)
  | 62 => (P_62, 5)
  | 63 => (P_63, 3)
  | 64 => (P_64, 2)
  | 65 => (P_65, 5)
  | 66 => (P_66, 2)
  | 67 => (P_67, 4)
  | 68 => (P_68, 4)
  | 69 => (P_69, 3)
  | 70 => (P_70, 5)
  | 71 => (P_71, 1)
  | 72 => (P_72, 2)
  | 73 => (P_73, 1)
  | 74 => (P_74, 2)
  | 75 => (P_75, 2)
  | 76 => (P_76, 4)
  | 77 => (P_77, 2)
  | 78 => (P_78, 7)
  | 79 => (P_79, 6)
  | 80 => (P_80, 7)
  | 81 => (P_81, 7)
  | 82 => (P_82, 2)
  | 83 => (P_83, 2)
  | 84 => (P_84, 2)
  | 85 => (P_85, 2)
  | 86 => (P_86, 3)
  | 87 => (P_87, 6)
  | 88 => (P_88, 6)
  | 89 => (P_89, 2)
  | 90 => (P_90, 3)
  | 91 => (P_91, 8)
  | 92 => (P_92, 2)
  | 93 => (P_93, 2)
  | 94 => (P_94, 4)
  | 95 => (P_95, 8)
  | 96 => (P_96, 6)
  | 97 => (P_97, 6)
  | 98 => (P_98, 5)
  | 99 => (P_99, 6)
  | 100 => (P_100, 5)
  | 101 => (P_101, 2)
  | 102 => (P_102, 2)
  | 103 => (P_103, 8)
  | 104 => (P_104, 5)
  | 105 => (P_105, 2)
  | 106 => (P_106, 5)
  | 107 => (P_107, 5)
  | 108 => (P_108, 2)
  | 109 => (P_109, 3)
  | 110 => (P_110, 2)
  | 111 => (P_111, 4)
  | 112 => (P_112, 4)
  | 113 => (P_113, 5)
  | 114 => (P_114, 1)
  | 115 => (P_115, 4)
  | 116 => (P_116, 2)
  | 117 => (P_117, 4)
  | 118 => (P_118, 4)
  | 119 => (P_119, 7)
  | 120 => (P_120, 5)
  | 121 => (P_121, 6)
  | 122 => (P_122, 2)
  | 123 => (P_123, 3)
  | 124 => (P_124, 3)
  | 125 => (P_125, 5)
  | 126 => (P_126, 5)
  | 127 => (P_127, 5)
  | 128 => (P_128, 1)
  | 129 => (P_129, 4)
  | 130 => (P_130, 5)
  | 131 => (P_131, 5)
  | 132 => (P_132, 6)
  | 133 => (P_133, 5)
  | 134 => (P_134, 6)
  | 135 => (P_135, 3)
  | 136 => (P_136, 1)
  | 137 => (P_137, 2)
  | 138 => (P_138, 2)
  | 139 => (P_139, 2)
  | 140 => (P_140, 2)
  | 141 => (P_141, 4)
  | 142 => (P_142, 2)
  | 143 => (P_143, 5)
  | 144 => (P_144, 8)
  | 145 => (P_145, 3)
  | 146 => (P_146, 1)
  | 147 => (P_147, 6)
  | 148 => (P_148, 3)
  | 149 => (P_149, 2)
  | 150 => (P_150, 2)
  | 151 => (P_151, 2)
  | 152 => (P_152, 2)
  | 153 => (P_153, 4)
  | 154 => (P_154, 3)
  | 155 => (P_155, 3)
  | 156 => (P_156, 3)
  | 157 => (P_157, 3)
  | 158 => (P_158, 2)
  | 159 => (P_159, 3)
  | 160 => (P_160, 2)
  | 161 => (P_161, 2)
  | 162 => (P_162, 5)
  | 163 => (P_163, 1)
  | 164 => (P_164, 1)
  | 165 => (P_165, 2)
  | 166 => (P_166, 1)
  | 167 => (P_167, 2)
  | 168 => (P_168, 1)
  | 169 => (P_169, 9)
  | 170 => (P_170, 1)
  | 171 => (P_171, 2)
  | 172 => (P_172, 2)
  | 173 => (P_173, 3)
  | 174 => (P_174, 3)
  | 175 => (P_175, 3)
  | 176 => (P_176, 3)
  | 177 => (P_177, 1)
  | 178 => (P_178, 2)
  | 179 => (P_179, 2)
  | 180 => (P_180, 3)
  | 181 => (P_181, 2)
  | 182 => (P_182, 2)
  | 183 => (P_183, 6)
  | 184 => (P_184, 4)
  | 185 => (P_185, 2)
  | 186 => (P_186, 2)
  | 187 => (P_187, 1)
  | 188 => (P_188, 1)
  | 189 => (P_189, 2)
  | 190 => (P_190, 1)
  | 191 => (P_191, 3)
  | 192 => (P_192, 2)
  | 193 => (P_193, 1)
  | 194 => (P_194, 2)
  | 195 => (P_195, 3)
  | 196 => (P_196, 2)
  | 197 => (P_197, 3)
  | 198 => (P_198, 2)
  | 199 => (P_199, 3)
  | 200 => (P_200, 3)
  | 201 => (P_201, 2)
  | 202 => (P_202, 2)
  | 203 => (P_203, 3)
  | 204 => (P_204, 4)
  | 205 => (P_205, 4)
  | 206 => (P_206, 2)
  | 207 => (P_207, 4)
  | 208 => (P_208, 4)
  | 209 => (P_209, 6)
  | 210 => (P_210, 5)
  | 211 => (P_211, 1)
  | 212 => (P_212, 5)
  | 213 => (P_213, 2)
  | 214 => (P_214, 5)
  | 215 => (P_215, 4)
  | 216 => (P_216, 4)
  | 217 => (P_217, 2)
  | 218 => (P_218, 2)
  | 219 => (P_219, 3)
  | 220 => (P_220, 2)
  | 221 => (P_221, 2)
  | 222 => (P_222, 2)
  | 223 => (P_223, 4)
  | 224 => (P_224, 3)
  | 225 => (P_225, 5)
  | 226 => (P_226, 3)
  | 227 => (P_227, 1)
  | 228 => (P_228, 2)
  | 229 => (P_229, 2)
  | 230 => (P_230, 4)
  | 231 => (P_231, 6)
  | 232 => (P_232, 12)
  | 233 => (P_233, 2)
  | 234 => (P_234, 5)
  | 235 => (P_235, 5)
  | 236 => (P_236, 2)
  | 237 => (P_237, 4)
  | 238 => (P_238, 1)
  | 239 => (P_239, 2)
  | 240 => (P_240, 4)
  | 241 => (P_241, 7)
  | 242 => (P_242, 2)
  | 243 => (P_243, 8)
  | 244 => (P_244, 2)
  | 245 => (P_245, 2)
  | 246 => (P_246, 8)
  | 247 => (P_247, 3)
  | 248 => (P_248, 6)
  | 249 => (P_249, 5)
  | 250 => (P_250, 2)
  | 251 => (P_251, 2)
  | 252 => (P_252, 4)
  | 253 => (P_253, 2)
  | 254 => (P_254, 3)
  | 255 => (P_255, 2)
  | 256 => (P_256, 3)
  | 257 => (P_257, 2)
  | 258 => (P_258, 4)
  | 259 => (P_259, 4)
  | 260 => (P_260, 2)
  | 261 => (P_261, 2)
  | 262 => (P_262, 3)
  | 263 => (P_263, 3)
  | 264 => (P_264, 2)
  | 265 => (P_265, 6)
  | 266 => (P_266, 4)
  | 267 => (P_267, 2)
  | 268 => (P_268, 2)
  | 269 => (P_269, 2)
  | 270 => (P_270, 2)
  | 271 => (P_271, 4)
  | 272 => (P_272, 1)
  | 273 => (P_273, 1)
  | 274 => (P_274, 6)
  | 275 => (P_275, 2)
  | 276 => (P_276, 1)
  | 277 => (P_277, 3)
  | 278 => (P_278, 4)
  | 279 => (P_279, 8)
  | 280 => (P_280, 2)
  | 281 => (P_281, 3)
  | 282 => (P_282, 3)
  | 283 => (P_283, 2)
  | 284 => (P_284, 5)
  | 285 => (P_285, 4)
  | 286 => (P_286, 7)
  | _ => ([], 0)
/-- the locals at an entry -/
def bk_args : Nat → List bk_V → List bk_V
  | 0, _ => []
  | n + 1, [] => bk_x :: bk_args n []
  | 1, v :: _ => [v]
  | n + 2, v :: as => match v with
    | .inr (.inl _) => v :: bk_x :: bk_args n as
    | _ => v :: bk_args (n + 1) as
/-- method μ, called d deep at the most, b throws at the most -/
def bk_C : Nat → bk_Ca
  | 0 => fun _ _ _ _ _ => False
  | d + 1 => fun b μ as M Q => bk_wp (bk_C d) (bk_prog μ).1 Q b 0 (bk_args (bk_prog μ).2 as) [] M
theorem bk_C_mono : ∀ (d : Nat) (b μ : Nat) (as : List bk_V) (M : bk_M) (Q Q' : bk_Q), (∀ t r M, Q t r M → Q' t r M) → bk_C d b μ as M Q → bk_C d b μ as M Q'
  | 0, _, _, _, _, _, _, _, h => h.elim
  | d + 1, _, _, _, _, _, _, hQ, h => bk_wp_mono (bk_C_mono d) hQ h
/-- a label opened, and all behind it but the stops -/
theorem bk_blk {d : Nat} {P : bk_P} {Q : bk_Q} (S : List Nat) (n : Nat) {b l : Nat} {ls st : List bk_V} {M : bk_M} (h : bk_run (bk_C d) (bk_go (bk_C d) P Q S n) Q (bk_lk l P) b ls st M) : bk_wp (bk_C d) P Q b l ls st M :=
  bk_wp_fold (bk_C_mono d) (bk_run_mono (bk_C_mono d) (fun _ _ _ _ _ q => bk_go_wp (bk_C_mono d) n q) (fun _ _ _ h => h) _ b ls st M h)
end
section
theorem bk_wp_unf {d : Nat} {P : bk_P} {Q : bk_Q} {b l : Nat} {ls st : List bk_V} {M : bk_M} (h : bk_wp (bk_C d) P Q b l ls st M) : bk_run (bk_C d) (bk_wp (bk_C d) P Q) Q (bk_lk l P) b ls st M :=
  h (fun b l ls st M => bk_run (bk_C d) (bk_wp (bk_C d) P Q) Q (bk_lk l P) b ls st M) fun b l ls st M q => bk_run_mono (bk_C_mono d) (fun _ _ _ _ _ z => bk_wp_fold (bk_C_mono d) z) (fun _ _ _ h => h) _ b ls st M q
theorem bk_wp_go {d : Nat} {P : bk_P} {Q : bk_Q} {S : List Nat} (n : Nat) : ∀ {b l : Nat} {ls st : List bk_V} {M : bk_M}, bk_wp (bk_C d) P Q b l ls st M → bk_go (bk_C d) P Q S n b l ls st M := by
  induction n with
  | zero => intro b l ls st M h; exact h
  | succ n ih =>
    intro b l ls st M h
    unfold bk_go
    cases hs : S.elem l with
    | true => exact h
    | false => exact bk_run_mono (bk_C_mono d) (fun _ _ _ _ _ q => ih q) (fun _ _ _ h => h) _ b ls st M (bk_wp_unf h)
theorem bk_iff {d : Nat} {P : bk_P} {Q : bk_Q} (S : List Nat) (n : Nat) {b l : Nat} {ls st : List bk_V} {M : bk_M} : bk_wp (bk_C d) P Q b l ls st M ↔ bk_run (bk_C d) (bk_go (bk_C d) P Q S n) Q (bk_lk l P) b ls st M :=
  ⟨fun h => bk_run_mono (bk_C_mono d) (fun _ _ _ _ _ q => bk_wp_go n q) (fun _ _ _ h => h) _ b ls st M (bk_wp_unf h), bk_blk S n⟩
end
section
/-! What a method does is one thing: two ends of it hold together, and it has one. So a contract is an equivalence. -/
theorem bk_sw_and {x : Int} {F G H : Int → Prop} (h : ∀ l, F l → G l → H l) (d : Int) : ∀ (os : List Int) (lo : Int), bk_sw x F d lo os → bk_sw x G d lo os → bk_sw x H d lo os
  | [], _, h1, h2 => h _ h1 h2
  | _ :: os, lo, h1, h2 => ⟨fun e => h _ (h1.1 e) (h2.1 e), fun e => bk_sw_and h d os (lo + 1) (h1.2 e) (h2.2 e)⟩
theorem bk_lsw_and {x : Int} {F G H : Int → Prop} (h : ∀ l, F l → G l → H l) (d : Int) : ∀ (os : List (Int × Int)), bk_lsw x F d os → bk_lsw x G d os → bk_lsw x H d os
  | [], h1, h2 => h _ h1 h2
  | _ :: os, h1, h2 => ⟨fun e => h _ (h1.1 e) (h2.1 e), fun e => bk_lsw_and h d os (h1.2 e) (h2.2 e)⟩
theorem bk_getf_and {f : Nat} {M : bk_M} {k i : Nat} {st : List bk_V} {K1 K2 K : List bk_V → Prop} (hK : ∀ st, K1 st → K2 st → K st) : bk_getf f M k i st K1 → bk_getf f M k i st K2 → bk_getf f M k i st K := by
  unfold bk_getf
  cases Nat.beq k (f / 64 % 16) with
  | false => exact fun h _ => h
  | true => simp only [cond_true]; split <;> exact hK _
theorem bk_putf_and {f : Nat} {M : bk_M} {k i : Nat} {v : bk_V} {K1 K2 K : bk_M → Prop} (hK : ∀ M, K1 M → K2 M → K M) : bk_putf f M k i v K1 → bk_putf f M k i v K2 → bk_putf f M k i v K := by
  unfold bk_putf
  cases Nat.beq k (f / 64 % 16) with
  | false => exact fun h _ => h
  | true =>
    simp only [cond_true]
    split
    · exact fun h g M' e => hK _ (h M' e) (g M' e)
    · exact fun h g M' e => hK _ (h M' e) (g M' e)
    · rename_i k2 i2 _
      cases Nat.beq k2 (f / 8192 % 128) with
      | false => exact fun h _ => h
      | true => exact fun h g M' e => hK _ (h M' e) (g M' e)
    · exact fun h g => ⟨h.1, fun M' e => hK _ (h.2 M' e) (g.2 M' e)⟩
    · exact fun h _ => h
theorem bk_op_and {C : bk_Ca} (hC : ∀ b μ as M (Q Q' : bk_Q), (∀ t r M, Q t r M → Q' t r M) → C b μ as M Q → C b μ as M Q') (hA : ∀ b μ as M (Q Q' : bk_Q), C b μ as M Q → C b μ as M Q' → C b μ as M (fun t r M => Q t r M ∧ Q' t r M))
    {T1 T2 T : bk_T} (hT : ∀ b l ls st M, T1 b l ls st M → T2 b l ls st M → T b l ls st M) {Q1 Q2 Q : bk_Q} (hQ : ∀ t r M, Q1 t r M → Q2 t r M → Q t r M) {K1 K2 K : bk_K} (hK : ∀ b ls st M, K1 b ls st M → K2 b ls st M → K b ls st M)
    (i : Instr) (b : Nat) (ls st : List bk_V) (M : bk_M) (h : bk_op C T1 Q1 i K1 b ls st M) (g : bk_op C T2 Q2 i K2 b ls st M) : bk_op C T Q i K b ls st M := by
  revert h g
  cases i
  case getfield f =>
    simp only [bk_op]; split
    · exact bk_getf_and fun st => hK _ _ _ _
    · exact fun h _ => h
  case putfield f =>
    simp only [bk_op]; split
    · exact bk_putf_and fun M => hK _ _ _ _
    · exact fun h _ => h
  case invokevirtual n =>
    simp only [bk_op]; split
    · rename_i len dp dk di sp sk si st
      refine fun h g => ⟨h.1, ?_⟩
      have h := h.2
      have g := g.2
      revert h g
      cases (Nat.beq (bk_so sk) (bk_so dk) && Nat.ble (bk_so sk) 1 && Nat.ble st.length 4 && Nat.ble 16 sk && Nat.ble 16 dk) with
      | false => exact fun h _ => h
      | true => exact fun h g M' e => hK _ _ _ _ (h M' e) (g M' e)
    · rename_i y x st
      cases Nat.ble st.length 4 with
      | false => exact fun h _ => h
      | true => exact hK _ _ _ _
    · rename_i y x st
      cases Nat.ble st.length 4 with
      | false => exact fun h _ => h
      | true => exact hK _ _ _ _
    · rename_i x st
      cases Nat.ble st.length 4 with
      | false => exact fun h _ => h
      | true => exact fun h g => ⟨h.1, hK _ _ _ _ h.2 g.2⟩
    · rename_i k i st
      cases (Nat.beq k 14 && Nat.ble st.length 4) with
      | false => exact fun h _ => h
      | true => exact hK _ _ _ _
    · rename_i j k i st
      cases (Nat.beq k 14 && Nat.ble st.length 4) with
      | false => exact fun h _ => h
      | true => exact fun h g => ⟨h.1, hK _ _ _ _ h.2 g.2⟩
    · exact fun h _ => h
  case invokestatic n =>
    simp only [bk_op]; split
    · rename_i as st _
      cases (Nat.ble st.length 4 && bk_rcv (n / 32768 % 16) as && Nat.beq (bk_wd as) (n / 524288)) with
      | false => exact fun h _ => h
      | true => exact fun h g => hC _ _ _ _ _ _ (fun t r M e => ⟨e.1.1, hK _ _ _ _ e.1.2 e.2.2⟩) (hA _ _ _ _ _ _ h g)
    · exact fun h _ => h
  case invokeinterface n h' =>
    simp only [bk_op]; split
    · rename_i as st _
      cases (Nat.ble st.length 4 && bk_rcv (n / 32768 % 16) as && Nat.beq (bk_wd as) (n / 524288)) with
      | false => exact fun h _ => h
      | true => exact fun h g => hC _ _ _ _ _ _ (fun t r M e => ⟨fun q => hK _ _ _ _ (e.1.1 q) (e.2.1 q), fun q => hT _ _ _ _ _ (e.1.2 q) (e.2.2 q)⟩) (hA _ _ _ _ _ _ h g)
    · exact fun h _ => h
  case aload n =>
    simp only [bk_op]; split
    · rename_i k i _
      cases Nat.beq k 15 with
      | false => exact hK _ _ _ _
      | true => exact fun h _ => h
    · exact fun h _ => h
  case athrow =>
    simp only [bk_op]; split
    · exact hQ _ _ _
    · exact fun h _ => h
  case saload =>
    simp only [bk_op]; split
    · rename_i j k i st
      cases Nat.beq k 13 with
      | false => exact fun h _ => h
      | true => exact fun h g => ⟨h.1, hK _ _ _ _ h.2 g.2⟩
    · exact fun h _ => h
  case swap =>
    simp only [bk_op]; split
    · rename_i k i st
      cases Nat.beq k 13 with
      | false => exact fun h _ => h
      | true => exact hK _ _ _ _
    · exact fun h _ => h
  case arraylength =>
    simp only [bk_op]; split
    · rename_i k i st
      cases Nat.ble 16 k with
      | false => exact fun h _ => h
      | true => exact hK _ _ _ _
    · exact fun h _ => h
  case iaload =>
    simp only [bk_op]; split
    · rename_i j k i st
      refine fun h g => ⟨h.1, ?_⟩
      have h := h.2
      have g := g.2
      revert h g
      cases Nat.beq (bk_so k) 0 with
      | false => exact fun h _ => h
      | true => exact hK _ _ _ _
    · exact fun h _ => h
  case laload =>
    simp only [bk_op]; split
    · rename_i j k i st
      refine fun h g => ⟨h.1, ?_⟩
      have h := h.2
      have g := g.2
      revert h g
      cases Nat.beq (bk_so k) 1 with
      | false => exact fun h _ => h
      | true => exact hK _ _ _ _
    · exact fun h _ => h
  case baload =>
    simp only [bk_op]; split
    · rename_i j k i st
      refine fun h g => ⟨h.1, ?_⟩
      have h := h.2
      have g := g.2
      revert h g
      cases Nat.beq (bk_so k) 2 with
      | false => exact fun h _ => h
      | true => exact hK _ _ _ _
    · exact fun h _ => h
  case aaload =>
    simp only [bk_op]; split
    · rename_i j k _ st
      refine fun h g => ⟨h.1, ?_⟩
      have h := h.2
      have g := g.2
      revert h g
      cases Nat.beq (bk_so k) 3 with
      | false => exact fun h _ => h
      | true => exact hK _ _ _ _
    · exact fun h _ => h
  case iastore =>
    simp only [bk_op]; split
    · rename_i z j k i st
      refine fun h g => ⟨h.1, ?_⟩
      have h := h.2
      have g := g.2
      revert h g
      cases Nat.beq (bk_so k) 0 with
      | false => exact fun h _ => h
      | true => exact fun h g M' e => hK _ _ _ _ (h M' e) (g M' e)
    · exact fun h _ => h
  case lastore =>
    simp only [bk_op]; split
    · rename_i z j k i st
      refine fun h g => ⟨h.1, ?_⟩
      have h := h.2
      have g := g.2
      revert h g
      cases Nat.beq (bk_so k) 1 with
      | false => exact fun h _ => h
      | true => exact fun h g M' e => hK _ _ _ _ (h M' e) (g M' e)
    · exact fun h _ => h
  case bastore =>
    simp only [bk_op]; split
    · rename_i z j k i st
      refine fun h g => ⟨h.1, ?_⟩
      have h := h.2
      have g := g.2
      revert h g
      cases Nat.beq (bk_so k) 2 with
      | false => exact fun h _ => h
      | true => exact fun h g => ⟨h.1, fun M' e => hK _ _ _ _ (h.2 M' e) (g.2 M' e)⟩
    · exact fun h _ => h
  all_goals
    simp only [bk_op]; (try split) <;>
    first
    | exact fun h _ => h
    | exact hK _ _ _ _
    | exact hT _ _ _ _ _
    | exact hQ _ _ _
    | exact fun h g => ⟨h.1, hQ _ _ _ h.2 g.2⟩
    | exact fun h g => ⟨h.1, hK _ _ _ _ h.2 g.2⟩
    | exact fun h g => ⟨fun e => hT _ _ _ _ _ (h.1 e) (g.1 e), fun e => hK _ _ _ _ (h.2 e) (g.2 e)⟩
    | exact bk_sw_and (fun l => hT _ _ _ _ _) _ _ _
    | exact bk_lsw_and (fun l => hT _ _ _ _ _) _ _
theorem bk_run_and {C : bk_Ca} (hC : ∀ b μ as M (Q Q' : bk_Q), (∀ t r M, Q t r M → Q' t r M) → C b μ as M Q → C b μ as M Q') (hA : ∀ b μ as M (Q Q' : bk_Q), C b μ as M Q → C b μ as M Q' → C b μ as M (fun t r M => Q t r M ∧ Q' t r M))
    {T1 T2 T : bk_T} (hT : ∀ b l ls st M, T1 b l ls st M → T2 b l ls st M → T b l ls st M) {Q1 Q2 Q : bk_Q} (hQ : ∀ t r M, Q1 t r M → Q2 t r M → Q t r M) (is : List Instr) :
    ∀ (b : Nat) (ls st : List bk_V) (M : bk_M), bk_run C T1 Q1 is b ls st M → bk_run C T2 Q2 is b ls st M → bk_run C T Q is b ls st M := by
  induction is with
  | nil => intro b ls st M h _; exact h
  | cons i is ih => intro b ls st M h g; exact bk_op_and hC hA hT hQ ih i b ls st M h g
theorem bk_C_and : ∀ (d : Nat) (b μ : Nat) (as : List bk_V) (M : bk_M) (Q Q' : bk_Q), bk_C d b μ as M Q → bk_C d b μ as M Q' → bk_C d b μ as M (fun t r M => Q t r M ∧ Q' t r M)
  | 0, _, _, _, _, _, _, h, _ => h
  | d + 1, b, μ, as, M, Q, Q', h, g => by
    have key := h (fun b l ls st M => bk_wp (bk_C d) (bk_prog μ).1 Q' b l ls st M → bk_wp (bk_C d) (bk_prog μ).1 (fun t r M => Q t r M ∧ Q' t r M) b l ls st M) (fun b l ls st M h1 g1 =>
      bk_wp_fold (bk_C_mono d) (bk_run_and (bk_C_mono d) (bk_C_and d) (T2 := bk_wp (bk_C d) (bk_prog μ).1 Q') (fun _ _ _ _ _ a b => a b) (fun _ _ _ a b => ⟨a, b⟩) _ b ls st M h1 (bk_wp_unf g1)))
    exact key g
theorem bk_sw_no {x : Int} {F : Int → Prop} (h : ∀ l, ¬ F l) (d : Int) : ∀ (os : List Int) (lo : Int), ¬ bk_sw x F d lo os
  | [], _, h1 => h _ h1
  | _ :: os, lo, h1 => by
    by_cases e : x = lo
    · exact h _ (h1.1 e)
    · exact bk_sw_no h d os (lo + 1) (h1.2 e)
theorem bk_lsw_no {x : Int} {F : Int → Prop} (h : ∀ l, ¬ F l) (d : Int) : ∀ (os : List (Int × Int)), ¬ bk_lsw x F d os
  | [], h1 => h _ h1
  | (k, _) :: os, h1 => by
    by_cases e : x = k
    · exact h _ (h1.1 e)
    · exact bk_lsw_no h d os (h1.2 e)
theorem bk_getf_no {f : Nat} {M : bk_M} {k i : Nat} {st : List bk_V} {K : List bk_V → Prop} (hK : ∀ st, ¬ K st) : ¬ bk_getf f M k i st K := by
  unfold bk_getf
  cases Nat.beq k (f / 64 % 16) with
  | false => exact fun h => h
  | true => simp only [cond_true]; split <;> exact hK _
theorem bk_putf_no {f : Nat} {M : bk_M} {k i : Nat} {v : bk_V} {K : bk_M → Prop} (hK : ∀ M, ¬ K M) : ¬ bk_putf f M k i v K := by
  unfold bk_putf
  cases Nat.beq k (f / 64 % 16) with
  | false => exact fun h => h
  | true =>
    simp only [cond_true]
    split
    · exact fun h => hK _ (h _ rfl)
    · exact fun h => hK _ (h _ rfl)
    · rename_i k2 i2 _
      cases Nat.beq k2 (f / 8192 % 128) with
      | false => exact fun h => h
      | true => exact fun h => hK _ (h _ rfl)
    · exact fun h => hK _ (h.2 _ rfl)
    · exact fun h => h
theorem bk_op_no {C : bk_Ca} (hC : ∀ b μ as M (Q : bk_Q), (∀ t r M, ¬ Q t r M) → ¬ C b μ as M Q)
    {T : bk_T} (hT : ∀ b l ls st M, ¬ T b l ls st M) {Q : bk_Q} (hQ : ∀ t r M, ¬ Q t r M) {K : bk_K} (hK : ∀ b ls st M, ¬ K b ls st M)
    (i : Instr) (b : Nat) (ls st : List bk_V) (M : bk_M) : ¬ bk_op C T Q i K b ls st M := by
  cases i
  case getfield f =>
    simp only [bk_op]; split
    · exact bk_getf_no fun st => hK _ _ _ _
    · exact fun h => h
  case putfield f =>
    simp only [bk_op]; split
    · exact bk_putf_no fun M => hK _ _ _ _
    · exact fun h => h
  case invokevirtual n =>
    simp only [bk_op]; split
    · rename_i len dp dk di sp sk si st
      intro h
      have h := h.2
      revert h
      cases (Nat.beq (bk_so sk) (bk_so dk) && Nat.ble (bk_so sk) 1 && Nat.ble st.length 4 && Nat.ble 16 sk && Nat.ble 16 dk) with
      | false => exact fun h => h
      | true => exact fun h => hK _ _ _ _ (h _ rfl)
    · rename_i y x st
      cases Nat.ble st.length 4 with
      | false => exact fun h => h
      | true => exact hK _ _ _ _
    · rename_i y x st
      cases Nat.ble st.length 4 with
      | false => exact fun h => h
      | true => exact hK _ _ _ _
    · rename_i x st
      cases Nat.ble st.length 4 with
      | false => exact fun h => h.2
      | true => exact fun h => hK _ _ _ _ h.2
    · rename_i k i st
      cases (Nat.beq k 14 && Nat.ble st.length 4) with
      | false => exact fun h => h
      | true => exact hK _ _ _ _
    · rename_i j k i st
      cases (Nat.beq k 14 && Nat.ble st.length 4) with
      | false => exact fun h => h
      | true => exact fun h => hK _ _ _ _ h.2
    · exact fun h => h
  case invokestatic n =>
    simp only [bk_op]; split
    · rename_i as st _
      cases (Nat.ble st.length 4 && bk_rcv (n / 32768 % 16) as && Nat.beq (bk_wd as) (n / 524288)) with
      | false => exact fun h => h
      | true => exact hC _ _ _ _ _ (fun t r M e => hK _ _ _ _ e.2)
    · exact fun h => h
  case invokeinterface n h' =>
    simp only [bk_op]; split
    · rename_i as st _
      cases (Nat.ble st.length 4 && bk_rcv (n / 32768 % 16) as && Nat.beq (bk_wd as) (n / 524288)) with
      | false => exact fun h => h
      | true => exact hC _ _ _ _ _ (fun t r M e => by
        by_cases q : t = 0
        · exact hK _ _ _ _ (e.1 q)
        · exact hT _ _ _ _ _ (e.2 q))
    · exact fun h => h
  case aload n =>
    simp only [bk_op]; split
    · rename_i k i _
      cases Nat.beq k 15 with
      | false => exact hK _ _ _ _
      | true => exact fun h => h
    · exact fun h => h
  case athrow =>
    simp only [bk_op]; split
    · exact hQ _ _ _
    · exact fun h => h
  case saload =>
    simp only [bk_op]; split
    · rename_i j k i st
      cases Nat.beq k 13 with
      | false => exact fun h => h
      | true => exact fun h => hK _ _ _ _ h.2
    · exact fun h => h
  case swap =>
    simp only [bk_op]; split
    · rename_i k i st
      cases Nat.beq k 13 with
      | false => exact fun h => h
      | true => exact hK _ _ _ _
    · exact fun h => h
  case arraylength =>
    simp only [bk_op]; split
    · rename_i k i st
      cases Nat.ble 16 k with
      | false => exact fun h => h
      | true => exact hK _ _ _ _
    · exact fun h => h
  case iaload =>
    simp only [bk_op]; split
    · rename_i j k i st
      intro h
      have h := h.2
      revert h
      cases Nat.beq (bk_so k) 0 with
      | false => exact fun h => h
      | true => exact hK _ _ _ _
    · exact fun h => h
  case laload =>
    simp only [bk_op]; split
    · rename_i j k i st
      intro h
      have h := h.2
      revert h
      cases Nat.beq (bk_so k) 1 with
      | false => exact fun h => h
      | true => exact hK _ _ _ _
    · exact fun h => h
  case baload =>
    simp only [bk_op]; split
    · rename_i j k i st
      intro h
      have h := h.2
      revert h
      cases Nat.beq (bk_so k) 2 with
      | false => exact fun h => h
      | true => exact hK _ _ _ _
    · exact fun h => h
  case aaload =>
    simp only [bk_op]; split
    · rename_i j k _ st
      intro h
      have h := h.2
      revert h
      cases Nat.beq (bk_so k) 3 with
      | false => exact fun h => h
      | true => exact hK _ _ _ _
    · exact fun h => h
  case iastore =>
    simp only [bk_op]; split
    · rename_i z j k i st
      intro h
      have h := h.2
      revert h
      cases Nat.beq (bk_so k) 0 with
      | false => exact fun h => h
      | true => exact fun h => hK _ _ _ _ (h _ rfl)
    · exact fun h => h
  case lastore =>
    simp only [bk_op]; split
    · rename_i z j k i st
      intro h
      have h := h.2
      revert h
      cases Nat.beq (bk_so k) 1 with
      | false => exact fun h => h
      | true => exact fun h => hK _ _ _ _ (h _ rfl)
    · exact fun h => h
  case bastore =>
    simp only [bk_op]; split
    · rename_i z j k i st
      intro h
      have h := h.2
      revert h
      cases Nat.beq (bk_so k) 2 with
      | false => exact fun h => h
      | true => exact fun h => hK _ _ _ _ (h.2 _ rfl)
    · exact fun h => h
  all_goals
    simp only [bk_op]; (try split) <;>
    first
    | exact fun h => h
    | exact hK _ _ _ _
    | exact hT _ _ _ _ _
    | exact hQ _ _ _
    | exact fun h => hQ _ _ _ h.2
    | exact fun h => hK _ _ _ _ h.2
    | exact fun h => (Classical.em _).elim (fun e => hT _ _ _ _ _ (h.1 e)) (fun e => hK _ _ _ _ (h.2 e))
    | exact bk_sw_no (fun l => hT _ _ _ _ _) _ _ _
    | exact bk_lsw_no (fun l => hT _ _ _ _ _) _ _
theorem bk_run_no {C : bk_Ca} (hC : ∀ b μ as M (Q : bk_Q), (∀ t r M, ¬ Q t r M) → ¬ C b μ as M Q)
    {T : bk_T} (hT : ∀ b l ls st M, ¬ T b l ls st M) {Q : bk_Q} (hQ : ∀ t r M, ¬ Q t r M) (is : List Instr) : ∀ (b : Nat) (ls st : List bk_V) (M : bk_M), ¬ bk_run C T Q is b ls st M := by
  induction is with
  | nil => intro b ls st M h; exact h
  | cons i is ih => intro b ls st M; exact bk_op_no hC hT hQ ih i b ls st M
theorem bk_C_no : ∀ (d : Nat) (b μ : Nat) (as : List bk_V) (M : bk_M) (Q : bk_Q), (∀ t r M, ¬ Q t r M) → ¬ bk_C d b μ as M Q
  | 0, _, _, _, _, _, _ => fun h => h
  | d + 1, b, μ, as, M, Q, hQ => fun h => h (fun _ _ _ _ _ => False) (fun b l ls st M q => bk_run_no (bk_C_no d) (fun _ _ _ _ _ z => z) hQ _ b ls st M q)
/-- a contract is an equivalence -/
theorem bk_det {d b μ : Nat} {as : List bk_V} {M M' : bk_M} {t : Nat} {r : Int} (h : ∀ Q : bk_Q, Q t r M' → bk_C d b μ as M Q) (Q : bk_Q) : bk_C d b μ as M Q ↔ Q t r M' := by
  refine ⟨fun g => ?_, h Q⟩
  refine Classical.byContradiction fun n => ?_
  have h1 := bk_C_and d b μ as M Q (fun t2 r2 M2 => t2 = t ∧ r2 = r ∧ M2 = M') g (h _ ⟨rfl, rfl, rfl⟩)
  refine bk_C_no d b μ as M _ ?_ h1
  rintro t2 r2 M2 ⟨z, rfl, rfl, rfl⟩
  exact n z
end
section
theorem E_0 {d : Nat} {Q : bk_Q} (i0 : Nat) (M : bk_M) : bk_C (d + 1) 0 0 [bk_c 5 i0] M Q ↔ ∀ M1 : bk_M, M1 = bk_up M 5 i0 (0 : Int) (5 : Int) → ∀ M2 : bk_M, M2 = bk_up M1 5 i0 (1 : Int) (5 : Int) → ∀ M3 : bk_M, M3 = bk_up M2 5 i0 (2 : Int) (0 : Int) → ∀ M4 : bk_M, M4 = bk_up M3 5 i0 (3 : Int) (2 : Int) → ∀ M5 : bk_M, M5 = bk_up M4 5 i0 (6 : Int) (0 : Int) → ∀ M6 : bk_M, M6 = bk_up M5 5 i0 (11 : Int) (0 : Int) → ∀ M7 : bk_M, M7 = bk_up M6 5 i0 (17 : Int) (0 : Int) → bk_wp (bk_C d) P_0 Q 0 37 [bk_c 5 i0, bk_i (0 : Int)] [] M7 := bk_iff (d := d) (P := P_0) (b := 0) (l := 0) (ls := [bk_c 5 i0, bk_x]) (st := []) (M := M) [37, 58, 79] 40
theorem L_0_37 {d : Nat} {Q : bk_Q} (i0 : Nat) (x1 : Int) (M : bk_M) : bk_wp (bk_C d) P_0 Q 0 37 [bk_c 5 i0, bk_i x1] [] M ↔ (((36 : Int) ≤ x1 → bk_wp (bk_C d) P_0 Q 0 58 [bk_c 5 i0, bk_i (0 : Int)] [] M) ∧ (¬ ((36 : Int) ≤ x1) → ((0 : Int) ≤ x1 ∧ x1 < (36 : Int)) ∧ ∀ M1 : bk_M, M1 = bk_up M 28 i0 x1 (5 : Int) → bk_r32 (x1 + (1 : Int)) ∧ bk_wp (bk_C d) P_0 Q 0 37 [bk_c 5 i0, bk_i (x1 + (1 : Int))] [] M1)) := bk_iff [37, 58, 79] 40
theorem L_0_58 {d : Nat} {Q : bk_Q} (i0 : Nat) (x1 : Int) (M : bk_M) : bk_wp (bk_C d) P_0 Q 0 58 [bk_c 5 i0, bk_i x1] [] M ↔ (((6 : Int) ≤ x1 → bk_wp (bk_C d) P_0 Q 0 79 [bk_c 5 i0, bk_i (0 : Int)] [] M) ∧ (¬ ((6 : Int) ≤ x1) → ((0 : Int) ≤ x1 ∧ x1 < (6 : Int)) ∧ ∀ M1 : bk_M, M1 = bk_up M 29 i0 x1 (0 : Int) → bk_r32 (x1 + (1 : Int)) ∧ bk_wp (bk_C d) P_0 Q 0 58 [bk_c 5 i0, bk_i (x1 + (1 : Int))] [] M1)) := bk_iff [37, 58, 79] 40
theorem L_0_79 {d : Nat} {Q : bk_Q} (i0 : Nat) (x1 : Int) (M : bk_M) : bk_wp (bk_C d) P_0 Q 0 79 [bk_c 5 i0, bk_i x1] [] M ↔ (((1 : Int) < x1 → Q 0 0 M) ∧ (¬ ((1 : Int) < x1) → ((0 : Int) ≤ x1 ∧ x1 < (2 : Int)) ∧ ∀ M1 : bk_M, M1 = bk_up M 37 i0 x1 (9 : Int) → ((0 : Int) ≤ x1 ∧ x1 < (2 : Int)) ∧ ∀ M2 : bk_M, M2 = bk_up M1 38 i0 x1 (0 : Int) → bk_r32 (x1 + (1 : Int)) ∧ bk_wp (bk_C d) P_0 Q 0 79 [bk_c 5 i0, bk_i (x1 + (1 : Int))] [] M2)) := bk_iff [37, 58, 79] 40
theorem E_1 {d : Nat} {Q : bk_Q} (a1 : Int) (a2 : Int) (a3 : Int) (a4 : Int) (a5 : Int) (M : bk_M) : bk_C (d + 1) 0 1 [bk_c 11 0, bk_i a1, bk_i a2, bk_i a3, bk_i a4, bk_i a5] M Q ↔ ((M 10 0 (1 : Int) ≤ (920 : Int) → bk_C d 0 2 [bk_c 10 0, bk_i a1] M (fun t3 r1 M2 => t3 = 0 ∧ bk_C d 0 2 [bk_c 10 0, bk_i a2] M2 (fun t6 r4 M5 => t6 = 0 ∧ bk_C d 0 2 [bk_c 10 0, bk_i a3] M5 (fun t9 r7 M8 => t9 = 0 ∧ bk_C d 0 2 [bk_c 10 0, bk_i a4] M8 (fun t12 r10 M11 => t12 = 0 ∧ bk_C d 0 2 [bk_c 10 0, bk_i a5] M11 (fun t15 r13 M14 => t15 = 0 ∧ Q 0 (M14 10 0 (1 : Int)) M14)))))) ∧ (¬ (M 10 0 (1 : Int) ≤ (920 : Int)) → Q 0 (-1 : Int) M)) := bk_iff (d := d) (P := P_1) (b := 0) (l := 0) (ls := [bk_c 11 0, bk_i a1, bk_i a2, bk_i a3, bk_i a4, bk_i a5]) (st := []) (M := M) [] 40
theorem E_2 {d : Nat} {Q : bk_Q} (a1 : Int) (M : bk_M) : bk_C (d + 1) 0 2 [bk_c 10 0, bk_i a1] M Q ↔ bk_wp (bk_C d) P_2 Q 0 3 [bk_c 10 0, bk_i a1, bk_i (24 : Int)] [] M := bk_iff (d := d) (P := P_2) (b := 0) (l := 0) (ls := [bk_c 10 0, bk_i a1, bk_x]) (st := []) (M := M) [3] 40
theorem L_2_3 {d : Nat} {Q : bk_Q} (x1 : Int) (x2 : Int) (M : bk_M) : bk_wp (bk_C d) P_2 Q 0 3 [bk_c 10 0, bk_i x1, bk_i x2] [] M ↔ ((x2 < (0 : Int) → Q 0 0 M) ∧ (¬ (x2 < (0 : Int)) → (((940 : Int) ≤ M 10 0 (1 : Int) → Q 0 0 M) ∧ (¬ ((940 : Int) ≤ M 10 0 (1 : Int)) → ((0 : Int) ≤ x2 ∧ x2 < 32) ∧ ((0 : Int) ≤ M 10 0 (1 : Int) ∧ M 10 0 (1 : Int) < (940 : Int)) ∧ ∀ M1 : bk_M, M1 = bk_up M 53 0 (M 10 0 (1 : Int)) (bk_and (bk_ushr x1 x2) (255 : Int)) → bk_r32 ((M1 10 0 (1 : Int)) + (1 : Int)) ∧ ∀ M2 : bk_M, M2 = bk_up M1 10 0 (1 : Int) ((M1 10 0 (1 : Int)) + (1 : Int)) → bk_r32 (x2 + (-8 : Int)) ∧ bk_wp (bk_C d) P_2 Q 0 3 [bk_c 10 0, bk_i x1, bk_i (x2 + (-8 : Int))] [] M2)))) := bk_iff [3] 40
theorem E_3 {d : Nat} {Q : bk_Q} (a1 : Int) (M : bk_M) : bk_C (d + 1) 0 3 [bk_c 11 0, bk_i a1] M Q ↔ ((a1 < (0 : Int) → ((0 : Int) = 0 ∨ (0 : Int) = 1) ∧ Q 0 (0 : Int) M) ∧ (¬ (a1 < (0 : Int)) → ((a1 ≤ M 10 0 (1 : Int) → ∀ M1 : bk_M, M1 = bk_up M 10 0 (1 : Int) a1 → ((1 : Int) = 0 ∨ (1 : Int) = 1) ∧ Q 0 (1 : Int) M1) ∧ (¬ (a1 ≤ M 10 0 (1 : Int)) → ((0 : Int) = 0 ∨ (0 : Int) = 1) ∧ Q 0 (0 : Int) M)))) := bk_iff (d := d) (P := P_3) (b := 0) (l := 0) (ls := [bk_c 11 0, bk_i a1]) (st := []) (M := M) [] 40
theorem E_4 {d : Nat} {Q : bk_Q} (M : bk_M) : bk_C (d + 1) 0 4 [bk_c 11 0] M Q ↔ bk_C d 0 5 [bk_c 6 0, bk_c 10 0, bk_c 5 ((M 11 0 (2 : Int)).toNat)] M (fun t3 r1 M2 => t3 = 0 ∧ bk_C d 0 31 [bk_c 11 0] M2 (fun t6 r4 M5 => t6 = 0 ∧ ((r1 ≠ (-1 : Int) → bk_C d 0 32 [bk_c 8 0, bk_c 5 ((M5 11 0 (2 : Int)).toNat)] M5 (fun t9 r7 M8 => t9 = 0 ∧ ∀ M10 : bk_M, M10 = bk_up M8 11 0 (1 : Int) (Int.ofNat ((M8 11 0 (2 : Int)).toNat)) → ∀ M11 : bk_M, M11 = bk_up M10 11 0 (2 : Int) (Int.ofNat ((M8 11 0 (1 : Int)).toNat)) → bk_C d 0 37 [bk_c 9 ((M11 11 0 (7 : Int)).toNat)] M11 (fun t14 r12 M13 => t14 = 0 ∧ bk_C d 0 38 [bk_c 3 0] M13 (fun t17 r15 M16 => t17 = 0 ∧ Q 0 r1 M16)))) ∧ (¬ (r1 ≠ (-1 : Int)) → bk_r32 ((-1 : Int) - (M5 10 0 (7 : Int))) ∧ Q 0 ((-1 : Int) - (M5 10 0 (7 : Int))) M5)))) := bk_iff (d := d) (P := P_4) (b := 0) (l := 0) (ls := [bk_c 11 0, bk_x, bk_x]) (st := []) (M := M) [] 40
theorem E_5 {d : Nat} {Q : bk_Q} (i2 : Nat) (M : bk_M) : bk_C (d + 1) 0 5 [bk_c 6 0, bk_c 10 0, bk_c 5 i2] M Q ↔ bk_C d 0 0 [bk_c 5 i2] M (fun t3 r1 M2 => t3 = 0 ∧ ∀ M4 : bk_M, M4 = bk_up M2 6 0 (0 : Int) (0 : Int) → ∀ M5 : bk_M, M5 = bk_up M4 6 0 (1 : Int) (0 : Int) → ∀ M6 : bk_M, M6 = bk_up M5 6 0 (2 : Int) (0 : Int) → ((0 : Int) = 0 ∨ (0 : Int) = 1) ∧ ∀ M7 : bk_M, M7 = bk_up M6 6 0 (3 : Int) (0 : Int) → bk_C d 0 6 [bk_c 10 0, bk_i (900 : Int)] M7 (fun t10 r8 M9 => t10 = 0 ∧ bk_wp (bk_C d) P_5 Q 0 33 [bk_c 6 0, bk_c 10 0, bk_c 5 i2, bk_i (0 : Int)] [] M9)) := bk_iff (d := d) (P := P_5) (b := 0) (l := 0) (ls := [bk_c 6 0, bk_c 10 0, bk_c 5 i2, bk_x]) (st := []) (M := M) [33] 40
theorem L_5_33 {d : Nat} {Q : bk_Q} (i2 : Nat) (x3 : Int) (M : bk_M) : bk_wp (bk_C d) P_5 Q 0 33 [bk_c 6 0, bk_c 10 0, bk_c 5 i2, bk_i x3] [] M ↔ (((900 : Int) ≤ x3 → Q 0 (-1 : Int) M) ∧ (¬ ((900 : Int) ≤ x3) → ((M 10 0 (2 : Int) ≠ (0 : Int) → bk_C d 0 13 [bk_c 6 0, bk_c 10 0, bk_c 5 i2] M (fun t3 r1 M2 => t3 = 0 ∧ ((r1 = (0 : Int) → Q 0 (-1 : Int) M2) ∧ (¬ (r1 = (0 : Int)) → bk_C d 0 30 [bk_c 10 0, bk_i (59 : Int)] M2 (fun t6 r4 M5 => t6 = 0 ∧ ((r4 ≠ (0 : Int) → bk_C d 0 7 [bk_c 10 0] M5 (fun t9 r7 M8 => t9 = 0 ∧ bk_r32 (x3 + (1 : Int)) ∧ bk_wp (bk_C d) P_5 Q 0 33 [bk_c 6 0, bk_c 10 0, bk_c 5 i2, bk_i (x3 + (1 : Int))] [] M8)) ∧ (¬ (r4 ≠ (0 : Int)) → Q 0 (-1 : Int) M5))))))) ∧ (¬ (M 10 0 (2 : Int) ≠ (0 : Int)) → Q 0 x3 M)))) := bk_iff [33] 40
theorem E_6 {d : Nat} {Q : bk_Q} (a1 : Int) (M : bk_M) : bk_C (d + 1) 0 6 [bk_c 10 0, bk_i a1] M Q ↔ ∀ M1 : bk_M, M1 = bk_up M 10 0 (9 : Int) a1 → ∀ M2 : bk_M, M2 = bk_up M1 10 0 (10 : Int) (0 : Int) → ∀ M3 : bk_M, M3 = bk_up M2 10 0 (6 : Int) (0 : Int) → ∀ M4 : bk_M, M4 = bk_up M3 10 0 (7 : Int) (0 : Int) → bk_C d 0 7 [bk_c 10 0] M4 (fun t7 r5 M6 => t7 = 0 ∧ Q 0 0 M6) := bk_iff (d := d) (P := P_6) (b := 0) (l := 0) (ls := [bk_c 10 0, bk_i a1]) (st := []) (M := M) [] 40
theorem E_7 {d : Nat} {Q : bk_Q} (M : bk_M) : bk_C (d + 1) 0 7 [bk_c 10 0] M Q ↔ bk_wp (bk_C d) P_7 Q 0 5 [bk_c 10 0, bk_i (M 10 0 (10 : Int))] [] M := bk_iff (d := d) (P := P_7) (b := 0) (l := 0) (ls := [bk_c 10 0, bk_x]) (st := []) (M := M) [5, 35, 41] 40
theorem L_7_5 {d : Nat} {Q : bk_Q} (x1 : Int) (M : bk_M) : bk_wp (bk_C d) P_7 Q 0 5 [bk_c 10 0, bk_i x1] [] M ↔ ((M 10 0 (1 : Int) ≤ x1 → bk_wp (bk_C d) P_7 Q 0 41 [bk_c 10 0, bk_i x1] [] M) ∧ (¬ (M 10 0 (1 : Int) ≤ x1) → ((0 : Int) ≤ x1 ∧ x1 < (940 : Int)) ∧ ((M 53 0 x1 = (32 : Int) → bk_wp (bk_C d) P_7 Q 0 35 [bk_c 10 0, bk_i x1] [] M) ∧ (¬ (M 53 0 x1 = (32 : Int)) → ((0 : Int) ≤ x1 ∧ x1 < (940 : Int)) ∧ ((M 53 0 x1 ≠ (10 : Int) → bk_wp (bk_C d) P_7 Q 0 41 [bk_c 10 0, bk_i x1] [] M) ∧ (¬ (M 53 0 x1 ≠ (10 : Int)) → bk_wp (bk_C d) P_7 Q 0 35 [bk_c 10 0, bk_i x1] [] M)))))) := bk_iff [5, 35, 41] 40
theorem L_7_35 {d : Nat} {Q : bk_Q} (x1 : Int) (M : bk_M) : bk_wp (bk_C d) P_7 Q 0 35 [bk_c 10 0, bk_i x1] [] M ↔ bk_r32 (x1 + (1 : Int)) ∧ bk_wp (bk_C d) P_7 Q 0 5 [bk_c 10 0, bk_i (x1 + (1 : Int))] [] M := bk_iff [5, 35, 41] 40
set_option maxRecDepth 20000 in
theorem L_7_41 {d : Nat} {Q : bk_Q} (x1 : Int) (M : bk_M) : bk_wp (bk_C d) P_7 Q 0 41 [bk_c 10 0, bk_i x1] [] M ↔ ∀ M1 : bk_M, M1 = bk_up M 10 0 (10 : Int) x1 → ∀ M2 : bk_M, M2 = bk_up M1 10 0 (11 : Int) x1 → ((x1 < M2 10 0 (9 : Int) → ((x1 < M2 10 0 (1 : Int) → ((0 : Int) ≤ x1 ∧ x1 < (940 : Int)) ∧ bk_C d 0 8 [bk_i (M2 53 0 x1)] M2 (fun t5 r3 M4 => t5 = 0 ∧ ((r3 ≠ (0 : Int) → bk_C d 0 10 [bk_c 10 0] M4 (fun t8 r6 M7 => t8 = 0 ∧ ((M7 10 0 (2 : Int) ≠ (2 : Int) → ∀ M9 : bk_M, M9 = bk_up M7 10 0 (4 : Int) (-1 : Int) → Q 0 0 M9) ∧ (¬ (M7 10 0 (2 : Int) ≠ (2 : Int)) → bk_C d 0 11 [bk_c 54 0, bk_i (25 : Int), bk_l (M7 10 0 (3 : Int))] M7 (fun t12 r10 M11 => t12 = 0 ∧ ∀ M13 : bk_M, M13 = bk_up M11 10 0 (4 : Int) r10 → Q 0 0 M13))))) ∧ (¬ (r3 ≠ (0 : Int)) → ((0 : Int) ≤ x1 ∧ x1 < (940 : Int)) ∧ bk_C d 0 9 [bk_i (M4 53 0 x1)] M4 (fun t16 r14 M15 => t16 = 0 ∧ ((r14 = (0 : Int) → bk_r32 (x1 + (1 : Int)) ∧ ∀ M17 : bk_M, M17 = bk_up M15 10 0 (10 : Int) (x1 + (1 : Int)) → ((0 : Int) ≤ x1 ∧ x1 < (940 : Int)) ∧ bk_C d 0 12 [bk_i (M17 53 0 x1)] M17 (fun t20 r18 M19 => t20 = 0 ∧ ((r18 = (0 : Int) → ∀ M21 : bk_M, M21 = bk_up M19 10 0 (2 : Int) (1 : Int) → Q 0 0 M21) ∧ (¬ (r18 = (0 : Int)) → ((0 : Int) ≤ x1 ∧ x1 < (940 : Int)) ∧ ∀ M22 : bk_M, M22 = bk_up M19 10 0 (2 : Int) (M19 53 0 x1) → Q 0 0 M22)))) ∧ (¬ (r14 = (0 : Int)) → bk_C d 0 10 [bk_c 10 0] M15 (fun t25 r23 M24 => t25 = 0 ∧ ((M24 10 0 (2 : Int) ≠ (2 : Int) → ∀ M26 : bk_M, M26 = bk_up M24 10 0 (4 : Int) (-1 : Int) → Q 0 0 M26) ∧ (¬ (M24 10 0 (2 : Int) ≠ (2 : Int)) → bk_C d 0 11 [bk_c 54 0, bk_i (25 : Int), bk_l (M24 10 0 (3 : Int))] M24 (fun t29 r27 M28 => t29 = 0 ∧ ∀ M30 : bk_M, M30 = bk_up M28 10 0 (4 : Int) r27 → Q 0 0 M30))))))))))) ∧ (¬ (x1 < M2 10 0 (1 : Int)) → ∀ M31 : bk_M, M31 = bk_up M2 10 0 (2 : Int) (0 : Int) → Q 0 0 M31))) ∧ (¬ (x1 < M2 10 0 (9 : Int)) → ((M2 10 0 (1 : Int) ≤ M2 10 0 (9 : Int) → ((x1 < M2 10 0 (1 : Int) → ((0 : Int) ≤ x1 ∧ x1 < (940 : Int)) ∧ bk_C d 0 8 [bk_i (M2 53 0 x1)] M2 (fun t34 r32 M33 => t34 = 0 ∧ ((r32 ≠ (0 : Int) → bk_C d 0 10 [bk_c 10 0] M33 (fun t37 r35 M36 => t37 = 0 ∧ ((M36 10 0 (2 : Int) ≠ (2 : Int) → ∀ M38 : bk_M, M38 = bk_up M36 10 0 (4 : Int) (-1 : Int) → Q 0 0 M38) ∧ (¬ (M36 10 0 (2 : Int) ≠ (2 : Int)) → bk_C d 0 11 [bk_c 54 0, bk_i (25 : Int), bk_l (M36 10 0 (3 : Int))] M36 (fun t41 r39 M40 => t41 = 0 ∧ ∀ M42 : bk_M, M42 = bk_up M40 10 0 (4 : Int) r39 → Q 0 0 M42))))) ∧ (¬ (r32 ≠ (0 : Int)) → ((0 : Int) ≤ x1 ∧ x1 < (940 : Int)) ∧ bk_C d 0 9 [bk_i (M33 53 0 x1)] M33 (fun t45 r43 M44 => t45 = 0 ∧ ((r43 = (0 : Int) → bk_r32 (x1 + (1 : Int)) ∧ ∀ M46 : bk_M, M46 = bk_up M44 10 0 (10 : Int) (x1 + (1 : Int)) → ((0 : Int) ≤ x1 ∧ x1 < (940 : Int)) ∧ bk_C d 0 12 [bk_i (M46 53 0 x1)] M46 (fun t49 r47 M48 => t49 = 0 ∧ ((r47 = (0 : Int) → ∀ M50 : bk_M, M50 = bk_up M48 10 0 (2 : Int) (1 : Int) → Q 0 0 M50) ∧ (¬ (r47 = (0 : Int)) → ((0 : Int) ≤ x1 ∧ x1 < (940 : Int)) ∧ ∀ M51 : bk_M, M51 = bk_up M48 10 0 (2 : Int) (M48 53 0 x1) → Q 0 0 M51)))) ∧ (¬ (r43 = (0 : Int)) → bk_C d 0 10 [bk_c 10 0] M44 (fun t54 r52 M53 => t54 = 0 ∧ ((M53 10 0 (2 : Int) ≠ (2 : Int) → ∀ M55 : bk_M, M55 = bk_up M53 10 0 (4 : Int) (-1 : Int) → Q 0 0 M55) ∧ (¬ (M53 10 0 (2 : Int) ≠ (2 : Int)) → bk_C d 0 11 [bk_c 54 0, bk_i (25 : Int), bk_l (M53 10 0 (3 : Int))] M53 (fun t58 r56 M57 => t58 = 0 ∧ ∀ M59 : bk_M, M59 = bk_up M57 10 0 (4 : Int) r56 → Q 0 0 M59))))))))))) ∧ (¬ (x1 < M2 10 0 (1 : Int)) → ∀ M60 : bk_M, M60 = bk_up M2 10 0 (2 : Int) (0 : Int) → Q 0 0 M60))) ∧ (¬ (M2 10 0 (1 : Int) ≤ M2 10 0 (9 : Int)) → ∀ M61 : bk_M, M61 = bk_up M2 10 0 (11 : Int) (M2 10 0 (9 : Int)) → ∀ M62 : bk_M, M62 = bk_up M61 10 0 (2 : Int) (1 : Int) → Q 0 0 M62)))) := bk_iff [5, 35, 41] 40
theorem E_8 {d : Nat} {Q : bk_Q} (a0 : Int) (M : bk_M) : bk_C (d + 1) 0 8 [bk_i a0] M Q ↔ ((a0 < (97 : Int) → ((0 : Int) = 0 ∨ (0 : Int) = 1) ∧ Q 0 (0 : Int) M) ∧ (¬ (a0 < (97 : Int)) → (((122 : Int) < a0 → ((0 : Int) = 0 ∨ (0 : Int) = 1) ∧ Q 0 (0 : Int) M) ∧ (¬ ((122 : Int) < a0) → ((1 : Int) = 0 ∨ (1 : Int) = 1) ∧ Q 0 (1 : Int) M)))) := bk_iff (d := d) (P := P_8) (b := 0) (l := 0) (ls := [bk_i a0]) (st := []) (M := M) [] 40
theorem E_9 {d : Nat} {Q : bk_Q} (a0 : Int) (M : bk_M) : bk_C (d + 1) 0 9 [bk_i a0] M Q ↔ ((a0 < (48 : Int) → ((0 : Int) = 0 ∨ (0 : Int) = 1) ∧ Q 0 (0 : Int) M) ∧ (¬ (a0 < (48 : Int)) → (((57 : Int) < a0 → ((0 : Int) = 0 ∨ (0 : Int) = 1) ∧ Q 0 (0 : Int) M) ∧ (¬ ((57 : Int) < a0) → ((1 : Int) = 0 ∨ (1 : Int) = 1) ∧ Q 0 (1 : Int) M)))) := bk_iff (d := d) (P := P_9) (b := 0) (l := 0) (ls := [bk_i a0]) (st := []) (M := M) [] 40
theorem E_10 {d : Nat} {Q : bk_Q} (M : bk_M) : bk_C (d + 1) 0 10 [bk_c 10 0] M Q ↔ bk_wp (bk_C d) P_10 Q 0 15 [bk_c 10 0, bk_i (0 : Int), bk_i (0 : Int), bk_l (0 : Int), bk_x, bk_i (0 : Int), bk_i (M 10 0 (11 : Int)), bk_x] [] M := bk_iff (d := d) (P := P_10) (b := 0) (l := 0) (ls := [bk_c 10 0, bk_x, bk_x, bk_x, bk_x, bk_x, bk_x, bk_x]) (st := []) (M := M) [15] 40
set_option maxRecDepth 20000 in
theorem L_10_15 {d : Nat} {Q : bk_Q} (x1 : Int) (x2 : Int) (x3 : Int) (x5 : Int) (x6 : Int) (M : bk_M) : bk_wp (bk_C d) P_10 Q 0 15 [bk_c 10 0, bk_i x1, bk_i x2, bk_l x3, bk_x, bk_i x5, bk_i x6, bk_x] [] M ↔ ((M 10 0 (1 : Int) ≤ x6 → ∀ M1 : bk_M, M1 = bk_up M 10 0 (10 : Int) x6 → ∀ M2 : bk_M, M2 = bk_up M1 10 0 (2 : Int) (1 : Int) → ((x2 ≠ (0 : Int) → ((x1 ≠ (0 : Int) → Q 0 0 M2) ∧ (¬ (x1 ≠ (0 : Int)) → (((3 : Int) < x2 → Q 0 0 M2) ∧ (¬ ((3 : Int) < x2) → ∀ M3 : bk_M, M3 = bk_up M2 10 0 (2 : Int) (3 : Int) → ∀ M4 : bk_M, M4 = bk_up M3 10 0 (5 : Int) x5 → Q 0 0 M4))))) ∧ (¬ (x2 ≠ (0 : Int)) → (((7 : Int) < x1 → ((x1 ≠ (0 : Int) → Q 0 0 M2) ∧ (¬ (x1 ≠ (0 : Int)) → (((3 : Int) < x2 → Q 0 0 M2) ∧ (¬ ((3 : Int) < x2) → ∀ M5 : bk_M, M5 = bk_up M2 10 0 (2 : Int) (3 : Int) → ∀ M6 : bk_M, M6 = bk_up M5 10 0 (5 : Int) x5 → Q 0 0 M6))))) ∧ (¬ ((7 : Int) < x1) → ∀ M7 : bk_M, M7 = bk_up M2 10 0 (2 : Int) (2 : Int) → ∀ M8 : bk_M, M8 = bk_up M7 10 0 (3 : Int) x3 → Q 0 0 M8))))) ∧ (¬ (M 10 0 (1 : Int) ≤ x6) → ((0 : Int) ≤ x6 ∧ x6 < (940 : Int)) ∧ ((M 53 0 x6 < (97 : Int) → ((M 53 0 x6 < (48 : Int) → ∀ M9 : bk_M, M9 = bk_up M 10 0 (10 : Int) x6 → ∀ M10 : bk_M, M10 = bk_up M9 10 0 (2 : Int) (1 : Int) → ((x2 ≠ (0 : Int) → ((x1 ≠ (0 : Int) → Q 0 0 M10) ∧ (¬ (x1 ≠ (0 : Int)) → (((3 : Int) < x2 → Q 0 0 M10) ∧ (¬ ((3 : Int) < x2) → ∀ M11 : bk_M, M11 = bk_up M10 10 0 (2 : Int) (3 : Int) → ∀ M12 : bk_M, M12 = bk_up M11 10 0 (5 : Int) x5 → Q 0 0 M12))))) ∧ (¬ (x2 ≠ (0 : Int)) → (((7 : Int) < x1 → ((x1 ≠ (0 : Int) → Q 0 0 M10) ∧ (¬ (x1 ≠ (0 : Int)) → (((3 : Int) < x2 → Q 0 0 M10) ∧ (¬ ((3 : Int) < x2) → ∀ M13 : bk_M, M13 = bk_up M10 10 0 (2 : Int) (3 : Int) → ∀ M14 : bk_M, M14 = bk_up M13 10 0 (5 : Int) x5 → Q 0 0 M14))))) ∧ (¬ ((7 : Int) < x1) → ∀ M15 : bk_M, M15 = bk_up M10 10 0 (2 : Int) (2 : Int) → ∀ M16 : bk_M, M16 = bk_up M15 10 0 (3 : Int) x3 → Q 0 0 M16))))) ∧ (¬ (M 53 0 x6 < (48 : Int)) → (((57 : Int) < M 53 0 x6 → ∀ M17 : bk_M, M17 = bk_up M 10 0 (10 : Int) x6 → ∀ M18 : bk_M, M18 = bk_up M17 10 0 (2 : Int) (1 : Int) → ((x2 ≠ (0 : Int) → ((x1 ≠ (0 : Int) → Q 0 0 M18) ∧ (¬ (x1 ≠ (0 : Int)) → (((3 : Int) < x2 → Q 0 0 M18) ∧ (¬ ((3 : Int) < x2) → ∀ M19 : bk_M, M19 = bk_up M18 10 0 (2 : Int) (3 : Int) → ∀ M20 : bk_M, M20 = bk_up M19 10 0 (5 : Int) x5 → Q 0 0 M20))))) ∧ (¬ (x2 ≠ (0 : Int)) → (((7 : Int) < x1 → ((x1 ≠ (0 : Int) → Q 0 0 M18) ∧ (¬ (x1 ≠ (0 : Int)) → (((3 : Int) < x2 → Q 0 0 M18) ∧ (¬ ((3 : Int) < x2) → ∀ M21 : bk_M, M21 = bk_up M18 10 0 (2 : Int) (3 : Int) → ∀ M22 : bk_M, M22 = bk_up M21 10 0 (5 : Int) x5 → Q 0 0 M22))))) ∧ (¬ ((7 : Int) < x1) → ∀ M23 : bk_M, M23 = bk_up M18 10 0 (2 : Int) (2 : Int) → ∀ M24 : bk_M, M24 = bk_up M23 10 0 (3 : Int) x3 → Q 0 0 M24))))) ∧ (¬ ((57 : Int) < M 53 0 x6) → bk_r32 (x2 + (1 : Int)) ∧ bk_r32 ((10 : Int) * x5) ∧ bk_r32 (((10 : Int) * x5) + (M 53 0 x6)) ∧ bk_r32 ((((10 : Int) * x5) + (M 53 0 x6)) - (48 : Int)) ∧ bk_r32 (x6 + (1 : Int)) ∧ bk_wp (bk_C d) P_10 Q 0 15 [bk_c 10 0, bk_i x1, bk_i (x2 + (1 : Int)), bk_l x3, bk_x, bk_i ((((10 : Int) * x5) + (M 53 0 x6)) - (48 : Int)), bk_i (x6 + (1 : Int)), bk_i (M 53 0 x6)] [] M))))) ∧ (¬ (M 53 0 x6 < (97 : Int)) → (((122 : Int) < M 53 0 x6 → ((M 53 0 x6 < (48 : Int) → ∀ M25 : bk_M, M25 = bk_up M 10 0 (10 : Int) x6 → ∀ M26 : bk_M, M26 = bk_up M25 10 0 (2 : Int) (1 : Int) → ((x2 ≠ (0 : Int) → ((x1 ≠ (0 : Int) → Q 0 0 M26) ∧ (¬ (x1 ≠ (0 : Int)) → (((3 : Int) < x2 → Q 0 0 M26) ∧ (¬ ((3 : Int) < x2) → ∀ M27 : bk_M, M27 = bk_up M26 10 0 (2 : Int) (3 : Int) → ∀ M28 : bk_M, M28 = bk_up M27 10 0 (5 : Int) x5 → Q 0 0 M28))))) ∧ (¬ (x2 ≠ (0 : Int)) → (((7 : Int) < x1 → ((x1 ≠ (0 : Int) → Q 0 0 M26) ∧ (¬ (x1 ≠ (0 : Int)) → (((3 : Int) < x2 → Q 0 0 M26) ∧ (¬ ((3 : Int) < x2) → ∀ M29 : bk_M, M29 = bk_up M26 10 0 (2 : Int) (3 : Int) → ∀ M30 : bk_M, M30 = bk_up M29 10 0 (5 : Int) x5 → Q 0 0 M30))))) ∧ (¬ ((7 : Int) < x1) → ∀ M31 : bk_M, M31 = bk_up M26 10 0 (2 : Int) (2 : Int) → ∀ M32 : bk_M, M32 = bk_up M31 10 0 (3 : Int) x3 → Q 0 0 M32))))) ∧ (¬ (M 53 0 x6 < (48 : Int)) → (((57 : Int) < M 53 0 x6 → ∀ M33 : bk_M, M33 = bk_up M 10 0 (10 : Int) x6 → ∀ M34 : bk_M, M34 = bk_up M33 10 0 (2 : Int) (1 : Int) → ((x2 ≠ (0 : Int) → ((x1 ≠ (0 : Int) → Q 0 0 M34) ∧ (¬ (x1 ≠ (0 : Int)) → (((3 : Int) < x2 → Q 0 0 M34) ∧ (¬ ((3 : Int) < x2) → ∀ M35 : bk_M, M35 = bk_up M34 10 0 (2 : Int) (3 : Int) → ∀ M36 : bk_M, M36 = bk_up M35 10 0 (5 : Int) x5 → Q 0 0 M36))))) ∧ (¬ (x2 ≠ (0 : Int)) → (((7 : Int) < x1 → ((x1 ≠ (0 : Int) → Q 0 0 M34) ∧ (¬ (x1 ≠ (0 : Int)) → (((3 : Int) < x2 → Q 0 0 M34) ∧ (¬ ((3 : Int) < x2) → ∀ M37 : bk_M, M37 = bk_up M34 10 0 (2 : Int) (3 : Int) → ∀ M38 : bk_M, M38 = bk_up M37 10 0 (5 : Int) x5 → Q 0 0 M38))))) ∧ (¬ ((7 : Int) < x1) → ∀ M39 : bk_M, M39 = bk_up M34 10 0 (2 : Int) (2 : Int) → ∀ M40 : bk_M, M40 = bk_up M39 10 0 (3 : Int) x3 → Q 0 0 M40))))) ∧ (¬ ((57 : Int) < M 53 0 x6) → bk_r32 (x2 + (1 : Int)) ∧ bk_r32 ((10 : Int) * x5) ∧ bk_r32 (((10 : Int) * x5) + (M 53 0 x6)) ∧ bk_r32 ((((10 : Int) * x5) + (M 53 0 x6)) - (48 : Int)) ∧ bk_r32 (x6 + (1 : Int)) ∧ bk_wp (bk_C d) P_10 Q 0 15 [bk_c 10 0, bk_i x1, bk_i (x2 + (1 : Int)), bk_l x3, bk_x, bk_i ((((10 : Int) * x5) + (M 53 0 x6)) - (48 : Int)), bk_i (x6 + (1 : Int)), bk_i (M 53 0 x6)] [] M))))) ∧ (¬ ((122 : Int) < M 53 0 x6) → bk_r32 (x1 + (1 : Int)) ∧ ((0 : Int) ≤ (5 : Int) ∧ (5 : Int) < 64 ∧ bk_r64 (x3 * 2 ^ (5 : Int).toNat)) ∧ bk_r32 ((M 53 0 x6) - (97 : Int)) ∧ bk_r32 (((M 53 0 x6) - (97 : Int)) + (1 : Int)) ∧ bk_r64 ((x3 * 2 ^ (5 : Int).toNat) + (((M 53 0 x6) - (97 : Int)) + (1 : Int))) ∧ bk_r32 (x6 + (1 : Int)) ∧ bk_wp (bk_C d) P_10 Q 0 15 [bk_c 10 0, bk_i (x1 + (1 : Int)), bk_i x2, bk_l ((x3 * 2 ^ (5 : Int).toNat) + (((M 53 0 x6) - (97 : Int)) + (1 : Int))), bk_x, bk_i x5, bk_i (x6 + (1 : Int)), bk_i (M 53 0 x6)] [] M)))))) := bk_iff [15] 40
theorem E_11k54 {d : Nat} {Q : bk_Q} (a1 : Int) (a2 : Int) (M : bk_M) : bk_C (d + 1) 0 11 [bk_c 54 0, bk_i a1, bk_l a2] M Q ↔ bk_wp (bk_C d) P_11 Q 0 3 [bk_c 54 0, bk_i a1, bk_l a2, bk_x, bk_i (0 : Int)] [] M := bk_iff (d := d) (P := P_11) (b := 0) (l := 0) (ls := [bk_c 54 0, bk_i a1, bk_l a2, bk_x, bk_x]) (st := []) (M := M) [3] 40
theorem L_11_3k54 {d : Nat} {Q : bk_Q} (x1 : Int) (x2 : Int) (x4 : Int) (M : bk_M) : bk_wp (bk_C d) P_11 Q 0 3 [bk_c 54 0, bk_i x1, bk_l x2, bk_x, bk_i x4] [] M ↔ ((x1 ≤ x4 → Q 0 (-1 : Int) M) ∧ (¬ (x1 ≤ x4) → (((25 : Int) ≤ x4 → Q 0 (-1 : Int) M) ∧ (¬ ((25 : Int) ≤ x4) → ((0 : Int) ≤ x4 ∧ x4 < (25 : Int)) ∧ ((bk_lcmp (M 54 0 x4) x2 ≠ (0 : Int) → bk_r32 (x4 + (1 : Int)) ∧ bk_wp (bk_C d) P_11 Q 0 3 [bk_c 54 0, bk_i x1, bk_l x2, bk_x, bk_i (x4 + (1 : Int))] [] M) ∧ (¬ (bk_lcmp (M 54 0 x4) x2 ≠ (0 : Int)) → Q 0 x4 M)))))) := bk_iff [3] 40
theorem E_11k33 {d : Nat} {Q : bk_Q} (i0 : Nat) (a1 : Int) (a2 : Int) (M : bk_M) : bk_C (d + 1) 0 11 [bk_c 33 i0, bk_i a1, bk_l a2] M Q ↔ bk_wp (bk_C d) P_11 Q 0 3 [bk_c 33 i0, bk_i a1, bk_l a2, bk_x, bk_i (0 : Int)] [] M := bk_iff (d := d) (P := P_11) (b := 0) (l := 0) (ls := [bk_c 33 i0, bk_i a1, bk_l a2, bk_x, bk_x]) (st := []) (M := M) [3] 40
theorem L_11_3k33 {d : Nat} {Q : bk_Q} (i0 : Nat) (x1 : Int) (x2 : Int) (x4 : Int) (M : bk_M) : bk_wp (bk_C d) P_11 Q 0 3 [bk_c 33 i0, bk_i x1, bk_l x2, bk_x, bk_i x4] [] M ↔ ((x1 ≤ x4 → Q 0 (-1 : Int) M) ∧ (¬ (x1 ≤ x4) → (((10 : Int) ≤ x4 → Q 0 (-1 : Int) M) ∧ (¬ ((10 : Int) ≤ x4) → ((0 : Int) ≤ x4 ∧ x4 < (10 : Int)) ∧ ((bk_lcmp (M 33 i0 x4) x2 ≠ (0 : Int) → bk_r32 (x4 + (1 : Int)) ∧ bk_wp (bk_C d) P_11 Q 0 3 [bk_c 33 i0, bk_i x1, bk_l x2, bk_x, bk_i (x4 + (1 : Int))] [] M) ∧ (¬ (bk_lcmp (M 33 i0 x4) x2 ≠ (0 : Int)) → Q 0 x4 M)))))) := bk_iff [3] 40
theorem E_11k36 {d : Nat} {Q : bk_Q} (i0 : Nat) (a1 : Int) (a2 : Int) (M : bk_M) : bk_C (d + 1) 0 11 [bk_c 36 i0, bk_i a1, bk_l a2] M Q ↔ bk_wp (bk_C d) P_11 Q 0 3 [bk_c 36 i0, bk_i a1, bk_l a2, bk_x, bk_i (0 : Int)] [] M := bk_iff (d := d) (P := P_11) (b := 0) (l := 0) (ls := [bk_c 36 i0, bk_i a1, bk_l a2, bk_x, bk_x]) (st := []) (M := M) [3] 40
theorem L_11_3k36 {d : Nat} {Q : bk_Q} (i0 : Nat) (x1 : Int) (x2 : Int) (x4 : Int) (M : bk_M) : bk_wp (bk_C d) P_11 Q 0 3 [bk_c 36 i0, bk_i x1, bk_l x2, bk_x, bk_i x4] [] M ↔ ((x1 ≤ x4 → Q 0 (-1 : Int) M) ∧ (¬ (x1 ≤ x4) → (((3 : Int) ≤ x4 → Q 0 (-1 : Int) M) ∧ (¬ ((3 : Int) ≤ x4) → ((0 : Int) ≤ x4 ∧ x4 < (3 : Int)) ∧ ((bk_lcmp (M 36 i0 x4) x2 ≠ (0 : Int) → bk_r32 (x4 + (1 : Int)) ∧ bk_wp (bk_C d) P_11 Q 0 3 [bk_c 36 i0, bk_i x1, bk_l x2, bk_x, bk_i (x4 + (1 : Int))] [] M) ∧ (¬ (bk_lcmp (M 36 i0 x4) x2 ≠ (0 : Int)) → Q 0 x4 M)))))) := bk_iff [3] 40
theorem E_12 {d : Nat} {Q : bk_Q} (a0 : Int) (M : bk_M) : bk_C (d + 1) 0 12 [bk_i a0] M Q ↔ ((a0 = (59 : Int) → ((1 : Int) = 0 ∨ (1 : Int) = 1) ∧ Q 0 (1 : Int) M) ∧ (¬ (a0 = (59 : Int)) → ((a0 = (60 : Int) → ((1 : Int) = 0 ∨ (1 : Int) = 1) ∧ Q 0 (1 : Int) M) ∧ (¬ (a0 = (60 : Int)) → ((a0 = (61 : Int) → ((1 : Int) = 0 ∨ (1 : Int) = 1) ∧ Q 0 (1 : Int) M) ∧ (¬ (a0 = (61 : Int)) → ((a0 = (62 : Int) → ((1 : Int) = 0 ∨ (1 : Int) = 1) ∧ Q 0 (1 : Int) M) ∧ (¬ (a0 = (62 : Int)) → ((a0 = (40 : Int) → ((1 : Int) = 0 ∨ (1 : Int) = 1) ∧ Q 0 (1 : Int) M) ∧ (¬ (a0 = (40 : Int)) → ((a0 ≠ (41 : Int) → ((0 : Int) = 0 ∨ (0 : Int) = 1) ∧ Q 0 (0 : Int) M) ∧ (¬ (a0 ≠ (41 : Int)) → ((1 : Int) = 0 ∨ (1 : Int) = 1) ∧ Q 0 (1 : Int) M)))))))))))) := bk_iff (d := d) (P := P_12) (b := 0) (l := 0) (ls := [bk_i a0]) (st := []) (M := M) [] 40
set_option maxRecDepth 20000 in
theorem E_13 {d : Nat} {Q : bk_Q} (i2 : Nat) (M : bk_M) : bk_C (d + 1) 0 13 [bk_c 6 0, bk_c 10 0, bk_c 5 i2] M Q ↔ ((M 10 0 (2 : Int) ≠ (2 : Int) → (((-1 : Int) = (0 : Int) → bk_C d 0 14 [bk_c 6 0, bk_c 10 0, bk_c 5 i2] M (fun t3 r1 M2 => t3 = 0 ∧ (r1 = 0 ∨ r1 = 1) ∧ Q 0 r1 M2)) ∧ ((-1 : Int) ≠ (0 : Int) → (((-1 : Int) = (1 : Int) → bk_C d 0 18 [bk_c 6 0, bk_c 10 0, bk_c 5 i2] M (fun t6 r4 M5 => t6 = 0 ∧ (r4 = 0 ∨ r4 = 1) ∧ Q 0 r4 M5)) ∧ ((-1 : Int) ≠ (1 : Int) → (((-1 : Int) = (2 : Int) → bk_C d 0 21 [bk_c 6 0, bk_c 10 0, bk_c 5 i2] M (fun t9 r7 M8 => t9 = 0 ∧ (r7 = 0 ∨ r7 = 1) ∧ Q 0 r7 M8)) ∧ ((-1 : Int) ≠ (2 : Int) → (((-1 : Int) = (3 : Int) → bk_C d 0 22 [bk_c 6 0, bk_c 10 0, bk_c 5 i2] M (fun t12 r10 M11 => t12 = 0 ∧ (r10 = 0 ∨ r10 = 1) ∧ Q 0 r10 M11)) ∧ ((-1 : Int) ≠ (3 : Int) → (((-1 : Int) = (4 : Int) → bk_C d 0 26 [bk_c 6 0, bk_c 10 0, bk_c 5 i2] M (fun t15 r13 M14 => t15 = 0 ∧ (r13 = 0 ∨ r13 = 1) ∧ Q 0 r13 M14)) ∧ ((-1 : Int) ≠ (4 : Int) → (((-1 : Int) = (5 : Int) → bk_C d 0 27 [bk_c 6 0, bk_c 10 0, bk_c 5 i2] M (fun t18 r16 M17 => t18 = 0 ∧ (r16 = 0 ∨ r16 = 1) ∧ Q 0 r16 M17)) ∧ ((-1 : Int) ≠ (5 : Int) → (((-1 : Int) = (6 : Int) → bk_C d 0 16 [bk_c 10 0, bk_i (1 : Int)] M (fun t21 r19 M20 => t21 = 0 ∧ (r19 = 0 ∨ r19 = 1) ∧ Q 0 r19 M20)) ∧ ((-1 : Int) ≠ (6 : Int) → (((-1 : Int) = (7 : Int) → bk_C d 0 16 [bk_c 10 0, bk_i (1 : Int)] M (fun t24 r22 M23 => t24 = 0 ∧ (r22 = 0 ∨ r22 = 1) ∧ Q 0 r22 M23)) ∧ ((-1 : Int) ≠ (7 : Int) → (((-1 : Int) = (8 : Int) → bk_C d 0 29 [bk_c 6 0, bk_c 10 0, bk_c 5 i2] M (fun t27 r25 M26 => t27 = 0 ∧ (r25 = 0 ∨ r25 = 1) ∧ Q 0 r25 M26)) ∧ ((-1 : Int) ≠ (8 : Int) → bk_C d 0 16 [bk_c 10 0, bk_i (1 : Int)] M (fun t30 r28 M29 => t30 = 0 ∧ (r28 = 0 ∨ r28 = 1) ∧ Q 0 r28 M29)))))))))))))))))))) ∧ (¬ (M 10 0 (2 : Int) ≠ (2 : Int)) → ((M 10 0 (4 : Int) = (0 : Int) → bk_C d 0 14 [bk_c 6 0, bk_c 10 0, bk_c 5 i2] M (fun t33 r31 M32 => t33 = 0 ∧ (r31 = 0 ∨ r31 = 1) ∧ Q 0 r31 M32)) ∧ (M 10 0 (4 : Int) ≠ (0 : Int) → ((M 10 0 (4 : Int) = (1 : Int) → bk_C d 0 18 [bk_c 6 0, bk_c 10 0, bk_c 5 i2] M (fun t36 r34 M35 => t36 = 0 ∧ (r34 = 0 ∨ r34 = 1) ∧ Q 0 r34 M35)) ∧ (M 10 0 (4 : Int) ≠ (1 : Int) → ((M 10 0 (4 : Int) = (2 : Int) → bk_C d 0 21 [bk_c 6 0, bk_c 10 0, bk_c 5 i2] M (fun t39 r37 M38 => t39 = 0 ∧ (r37 = 0 ∨ r37 = 1) ∧ Q 0 r37 M38)) ∧ (M 10 0 (4 : Int) ≠ (2 : Int) → ((M 10 0 (4 : Int) = (3 : Int) → bk_C d 0 22 [bk_c 6 0, bk_c 10 0, bk_c 5 i2] M (fun t42 r40 M41 => t42 = 0 ∧ (r40 = 0 ∨ r40 = 1) ∧ Q 0 r40 M41)) ∧ (M 10 0 (4 : Int) ≠ (3 : Int) → ((M 10 0 (4 : Int) = (4 : Int) → bk_C d 0 26 [bk_c 6 0, bk_c 10 0, bk_c 5 i2] M (fun t45 r43 M44 => t45 = 0 ∧ (r43 = 0 ∨ r43 = 1) ∧ Q 0 r43 M44)) ∧ (M 10 0 (4 : Int) ≠ (4 : Int) → ((M 10 0 (4 : Int) = (5 : Int) → bk_C d 0 27 [bk_c 6 0, bk_c 10 0, bk_c 5 i2] M (fun t48 r46 M47 => t48 = 0 ∧ (r46 = 0 ∨ r46 = 1) ∧ Q 0 r46 M47)) ∧ (M 10 0 (4 : Int) ≠ (5 : Int) → ((M 10 0 (4 : Int) = (6 : Int) → bk_C d 0 16 [bk_c 10 0, bk_i (1 : Int)] M (fun t51 r49 M50 => t51 = 0 ∧ (r49 = 0 ∨ r49 = 1) ∧ Q 0 r49 M50)) ∧ (M 10 0 (4 : Int) ≠ (6 : Int) → ((M 10 0 (4 : Int) = (7 : Int) → bk_C d 0 16 [bk_c 10 0, bk_i (1 : Int)] M (fun t54 r52 M53 => t54 = 0 ∧ (r52 = 0 ∨ r52 = 1) ∧ Q 0 r52 M53)) ∧ (M 10 0 (4 : Int) ≠ (7 : Int) → ((M 10 0 (4 : Int) = (8 : Int) → bk_C d 0 29 [bk_c 6 0, bk_c 10 0, bk_c 5 i2] M (fun t57 r55 M56 => t57 = 0 ∧ (r55 = 0 ∨ r55 = 1) ∧ Q 0 r55 M56)) ∧ (M 10 0 (4 : Int) ≠ (8 : Int) → bk_C d 0 16 [bk_c 10 0, bk_i (1 : Int)] M (fun t60 r58 M59 => t60 = 0 ∧ (r58 = 0 ∨ r58 = 1) ∧ Q 0 r58 M59))))))))))))))))))))) := bk_iff (d := d) (P := P_13) (b := 0) (l := 0) (ls := [bk_c 6 0, bk_c 10 0, bk_c 5 i2]) (st := []) (M := M) [] 40
theorem E_14 {d : Nat} {Q : bk_Q} (i2 : Nat) (M : bk_M) : bk_C (d + 1) 0 14 [bk_c 6 0, bk_c 10 0, bk_c 5 i2] M Q ↔ ((M 6 0 (3 : Int) ≠ (0 : Int) → bk_C d 0 16 [bk_c 10 0, bk_i (3 : Int)] M (fun t3 r1 M2 => t3 = 0 ∧ (r1 = 0 ∨ r1 = 1) ∧ Q 0 r1 M2)) ∧ (¬ (M 6 0 (3 : Int) ≠ (0 : Int)) → ((0 : Int) ≤ (2 : Int) ∧ (2 : Int) < 32) ∧ ((bk_and ((M 6 0 (0 : Int)) / 2 ^ (2 : Int).toNat) (1 : Int) = (1 : Int) → bk_C d 0 16 [bk_c 10 0, bk_i (3 : Int)] M (fun t6 r4 M5 => t6 = 0 ∧ (r4 = 0 ∨ r4 = 1) ∧ Q 0 r4 M5)) ∧ (¬ (bk_and ((M 6 0 (0 : Int)) / 2 ^ (2 : Int).toNat) (1 : Int) = (1 : Int)) → bk_C d 0 15 [bk_c 6 0, bk_i (0 : Int)] M (fun t9 r7 M8 => t9 = 0 ∧ ((r7 ≠ (0 : Int) → bk_C d 0 17 [bk_c 10 0, bk_i (3 : Int), bk_i (6 : Int)] M8 (fun t12 r10 M11 => t12 = 0 ∧ ((r10 ≠ (0 : Int) → ∀ M13 : bk_M, M13 = bk_up M11 5 i2 (0 : Int) (M11 10 0 (5 : Int)) → bk_C d 0 17 [bk_c 10 0, bk_i (2 : Int), bk_i (6 : Int)] M13 (fun t16 r14 M15 => t16 = 0 ∧ ((r14 ≠ (0 : Int) → ∀ M17 : bk_M, M17 = bk_up M15 5 i2 (1 : Int) (M15 10 0 (5 : Int)) → ((1 : Int) = 0 ∨ (1 : Int) = 1) ∧ Q 0 (1 : Int) M17) ∧ (¬ (r14 ≠ (0 : Int)) → ((0 : Int) = 0 ∨ (0 : Int) = 1) ∧ Q 0 (0 : Int) M15)))) ∧ (¬ (r10 ≠ (0 : Int)) → ((0 : Int) = 0 ∨ (0 : Int) = 1) ∧ Q 0 (0 : Int) M11)))) ∧ (¬ (r7 ≠ (0 : Int)) → bk_C d 0 16 [bk_c 10 0, bk_i (3 : Int)] M8 (fun t20 r18 M19 => t20 = 0 ∧ (r18 = 0 ∨ r18 = 1) ∧ Q 0 r18 M19)))))))) := bk_iff (d := d) (P := P_14) (b := 0) (l := 0) (ls := [bk_c 6 0, bk_c 10 0, bk_c 5 i2]) (st := []) (M := M) [] 40
theorem E_15 {d : Nat} {Q : bk_Q} (a1 : Int) (M : bk_M) : bk_C (d + 1) 0 15 [bk_c 6 0, bk_i a1] M Q ↔ ((0 : Int) ≤ a1 ∧ a1 < 32) ∧ ((bk_and ((M 6 0 (0 : Int)) / 2 ^ a1.toNat) (1 : Int) ≠ (0 : Int) → ((0 : Int) ≤ a1 ∧ a1 < 32 ∧ bk_r32 ((1 : Int) * 2 ^ a1.toNat)) ∧ ∀ M1 : bk_M, M1 = bk_up M 6 0 (0 : Int) (bk_or (M 6 0 (0 : Int)) ((1 : Int) * 2 ^ a1.toNat)) → ((0 : Int) = 0 ∨ (0 : Int) = 1) ∧ Q 0 (0 : Int) M1) ∧ (¬ (bk_and ((M 6 0 (0 : Int)) / 2 ^ a1.toNat) (1 : Int) ≠ (0 : Int)) → ((0 : Int) ≤ a1 ∧ a1 < 32 ∧ bk_r32 ((1 : Int) * 2 ^ a1.toNat)) ∧ ∀ M2 : bk_M, M2 = bk_up M 6 0 (0 : Int) (bk_or (M 6 0 (0 : Int)) ((1 : Int) * 2 ^ a1.toNat)) → ((1 : Int) = 0 ∨ (1 : Int) = 1) ∧ Q 0 (1 : Int) M2)) := bk_iff (d := d) (P := P_15) (b := 0) (l := 0) (ls := [bk_c 6 0, bk_i a1, bk_x]) (st := []) (M := M) [] 40
theorem E_16 {d : Nat} {Q : bk_Q} (a1 : Int) (M : bk_M) : bk_C (d + 1) 0 16 [bk_c 10 0, bk_i a1] M Q ↔ ∀ M1 : bk_M, M1 = bk_up M 10 0 (6 : Int) a1 → ∀ M2 : bk_M, M2 = bk_up M1 10 0 (7 : Int) (M1 10 0 (11 : Int)) → ((0 : Int) = 0 ∨ (0 : Int) = 1) ∧ Q 0 (0 : Int) M2 := bk_iff (d := d) (P := P_16) (b := 0) (l := 0) (ls := [bk_c 10 0, bk_i a1]) (st := []) (M := M) [] 40
theorem E_17 {d : Nat} {Q : bk_Q} (a1 : Int) (a2 : Int) (M : bk_M) : bk_C (d + 1) 0 17 [bk_c 10 0, bk_i a1, bk_i a2] M Q ↔ bk_C d 0 7 [bk_c 10 0] M (fun t3 r1 M2 => t3 = 0 ∧ ((M2 10 0 (2 : Int) = (3 : Int) → ((M2 10 0 (5 : Int) < a1 → bk_C d 0 16 [bk_c 10 0, bk_i (2 : Int)] M2 (fun t6 r4 M5 => t6 = 0 ∧ ((r4 = (0 : Int) → ((0 : Int) = 0 ∨ (0 : Int) = 1) ∧ Q 0 (0 : Int) M5) ∧ (¬ (r4 = (0 : Int)) → ((1 : Int) = 0 ∨ (1 : Int) = 1) ∧ Q 0 (1 : Int) M5)))) ∧ (¬ (M2 10 0 (5 : Int) < a1) → ((M2 10 0 (5 : Int) ≤ a2 → ((1 : Int) = 0 ∨ (1 : Int) = 1) ∧ Q 0 (1 : Int) M2) ∧ (¬ (M2 10 0 (5 : Int) ≤ a2) → bk_C d 0 16 [bk_c 10 0, bk_i (2 : Int)] M2 (fun t9 r7 M8 => t9 = 0 ∧ ((r7 = (0 : Int) → ((0 : Int) = 0 ∨ (0 : Int) = 1) ∧ Q 0 (0 : Int) M8) ∧ (¬ (r7 = (0 : Int)) → ((1 : Int) = 0 ∨ (1 : Int) = 1) ∧ Q 0 (1 : Int) M8)))))))) ∧ (¬ (M2 10 0 (2 : Int) = (3 : Int)) → bk_C d 0 16 [bk_c 10 0, bk_i (1 : Int)] M2 (fun t12 r10 M11 => t12 = 0 ∧ (r10 = 0 ∨ r10 = 1) ∧ Q 0 r10 M11)))) := bk_iff (d := d) (P := P_17) (b := 0) (l := 0) (ls := [bk_c 10 0, bk_i a1, bk_i a2]) (st := []) (M := M) [] 40
theorem E_18 {d : Nat} {Q : bk_Q} (i2 : Nat) (M : bk_M) : bk_C (d + 1) 0 18 [bk_c 6 0, bk_c 10 0, bk_c 5 i2] M Q ↔ bk_C d 0 19 [bk_c 6 0, bk_c 10 0, bk_c 5 i2] M (fun t3 r1 M2 => t3 = 0 ∧ ((r1 ≠ (-1 : Int) → ((0 : Int) ≤ r1 ∧ r1 < 64) ∧ ((bk_lcmp (bk_andL ((M2 6 0 (2 : Int)) / 2 ^ r1.toNat) (1 : Int)) (1 : Int) ≠ (0 : Int) → ((0 : Int) ≤ r1 ∧ r1 < 64 ∧ bk_r64 ((1 : Int) * 2 ^ r1.toNat)) ∧ ∀ M4 : bk_M, M4 = bk_up M2 6 0 (2 : Int) (bk_orL (M2 6 0 (2 : Int)) ((1 : Int) * 2 ^ r1.toNat)) → bk_C d 0 17 [bk_c 10 0, bk_i (0 : Int), bk_i (9 : Int)] M4 (fun t7 r5 M6 => t7 = 0 ∧ ((r5 ≠ (0 : Int) → ((0 : Int) ≤ r1 ∧ r1 < (36 : Int)) ∧ ∀ M8 : bk_M, M8 = bk_up M6 28 i2 r1 (M6 10 0 (5 : Int)) → ((1 : Int) = 0 ∨ (1 : Int) = 1) ∧ Q 0 (1 : Int) M8) ∧ (¬ (r5 ≠ (0 : Int)) → ((0 : Int) = 0 ∨ (0 : Int) = 1) ∧ Q 0 (0 : Int) M6)))) ∧ (¬ (bk_lcmp (bk_andL ((M2 6 0 (2 : Int)) / 2 ^ r1.toNat) (1 : Int)) (1 : Int) ≠ (0 : Int)) → bk_C d 0 16 [bk_c 10 0, bk_i (3 : Int)] M2 (fun t11 r9 M10 => t11 = 0 ∧ (r9 = 0 ∨ r9 = 1) ∧ Q 0 r9 M10)))) ∧ (¬ (r1 ≠ (-1 : Int)) → ((0 : Int) = 0 ∨ (0 : Int) = 1) ∧ Q 0 (0 : Int) M2))) := bk_iff (d := d) (P := P_18) (b := 0) (l := 0) (ls := [bk_c 6 0, bk_c 10 0, bk_c 5 i2, bk_x]) (st := []) (M := M) [] 40
theorem E_19 {d : Nat} {Q : bk_Q} (i2 : Nat) (M : bk_M) : bk_C (d + 1) 0 19 [bk_c 6 0, bk_c 10 0, bk_c 5 i2] M Q ↔ bk_r32 ((M 5 i2 (0 : Int)) - (1 : Int)) ∧ bk_C d 0 17 [bk_c 10 0, bk_i (0 : Int), bk_i ((M 5 i2 (0 : Int)) - (1 : Int))] M (fun t3 r1 M2 => t3 = 0 ∧ ((r1 ≠ (0 : Int) → bk_r32 ((M2 5 i2 (1 : Int)) - (1 : Int)) ∧ bk_C d 0 17 [bk_c 10 0, bk_i (0 : Int), bk_i ((M2 5 i2 (1 : Int)) - (1 : Int))] M2 (fun t6 r4 M5 => t6 = 0 ∧ ((r4 ≠ (0 : Int) → ((1 : Int) = 0 ∨ (1 : Int) = 1) ∧ ∀ M7 : bk_M, M7 = bk_up M5 6 0 (3 : Int) (1 : Int) → bk_C d 0 20 [bk_c 5 i2, bk_i (M2 10 0 (5 : Int)), bk_i (M7 10 0 (5 : Int))] M7 (fun t10 r8 M9 => t10 = 0 ∧ Q 0 r8 M9)) ∧ (¬ (r4 ≠ (0 : Int)) → Q 0 (-1 : Int) M5)))) ∧ (¬ (r1 ≠ (0 : Int)) → Q 0 (-1 : Int) M2))) := bk_iff (d := d) (P := P_19) (b := 0) (l := 0) (ls := [bk_c 6 0, bk_c 10 0, bk_c 5 i2, bk_x]) (st := []) (M := M) [] 40
theorem E_20 {d : Nat} {Q : bk_Q} (i0 : Nat) (a1 : Int) (a2 : Int) (M : bk_M) : bk_C (d + 1) 0 20 [bk_c 5 i0, bk_i a1, bk_i a2] M Q ↔ ((a1 < (0 : Int) → Q 0 (-1 : Int) M) ∧ (¬ (a1 < (0 : Int)) → ((M 5 i0 (0 : Int) ≤ a1 → Q 0 (-1 : Int) M) ∧ (¬ (M 5 i0 (0 : Int) ≤ a1) → ((a2 < (0 : Int) → Q 0 (-1 : Int) M) ∧ (¬ (a2 < (0 : Int)) → ((M 5 i0 (1 : Int) ≤ a2 → Q 0 (-1 : Int) M) ∧ (¬ (M 5 i0 (1 : Int) ≤ a2) → bk_r32 ((6 : Int) * a2) ∧ bk_r32 (((6 : Int) * a2) + a1) ∧ Q 0 (((6 : Int) * a2) + a1) M)))))))) := bk_iff (d := d) (P := P_20) (b := 0) (l := 0) (ls := [bk_c 5 i0, bk_i a1, bk_i a2]) (st := []) (M := M) [] 40
theorem E_21 {d : Nat} {Q : bk_Q} (i2 : Nat) (M : bk_M) : bk_C (d + 1) 0 21 [bk_c 6 0, bk_c 10 0, bk_c 5 i2] M Q ↔ bk_C d 0 15 [bk_c 6 0, bk_i (2 : Int)] M (fun t3 r1 M2 => t3 = 0 ∧ ((r1 ≠ (0 : Int) → bk_r32 ((M2 5 i2 (0 : Int)) - (1 : Int)) ∧ bk_C d 0 17 [bk_c 10 0, bk_i (0 : Int), bk_i ((M2 5 i2 (0 : Int)) - (1 : Int))] M2 (fun t6 r4 M5 => t6 = 0 ∧ ((r4 ≠ (0 : Int) → ∀ M7 : bk_M, M7 = bk_up M5 5 i2 (2 : Int) (M5 10 0 (5 : Int)) → ((1 : Int) = 0 ∨ (1 : Int) = 1) ∧ Q 0 (1 : Int) M7) ∧ (¬ (r4 ≠ (0 : Int)) → ((0 : Int) = 0 ∨ (0 : Int) = 1) ∧ Q 0 (0 : Int) M5)))) ∧ (¬ (r1 ≠ (0 : Int)) → bk_C d 0 16 [bk_c 10 0, bk_i (3 : Int)] M2 (fun t10 r8 M9 => t10 = 0 ∧ (r8 = 0 ∨ r8 = 1) ∧ Q 0 r8 M9)))) := bk_iff (d := d) (P := P_21) (b := 0) (l := 0) (ls := [bk_c 6 0, bk_c 10 0, bk_c 5 i2]) (st := []) (M := M) [] 40
theorem E_22 {d : Nat} {Q : bk_Q} (i2 : Nat) (M : bk_M) : bk_C (d + 1) 0 22 [bk_c 6 0, bk_c 10 0, bk_c 5 i2] M Q ↔ ((M 5 i2 (6 : Int) < (10 : Int) → bk_C d 0 23 [bk_c 6 0, bk_c 10 0, bk_c 5 i2] M (fun t3 r1 M2 => t3 = 0 ∧ ((r1 ≠ (0 : Int) → ((0 : Int) ≤ M 5 i2 (6 : Int) ∧ M 5 i2 (6 : Int) < (10 : Int)) ∧ ∀ M4 : bk_M, M4 = bk_up M2 33 i2 (M 5 i2 (6 : Int)) (M2 10 0 (3 : Int)) → bk_C d 0 19 [bk_c 6 0, bk_c 10 0, bk_c 5 i2] M4 (fun t7 r5 M6 => t7 = 0 ∧ ((r5 ≠ (-1 : Int) → bk_C d 0 25 [bk_c 5 i2, bk_i r5] M6 (fun t10 r8 M9 => t10 = 0 ∧ ((r8 = (0 : Int) → bk_C d 0 17 [bk_c 10 0, bk_i (1 : Int), bk_i (20 : Int)] M9 (fun t13 r11 M12 => t13 = 0 ∧ ((r11 ≠ (0 : Int) → ((0 : Int) ≤ M 5 i2 (6 : Int) ∧ M 5 i2 (6 : Int) < (10 : Int)) ∧ ∀ M14 : bk_M, M14 = bk_up M12 30 i2 (M 5 i2 (6 : Int)) r5 → ((0 : Int) ≤ M 5 i2 (6 : Int) ∧ M 5 i2 (6 : Int) < (10 : Int)) ∧ ∀ M15 : bk_M, M15 = bk_up M14 31 i2 (M 5 i2 (6 : Int)) (M14 10 0 (5 : Int)) → ((0 : Int) ≤ M 5 i2 (6 : Int) ∧ M 5 i2 (6 : Int) < (10 : Int)) ∧ ∀ M16 : bk_M, M16 = bk_up M15 32 i2 (M 5 i2 (6 : Int)) (0 : Int) → bk_r32 ((M16 5 i2 (6 : Int)) + (1 : Int)) ∧ ∀ M17 : bk_M, M17 = bk_up M16 5 i2 (6 : Int) ((M16 5 i2 (6 : Int)) + (1 : Int)) → ((1 : Int) = 0 ∨ (1 : Int) = 1) ∧ Q 0 (1 : Int) M17) ∧ (¬ (r11 ≠ (0 : Int)) → ((0 : Int) = 0 ∨ (0 : Int) = 1) ∧ Q 0 (0 : Int) M12)))) ∧ (¬ (r8 = (0 : Int)) → bk_C d 0 16 [bk_c 10 0, bk_i (3 : Int)] M9 (fun t20 r18 M19 => t20 = 0 ∧ (r18 = 0 ∨ r18 = 1) ∧ Q 0 r18 M19))))) ∧ (¬ (r5 ≠ (-1 : Int)) → ((0 : Int) = 0 ∨ (0 : Int) = 1) ∧ Q 0 (0 : Int) M6)))) ∧ (¬ (r1 ≠ (0 : Int)) → ((0 : Int) = 0 ∨ (0 : Int) = 1) ∧ Q 0 (0 : Int) M2)))) ∧ (¬ (M 5 i2 (6 : Int) < (10 : Int)) → bk_C d 0 16 [bk_c 10 0, bk_i (4 : Int)] M (fun t23 r21 M22 => t23 = 0 ∧ (r21 = 0 ∨ r21 = 1) ∧ Q 0 r21 M22))) := bk_iff (d := d) (P := P_22) (b := 0) (l := 0) (ls := [bk_c 6 0, bk_c 10 0, bk_c 5 i2, bk_x, bk_x]) (st := []) (M := M) [] 40
theorem E_23 {d : Nat} {Q : bk_Q} (i2 : Nat) (M : bk_M) : bk_C (d + 1) 0 23 [bk_c 6 0, bk_c 10 0, bk_c 5 i2] M Q ↔ bk_C d 0 7 [bk_c 10 0] M (fun t3 r1 M2 => t3 = 0 ∧ bk_C d 0 24 [bk_c 10 0] M2 (fun t6 r4 M5 => t6 = 0 ∧ ((r4 ≠ (0 : Int) → bk_C d 0 11 [bk_c 33 i2, bk_i (M5 5 i2 (6 : Int)), bk_l (M5 10 0 (3 : Int))] M5 (fun t9 r7 M8 => t9 = 0 ∧ ((r7 ≠ (-1 : Int) → (((1 : Int) = (0 : Int) → ((1 : Int) = 0 ∨ (1 : Int) = 1) ∧ Q 0 (1 : Int) M8) ∧ (¬ ((1 : Int) = (0 : Int)) → bk_C d 0 16 [bk_c 10 0, bk_i (3 : Int)] M8 (fun t12 r10 M11 => t12 = 0 ∧ ((r10 = (0 : Int) → ((0 : Int) = 0 ∨ (0 : Int) = 1) ∧ Q 0 (0 : Int) M11) ∧ (¬ (r10 = (0 : Int)) → ((1 : Int) = 0 ∨ (1 : Int) = 1) ∧ Q 0 (1 : Int) M11)))))) ∧ (¬ (r7 ≠ (-1 : Int)) → bk_C d 0 11 [bk_c 36 i2, bk_i (M8 5 i2 (11 : Int)), bk_l (M8 10 0 (3 : Int))] M8 (fun t15 r13 M14 => t15 = 0 ∧ ((r13 = (-1 : Int) → (((0 : Int) = (0 : Int) → ((1 : Int) = 0 ∨ (1 : Int) = 1) ∧ Q 0 (1 : Int) M14) ∧ (¬ ((0 : Int) = (0 : Int)) → bk_C d 0 16 [bk_c 10 0, bk_i (3 : Int)] M14 (fun t18 r16 M17 => t18 = 0 ∧ ((r16 = (0 : Int) → ((0 : Int) = 0 ∨ (0 : Int) = 1) ∧ Q 0 (0 : Int) M17) ∧ (¬ (r16 = (0 : Int)) → ((1 : Int) = 0 ∨ (1 : Int) = 1) ∧ Q 0 (1 : Int) M17)))))) ∧ (¬ (r13 = (-1 : Int)) → (((1 : Int) = (0 : Int) → ((1 : Int) = 0 ∨ (1 : Int) = 1) ∧ Q 0 (1 : Int) M14) ∧ (¬ ((1 : Int) = (0 : Int)) → bk_C d 0 16 [bk_c 10 0, bk_i (3 : Int)] M14 (fun t21 r19 M20 => t21 = 0 ∧ ((r19 = (0 : Int) → ((0 : Int) = 0 ∨ (0 : Int) = 1) ∧ Q 0 (0 : Int) M20) ∧ (¬ (r19 = (0 : Int)) → ((1 : Int) = 0 ∨ (1 : Int) = 1) ∧ Q 0 (1 : Int) M20)))))))))))) ∧ (¬ (r4 ≠ (0 : Int)) → bk_C d 0 16 [bk_c 10 0, bk_i (1 : Int)] M5 (fun t24 r22 M23 => t24 = 0 ∧ (r22 = 0 ∨ r22 = 1) ∧ Q 0 r22 M23))))) := bk_iff (d := d) (P := P_23) (b := 0) (l := 0) (ls := [bk_c 6 0, bk_c 10 0, bk_c 5 i2, bk_x]) (st := []) (M := M) [] 40
theorem E_24 {d : Nat} {Q : bk_Q} (M : bk_M) : bk_C (d + 1) 0 24 [bk_c 10 0] M Q ↔ ((M 10 0 (2 : Int) ≠ (2 : Int) → ((0 : Int) = 0 ∨ (0 : Int) = 1) ∧ Q 0 (0 : Int) M) ∧ (¬ (M 10 0 (2 : Int) ≠ (2 : Int)) → ((M 10 0 (4 : Int) ≠ (-1 : Int) → ((0 : Int) = 0 ∨ (0 : Int) = 1) ∧ Q 0 (0 : Int) M) ∧ (¬ (M 10 0 (4 : Int) ≠ (-1 : Int)) → ((1 : Int) = 0 ∨ (1 : Int) = 1) ∧ Q 0 (1 : Int) M)))) := bk_iff (d := d) (P := P_24) (b := 0) (l := 0) (ls := [bk_c 10 0]) (st := []) (M := M) [] 40
theorem E_25 {d : Nat} {Q : bk_Q} (i0 : Nat) (a1 : Int) (M : bk_M) : bk_C (d + 1) 0 25 [bk_c 5 i0, bk_i a1] M Q ↔ bk_wp (bk_C d) P_25 Q 0 2 [bk_c 5 i0, bk_i a1, bk_i (0 : Int)] [] M := bk_iff (d := d) (P := P_25) (b := 0) (l := 0) (ls := [bk_c 5 i0, bk_i a1, bk_x]) (st := []) (M := M) [2] 40
theorem L_25_2 {d : Nat} {Q : bk_Q} (i0 : Nat) (x1 : Int) (x2 : Int) (M : bk_M) : bk_wp (bk_C d) P_25 Q 0 2 [bk_c 5 i0, bk_i x1, bk_i x2] [] M ↔ ((M 5 i0 (6 : Int) ≤ x2 → ((0 : Int) = 0 ∨ (0 : Int) = 1) ∧ Q 0 (0 : Int) M) ∧ (¬ (M 5 i0 (6 : Int) ≤ x2) → ((0 : Int) ≤ x2 ∧ x2 < (10 : Int)) ∧ ((M 30 i0 x2 ≠ x1 → bk_r32 (x2 + (1 : Int)) ∧ bk_wp (bk_C d) P_25 Q 0 2 [bk_c 5 i0, bk_i x1, bk_i (x2 + (1 : Int))] [] M) ∧ (¬ (M 30 i0 x2 ≠ x1) → ((1 : Int) = 0 ∨ (1 : Int) = 1) ∧ Q 0 (1 : Int) M)))) := bk_iff [2] 40
theorem E_26 {d : Nat} {Q : bk_Q} (i2 : Nat) (M : bk_M) : bk_C (d + 1) 0 26 [bk_c 6 0, bk_c 10 0, bk_c 5 i2] M Q ↔ ((M 5 i2 (11 : Int) < (3 : Int) → bk_C d 0 23 [bk_c 6 0, bk_c 10 0, bk_c 5 i2] M (fun t3 r1 M2 => t3 = 0 ∧ ((r1 ≠ (0 : Int) → ((0 : Int) ≤ M 5 i2 (11 : Int) ∧ M 5 i2 (11 : Int) < (3 : Int)) ∧ ∀ M4 : bk_M, M4 = bk_up M2 36 i2 (M 5 i2 (11 : Int)) (M2 10 0 (3 : Int)) → bk_C d 0 19 [bk_c 6 0, bk_c 10 0, bk_c 5 i2] M4 (fun t7 r5 M6 => t7 = 0 ∧ ((r5 ≠ (-1 : Int) → ((0 : Int) ≤ M 5 i2 (11 : Int) ∧ M 5 i2 (11 : Int) < (3 : Int)) ∧ ∀ M8 : bk_M, M8 = bk_up M6 34 i2 (M 5 i2 (11 : Int)) r5 → ((0 : Int) ≤ M 5 i2 (11 : Int) ∧ M 5 i2 (11 : Int) < (3 : Int)) ∧ ∀ M9 : bk_M, M9 = bk_up M8 35 i2 (M 5 i2 (11 : Int)) (0 : Int) → bk_r32 ((M9 5 i2 (11 : Int)) + (1 : Int)) ∧ ∀ M10 : bk_M, M10 = bk_up M9 5 i2 (11 : Int) ((M9 5 i2 (11 : Int)) + (1 : Int)) → ((1 : Int) = 0 ∨ (1 : Int) = 1) ∧ Q 0 (1 : Int) M10) ∧ (¬ (r5 ≠ (-1 : Int)) → ((0 : Int) = 0 ∨ (0 : Int) = 1) ∧ Q 0 (0 : Int) M6)))) ∧ (¬ (r1 ≠ (0 : Int)) → ((0 : Int) = 0 ∨ (0 : Int) = 1) ∧ Q 0 (0 : Int) M2)))) ∧ (¬ (M 5 i2 (11 : Int) < (3 : Int)) → bk_C d 0 16 [bk_c 10 0, bk_i (4 : Int)] M (fun t13 r11 M12 => t13 = 0 ∧ (r11 = 0 ∨ r11 = 1) ∧ Q 0 r11 M12))) := bk_iff (d := d) (P := P_26) (b := 0) (l := 0) (ls := [bk_c 6 0, bk_c 10 0, bk_c 5 i2, bk_x, bk_x]) (st := []) (M := M) [] 40
set_option maxRecDepth 20000 in
theorem E_27 {d : Nat} {Q : bk_Q} (i2 : Nat) (M : bk_M) : bk_C (d + 1) 0 27 [bk_c 6 0, bk_c 10 0, bk_c 5 i2] M Q ↔ bk_C d 0 7 [bk_c 10 0] M (fun t3 r1 M2 => t3 = 0 ∧ bk_C d 0 28 [bk_c 10 0, bk_i (6 : Int)] M2 (fun t6 r4 M5 => t6 = 0 ∧ ((r4 ≠ (0 : Int) → ((M5 10 0 (4 : Int) ≠ (6 : Int) → ((0 : Int) ≤ (1 : Int) ∧ (1 : Int) < 32) ∧ ((bk_and ((M5 6 0 (1 : Int)) / 2 ^ (1 : Int).toNat) (1 : Int) ≠ (1 : Int) → ((0 : Int) ≤ (1 : Int) ∧ (1 : Int) < 32 ∧ bk_r32 ((1 : Int) * 2 ^ (1 : Int).toNat)) ∧ ∀ M7 : bk_M, M7 = bk_up M5 6 0 (1 : Int) (bk_or (M5 6 0 (1 : Int)) ((1 : Int) * 2 ^ (1 : Int).toNat)) → bk_C d 0 17 [bk_c 10 0, bk_i (0 : Int), bk_i (99 : Int)] M7 (fun t10 r8 M9 => t10 = 0 ∧ ((r8 ≠ (0 : Int) → ((0 : Int) ≤ (1 : Int) ∧ (1 : Int) < (2 : Int)) ∧ ∀ M11 : bk_M, M11 = bk_up M9 37 i2 (1 : Int) (M9 10 0 (5 : Int)) → ((1 : Int) = 0 ∨ (1 : Int) = 1) ∧ Q 0 (1 : Int) M11) ∧ (¬ (r8 ≠ (0 : Int)) → ((0 : Int) = 0 ∨ (0 : Int) = 1) ∧ Q 0 (0 : Int) M9)))) ∧ (¬ (bk_and ((M5 6 0 (1 : Int)) / 2 ^ (1 : Int).toNat) (1 : Int) ≠ (1 : Int)) → bk_C d 0 16 [bk_c 10 0, bk_i (3 : Int)] M5 (fun t14 r12 M13 => t14 = 0 ∧ (r12 = 0 ∨ r12 = 1) ∧ Q 0 r12 M13)))) ∧ (¬ (M5 10 0 (4 : Int) ≠ (6 : Int)) → ((0 : Int) ≤ (0 : Int) ∧ (0 : Int) < 32) ∧ ((bk_and ((M5 6 0 (1 : Int)) / 2 ^ (0 : Int).toNat) (1 : Int) ≠ (1 : Int) → ((0 : Int) ≤ (0 : Int) ∧ (0 : Int) < 32 ∧ bk_r32 ((1 : Int) * 2 ^ (0 : Int).toNat)) ∧ ∀ M15 : bk_M, M15 = bk_up M5 6 0 (1 : Int) (bk_or (M5 6 0 (1 : Int)) ((1 : Int) * 2 ^ (0 : Int).toNat)) → bk_C d 0 17 [bk_c 10 0, bk_i (0 : Int), bk_i (99 : Int)] M15 (fun t18 r16 M17 => t18 = 0 ∧ ((r16 ≠ (0 : Int) → ((0 : Int) ≤ (0 : Int) ∧ (0 : Int) < (2 : Int)) ∧ ∀ M19 : bk_M, M19 = bk_up M17 37 i2 (0 : Int) (M17 10 0 (5 : Int)) → ((1 : Int) = 0 ∨ (1 : Int) = 1) ∧ Q 0 (1 : Int) M19) ∧ (¬ (r16 ≠ (0 : Int)) → ((0 : Int) = 0 ∨ (0 : Int) = 1) ∧ Q 0 (0 : Int) M17)))) ∧ (¬ (bk_and ((M5 6 0 (1 : Int)) / 2 ^ (0 : Int).toNat) (1 : Int) ≠ (1 : Int)) → bk_C d 0 16 [bk_c 10 0, bk_i (3 : Int)] M5 (fun t22 r20 M21 => t22 = 0 ∧ (r20 = 0 ∨ r20 = 1) ∧ Q 0 r20 M21)))))) ∧ (¬ (r4 ≠ (0 : Int)) → bk_C d 0 28 [bk_c 10 0, bk_i (7 : Int)] M5 (fun t25 r23 M24 => t25 = 0 ∧ ((r23 ≠ (0 : Int) → ((M24 10 0 (4 : Int) ≠ (6 : Int) → ((0 : Int) ≤ (1 : Int) ∧ (1 : Int) < 32) ∧ ((bk_and ((M24 6 0 (1 : Int)) / 2 ^ (1 : Int).toNat) (1 : Int) ≠ (1 : Int) → ((0 : Int) ≤ (1 : Int) ∧ (1 : Int) < 32 ∧ bk_r32 ((1 : Int) * 2 ^ (1 : Int).toNat)) ∧ ∀ M26 : bk_M, M26 = bk_up M24 6 0 (1 : Int) (bk_or (M24 6 0 (1 : Int)) ((1 : Int) * 2 ^ (1 : Int).toNat)) → bk_C d 0 17 [bk_c 10 0, bk_i (0 : Int), bk_i (99 : Int)] M26 (fun t29 r27 M28 => t29 = 0 ∧ ((r27 ≠ (0 : Int) → ((0 : Int) ≤ (1 : Int) ∧ (1 : Int) < (2 : Int)) ∧ ∀ M30 : bk_M, M30 = bk_up M28 37 i2 (1 : Int) (M28 10 0 (5 : Int)) → ((1 : Int) = 0 ∨ (1 : Int) = 1) ∧ Q 0 (1 : Int) M30) ∧ (¬ (r27 ≠ (0 : Int)) → ((0 : Int) = 0 ∨ (0 : Int) = 1) ∧ Q 0 (0 : Int) M28)))) ∧ (¬ (bk_and ((M24 6 0 (1 : Int)) / 2 ^ (1 : Int).toNat) (1 : Int) ≠ (1 : Int)) → bk_C d 0 16 [bk_c 10 0, bk_i (3 : Int)] M24 (fun t33 r31 M32 => t33 = 0 ∧ (r31 = 0 ∨ r31 = 1) ∧ Q 0 r31 M32)))) ∧ (¬ (M24 10 0 (4 : Int) ≠ (6 : Int)) → ((0 : Int) ≤ (0 : Int) ∧ (0 : Int) < 32) ∧ ((bk_and ((M24 6 0 (1 : Int)) / 2 ^ (0 : Int).toNat) (1 : Int) ≠ (1 : Int) → ((0 : Int) ≤ (0 : Int) ∧ (0 : Int) < 32 ∧ bk_r32 ((1 : Int) * 2 ^ (0 : Int).toNat)) ∧ ∀ M34 : bk_M, M34 = bk_up M24 6 0 (1 : Int) (bk_or (M24 6 0 (1 : Int)) ((1 : Int) * 2 ^ (0 : Int).toNat)) → bk_C d 0 17 [bk_c 10 0, bk_i (0 : Int), bk_i (99 : Int)] M34 (fun t37 r35 M36 => t37 = 0 ∧ ((r35 ≠ (0 : Int) → ((0 : Int) ≤ (0 : Int) ∧ (0 : Int) < (2 : Int)) ∧ ∀ M38 : bk_M, M38 = bk_up M36 37 i2 (0 : Int) (M36 10 0 (5 : Int)) → ((1 : Int) = 0 ∨ (1 : Int) = 1) ∧ Q 0 (1 : Int) M38) ∧ (¬ (r35 ≠ (0 : Int)) → ((0 : Int) = 0 ∨ (0 : Int) = 1) ∧ Q 0 (0 : Int) M36)))) ∧ (¬ (bk_and ((M24 6 0 (1 : Int)) / 2 ^ (0 : Int).toNat) (1 : Int) ≠ (1 : Int)) → bk_C d 0 16 [bk_c 10 0, bk_i (3 : Int)] M24 (fun t41 r39 M40 => t41 = 0 ∧ (r39 = 0 ∨ r39 = 1) ∧ Q 0 r39 M40)))))) ∧ (¬ (r23 ≠ (0 : Int)) → bk_C d 0 16 [bk_c 10 0, bk_i (1 : Int)] M24 (fun t44 r42 M43 => t44 = 0 ∧ (r42 = 0 ∨ r42 = 1) ∧ Q 0 r42 M43)))))))) := bk_iff (d := d) (P := P_27) (b := 0) (l := 0) (ls := [bk_c 6 0, bk_c 10 0, bk_c 5 i2, bk_x]) (st := []) (M := M) [] 40
theorem E_28 {d : Nat} {Q : bk_Q} (a1 : Int) (M : bk_M) : bk_C (d + 1) 0 28 [bk_c 10 0, bk_i a1] M Q ↔ ((M 10 0 (2 : Int) ≠ (2 : Int) → ((0 : Int) = 0 ∨ (0 : Int) = 1) ∧ Q 0 (0 : Int) M) ∧ (¬ (M 10 0 (2 : Int) ≠ (2 : Int)) → ((M 10 0 (4 : Int) ≠ a1 → ((0 : Int) = 0 ∨ (0 : Int) = 1) ∧ Q 0 (0 : Int) M) ∧ (¬ (M 10 0 (4 : Int) ≠ a1) → ((1 : Int) = 0 ∨ (1 : Int) = 1) ∧ Q 0 (1 : Int) M)))) := bk_iff (d := d) (P := P_28) (b := 0) (l := 0) (ls := [bk_c 10 0, bk_i a1]) (st := []) (M := M) [] 40
theorem E_29 {d : Nat} {Q : bk_Q} (i2 : Nat) (M : bk_M) : bk_C (d + 1) 0 29 [bk_c 6 0, bk_c 10 0, bk_c 5 i2] M Q ↔ bk_C d 0 15 [bk_c 6 0, bk_i (8 : Int)] M (fun t3 r1 M2 => t3 = 0 ∧ ((r1 ≠ (0 : Int) → bk_C d 0 17 [bk_c 10 0, bk_i (0 : Int), bk_i (5 : Int)] M2 (fun t6 r4 M5 => t6 = 0 ∧ ((r4 ≠ (0 : Int) → ∀ M7 : bk_M, M7 = bk_up M5 5 i2 (3 : Int) (M5 10 0 (5 : Int)) → ((1 : Int) = 0 ∨ (1 : Int) = 1) ∧ Q 0 (1 : Int) M7) ∧ (¬ (r4 ≠ (0 : Int)) → ((0 : Int) = 0 ∨ (0 : Int) = 1) ∧ Q 0 (0 : Int) M5)))) ∧ (¬ (r1 ≠ (0 : Int)) → bk_C d 0 16 [bk_c 10 0, bk_i (3 : Int)] M2 (fun t10 r8 M9 => t10 = 0 ∧ (r8 = 0 ∨ r8 = 1) ∧ Q 0 r8 M9)))) := bk_iff (d := d) (P := P_29) (b := 0) (l := 0) (ls := [bk_c 6 0, bk_c 10 0, bk_c 5 i2]) (st := []) (M := M) [] 40
theorem E_30 {d : Nat} {Q : bk_Q} (a1 : Int) (M : bk_M) : bk_C (d + 1) 0 30 [bk_c 10 0, bk_i a1] M Q ↔ bk_C d 0 7 [bk_c 10 0] M (fun t3 r1 M2 => t3 = 0 ∧ ((M2 10 0 (2 : Int) = a1 → ((1 : Int) = 0 ∨ (1 : Int) = 1) ∧ Q 0 (1 : Int) M2) ∧ (¬ (M2 10 0 (2 : Int) = a1) → bk_C d 0 16 [bk_c 10 0, bk_i (1 : Int)] M2 (fun t6 r4 M5 => t6 = 0 ∧ ((r4 = (0 : Int) → ((0 : Int) = 0 ∨ (0 : Int) = 1) ∧ Q 0 (0 : Int) M5) ∧ (¬ (r4 = (0 : Int)) → ((1 : Int) = 0 ∨ (1 : Int) = 1) ∧ Q 0 (1 : Int) M5)))))) := bk_iff (d := d) (P := P_30) (b := 0) (l := 0) (ls := [bk_c 10 0, bk_i a1]) (st := []) (M := M) [] 40
theorem E_31 {d : Nat} {Q : bk_Q} (M : bk_M) : bk_C (d + 1) 0 31 [bk_c 11 0] M Q ↔ ∀ M1 : bk_M, M1 = bk_up M 11 0 (16 : Int) (M 10 0 (6 : Int)) → ∀ M2 : bk_M, M2 = bk_up M1 10 0 (1 : Int) (0 : Int) → Q 0 0 M2 := bk_iff (d := d) (P := P_31) (b := 0) (l := 0) (ls := [bk_c 11 0]) (st := []) (M := M) [] 40
theorem E_32 {d : Nat} {Q : bk_Q} (i0 : Nat) (i1 : Nat) (M : bk_M) : bk_C (d + 1) 0 32 [bk_c 8 i0, bk_c 5 i1] M Q ↔ bk_C d 0 33 [bk_c 8 i0, bk_c 5 i1] M (fun t3 r1 M2 => t3 = 0 ∧ ((0 : Int) ≤ (6 : Int) ∧ (0 : Int) ≤ (0 : Int) ∧ (0 : Int) + (6 : Int) ≤ (6 : Int) ∧ (0 : Int) ≤ (0 : Int) ∧ (0 : Int) + (6 : Int) ≤ (6 : Int)) ∧ ∀ M4 : bk_M, M4 = bk_cpy M2 46 i0 (0 : Int) 29 i1 (0 : Int) (6 : Int) → Q 0 0 M4) := bk_iff (d := d) (P := P_32) (b := 0) (l := 0) (ls := [bk_c 8 i0, bk_c 5 i1]) (st := []) (M := M) [] 40
theorem E_33 {d : Nat} {Q : bk_Q} (i0 : Nat) (i1 : Nat) (M : bk_M) : bk_C (d + 1) 0 33 [bk_c 8 i0, bk_c 5 i1] M Q ↔ bk_C d 0 34 [bk_c 8 i0, bk_c 5 i1] M (fun t3 r1 M2 => t3 = 0 ∧ bk_C d 0 35 [bk_c 8 i0, bk_c 5 i1] M2 (fun t6 r4 M5 => t6 = 0 ∧ Q 0 0 M5)) := bk_iff (d := d) (P := P_33) (b := 0) (l := 0) (ls := [bk_c 8 i0, bk_c 5 i1]) (st := []) (M := M) [] 40
theorem E_34 {d : Nat} {Q : bk_Q} (i0 : Nat) (i1 : Nat) (M : bk_M) : bk_C (d + 1) 0 34 [bk_c 8 i0, bk_c 5 i1] M Q ↔ ((0 : Int) ≤ (36 : Int) ∧ (0 : Int) ≤ (0 : Int) ∧ (0 : Int) + (36 : Int) ≤ (36 : Int) ∧ (0 : Int) ≤ (0 : Int) ∧ (0 : Int) + (36 : Int) ≤ (36 : Int)) ∧ ∀ M1 : bk_M, M1 = bk_cpy M 28 i1 (0 : Int) 45 i0 (0 : Int) (36 : Int) → Q 0 0 M1 := bk_iff (d := d) (P := P_34) (b := 0) (l := 0) (ls := [bk_c 8 i0, bk_c 5 i1]) (st := []) (M := M) [] 40
theorem E_35 {d : Nat} {Q : bk_Q} (i0 : Nat) (i1 : Nat) (M : bk_M) : bk_C (d + 1) 0 35 [bk_c 8 i0, bk_c 5 i1] M Q ↔ bk_r32 ((M 5 i1 (1 : Int)) - (1 : Int)) ∧ bk_wp (bk_C d) P_35 Q 0 9 [bk_c 8 i0, bk_c 5 i1, bk_i ((M 5 i1 (1 : Int)) - (1 : Int)), bk_i ((M 5 i1 (1 : Int)) - (1 : Int)), bk_x, bk_x, bk_x] [] M := bk_iff (d := d) (P := P_35) (b := 0) (l := 0) (ls := [bk_c 8 i0, bk_c 5 i1, bk_x, bk_x, bk_x, bk_x, bk_x]) (st := []) (M := M) [9, 42, 143] 40
theorem L_35_9 {d : Nat} {Q : bk_Q} (i0 : Nat) (i1 : Nat) (x2 : Int) (x3 : Int) (M : bk_M) : bk_wp (bk_C d) P_35 Q 0 9 [bk_c 8 i0, bk_c 5 i1, bk_i x2, bk_i x3, bk_x, bk_x, bk_x] [] M ↔ ((x3 < (0 : Int) → ((0 : Int) ≤ M 5 i1 (2 : Int) ∧ M 5 i1 (2 : Int) < (36 : Int)) ∧ ∀ M1 : bk_M, M1 = bk_up M 8 i0 (2 : Int) (M 47 i0 (M 5 i1 (2 : Int))) → bk_wp (bk_C d) P_35 Q 0 143 [bk_c 8 i0, bk_c 5 i1, bk_i x2, bk_i (M 5 i1 (2 : Int)), bk_i (0 : Int), bk_x, bk_x] [] M1) ∧ (¬ (x3 < (0 : Int)) → bk_r32 ((M 5 i1 (0 : Int)) - (1 : Int)) ∧ bk_r32 ((M 5 i1 (2 : Int)) + x3) ∧ bk_r32 ((M 5 i1 (2 : Int)) - x3) ∧ bk_wp (bk_C d) P_35 Q 0 42 [bk_c 8 i0, bk_c 5 i1, bk_i x2, bk_i x3, bk_i (if (M 5 i1 (0 : Int)) - (1 : Int) ≤ (M 5 i1 (2 : Int)) + x3 then (M 5 i1 (0 : Int)) - (1 : Int) else (M 5 i1 (2 : Int)) + x3), bk_i (if (M 5 i1 (2 : Int)) - x3 ≤ (0 : Int) then (0 : Int) else (M 5 i1 (2 : Int)) - x3), bk_x] [] M)) := bk_iff [9, 42, 143] 40
theorem L_35_42 {d : Nat} {Q : bk_Q} (i0 : Nat) (i1 : Nat) (x2 : Int) (x3 : Int) (x4 : Int) (x5 : Int) (M : bk_M) : bk_wp (bk_C d) P_35 Q 0 42 [bk_c 8 i0, bk_c 5 i1, bk_i x2, bk_i x3, bk_i x4, bk_i x5, bk_x] [] M ↔ ((x4 < x5 → bk_r32 (x3 + (-1 : Int)) ∧ bk_wp (bk_C d) P_35 Q 0 9 [bk_c 8 i0, bk_c 5 i1, bk_i x2, bk_i (x3 + (-1 : Int)), bk_i x4, bk_i x5, bk_x] [] M) ∧ (¬ (x4 < x5) → bk_r32 ((6 : Int) * x3) ∧ bk_r32 (((6 : Int) * x3) + x5) ∧ ((0 : Int) ≤ ((6 : Int) * x3) + x5 ∧ ((6 : Int) * x3) + x5 < (36 : Int)) ∧ ((0 : Int) ≤ ((6 : Int) * x3) + x5 ∧ ((6 : Int) * x3) + x5 < (36 : Int)) ∧ ∀ M1 : bk_M, M1 = bk_up M 47 i0 (((6 : Int) * x3) + x5) (M 45 i0 (((6 : Int) * x3) + x5)) → ((x2 ≤ x3 → bk_r32 (x5 + (1 : Int)) ∧ bk_wp (bk_C d) P_35 Q 0 42 [bk_c 8 i0, bk_c 5 i1, bk_i x2, bk_i x3, bk_i x4, bk_i (x5 + (1 : Int)), bk_i (((6 : Int) * x3) + x5)] [] M1) ∧ (¬ (x2 ≤ x3) → bk_C d 0 36 [bk_c 8 i0, bk_c 5 i1, bk_i (((6 : Int) * x3) + x5)] M1 (fun t4 r2 M3 => t4 = 0 ∧ ((0 : Int) ≤ ((6 : Int) * x3) + x5 ∧ ((6 : Int) * x3) + x5 < (36 : Int)) ∧ ∀ M5 : bk_M, M5 = bk_up M3 48 i0 (((6 : Int) * x3) + x5) r2 → ((0 : Int) ≤ ((6 : Int) * x3) + x5 ∧ ((6 : Int) * x3) + x5 < (36 : Int)) ∧ ((0 : Int) ≤ ((6 : Int) * x3) + x5 ∧ ((6 : Int) * x3) + x5 < (36 : Int)) ∧ ((0 : Int) ≤ M5 48 i0 (((6 : Int) * x3) + x5) ∧ M5 48 i0 (((6 : Int) * x3) + x5) < (36 : Int)) ∧ bk_r32 ((M5 47 i0 (((6 : Int) * x3) + x5)) + (M5 47 i0 (M5 48 i0 (((6 : Int) * x3) + x5)))) ∧ ((0 : Int) ≤ ((6 : Int) * x3) + x5 ∧ ((6 : Int) * x3) + x5 < (36 : Int)) ∧ ∀ M6 : bk_M, M6 = bk_up M5 47 i0 (((6 : Int) * x3) + x5) ((M5 47 i0 (((6 : Int) * x3) + x5)) + (M5 47 i0 (M5 48 i0 (((6 : Int) * x3) + x5)))) → bk_r32 (x5 + (1 : Int)) ∧ bk_wp (bk_C d) P_35 Q 0 42 [bk_c 8 i0, bk_c 5 i1, bk_i x2, bk_i x3, bk_i x4, bk_i (x5 + (1 : Int)), bk_i (((6 : Int) * x3) + x5)] [] M6))))) := bk_iff [9, 42, 143] 40
theorem L_35_143 {d : Nat} {Q : bk_Q} (i0 : Nat) (i1 : Nat) (x2 : Int) (x3 : Int) (x4 : Int) (M : bk_M) : bk_wp (bk_C d) P_35 Q 0 143 [bk_c 8 i0, bk_c 5 i1, bk_i x2, bk_i x3, bk_i x4, bk_x, bk_x] [] M ↔ ((x2 ≤ x4 → ((0 : Int) ≤ x3 ∧ (0 : Int) < (6 : Int)) ∧ ((0 : Int) ≤ x2 ∧ x2 < (6 : Int)) ∧ ∀ M1 : bk_M, M1 = bk_up M 46 i0 x2 (x3 % (6 : Int)) → Q 0 0 M1) ∧ (¬ (x2 ≤ x4) → ((0 : Int) ≤ x3 ∧ (0 : Int) < (6 : Int)) ∧ ((0 : Int) ≤ x4 ∧ x4 < (6 : Int)) ∧ ∀ M2 : bk_M, M2 = bk_up M 46 i0 x4 (x3 % (6 : Int)) → ((0 : Int) ≤ x3 ∧ x3 < (36 : Int)) ∧ bk_r32 (x4 + (1 : Int)) ∧ bk_wp (bk_C d) P_35 Q 0 143 [bk_c 8 i0, bk_c 5 i1, bk_i x2, bk_i (M2 48 i0 x3), bk_i (x4 + (1 : Int)), bk_x, bk_x] [] M2)) := bk_iff [9, 42, 143] 40
set_option maxRecDepth 20000 in
theorem E_36 {d : Nat} {Q : bk_Q} (i0 : Nat) (i1 : Nat) (a2 : Int) (M : bk_M) : bk_C (d + 1) 0 36 [bk_c 8 i0, bk_c 5 i1, bk_i a2] M Q ↔ ((0 : Int) ≤ a2 ∧ (0 : Int) < (6 : Int)) ∧ bk_r32 (a2 + (6 : Int)) ∧ ((a2 % (6 : Int) ≤ (0 : Int) → ((0 : Int) ≤ a2 + (6 : Int) ∧ a2 + (6 : Int) < (36 : Int)) ∧ ((0 : Int) ≤ a2 + (6 : Int) ∧ a2 + (6 : Int) < (36 : Int)) ∧ ((M 47 i0 (a2 + (6 : Int)) ≤ M 47 i0 (a2 + (6 : Int)) → bk_r32 ((a2 % (6 : Int)) + (1 : Int)) ∧ ((M 5 i1 (0 : Int) ≤ (a2 % (6 : Int)) + (1 : Int) → Q 0 (a2 + (6 : Int)) M) ∧ (¬ (M 5 i1 (0 : Int) ≤ (a2 % (6 : Int)) + (1 : Int)) → bk_r32 ((a2 + (6 : Int)) + (1 : Int)) ∧ ((0 : Int) ≤ (a2 + (6 : Int)) + (1 : Int) ∧ (a2 + (6 : Int)) + (1 : Int) < (36 : Int)) ∧ ((0 : Int) ≤ a2 + (6 : Int) ∧ a2 + (6 : Int) < (36 : Int)) ∧ ((M 47 i0 (a2 + (6 : Int)) ≤ M 47 i0 ((a2 + (6 : Int)) + (1 : Int)) → Q 0 (a2 + (6 : Int)) M) ∧ (¬ (M 47 i0 (a2 + (6 : Int)) ≤ M 47 i0 ((a2 + (6 : Int)) + (1 : Int))) → bk_r32 ((a2 + (6 : Int)) + (1 : Int)) ∧ Q 0 ((a2 + (6 : Int)) + (1 : Int)) M))))) ∧ (¬ (M 47 i0 (a2 + (6 : Int)) ≤ M 47 i0 (a2 + (6 : Int))) → bk_r32 ((a2 % (6 : Int)) + (1 : Int)) ∧ ((M 5 i1 (0 : Int) ≤ (a2 % (6 : Int)) + (1 : Int) → Q 0 (a2 + (6 : Int)) M) ∧ (¬ (M 5 i1 (0 : Int) ≤ (a2 % (6 : Int)) + (1 : Int)) → bk_r32 ((a2 + (6 : Int)) + (1 : Int)) ∧ ((0 : Int) ≤ (a2 + (6 : Int)) + (1 : Int) ∧ (a2 + (6 : Int)) + (1 : Int) < (36 : Int)) ∧ ((0 : Int) ≤ a2 + (6 : Int) ∧ a2 + (6 : Int) < (36 : Int)) ∧ ((M 47 i0 (a2 + (6 : Int)) ≤ M 47 i0 ((a2 + (6 : Int)) + (1 : Int)) → Q 0 (a2 + (6 : Int)) M) ∧ (¬ (M 47 i0 (a2 + (6 : Int)) ≤ M 47 i0 ((a2 + (6 : Int)) + (1 : Int))) → bk_r32 ((a2 + (6 : Int)) + (1 : Int)) ∧ Q 0 ((a2 + (6 : Int)) + (1 : Int)) M))))))) ∧ (¬ (a2 % (6 : Int) ≤ (0 : Int)) → bk_r32 ((a2 + (6 : Int)) - (1 : Int)) ∧ ((0 : Int) ≤ a2 + (6 : Int) ∧ a2 + (6 : Int) < (36 : Int)) ∧ ((0 : Int) ≤ (a2 + (6 : Int)) - (1 : Int) ∧ (a2 + (6 : Int)) - (1 : Int) < (36 : Int)) ∧ ((M 47 i0 ((a2 + (6 : Int)) - (1 : Int)) ≤ M 47 i0 (a2 + (6 : Int)) → bk_r32 ((a2 % (6 : Int)) + (1 : Int)) ∧ ((M 5 i1 (0 : Int) ≤ (a2 % (6 : Int)) + (1 : Int) → Q 0 ((a2 + (6 : Int)) - (1 : Int)) M) ∧ (¬ (M 5 i1 (0 : Int) ≤ (a2 % (6 : Int)) + (1 : Int)) → bk_r32 ((a2 + (6 : Int)) + (1 : Int)) ∧ ((0 : Int) ≤ (a2 + (6 : Int)) + (1 : Int) ∧ (a2 + (6 : Int)) + (1 : Int) < (36 : Int)) ∧ ((0 : Int) ≤ (a2 + (6 : Int)) - (1 : Int) ∧ (a2 + (6 : Int)) - (1 : Int) < (36 : Int)) ∧ ((M 47 i0 ((a2 + (6 : Int)) - (1 : Int)) ≤ M 47 i0 ((a2 + (6 : Int)) + (1 : Int)) → Q 0 ((a2 + (6 : Int)) - (1 : Int)) M) ∧ (¬ (M 47 i0 ((a2 + (6 : Int)) - (1 : Int)) ≤ M 47 i0 ((a2 + (6 : Int)) + (1 : Int))) → bk_r32 ((a2 + (6 : Int)) + (1 : Int)) ∧ Q 0 ((a2 + (6 : Int)) + (1 : Int)) M))))) ∧ (¬ (M 47 i0 ((a2 + (6 : Int)) - (1 : Int)) ≤ M 47 i0 (a2 + (6 : Int))) → bk_r32 ((a2 % (6 : Int)) + (1 : Int)) ∧ ((M 5 i1 (0 : Int) ≤ (a2 % (6 : Int)) + (1 : Int) → Q 0 (a2 + (6 : Int)) M) ∧ (¬ (M 5 i1 (0 : Int) ≤ (a2 % (6 : Int)) + (1 : Int)) → bk_r32 ((a2 + (6 : Int)) + (1 : Int)) ∧ ((0 : Int) ≤ (a2 + (6 : Int)) + (1 : Int) ∧ (a2 + (6 : Int)) + (1 : Int) < (36 : Int)) ∧ ((0 : Int) ≤ a2 + (6 : Int) ∧ a2 + (6 : Int) < (36 : Int)) ∧ ((M 47 i0 (a2 + (6 : Int)) ≤ M 47 i0 ((a2 + (6 : Int)) + (1 : Int)) → Q 0 (a2 + (6 : Int)) M) ∧ (¬ (M 47 i0 (a2 + (6 : Int)) ≤ M 47 i0 ((a2 + (6 : Int)) + (1 : Int))) → bk_r32 ((a2 + (6 : Int)) + (1 : Int)) ∧ Q 0 ((a2 + (6 : Int)) + (1 : Int)) M)))))))) := bk_iff (d := d) (P := P_36) (b := 0) (l := 0) (ls := [bk_c 8 i0, bk_c 5 i1, bk_i a2, bk_x, bk_x, bk_x]) (st := []) (M := M) [] 40
theorem E_37 {d : Nat} {Q : bk_Q} (i0 : Nat) (M : bk_M) : bk_C (d + 1) 0 37 [bk_c 9 i0] M Q ↔ ∀ M1 : bk_M, M1 = bk_up M 9 i0 (0 : Int) (0 : Int) → ∀ M2 : bk_M, M2 = bk_up M1 9 i0 (1 : Int) (0 : Int) → Q 0 0 M2 := bk_iff (d := d) (P := P_37) (b := 0) (l := 0) (ls := [bk_c 9 i0]) (st := []) (M := M) [] 40
theorem E_38 {d : Nat} {Q : bk_Q} (M : bk_M) : bk_C (d + 1) 0 38 [bk_c 3 0] M Q ↔ ∀ M1 : bk_M, M1 = bk_up M 3 0 (0 : Int) (0 : Int) → Q 0 0 M1 := bk_iff (d := d) (P := P_38) (b := 0) (l := 0) (ls := [bk_c 3 0]) (st := []) (M := M) [] 40
theorem E_39 {d : Nat} {Q : bk_Q} (M : bk_M) : bk_C (d + 1) 0 39 [bk_c 11 0] M Q ↔ Q 0 (M 11 0 (16 : Int)) M := bk_iff (d := d) (P := P_39) (b := 0) (l := 0) (ls := [bk_c 11 0]) (st := []) (M := M) [] 40
theorem E_40 {d : Nat} {Q : bk_Q} (a1 : Int) (a2 : Int) (M : bk_M) : bk_C (d + 1) 0 40 [bk_c 11 0, bk_i a1, bk_i a2] M Q ↔ ((a1 < (0 : Int) → Q 0 (-1 : Int) M) ∧ (¬ (a1 < (0 : Int)) → ((a1 < M 5 ((M 11 0 (1 : Int)).toNat) (11 : Int) → ((0 : Int) ≤ a1 ∧ a1 < (3 : Int)) ∧ ((a2 = (0 : Int) → ((0 : Int) ≤ M 34 ((M 11 0 (1 : Int)).toNat) a1 ∧ (0 : Int) < (6 : Int)) ∧ Q 0 ((M 34 ((M 11 0 (1 : Int)).toNat) a1) % (6 : Int)) M) ∧ (a2 ≠ (0 : Int) → ((a2 = (1 : Int) → ((0 : Int) ≤ M 34 ((M 11 0 (1 : Int)).toNat) a1 ∧ (0 : Int) < (6 : Int)) ∧ Q 0 ((M 34 ((M 11 0 (1 : Int)).toNat) a1) / (6 : Int)) M) ∧ (a2 ≠ (1 : Int) → ((a2 = (2 : Int) → bk_C d 0 41 [bk_c 29 ((M 11 0 (1 : Int)).toNat), bk_i (M 34 ((M 11 0 (1 : Int)).toNat) a1)] M (fun t3 r1 M2 => t3 = 0 ∧ Q 0 r1 M2)) ∧ (a2 ≠ (2 : Int) → ((a2 = (3 : Int) → ((0 : Int) ≤ a1 ∧ a1 < (3 : Int)) ∧ Q 0 (M 35 ((M 11 0 (1 : Int)).toNat) a1) M) ∧ (a2 ≠ (3 : Int) → Q 0 (-1 : Int) M))))))))) ∧ (¬ (a1 < M 5 ((M 11 0 (1 : Int)).toNat) (11 : Int)) → Q 0 (-1 : Int) M)))) := bk_iff (d := d) (P := P_40) (b := 0) (l := 0) (ls := [bk_c 11 0, bk_i a1, bk_i a2, bk_x]) (st := []) (M := M) [] 40
theorem E_41k29 {d : Nat} {Q : bk_Q} (i0 : Nat) (a1 : Int) (M : bk_M) : bk_C (d + 1) 0 41 [bk_c 29 i0, bk_i a1] M Q ↔ ((0 : Int) ≤ a1 ∧ (0 : Int) < (6 : Int)) ∧ ((a1 < (0 : Int) → Q 0 (-1 : Int) M) ∧ (¬ (a1 < (0 : Int)) → ((a1 / (6 : Int) < (6 : Int) → ((0 : Int) ≤ a1 ∧ (0 : Int) < (6 : Int)) ∧ ((0 : Int) ≤ a1 / (6 : Int) ∧ a1 / (6 : Int) < (6 : Int)) ∧ ((a1 % (6 : Int) ≠ M 29 i0 (a1 / (6 : Int)) → ((0 : Int) ≤ a1 / (6 : Int) ∧ a1 / (6 : Int) < (6 : Int)) ∧ ((M 29 i0 (a1 / (6 : Int)) ≤ a1 % (6 : Int) → Q 0 (1 : Int) M) ∧ (¬ (M 29 i0 (a1 / (6 : Int)) ≤ a1 % (6 : Int)) → Q 0 (0 : Int) M))) ∧ (¬ (a1 % (6 : Int) ≠ M 29 i0 (a1 / (6 : Int))) → Q 0 (2 : Int) M))) ∧ (¬ (a1 / (6 : Int) < (6 : Int)) → Q 0 (-1 : Int) M)))) := bk_iff (d := d) (P := P_41) (b := 0) (l := 0) (ls := [bk_c 29 i0, bk_i a1, bk_x, bk_x]) (st := []) (M := M) [] 40
theorem E_41k46 {d : Nat} {Q : bk_Q} (i0 : Nat) (a1 : Int) (M : bk_M) : bk_C (d + 1) 0 41 [bk_c 46 i0, bk_i a1] M Q ↔ ((0 : Int) ≤ a1 ∧ (0 : Int) < (6 : Int)) ∧ ((a1 < (0 : Int) → Q 0 (-1 : Int) M) ∧ (¬ (a1 < (0 : Int)) → ((a1 / (6 : Int) < (6 : Int) → ((0 : Int) ≤ a1 ∧ (0 : Int) < (6 : Int)) ∧ ((0 : Int) ≤ a1 / (6 : Int) ∧ a1 / (6 : Int) < (6 : Int)) ∧ ((a1 % (6 : Int) ≠ M 46 i0 (a1 / (6 : Int)) → ((0 : Int) ≤ a1 / (6 : Int) ∧ a1 / (6 : Int) < (6 : Int)) ∧ ((M 46 i0 (a1 / (6 : Int)) ≤ a1 % (6 : Int) → Q 0 (1 : Int) M) ∧ (¬ (M 46 i0 (a1 / (6 : Int)) ≤ a1 % (6 : Int)) → Q 0 (0 : Int) M))) ∧ (¬ (a1 % (6 : Int) ≠ M 46 i0 (a1 / (6 : Int))) → Q 0 (2 : Int) M))) ∧ (¬ (a1 / (6 : Int) < (6 : Int)) → Q 0 (-1 : Int) M)))) := bk_iff (d := d) (P := P_41) (b := 0) (l := 0) (ls := [bk_c 46 i0, bk_i a1, bk_x, bk_x]) (st := []) (M := M) [] 40
theorem E_42 {d : Nat} {Q : bk_Q} (a1 : Int) (a2 : Int) (M : bk_M) : bk_C (d + 1) 0 42 [bk_c 11 0, bk_i a1, bk_i a2] M Q ↔ bk_C d 0 20 [bk_c 5 ((M 11 0 (1 : Int)).toNat), bk_i a1, bk_i a2] M (fun t3 r1 M2 => t3 = 0 ∧ ((r1 ≠ (-1 : Int) → ((0 : Int) ≤ r1 ∧ r1 < (36 : Int)) ∧ Q 0 (M2 28 ((M2 11 0 (1 : Int)).toNat) r1) M2) ∧ (¬ (r1 ≠ (-1 : Int)) → Q 0 (-1 : Int) M2))) := bk_iff (d := d) (P := P_42) (b := 0) (l := 0) (ls := [bk_c 11 0, bk_i a1, bk_i a2, bk_x]) (st := []) (M := M) [] 40
theorem E_43 {d : Nat} {Q : bk_Q} (a1 : Int) (a2 : Int) (M : bk_M) : bk_C (d + 1) 0 43 [bk_c 11 0, bk_i a1, bk_i a2] M Q ↔ bk_C d 0 20 [bk_c 5 ((M 11 0 (1 : Int)).toNat), bk_i a1, bk_i a2] M (fun t3 r1 M2 => t3 = 0 ∧ ((r1 ≠ (-1 : Int) → bk_C d 0 41 [bk_c 29 ((M2 11 0 (1 : Int)).toNat), bk_i r1] M2 (fun t6 r4 M5 => t6 = 0 ∧ Q 0 r4 M5)) ∧ (¬ (r1 ≠ (-1 : Int)) → Q 0 (-1 : Int) M2))) := bk_iff (d := d) (P := P_43) (b := 0) (l := 0) (ls := [bk_c 11 0, bk_i a1, bk_i a2, bk_x]) (st := []) (M := M) [] 40
theorem E_44 {d : Nat} {Q : bk_Q} (a1 : Int) (M : bk_M) : bk_C (d + 1) 0 44 [bk_c 11 0, bk_i a1] M Q ↔ bk_C d 0 45 [bk_c 11 0, bk_i a1] M (fun t3 r1 M2 => t3 = 0 ∧ ((r1 = (0 : Int) → Q 0 (-1 : Int) M2) ∧ (¬ (r1 = (0 : Int)) → ((0 : Int) ≤ a1 ∧ a1 < (6 : Int)) ∧ Q 0 (M2 29 ((M2 11 0 (1 : Int)).toNat) a1) M2))) := bk_iff (d := d) (P := P_44) (b := 0) (l := 0) (ls := [bk_c 11 0, bk_i a1]) (st := []) (M := M) [] 40
theorem E_45 {d : Nat} {Q : bk_Q} (a1 : Int) (M : bk_M) : bk_C (d + 1) 0 45 [bk_c 11 0, bk_i a1] M Q ↔ ((a1 < (0 : Int) → ((0 : Int) = 0 ∨ (0 : Int) = 1) ∧ Q 0 (0 : Int) M) ∧ (¬ (a1 < (0 : Int)) → ((M 5 ((M 11 0 (1 : Int)).toNat) (1 : Int) ≤ a1 → ((0 : Int) = 0 ∨ (0 : Int) = 1) ∧ Q 0 (0 : Int) M) ∧ (¬ (M 5 ((M 11 0 (1 : Int)).toNat) (1 : Int) ≤ a1) → ((1 : Int) = 0 ∨ (1 : Int) = 1) ∧ Q 0 (1 : Int) M)))) := bk_iff (d := d) (P := P_45) (b := 0) (l := 0) (ls := [bk_c 11 0, bk_i a1]) (st := []) (M := M) [] 40
theorem E_46 {d : Nat} {Q : bk_Q} (a1 : Int) (a2 : Int) (M : bk_M) : bk_C (d + 1) 0 46 [bk_c 11 0, bk_i a1, bk_i a2] M Q ↔ bk_C d 0 47 [bk_i a1] M (fun t3 r1 M2 => t3 = 0 ∧ ((r1 ≠ (0 : Int) → ((a2 = (0 : Int) → ((0 : Int) ≤ a1 ∧ a1 < (2 : Int)) ∧ Q 0 (M2 37 ((M2 11 0 (1 : Int)).toNat) a1) M2) ∧ (a2 ≠ (0 : Int) → ((a2 = (1 : Int) → bk_C d 0 48 [bk_c 5 ((M2 11 0 (1 : Int)).toNat), bk_c 29 ((M2 11 0 (1 : Int)).toNat), bk_i a1] M2 (fun t6 r4 M5 => t6 = 0 ∧ Q 0 r4 M5)) ∧ (a2 ≠ (1 : Int) → ((a2 = (2 : Int) → bk_C d 0 49 [bk_c 5 ((M2 11 0 (1 : Int)).toNat), bk_c 29 ((M2 11 0 (1 : Int)).toNat), bk_i a1] M2 (fun t9 r7 M8 => t9 = 0 ∧ Q 0 r7 M8)) ∧ (a2 ≠ (2 : Int) → ((a2 = (3 : Int) → ((0 : Int) ≤ a1 ∧ a1 < (2 : Int)) ∧ Q 0 (M2 38 ((M2 11 0 (1 : Int)).toNat) a1) M2) ∧ (a2 ≠ (3 : Int) → Q 0 (-1 : Int) M2))))))))) ∧ (¬ (r1 ≠ (0 : Int)) → Q 0 (-1 : Int) M2))) := bk_iff (d := d) (P := P_46) (b := 0) (l := 0) (ls := [bk_c 11 0, bk_i a1, bk_i a2]) (st := []) (M := M) [] 40
theorem E_47 {d : Nat} {Q : bk_Q} (a0 : Int) (M : bk_M) : bk_C (d + 1) 0 47 [bk_i a0] M Q ↔ ((a0 = (0 : Int) → ((1 : Int) = 0 ∨ (1 : Int) = 1) ∧ Q 0 (1 : Int) M) ∧ (¬ (a0 = (0 : Int)) → ((a0 ≠ (1 : Int) → ((0 : Int) = 0 ∨ (0 : Int) = 1) ∧ Q 0 (0 : Int) M) ∧ (¬ (a0 ≠ (1 : Int)) → ((1 : Int) = 0 ∨ (1 : Int) = 1) ∧ Q 0 (1 : Int) M)))) := bk_iff (d := d) (P := P_47) (b := 0) (l := 0) (ls := [bk_i a0]) (st := []) (M := M) [] 40
theorem E_48k29 {d : Nat} {Q : bk_Q} (i0 : Nat) (i1 : Nat) (a2 : Int) (M : bk_M) : bk_C (d + 1) 0 48 [bk_c 5 i0, bk_c 29 i1, bk_i a2] M Q ↔ bk_wp (bk_C d) P_48 Q 0 5 [bk_c 5 i0, bk_c 29 i1, bk_i a2, bk_i (0 : Int), bk_i (0 : Int)] [] M := bk_iff (d := d) (P := P_48) (b := 0) (l := 0) (ls := [bk_c 5 i0, bk_c 29 i1, bk_i a2, bk_x, bk_x]) (st := []) (M := M) [5] 40
theorem L_48_5k29 {d : Nat} {Q : bk_Q} (i0 : Nat) (i1 : Nat) (x2 : Int) (x3 : Int) (x4 : Int) (M : bk_M) : bk_wp (bk_C d) P_48 Q 0 5 [bk_c 5 i0, bk_c 29 i1, bk_i x2, bk_i x3, bk_i x4] [] M ↔ ((M 5 i0 (6 : Int) ≤ x4 → Q 0 x3 M) ∧ (¬ (M 5 i0 (6 : Int) ≤ x4) → ((0 : Int) ≤ x4 ∧ x4 < (10 : Int)) ∧ bk_C d 0 41 [bk_c 29 i1, bk_i (M 30 i0 x4)] M (fun t3 r1 M2 => t3 = 0 ∧ ((r1 ≠ x2 → bk_r32 (x4 + (1 : Int)) ∧ bk_wp (bk_C d) P_48 Q 0 5 [bk_c 5 i0, bk_c 29 i1, bk_i x2, bk_i x3, bk_i (x4 + (1 : Int))] [] M2) ∧ (¬ (r1 ≠ x2) → ((0 : Int) ≤ x4 ∧ x4 < 32 ∧ bk_r32 ((1 : Int) * 2 ^ x4.toNat)) ∧ bk_r32 (x4 + (1 : Int)) ∧ bk_wp (bk_C d) P_48 Q 0 5 [bk_c 5 i0, bk_c 29 i1, bk_i x2, bk_i (bk_or x3 ((1 : Int) * 2 ^ x4.toNat)), bk_i (x4 + (1 : Int))] [] M2))))) := bk_iff [5] 40
theorem E_48k46 {d : Nat} {Q : bk_Q} (i0 : Nat) (i1 : Nat) (a2 : Int) (M : bk_M) : bk_C (d + 1) 0 48 [bk_c 5 i0, bk_c 46 i1, bk_i a2] M Q ↔ bk_wp (bk_C d) P_48 Q 0 5 [bk_c 5 i0, bk_c 46 i1, bk_i a2, bk_i (0 : Int), bk_i (0 : Int)] [] M := bk_iff (d := d) (P := P_48) (b := 0) (l := 0) (ls := [bk_c 5 i0, bk_c 46 i1, bk_i a2, bk_x, bk_x]) (st := []) (M := M) [5] 40
theorem L_48_5k46 {d : Nat} {Q : bk_Q} (i0 : Nat) (i1 : Nat) (x2 : Int) (x3 : Int) (x4 : Int) (M : bk_M) : bk_wp (bk_C d) P_48 Q 0 5 [bk_c 5 i0, bk_c 46 i1, bk_i x2, bk_i x3, bk_i x4] [] M ↔ ((M 5 i0 (6 : Int) ≤ x4 → Q 0 x3 M) ∧ (¬ (M 5 i0 (6 : Int) ≤ x4) → ((0 : Int) ≤ x4 ∧ x4 < (10 : Int)) ∧ bk_C d 0 41 [bk_c 46 i1, bk_i (M 30 i0 x4)] M (fun t3 r1 M2 => t3 = 0 ∧ ((r1 ≠ x2 → bk_r32 (x4 + (1 : Int)) ∧ bk_wp (bk_C d) P_48 Q 0 5 [bk_c 5 i0, bk_c 46 i1, bk_i x2, bk_i x3, bk_i (x4 + (1 : Int))] [] M2) ∧ (¬ (r1 ≠ x2) → ((0 : Int) ≤ x4 ∧ x4 < 32 ∧ bk_r32 ((1 : Int) * 2 ^ x4.toNat)) ∧ bk_r32 (x4 + (1 : Int)) ∧ bk_wp (bk_C d) P_48 Q 0 5 [bk_c 5 i0, bk_c 46 i1, bk_i x2, bk_i (bk_or x3 ((1 : Int) * 2 ^ x4.toNat)), bk_i (x4 + (1 : Int))] [] M2))))) := bk_iff [5] 40
theorem E_49k29 {d : Nat} {Q : bk_Q} (i0 : Nat) (i1 : Nat) (a2 : Int) (M : bk_M) : bk_C (d + 1) 0 49 [bk_c 5 i0, bk_c 29 i1, bk_i a2] M Q ↔ bk_wp (bk_C d) P_49 Q 0 5 [bk_c 5 i0, bk_c 29 i1, bk_i a2, bk_i (0 : Int), bk_i (0 : Int)] [] M := bk_iff (d := d) (P := P_49) (b := 0) (l := 0) (ls := [bk_c 5 i0, bk_c 29 i1, bk_i a2, bk_x, bk_x]) (st := []) (M := M) [5] 40
theorem L_49_5k29 {d : Nat} {Q : bk_Q} (i0 : Nat) (i1 : Nat) (x2 : Int) (x3 : Int) (x4 : Int) (M : bk_M) : bk_wp (bk_C d) P_49 Q 0 5 [bk_c 5 i0, bk_c 29 i1, bk_i x2, bk_i x3, bk_i x4] [] M ↔ ((M 5 i0 (6 : Int) ≤ x4 → Q 0 x3 M) ∧ (¬ (M 5 i0 (6 : Int) ≤ x4) → ((0 : Int) ≤ x4 ∧ x4 < (10 : Int)) ∧ bk_C d 0 41 [bk_c 29 i1, bk_i (M 30 i0 x4)] M (fun t3 r1 M2 => t3 = 0 ∧ ((r1 ≠ x2 → bk_r32 (x4 + (1 : Int)) ∧ bk_wp (bk_C d) P_49 Q 0 5 [bk_c 5 i0, bk_c 29 i1, bk_i x2, bk_i x3, bk_i (x4 + (1 : Int))] [] M2) ∧ (¬ (r1 ≠ x2) → ((0 : Int) ≤ x4 ∧ x4 < (10 : Int)) ∧ bk_r32 (x3 + (M2 31 i0 x4)) ∧ bk_r32 (x4 + (1 : Int)) ∧ bk_wp (bk_C d) P_49 Q 0 5 [bk_c 5 i0, bk_c 29 i1, bk_i x2, bk_i (x3 + (M2 31 i0 x4)), bk_i (x4 + (1 : Int))] [] M2))))) := bk_iff [5] 40
theorem E_49k46 {d : Nat} {Q : bk_Q} (i0 : Nat) (i1 : Nat) (a2 : Int) (M : bk_M) : bk_C (d + 1) 0 49 [bk_c 5 i0, bk_c 46 i1, bk_i a2] M Q ↔ bk_wp (bk_C d) P_49 Q 0 5 [bk_c 5 i0, bk_c 46 i1, bk_i a2, bk_i (0 : Int), bk_i (0 : Int)] [] M := bk_iff (d := d) (P := P_49) (b := 0) (l := 0) (ls := [bk_c 5 i0, bk_c 46 i1, bk_i a2, bk_x, bk_x]) (st := []) (M := M) [5] 40
theorem L_49_5k46 {d : Nat} {Q : bk_Q} (i0 : Nat) (i1 : Nat) (x2 : Int) (x3 : Int) (x4 : Int) (M : bk_M) : bk_wp (bk_C d) P_49 Q 0 5 [bk_c 5 i0, bk_c 46 i1, bk_i x2, bk_i x3, bk_i x4] [] M ↔ ((M 5 i0 (6 : Int) ≤ x4 → Q 0 x3 M) ∧ (¬ (M 5 i0 (6 : Int) ≤ x4) → ((0 : Int) ≤ x4 ∧ x4 < (10 : Int)) ∧ bk_C d 0 41 [bk_c 46 i1, bk_i (M 30 i0 x4)] M (fun t3 r1 M2 => t3 = 0 ∧ ((r1 ≠ x2 → bk_r32 (x4 + (1 : Int)) ∧ bk_wp (bk_C d) P_49 Q 0 5 [bk_c 5 i0, bk_c 46 i1, bk_i x2, bk_i x3, bk_i (x4 + (1 : Int))] [] M2) ∧ (¬ (r1 ≠ x2) → ((0 : Int) ≤ x4 ∧ x4 < (10 : Int)) ∧ bk_r32 (x3 + (M2 31 i0 x4)) ∧ bk_r32 (x4 + (1 : Int)) ∧ bk_wp (bk_C d) P_49 Q 0 5 [bk_c 5 i0, bk_c 46 i1, bk_i x2, bk_i (x3 + (M2 31 i0 x4)), bk_i (x4 + (1 : Int))] [] M2))))) := bk_iff [5] 40
theorem E_50 {d : Nat} {Q : bk_Q} (a1 : Int) (M : bk_M) : bk_C (d + 1) 0 50 [bk_c 11 0, bk_i a1] M Q ↔ ((a1 = (0 : Int) → Q 0 (M 5 ((M 11 0 (1 : Int)).toNat) (17 : Int)) M) ∧ (a1 ≠ (0 : Int) → ((a1 = (1 : Int) → bk_C d 0 48 [bk_c 5 ((M 11 0 (1 : Int)).toNat), bk_c 29 ((M 11 0 (1 : Int)).toNat), bk_i (2 : Int)] M (fun t3 r1 M2 => t3 = 0 ∧ Q 0 r1 M2)) ∧ (a1 ≠ (1 : Int) → ((a1 = (2 : Int) → bk_C d 0 51 [bk_c 5 ((M 11 0 (1 : Int)).toNat)] M (fun t6 r4 M5 => t6 = 0 ∧ Q 0 r4 M5)) ∧ (a1 ≠ (2 : Int) → ((a1 = (3 : Int) → bk_C d 0 52 [bk_c 5 ((M 11 0 (1 : Int)).toNat)] M (fun t9 r7 M8 => t9 = 0 ∧ Q 0 r7 M8)) ∧ (a1 ≠ (3 : Int) → ((a1 = (4 : Int) → bk_C d 0 53 [bk_c 5 ((M 11 0 (1 : Int)).toNat)] M (fun t12 r10 M11 => t12 = 0 ∧ Q 0 r10 M11)) ∧ (a1 ≠ (4 : Int) → Q 0 (-1 : Int) M)))))))))) := bk_iff (d := d) (P := P_50) (b := 0) (l := 0) (ls := [bk_c 11 0, bk_i a1]) (st := []) (M := M) [] 40
theorem E_51 {d : Nat} {Q : bk_Q} (i0 : Nat) (M : bk_M) : bk_C (d + 1) 0 51 [bk_c 5 i0] M Q ↔ bk_wp (bk_C d) P_51 Q 0 4 [bk_c 5 i0, bk_i (0 : Int), bk_i (0 : Int)] [] M := bk_iff (d := d) (P := P_51) (b := 0) (l := 0) (ls := [bk_c 5 i0, bk_x, bk_x]) (st := []) (M := M) [4] 40
theorem L_51_4 {d : Nat} {Q : bk_Q} (i0 : Nat) (x1 : Int) (x2 : Int) (M : bk_M) : bk_wp (bk_C d) P_51 Q 0 4 [bk_c 5 i0, bk_i x1, bk_i x2] [] M ↔ ((M 5 i0 (1 : Int) ≤ x2 → Q 0 x1 M) ∧ (¬ (M 5 i0 (1 : Int) ≤ x2) → bk_r32 ((6 : Int) * x2) ∧ ((0 : Int) ≤ x2 ∧ x2 < (6 : Int)) ∧ bk_r32 (((6 : Int) * x2) + (M 29 i0 x2)) ∧ ((0 : Int) ≤ ((6 : Int) * x2) + (M 29 i0 x2) ∧ ((6 : Int) * x2) + (M 29 i0 x2) < (36 : Int)) ∧ bk_r32 (x1 + (M 28 i0 (((6 : Int) * x2) + (M 29 i0 x2)))) ∧ bk_r32 (x2 + (1 : Int)) ∧ bk_wp (bk_C d) P_51 Q 0 4 [bk_c 5 i0, bk_i (x1 + (M 28 i0 (((6 : Int) * x2) + (M 29 i0 x2)))), bk_i (x2 + (1 : Int))] [] M)) := bk_iff [4] 40
theorem E_52 {d : Nat} {Q : bk_Q} (i0 : Nat) (M : bk_M) : bk_C (d + 1) 0 52 [bk_c 5 i0] M Q ↔ bk_wp (bk_C d) P_52 Q 0 4 [bk_c 5 i0, bk_i (0 : Int), bk_i (1 : Int)] [] M := bk_iff (d := d) (P := P_52) (b := 0) (l := 0) (ls := [bk_c 5 i0, bk_x, bk_x]) (st := []) (M := M) [4] 40
theorem L_52_4 {d : Nat} {Q : bk_Q} (i0 : Nat) (x1 : Int) (x2 : Int) (M : bk_M) : bk_wp (bk_C d) P_52 Q 0 4 [bk_c 5 i0, bk_i x1, bk_i x2] [] M ↔ ((M 5 i0 (1 : Int) ≤ x2 → Q 0 x1 M) ∧ (¬ (M 5 i0 (1 : Int) ≤ x2) → ((0 : Int) ≤ x2 ∧ x2 < (6 : Int)) ∧ bk_r32 (x2 - (1 : Int)) ∧ ((0 : Int) ≤ x2 - (1 : Int) ∧ x2 - (1 : Int) < (6 : Int)) ∧ ((M 29 i0 x2 = M 29 i0 (x2 - (1 : Int)) → bk_r32 (x2 + (1 : Int)) ∧ bk_wp (bk_C d) P_52 Q 0 4 [bk_c 5 i0, bk_i x1, bk_i (x2 + (1 : Int))] [] M) ∧ (¬ (M 29 i0 x2 = M 29 i0 (x2 - (1 : Int))) → bk_r32 (x1 + (1 : Int)) ∧ bk_r32 (x2 + (1 : Int)) ∧ bk_wp (bk_C d) P_52 Q 0 4 [bk_c 5 i0, bk_i (x1 + (1 : Int)), bk_i (x2 + (1 : Int))] [] M)))) := bk_iff [4] 40
theorem E_53 {d : Nat} {Q : bk_Q} (i0 : Nat) (M : bk_M) : bk_C (d + 1) 0 53 [bk_c 5 i0] M Q ↔ bk_wp (bk_C d) P_53 Q 0 4 [bk_c 5 i0, bk_i (0 : Int), bk_i (0 : Int)] [] M := bk_iff (d := d) (P := P_53) (b := 0) (l := 0) (ls := [bk_c 5 i0, bk_x, bk_x]) (st := []) (M := M) [4] 40
theorem L_53_4 {d : Nat} {Q : bk_Q} (i0 : Nat) (x1 : Int) (x2 : Int) (M : bk_M) : bk_wp (bk_C d) P_53 Q 0 4 [bk_c 5 i0, bk_i x1, bk_i x2] [] M ↔ ((M 5 i0 (6 : Int) ≤ x2 → Q 0 x1 M) ∧ (¬ (M 5 i0 (6 : Int) ≤ x2) → ((0 : Int) ≤ x2 ∧ x2 < (10 : Int)) ∧ bk_r32 (x1 + (M 32 i0 x2)) ∧ bk_r32 (x2 + (1 : Int)) ∧ bk_wp (bk_C d) P_53 Q 0 4 [bk_c 5 i0, bk_i (x1 + (M 32 i0 x2)), bk_i (x2 + (1 : Int))] [] M)) := bk_iff [4] 40
theorem E_54 {d : Nat} {Q : bk_Q} (a1 : Int) (a2 : Int) (a3 : Int) (M : bk_M) : bk_C (d + 1) 0 54 [bk_c 11 0, bk_i a1, bk_i a2, bk_i a3] M Q ↔ bk_C d 0 55 [bk_c 11 0, bk_i a1, bk_i a2, bk_i a3, bk_i (-1 : Int)] M (fun t3 r1 M2 => t3 = 0 ∧ Q 0 r1 M2) := bk_iff (d := d) (P := P_54) (b := 0) (l := 0) (ls := [bk_c 11 0, bk_i a1, bk_i a2, bk_i a3]) (st := []) (M := M) [] 40
theorem E_55 {d : Nat} {Q : bk_Q} (a1 : Int) (a2 : Int) (a3 : Int) (a4 : Int) (M : bk_M) : bk_C (d + 1) 0 55 [bk_c 11 0, bk_i a1, bk_i a2, bk_i a3, bk_i a4] M Q ↔ bk_C d 0 20 [bk_c 5 ((M 11 0 (1 : Int)).toNat), bk_i a2, bk_i a3] M (fun t3 r1 M2 => t3 = 0 ∧ bk_C d 0 47 [bk_i a1] M2 (fun t6 r4 M5 => t6 = 0 ∧ ((r4 = (0 : Int) → Q 0 (-1 : Int) M5) ∧ (¬ (r4 = (0 : Int)) → ((r1 ≠ (-1 : Int) → bk_C d 0 56 [bk_c 5 ((M5 11 0 (1 : Int)).toNat), bk_i a1, bk_i r1, bk_i a4] M5 (fun t9 r7 M8 => t9 = 0 ∧ ((r7 ≠ (0 : Int) → Q 0 r7 M8) ∧ (¬ (r7 ≠ (0 : Int)) → bk_C d 0 57 [bk_c 3 0, bk_c 5 ((M8 11 0 (1 : Int)).toNat)] M8 (fun t12 r10 M11 => t12 = 0 ∧ bk_C d 0 59 [bk_c 5 ((M11 11 0 (1 : Int)).toNat), bk_i a1, bk_i r1, bk_i a4] M11 (fun t15 r13 M14 => t15 = 0 ∧ Q 0 r7 M14)))))) ∧ (¬ (r1 ≠ (-1 : Int)) → Q 0 (-1 : Int) M5)))))) := bk_iff (d := d) (P := P_55) (b := 0) (l := 0) (ls := [bk_c 11 0, bk_i a1, bk_i a2, bk_i a3, bk_i a4, bk_x, bk_x]) (st := []) (M := M) [] 40
theorem E_56 {d : Nat} {Q : bk_Q} (i0 : Nat) (a1 : Int) (a2 : Int) (a3 : Int) (M : bk_M) : bk_C (d + 1) 0 56 [bk_c 5 i0, bk_i a1, bk_i a2, bk_i a3] M Q ↔ ((0 : Int) ≤ a1 ∧ a1 < (2 : Int)) ∧ (((1 : Int) ≤ M 37 i0 a1 → bk_C d 0 41 [bk_c 29 i0, bk_i a2] M (fun t3 r1 M2 => t3 = 0 ∧ bk_r32 ((1 : Int) - a1) ∧ ((r1 ≠ (1 : Int) - a1 → ((0 : Int) ≤ a2 ∧ a2 < (36 : Int)) ∧ bk_r32 ((M2 28 i0 a2) + a3) ∧ (((M2 28 i0 a2) + a3 < (0 : Int) → Q 0 (3 : Int) M2) ∧ (¬ ((M2 28 i0 a2) + a3 < (0 : Int)) → (((M2 28 i0 a2) + a3 ≤ (9 : Int) → Q 0 (0 : Int) M2) ∧ (¬ ((M2 28 i0 a2) + a3 ≤ (9 : Int)) → Q 0 (3 : Int) M2))))) ∧ (¬ (r1 ≠ (1 : Int) - a1) → Q 0 (2 : Int) M2)))) ∧ (¬ ((1 : Int) ≤ M 37 i0 a1) → Q 0 (1 : Int) M)) := bk_iff (d := d) (P := P_56) (b := 0) (l := 0) (ls := [bk_c 5 i0, bk_i a1, bk_i a2, bk_i a3, bk_x]) (st := []) (M := M) [] 40
theorem E_57 {d : Nat} {Q : bk_Q} (i1 : Nat) (M : bk_M) : bk_C (d + 1) 0 57 [bk_c 3 0, bk_c 5 i1] M Q ↔ ((0 : Int) ≤ M 3 0 (1 : Int) ∧ M 3 0 (1 : Int) < (8 : Int)) ∧ bk_C d 0 58 [bk_c 5 (3 + (M 3 0 (1 : Int)).toNat), bk_c 5 i1] M (fun t3 r1 M2 => t3 = 0 ∧ bk_r32 ((M2 3 0 (1 : Int)) + (1 : Int)) ∧ ((0 : Int) ≤ (M2 3 0 (1 : Int)) + (1 : Int) ∧ (0 : Int) < (8 : Int)) ∧ ∀ M4 : bk_M, M4 = bk_up M2 3 0 (1 : Int) (((M2 3 0 (1 : Int)) + (1 : Int)) % (8 : Int)) → bk_r32 ((M4 3 0 (0 : Int)) + (1 : Int)) ∧ ∀ M5 : bk_M, M5 = bk_up M4 3 0 (0 : Int) (if (8 : Int) ≤ (M4 3 0 (0 : Int)) + (1 : Int) then (8 : Int) else (M4 3 0 (0 : Int)) + (1 : Int)) → Q 0 0 M5) := bk_iff (d := d) (P := P_57) (b := 0) (l := 0) (ls := [bk_c 3 0, bk_c 5 i1]) (st := []) (M := M) [] 40
set_option maxRecDepth 20000 in
theorem E_58 {d : Nat} {Q : bk_Q} (i0 : Nat) (i1 : Nat) (M : bk_M) : bk_C (d + 1) 0 58 [bk_c 5 i0, bk_c 5 i1] M Q ↔ ∀ M1 : bk_M, M1 = bk_up M 5 i0 (0 : Int) (M 5 i1 (0 : Int)) → ∀ M2 : bk_M, M2 = bk_up M1 5 i0 (1 : Int) (M1 5 i1 (1 : Int)) → ∀ M3 : bk_M, M3 = bk_up M2 5 i0 (2 : Int) (M2 5 i1 (2 : Int)) → ∀ M4 : bk_M, M4 = bk_up M3 5 i0 (3 : Int) (M3 5 i1 (3 : Int)) → ∀ M5 : bk_M, M5 = bk_up M4 5 i0 (6 : Int) (M4 5 i1 (6 : Int)) → ∀ M6 : bk_M, M6 = bk_up M5 5 i0 (11 : Int) (M5 5 i1 (11 : Int)) → ∀ M7 : bk_M, M7 = bk_up M6 5 i0 (17 : Int) (M6 5 i1 (17 : Int)) → ((0 : Int) ≤ (36 : Int) ∧ (0 : Int) ≤ (0 : Int) ∧ (0 : Int) + (36 : Int) ≤ (36 : Int) ∧ (0 : Int) ≤ (0 : Int) ∧ (0 : Int) + (36 : Int) ≤ (36 : Int)) ∧ ∀ M8 : bk_M, M8 = bk_cpy M7 28 i1 (0 : Int) 28 i0 (0 : Int) (36 : Int) → ((0 : Int) ≤ (6 : Int) ∧ (0 : Int) ≤ (0 : Int) ∧ (0 : Int) + (6 : Int) ≤ (6 : Int) ∧ (0 : Int) ≤ (0 : Int) ∧ (0 : Int) + (6 : Int) ≤ (6 : Int)) ∧ ∀ M9 : bk_M, M9 = bk_cpy M8 29 i1 (0 : Int) 29 i0 (0 : Int) (6 : Int) → ((0 : Int) ≤ (10 : Int) ∧ (0 : Int) ≤ (0 : Int) ∧ (0 : Int) + (10 : Int) ≤ (10 : Int) ∧ (0 : Int) ≤ (0 : Int) ∧ (0 : Int) + (10 : Int) ≤ (10 : Int)) ∧ ∀ M10 : bk_M, M10 = bk_cpy M9 30 i1 (0 : Int) 30 i0 (0 : Int) (10 : Int) → ((0 : Int) ≤ (10 : Int) ∧ (0 : Int) ≤ (0 : Int) ∧ (0 : Int) + (10 : Int) ≤ (10 : Int) ∧ (0 : Int) ≤ (0 : Int) ∧ (0 : Int) + (10 : Int) ≤ (10 : Int)) ∧ ∀ M11 : bk_M, M11 = bk_cpy M10 31 i1 (0 : Int) 31 i0 (0 : Int) (10 : Int) → ((0 : Int) ≤ (10 : Int) ∧ (0 : Int) ≤ (0 : Int) ∧ (0 : Int) + (10 : Int) ≤ (10 : Int) ∧ (0 : Int) ≤ (0 : Int) ∧ (0 : Int) + (10 : Int) ≤ (10 : Int)) ∧ ∀ M12 : bk_M, M12 = bk_cpy M11 32 i1 (0 : Int) 32 i0 (0 : Int) (10 : Int) → ((0 : Int) ≤ (10 : Int) ∧ (0 : Int) ≤ (0 : Int) ∧ (0 : Int) + (10 : Int) ≤ (10 : Int) ∧ (0 : Int) ≤ (0 : Int) ∧ (0 : Int) + (10 : Int) ≤ (10 : Int)) ∧ ∀ M13 : bk_M, M13 = bk_cpy M12 33 i1 (0 : Int) 33 i0 (0 : Int) (10 : Int) → ((0 : Int) ≤ (3 : Int) ∧ (0 : Int) ≤ (0 : Int) ∧ (0 : Int) + (3 : Int) ≤ (3 : Int) ∧ (0 : Int) ≤ (0 : Int) ∧ (0 : Int) + (3 : Int) ≤ (3 : Int)) ∧ ∀ M14 : bk_M, M14 = bk_cpy M13 34 i1 (0 : Int) 34 i0 (0 : Int) (3 : Int) → ((0 : Int) ≤ (3 : Int) ∧ (0 : Int) ≤ (0 : Int) ∧ (0 : Int) + (3 : Int) ≤ (3 : Int) ∧ (0 : Int) ≤ (0 : Int) ∧ (0 : Int) + (3 : Int) ≤ (3 : Int)) ∧ ∀ M15 : bk_M, M15 = bk_cpy M14 35 i1 (0 : Int) 35 i0 (0 : Int) (3 : Int) → ((0 : Int) ≤ (3 : Int) ∧ (0 : Int) ≤ (0 : Int) ∧ (0 : Int) + (3 : Int) ≤ (3 : Int) ∧ (0 : Int) ≤ (0 : Int) ∧ (0 : Int) + (3 : Int) ≤ (3 : Int)) ∧ ∀ M16 : bk_M, M16 = bk_cpy M15 36 i1 (0 : Int) 36 i0 (0 : Int) (3 : Int) → ((0 : Int) ≤ (2 : Int) ∧ (0 : Int) ≤ (0 : Int) ∧ (0 : Int) + (2 : Int) ≤ (2 : Int) ∧ (0 : Int) ≤ (0 : Int) ∧ (0 : Int) + (2 : Int) ≤ (2 : Int)) ∧ ∀ M17 : bk_M, M17 = bk_cpy M16 37 i1 (0 : Int) 37 i0 (0 : Int) (2 : Int) → ((0 : Int) ≤ (2 : Int) ∧ (0 : Int) ≤ (0 : Int) ∧ (0 : Int) + (2 : Int) ≤ (2 : Int) ∧ (0 : Int) ≤ (0 : Int) ∧ (0 : Int) + (2 : Int) ≤ (2 : Int)) ∧ ∀ M18 : bk_M, M18 = bk_cpy M17 38 i1 (0 : Int) 38 i0 (0 : Int) (2 : Int) → ((0 : Int) ≤ (48 : Int) ∧ (0 : Int) ≤ (0 : Int) ∧ (0 : Int) + (48 : Int) ≤ (48 : Int) ∧ (0 : Int) ≤ (0 : Int) ∧ (0 : Int) + (48 : Int) ≤ (48 : Int)) ∧ ∀ M19 : bk_M, M19 = bk_cpy M18 39 i1 (0 : Int) 39 i0 (0 : Int) (48 : Int) → Q 0 0 M19 := bk_iff (d := d) (P := P_58) (b := 0) (l := 0) (ls := [bk_c 5 i0, bk_c 5 i1]) (st := []) (M := M) [] 40
theorem E_59 {d : Nat} {Q : bk_Q} (i0 : Nat) (a1 : Int) (a2 : Int) (a3 : Int) (M : bk_M) : bk_C (d + 1) 0 59 [bk_c 5 i0, bk_i a1, bk_i a2, bk_i a3] M Q ↔ ((0 : Int) ≤ a2 ∧ a2 < (36 : Int)) ∧ bk_r32 ((M 28 i0 a2) + a3) ∧ ((0 : Int) ≤ a2 ∧ a2 < (36 : Int)) ∧ ∀ M1 : bk_M, M1 = bk_up M 28 i0 a2 ((M 28 i0 a2) + a3) → ((0 : Int) ≤ a1 ∧ a1 < (2 : Int)) ∧ bk_r32 ((M1 37 i0 a1) - (1 : Int)) ∧ ((0 : Int) ≤ a1 ∧ a1 < (2 : Int)) ∧ ∀ M2 : bk_M, M2 = bk_up M1 37 i0 a1 ((M1 37 i0 a1) - (1 : Int)) → ((0 : Int) ≤ a1 ∧ a1 < (2 : Int)) ∧ bk_r32 ((M2 38 i0 a1) + (1 : Int)) ∧ ((0 : Int) ≤ a1 ∧ a1 < (2 : Int)) ∧ ∀ M3 : bk_M, M3 = bk_up M2 38 i0 a1 ((M2 38 i0 a1) + (1 : Int)) → Q 0 0 M3 := bk_iff (d := d) (P := P_59) (b := 0) (l := 0) (ls := [bk_c 5 i0, bk_i a1, bk_i a2, bk_i a3]) (st := []) (M := M) [] 40
theorem GE_41 {k1 : Nat} (hk1 : k1 = 29 ∨ k1 = 46) {d : Nat} {Q : bk_Q} (i0 : Nat) (a1 : Int) (M : bk_M) : bk_C (d + 1) 0 41 [bk_c k1 i0, bk_i a1] M Q ↔ ((0 : Int) ≤ a1 ∧ (0 : Int) < (6 : Int)) ∧ ((a1 < (0 : Int) → Q 0 (-1 : Int) M) ∧ (¬ (a1 < (0 : Int)) → ((a1 / (6 : Int) < (6 : Int) → ((0 : Int) ≤ a1 ∧ (0 : Int) < (6 : Int)) ∧ ((0 : Int) ≤ a1 / (6 : Int) ∧ a1 / (6 : Int) < (6 : Int)) ∧ ((a1 % (6 : Int) ≠ M k1 i0 (a1 / (6 : Int)) → ((0 : Int) ≤ a1 / (6 : Int) ∧ a1 / (6 : Int) < (6 : Int)) ∧ ((M k1 i0 (a1 / (6 : Int)) ≤ a1 % (6 : Int) → Q 0 (1 : Int) M) ∧ (¬ (M k1 i0 (a1 / (6 : Int)) ≤ a1 % (6 : Int)) → Q 0 (0 : Int) M))) ∧ (¬ (a1 % (6 : Int) ≠ M k1 i0 (a1 / (6 : Int))) → Q 0 (2 : Int) M))) ∧ (¬ (a1 / (6 : Int) < (6 : Int)) → Q 0 (-1 : Int) M)))) := by
  rcases hk1 with rfl | rfl
  · exact E_41k29 i0 a1 M
  · exact E_41k46 i0 a1 M
theorem GE_48 {k1 : Nat} (hk1 : k1 = 29 ∨ k1 = 46) {d : Nat} {Q : bk_Q} (i0 : Nat) (i1 : Nat) (a2 : Int) (M : bk_M) : bk_C (d + 1) 0 48 [bk_c 5 i0, bk_c k1 i1, bk_i a2] M Q ↔ bk_wp (bk_C d) P_48 Q 0 5 [bk_c 5 i0, bk_c k1 i1, bk_i a2, bk_i (0 : Int), bk_i (0 : Int)] [] M := by
  rcases hk1 with rfl | rfl
  · exact E_48k29 i0 i1 a2 M
  · exact E_48k46 i0 i1 a2 M
theorem GL_48_5 {k1 : Nat} (hk1 : k1 = 29 ∨ k1 = 46) {d : Nat} {Q : bk_Q} (i0 : Nat) (i1 : Nat) (x2 : Int) (x3 : Int) (x4 : Int) (M : bk_M) : bk_wp (bk_C d) P_48 Q 0 5 [bk_c 5 i0, bk_c k1 i1, bk_i x2, bk_i x3, bk_i x4] [] M ↔ ((M 5 i0 (6 : Int) ≤ x4 → Q 0 x3 M) ∧ (¬ (M 5 i0 (6 : Int) ≤ x4) → ((0 : Int) ≤ x4 ∧ x4 < (10 : Int)) ∧ bk_C d 0 41 [bk_c k1 i1, bk_i (M 30 i0 x4)] M (fun t3 r1 M2 => t3 = 0 ∧ ((r1 ≠ x2 → bk_r32 (x4 + (1 : Int)) ∧ bk_wp (bk_C d) P_48 Q 0 5 [bk_c 5 i0, bk_c k1 i1, bk_i x2, bk_i x3, bk_i (x4 + (1 : Int))] [] M2) ∧ (¬ (r1 ≠ x2) → ((0 : Int) ≤ x4 ∧ x4 < 32 ∧ bk_r32 ((1 : Int) * 2 ^ x4.toNat)) ∧ bk_r32 (x4 + (1 : Int)) ∧ bk_wp (bk_C d) P_48 Q 0 5 [bk_c 5 i0, bk_c k1 i1, bk_i x2, bk_i (bk_or x3 ((1 : Int) * 2 ^ x4.toNat)), bk_i (x4 + (1 : Int))] [] M2))))) := by
  rcases hk1 with rfl | rfl
  · exact L_48_5k29 i0 i1 x2 x3 x4 M
  · exact L_48_5k46 i0 i1 x2 x3 x4 M
theorem GE_49 {k1 : Nat} (hk1 : k1 = 29 ∨ k1 = 46) {d : Nat} {Q : bk_Q} (i0 : Nat) (i1 : Nat) (a2 : Int) (M : bk_M) : bk_C (d + 1) 0 49 [bk_c 5 i0, bk_c k1 i1, bk_i a2] M Q ↔ bk_wp (bk_C d) P_49 Q 0 5 [bk_c 5 i0, bk_c k1 i1, bk_i a2, bk_i (0 : Int), bk_i (0 : Int)] [] M := by
  rcases hk1 with rfl | rfl
  · exact E_49k29 i0 i1 a2 M
  · exact E_49k46 i0 i1 a2 M
theorem GL_49_5 {k1 : Nat} (hk1 : k1 = 29 ∨ k1 = 46) {d : Nat} {Q : bk_Q} (i0 : Nat) (i1 : Nat) (x2 : Int) (x3 : Int) (x4 : Int) (M : bk_M) : bk_wp (bk_C d) P_49 Q 0 5 [bk_c 5 i0, bk_c k1 i1, bk_i x2, bk_i x3, bk_i x4] [] M ↔ ((M 5 i0 (6 : Int) ≤ x4 → Q 0 x3 M) ∧ (¬ (M 5 i0 (6 : Int) ≤ x4) → ((0 : Int) ≤ x4 ∧ x4 < (10 : Int)) ∧ bk_C d 0 41 [bk_c k1 i1, bk_i (M 30 i0 x4)] M (fun t3 r1 M2 => t3 = 0 ∧ ((r1 ≠ x2 → bk_r32 (x4 + (1 : Int)) ∧ bk_wp (bk_C d) P_49 Q 0 5 [bk_c 5 i0, bk_c k1 i1, bk_i x2, bk_i x3, bk_i (x4 + (1 : Int))] [] M2) ∧ (¬ (r1 ≠ x2) → ((0 : Int) ≤ x4 ∧ x4 < (10 : Int)) ∧ bk_r32 (x3 + (M2 31 i0 x4)) ∧ bk_r32 (x4 + (1 : Int)) ∧ bk_wp (bk_C d) P_49 Q 0 5 [bk_c 5 i0, bk_c k1 i1, bk_i x2, bk_i (x3 + (M2 31 i0 x4)), bk_i (x4 + (1 : Int))] [] M2))))) := by
  rcases hk1 with rfl | rfl
  · exact L_49_5k29 i0 i1 x2 x3 x4 M
  · exact L_49_5k46 i0 i1 x2 x3 x4 M
end
section
theorem E_60 {d : Nat} {Q : bk_Q} (a1 : Int) (a2 : Int) (a3 : Int) (M : bk_M) : bk_C (d + 1) 0 60 [bk_c 11 0, bk_i a1, bk_i a2, bk_i a3] M Q ↔ bk_C d 0 55 [bk_c 11 0, bk_i a1, bk_i a2, bk_i a3, bk_i (1 : Int)] M (fun t3 r1 M2 => t3 = 0 ∧ Q 0 r1 M2) := bk_iff (d := d) (P := P_60) (b := 0) (l := 0) (ls := [bk_c 11 0, bk_i a1, bk_i a2, bk_i a3]) (st := []) (M := M) [] 40
theorem E_61 {d : Nat} {Q : bk_Q} (a1 : Int) (a2 : Int) (a3 : Int) (M : bk_M) : bk_C (d + 1) 0 61 [bk_c 11 0, bk_i a1, bk_i a2, bk_i a3] M Q ↔ bk_C d 0 20 [bk_c 5 ((M 11 0 (1 : Int)).toNat), bk_i a2, bk_i a3] M (fun t3 r1 M2 => t3 = 0 ∧ ((a1 < (0 : Int) → Q 0 (-1 : Int) M2) ∧ (¬ (a1 < (0 : Int)) → ((M2 5 ((M2 11 0 (1 : Int)).toNat) (11 : Int) ≤ a1 → Q 0 (-1 : Int) M2) ∧ (¬ (M2 5 ((M2 11 0 (1 : Int)).toNat) (11 : Int) ≤ a1) → ((r1 ≠ (-1 : Int) → bk_C d 0 62 [bk_c 5 ((M2 11 0 (1 : Int)).toNat), bk_i a1, bk_i r1] M2 (fun t6 r4 M5 => t6 = 0 ∧ ((r4 ≠ (0 : Int) → Q 0 r4 M5) ∧ (¬ (r4 ≠ (0 : Int)) → bk_C d 0 57 [bk_c 3 0, bk_c 5 ((M5 11 0 (1 : Int)).toNat)] M5 (fun t9 r7 M8 => t9 = 0 ∧ bk_C d 0 63 [bk_c 5 ((M8 11 0 (1 : Int)).toNat), bk_i a1, bk_i r1] M8 (fun t12 r10 M11 => t12 = 0 ∧ Q 0 r4 M11)))))) ∧ (¬ (r1 ≠ (-1 : Int)) → Q 0 (-1 : Int) M2))))))) := bk_iff (d := d) (P := P_61) (b := 0) (l := 0) (ls := [bk_c 11 0, bk_i a1, bk_i a2, bk_i a3, bk_x, bk_x]) (st := []) (M := M) [] 40
theorem E_62 {d : Nat} {Q : bk_Q} (i0 : Nat) (a1 : Int) (a2 : Int) (M : bk_M) : bk_C (d + 1) 0 62 [bk_c 5 i0, bk_i a1, bk_i a2] M Q ↔ ((0 : Int) ≤ a1 ∧ a1 < (3 : Int)) ∧ ((0 : Int) ≤ M 34 i0 a1 ∧ (0 : Int) < (6 : Int)) ∧ ((0 : Int) ≤ a2 ∧ (0 : Int) < (6 : Int)) ∧ bk_r32 (((M 34 i0 a1) % (6 : Int)) - (a2 % (6 : Int))) ∧ bk_r32 (-(((M 34 i0 a1) % (6 : Int)) - (a2 % (6 : Int)))) ∧ ((0 : Int) ≤ a1 ∧ a1 < (3 : Int)) ∧ ((0 : Int) ≤ M 34 i0 a1 ∧ (0 : Int) < (6 : Int)) ∧ ((0 : Int) ≤ a2 ∧ (0 : Int) < (6 : Int)) ∧ bk_r32 (((M 34 i0 a1) / (6 : Int)) - (a2 / (6 : Int))) ∧ bk_r32 (-(((M 34 i0 a1) / (6 : Int)) - (a2 / (6 : Int)))) ∧ bk_r32 ((if ((M 34 i0 a1) % (6 : Int)) - (a2 % (6 : Int)) < 0 then -(((M 34 i0 a1) % (6 : Int)) - (a2 % (6 : Int))) else ((M 34 i0 a1) % (6 : Int)) - (a2 % (6 : Int))) + (if ((M 34 i0 a1) / (6 : Int)) - (a2 / (6 : Int)) < 0 then -(((M 34 i0 a1) / (6 : Int)) - (a2 / (6 : Int))) else ((M 34 i0 a1) / (6 : Int)) - (a2 / (6 : Int)))) ∧ (((if ((M 34 i0 a1) % (6 : Int)) - (a2 % (6 : Int)) < 0 then -(((M 34 i0 a1) % (6 : Int)) - (a2 % (6 : Int))) else ((M 34 i0 a1) % (6 : Int)) - (a2 % (6 : Int))) + (if ((M 34 i0 a1) / (6 : Int)) - (a2 / (6 : Int)) < 0 then -(((M 34 i0 a1) / (6 : Int)) - (a2 / (6 : Int))) else ((M 34 i0 a1) / (6 : Int)) - (a2 / (6 : Int))) = (1 : Int) → ((0 : Int) ≤ a1 ∧ a1 < (3 : Int)) ∧ bk_C d 0 41 [bk_c 29 i0, bk_i (M 34 i0 a1)] M (fun t3 r1 M2 => t3 = 0 ∧ ((r1 ≠ (2 : Int) → Q 0 (0 : Int) M2) ∧ (¬ (r1 ≠ (2 : Int)) → Q 0 (2 : Int) M2)))) ∧ (¬ ((if ((M 34 i0 a1) % (6 : Int)) - (a2 % (6 : Int)) < 0 then -(((M 34 i0 a1) % (6 : Int)) - (a2 % (6 : Int))) else ((M 34 i0 a1) % (6 : Int)) - (a2 % (6 : Int))) + (if ((M 34 i0 a1) / (6 : Int)) - (a2 / (6 : Int)) < 0 then -(((M 34 i0 a1) / (6 : Int)) - (a2 / (6 : Int))) else ((M 34 i0 a1) / (6 : Int)) - (a2 / (6 : Int))) = (1 : Int)) → Q 0 (1 : Int) M)) := bk_iff (d := d) (P := P_62) (b := 0) (l := 0) (ls := [bk_c 5 i0, bk_i a1, bk_i a2, bk_x, bk_x]) (st := []) (M := M) [] 40
theorem E_63 {d : Nat} {Q : bk_Q} (i0 : Nat) (a1 : Int) (a2 : Int) (M : bk_M) : bk_C (d + 1) 0 63 [bk_c 5 i0, bk_i a1, bk_i a2] M Q ↔ ((0 : Int) ≤ a1 ∧ a1 < (3 : Int)) ∧ ∀ M1 : bk_M, M1 = bk_up M 34 i0 a1 a2 → ((0 : Int) ≤ a1 ∧ a1 < (3 : Int)) ∧ bk_r32 ((M1 35 i0 a1) + (1 : Int)) ∧ ((0 : Int) ≤ a1 ∧ a1 < (3 : Int)) ∧ ∀ M2 : bk_M, M2 = bk_up M1 35 i0 a1 ((M1 35 i0 a1) + (1 : Int)) → Q 0 0 M2 := bk_iff (d := d) (P := P_63) (b := 0) (l := 0) (ls := [bk_c 5 i0, bk_i a1, bk_i a2]) (st := []) (M := M) [] 40
theorem E_64 {d : Nat} {Q : bk_Q} (a1 : Int) (M : bk_M) : bk_C (d + 1) 0 64 [bk_c 11 0, bk_i a1] M Q ↔ ((M 5 ((M 11 0 (1 : Int)).toNat) (17 : Int) < (400 : Int) → bk_C d 0 57 [bk_c 3 0, bk_c 5 ((M 11 0 (1 : Int)).toNat)] M (fun t3 r1 M2 => t3 = 0 ∧ ∀ M4 : bk_M, M4 = bk_up M2 8 0 (3 : Int) a1 → bk_C d 0 65 [bk_c 8 0, bk_c 5 ((M4 11 0 (1 : Int)).toNat)] M4 (fun t7 r5 M6 => t7 = 0 ∧ Q 0 r5 M6))) ∧ (¬ (M 5 ((M 11 0 (1 : Int)).toNat) (17 : Int) < (400 : Int)) → Q 0 (-1 : Int) M)) := bk_iff (d := d) (P := P_64) (b := 0) (l := 0) (ls := [bk_c 11 0, bk_i a1]) (st := []) (M := M) [] 40
theorem E_65 {d : Nat} {Q : bk_Q} (i0 : Nat) (i1 : Nat) (M : bk_M) : bk_C (d + 1) 0 65 [bk_c 8 i0, bk_c 5 i1] M Q ↔ bk_wp (bk_C d) P_65 Q 0 2 [bk_c 8 i0, bk_c 5 i1, bk_i (0 : Int), bk_x, bk_x] [] M := bk_iff (d := d) (P := P_65) (b := 0) (l := 0) (ls := [bk_c 8 i0, bk_c 5 i1, bk_x, bk_x, bk_x]) (st := []) (M := M) [2, 12] 40
theorem L_65_2 {d : Nat} {Q : bk_Q} (i0 : Nat) (i1 : Nat) (x2 : Int) (M : bk_M) : bk_wp (bk_C d) P_65 Q 0 2 [bk_c 8 i0, bk_c 5 i1, bk_i x2, bk_x, bk_x] [] M ↔ ((M 5 i1 (1 : Int) ≤ x2 → bk_C d 0 35 [bk_c 8 i0, bk_c 5 i1] M (fun t3 r1 M2 => t3 = 0 ∧ bk_C d 0 67 [bk_c 5 i1, bk_c 46 i0] M2 (fun t6 r4 M5 => t6 = 0 ∧ bk_C d 0 68 [bk_c 5 i1] M5 (fun t9 r7 M8 => t9 = 0 ∧ Q 0 r4 M8)))) ∧ (¬ (M 5 i1 (1 : Int) ≤ x2) → bk_wp (bk_C d) P_65 Q 0 12 [bk_c 8 i0, bk_c 5 i1, bk_i x2, bk_i (0 : Int), bk_x] [] M)) := bk_iff [2, 12] 40
theorem L_65_12 {d : Nat} {Q : bk_Q} (i0 : Nat) (i1 : Nat) (x2 : Int) (x3 : Int) (M : bk_M) : bk_wp (bk_C d) P_65 Q 0 12 [bk_c 8 i0, bk_c 5 i1, bk_i x2, bk_i x3, bk_x] [] M ↔ ((M 5 i1 (0 : Int) ≤ x3 → bk_r32 (x2 + (1 : Int)) ∧ bk_wp (bk_C d) P_65 Q 0 2 [bk_c 8 i0, bk_c 5 i1, bk_i (x2 + (1 : Int)), bk_i x3, bk_x] [] M) ∧ (¬ (M 5 i1 (0 : Int) ≤ x3) → bk_r32 ((6 : Int) * x2) ∧ bk_r32 (((6 : Int) * x2) + x3) ∧ ((0 : Int) ≤ ((6 : Int) * x2) + x3 ∧ ((6 : Int) * x2) + x3 < (36 : Int)) ∧ bk_r32 ((M 5 i1 (3 : Int)) + (1 : Int)) ∧ bk_C d 0 66 [bk_c 8 i0, bk_i ((M 5 i1 (3 : Int)) + (1 : Int))] M (fun t3 r1 M2 => t3 = 0 ∧ bk_r32 ((M 28 i1 (((6 : Int) * x2) + x3)) + r1) ∧ ((0 : Int) ≤ ((6 : Int) * x2) + x3 ∧ ((6 : Int) * x2) + x3 < (36 : Int)) ∧ ∀ M4 : bk_M, M4 = bk_up M2 45 i0 (((6 : Int) * x2) + x3) ((M 28 i1 (((6 : Int) * x2) + x3)) + r1) → bk_r32 (x3 + (1 : Int)) ∧ bk_wp (bk_C d) P_65 Q 0 12 [bk_c 8 i0, bk_c 5 i1, bk_i x2, bk_i (x3 + (1 : Int)), bk_i (((6 : Int) * x2) + x3)] [] M4))) := bk_iff [2, 12] 40
theorem E_66 {d : Nat} {Q : bk_Q} (i0 : Nat) (a1 : Int) (M : bk_M) : bk_C (d + 1) 0 66 [bk_c 8 i0, bk_i a1] M Q ↔ ∀ M1 : bk_M, M1 = bk_up M 8 i0 (3 : Int) (bk_w32 ((bk_w32 ((M 8 i0 (3 : Int)) * (1103515245 : Int))) + (12345 : Int))) → (((1 : Int) ≤ a1 → ((0 : Int) ≤ (8 : Int) ∧ (8 : Int) < 32) ∧ ((0 : Int) ≤ bk_ushr (M1 8 i0 (3 : Int)) (8 : Int) ∧ (0 : Int) < a1) ∧ Q 0 ((bk_ushr (M1 8 i0 (3 : Int)) (8 : Int)) % a1) M1) ∧ (¬ ((1 : Int) ≤ a1) → Q 0 (0 : Int) M1)) := bk_iff (d := d) (P := P_66) (b := 0) (l := 0) (ls := [bk_c 8 i0, bk_i a1]) (st := []) (M := M) [] 40
theorem E_67 {d : Nat} {Q : bk_Q} (i0 : Nat) (i1 : Nat) (M : bk_M) : bk_C (d + 1) 0 67 [bk_c 5 i0, bk_c 46 i1] M Q ↔ bk_wp (bk_C d) P_67 Q 0 4 [bk_c 5 i0, bk_c 46 i1, bk_i (0 : Int), bk_i (0 : Int)] [] M := bk_iff (d := d) (P := P_67) (b := 0) (l := 0) (ls := [bk_c 5 i0, bk_c 46 i1, bk_x, bk_x]) (st := []) (M := M) [4] 40
theorem L_67_4 {d : Nat} {Q : bk_Q} (i0 : Nat) (i1 : Nat) (x2 : Int) (x3 : Int) (M : bk_M) : bk_wp (bk_C d) P_67 Q 0 4 [bk_c 5 i0, bk_c 46 i1, bk_i x2, bk_i x3] [] M ↔ ((M 5 i0 (6 : Int) ≤ x3 → ((0 : Int) ≤ M 5 i0 (17 : Int) ∧ (0 : Int) < (8 : Int)) ∧ bk_r32 (((M 5 i0 (17 : Int)) % (8 : Int)) * (6 : Int)) ∧ ((0 : Int) ≤ (6 : Int) ∧ (0 : Int) ≤ (0 : Int) ∧ (0 : Int) + (6 : Int) ≤ (6 : Int) ∧ (0 : Int) ≤ ((M 5 i0 (17 : Int)) % (8 : Int)) * (6 : Int) ∧ (((M 5 i0 (17 : Int)) % (8 : Int)) * (6 : Int)) + (6 : Int) ≤ (48 : Int)) ∧ ∀ M1 : bk_M, M1 = bk_cpy M 29 i0 (0 : Int) 39 i0 (((M 5 i0 (17 : Int)) % (8 : Int)) * (6 : Int)) (6 : Int) → ((0 : Int) ≤ (6 : Int) ∧ (0 : Int) ≤ (0 : Int) ∧ (0 : Int) + (6 : Int) ≤ (6 : Int) ∧ (0 : Int) ≤ (0 : Int) ∧ (0 : Int) + (6 : Int) ≤ (6 : Int)) ∧ ∀ M2 : bk_M, M2 = bk_cpy M1 46 i1 (0 : Int) 29 i0 (0 : Int) (6 : Int) → bk_r32 ((M2 5 i0 (17 : Int)) + (1 : Int)) ∧ ∀ M3 : bk_M, M3 = bk_up M2 5 i0 (17 : Int) ((M2 5 i0 (17 : Int)) + (1 : Int)) → Q 0 x2 M3) ∧ (¬ (M 5 i0 (6 : Int) ≤ x3) → ((0 : Int) ≤ x3 ∧ x3 < (10 : Int)) ∧ bk_C d 0 41 [bk_c 46 i1, bk_i (M 30 i0 x3)] M (fun t6 r4 M5 => t6 = 0 ∧ ((0 : Int) ≤ x3 ∧ x3 < (10 : Int)) ∧ bk_C d 0 41 [bk_c 29 i0, bk_i (M5 30 i0 x3)] M5 (fun t9 r7 M8 => t9 = 0 ∧ ((r4 = r7 → bk_r32 (x3 + (1 : Int)) ∧ bk_wp (bk_C d) P_67 Q 0 4 [bk_c 5 i0, bk_c 46 i1, bk_i x2, bk_i (x3 + (1 : Int))] [] M8) ∧ (¬ (r4 = r7) → ((0 : Int) ≤ x3 ∧ x3 < (10 : Int)) ∧ bk_r32 ((M8 32 i0 x3) + (1 : Int)) ∧ ((0 : Int) ≤ x3 ∧ x3 < (10 : Int)) ∧ ∀ M10 : bk_M, M10 = bk_up M8 32 i0 x3 ((M8 32 i0 x3) + (1 : Int)) → bk_r32 (x2 + (1 : Int)) ∧ bk_r32 (x3 + (1 : Int)) ∧ bk_wp (bk_C d) P_67 Q 0 4 [bk_c 5 i0, bk_c 46 i1, bk_i (x2 + (1 : Int)), bk_i (x3 + (1 : Int))] [] M10)))))) := bk_iff [4] 40
theorem E_68 {d : Nat} {Q : bk_Q} (i0 : Nat) (M : bk_M) : bk_C (d + 1) 0 68 [bk_c 5 i0] M Q ↔ bk_wp (bk_C d) P_68 Q 0 2 [bk_c 5 i0, bk_i (0 : Int), bk_x, bk_x] [] M := bk_iff (d := d) (P := P_68) (b := 0) (l := 0) (ls := [bk_c 5 i0, bk_x, bk_x, bk_x]) (st := []) (M := M) [2, 21] 40
theorem L_68_2 {d : Nat} {Q : bk_Q} (i0 : Nat) (x1 : Int) (M : bk_M) : bk_wp (bk_C d) P_68 Q 0 2 [bk_c 5 i0, bk_i x1, bk_x, bk_x] [] M ↔ (((1 : Int) < x1 → Q 0 0 M) ∧ (¬ ((1 : Int) < x1) → bk_C d 0 49 [bk_c 5 i0, bk_c 29 i0, bk_i x1] M (fun t3 r1 M2 => t3 = 0 ∧ ((0 : Int) ≤ r1 ∧ (0 : Int) < (4 : Int)) ∧ bk_wp (bk_C d) P_68 Q 0 21 [bk_c 5 i0, bk_i x1, bk_i (r1 / (4 : Int)), bk_i (0 : Int)] [] M2))) := bk_iff [2, 21] 40
theorem L_68_21 {d : Nat} {Q : bk_Q} (i0 : Nat) (x1 : Int) (x2 : Int) (x3 : Int) (M : bk_M) : bk_wp (bk_C d) P_68 Q 0 21 [bk_c 5 i0, bk_i x1, bk_i x2, bk_i x3] [] M ↔ ((M 5 i0 (11 : Int) ≤ x3 → ((0 : Int) ≤ x1 ∧ x1 < (2 : Int)) ∧ bk_r32 ((M 37 i0 x1) + x2) ∧ ((0 : Int) ≤ x1 ∧ x1 < (2 : Int)) ∧ ∀ M1 : bk_M, M1 = bk_up M 37 i0 x1 (if (999 : Int) ≤ (M 37 i0 x1) + x2 then (999 : Int) else (M 37 i0 x1) + x2) → bk_r32 (x1 + (1 : Int)) ∧ bk_wp (bk_C d) P_68 Q 0 2 [bk_c 5 i0, bk_i (x1 + (1 : Int)), bk_i x2, bk_i x3] [] M1) ∧ (¬ (M 5 i0 (11 : Int) ≤ x3) → ((0 : Int) ≤ x3 ∧ x3 < (3 : Int)) ∧ bk_C d 0 41 [bk_c 29 i0, bk_i (M 34 i0 x3)] M (fun t4 r2 M3 => t4 = 0 ∧ ((r2 ≠ x1 → bk_r32 (x3 + (1 : Int)) ∧ bk_wp (bk_C d) P_68 Q 0 21 [bk_c 5 i0, bk_i x1, bk_i x2, bk_i (x3 + (1 : Int))] [] M3) ∧ (¬ (r2 ≠ x1) → bk_r32 (x2 + (2 : Int)) ∧ bk_r32 (x3 + (1 : Int)) ∧ bk_wp (bk_C d) P_68 Q 0 21 [bk_c 5 i0, bk_i x1, bk_i (x2 + (2 : Int)), bk_i (x3 + (1 : Int))] [] M3))))) := bk_iff [2, 21] 40
theorem E_69 {d : Nat} {Q : bk_Q} (a1 : Int) (a2 : Int) (M : bk_M) : bk_C (d + 1) 0 69 [bk_c 11 0, bk_i a1, bk_i a2] M Q ↔ ((a1 < (1 : Int) → Q 0 (-1 : Int) M) ∧ (¬ (a1 < (1 : Int)) → ((a1 ≤ (30 : Int) → ((M 5 ((M 11 0 (1 : Int)).toNat) (17 : Int) < (400 : Int) → bk_C d 0 57 [bk_c 3 0, bk_c 5 ((M 11 0 (1 : Int)).toNat)] M (fun t3 r1 M2 => t3 = 0 ∧ ∀ M4 : bk_M, M4 = bk_up M2 8 0 (3 : Int) a2 → bk_C d 0 70 [bk_c 8 0, bk_c 5 ((M4 11 0 (1 : Int)).toNat), bk_i a1] M4 (fun t7 r5 M6 => t7 = 0 ∧ Q 0 r5 M6))) ∧ (¬ (M 5 ((M 11 0 (1 : Int)).toNat) (17 : Int) < (400 : Int)) → Q 0 (0 : Int) M))) ∧ (¬ (a1 ≤ (30 : Int)) → Q 0 (-1 : Int) M)))) := bk_iff (d := d) (P := P_69) (b := 0) (l := 0) (ls := [bk_c 11 0, bk_i a1, bk_i a2]) (st := []) (M := M) [] 40
theorem E_70 {d : Nat} {Q : bk_Q} (i0 : Nat) (i1 : Nat) (a2 : Int) (M : bk_M) : bk_C (d + 1) 0 70 [bk_c 8 i0, bk_c 5 i1, bk_i a2] M Q ↔ bk_wp (bk_C d) P_70 Q 0 5 [bk_c 8 i0, bk_c 5 i1, bk_i a2, bk_i (0 : Int), bk_i (0 : Int)] [] M := bk_iff (d := d) (P := P_70) (b := 0) (l := 0) (ls := [bk_c 8 i0, bk_c 5 i1, bk_i a2, bk_x, bk_x]) (st := []) (M := M) [5] 40
theorem L_70_5 {d : Nat} {Q : bk_Q} (i0 : Nat) (i1 : Nat) (x2 : Int) (x3 : Int) (x4 : Int) (M : bk_M) : bk_wp (bk_C d) P_70 Q 0 5 [bk_c 8 i0, bk_c 5 i1, bk_i x2, bk_i x3, bk_i x4] [] M ↔ ((x2 ≤ x4 → Q 0 x3 M) ∧ (¬ (x2 ≤ x4) → (((400 : Int) ≤ M 5 i1 (17 : Int) → Q 0 x3 M) ∧ (¬ ((400 : Int) ≤ M 5 i1 (17 : Int)) → bk_C d 0 65 [bk_c 8 i0, bk_c 5 i1] M (fun t3 r1 M2 => t3 = 0 ∧ bk_r32 (x3 + (1 : Int)) ∧ bk_r32 (x4 + (1 : Int)) ∧ bk_wp (bk_C d) P_70 Q 0 5 [bk_c 8 i0, bk_c 5 i1, bk_i x2, bk_i (x3 + (1 : Int)), bk_i (x4 + (1 : Int))] [] M2))))) := bk_iff [5] 40
theorem E_71 {d : Nat} {Q : bk_Q} (M : bk_M) : bk_C (d + 1) 0 71 [bk_c 11 0] M Q ↔ ((M 3 0 (0 : Int) ≠ (0 : Int) → bk_C d 0 72 [bk_c 3 0, bk_c 5 ((M 11 0 (1 : Int)).toNat)] M (fun t3 r1 M2 => t3 = 0 ∧ Q 0 (M2 3 0 (0 : Int)) M2)) ∧ (¬ (M 3 0 (0 : Int) ≠ (0 : Int)) → Q 0 (-1 : Int) M)) := bk_iff (d := d) (P := P_71) (b := 0) (l := 0) (ls := [bk_c 11 0]) (st := []) (M := M) [] 40
theorem E_72 {d : Nat} {Q : bk_Q} (i1 : Nat) (M : bk_M) : bk_C (d + 1) 0 72 [bk_c 3 0, bk_c 5 i1] M Q ↔ ((M 3 0 (0 : Int) ≤ (0 : Int) → Q 0 0 M) ∧ (¬ (M 3 0 (0 : Int) ≤ (0 : Int)) → bk_r32 ((M 3 0 (1 : Int)) + (8 : Int)) ∧ bk_r32 (((M 3 0 (1 : Int)) + (8 : Int)) - (1 : Int)) ∧ ((0 : Int) ≤ ((M 3 0 (1 : Int)) + (8 : Int)) - (1 : Int) ∧ (0 : Int) < (8 : Int)) ∧ ∀ M1 : bk_M, M1 = bk_up M 3 0 (1 : Int) ((((M 3 0 (1 : Int)) + (8 : Int)) - (1 : Int)) % (8 : Int)) → bk_r32 ((M1 3 0 (0 : Int)) - (1 : Int)) ∧ ∀ M2 : bk_M, M2 = bk_up M1 3 0 (0 : Int) ((M1 3 0 (0 : Int)) - (1 : Int)) → ((0 : Int) ≤ M2 3 0 (1 : Int) ∧ M2 3 0 (1 : Int) < (8 : Int)) ∧ bk_C d 0 58 [bk_c 5 i1, bk_c 5 (3 + (M2 3 0 (1 : Int)).toNat)] M2 (fun t5 r3 M4 => t5 = 0 ∧ Q 0 0 M4))) := bk_iff (d := d) (P := P_72) (b := 0) (l := 0) (ls := [bk_c 3 0, bk_c 5 i1]) (st := []) (M := M) [] 40
theorem E_73 {d : Nat} {Q : bk_Q} (M : bk_M) : bk_C (d + 1) 0 73 [bk_c 11 0] M Q ↔ bk_C d 0 33 [bk_c 8 0, bk_c 5 ((M 11 0 (1 : Int)).toNat)] M (fun t3 r1 M2 => t3 = 0 ∧ Q 0 (M2 8 0 (2 : Int)) M2) := bk_iff (d := d) (P := P_73) (b := 0) (l := 0) (ls := [bk_c 11 0]) (st := []) (M := M) [] 40
theorem E_74 {d : Nat} {Q : bk_Q} (a1 : Int) (M : bk_M) : bk_C (d + 1) 0 74 [bk_c 11 0, bk_i a1] M Q ↔ bk_C d 0 45 [bk_c 11 0, bk_i a1] M (fun t3 r1 M2 => t3 = 0 ∧ ((r1 ≠ (0 : Int) → bk_C d 0 33 [bk_c 8 0, bk_c 5 ((M2 11 0 (1 : Int)).toNat)] M2 (fun t6 r4 M5 => t6 = 0 ∧ ((0 : Int) ≤ a1 ∧ a1 < (6 : Int)) ∧ Q 0 (M5 46 0 a1) M5)) ∧ (¬ (r1 ≠ (0 : Int)) → Q 0 (-1 : Int) M2))) := bk_iff (d := d) (P := P_74) (b := 0) (l := 0) (ls := [bk_c 11 0, bk_i a1]) (st := []) (M := M) [] 40
theorem E_75 {d : Nat} {Q : bk_Q} (a1 : Int) (M : bk_M) : bk_C (d + 1) 0 75 [bk_c 11 0, bk_i a1] M Q ↔ ((a1 < (0 : Int) → Q 0 (-1 : Int) M) ∧ (¬ (a1 < (0 : Int)) → ((a1 ≤ (2 : Int) → bk_C d 0 33 [bk_c 8 0, bk_c 5 ((M 11 0 (1 : Int)).toNat)] M (fun t3 r1 M2 => t3 = 0 ∧ bk_C d 0 48 [bk_c 5 ((M2 11 0 (1 : Int)).toNat), bk_c 46 0, bk_i a1] M2 (fun t6 r4 M5 => t6 = 0 ∧ Q 0 r4 M5))) ∧ (¬ (a1 ≤ (2 : Int)) → Q 0 (-1 : Int) M)))) := bk_iff (d := d) (P := P_75) (b := 0) (l := 0) (ls := [bk_c 11 0, bk_i a1]) (st := []) (M := M) [] 40
theorem E_76 {d : Nat} {Q : bk_Q} (a1 : Int) (a2 : Int) (a3 : Int) (M : bk_M) : bk_C (d + 1) 0 76 [bk_c 11 0, bk_i a1, bk_i a2, bk_i a3] M Q ↔ bk_C d 0 77 [bk_c 11 0, bk_i a1] M (fun t3 r1 M2 => t3 = 0 ∧ ((r1 = (0 : Int) → Q 0 (-1 : Int) M2) ∧ (¬ (r1 = (0 : Int)) → bk_C d 0 47 [bk_i a2] M2 (fun t6 r4 M5 => t6 = 0 ∧ ((r4 = (0 : Int) → Q 0 (-1 : Int) M5) ∧ (¬ (r4 = (0 : Int)) → ((a3 < (0 : Int) → Q 0 (-1 : Int) M5) ∧ (¬ (a3 < (0 : Int)) → ((a3 ≤ (1 : Int) → ((a3 ≠ (1 : Int) → bk_C d 0 78 [bk_c 7 0, bk_c 5 ((M5 11 0 (1 : Int)).toNat), bk_i a1, bk_i a2, bk_i (-1 : Int)] M5 (fun t9 r7 M8 => t9 = 0 ∧ Q 0 r7 M8)) ∧ (¬ (a3 ≠ (1 : Int)) → bk_C d 0 78 [bk_c 7 0, bk_c 5 ((M5 11 0 (1 : Int)).toNat), bk_i a1, bk_i a2, bk_i (1 : Int)] M5 (fun t12 r10 M11 => t12 = 0 ∧ Q 0 r10 M11)))) ∧ (¬ (a3 ≤ (1 : Int)) → Q 0 (-1 : Int) M5)))))))))) := bk_iff (d := d) (P := P_76) (b := 0) (l := 0) (ls := [bk_c 11 0, bk_i a1, bk_i a2, bk_i a3]) (st := []) (M := M) [] 40
theorem E_77 {d : Nat} {Q : bk_Q} (a1 : Int) (M : bk_M) : bk_C (d + 1) 0 77 [bk_c 11 0, bk_i a1] M Q ↔ ((a1 < (0 : Int) → ((0 : Int) = 0 ∨ (0 : Int) = 1) ∧ Q 0 (0 : Int) M) ∧ (¬ (a1 < (0 : Int)) → ((M 5 ((M 11 0 (1 : Int)).toNat) (6 : Int) ≤ a1 → ((0 : Int) = 0 ∨ (0 : Int) = 1) ∧ Q 0 (0 : Int) M) ∧ (¬ (M 5 ((M 11 0 (1 : Int)).toNat) (6 : Int) ≤ a1) → ((1 : Int) = 0 ∨ (1 : Int) = 1) ∧ Q 0 (1 : Int) M)))) := bk_iff (d := d) (P := P_77) (b := 0) (l := 0) (ls := [bk_c 11 0, bk_i a1]) (st := []) (M := M) [] 40
theorem E_78 {d : Nat} {Q : bk_Q} (i1 : Nat) (a2 : Int) (a3 : Int) (a4 : Int) (M : bk_M) : bk_C (d + 1) 0 78 [bk_c 7 0, bk_c 5 i1, bk_i a2, bk_i a3, bk_i a4] M Q ↔ bk_C d 0 34 [bk_c 8 1, bk_c 5 i1] M (fun t3 r1 M2 => t3 = 0 ∧ ∀ M4 : bk_M, M4 = bk_up M2 7 0 (10 : Int) a2 → ∀ M5 : bk_M, M5 = bk_up M4 7 0 (11 : Int) a3 → ((a4 ≠ (-1 : Int) → ((a4 ≠ (-1 : Int) → bk_C d 0 79 [bk_c 7 0, bk_c 5 i1, bk_i a3, bk_i (36 : Int), bk_i (72 : Int)] M5 (fun t8 r6 M7 => t8 = 0 ∧ bk_wp (bk_C d) P_78 Q 0 52 [bk_c 7 0, bk_c 5 i1, bk_i a2, bk_i a3, bk_i a4, bk_i (0 : Int), bk_x] [] M7)) ∧ (¬ (a4 ≠ (-1 : Int)) → bk_C d 0 79 [bk_c 7 0, bk_c 5 i1, bk_i a3, bk_i (36 : Int), bk_i (36 : Int)] M5 (fun t11 r9 M10 => t11 = 0 ∧ bk_wp (bk_C d) P_78 Q 0 52 [bk_c 7 0, bk_c 5 i1, bk_i a2, bk_i a3, bk_i a4, bk_i (0 : Int), bk_x] [] M10)))) ∧ (¬ (a4 ≠ (-1 : Int)) → ((a4 ≠ (-1 : Int) → bk_C d 0 79 [bk_c 7 0, bk_c 5 i1, bk_i a3, bk_i (0 : Int), bk_i (72 : Int)] M5 (fun t14 r12 M13 => t14 = 0 ∧ bk_wp (bk_C d) P_78 Q 0 52 [bk_c 7 0, bk_c 5 i1, bk_i a2, bk_i a3, bk_i a4, bk_i (0 : Int), bk_x] [] M13)) ∧ (¬ (a4 ≠ (-1 : Int)) → bk_C d 0 79 [bk_c 7 0, bk_c 5 i1, bk_i a3, bk_i (0 : Int), bk_i (36 : Int)] M5 (fun t17 r15 M16 => t17 = 0 ∧ bk_wp (bk_C d) P_78 Q 0 52 [bk_c 7 0, bk_c 5 i1, bk_i a2, bk_i a3, bk_i a4, bk_i (0 : Int), bk_x] [] M16)))))) := bk_iff (d := d) (P := P_78) (b := 0) (l := 0) (ls := [bk_c 7 0, bk_c 5 i1, bk_i a2, bk_i a3, bk_i a4, bk_x, bk_x]) (st := []) (M := M) [52, 77] 40
theorem L_78_52 {d : Nat} {Q : bk_Q} (i1 : Nat) (x2 : Int) (x3 : Int) (x4 : Int) (x5 : Int) (M : bk_M) : bk_wp (bk_C d) P_78 Q 0 52 [bk_c 7 0, bk_c 5 i1, bk_i x2, bk_i x3, bk_i x4, bk_i x5, bk_x] [] M ↔ (((3 : Int) < x5 → Q 0 (-1 : Int) M) ∧ (¬ ((3 : Int) < x5) → bk_C d 0 81 [bk_c 7 0, bk_c 5 i1, bk_i (0 : Int), bk_i x5, bk_i (0 : Int)] M (fun t3 r1 M2 => t3 = 0 ∧ ((r1 = (0 : Int) → bk_r32 (x5 + (1 : Int)) ∧ bk_wp (bk_C d) P_78 Q 0 52 [bk_c 7 0, bk_c 5 i1, bk_i x2, bk_i x3, bk_i x4, bk_i (x5 + (1 : Int)), bk_x] [] M2) ∧ (¬ (r1 = (0 : Int)) → bk_wp (bk_C d) P_78 Q 0 77 [bk_c 7 0, bk_c 5 i1, bk_i x2, bk_i x3, bk_i x4, bk_i x5, bk_i (0 : Int)] [] M2))))) := bk_iff [52, 77] 40
theorem L_78_77 {d : Nat} {Q : bk_Q} (i1 : Nat) (x2 : Int) (x3 : Int) (x4 : Int) (x5 : Int) (x6 : Int) (M : bk_M) : bk_wp (bk_C d) P_78 Q 0 77 [bk_c 7 0, bk_c 5 i1, bk_i x2, bk_i x3, bk_i x4, bk_i x5, bk_i x6] [] M ↔ ((x5 ≤ x6 → ∀ M1 : bk_M, M1 = bk_up M 7 0 (1 : Int) x5 → Q 0 x5 M1) ∧ (¬ (x5 ≤ x6) → ((0 : Int) ≤ x6 ∧ x6 < (3 : Int)) ∧ ((0 : Int) ≤ M 44 0 x6 ∧ (0 : Int) < (36 : Int)) ∧ ((0 : Int) ≤ x6 ∧ x6 < (3 : Int)) ∧ ∀ M2 : bk_M, M2 = bk_up M 40 0 x6 ((M 44 0 x6) % (36 : Int)) → bk_r32 (x6 + (1 : Int)) ∧ bk_wp (bk_C d) P_78 Q 0 77 [bk_c 7 0, bk_c 5 i1, bk_i x2, bk_i x3, bk_i x4, bk_i x5, bk_i (x6 + (1 : Int))] [] M2)) := bk_iff [52, 77] 40
theorem E_79 {d : Nat} {Q : bk_Q} (i1 : Nat) (a2 : Int) (a3 : Int) (a4 : Int) (M : bk_M) : bk_C (d + 1) 0 79 [bk_c 7 0, bk_c 5 i1, bk_i a2, bk_i a3, bk_i a4] M Q ↔ ∀ M1 : bk_M, M1 = bk_up M 7 0 (8 : Int) (0 : Int) → bk_wp (bk_C d) P_79 Q 0 8 [bk_c 7 0, bk_c 5 i1, bk_i a2, bk_i a3, bk_i a4, bk_i a3] [] M1 := bk_iff (d := d) (P := P_79) (b := 0) (l := 0) (ls := [bk_c 7 0, bk_c 5 i1, bk_i a2, bk_i a3, bk_i a4, bk_x]) (st := []) (M := M) [8] 40
theorem L_79_8 {d : Nat} {Q : bk_Q} (i1 : Nat) (x2 : Int) (x3 : Int) (x4 : Int) (x5 : Int) (M : bk_M) : bk_wp (bk_C d) P_79 Q 0 8 [bk_c 7 0, bk_c 5 i1, bk_i x2, bk_i x3, bk_i x4, bk_i x5] [] M ↔ ((x4 ≤ x5 → Q 0 0 M) ∧ (¬ (x4 ≤ x5) → (((72 : Int) ≤ M 7 0 (8 : Int) → Q 0 0 M) ∧ (¬ ((72 : Int) ≤ M 7 0 (8 : Int)) → bk_C d 0 80 [bk_c 7 0, bk_c 5 i1, bk_i x2, bk_i x5] M (fun t3 r1 M2 => t3 = 0 ∧ ((r1 = (0 : Int) → bk_r32 (x5 + (1 : Int)) ∧ bk_wp (bk_C d) P_79 Q 0 8 [bk_c 7 0, bk_c 5 i1, bk_i x2, bk_i x3, bk_i x4, bk_i (x5 + (1 : Int))] [] M2) ∧ (¬ (r1 = (0 : Int)) → ((0 : Int) ≤ M2 7 0 (8 : Int) ∧ M2 7 0 (8 : Int) < (72 : Int)) ∧ ∀ M4 : bk_M, M4 = bk_up M2 43 0 (M2 7 0 (8 : Int)) x5 → bk_r32 ((M4 7 0 (8 : Int)) + (1 : Int)) ∧ ∀ M5 : bk_M, M5 = bk_up M4 7 0 (8 : Int) ((M4 7 0 (8 : Int)) + (1 : Int)) → bk_r32 (x5 + (1 : Int)) ∧ bk_wp (bk_C d) P_79 Q 0 8 [bk_c 7 0, bk_c 5 i1, bk_i x2, bk_i x3, bk_i x4, bk_i (x5 + (1 : Int))] [] M5))))))) := bk_iff [8] 40
set_option maxRecDepth 20000 in
theorem E_80 {d : Nat} {Q : bk_Q} (i1 : Nat) (a2 : Int) (a3 : Int) (M : bk_M) : bk_C (d + 1) 0 80 [bk_c 7 0, bk_c 5 i1, bk_i a2, bk_i a3] M Q ↔ ((0 : Int) ≤ a3 ∧ (0 : Int) < (36 : Int)) ∧ ((0 : Int) ≤ a3 % (36 : Int) ∧ (0 : Int) < (6 : Int)) ∧ ((0 : Int) ≤ a3 % (36 : Int) ∧ (0 : Int) < (6 : Int)) ∧ (((a3 % (36 : Int)) / (6 : Int) < (1 : Int) → ((0 : Int) = 0 ∨ (0 : Int) = 1) ∧ Q 0 (0 : Int) M) ∧ (¬ ((a3 % (36 : Int)) / (6 : Int) < (1 : Int)) → ((M 5 i1 (1 : Int) ≤ (a3 % (36 : Int)) / (6 : Int) → ((0 : Int) = 0 ∨ (0 : Int) = 1) ∧ Q 0 (0 : Int) M) ∧ (¬ (M 5 i1 (1 : Int) ≤ (a3 % (36 : Int)) / (6 : Int)) → ((M 5 i1 (0 : Int) ≤ (a3 % (36 : Int)) % (6 : Int) → ((0 : Int) = 0 ∨ (0 : Int) = 1) ∧ Q 0 (0 : Int) M) ∧ (¬ (M 5 i1 (0 : Int) ≤ (a3 % (36 : Int)) % (6 : Int)) → bk_r32 (((a3 % (36 : Int)) % (6 : Int)) - (M 5 i1 (2 : Int))) ∧ bk_r32 (-(((a3 % (36 : Int)) % (6 : Int)) - (M 5 i1 (2 : Int)))) ∧ (((if ((a3 % (36 : Int)) % (6 : Int)) - (M 5 i1 (2 : Int)) < 0 then -(((a3 % (36 : Int)) % (6 : Int)) - (M 5 i1 (2 : Int))) else ((a3 % (36 : Int)) % (6 : Int)) - (M 5 i1 (2 : Int))) ≤ (a3 % (36 : Int)) / (6 : Int) → bk_C d 0 41 [bk_c 29 i1, bk_i (a3 % (36 : Int))] M (fun t3 r1 M2 => t3 = 0 ∧ bk_r32 ((1 : Int) - a2) ∧ ((r1 ≠ (1 : Int) - a2 → (((36 : Int) ≤ a3 → ((0 : Int) ≤ a3 % (36 : Int) ∧ a3 % (36 : Int) < (36 : Int)) ∧ (((9 : Int) ≤ M2 45 1 (a3 % (36 : Int)) → ((0 : Int) = 0 ∨ (0 : Int) = 1) ∧ Q 0 (0 : Int) M2) ∧ (¬ ((9 : Int) ≤ M2 45 1 (a3 % (36 : Int))) → ((1 : Int) = 0 ∨ (1 : Int) = 1) ∧ Q 0 (1 : Int) M2))) ∧ (¬ ((36 : Int) ≤ a3) → ((0 : Int) ≤ a3 % (36 : Int) ∧ a3 % (36 : Int) < (36 : Int)) ∧ ((M2 45 1 (a3 % (36 : Int)) ≤ (0 : Int) → ((0 : Int) = 0 ∨ (0 : Int) = 1) ∧ Q 0 (0 : Int) M2) ∧ (¬ (M2 45 1 (a3 % (36 : Int)) ≤ (0 : Int)) → ((1 : Int) = 0 ∨ (1 : Int) = 1) ∧ Q 0 (1 : Int) M2))))) ∧ (¬ (r1 ≠ (1 : Int) - a2) → ((0 : Int) = 0 ∨ (0 : Int) = 1) ∧ Q 0 (0 : Int) M2)))) ∧ (¬ ((if ((a3 % (36 : Int)) % (6 : Int)) - (M 5 i1 (2 : Int)) < 0 then -(((a3 % (36 : Int)) % (6 : Int)) - (M 5 i1 (2 : Int))) else ((a3 % (36 : Int)) % (6 : Int)) - (M 5 i1 (2 : Int))) ≤ (a3 % (36 : Int)) / (6 : Int)) → ((0 : Int) = 0 ∨ (0 : Int) = 1) ∧ Q 0 (0 : Int) M)))))))) := bk_iff (d := d) (P := P_80) (b := 0) (l := 0) (ls := [bk_c 7 0, bk_c 5 i1, bk_i a2, bk_i a3, bk_x, bk_x, bk_x]) (st := []) (M := M) [] 40
theorem E_81 {d : Nat} {Q : bk_Q} (i1 : Nat) (a2 : Int) (a3 : Int) (a4 : Int) (M : bk_M) : bk_C (d + 1) 0 81 [bk_c 7 0, bk_c 5 i1, bk_i a2, bk_i a3, bk_i a4] M Q ↔ ((a3 ≤ a2 → bk_C d 0 35 [bk_c 8 1, bk_c 5 i1] M (fun t3 r1 M2 => t3 = 0 ∧ ((0 : Int) ≤ M2 7 0 (10 : Int) ∧ M2 7 0 (10 : Int) < (10 : Int)) ∧ bk_C d 0 41 [bk_c 46 1, bk_i (M2 30 i1 (M2 7 0 (10 : Int)))] M2 (fun t6 r4 M5 => t6 = 0 ∧ ((r4 ≠ M5 7 0 (11 : Int) → ((0 : Int) = 0 ∨ (0 : Int) = 1) ∧ Q 0 (0 : Int) M5) ∧ (¬ (r4 ≠ M5 7 0 (11 : Int)) → ((1 : Int) = 0 ∨ (1 : Int) = 1) ∧ Q 0 (1 : Int) M5))))) ∧ (¬ (a3 ≤ a2) → ((a2 < (3 : Int) → bk_wp (bk_C d) P_81 Q 0 58 [bk_c 7 0, bk_c 5 i1, bk_i a2, bk_i a3, bk_i a4, bk_i a4, bk_x] [] M) ∧ (¬ (a2 < (3 : Int)) → bk_C d 0 35 [bk_c 8 1, bk_c 5 i1] M (fun t9 r7 M8 => t9 = 0 ∧ ((0 : Int) ≤ M8 7 0 (10 : Int) ∧ M8 7 0 (10 : Int) < (10 : Int)) ∧ bk_C d 0 41 [bk_c 46 1, bk_i (M8 30 i1 (M8 7 0 (10 : Int)))] M8 (fun t12 r10 M11 => t12 = 0 ∧ ((r10 ≠ M11 7 0 (11 : Int) → ((0 : Int) = 0 ∨ (0 : Int) = 1) ∧ Q 0 (0 : Int) M11) ∧ (¬ (r10 ≠ M11 7 0 (11 : Int)) → ((1 : Int) = 0 ∨ (1 : Int) = 1) ∧ Q 0 (1 : Int) M11)))))))) := bk_iff (d := d) (P := P_81) (b := 0) (l := 0) (ls := [bk_c 7 0, bk_c 5 i1, bk_i a2, bk_i a3, bk_i a4, bk_x, bk_x]) (st := []) (M := M) [58] 40
theorem L_81_58 {d : Nat} {Q : bk_Q} (i1 : Nat) (x2 : Int) (x3 : Int) (x4 : Int) (x5 : Int) (M : bk_M) : bk_wp (bk_C d) P_81 Q 0 58 [bk_c 7 0, bk_c 5 i1, bk_i x2, bk_i x3, bk_i x4, bk_i x5, bk_x] [] M ↔ ((M 7 0 (8 : Int) ≤ x5 → ((0 : Int) = 0 ∨ (0 : Int) = 1) ∧ Q 0 (0 : Int) M) ∧ (¬ (M 7 0 (8 : Int) ≤ x5) → ((0 : Int) ≤ x5 ∧ x5 < (72 : Int)) ∧ ((0 : Int) ≤ x2 ∧ x2 < (3 : Int)) ∧ ∀ M1 : bk_M, M1 = bk_up M 44 0 x2 (M 43 0 x5) → ((0 : Int) ≤ x5 ∧ x5 < (72 : Int)) ∧ bk_C d 0 82 [bk_c 7 0, bk_i (M1 43 0 x5)] M1 (fun t4 r2 M3 => t4 = 0 ∧ bk_r32 (x2 + (1 : Int)) ∧ bk_r32 (x5 + (1 : Int)) ∧ bk_C d 0 81 [bk_c 7 0, bk_c 5 i1, bk_i (x2 + (1 : Int)), bk_i x3, bk_i (x5 + (1 : Int))] M3 (fun t7 r5 M6 => t7 = 0 ∧ ((0 : Int) ≤ x5 ∧ x5 < (72 : Int)) ∧ bk_C d 0 83 [bk_c 7 0, bk_i (M6 43 0 x5)] M6 (fun t10 r8 M9 => t10 = 0 ∧ ((r5 = (0 : Int) → bk_r32 (x5 + (1 : Int)) ∧ bk_wp (bk_C d) P_81 Q 0 58 [bk_c 7 0, bk_c 5 i1, bk_i x2, bk_i x3, bk_i x4, bk_i (x5 + (1 : Int)), bk_i r5] [] M9) ∧ (¬ (r5 = (0 : Int)) → ((1 : Int) = 0 ∨ (1 : Int) = 1) ∧ Q 0 (1 : Int) M9))))))) := bk_iff [58] 40
theorem E_82 {d : Nat} {Q : bk_Q} (a1 : Int) (M : bk_M) : bk_C (d + 1) 0 82 [bk_c 7 0, bk_i a1] M Q ↔ ((0 : Int) ≤ a1 ∧ (0 : Int) < (36 : Int)) ∧ ((0 : Int) ≤ a1 % (36 : Int) ∧ a1 % (36 : Int) < (36 : Int)) ∧ (((36 : Int) ≤ a1 → bk_r32 ((M 45 1 (a1 % (36 : Int))) + (1 : Int)) ∧ ((0 : Int) ≤ a1 % (36 : Int) ∧ a1 % (36 : Int) < (36 : Int)) ∧ ∀ M1 : bk_M, M1 = bk_up M 45 1 (a1 % (36 : Int)) ((M 45 1 (a1 % (36 : Int))) + (1 : Int)) → Q 0 0 M1) ∧ (¬ ((36 : Int) ≤ a1) → bk_r32 ((M 45 1 (a1 % (36 : Int))) + (-1 : Int)) ∧ ((0 : Int) ≤ a1 % (36 : Int) ∧ a1 % (36 : Int) < (36 : Int)) ∧ ∀ M2 : bk_M, M2 = bk_up M 45 1 (a1 % (36 : Int)) ((M 45 1 (a1 % (36 : Int))) + (-1 : Int)) → Q 0 0 M2)) := bk_iff (d := d) (P := P_82) (b := 0) (l := 0) (ls := [bk_c 7 0, bk_i a1]) (st := []) (M := M) [] 40
theorem E_83 {d : Nat} {Q : bk_Q} (a1 : Int) (M : bk_M) : bk_C (d + 1) 0 83 [bk_c 7 0, bk_i a1] M Q ↔ ((0 : Int) ≤ a1 ∧ (0 : Int) < (36 : Int)) ∧ ((0 : Int) ≤ a1 % (36 : Int) ∧ a1 % (36 : Int) < (36 : Int)) ∧ (((36 : Int) ≤ a1 → bk_r32 ((M 45 1 (a1 % (36 : Int))) - (1 : Int)) ∧ ((0 : Int) ≤ a1 % (36 : Int) ∧ a1 % (36 : Int) < (36 : Int)) ∧ ∀ M1 : bk_M, M1 = bk_up M 45 1 (a1 % (36 : Int)) ((M 45 1 (a1 % (36 : Int))) - (1 : Int)) → Q 0 0 M1) ∧ (¬ ((36 : Int) ≤ a1) → bk_r32 ((M 45 1 (a1 % (36 : Int))) - (-1 : Int)) ∧ ((0 : Int) ≤ a1 % (36 : Int) ∧ a1 % (36 : Int) < (36 : Int)) ∧ ∀ M2 : bk_M, M2 = bk_up M 45 1 (a1 % (36 : Int)) ((M 45 1 (a1 % (36 : Int))) - (-1 : Int)) → Q 0 0 M2)) := bk_iff (d := d) (P := P_83) (b := 0) (l := 0) (ls := [bk_c 7 0, bk_i a1]) (st := []) (M := M) [] 40
theorem E_84 {d : Nat} {Q : bk_Q} (a1 : Int) (M : bk_M) : bk_C (d + 1) 0 84 [bk_c 11 0, bk_i a1] M Q ↔ ((a1 < (0 : Int) → Q 0 (-1 : Int) M) ∧ (¬ (a1 < (0 : Int)) → ((M 7 0 (1 : Int) ≤ a1 → Q 0 (-1 : Int) M) ∧ (¬ (M 7 0 (1 : Int) ≤ a1) → ((0 : Int) ≤ a1 ∧ a1 < (3 : Int)) ∧ Q 0 (M 40 0 a1) M)))) := bk_iff (d := d) (P := P_84) (b := 0) (l := 0) (ls := [bk_c 11 0, bk_i a1]) (st := []) (M := M) [] 40
theorem E_85 {d : Nat} {Q : bk_Q} (a1 : Int) (M : bk_M) : bk_C (d + 1) 0 85 [bk_c 11 0, bk_i a1] M Q ↔ ((M 7 0 (3 : Int) = (0 : Int) → Q 0 (-1 : Int) M) ∧ (¬ (M 7 0 (3 : Int) = (0 : Int)) → ((a1 < (0 : Int) → Q 0 (-1 : Int) M) ∧ (¬ (a1 < (0 : Int)) → (((2 : Int) ≤ a1 → Q 0 (-1 : Int) M) ∧ (¬ ((2 : Int) ≤ a1) → ((0 : Int) ≤ a1 ∧ a1 < (2 : Int)) ∧ Q 0 (M 41 0 a1) M)))))) := bk_iff (d := d) (P := P_85) (b := 0) (l := 0) (ls := [bk_c 11 0, bk_i a1]) (st := []) (M := M) [] 40
theorem E_86 {d : Nat} {Q : bk_Q} (a1 : Int) (a2 : Int) (M : bk_M) : bk_C (d + 1) 0 86 [bk_c 11 0, bk_i a1, bk_i a2] M Q ↔ bk_C d 0 47 [bk_i a1] M (fun t3 r1 M2 => t3 = 0 ∧ ((r1 = (0 : Int) → Q 0 (-1 : Int) M2) ∧ (¬ (r1 = (0 : Int)) → ((a2 < (0 : Int) → Q 0 (-1 : Int) M2) ∧ (¬ (a2 < (0 : Int)) → ((a2 ≤ (2 : Int) → bk_C d 0 87 [bk_c 7 0, bk_c 5 ((M2 11 0 (1 : Int)).toNat), bk_i a1, bk_i a2] M2 (fun t6 r4 M5 => t6 = 0 ∧ Q 0 r4 M5)) ∧ (¬ (a2 ≤ (2 : Int)) → Q 0 (-1 : Int) M2))))))) := bk_iff (d := d) (P := P_86) (b := 0) (l := 0) (ls := [bk_c 11 0, bk_i a1, bk_i a2]) (st := []) (M := M) [] 40
theorem E_87 {d : Nat} {Q : bk_Q} (i1 : Nat) (a2 : Int) (a3 : Int) (M : bk_M) : bk_C (d + 1) 0 87 [bk_c 7 0, bk_c 5 i1, bk_i a2, bk_i a3] M Q ↔ bk_C d 0 34 [bk_c 8 1, bk_c 5 i1] M (fun t3 r1 M2 => t3 = 0 ∧ bk_C d 0 79 [bk_c 7 0, bk_c 5 i1, bk_i a2, bk_i (0 : Int), bk_i (72 : Int)] M2 (fun t6 r4 M5 => t6 = 0 ∧ ∀ M7 : bk_M, M7 = bk_up M5 7 0 (5 : Int) (0 : Int) → bk_C d 0 35 [bk_c 8 1, bk_c 5 i1] M7 (fun t10 r8 M9 => t10 = 0 ∧ bk_C d 0 49 [bk_c 5 i1, bk_c 46 1, bk_i a2] M9 (fun t13 r11 M12 => t13 = 0 ∧ ∀ M14 : bk_M, M14 = bk_up M12 7 0 (13 : Int) r11 → bk_wp (bk_C d) P_87 Q 0 49 [bk_c 7 0, bk_c 5 i1, bk_i a2, bk_i a3, bk_i (0 : Int), bk_x] [] M14)))) := bk_iff (d := d) (P := P_87) (b := 0) (l := 0) (ls := [bk_c 7 0, bk_c 5 i1, bk_i a2, bk_i a3, bk_x, bk_x]) (st := []) (M := M) [49, 109, 140] 40
theorem L_87_49 {d : Nat} {Q : bk_Q} (i1 : Nat) (x2 : Int) (x3 : Int) (x4 : Int) (M : bk_M) : bk_wp (bk_C d) P_87 Q 0 49 [bk_c 7 0, bk_c 5 i1, bk_i x2, bk_i x3, bk_i x4, bk_x] [] M ↔ ((M 7 0 (8 : Int) ≤ x4 → bk_wp (bk_C d) P_87 Q 0 109 [bk_c 7 0, bk_c 5 i1, bk_i x2, bk_i x3, bk_i (0 : Int), bk_x] [] M) ∧ (¬ (M 7 0 (8 : Int) ≤ x4) → ((x3 < (1 : Int) → bk_wp (bk_C d) P_87 Q 0 109 [bk_c 7 0, bk_c 5 i1, bk_i x2, bk_i x3, bk_i (0 : Int), bk_x] [] M) ∧ (¬ (x3 < (1 : Int)) → ((0 : Int) ≤ x4 ∧ x4 < (72 : Int)) ∧ bk_C d 0 82 [bk_c 7 0, bk_i (M 43 0 x4)] M (fun t3 r1 M2 => t3 = 0 ∧ ((0 : Int) ≤ x4 ∧ x4 < (72 : Int)) ∧ bk_C d 0 88 [bk_c 7 0, bk_c 5 i1, bk_i x2, bk_i (M2 43 0 x4), bk_i (-2 : Int)] M2 (fun t6 r4 M5 => t6 = 0 ∧ ((0 : Int) ≤ x4 ∧ x4 < (72 : Int)) ∧ bk_C d 0 83 [bk_c 7 0, bk_i (M5 43 0 x4)] M5 (fun t9 r7 M8 => t9 = 0 ∧ bk_r32 (x4 + (1 : Int)) ∧ bk_wp (bk_C d) P_87 Q 0 49 [bk_c 7 0, bk_c 5 i1, bk_i x2, bk_i x3, bk_i (x4 + (1 : Int)), bk_x] [] M8))))))) := bk_iff [49, 109, 140] 40
theorem L_87_109 {d : Nat} {Q : bk_Q} (i1 : Nat) (x2 : Int) (x3 : Int) (x4 : Int) (M : bk_M) : bk_wp (bk_C d) P_87 Q 0 109 [bk_c 7 0, bk_c 5 i1, bk_i x2, bk_i x3, bk_i x4, bk_x] [] M ↔ ((M 7 0 (8 : Int) ≤ x4 → Q 0 (M 7 0 (13 : Int)) M) ∧ (¬ (M 7 0 (8 : Int) ≤ x4) → ((x3 < (2 : Int) → Q 0 (M 7 0 (13 : Int)) M) ∧ (¬ (x3 < (2 : Int)) → ((0 : Int) ≤ x4 ∧ x4 < (72 : Int)) ∧ bk_C d 0 82 [bk_c 7 0, bk_i (M 43 0 x4)] M (fun t3 r1 M2 => t3 = 0 ∧ bk_r32 (x4 + (1 : Int)) ∧ bk_wp (bk_C d) P_87 Q 0 140 [bk_c 7 0, bk_c 5 i1, bk_i x2, bk_i x3, bk_i x4, bk_i (x4 + (1 : Int))] [] M2))))) := bk_iff [49, 109, 140] 40
theorem L_87_140 {d : Nat} {Q : bk_Q} (i1 : Nat) (x2 : Int) (x3 : Int) (x4 : Int) (x5 : Int) (M : bk_M) : bk_wp (bk_C d) P_87 Q 0 140 [bk_c 7 0, bk_c 5 i1, bk_i x2, bk_i x3, bk_i x4, bk_i x5] [] M ↔ ((M 7 0 (8 : Int) ≤ x5 → ((0 : Int) ≤ x4 ∧ x4 < (72 : Int)) ∧ bk_C d 0 83 [bk_c 7 0, bk_i (M 43 0 x4)] M (fun t3 r1 M2 => t3 = 0 ∧ bk_r32 (x4 + (1 : Int)) ∧ bk_wp (bk_C d) P_87 Q 0 109 [bk_c 7 0, bk_c 5 i1, bk_i x2, bk_i x3, bk_i (x4 + (1 : Int)), bk_i x5] [] M2)) ∧ (¬ (M 7 0 (8 : Int) ≤ x5) → ((0 : Int) ≤ x5 ∧ x5 < (72 : Int)) ∧ ((0 : Int) ≤ x4 ∧ x4 < (72 : Int)) ∧ bk_r32 ((M 43 0 x4) + (36 : Int)) ∧ ((M 43 0 x5 = (M 43 0 x4) + (36 : Int) → bk_r32 (x5 + (1 : Int)) ∧ bk_wp (bk_C d) P_87 Q 0 140 [bk_c 7 0, bk_c 5 i1, bk_i x2, bk_i x3, bk_i x4, bk_i (x5 + (1 : Int))] [] M) ∧ (¬ (M 43 0 x5 = (M 43 0 x4) + (36 : Int)) → ((0 : Int) ≤ x5 ∧ x5 < (72 : Int)) ∧ bk_C d 0 82 [bk_c 7 0, bk_i (M 43 0 x5)] M (fun t6 r4 M5 => t6 = 0 ∧ ((0 : Int) ≤ x4 ∧ x4 < (72 : Int)) ∧ ((0 : Int) ≤ x5 ∧ x5 < (72 : Int)) ∧ bk_C d 0 88 [bk_c 7 0, bk_c 5 i1, bk_i x2, bk_i (M5 43 0 x4), bk_i (M5 43 0 x5)] M5 (fun t9 r7 M8 => t9 = 0 ∧ ((0 : Int) ≤ x5 ∧ x5 < (72 : Int)) ∧ bk_C d 0 83 [bk_c 7 0, bk_i (M8 43 0 x5)] M8 (fun t12 r10 M11 => t12 = 0 ∧ bk_r32 (x5 + (1 : Int)) ∧ bk_wp (bk_C d) P_87 Q 0 140 [bk_c 7 0, bk_c 5 i1, bk_i x2, bk_i x3, bk_i x4, bk_i (x5 + (1 : Int))] [] M11))))))) := bk_iff [49, 109, 140] 40
theorem E_88 {d : Nat} {Q : bk_Q} (i1 : Nat) (a2 : Int) (a3 : Int) (a4 : Int) (M : bk_M) : bk_C (d + 1) 0 88 [bk_c 7 0, bk_c 5 i1, bk_i a2, bk_i a3, bk_i a4] M Q ↔ bk_C d 0 35 [bk_c 8 1, bk_c 5 i1] M (fun t3 r1 M2 => t3 = 0 ∧ bk_C d 0 49 [bk_c 5 i1, bk_c 46 1, bk_i a2] M2 (fun t6 r4 M5 => t6 = 0 ∧ ((r4 ≤ M5 7 0 (13 : Int) → Q 0 0 M5) ∧ (¬ (r4 ≤ M5 7 0 (13 : Int)) → ∀ M7 : bk_M, M7 = bk_up M5 7 0 (13 : Int) r4 → ((0 : Int) ≤ (0 : Int) ∧ (0 : Int) < (2 : Int)) ∧ ∀ M8 : bk_M, M8 = bk_up M7 42 0 (0 : Int) a3 → ((0 : Int) ≤ (1 : Int) ∧ (1 : Int) < (2 : Int)) ∧ ∀ M9 : bk_M, M9 = bk_up M8 42 0 (1 : Int) a4 → ((a4 ≠ (-2 : Int) → ∀ M10 : bk_M, M10 = bk_up M9 7 0 (5 : Int) (2 : Int) → Q 0 0 M10) ∧ (¬ (a4 ≠ (-2 : Int)) → ∀ M11 : bk_M, M11 = bk_up M9 7 0 (5 : Int) (1 : Int) → Q 0 0 M11)))))) := bk_iff (d := d) (P := P_88) (b := 0) (l := 0) (ls := [bk_c 7 0, bk_c 5 i1, bk_i a2, bk_i a3, bk_i a4, bk_x]) (st := []) (M := M) [] 40
theorem E_89 {d : Nat} {Q : bk_Q} (a1 : Int) (M : bk_M) : bk_C (d + 1) 0 89 [bk_c 11 0, bk_i a1] M Q ↔ ((a1 < (0 : Int) → Q 0 (-1 : Int) M) ∧ (¬ (a1 < (0 : Int)) → ((M 7 0 (5 : Int) ≤ a1 → Q 0 (-1 : Int) M) ∧ (¬ (M 7 0 (5 : Int) ≤ a1) → ((0 : Int) ≤ a1 ∧ a1 < (2 : Int)) ∧ Q 0 (M 42 0 a1) M)))) := bk_iff (d := d) (P := P_89) (b := 0) (l := 0) (ls := [bk_c 11 0, bk_i a1]) (st := []) (M := M) [] 40
theorem E_90 {d : Nat} {Q : bk_Q} (a1 : Int) (a2 : Int) (M : bk_M) : bk_C (d + 1) 0 90 [bk_c 11 0, bk_i a1, bk_i a2] M Q ↔ ((a1 < (1 : Int) → Q 0 (-1 : Int) M) ∧ (¬ (a1 < (1 : Int)) → (((8 : Int) < a1 → Q 0 (-1 : Int) M) ∧ (¬ ((8 : Int) < a1) → ((M 5 ((M 11 0 (1 : Int)).toNat) (17 : Int) < a1 → Q 0 (-1 : Int) M) ∧ (¬ (M 5 ((M 11 0 (1 : Int)).toNat) (17 : Int) < a1) → bk_C d 0 45 [bk_c 11 0, bk_i a2] M (fun t3 r1 M2 => t3 = 0 ∧ ((r1 ≠ (0 : Int) → bk_r32 ((M2 5 ((M2 11 0 (1 : Int)).toNat) (17 : Int)) - a1) ∧ ((0 : Int) ≤ (M2 5 ((M2 11 0 (1 : Int)).toNat) (17 : Int)) - a1 ∧ (0 : Int) < (8 : Int)) ∧ bk_r32 ((((M2 5 ((M2 11 0 (1 : Int)).toNat) (17 : Int)) - a1) % (8 : Int)) * (6 : Int)) ∧ bk_r32 (((((M2 5 ((M2 11 0 (1 : Int)).toNat) (17 : Int)) - a1) % (8 : Int)) * (6 : Int)) + a2) ∧ ((0 : Int) ≤ ((((M2 5 ((M2 11 0 (1 : Int)).toNat) (17 : Int)) - a1) % (8 : Int)) * (6 : Int)) + a2 ∧ ((((M2 5 ((M2 11 0 (1 : Int)).toNat) (17 : Int)) - a1) % (8 : Int)) * (6 : Int)) + a2 < (48 : Int)) ∧ Q 0 (M2 39 ((M2 11 0 (1 : Int)).toNat) (((((M2 5 ((M2 11 0 (1 : Int)).toNat) (17 : Int)) - a1) % (8 : Int)) * (6 : Int)) + a2)) M2) ∧ (¬ (r1 ≠ (0 : Int)) → Q 0 (-1 : Int) M2))))))))) := bk_iff (d := d) (P := P_90) (b := 0) (l := 0) (ls := [bk_c 11 0, bk_i a1, bk_i a2]) (st := []) (M := M) [] 40
theorem E_91 {d : Nat} {Q : bk_Q} (a1 : Int) (a2 : Int) (a3 : Int) (a4 : Int) (M : bk_M) : bk_C (d + 1) 0 91 [bk_c 11 0, bk_i a1, bk_i a2, bk_i a3, bk_i a4] M Q ↔ bk_C d 0 47 [bk_i a1] M (fun t3 r1 M2 => t3 = 0 ∧ ((r1 = (0 : Int) → Q 0 (-1 : Int) M2) ∧ (¬ (r1 = (0 : Int)) → bk_C d 0 92 [bk_i a2, bk_i a3] M2 (fun t6 r4 M5 => t6 = 0 ∧ ((r4 ≠ (0 : Int) → bk_wp (bk_C d) P_91 Q 0 23 [bk_c 11 0, bk_i a1, bk_i a2, bk_i a3, bk_i a4, bk_i (0 : Int), bk_i (0 : Int), bk_x] [] M5) ∧ (¬ (r4 ≠ (0 : Int)) → Q 0 (-1 : Int) M5)))))) := bk_iff (d := d) (P := P_91) (b := 0) (l := 0) (ls := [bk_c 11 0, bk_i a1, bk_i a2, bk_i a3, bk_i a4, bk_x, bk_x, bk_x]) (st := []) (M := M) [23, 55] 40
theorem L_91_23 {d : Nat} {Q : bk_Q} (x1 : Int) (x2 : Int) (x3 : Int) (x4 : Int) (x5 : Int) (x6 : Int) (M : bk_M) : bk_wp (bk_C d) P_91 Q 0 23 [bk_c 11 0, bk_i x1, bk_i x2, bk_i x3, bk_i x4, bk_i x5, bk_i x6, bk_x] [] M ↔ ((x3 ≤ x6 → Q 0 x5 M) ∧ (¬ (x3 ≤ x6) → bk_C d 0 58 [bk_c 5 2, bk_c 5 ((M 11 0 (1 : Int)).toNat)] M (fun t3 r1 M2 => t3 = 0 ∧ ∀ M4 : bk_M, M4 = bk_up M2 8 0 (3 : Int) (bk_w32 (x4 + x6)) → bk_wp (bk_C d) P_91 Q 0 55 [bk_c 11 0, bk_i x1, bk_i x2, bk_i x3, bk_i x4, bk_i x5, bk_i x6, bk_i (0 : Int)] [] M4))) := bk_iff [23, 55] 40
theorem L_91_55 {d : Nat} {Q : bk_Q} (x1 : Int) (x2 : Int) (x3 : Int) (x4 : Int) (x5 : Int) (x6 : Int) (x7 : Int) (M : bk_M) : bk_wp (bk_C d) P_91 Q 0 55 [bk_c 11 0, bk_i x1, bk_i x2, bk_i x3, bk_i x4, bk_i x5, bk_i x6, bk_i x7] [] M ↔ ((x2 ≤ x7 → bk_r32 (x6 + (1 : Int)) ∧ bk_wp (bk_C d) P_91 Q 0 23 [bk_c 11 0, bk_i x1, bk_i x2, bk_i x3, bk_i x4, bk_i x5, bk_i (x6 + (1 : Int)), bk_i x7] [] M) ∧ (¬ (x2 ≤ x7) → bk_C d 0 70 [bk_c 8 0, bk_c 5 2, bk_i (1 : Int)] M (fun t3 r1 M2 => t3 = 0 ∧ ((r1 ≠ (1 : Int) → bk_r32 (x6 + (1 : Int)) ∧ bk_wp (bk_C d) P_91 Q 0 23 [bk_c 11 0, bk_i x1, bk_i x2, bk_i x3, bk_i x4, bk_i x5, bk_i (x6 + (1 : Int)), bk_i x7] [] M2) ∧ (¬ (r1 ≠ (1 : Int)) → bk_C d 0 49 [bk_c 5 2, bk_c 29 2, bk_i x1] M2 (fun t6 r4 M5 => t6 = 0 ∧ bk_r32 (x7 + (1 : Int)) ∧ bk_wp (bk_C d) P_91 Q 0 55 [bk_c 11 0, bk_i x1, bk_i x2, bk_i x3, bk_i x4, bk_i (bk_w32 (x5 + r4)), bk_i x6, bk_i (x7 + (1 : Int))] [] M5)))))) := bk_iff [23, 55] 40
theorem E_92 {d : Nat} {Q : bk_Q} (a0 : Int) (a1 : Int) (M : bk_M) : bk_C (d + 1) 0 92 [bk_i a0, bk_i a1] M Q ↔ ((a0 < (1 : Int) → ((0 : Int) = 0 ∨ (0 : Int) = 1) ∧ Q 0 (0 : Int) M) ∧ (¬ (a0 < (1 : Int)) → (((10 : Int) < a0 → ((0 : Int) = 0 ∨ (0 : Int) = 1) ∧ Q 0 (0 : Int) M) ∧ (¬ ((10 : Int) < a0) → ((a1 < (1 : Int) → ((0 : Int) = 0 ∨ (0 : Int) = 1) ∧ Q 0 (0 : Int) M) ∧ (¬ (a1 < (1 : Int)) → (((30 : Int) < a1 → ((0 : Int) = 0 ∨ (0 : Int) = 1) ∧ Q 0 (0 : Int) M) ∧ (¬ ((30 : Int) < a1) → ((1 : Int) = 0 ∨ (1 : Int) = 1) ∧ Q 0 (1 : Int) M)))))))) := bk_iff (d := d) (P := P_92) (b := 0) (l := 0) (ls := [bk_i a0, bk_i a1]) (st := []) (M := M) [] 40
theorem E_93 {d : Nat} {Q : bk_Q} (M : bk_M) : bk_C (d + 1) 0 93 [bk_c 11 0] M Q ↔ bk_C d 0 94 [bk_c 1 0, bk_c 10 0, bk_c 5 ((M 11 0 (1 : Int)).toNat)] M (fun t3 r1 M2 => t3 = 0 ∧ ∀ M4 : bk_M, M4 = bk_up M2 10 0 (1 : Int) (0 : Int) → Q 0 r1 M4) := bk_iff (d := d) (P := P_93) (b := 0) (l := 0) (ls := [bk_c 11 0, bk_x]) (st := []) (M := M) [] 40
theorem E_94 {d : Nat} {Q : bk_Q} (i2 : Nat) (M : bk_M) : bk_C (d + 1) 0 94 [bk_c 1 0, bk_c 10 0, bk_c 5 i2] M Q ↔ bk_C d 0 95 [bk_c 1 0, bk_c 10 0, bk_c 5 i2] M (fun t3 r1 M2 => t3 = 0 ∧ ((r1 ≠ (0 : Int) → bk_C d 0 96 [bk_c 1 0, bk_c 5 i2] M2 (fun t6 r4 M5 => t6 = 0 ∧ ((r4 ≤ (0 : Int) → Q 0 r4 M5) ∧ (¬ (r4 ≤ (0 : Int)) → ∀ M7 : bk_M, M7 = bk_up M5 1 0 (2 : Int) (M5 5 i2 (1 : Int)) → bk_C d 0 98 [bk_c 1 0, bk_c 5 i2] M7 (fun t10 r8 M9 => t10 = 0 ∧ bk_C d 0 99 [bk_c 1 0, bk_c 5 i2] M9 (fun t13 r11 M12 => t13 = 0 ∧ Q 0 r4 M12)))))) ∧ (¬ (r1 ≠ (0 : Int)) → Q 0 (-1 : Int) M2))) := bk_iff (d := d) (P := P_94) (b := 0) (l := 0) (ls := [bk_c 1 0, bk_c 10 0, bk_c 5 i2, bk_x]) (st := []) (M := M) [] 40
theorem E_95 {d : Nat} {Q : bk_Q} (i2 : Nat) (M : bk_M) : bk_C (d + 1) 0 95 [bk_c 1 0, bk_c 10 0, bk_c 5 i2] M Q ↔ ((M 10 0 (1 : Int) < (2 : Int) → ((0 : Int) = 0 ∨ (0 : Int) = 1) ∧ Q 0 (0 : Int) M) ∧ (¬ (M 10 0 (1 : Int) < (2 : Int)) → (((20 : Int) < M 10 0 (1 : Int) → ((0 : Int) = 0 ∨ (0 : Int) = 1) ∧ Q 0 (0 : Int) M) ∧ (¬ ((20 : Int) < M 10 0 (1 : Int)) → ((0 : Int) ≤ M 10 0 (1 : Int) ∧ (0 : Int) < (2 : Int)) ∧ (((M 10 0 (1 : Int)) % (2 : Int) = (0 : Int) → bk_wp (bk_C d) P_95 Q 0 30 [bk_c 1 0, bk_c 10 0, bk_c 5 i2, bk_i (0 : Int), bk_x, bk_x, bk_x, bk_x] [] M) ∧ (¬ ((M 10 0 (1 : Int)) % (2 : Int) = (0 : Int)) → ((0 : Int) = 0 ∨ (0 : Int) = 1) ∧ Q 0 (0 : Int) M)))))) := bk_iff (d := d) (P := P_95) (b := 0) (l := 0) (ls := [bk_c 1 0, bk_c 10 0, bk_c 5 i2, bk_x, bk_x, bk_x, bk_x, bk_x]) (st := []) (M := M) [30, 63, 106, 165] 40
theorem L_95_30 {d : Nat} {Q : bk_Q} (i2 : Nat) (x3 : Int) (M : bk_M) : bk_wp (bk_C d) P_95 Q 0 30 [bk_c 1 0, bk_c 10 0, bk_c 5 i2, bk_i x3, bk_x, bk_x, bk_x, bk_x] [] M ↔ (((6 : Int) ≤ x3 → bk_wp (bk_C d) P_95 Q 0 63 [bk_c 1 0, bk_c 10 0, bk_c 5 i2, bk_i (0 : Int), bk_x, bk_x, bk_x, bk_x] [] M) ∧ (¬ ((6 : Int) ≤ x3) → ((0 : Int) ≤ x3 ∧ x3 < (6 : Int)) ∧ ∀ M1 : bk_M, M1 = bk_up M 22 0 x3 (0 : Int) → bk_r32 ((M1 5 i2 (0 : Int)) - (1 : Int)) ∧ ((0 : Int) ≤ x3 ∧ x3 < (6 : Int)) ∧ ∀ M2 : bk_M, M2 = bk_up M1 23 0 x3 ((M1 5 i2 (0 : Int)) - (1 : Int)) → bk_r32 (x3 + (1 : Int)) ∧ bk_wp (bk_C d) P_95 Q 0 30 [bk_c 1 0, bk_c 10 0, bk_c 5 i2, bk_i (x3 + (1 : Int)), bk_x, bk_x, bk_x, bk_x] [] M2)) := bk_iff [30, 63, 106, 165] 40
set_option maxRecDepth 20000 in
theorem L_95_63 {d : Nat} {Q : bk_Q} (i2 : Nat) (x3 : Int) (M : bk_M) : bk_wp (bk_C d) P_95 Q 0 63 [bk_c 1 0, bk_c 10 0, bk_c 5 i2, bk_i x3, bk_x, bk_x, bk_x, bk_x] [] M ↔ bk_r32 (x3 + (1 : Int)) ∧ ((M 10 0 (1 : Int) ≤ x3 + (1 : Int) → ((1 : Int) = 0 ∨ (1 : Int) = 1) ∧ Q 0 (1 : Int) M) ∧ (¬ (M 10 0 (1 : Int) ≤ x3 + (1 : Int)) → ((0 : Int) ≤ x3 ∧ x3 < (940 : Int)) ∧ bk_r32 (x3 + (1 : Int)) ∧ ((0 : Int) ≤ x3 + (1 : Int) ∧ x3 + (1 : Int) < (940 : Int)) ∧ ((M 5 i2 (6 : Int) ≤ M 53 0 x3 → bk_wp (bk_C d) P_95 Q 0 106 [bk_c 1 0, bk_c 10 0, bk_c 5 i2, bk_i x3, bk_i (M 53 0 x3), bk_i (M 53 0 (x3 + (1 : Int))), bk_x, bk_x] [] M) ∧ (¬ (M 5 i2 (6 : Int) ≤ M 53 0 x3) → ((M 53 0 (x3 + (1 : Int)) ≤ (2 : Int) → ((0 : Int) ≤ M 53 0 x3 ∧ M 53 0 x3 < (10 : Int)) ∧ ((0 : Int) ≤ M 30 i2 (M 53 0 x3) ∧ (0 : Int) < (6 : Int)) ∧ ((0 : Int) ≤ M 53 0 x3 ∧ M 53 0 x3 < (10 : Int)) ∧ ((0 : Int) ≤ M 30 i2 (M 53 0 x3) ∧ (0 : Int) < (6 : Int)) ∧ ((M 53 0 (x3 + (1 : Int)) = (1 : Int) → ((M 53 0 (x3 + (1 : Int)) = (0 : Int) → bk_r32 (x3 + (2 : Int)) ∧ bk_wp (bk_C d) P_95 Q 0 63 [bk_c 1 0, bk_c 10 0, bk_c 5 i2, bk_i (x3 + (2 : Int)), bk_i (M 53 0 x3), bk_i (M 53 0 (x3 + (1 : Int))), bk_i ((M 30 i2 (M 53 0 x3)) % (6 : Int)), bk_i ((M 30 i2 (M 53 0 x3)) / (6 : Int))] [] M) ∧ (¬ (M 53 0 (x3 + (1 : Int)) = (0 : Int)) → ((0 : Int) ≤ (M 30 i2 (M 53 0 x3)) / (6 : Int) ∧ (M 30 i2 (M 53 0 x3)) / (6 : Int) < (6 : Int)) ∧ ((M 53 0 (x3 + (1 : Int)) ≠ (1 : Int) → ((0 : Int) ≤ (M 30 i2 (M 53 0 x3)) / (6 : Int) ∧ (M 30 i2 (M 53 0 x3)) / (6 : Int) < (6 : Int)) ∧ ∀ M1 : bk_M, M1 = bk_up M 23 0 ((M 30 i2 (M 53 0 x3)) / (6 : Int)) (if M 23 0 ((M 30 i2 (M 53 0 x3)) / (6 : Int)) ≤ (M 30 i2 (M 53 0 x3)) % (6 : Int) then M 23 0 ((M 30 i2 (M 53 0 x3)) / (6 : Int)) else (M 30 i2 (M 53 0 x3)) % (6 : Int)) → bk_r32 (x3 + (2 : Int)) ∧ bk_wp (bk_C d) P_95 Q 0 63 [bk_c 1 0, bk_c 10 0, bk_c 5 i2, bk_i (x3 + (2 : Int)), bk_i (M 53 0 x3), bk_i (M 53 0 (x3 + (1 : Int))), bk_i ((M 30 i2 (M 53 0 x3)) % (6 : Int)), bk_i ((M 30 i2 (M 53 0 x3)) / (6 : Int))] [] M1) ∧ (¬ (M 53 0 (x3 + (1 : Int)) ≠ (1 : Int)) → bk_r32 (((M 30 i2 (M 53 0 x3)) % (6 : Int)) - (1 : Int)) ∧ ((0 : Int) ≤ (M 30 i2 (M 53 0 x3)) / (6 : Int) ∧ (M 30 i2 (M 53 0 x3)) / (6 : Int) < (6 : Int)) ∧ ∀ M2 : bk_M, M2 = bk_up M 23 0 ((M 30 i2 (M 53 0 x3)) / (6 : Int)) (if M 23 0 ((M 30 i2 (M 53 0 x3)) / (6 : Int)) ≤ ((M 30 i2 (M 53 0 x3)) % (6 : Int)) - (1 : Int) then M 23 0 ((M 30 i2 (M 53 0 x3)) / (6 : Int)) else ((M 30 i2 (M 53 0 x3)) % (6 : Int)) - (1 : Int)) → bk_r32 (x3 + (2 : Int)) ∧ bk_wp (bk_C d) P_95 Q 0 63 [bk_c 1 0, bk_c 10 0, bk_c 5 i2, bk_i (x3 + (2 : Int)), bk_i (M 53 0 x3), bk_i (M 53 0 (x3 + (1 : Int))), bk_i ((M 30 i2 (M 53 0 x3)) % (6 : Int)), bk_i ((M 30 i2 (M 53 0 x3)) / (6 : Int))] [] M2))))) ∧ (¬ (M 53 0 (x3 + (1 : Int)) = (1 : Int)) → ((0 : Int) ≤ (M 30 i2 (M 53 0 x3)) / (6 : Int) ∧ (M 30 i2 (M 53 0 x3)) / (6 : Int) < (6 : Int)) ∧ ((M 53 0 (x3 + (1 : Int)) ≠ (0 : Int) → bk_wp (bk_C d) P_95 Q 0 165 [bk_c 1 0, bk_c 10 0, bk_c 5 i2, bk_i x3, bk_i (M 53 0 x3), bk_i (M 53 0 (x3 + (1 : Int))), bk_i ((M 30 i2 (M 53 0 x3)) % (6 : Int)), bk_i ((M 30 i2 (M 53 0 x3)) / (6 : Int))] [bk_i ((M 30 i2 (M 53 0 x3)) % (6 : Int)), bk_i (M 22 0 ((M 30 i2 (M 53 0 x3)) / (6 : Int))), bk_i ((M 30 i2 (M 53 0 x3)) / (6 : Int)), bk_c 22 0] M) ∧ (¬ (M 53 0 (x3 + (1 : Int)) ≠ (0 : Int)) → bk_r32 (((M 30 i2 (M 53 0 x3)) % (6 : Int)) + (1 : Int)) ∧ bk_wp (bk_C d) P_95 Q 0 165 [bk_c 1 0, bk_c 10 0, bk_c 5 i2, bk_i x3, bk_i (M 53 0 x3), bk_i (M 53 0 (x3 + (1 : Int))), bk_i ((M 30 i2 (M 53 0 x3)) % (6 : Int)), bk_i ((M 30 i2 (M 53 0 x3)) / (6 : Int))] [bk_i (((M 30 i2 (M 53 0 x3)) % (6 : Int)) + (1 : Int)), bk_i (M 22 0 ((M 30 i2 (M 53 0 x3)) / (6 : Int))), bk_i ((M 30 i2 (M 53 0 x3)) / (6 : Int)), bk_c 22 0] M))))) ∧ (¬ (M 53 0 (x3 + (1 : Int)) ≤ (2 : Int)) → bk_wp (bk_C d) P_95 Q 0 106 [bk_c 1 0, bk_c 10 0, bk_c 5 i2, bk_i x3, bk_i (M 53 0 x3), bk_i (M 53 0 (x3 + (1 : Int))), bk_x, bk_x] [] M)))))) := bk_iff [30, 63, 106, 165] 40
theorem L_95_106 {d : Nat} {Q : bk_Q} (i2 : Nat) (x3 : Int) (x4 : Int) (x5 : Int) (M : bk_M) : bk_wp (bk_C d) P_95 Q 0 106 [bk_c 1 0, bk_c 10 0, bk_c 5 i2, bk_i x3, bk_i x4, bk_i x5, bk_x, bk_x] [] M ↔ ((0 : Int) = 0 ∨ (0 : Int) = 1) ∧ Q 0 (0 : Int) M := bk_iff [30, 63, 106, 165] 40
theorem L_95_165 {d : Nat} {Q : bk_Q} (i2 : Nat) (x3 : Int) (x4 : Int) (x5 : Int) (x6 : Int) (x7 : Int) (y0 : Int) (y1 : Int) (y2 : Int) (M : bk_M) : bk_wp (bk_C d) P_95 Q 0 165 [bk_c 1 0, bk_c 10 0, bk_c 5 i2, bk_i x3, bk_i x4, bk_i x5, bk_i x6, bk_i x7] [bk_i y0, bk_i y1, bk_i y2, bk_c 22 0] M ↔ ((0 : Int) ≤ y2 ∧ y2 < (6 : Int)) ∧ ∀ M1 : bk_M, M1 = bk_up M 22 0 y2 (if y0 ≤ y1 then y1 else y0) → ((x5 = (0 : Int) → bk_r32 (x3 + (2 : Int)) ∧ bk_wp (bk_C d) P_95 Q 0 63 [bk_c 1 0, bk_c 10 0, bk_c 5 i2, bk_i (x3 + (2 : Int)), bk_i x4, bk_i x5, bk_i x6, bk_i x7] [] M1) ∧ (¬ (x5 = (0 : Int)) → ((0 : Int) ≤ x7 ∧ x7 < (6 : Int)) ∧ ((x5 ≠ (1 : Int) → ((0 : Int) ≤ x7 ∧ x7 < (6 : Int)) ∧ ∀ M2 : bk_M, M2 = bk_up M1 23 0 x7 (if M1 23 0 x7 ≤ x6 then M1 23 0 x7 else x6) → bk_r32 (x3 + (2 : Int)) ∧ bk_wp (bk_C d) P_95 Q 0 63 [bk_c 1 0, bk_c 10 0, bk_c 5 i2, bk_i (x3 + (2 : Int)), bk_i x4, bk_i x5, bk_i x6, bk_i x7] [] M2) ∧ (¬ (x5 ≠ (1 : Int)) → bk_r32 (x6 - (1 : Int)) ∧ ((0 : Int) ≤ x7 ∧ x7 < (6 : Int)) ∧ ∀ M3 : bk_M, M3 = bk_up M1 23 0 x7 (if M1 23 0 x7 ≤ x6 - (1 : Int) then M1 23 0 x7 else x6 - (1 : Int)) → bk_r32 (x3 + (2 : Int)) ∧ bk_wp (bk_C d) P_95 Q 0 63 [bk_c 1 0, bk_c 10 0, bk_c 5 i2, bk_i (x3 + (2 : Int)), bk_i x4, bk_i x5, bk_i x6, bk_i x7] [] M3)))) := bk_iff [30, 63, 106, 165] 40
theorem E_96 {d : Nat} {Q : bk_Q} (i1 : Nat) (M : bk_M) : bk_C (d + 1) 0 96 [bk_c 1 0, bk_c 5 i1] M Q ↔ bk_r32 ((M 5 i1 (1 : Int)) - (1 : Int)) ∧ bk_wp (bk_C d) P_96 Q 0 9 [bk_c 1 0, bk_c 5 i1, bk_i (0 : Int), bk_i ((M 5 i1 (1 : Int)) - (1 : Int)), bk_x, bk_x] [] M := bk_iff (d := d) (P := P_96) (b := 0) (l := 0) (ls := [bk_c 1 0, bk_c 5 i1, bk_x, bk_x, bk_x, bk_x]) (st := []) (M := M) [9, 18] 40
theorem L_96_9 {d : Nat} {Q : bk_Q} (i1 : Nat) (x2 : Int) (x3 : Int) (M : bk_M) : bk_wp (bk_C d) P_96 Q 0 9 [bk_c 1 0, bk_c 5 i1, bk_i x2, bk_i x3, bk_x, bk_x] [] M ↔ ((x3 < (0 : Int) → Q 0 x2 M) ∧ (¬ (x3 < (0 : Int)) → bk_wp (bk_C d) P_96 Q 0 18 [bk_c 1 0, bk_c 5 i1, bk_i (0 : Int), bk_i x3, bk_i (0 : Int), bk_x] [] M)) := bk_iff [9, 18] 40
set_option maxRecDepth 20000 in
theorem L_96_18 {d : Nat} {Q : bk_Q} (i1 : Nat) (x2 : Int) (x3 : Int) (x4 : Int) (M : bk_M) : bk_wp (bk_C d) P_96 Q 0 18 [bk_c 1 0, bk_c 5 i1, bk_i x2, bk_i x3, bk_i x4, bk_x] [] M ↔ ((M 5 i1 (0 : Int) ≤ x4 → bk_r32 (x3 + (-1 : Int)) ∧ bk_wp (bk_C d) P_96 Q 0 9 [bk_c 1 0, bk_c 5 i1, bk_i x2, bk_i (x3 + (-1 : Int)), bk_i x4, bk_x] [] M) ∧ (¬ (M 5 i1 (0 : Int) ≤ x4) → bk_r32 ((6 : Int) * x3) ∧ bk_r32 (((6 : Int) * x3) + x4) ∧ ((0 : Int) ≤ x3 ∧ x3 < (6 : Int)) ∧ ((x4 < M 22 0 x3 → ((0 : Int) ≤ ((6 : Int) * x3) + x4 ∧ ((6 : Int) * x3) + x4 < (36 : Int)) ∧ ∀ M1 : bk_M, M1 = bk_up M 24 0 (((6 : Int) * x3) + x4) (0 : Int) → ((0 : Int) ≤ ((6 : Int) * x3) + x4 ∧ ((6 : Int) * x3) + x4 < (36 : Int)) ∧ bk_r32 (x2 + (M1 24 0 (((6 : Int) * x3) + x4))) ∧ bk_r32 (x4 + (1 : Int)) ∧ bk_wp (bk_C d) P_96 Q 0 18 [bk_c 1 0, bk_c 5 i1, bk_i (x2 + (M1 24 0 (((6 : Int) * x3) + x4))), bk_i x3, bk_i (x4 + (1 : Int)), bk_i (((6 : Int) * x3) + x4)] [] M1) ∧ (¬ (x4 < M 22 0 x3) → ((0 : Int) ≤ x3 ∧ x3 < (6 : Int)) ∧ ((x4 ≤ M 23 0 x3 → bk_C d 0 97 [bk_c 1 0, bk_c 5 i1, bk_i x4, bk_i x3] M (fun t4 r2 M3 => t4 = 0 ∧ ((0 : Int) ≤ ((6 : Int) * x3) + x4 ∧ ((6 : Int) * x3) + x4 < (36 : Int)) ∧ ∀ M5 : bk_M, M5 = bk_up M3 24 0 (((6 : Int) * x3) + x4) r2 → ((0 : Int) ≤ ((6 : Int) * x3) + x4 ∧ ((6 : Int) * x3) + x4 < (36 : Int)) ∧ bk_r32 (x2 + (M5 24 0 (((6 : Int) * x3) + x4))) ∧ bk_r32 (x4 + (1 : Int)) ∧ bk_wp (bk_C d) P_96 Q 0 18 [bk_c 1 0, bk_c 5 i1, bk_i (x2 + (M5 24 0 (((6 : Int) * x3) + x4))), bk_i x3, bk_i (x4 + (1 : Int)), bk_i (((6 : Int) * x3) + x4)] [] M5)) ∧ (¬ (x4 ≤ M 23 0 x3) → ((0 : Int) ≤ ((6 : Int) * x3) + x4 ∧ ((6 : Int) * x3) + x4 < (36 : Int)) ∧ ∀ M6 : bk_M, M6 = bk_up M 24 0 (((6 : Int) * x3) + x4) (0 : Int) → ((0 : Int) ≤ ((6 : Int) * x3) + x4 ∧ ((6 : Int) * x3) + x4 < (36 : Int)) ∧ bk_r32 (x2 + (M6 24 0 (((6 : Int) * x3) + x4))) ∧ bk_r32 (x4 + (1 : Int)) ∧ bk_wp (bk_C d) P_96 Q 0 18 [bk_c 1 0, bk_c 5 i1, bk_i (x2 + (M6 24 0 (((6 : Int) * x3) + x4))), bk_i x3, bk_i (x4 + (1 : Int)), bk_i (((6 : Int) * x3) + x4)] [] M6)))))) := bk_iff [9, 18] 40
theorem E_97 {d : Nat} {Q : bk_Q} (i1 : Nat) (a2 : Int) (a3 : Int) (M : bk_M) : bk_C (d + 1) 0 97 [bk_c 1 0, bk_c 5 i1, bk_i a2, bk_i a3] M Q ↔ bk_r32 ((M 5 i1 (1 : Int)) - (1 : Int)) ∧ ((a3 ≠ (M 5 i1 (1 : Int)) - (1 : Int) → bk_r32 (a2 - (1 : Int)) ∧ bk_wp (bk_C d) P_97 Q 0 24 [bk_c 1 0, bk_c 5 i1, bk_i a2, bk_i a3, bk_i (0 : Int), bk_i (if a2 - (1 : Int) ≤ (0 : Int) then (0 : Int) else a2 - (1 : Int))] [] M) ∧ (¬ (a3 ≠ (M 5 i1 (1 : Int)) - (1 : Int)) → Q 0 (1 : Int) M)) := bk_iff (d := d) (P := P_97) (b := 0) (l := 0) (ls := [bk_c 1 0, bk_c 5 i1, bk_i a2, bk_i a3, bk_x, bk_x]) (st := []) (M := M) [24] 40
theorem L_97_24 {d : Nat} {Q : bk_Q} (i1 : Nat) (x2 : Int) (x3 : Int) (x4 : Int) (x5 : Int) (M : bk_M) : bk_wp (bk_C d) P_97 Q 0 24 [bk_c 1 0, bk_c 5 i1, bk_i x2, bk_i x3, bk_i x4, bk_i x5] [] M ↔ bk_r32 (x2 + (1 : Int)) ∧ ((x2 + (1 : Int) < x5 → Q 0 x4 M) ∧ (¬ (x2 + (1 : Int) < x5) → ((M 5 i1 (0 : Int) ≤ x5 → Q 0 x4 M) ∧ (¬ (M 5 i1 (0 : Int) ≤ x5) → bk_r32 (x3 + (1 : Int)) ∧ bk_r32 ((6 : Int) * (x3 + (1 : Int))) ∧ bk_r32 (((6 : Int) * (x3 + (1 : Int))) + x5) ∧ ((0 : Int) ≤ ((6 : Int) * (x3 + (1 : Int))) + x5 ∧ ((6 : Int) * (x3 + (1 : Int))) + x5 < (36 : Int)) ∧ bk_r32 (x4 + (M 24 0 (((6 : Int) * (x3 + (1 : Int))) + x5))) ∧ bk_r32 (x5 + (1 : Int)) ∧ bk_wp (bk_C d) P_97 Q 0 24 [bk_c 1 0, bk_c 5 i1, bk_i x2, bk_i x3, bk_i (x4 + (M 24 0 (((6 : Int) * (x3 + (1 : Int))) + x5))), bk_i (x5 + (1 : Int))] [] M)))) := bk_iff [24] 40
theorem E_98 {d : Nat} {Q : bk_Q} (i1 : Nat) (M : bk_M) : bk_C (d + 1) 0 98 [bk_c 1 0, bk_c 5 i1] M Q ↔ bk_wp (bk_C d) P_98 Q 0 4 [bk_c 1 0, bk_c 5 i1, bk_i (0 : Int), bk_i (0 : Int), bk_x] [] M := bk_iff (d := d) (P := P_98) (b := 0) (l := 0) (ls := [bk_c 1 0, bk_c 5 i1, bk_x, bk_x, bk_x]) (st := []) (M := M) [4, 15] 40
theorem L_98_4 {d : Nat} {Q : bk_Q} (i1 : Nat) (x2 : Int) (x3 : Int) (M : bk_M) : bk_wp (bk_C d) P_98 Q 0 4 [bk_c 1 0, bk_c 5 i1, bk_i x2, bk_i x3, bk_x] [] M ↔ ((M 5 i1 (1 : Int) ≤ x3 → Q 0 0 M) ∧ (¬ (M 5 i1 (1 : Int) ≤ x3) → bk_wp (bk_C d) P_98 Q 0 15 [bk_c 1 0, bk_c 5 i1, bk_i x2, bk_i x3, bk_i x2] [] M)) := bk_iff [4, 15] 40
theorem L_98_15 {d : Nat} {Q : bk_Q} (i1 : Nat) (x2 : Int) (x3 : Int) (x4 : Int) (M : bk_M) : bk_wp (bk_C d) P_98 Q 0 15 [bk_c 1 0, bk_c 5 i1, bk_i x2, bk_i x3, bk_i x4] [] M ↔ bk_r32 ((M 5 i1 (0 : Int)) - (1 : Int)) ∧ (((M 5 i1 (0 : Int)) - (1 : Int) ≤ x4 → ((0 : Int) ≤ x3 ∧ x3 < (6 : Int)) ∧ ∀ M1 : bk_M, M1 = bk_up M 20 0 x3 x4 → bk_r32 (x4 - (1 : Int)) ∧ bk_r32 (x3 + (1 : Int)) ∧ bk_wp (bk_C d) P_98 Q 0 4 [bk_c 1 0, bk_c 5 i1, bk_i (if x4 - (1 : Int) ≤ (0 : Int) then (0 : Int) else x4 - (1 : Int)), bk_i (x3 + (1 : Int)), bk_i x4] [] M1) ∧ (¬ ((M 5 i1 (0 : Int)) - (1 : Int) ≤ x4) → bk_r32 ((6 : Int) * x3) ∧ bk_r32 (((6 : Int) * x3) + x4) ∧ ((0 : Int) ≤ ((6 : Int) * x3) + x4 ∧ ((6 : Int) * x3) + x4 < (36 : Int)) ∧ ((M 24 0 (((6 : Int) * x3) + x4) ≠ (0 : Int) → ((0 : Int) ≤ x3 ∧ x3 < (6 : Int)) ∧ ∀ M2 : bk_M, M2 = bk_up M 20 0 x3 x4 → bk_r32 (x4 - (1 : Int)) ∧ bk_r32 (x3 + (1 : Int)) ∧ bk_wp (bk_C d) P_98 Q 0 4 [bk_c 1 0, bk_c 5 i1, bk_i (if x4 - (1 : Int) ≤ (0 : Int) then (0 : Int) else x4 - (1 : Int)), bk_i (x3 + (1 : Int)), bk_i x4] [] M2) ∧ (¬ (M 24 0 (((6 : Int) * x3) + x4) ≠ (0 : Int)) → bk_r32 (x4 + (1 : Int)) ∧ bk_wp (bk_C d) P_98 Q 0 15 [bk_c 1 0, bk_c 5 i1, bk_i x2, bk_i x3, bk_i (x4 + (1 : Int))] [] M)))) := bk_iff [4, 15] 40
theorem E_99 {d : Nat} {Q : bk_Q} (i1 : Nat) (M : bk_M) : bk_C (d + 1) 0 99 [bk_c 1 0, bk_c 5 i1] M Q ↔ bk_wp (bk_C d) P_99 Q 0 2 [bk_c 1 0, bk_c 5 i1, bk_i (0 : Int), bk_x, bk_x, bk_x] [] M := bk_iff (d := d) (P := P_99) (b := 0) (l := 0) (ls := [bk_c 1 0, bk_c 5 i1, bk_x, bk_x, bk_x, bk_x]) (st := []) (M := M) [2, 15] 40
theorem L_99_2 {d : Nat} {Q : bk_Q} (i1 : Nat) (x2 : Int) (M : bk_M) : bk_wp (bk_C d) P_99 Q 0 2 [bk_c 1 0, bk_c 5 i1, bk_i x2, bk_x, bk_x, bk_x] [] M ↔ ((M 5 i1 (1 : Int) ≤ x2 → Q 0 0 M) ∧ (¬ (M 5 i1 (1 : Int) ≤ x2) → bk_wp (bk_C d) P_99 Q 0 15 [bk_c 1 0, bk_c 5 i1, bk_i x2, bk_i (0 : Int), bk_i (0 : Int), bk_x] [] M)) := bk_iff [2, 15] 40
set_option maxRecDepth 20000 in
theorem L_99_15 {d : Nat} {Q : bk_Q} (i1 : Nat) (x2 : Int) (x3 : Int) (x4 : Int) (M : bk_M) : bk_wp (bk_C d) P_99 Q 0 15 [bk_c 1 0, bk_c 5 i1, bk_i x2, bk_i x3, bk_i x4, bk_x] [] M ↔ ((M 5 i1 (0 : Int) ≤ x4 → ((x3 = (1 : Int) → bk_r32 (x2 + (1 : Int)) ∧ bk_wp (bk_C d) P_99 Q 0 2 [bk_c 1 0, bk_c 5 i1, bk_i (x2 + (1 : Int)), bk_i x3, bk_i x4, bk_x] [] M) ∧ (¬ (x3 = (1 : Int)) → ((0 : Int) ≤ x2 ∧ x2 < (6 : Int)) ∧ ∀ M1 : bk_M, M1 = bk_up M 21 0 x2 (-1 : Int) → bk_r32 (x2 + (1 : Int)) ∧ bk_wp (bk_C d) P_99 Q 0 2 [bk_c 1 0, bk_c 5 i1, bk_i (x2 + (1 : Int)), bk_i x3, bk_i x4, bk_x] [] M1))) ∧ (¬ (M 5 i1 (0 : Int) ≤ x4) → bk_r32 ((6 : Int) * x2) ∧ bk_r32 (((6 : Int) * x2) + x4) ∧ ((0 : Int) ≤ ((6 : Int) * x2) + x4 ∧ ((6 : Int) * x2) + x4 < (36 : Int)) ∧ ((M 24 0 (((6 : Int) * x2) + x4) ≤ (0 : Int) → ((0 : Int) ≤ ((6 : Int) * x2) + x4 ∧ ((6 : Int) * x2) + x4 < (36 : Int)) ∧ ((0 : Int) = 0 ∨ (0 : Int) = 1) ∧ ∀ M2 : bk_M, M2 = bk_up M 25 0 (((6 : Int) * x2) + x4) (0 : Int) → ((0 : Int) ≤ ((6 : Int) * x2) + x4 ∧ ((6 : Int) * x2) + x4 < (36 : Int)) ∧ ((M2 25 0 (((6 : Int) * x2) + x4) = (0 : Int) → bk_r32 (x4 + (1 : Int)) ∧ bk_wp (bk_C d) P_99 Q 0 15 [bk_c 1 0, bk_c 5 i1, bk_i x2, bk_i x3, bk_i (x4 + (1 : Int)), bk_i (((6 : Int) * x2) + x4)] [] M2) ∧ (¬ (M2 25 0 (((6 : Int) * x2) + x4) = (0 : Int)) → bk_r32 (x3 + (1 : Int)) ∧ ((0 : Int) ≤ x2 ∧ x2 < (6 : Int)) ∧ ∀ M3 : bk_M, M3 = bk_up M2 21 0 x2 x4 → bk_r32 (x4 + (1 : Int)) ∧ bk_wp (bk_C d) P_99 Q 0 15 [bk_c 1 0, bk_c 5 i1, bk_i x2, bk_i (x3 + (1 : Int)), bk_i (x4 + (1 : Int)), bk_i (((6 : Int) * x2) + x4)] [] M3))) ∧ (¬ (M 24 0 (((6 : Int) * x2) + x4) ≤ (0 : Int)) → ((x2 = (0 : Int) → ((0 : Int) ≤ ((6 : Int) * x2) + x4 ∧ ((6 : Int) * x2) + x4 < (36 : Int)) ∧ ((1 : Int) = 0 ∨ (1 : Int) = 1) ∧ ∀ M4 : bk_M, M4 = bk_up M 25 0 (((6 : Int) * x2) + x4) (1 : Int) → ((0 : Int) ≤ ((6 : Int) * x2) + x4 ∧ ((6 : Int) * x2) + x4 < (36 : Int)) ∧ ((M4 25 0 (((6 : Int) * x2) + x4) = (0 : Int) → bk_r32 (x4 + (1 : Int)) ∧ bk_wp (bk_C d) P_99 Q 0 15 [bk_c 1 0, bk_c 5 i1, bk_i x2, bk_i x3, bk_i (x4 + (1 : Int)), bk_i (((6 : Int) * x2) + x4)] [] M4) ∧ (¬ (M4 25 0 (((6 : Int) * x2) + x4) = (0 : Int)) → bk_r32 (x3 + (1 : Int)) ∧ ((0 : Int) ≤ x2 ∧ x2 < (6 : Int)) ∧ ∀ M5 : bk_M, M5 = bk_up M4 21 0 x2 x4 → bk_r32 (x4 + (1 : Int)) ∧ bk_wp (bk_C d) P_99 Q 0 15 [bk_c 1 0, bk_c 5 i1, bk_i x2, bk_i (x3 + (1 : Int)), bk_i (x4 + (1 : Int)), bk_i (((6 : Int) * x2) + x4)] [] M5))) ∧ (¬ (x2 = (0 : Int)) → bk_r32 (x2 - (1 : Int)) ∧ bk_C d 0 100 [bk_c 1 0, bk_c 5 i1, bk_i x4, bk_i (x2 - (1 : Int))] M (fun t8 r6 M7 => t8 = 0 ∧ ((r6 = (0 : Int) → ((0 : Int) ≤ ((6 : Int) * x2) + x4 ∧ ((6 : Int) * x2) + x4 < (36 : Int)) ∧ ((0 : Int) = 0 ∨ (0 : Int) = 1) ∧ ∀ M9 : bk_M, M9 = bk_up M7 25 0 (((6 : Int) * x2) + x4) (0 : Int) → ((0 : Int) ≤ ((6 : Int) * x2) + x4 ∧ ((6 : Int) * x2) + x4 < (36 : Int)) ∧ ((M9 25 0 (((6 : Int) * x2) + x4) = (0 : Int) → bk_r32 (x4 + (1 : Int)) ∧ bk_wp (bk_C d) P_99 Q 0 15 [bk_c 1 0, bk_c 5 i1, bk_i x2, bk_i x3, bk_i (x4 + (1 : Int)), bk_i (((6 : Int) * x2) + x4)] [] M9) ∧ (¬ (M9 25 0 (((6 : Int) * x2) + x4) = (0 : Int)) → bk_r32 (x3 + (1 : Int)) ∧ ((0 : Int) ≤ x2 ∧ x2 < (6 : Int)) ∧ ∀ M10 : bk_M, M10 = bk_up M9 21 0 x2 x4 → bk_r32 (x4 + (1 : Int)) ∧ bk_wp (bk_C d) P_99 Q 0 15 [bk_c 1 0, bk_c 5 i1, bk_i x2, bk_i (x3 + (1 : Int)), bk_i (x4 + (1 : Int)), bk_i (((6 : Int) * x2) + x4)] [] M10))) ∧ (¬ (r6 = (0 : Int)) → ((0 : Int) ≤ ((6 : Int) * x2) + x4 ∧ ((6 : Int) * x2) + x4 < (36 : Int)) ∧ ((1 : Int) = 0 ∨ (1 : Int) = 1) ∧ ∀ M11 : bk_M, M11 = bk_up M7 25 0 (((6 : Int) * x2) + x4) (1 : Int) → ((0 : Int) ≤ ((6 : Int) * x2) + x4 ∧ ((6 : Int) * x2) + x4 < (36 : Int)) ∧ ((M11 25 0 (((6 : Int) * x2) + x4) = (0 : Int) → bk_r32 (x4 + (1 : Int)) ∧ bk_wp (bk_C d) P_99 Q 0 15 [bk_c 1 0, bk_c 5 i1, bk_i x2, bk_i x3, bk_i (x4 + (1 : Int)), bk_i (((6 : Int) * x2) + x4)] [] M11) ∧ (¬ (M11 25 0 (((6 : Int) * x2) + x4) = (0 : Int)) → bk_r32 (x3 + (1 : Int)) ∧ ((0 : Int) ≤ x2 ∧ x2 < (6 : Int)) ∧ ∀ M12 : bk_M, M12 = bk_up M11 21 0 x2 x4 → bk_r32 (x4 + (1 : Int)) ∧ bk_wp (bk_C d) P_99 Q 0 15 [bk_c 1 0, bk_c 5 i1, bk_i x2, bk_i (x3 + (1 : Int)), bk_i (x4 + (1 : Int)), bk_i (((6 : Int) * x2) + x4)] [] M12))))))))))) := bk_iff [2, 15] 40
theorem E_100 {d : Nat} {Q : bk_Q} (i1 : Nat) (a2 : Int) (a3 : Int) (M : bk_M) : bk_C (d + 1) 0 100 [bk_c 1 0, bk_c 5 i1, bk_i a2, bk_i a3] M Q ↔ bk_r32 (a2 - (1 : Int)) ∧ bk_wp (bk_C d) P_100 Q 0 9 [bk_c 1 0, bk_c 5 i1, bk_i a2, bk_i a3, bk_i (if a2 - (1 : Int) ≤ (0 : Int) then (0 : Int) else a2 - (1 : Int))] [] M := bk_iff (d := d) (P := P_100) (b := 0) (l := 0) (ls := [bk_c 1 0, bk_c 5 i1, bk_i a2, bk_i a3, bk_x]) (st := []) (M := M) [9] 40
theorem L_100_9 {d : Nat} {Q : bk_Q} (i1 : Nat) (x2 : Int) (x3 : Int) (x4 : Int) (M : bk_M) : bk_wp (bk_C d) P_100 Q 0 9 [bk_c 1 0, bk_c 5 i1, bk_i x2, bk_i x3, bk_i x4] [] M ↔ bk_r32 (x2 + (1 : Int)) ∧ ((x2 + (1 : Int) < x4 → ((0 : Int) = 0 ∨ (0 : Int) = 1) ∧ Q 0 (0 : Int) M) ∧ (¬ (x2 + (1 : Int) < x4) → ((M 5 i1 (0 : Int) ≤ x4 → ((0 : Int) = 0 ∨ (0 : Int) = 1) ∧ Q 0 (0 : Int) M) ∧ (¬ (M 5 i1 (0 : Int) ≤ x4) → bk_r32 ((6 : Int) * x3) ∧ bk_r32 (((6 : Int) * x3) + x4) ∧ ((0 : Int) ≤ ((6 : Int) * x3) + x4 ∧ ((6 : Int) * x3) + x4 < (36 : Int)) ∧ ((M 25 0 (((6 : Int) * x3) + x4) = (0 : Int) → bk_r32 (x4 + (1 : Int)) ∧ bk_wp (bk_C d) P_100 Q 0 9 [bk_c 1 0, bk_c 5 i1, bk_i x2, bk_i x3, bk_i (x4 + (1 : Int))] [] M) ∧ (¬ (M 25 0 (((6 : Int) * x3) + x4) = (0 : Int)) → ((1 : Int) = 0 ∨ (1 : Int) = 1) ∧ Q 0 (1 : Int) M)))))) := bk_iff [9] 40
theorem E_101 {d : Nat} {Q : bk_Q} (a1 : Int) (M : bk_M) : bk_C (d + 1) 0 101 [bk_c 11 0, bk_i a1] M Q ↔ ((a1 < (0 : Int) → Q 0 (-1 : Int) M) ∧ (¬ (a1 < (0 : Int)) → ((M 1 0 (2 : Int) ≤ a1 → Q 0 (-1 : Int) M) ∧ (¬ (M 1 0 (2 : Int) ≤ a1) → ((0 : Int) ≤ a1 ∧ a1 < (6 : Int)) ∧ Q 0 (M 20 0 a1) M)))) := bk_iff (d := d) (P := P_101) (b := 0) (l := 0) (ls := [bk_c 11 0, bk_i a1]) (st := []) (M := M) [] 40
theorem E_102 {d : Nat} {Q : bk_Q} (a1 : Int) (M : bk_M) : bk_C (d + 1) 0 102 [bk_c 11 0, bk_i a1] M Q ↔ ((a1 < (0 : Int) → Q 0 (-1 : Int) M) ∧ (¬ (a1 < (0 : Int)) → ((M 1 0 (2 : Int) ≤ a1 → Q 0 (-1 : Int) M) ∧ (¬ (M 1 0 (2 : Int) ≤ a1) → ((0 : Int) ≤ a1 ∧ a1 < (6 : Int)) ∧ Q 0 (M 21 0 a1) M)))) := bk_iff (d := d) (P := P_102) (b := 0) (l := 0) (ls := [bk_c 11 0, bk_i a1]) (st := []) (M := M) [] 40
theorem E_103 {d : Nat} {Q : bk_Q} (a1 : Int) (a2 : Int) (a3 : Int) (a4 : Int) (a5 : Int) (M : bk_M) : bk_C (d + 1) 0 103 [bk_c 11 0, bk_i a1, bk_i a2, bk_i a3, bk_i a4, bk_i a5] M Q ↔ bk_C d 0 77 [bk_c 11 0, bk_i a1] M (fun t3 r1 M2 => t3 = 0 ∧ ((r1 = (0 : Int) → Q 0 (-1 : Int) M2) ∧ (¬ (r1 = (0 : Int)) → ((a2 < (0 : Int) → Q 0 (-1 : Int) M2) ∧ (¬ (a2 < (0 : Int)) → (((2 : Int) < a2 → Q 0 (-1 : Int) M2) ∧ (¬ ((2 : Int) < a2) → bk_C d 0 92 [bk_i a3, bk_i a4] M2 (fun t6 r4 M5 => t6 = 0 ∧ ((r4 ≠ (0 : Int) → bk_wp (bk_C d) P_103 Q 0 34 [bk_c 11 0, bk_i a1, bk_i a2, bk_i a3, bk_i a4, bk_i a5, bk_i (0 : Int), bk_i (0 : Int)] [] M5) ∧ (¬ (r4 ≠ (0 : Int)) → Q 0 (-1 : Int) M5)))))))))) := bk_iff (d := d) (P := P_103) (b := 0) (l := 0) (ls := [bk_c 11 0, bk_i a1, bk_i a2, bk_i a3, bk_i a4, bk_i a5, bk_x, bk_x]) (st := []) (M := M) [34] 40
theorem L_103_34 {d : Nat} {Q : bk_Q} (x1 : Int) (x2 : Int) (x3 : Int) (x4 : Int) (x5 : Int) (x6 : Int) (x7 : Int) (M : bk_M) : bk_wp (bk_C d) P_103 Q 0 34 [bk_c 11 0, bk_i x1, bk_i x2, bk_i x3, bk_i x4, bk_i x5, bk_i x6, bk_i x7] [] M ↔ ((x4 ≤ x7 → Q 0 x6 M) ∧ (¬ (x4 ≤ x7) → bk_C d 0 58 [bk_c 5 2, bk_c 5 ((M 11 0 (1 : Int)).toNat)] M (fun t3 r1 M2 => t3 = 0 ∧ ∀ M4 : bk_M, M4 = bk_up M2 8 0 (3 : Int) (bk_w32 (x5 + x7)) → bk_C d 0 70 [bk_c 8 0, bk_c 5 2, bk_i x3] M4 (fun t7 r5 M6 => t7 = 0 ∧ ((0 : Int) ≤ x1 ∧ x1 < (10 : Int)) ∧ bk_C d 0 41 [bk_c 29 2, bk_i (M6 30 2 x1)] M6 (fun t10 r8 M9 => t10 = 0 ∧ ((r8 ≠ x2 → bk_r32 (x7 + (1 : Int)) ∧ bk_wp (bk_C d) P_103 Q 0 34 [bk_c 11 0, bk_i x1, bk_i x2, bk_i x3, bk_i x4, bk_i x5, bk_i x6, bk_i (x7 + (1 : Int))] [] M9) ∧ (¬ (r8 ≠ x2) → bk_r32 (x6 + (1 : Int)) ∧ bk_r32 (x7 + (1 : Int)) ∧ bk_wp (bk_C d) P_103 Q 0 34 [bk_c 11 0, bk_i x1, bk_i x2, bk_i x3, bk_i x4, bk_i x5, bk_i (x6 + (1 : Int)), bk_i (x7 + (1 : Int))] [] M9))))))) := bk_iff [34] 40
theorem E_104 {d : Nat} {Q : bk_Q} (a1 : Int) (M : bk_M) : bk_C (d + 1) 0 104 [bk_c 11 0, bk_i a1] M Q ↔ bk_C d 0 47 [bk_i a1] M (fun t3 r1 M2 => t3 = 0 ∧ ((r1 ≠ (0 : Int) → bk_wp (bk_C d) P_104 Q 0 16 [bk_c 11 0, bk_i a1, bk_i (-1 : Int), bk_i (0 : Int), bk_i (0 : Int)] [] M2) ∧ (¬ (r1 ≠ (0 : Int)) → Q 0 (-1 : Int) M2))) := bk_iff (d := d) (P := P_104) (b := 0) (l := 0) (ls := [bk_c 11 0, bk_i a1, bk_x, bk_x, bk_x]) (st := []) (M := M) [16] 40
theorem L_104_16 {d : Nat} {Q : bk_Q} (x1 : Int) (x2 : Int) (x3 : Int) (x4 : Int) (M : bk_M) : bk_wp (bk_C d) P_104 Q 0 16 [bk_c 11 0, bk_i x1, bk_i x2, bk_i x3, bk_i x4] [] M ↔ ((M 5 ((M 11 0 (1 : Int)).toNat) (6 : Int) ≤ x4 → Q 0 x2 M) ∧ (¬ (M 5 ((M 11 0 (1 : Int)).toNat) (6 : Int) ≤ x4) → ((0 : Int) ≤ x4 ∧ x4 < (10 : Int)) ∧ ((M 31 ((M 11 0 (1 : Int)).toNat) x4 ≤ x3 → bk_r32 (x4 + (1 : Int)) ∧ bk_wp (bk_C d) P_104 Q 0 16 [bk_c 11 0, bk_i x1, bk_i x2, bk_i x3, bk_i (x4 + (1 : Int))] [] M) ∧ (¬ (M 31 ((M 11 0 (1 : Int)).toNat) x4 ≤ x3) → ((0 : Int) ≤ x4 ∧ x4 < (10 : Int)) ∧ bk_C d 0 41 [bk_c 29 ((M 11 0 (1 : Int)).toNat), bk_i (M 30 ((M 11 0 (1 : Int)).toNat) x4)] M (fun t3 r1 M2 => t3 = 0 ∧ ((r1 ≠ x1 → bk_r32 (x4 + (1 : Int)) ∧ bk_wp (bk_C d) P_104 Q 0 16 [bk_c 11 0, bk_i x1, bk_i x2, bk_i x3, bk_i (x4 + (1 : Int))] [] M2) ∧ (¬ (r1 ≠ x1) → ((0 : Int) ≤ x4 ∧ x4 < (10 : Int)) ∧ bk_r32 (x4 + (1 : Int)) ∧ bk_wp (bk_C d) P_104 Q 0 16 [bk_c 11 0, bk_i x1, bk_i x4, bk_i (M2 31 ((M2 11 0 (1 : Int)).toNat) x4), bk_i (x4 + (1 : Int))] [] M2))))))) := bk_iff [16] 40
theorem E_105 {d : Nat} {Q : bk_Q} (a1 : Int) (M : bk_M) : bk_C (d + 1) 0 105 [bk_c 11 0, bk_i a1] M Q ↔ bk_C d 0 77 [bk_c 11 0, bk_i a1] M (fun t3 r1 M2 => t3 = 0 ∧ ((r1 ≠ (0 : Int) → bk_C d 0 106 [bk_c 2 0, bk_c 5 ((M2 11 0 (1 : Int)).toNat), bk_i a1] M2 (fun t6 r4 M5 => t6 = 0 ∧ Q 0 (M5 2 0 (1 : Int)) M5)) ∧ (¬ (r1 ≠ (0 : Int)) → Q 0 (-1 : Int) M2))) := bk_iff (d := d) (P := P_105) (b := 0) (l := 0) (ls := [bk_c 11 0, bk_i a1]) (st := []) (M := M) [] 40
set_option maxRecDepth 20000 in
theorem E_106 {d : Nat} {Q : bk_Q} (i1 : Nat) (a2 : Int) (M : bk_M) : bk_C (d + 1) 0 106 [bk_c 2 0, bk_c 5 i1, bk_i a2] M Q ↔ ∀ M1 : bk_M, M1 = bk_up M 2 0 (1 : Int) (0 : Int) → ((0 : Int) ≤ a2 ∧ a2 < (10 : Int)) ∧ bk_C d 0 41 [bk_c 29 i1, bk_i (M1 30 i1 a2)] M1 (fun t4 r2 M3 => t4 = 0 ∧ ((0 : Int) ≤ a2 ∧ a2 < (10 : Int)) ∧ bk_C d 0 107 [bk_c 2 0, bk_l (M3 33 i1 a2)] M3 (fun t7 r5 M6 => t7 = 0 ∧ ((r2 ≠ (0 : Int) → ((r2 ≠ (1 : Int) → bk_C d 0 109 [bk_c 2 0, bk_c 14 2] M6 (fun t10 r8 M9 => t10 = 0 ∧ bk_C d 0 109 [bk_c 2 0, bk_c 14 3] M9 (fun t13 r11 M12 => t13 = 0 ∧ ((0 : Int) ≤ M1 30 i1 a2 ∧ (0 : Int) < (6 : Int)) ∧ bk_r32 ((48 : Int) + ((M1 30 i1 a2) % (6 : Int))) ∧ bk_C d 0 108 [bk_c 2 0, bk_i ((48 : Int) + ((M1 30 i1 a2) % (6 : Int)))] M12 (fun t16 r14 M15 => t16 = 0 ∧ bk_C d 0 108 [bk_c 2 0, bk_i (32 : Int)] M15 (fun t19 r17 M18 => t19 = 0 ∧ ((0 : Int) ≤ M1 30 i1 a2 ∧ (0 : Int) < (6 : Int)) ∧ bk_r32 ((48 : Int) + ((M1 30 i1 a2) / (6 : Int))) ∧ bk_C d 0 108 [bk_c 2 0, bk_i ((48 : Int) + ((M1 30 i1 a2) / (6 : Int)))] M18 (fun t22 r20 M21 => t22 = 0 ∧ Q 0 0 M21)))))) ∧ (¬ (r2 ≠ (1 : Int)) → bk_C d 0 109 [bk_c 2 0, bk_c 14 1] M6 (fun t25 r23 M24 => t25 = 0 ∧ bk_C d 0 109 [bk_c 2 0, bk_c 14 3] M24 (fun t28 r26 M27 => t28 = 0 ∧ ((0 : Int) ≤ M1 30 i1 a2 ∧ (0 : Int) < (6 : Int)) ∧ bk_r32 ((48 : Int) + ((M1 30 i1 a2) % (6 : Int))) ∧ bk_C d 0 108 [bk_c 2 0, bk_i ((48 : Int) + ((M1 30 i1 a2) % (6 : Int)))] M27 (fun t31 r29 M30 => t31 = 0 ∧ bk_C d 0 108 [bk_c 2 0, bk_i (32 : Int)] M30 (fun t34 r32 M33 => t34 = 0 ∧ ((0 : Int) ≤ M1 30 i1 a2 ∧ (0 : Int) < (6 : Int)) ∧ bk_r32 ((48 : Int) + ((M1 30 i1 a2) / (6 : Int))) ∧ bk_C d 0 108 [bk_c 2 0, bk_i ((48 : Int) + ((M1 30 i1 a2) / (6 : Int)))] M33 (fun t37 r35 M36 => t37 = 0 ∧ Q 0 0 M36)))))))) ∧ (¬ (r2 ≠ (0 : Int)) → bk_C d 0 109 [bk_c 2 0, bk_c 14 0] M6 (fun t40 r38 M39 => t40 = 0 ∧ bk_C d 0 109 [bk_c 2 0, bk_c 14 3] M39 (fun t43 r41 M42 => t43 = 0 ∧ ((0 : Int) ≤ M1 30 i1 a2 ∧ (0 : Int) < (6 : Int)) ∧ bk_r32 ((48 : Int) + ((M1 30 i1 a2) % (6 : Int))) ∧ bk_C d 0 108 [bk_c 2 0, bk_i ((48 : Int) + ((M1 30 i1 a2) % (6 : Int)))] M42 (fun t46 r44 M45 => t46 = 0 ∧ bk_C d 0 108 [bk_c 2 0, bk_i (32 : Int)] M45 (fun t49 r47 M48 => t49 = 0 ∧ ((0 : Int) ≤ M1 30 i1 a2 ∧ (0 : Int) < (6 : Int)) ∧ bk_r32 ((48 : Int) + ((M1 30 i1 a2) / (6 : Int))) ∧ bk_C d 0 108 [bk_c 2 0, bk_i ((48 : Int) + ((M1 30 i1 a2) / (6 : Int)))] M48 (fun t52 r50 M51 => t52 = 0 ∧ Q 0 0 M51))))))))) := bk_iff (d := d) (P := P_106) (b := 0) (l := 0) (ls := [bk_c 2 0, bk_c 5 i1, bk_i a2, bk_x, bk_x]) (st := []) (M := M) [] 40
theorem E_107 {d : Nat} {Q : bk_Q} (a1 : Int) (M : bk_M) : bk_C (d + 1) 0 107 [bk_c 2 0, bk_l a1] M Q ↔ bk_wp (bk_C d) P_107 Q 0 3 [bk_c 2 0, bk_l a1, bk_x, bk_i (6 : Int), bk_x] [] M := bk_iff (d := d) (P := P_107) (b := 0) (l := 0) (ls := [bk_c 2 0, bk_l a1, bk_x, bk_x, bk_x]) (st := []) (M := M) [3] 40
theorem L_107_3 {d : Nat} {Q : bk_Q} (x1 : Int) (x3 : Int) (M : bk_M) : bk_wp (bk_C d) P_107 Q 0 3 [bk_c 2 0, bk_l x1, bk_x, bk_i x3, bk_x] [] M ↔ ((x3 < (0 : Int) → Q 0 0 M) ∧ (¬ (x3 < (0 : Int)) → bk_r32 ((5 : Int) * x3) ∧ ((0 : Int) ≤ (5 : Int) * x3 ∧ (5 : Int) * x3 < 64) ∧ bk_r32 (bk_andL (x1 / 2 ^ ((5 : Int) * x3).toNat) (31 : Int)) ∧ ((bk_andL (x1 / 2 ^ ((5 : Int) * x3).toNat) (31 : Int) ≤ (0 : Int) → bk_r32 (x3 + (-1 : Int)) ∧ bk_wp (bk_C d) P_107 Q 0 3 [bk_c 2 0, bk_l x1, bk_x, bk_i (x3 + (-1 : Int)), bk_i (bk_andL (x1 / 2 ^ ((5 : Int) * x3).toNat) (31 : Int))] [] M) ∧ (¬ (bk_andL (x1 / 2 ^ ((5 : Int) * x3).toNat) (31 : Int) ≤ (0 : Int)) → bk_r32 ((97 : Int) + (bk_andL (x1 / 2 ^ ((5 : Int) * x3).toNat) (31 : Int))) ∧ bk_r32 (((97 : Int) + (bk_andL (x1 / 2 ^ ((5 : Int) * x3).toNat) (31 : Int))) - (1 : Int)) ∧ bk_C d 0 108 [bk_c 2 0, bk_i (((97 : Int) + (bk_andL (x1 / 2 ^ ((5 : Int) * x3).toNat) (31 : Int))) - (1 : Int))] M (fun t3 r1 M2 => t3 = 0 ∧ bk_r32 (x3 + (-1 : Int)) ∧ bk_wp (bk_C d) P_107 Q 0 3 [bk_c 2 0, bk_l x1, bk_x, bk_i (x3 + (-1 : Int)), bk_i (bk_andL (x1 / 2 ^ ((5 : Int) * x3).toNat) (31 : Int))] [] M2))))) := bk_iff [3] 40
theorem E_108 {d : Nat} {Q : bk_Q} (a1 : Int) (M : bk_M) : bk_C (d + 1) 0 108 [bk_c 2 0, bk_i a1] M Q ↔ (((32 : Int) ≤ M 2 0 (1 : Int) → Q 0 0 M) ∧ (¬ ((32 : Int) ≤ M 2 0 (1 : Int)) → ((0 : Int) ≤ M 2 0 (1 : Int) ∧ M 2 0 (1 : Int) < (32 : Int)) ∧ ∀ M1 : bk_M, M1 = bk_up M 26 0 (M 2 0 (1 : Int)) a1 → bk_r32 ((M1 2 0 (1 : Int)) + (1 : Int)) ∧ ∀ M2 : bk_M, M2 = bk_up M1 2 0 (1 : Int) ((M1 2 0 (1 : Int)) + (1 : Int)) → Q 0 0 M2)) := bk_iff (d := d) (P := P_108) (b := 0) (l := 0) (ls := [bk_c 2 0, bk_i a1]) (st := []) (M := M) [] 40
theorem E_109 {d : Nat} {Q : bk_Q} (i1 : Nat) (M : bk_M) : bk_C (d + 1) 0 109 [bk_c 2 0, bk_c 14 i1] M Q ↔ bk_wp (bk_C d) P_109 Q 0 2 [bk_c 2 0, bk_c 14 i1, bk_i (0 : Int)] [] M := bk_iff (d := d) (P := P_109) (b := 0) (l := 0) (ls := [bk_c 2 0, bk_c 14 i1, bk_x]) (st := []) (M := M) [2] 40
theorem L_109_2 {d : Nat} {Q : bk_Q} (i1 : Nat) (x2 : Int) (M : bk_M) : bk_wp (bk_C d) P_109 Q 0 2 [bk_c 2 0, bk_c 14 i1, bk_i x2] [] M ↔ ((Int.ofNat (bk_txt i1).length ≤ x2 → Q 0 0 M) ∧ (¬ (Int.ofNat (bk_txt i1).length ≤ x2) → ((0 : Int) ≤ x2 ∧ x2 < Int.ofNat (bk_txt i1).length) ∧ bk_C d 0 108 [bk_c 2 0, bk_i ((bk_txt i1).getD x2.toNat 0)] M (fun t3 r1 M2 => t3 = 0 ∧ bk_r32 (x2 + (1 : Int)) ∧ bk_wp (bk_C d) P_109 Q 0 2 [bk_c 2 0, bk_c 14 i1, bk_i (x2 + (1 : Int))] [] M2))) := bk_iff [2] 40
theorem E_110 {d : Nat} {Q : bk_Q} (a1 : Int) (M : bk_M) : bk_C (d + 1) 0 110 [bk_c 11 0, bk_i a1] M Q ↔ ((a1 < (0 : Int) → Q 0 (-1 : Int) M) ∧ (¬ (a1 < (0 : Int)) → ((M 2 0 (1 : Int) ≤ a1 → Q 0 (-1 : Int) M) ∧ (¬ (M 2 0 (1 : Int) ≤ a1) → ((0 : Int) ≤ a1 ∧ a1 < (32 : Int)) ∧ Q 0 (M 26 0 a1) M)))) := bk_iff (d := d) (P := P_110) (b := 0) (l := 0) (ls := [bk_c 11 0, bk_i a1]) (st := []) (M := M) [] 40
set_option maxRecDepth 20000 in
theorem E_111 {d : Nat} {Q : bk_Q} (a1 : Int) (M : bk_M) : bk_C (d + 1) 0 111 [bk_c 11 0, bk_i a1] M Q ↔ ((a1 = (0 : Int) → bk_C d 0 112 [bk_c 0 0, bk_c 10 0, bk_c 5 ((M 11 0 (1 : Int)).toNat)] M (fun t3 r1 M2 => t3 = 0 ∧ bk_C d 0 31 [bk_c 11 0] M2 (fun t6 r4 M5 => t6 = 0 ∧ ((r1 ≠ (0 : Int) → bk_C d 0 58 [bk_c 5 2, bk_c 5 ((M5 11 0 (1 : Int)).toNat)] M5 (fun t9 r7 M8 => t9 = 0 ∧ bk_C d 0 117 [bk_c 0 0, bk_c 5 2, bk_c 8 0] M8 (fun t12 r10 M11 => t12 = 0 ∧ ((0 : Int) ≤ (0 : Int) ∧ (0 : Int) < (4 : Int)) ∧ ∀ M13 : bk_M, M13 = bk_up M11 56 0 (0 : Int) (M11 0 0 (0 : Int)) → ((0 : Int) ≤ (1 : Int) ∧ (1 : Int) < (4 : Int)) ∧ ∀ M14 : bk_M, M14 = bk_up M13 56 0 (1 : Int) r10 → ((0 : Int) ≤ (2 : Int) ∧ (2 : Int) < (4 : Int)) ∧ ∀ M15 : bk_M, M15 = bk_up M14 56 0 (2 : Int) (M14 5 2 (17 : Int)) → bk_C d 0 48 [bk_c 5 2, bk_c 29 2, bk_i (0 : Int)] M15 (fun t18 r16 M17 => t18 = 0 ∧ ((0 : Int) ≤ (3 : Int) ∧ (3 : Int) < (4 : Int)) ∧ ∀ M19 : bk_M, M19 = bk_up M17 56 0 (3 : Int) r16 → ((1 : Int) = 0 ∨ (1 : Int) = 1) ∧ ∀ M20 : bk_M, M20 = bk_up M19 11 0 (15 : Int) (1 : Int) → ((a1 ≠ (1 : Int) → ((M20 0 0 (0 : Int) ≠ (0 : Int) → Q 0 r10 M20) ∧ (¬ (M20 0 0 (0 : Int) ≠ (0 : Int)) → Q 0 (-1 : Int) M20))) ∧ (¬ (a1 ≠ (1 : Int)) → ((r10 ≤ (0 : Int) → ((M20 0 0 (0 : Int) ≠ (0 : Int) → Q 0 r10 M20) ∧ (¬ (M20 0 0 (0 : Int) ≠ (0 : Int)) → Q 0 (-1 : Int) M20))) ∧ (¬ (r10 ≤ (0 : Int)) → bk_C d 0 57 [bk_c 3 0, bk_c 5 ((M20 11 0 (1 : Int)).toNat)] M20 (fun t23 r21 M22 => t23 = 0 ∧ bk_C d 0 58 [bk_c 5 ((M22 11 0 (1 : Int)).toNat), bk_c 5 2] M22 (fun t26 r24 M25 => t26 = 0 ∧ ((M25 0 0 (0 : Int) ≠ (0 : Int) → Q 0 r10 M25) ∧ (¬ (M25 0 0 (0 : Int) ≠ (0 : Int)) → Q 0 (-1 : Int) M25)))))))))))) ∧ (¬ (r1 ≠ (0 : Int)) → bk_r32 ((-2 : Int) - (M5 10 0 (7 : Int))) ∧ Q 0 ((-2 : Int) - (M5 10 0 (7 : Int))) M5))))) ∧ (¬ (a1 = (0 : Int)) → ((a1 = (1 : Int) → bk_C d 0 112 [bk_c 0 0, bk_c 10 0, bk_c 5 ((M 11 0 (1 : Int)).toNat)] M (fun t29 r27 M28 => t29 = 0 ∧ bk_C d 0 31 [bk_c 11 0] M28 (fun t32 r30 M31 => t32 = 0 ∧ ((r27 ≠ (0 : Int) → bk_C d 0 58 [bk_c 5 2, bk_c 5 ((M31 11 0 (1 : Int)).toNat)] M31 (fun t35 r33 M34 => t35 = 0 ∧ bk_C d 0 117 [bk_c 0 0, bk_c 5 2, bk_c 8 0] M34 (fun t38 r36 M37 => t38 = 0 ∧ ((0 : Int) ≤ (0 : Int) ∧ (0 : Int) < (4 : Int)) ∧ ∀ M39 : bk_M, M39 = bk_up M37 56 0 (0 : Int) (M37 0 0 (0 : Int)) → ((0 : Int) ≤ (1 : Int) ∧ (1 : Int) < (4 : Int)) ∧ ∀ M40 : bk_M, M40 = bk_up M39 56 0 (1 : Int) r36 → ((0 : Int) ≤ (2 : Int) ∧ (2 : Int) < (4 : Int)) ∧ ∀ M41 : bk_M, M41 = bk_up M40 56 0 (2 : Int) (M40 5 2 (17 : Int)) → bk_C d 0 48 [bk_c 5 2, bk_c 29 2, bk_i (0 : Int)] M41 (fun t44 r42 M43 => t44 = 0 ∧ ((0 : Int) ≤ (3 : Int) ∧ (3 : Int) < (4 : Int)) ∧ ∀ M45 : bk_M, M45 = bk_up M43 56 0 (3 : Int) r42 → ((1 : Int) = 0 ∨ (1 : Int) = 1) ∧ ∀ M46 : bk_M, M46 = bk_up M45 11 0 (15 : Int) (1 : Int) → ((a1 ≠ (1 : Int) → ((M46 0 0 (0 : Int) ≠ (0 : Int) → Q 0 r36 M46) ∧ (¬ (M46 0 0 (0 : Int) ≠ (0 : Int)) → Q 0 (-1 : Int) M46))) ∧ (¬ (a1 ≠ (1 : Int)) → ((r36 ≤ (0 : Int) → ((M46 0 0 (0 : Int) ≠ (0 : Int) → Q 0 r36 M46) ∧ (¬ (M46 0 0 (0 : Int) ≠ (0 : Int)) → Q 0 (-1 : Int) M46))) ∧ (¬ (r36 ≤ (0 : Int)) → bk_C d 0 57 [bk_c 3 0, bk_c 5 ((M46 11 0 (1 : Int)).toNat)] M46 (fun t49 r47 M48 => t49 = 0 ∧ bk_C d 0 58 [bk_c 5 ((M48 11 0 (1 : Int)).toNat), bk_c 5 2] M48 (fun t52 r50 M51 => t52 = 0 ∧ ((M51 0 0 (0 : Int) ≠ (0 : Int) → Q 0 r36 M51) ∧ (¬ (M51 0 0 (0 : Int) ≠ (0 : Int)) → Q 0 (-1 : Int) M51)))))))))))) ∧ (¬ (r27 ≠ (0 : Int)) → bk_r32 ((-2 : Int) - (M31 10 0 (7 : Int))) ∧ Q 0 ((-2 : Int) - (M31 10 0 (7 : Int))) M31))))) ∧ (¬ (a1 = (1 : Int)) → Q 0 (-1000 : Int) M)))) := bk_iff (d := d) (P := P_111) (b := 0) (l := 0) (ls := [bk_c 11 0, bk_i a1, bk_x, bk_x]) (st := []) (M := M) [] 40
theorem E_112 {d : Nat} {Q : bk_Q} (i2 : Nat) (M : bk_M) : bk_C (d + 1) 0 112 [bk_c 0 0, bk_c 10 0, bk_c 5 i2] M Q ↔ ∀ M1 : bk_M, M1 = bk_up M 0 0 (1 : Int) (0 : Int) → bk_C d 0 6 [bk_c 10 0, bk_i (400 : Int)] M1 (fun t4 r2 M3 => t4 = 0 ∧ bk_wp (bk_C d) P_112 Q 0 14 [bk_c 0 0, bk_c 10 0, bk_c 5 i2, bk_i (0 : Int)] [] M3) := bk_iff (d := d) (P := P_112) (b := 0) (l := 0) (ls := [bk_c 0 0, bk_c 10 0, bk_c 5 i2, bk_x]) (st := []) (M := M) [14] 40
theorem L_112_14 {d : Nat} {Q : bk_Q} (i2 : Nat) (x3 : Int) (M : bk_M) : bk_wp (bk_C d) P_112 Q 0 14 [bk_c 0 0, bk_c 10 0, bk_c 5 i2, bk_i x3] [] M ↔ (((40 : Int) < x3 → ((0 : Int) = 0 ∨ (0 : Int) = 1) ∧ Q 0 (0 : Int) M) ∧ (¬ ((40 : Int) < x3) → ((M 10 0 (2 : Int) ≠ (0 : Int) → bk_C d 0 113 [bk_c 0 0, bk_c 10 0, bk_c 5 i2] M (fun t3 r1 M2 => t3 = 0 ∧ ((r1 = (0 : Int) → ((0 : Int) = 0 ∨ (0 : Int) = 1) ∧ Q 0 (0 : Int) M2) ∧ (¬ (r1 = (0 : Int)) → bk_C d 0 30 [bk_c 10 0, bk_i (59 : Int)] M2 (fun t6 r4 M5 => t6 = 0 ∧ ((r4 ≠ (0 : Int) → bk_r32 ((M5 0 0 (1 : Int)) + (1 : Int)) ∧ ∀ M7 : bk_M, M7 = bk_up M5 0 0 (1 : Int) ((M5 0 0 (1 : Int)) + (1 : Int)) → bk_C d 0 7 [bk_c 10 0] M7 (fun t10 r8 M9 => t10 = 0 ∧ bk_r32 (x3 + (1 : Int)) ∧ bk_wp (bk_C d) P_112 Q 0 14 [bk_c 0 0, bk_c 10 0, bk_c 5 i2, bk_i (x3 + (1 : Int))] [] M9)) ∧ (¬ (r4 ≠ (0 : Int)) → ((0 : Int) = 0 ∨ (0 : Int) = 1) ∧ Q 0 (0 : Int) M5))))))) ∧ (¬ (M 10 0 (2 : Int) ≠ (0 : Int)) → ((1 : Int) = 0 ∨ (1 : Int) = 1) ∧ Q 0 (1 : Int) M)))) := bk_iff [14] 40
theorem E_113 {d : Nat} {Q : bk_Q} (i2 : Nat) (M : bk_M) : bk_C (d + 1) 0 113 [bk_c 0 0, bk_c 10 0, bk_c 5 i2] M Q ↔ bk_C d 0 24 [bk_c 10 0] M (fun t3 r1 M2 => t3 = 0 ∧ ((r1 = (0 : Int) → bk_wp (bk_C d) P_113 Q 0 26 [bk_c 0 0, bk_c 10 0, bk_c 5 i2, bk_x, bk_x] [bk_i (-1 : Int)] M2) ∧ (¬ (r1 = (0 : Int)) → bk_C d 0 11 [bk_c 36 i2, bk_i (M2 5 i2 (11 : Int)), bk_l (M2 10 0 (3 : Int))] M2 (fun t6 r4 M5 => t6 = 0 ∧ bk_wp (bk_C d) P_113 Q 0 26 [bk_c 0 0, bk_c 10 0, bk_c 5 i2, bk_x, bk_x] [bk_i r4] M5)))) := bk_iff (d := d) (P := P_113) (b := 0) (l := 0) (ls := [bk_c 0 0, bk_c 10 0, bk_c 5 i2, bk_x, bk_x]) (st := []) (M := M) [26, 45, 63, 159] 40
theorem L_113_26 {d : Nat} {Q : bk_Q} (i2 : Nat) (y0 : Int) (M : bk_M) : bk_wp (bk_C d) P_113 Q 0 26 [bk_c 0 0, bk_c 10 0, bk_c 5 i2, bk_x, bk_x] [bk_i y0] M ↔ bk_C d 0 24 [bk_c 10 0] M (fun t3 r1 M2 => t3 = 0 ∧ ((r1 = (0 : Int) → bk_wp (bk_C d) P_113 Q 0 45 [bk_c 0 0, bk_c 10 0, bk_c 5 i2, bk_i y0, bk_x] [] M2) ∧ (¬ (r1 = (0 : Int)) → ((y0 ≠ (-1 : Int) → bk_wp (bk_C d) P_113 Q 0 45 [bk_c 0 0, bk_c 10 0, bk_c 5 i2, bk_i y0, bk_x] [] M2) ∧ (¬ (y0 ≠ (-1 : Int)) → bk_C d 0 16 [bk_c 10 0, bk_i (3 : Int)] M2 (fun t6 r4 M5 => t6 = 0 ∧ (r4 = 0 ∨ r4 = 1) ∧ Q 0 r4 M5)))))) := bk_iff [26, 45, 63, 159] 40
theorem L_113_45 {d : Nat} {Q : bk_Q} (i2 : Nat) (x3 : Int) (M : bk_M) : bk_wp (bk_C d) P_113 Q 0 45 [bk_c 0 0, bk_c 10 0, bk_c 5 i2, bk_i x3, bk_x] [] M ↔ ((x3 ≠ (-1 : Int) → bk_wp (bk_C d) P_113 Q 0 63 [bk_c 0 0, bk_c 10 0, bk_c 5 i2, bk_i x3, bk_x] [] M) ∧ (¬ (x3 ≠ (-1 : Int)) → bk_C d 0 114 [bk_c 10 0] M (fun t3 r1 M2 => t3 = 0 ∧ ((r1 ≠ (0 : Int) → bk_wp (bk_C d) P_113 Q 0 63 [bk_c 0 0, bk_c 10 0, bk_c 5 i2, bk_i x3, bk_x] [] M2) ∧ (¬ (r1 ≠ (0 : Int)) → bk_C d 0 16 [bk_c 10 0, bk_i (1 : Int)] M2 (fun t6 r4 M5 => t6 = 0 ∧ (r4 = 0 ∨ r4 = 1) ∧ Q 0 r4 M5)))))) := bk_iff [26, 45, 63, 159] 40
theorem L_113_63 {d : Nat} {Q : bk_Q} (i2 : Nat) (x3 : Int) (M : bk_M) : bk_wp (bk_C d) P_113 Q 0 63 [bk_c 0 0, bk_c 10 0, bk_c 5 i2, bk_i x3, bk_x] [] M ↔ ((M 0 0 (1 : Int) < (40 : Int) → ((0 : Int) ≤ M 0 0 (1 : Int) ∧ M 0 0 (1 : Int) < (40 : Int)) ∧ ∀ M1 : bk_M, M1 = bk_up M 16 0 (M 0 0 (1 : Int)) (M 10 0 (4 : Int)) → bk_C d 0 28 [bk_c 10 0, bk_i (12 : Int)] M1 (fun t4 r2 M3 => t4 = 0 ∧ ((r2 = (0 : Int) → bk_C d 0 28 [bk_c 10 0, bk_i (13 : Int)] M3 (fun t7 r5 M6 => t7 = 0 ∧ ((r5 = (0 : Int) → ((x3 = (-1 : Int) → ((M6 10 0 (4 : Int) ≠ (6 : Int) → bk_wp (bk_C d) P_113 Q 0 159 [bk_c 0 0, bk_c 10 0, bk_c 5 i2, bk_i x3, bk_x] [bk_i (1 : Int), bk_i (M6 0 0 (1 : Int)), bk_c 17 0] M6) ∧ (¬ (M6 10 0 (4 : Int) ≠ (6 : Int)) → bk_wp (bk_C d) P_113 Q 0 159 [bk_c 0 0, bk_c 10 0, bk_c 5 i2, bk_i x3, bk_x] [bk_i (0 : Int), bk_i (M6 0 0 (1 : Int)), bk_c 17 0] M6))) ∧ (¬ (x3 = (-1 : Int)) → bk_wp (bk_C d) P_113 Q 0 159 [bk_c 0 0, bk_c 10 0, bk_c 5 i2, bk_i x3, bk_x] [bk_i x3, bk_i (M6 0 0 (1 : Int)), bk_c 17 0] M6))) ∧ (¬ (r5 = (0 : Int)) → bk_C d 0 115 [bk_c 0 0, bk_c 10 0, bk_i (1 : Int), bk_i (30 : Int)] M6 (fun t10 r8 M9 => t10 = 0 ∧ (r8 = 0 ∨ r8 = 1) ∧ Q 0 r8 M9))))) ∧ (¬ (r2 = (0 : Int)) → bk_C d 0 115 [bk_c 0 0, bk_c 10 0, bk_i (0 : Int), bk_i (999 : Int)] M3 (fun t13 r11 M12 => t13 = 0 ∧ (r11 = 0 ∨ r11 = 1) ∧ Q 0 r11 M12))))) ∧ (¬ (M 0 0 (1 : Int) < (40 : Int)) → bk_C d 0 16 [bk_c 10 0, bk_i (4 : Int)] M (fun t16 r14 M15 => t16 = 0 ∧ (r14 = 0 ∨ r14 = 1) ∧ Q 0 r14 M15))) := bk_iff [26, 45, 63, 159] 40
theorem L_113_159 {d : Nat} {Q : bk_Q} (i2 : Nat) (x3 : Int) (y0 : Int) (y1 : Int) (M : bk_M) : bk_wp (bk_C d) P_113 Q 0 159 [bk_c 0 0, bk_c 10 0, bk_c 5 i2, bk_i x3, bk_x] [bk_i y0, bk_i y1, bk_c 17 0] M ↔ ((0 : Int) ≤ y1 ∧ y1 < (40 : Int)) ∧ ∀ M1 : bk_M, M1 = bk_up M 17 0 y1 y0 → bk_C d 0 7 [bk_c 10 0] M1 (fun t4 r2 M3 => t4 = 0 ∧ ((x3 = (-1 : Int) → bk_C d 0 28 [bk_c 10 0, bk_i (9 : Int)] M3 (fun t7 r5 M6 => t7 = 0 ∧ ((r5 ≠ (0 : Int) → (((1 : Int) = (0 : Int) → bk_C d 0 16 [bk_c 10 0, bk_i (1 : Int)] M6 (fun t10 r8 M9 => t10 = 0 ∧ (r8 = 0 ∨ r8 = 1) ∧ Q 0 r8 M9)) ∧ (¬ ((1 : Int) = (0 : Int)) → bk_C d 0 116 [bk_c 0 0, bk_c 10 0] M6 (fun t13 r11 M12 => t13 = 0 ∧ (r11 = 0 ∨ r11 = 1) ∧ Q 0 r11 M12)))) ∧ (¬ (r5 ≠ (0 : Int)) → bk_C d 0 28 [bk_c 10 0, bk_i (10 : Int)] M6 (fun t16 r14 M15 => t16 = 0 ∧ ((r14 = (0 : Int) → (((0 : Int) = (0 : Int) → bk_C d 0 16 [bk_c 10 0, bk_i (1 : Int)] M15 (fun t19 r17 M18 => t19 = 0 ∧ (r17 = 0 ∨ r17 = 1) ∧ Q 0 r17 M18)) ∧ (¬ ((0 : Int) = (0 : Int)) → bk_C d 0 116 [bk_c 0 0, bk_c 10 0] M15 (fun t22 r20 M21 => t22 = 0 ∧ (r20 = 0 ∨ r20 = 1) ∧ Q 0 r20 M21)))) ∧ (¬ (r14 = (0 : Int)) → (((1 : Int) = (0 : Int) → bk_C d 0 16 [bk_c 10 0, bk_i (1 : Int)] M15 (fun t25 r23 M24 => t25 = 0 ∧ (r23 = 0 ∨ r23 = 1) ∧ Q 0 r23 M24)) ∧ (¬ ((1 : Int) = (0 : Int)) → bk_C d 0 116 [bk_c 0 0, bk_c 10 0] M15 (fun t28 r26 M27 => t28 = 0 ∧ (r26 = 0 ∨ r26 = 1) ∧ Q 0 r26 M27)))))))))) ∧ (¬ (x3 = (-1 : Int)) → bk_C d 0 28 [bk_c 10 0, bk_i (11 : Int)] M3 (fun t31 r29 M30 => t31 = 0 ∧ ((r29 = (0 : Int) → bk_C d 0 16 [bk_c 10 0, bk_i (1 : Int)] M30 (fun t34 r32 M33 => t34 = 0 ∧ (r32 = 0 ∨ r32 = 1) ∧ Q 0 r32 M33)) ∧ (¬ (r29 = (0 : Int)) → bk_C d 0 116 [bk_c 0 0, bk_c 10 0] M30 (fun t37 r35 M36 => t37 = 0 ∧ (r35 = 0 ∨ r35 = 1) ∧ Q 0 r35 M36))))))) := bk_iff [26, 45, 63, 159] 40
theorem E_114 {d : Nat} {Q : bk_Q} (M : bk_M) : bk_C (d + 1) 0 114 [bk_c 10 0] M Q ↔ bk_C d 0 28 [bk_c 10 0, bk_i (6 : Int)] M (fun t3 r1 M2 => t3 = 0 ∧ ((r1 ≠ (0 : Int) → ((1 : Int) = 0 ∨ (1 : Int) = 1) ∧ Q 0 (1 : Int) M2) ∧ (¬ (r1 ≠ (0 : Int)) → bk_C d 0 28 [bk_c 10 0, bk_i (7 : Int)] M2 (fun t6 r4 M5 => t6 = 0 ∧ ((r4 ≠ (0 : Int) → ((1 : Int) = 0 ∨ (1 : Int) = 1) ∧ Q 0 (1 : Int) M5) ∧ (¬ (r4 ≠ (0 : Int)) → bk_C d 0 28 [bk_c 10 0, bk_i (12 : Int)] M5 (fun t9 r7 M8 => t9 = 0 ∧ ((r7 ≠ (0 : Int) → ((1 : Int) = 0 ∨ (1 : Int) = 1) ∧ Q 0 (1 : Int) M8) ∧ (¬ (r7 ≠ (0 : Int)) → bk_C d 0 28 [bk_c 10 0, bk_i (13 : Int)] M8 (fun t12 r10 M11 => t12 = 0 ∧ ((r10 = (0 : Int) → ((0 : Int) = 0 ∨ (0 : Int) = 1) ∧ Q 0 (0 : Int) M11) ∧ (¬ (r10 = (0 : Int)) → ((1 : Int) = 0 ∨ (1 : Int) = 1) ∧ Q 0 (1 : Int) M11)))))))))))) := bk_iff (d := d) (P := P_114) (b := 0) (l := 0) (ls := [bk_c 10 0]) (st := []) (M := M) [] 40
theorem E_115 {d : Nat} {Q : bk_Q} (a2 : Int) (a3 : Int) (M : bk_M) : bk_C (d + 1) 0 115 [bk_c 0 0, bk_c 10 0, bk_i a2, bk_i a3] M Q ↔ bk_C d 0 17 [bk_c 10 0, bk_i a2, bk_i a3] M (fun t3 r1 M2 => t3 = 0 ∧ ((r1 ≠ (0 : Int) → ((0 : Int) ≤ M2 0 0 (1 : Int) ∧ M2 0 0 (1 : Int) < (40 : Int)) ∧ ∀ M4 : bk_M, M4 = bk_up M2 18 0 (M2 0 0 (1 : Int)) (M2 10 0 (5 : Int)) → ((1 : Int) = 0 ∨ (1 : Int) = 1) ∧ Q 0 (1 : Int) M4) ∧ (¬ (r1 ≠ (0 : Int)) → ((0 : Int) = 0 ∨ (0 : Int) = 1) ∧ Q 0 (0 : Int) M2))) := bk_iff (d := d) (P := P_115) (b := 0) (l := 0) (ls := [bk_c 0 0, bk_c 10 0, bk_i a2, bk_i a3]) (st := []) (M := M) [] 40
theorem E_116 {d : Nat} {Q : bk_Q} (M : bk_M) : bk_C (d + 1) 0 116 [bk_c 0 0, bk_c 10 0] M Q ↔ ((0 : Int) ≤ M 0 0 (1 : Int) ∧ M 0 0 (1 : Int) < (40 : Int)) ∧ ∀ M1 : bk_M, M1 = bk_up M 16 0 (M 0 0 (1 : Int)) (M 10 0 (4 : Int)) → bk_C d 0 115 [bk_c 0 0, bk_c 10 0, bk_i (0 : Int), bk_i (5 : Int)] M1 (fun t4 r2 M3 => t4 = 0 ∧ ((r2 = (0 : Int) → ((0 : Int) = 0 ∨ (0 : Int) = 1) ∧ Q 0 (0 : Int) M3) ∧ (¬ (r2 = (0 : Int)) → bk_C d 0 17 [bk_c 10 0, bk_i (0 : Int), bk_i (5 : Int)] M3 (fun t7 r5 M6 => t7 = 0 ∧ ((r5 ≠ (0 : Int) → ((0 : Int) ≤ M6 0 0 (1 : Int) ∧ M6 0 0 (1 : Int) < (40 : Int)) ∧ ∀ M8 : bk_M, M8 = bk_up M6 19 0 (M6 0 0 (1 : Int)) (M6 10 0 (5 : Int)) → ((1 : Int) = 0 ∨ (1 : Int) = 1) ∧ Q 0 (1 : Int) M8) ∧ (¬ (r5 ≠ (0 : Int)) → ((0 : Int) = 0 ∨ (0 : Int) = 1) ∧ Q 0 (0 : Int) M6)))))) := bk_iff (d := d) (P := P_116) (b := 0) (l := 0) (ls := [bk_c 0 0, bk_c 10 0]) (st := []) (M := M) [] 40
theorem E_117 {d : Nat} {Q : bk_Q} (i1 : Nat) (i2 : Nat) (M : bk_M) : bk_C (d + 1) 0 117 [bk_c 0 0, bk_c 5 i1, bk_c 8 i2] M Q ↔ ∀ M1 : bk_M, M1 = bk_up M 0 0 (0 : Int) (0 : Int) → bk_wp (bk_C d) P_117 Q 0 7 [bk_c 0 0, bk_c 5 i1, bk_c 8 i2, bk_i (0 : Int)] [] M1 := bk_iff (d := d) (P := P_117) (b := 0) (l := 0) (ls := [bk_c 0 0, bk_c 5 i1, bk_c 8 i2, bk_x]) (st := []) (M := M) [7] 40
theorem L_117_7 {d : Nat} {Q : bk_Q} (i1 : Nat) (i2 : Nat) (x3 : Int) (M : bk_M) : bk_wp (bk_C d) P_117 Q 0 7 [bk_c 0 0, bk_c 5 i1, bk_c 8 i2, bk_i x3] [] M ↔ ((M 0 0 (1 : Int) ≤ x3 → Q 0 (M 0 0 (1 : Int)) M) ∧ (¬ (M 0 0 (1 : Int) ≤ x3) → bk_C d 0 118 [bk_c 0 0, bk_c 5 i1, bk_c 8 i2, bk_i x3] M (fun t3 r1 M2 => t3 = 0 ∧ ∀ M4 : bk_M, M4 = bk_up M2 0 0 (0 : Int) r1 → ((M4 0 0 (0 : Int) = (0 : Int) → bk_r32 (x3 + (1 : Int)) ∧ bk_wp (bk_C d) P_117 Q 0 7 [bk_c 0 0, bk_c 5 i1, bk_c 8 i2, bk_i (x3 + (1 : Int))] [] M4) ∧ (¬ (M4 0 0 (0 : Int) = (0 : Int)) → Q 0 x3 M4))))) := bk_iff [7] 40
theorem E_118 {d : Nat} {Q : bk_Q} (i1 : Nat) (i2 : Nat) (a3 : Int) (M : bk_M) : bk_C (d + 1) 0 118 [bk_c 0 0, bk_c 5 i1, bk_c 8 i2, bk_i a3] M Q ↔ ((0 : Int) ≤ a3 ∧ a3 < (40 : Int)) ∧ ((M 16 0 a3 = (9 : Int) → bk_C d 0 119 [bk_c 0 0, bk_c 5 i1, bk_i a3, bk_i (-1 : Int), bk_i (0 : Int)] M (fun t3 r1 M2 => t3 = 0 ∧ Q 0 r1 M2)) ∧ (M 16 0 a3 ≠ (9 : Int) → ((M 16 0 a3 = (10 : Int) → bk_C d 0 119 [bk_c 0 0, bk_c 5 i1, bk_i a3, bk_i (1 : Int), bk_i (10 : Int)] M (fun t6 r4 M5 => t6 = 0 ∧ Q 0 r4 M5)) ∧ (M 16 0 a3 ≠ (10 : Int) → ((M 16 0 a3 = (11 : Int) → bk_C d 0 120 [bk_c 0 0, bk_c 5 i1, bk_i a3] M (fun t9 r7 M8 => t9 = 0 ∧ Q 0 r7 M8)) ∧ (M 16 0 a3 ≠ (11 : Int) → bk_C d 0 121 [bk_c 0 0, bk_c 5 i1, bk_c 8 i2, bk_i a3] M (fun t12 r10 M11 => t12 = 0 ∧ Q 0 r10 M11))))))) := bk_iff (d := d) (P := P_118) (b := 0) (l := 0) (ls := [bk_c 0 0, bk_c 5 i1, bk_c 8 i2, bk_i a3]) (st := []) (M := M) [] 40
theorem E_119 {d : Nat} {Q : bk_Q} (i1 : Nat) (a2 : Int) (a3 : Int) (a4 : Int) (M : bk_M) : bk_C (d + 1) 0 119 [bk_c 0 0, bk_c 5 i1, bk_i a2, bk_i a3, bk_i a4] M Q ↔ ((0 : Int) ≤ a2 ∧ a2 < (40 : Int)) ∧ ((0 : Int) ≤ a2 ∧ a2 < (40 : Int)) ∧ bk_C d 0 20 [bk_c 5 i1, bk_i (M 18 0 a2), bk_i (M 19 0 a2)] M (fun t3 r1 M2 => t3 = 0 ∧ ((r1 ≠ (-1 : Int) → ((0 : Int) ≤ a2 ∧ a2 < (40 : Int)) ∧ bk_C d 0 56 [bk_c 5 i1, bk_i (M2 17 0 a2), bk_i r1, bk_i a3] M2 (fun t6 r4 M5 => t6 = 0 ∧ ((r4 = (0 : Int) → ((0 : Int) ≤ a2 ∧ a2 < (40 : Int)) ∧ bk_C d 0 59 [bk_c 5 i1, bk_i (M5 17 0 a2), bk_i r1, bk_i a3] M5 (fun t9 r7 M8 => t9 = 0 ∧ Q 0 (0 : Int) M8)) ∧ (¬ (r4 = (0 : Int)) → bk_r32 (a4 + r4) ∧ Q 0 (a4 + r4) M5)))) ∧ (¬ (r1 ≠ (-1 : Int)) → bk_r32 (a4 + (9 : Int)) ∧ Q 0 (a4 + (9 : Int)) M2))) := bk_iff (d := d) (P := P_119) (b := 0) (l := 0) (ls := [bk_c 0 0, bk_c 5 i1, bk_i a2, bk_i a3, bk_i a4, bk_x, bk_x]) (st := []) (M := M) [] 40
end
section
theorem E_120 {d : Nat} {Q : bk_Q} (i1 : Nat) (a2 : Int) (M : bk_M) : bk_C (d + 1) 0 120 [bk_c 0 0, bk_c 5 i1, bk_i a2] M Q ↔ ((0 : Int) ≤ a2 ∧ a2 < (40 : Int)) ∧ ((0 : Int) ≤ a2 ∧ a2 < (40 : Int)) ∧ bk_C d 0 20 [bk_c 5 i1, bk_i (M 18 0 a2), bk_i (M 19 0 a2)] M (fun t3 r1 M2 => t3 = 0 ∧ ((r1 ≠ (-1 : Int) → ((0 : Int) ≤ a2 ∧ a2 < (40 : Int)) ∧ bk_C d 0 62 [bk_c 5 i1, bk_i (M2 17 0 a2), bk_i r1] M2 (fun t6 r4 M5 => t6 = 0 ∧ ((r4 = (0 : Int) → ((0 : Int) ≤ a2 ∧ a2 < (40 : Int)) ∧ bk_C d 0 63 [bk_c 5 i1, bk_i (M5 17 0 a2), bk_i r1] M5 (fun t9 r7 M8 => t9 = 0 ∧ Q 0 (0 : Int) M8)) ∧ (¬ (r4 = (0 : Int)) → bk_r32 ((40 : Int) + r4) ∧ Q 0 ((40 : Int) + r4) M5)))) ∧ (¬ (r1 ≠ (-1 : Int)) → Q 0 (49 : Int) M2))) := bk_iff (d := d) (P := P_120) (b := 0) (l := 0) (ls := [bk_c 0 0, bk_c 5 i1, bk_i a2, bk_x, bk_x]) (st := []) (M := M) [] 40
theorem E_121 {d : Nat} {Q : bk_Q} (i1 : Nat) (i2 : Nat) (a3 : Int) (M : bk_M) : bk_C (d + 1) 0 121 [bk_c 0 0, bk_c 5 i1, bk_c 8 i2, bk_i a3] M Q ↔ ((0 : Int) ≤ a3 ∧ a3 < (40 : Int)) ∧ ((M 16 0 a3 ≠ (12 : Int) → ((0 : Int) ≤ a3 ∧ a3 < (40 : Int)) ∧ bk_r32 ((M 5 i1 (17 : Int)) + (M 18 0 a3)) ∧ (((M 5 i1 (17 : Int)) + (M 18 0 a3) ≤ (400 : Int) → ((0 : Int) ≤ a3 ∧ a3 < (40 : Int)) ∧ ∀ M1 : bk_M, M1 = bk_up M 8 i2 (3 : Int) (M 18 0 a3) → bk_wp (bk_C d) P_121 Q 0 52 [bk_c 0 0, bk_c 5 i1, bk_c 8 i2, bk_i a3, bk_i (M 18 0 a3), bk_i (0 : Int)] [] M1) ∧ (¬ ((M 5 i1 (17 : Int)) + (M 18 0 a3) ≤ (400 : Int)) → Q 0 (31 : Int) M))) ∧ (¬ (M 16 0 a3 ≠ (12 : Int)) → bk_r32 ((M 5 i1 (17 : Int)) + (1 : Int)) ∧ (((M 5 i1 (17 : Int)) + (1 : Int) ≤ (400 : Int) → ((0 : Int) ≤ a3 ∧ a3 < (40 : Int)) ∧ ∀ M2 : bk_M, M2 = bk_up M 8 i2 (3 : Int) (M 18 0 a3) → bk_wp (bk_C d) P_121 Q 0 52 [bk_c 0 0, bk_c 5 i1, bk_c 8 i2, bk_i a3, bk_i (1 : Int), bk_i (0 : Int)] [] M2) ∧ (¬ ((M 5 i1 (17 : Int)) + (1 : Int) ≤ (400 : Int)) → Q 0 (31 : Int) M)))) := bk_iff (d := d) (P := P_121) (b := 0) (l := 0) (ls := [bk_c 0 0, bk_c 5 i1, bk_c 8 i2, bk_i a3, bk_x, bk_x]) (st := []) (M := M) [52] 40
theorem L_121_52 {d : Nat} {Q : bk_Q} (i1 : Nat) (i2 : Nat) (x3 : Int) (x4 : Int) (x5 : Int) (M : bk_M) : bk_wp (bk_C d) P_121 Q 0 52 [bk_c 0 0, bk_c 5 i1, bk_c 8 i2, bk_i x3, bk_i x4, bk_i x5] [] M ↔ ((x4 ≤ x5 → Q 0 (0 : Int) M) ∧ (¬ (x4 ≤ x5) → bk_C d 0 65 [bk_c 8 i2, bk_c 5 i1] M (fun t3 r1 M2 => t3 = 0 ∧ bk_r32 (x5 + (1 : Int)) ∧ bk_wp (bk_C d) P_121 Q 0 52 [bk_c 0 0, bk_c 5 i1, bk_c 8 i2, bk_i x3, bk_i x4, bk_i (x5 + (1 : Int))] [] M2))) := bk_iff [52] 40
theorem E_122 {d : Nat} {Q : bk_Q} (a1 : Int) (M : bk_M) : bk_C (d + 1) 0 122 [bk_c 11 0, bk_i a1] M Q ↔ ((M 11 0 (15 : Int) = (0 : Int) → Q 0 (-1 : Int) M) ∧ (¬ (M 11 0 (15 : Int) = (0 : Int)) → ((a1 < (0 : Int) → Q 0 (-1 : Int) M) ∧ (¬ (a1 < (0 : Int)) → (((4 : Int) ≤ a1 → Q 0 (-1 : Int) M) ∧ (¬ ((4 : Int) ≤ a1) → ((0 : Int) ≤ a1 ∧ a1 < (4 : Int)) ∧ Q 0 (M 56 0 a1) M)))))) := bk_iff (d := d) (P := P_122) (b := 0) (l := 0) (ls := [bk_c 11 0, bk_i a1]) (st := []) (M := M) [] 40
theorem E_123 {d : Nat} {Q : bk_Q} (M : bk_M) : bk_C (d + 1) 0 123 [bk_c 11 0] M Q ↔ bk_C d 0 124 [bk_c 9 ((M 11 0 (8 : Int)).toNat), bk_c 10 0, bk_c 5 ((M 11 0 (1 : Int)).toNat)] M (fun t3 r1 M2 => t3 = 0 ∧ bk_C d 0 31 [bk_c 11 0] M2 (fun t6 r4 M5 => t6 = 0 ∧ ((r1 ≠ (0 : Int) → ∀ M7 : bk_M, M7 = bk_up M5 11 0 (7 : Int) (Int.ofNat ((M5 11 0 (8 : Int)).toNat)) → ∀ M8 : bk_M, M8 = bk_up M7 11 0 (8 : Int) (Int.ofNat ((M5 11 0 (7 : Int)).toNat)) → Q 0 (M8 9 ((M8 11 0 (7 : Int)).toNat) (1 : Int)) M8) ∧ (¬ (r1 ≠ (0 : Int)) → bk_r32 ((-1 : Int) - (M5 10 0 (7 : Int))) ∧ Q 0 ((-1 : Int) - (M5 10 0 (7 : Int))) M5)))) := bk_iff (d := d) (P := P_123) (b := 0) (l := 0) (ls := [bk_c 11 0, bk_x, bk_x]) (st := []) (M := M) [] 40
theorem E_124 {d : Nat} {Q : bk_Q} (i0 : Nat) (i2 : Nat) (M : bk_M) : bk_C (d + 1) 0 124 [bk_c 9 i0, bk_c 10 0, bk_c 5 i2] M Q ↔ bk_C d 0 37 [bk_c 9 i0] M (fun t3 r1 M2 => t3 = 0 ∧ bk_C d 0 6 [bk_c 10 0, bk_i (200 : Int)] M2 (fun t6 r4 M5 => t6 = 0 ∧ bk_C d 0 125 [bk_c 9 i0, bk_c 10 0, bk_c 5 i2, bk_i (1 : Int)] M5 (fun t9 r7 M8 => t9 = 0 ∧ ((r7 = (0 : Int) → ((0 : Int) = 0 ∨ (0 : Int) = 1) ∧ Q 0 (0 : Int) M8) ∧ (¬ (r7 = (0 : Int)) → ((M8 10 0 (2 : Int) = (0 : Int) → ((1 : Int) = 0 ∨ (1 : Int) = 1) ∧ Q 0 (1 : Int) M8) ∧ (¬ (M8 10 0 (2 : Int) = (0 : Int)) → bk_C d 0 16 [bk_c 10 0, bk_i (1 : Int)] M8 (fun t12 r10 M11 => t12 = 0 ∧ ((r10 = (0 : Int) → ((0 : Int) = 0 ∨ (0 : Int) = 1) ∧ Q 0 (0 : Int) M11) ∧ (¬ (r10 = (0 : Int)) → ((1 : Int) = 0 ∨ (1 : Int) = 1) ∧ Q 0 (1 : Int) M11)))))))))) := bk_iff (d := d) (P := P_124) (b := 0) (l := 0) (ls := [bk_c 9 i0, bk_c 10 0, bk_c 5 i2]) (st := []) (M := M) [] 40
theorem E_125 {d : Nat} {Q : bk_Q} (i0 : Nat) (i2 : Nat) (a3 : Int) (M : bk_M) : bk_C (d + 1) 0 125 [bk_c 9 i0, bk_c 10 0, bk_c 5 i2, bk_i a3] M Q ↔ bk_C d 0 126 [bk_c 9 i0, bk_c 10 0, bk_c 5 i2, bk_i a3] M (fun t3 r1 M2 => t3 = 0 ∧ ((r1 ≠ (0 : Int) → bk_wp (bk_C d) P_125 Q 0 15 [bk_c 9 i0, bk_c 10 0, bk_c 5 i2, bk_i a3, bk_i (0 : Int)] [] M2) ∧ (¬ (r1 ≠ (0 : Int)) → ((0 : Int) = 0 ∨ (0 : Int) = 1) ∧ Q 0 (0 : Int) M2))) := bk_iff (d := d) (P := P_125) (b := 0) (l := 0) (ls := [bk_c 9 i0, bk_c 10 0, bk_c 5 i2, bk_i a3, bk_x]) (st := []) (M := M) [15] 40
theorem L_125_15 {d : Nat} {Q : bk_Q} (i0 : Nat) (i2 : Nat) (x3 : Int) (x4 : Int) (M : bk_M) : bk_wp (bk_C d) P_125 Q 0 15 [bk_c 9 i0, bk_c 10 0, bk_c 5 i2, bk_i x3, bk_i x4] [] M ↔ (((200 : Int) ≤ x4 → ((1 : Int) = 0 ∨ (1 : Int) = 1) ∧ Q 0 (1 : Int) M) ∧ (¬ ((200 : Int) ≤ x4) → bk_C d 0 28 [bk_c 10 0, bk_i (14 : Int)] M (fun t3 r1 M2 => t3 = 0 ∧ ((r1 = (0 : Int) → ((1 : Int) = 0 ∨ (1 : Int) = 1) ∧ Q 0 (1 : Int) M2) ∧ (¬ (r1 = (0 : Int)) → bk_C d 0 7 [bk_c 10 0] M2 (fun t6 r4 M5 => t6 = 0 ∧ bk_C d 0 126 [bk_c 9 i0, bk_c 10 0, bk_c 5 i2, bk_i x3] M5 (fun t9 r7 M8 => t9 = 0 ∧ ((r7 ≠ (0 : Int) → bk_C d 0 129 [bk_c 9 i0, bk_i (14 : Int), bk_i (0 : Int), bk_i (0 : Int)] M8 (fun t12 r10 M11 => t12 = 0 ∧ bk_r32 (x4 + (1 : Int)) ∧ bk_wp (bk_C d) P_125 Q 0 15 [bk_c 9 i0, bk_c 10 0, bk_c 5 i2, bk_i x3, bk_i (x4 + (1 : Int))] [] M11)) ∧ (¬ (r7 ≠ (0 : Int)) → ((0 : Int) = 0 ∨ (0 : Int) = 1) ∧ Q 0 (0 : Int) M8))))))))) := bk_iff [15] 40
theorem E_126 {d : Nat} {Q : bk_Q} (i0 : Nat) (i2 : Nat) (a3 : Int) (M : bk_M) : bk_C (d + 1) 0 126 [bk_c 9 i0, bk_c 10 0, bk_c 5 i2, bk_i a3] M Q ↔ bk_C d 0 127 [bk_c 9 i0, bk_c 10 0, bk_c 5 i2, bk_i a3] M (fun t3 r1 M2 => t3 = 0 ∧ ((r1 ≠ (0 : Int) → bk_wp (bk_C d) P_126 Q 0 15 [bk_c 9 i0, bk_c 10 0, bk_c 5 i2, bk_i a3, bk_i (0 : Int)] [] M2) ∧ (¬ (r1 ≠ (0 : Int)) → ((0 : Int) = 0 ∨ (0 : Int) = 1) ∧ Q 0 (0 : Int) M2))) := bk_iff (d := d) (P := P_126) (b := 0) (l := 0) (ls := [bk_c 9 i0, bk_c 10 0, bk_c 5 i2, bk_i a3, bk_x]) (st := []) (M := M) [15] 40
theorem L_126_15 {d : Nat} {Q : bk_Q} (i0 : Nat) (i2 : Nat) (x3 : Int) (x4 : Int) (M : bk_M) : bk_wp (bk_C d) P_126 Q 0 15 [bk_c 9 i0, bk_c 10 0, bk_c 5 i2, bk_i x3, bk_i x4] [] M ↔ (((200 : Int) ≤ x4 → ((1 : Int) = 0 ∨ (1 : Int) = 1) ∧ Q 0 (1 : Int) M) ∧ (¬ ((200 : Int) ≤ x4) → bk_C d 0 28 [bk_c 10 0, bk_i (15 : Int)] M (fun t3 r1 M2 => t3 = 0 ∧ ((r1 = (0 : Int) → ((1 : Int) = 0 ∨ (1 : Int) = 1) ∧ Q 0 (1 : Int) M2) ∧ (¬ (r1 = (0 : Int)) → bk_C d 0 7 [bk_c 10 0] M2 (fun t6 r4 M5 => t6 = 0 ∧ bk_C d 0 127 [bk_c 9 i0, bk_c 10 0, bk_c 5 i2, bk_i x3] M5 (fun t9 r7 M8 => t9 = 0 ∧ ((r7 ≠ (0 : Int) → bk_C d 0 129 [bk_c 9 i0, bk_i (15 : Int), bk_i (0 : Int), bk_i (0 : Int)] M8 (fun t12 r10 M11 => t12 = 0 ∧ bk_r32 (x4 + (1 : Int)) ∧ bk_wp (bk_C d) P_126 Q 0 15 [bk_c 9 i0, bk_c 10 0, bk_c 5 i2, bk_i x3, bk_i (x4 + (1 : Int))] [] M11)) ∧ (¬ (r7 ≠ (0 : Int)) → ((0 : Int) = 0 ∨ (0 : Int) = 1) ∧ Q 0 (0 : Int) M8))))))))) := bk_iff [15] 40
set_option maxRecDepth 20000 in
theorem E_127 {d : Nat} {Q : bk_Q} (i0 : Nat) (i2 : Nat) (a3 : Int) (M : bk_M) : bk_C (d + 1) 0 127 [bk_c 9 i0, bk_c 10 0, bk_c 5 i2, bk_i a3] M Q ↔ bk_C d 0 128 [bk_c 10 0] M (fun t3 r1 M2 => t3 = 0 ∧ ((r1 ≠ (0 : Int) → (((20 : Int) ≤ M2 9 i0 (1 : Int) → bk_C d 0 16 [bk_c 10 0, bk_i (4 : Int)] M2 (fun t6 r4 M5 => t6 = 0 ∧ (r4 = 0 ∨ r4 = 1) ∧ Q 0 r4 M5)) ∧ (¬ ((20 : Int) ≤ M2 9 i0 (1 : Int)) → ((a3 ≤ (8 : Int) → bk_r32 ((M2 9 i0 (1 : Int)) + (1 : Int)) ∧ ∀ M7 : bk_M, M7 = bk_up M2 9 i0 (1 : Int) ((M2 9 i0 (1 : Int)) + (1 : Int)) → ((M7 10 0 (2 : Int) ≠ (40 : Int) → ((M7 10 0 (4 : Int) ≠ (16 : Int) → bk_C d 0 130 [bk_c 9 i0, bk_c 10 0, bk_c 5 i2] M7 (fun t10 r8 M9 => t10 = 0 ∧ ((r8 = (0 : Int) → (r8 = 0 ∨ r8 = 1) ∧ Q 0 r8 M9) ∧ (¬ (r8 = (0 : Int)) → bk_C d 0 7 [bk_c 10 0] M9 (fun t13 r11 M12 => t13 = 0 ∧ (r8 = 0 ∨ r8 = 1) ∧ Q 0 r8 M12))))) ∧ (¬ (M7 10 0 (4 : Int) ≠ (16 : Int)) → bk_C d 0 7 [bk_c 10 0] M7 (fun t16 r14 M15 => t16 = 0 ∧ bk_r32 (a3 + (1 : Int)) ∧ bk_C d 0 127 [bk_c 9 i0, bk_c 10 0, bk_c 5 i2, bk_i (a3 + (1 : Int))] M15 (fun t19 r17 M18 => t19 = 0 ∧ ((r17 = (0 : Int) → ((0 : Int) = 0 ∨ (0 : Int) = 1) ∧ Q 0 (0 : Int) M18) ∧ (¬ (r17 = (0 : Int)) → bk_C d 0 129 [bk_c 9 i0, bk_i (16 : Int), bk_i (0 : Int), bk_i (0 : Int)] M18 (fun t22 r20 M21 => t22 = 0 ∧ ((r20 = (0 : Int) → ((0 : Int) = 0 ∨ (0 : Int) = 1) ∧ Q 0 (0 : Int) M21) ∧ (¬ (r20 = (0 : Int)) → ((1 : Int) = 0 ∨ (1 : Int) = 1) ∧ Q 0 (1 : Int) M21)))))))))) ∧ (¬ (M7 10 0 (2 : Int) ≠ (40 : Int)) → bk_C d 0 7 [bk_c 10 0] M7 (fun t25 r23 M24 => t25 = 0 ∧ bk_r32 (a3 + (1 : Int)) ∧ bk_C d 0 125 [bk_c 9 i0, bk_c 10 0, bk_c 5 i2, bk_i (a3 + (1 : Int))] M24 (fun t28 r26 M27 => t28 = 0 ∧ ((r26 ≠ (0 : Int) → ((M27 10 0 (2 : Int) = (41 : Int) → bk_C d 0 7 [bk_c 10 0] M27 (fun t31 r29 M30 => t31 = 0 ∧ ((1 : Int) = 0 ∨ (1 : Int) = 1) ∧ Q 0 (1 : Int) M30)) ∧ (¬ (M27 10 0 (2 : Int) = (41 : Int)) → bk_C d 0 16 [bk_c 10 0, bk_i (1 : Int)] M27 (fun t34 r32 M33 => t34 = 0 ∧ (r32 = 0 ∨ r32 = 1) ∧ Q 0 r32 M33)))) ∧ (¬ (r26 ≠ (0 : Int)) → ((0 : Int) = 0 ∨ (0 : Int) = 1) ∧ Q 0 (0 : Int) M27))))))) ∧ (¬ (a3 ≤ (8 : Int)) → bk_C d 0 16 [bk_c 10 0, bk_i (4 : Int)] M2 (fun t37 r35 M36 => t37 = 0 ∧ (r35 = 0 ∨ r35 = 1) ∧ Q 0 r35 M36)))))) ∧ (¬ (r1 ≠ (0 : Int)) → bk_C d 0 16 [bk_c 10 0, bk_i (1 : Int)] M2 (fun t40 r38 M39 => t40 = 0 ∧ (r38 = 0 ∨ r38 = 1) ∧ Q 0 r38 M39)))) := bk_iff (d := d) (P := P_127) (b := 0) (l := 0) (ls := [bk_c 9 i0, bk_c 10 0, bk_c 5 i2, bk_i a3, bk_x]) (st := []) (M := M) [] 40
theorem E_128 {d : Nat} {Q : bk_Q} (M : bk_M) : bk_C (d + 1) 0 128 [bk_c 10 0] M Q ↔ ((M 10 0 (2 : Int) = (40 : Int) → ((1 : Int) = 0 ∨ (1 : Int) = 1) ∧ Q 0 (1 : Int) M) ∧ (¬ (M 10 0 (2 : Int) = (40 : Int)) → ((M 10 0 (2 : Int) ≠ (2 : Int) → ((0 : Int) = 0 ∨ (0 : Int) = 1) ∧ Q 0 (0 : Int) M) ∧ (¬ (M 10 0 (2 : Int) ≠ (2 : Int)) → ((M 10 0 (4 : Int) = (6 : Int) → ((1 : Int) = 0 ∨ (1 : Int) = 1) ∧ Q 0 (1 : Int) M) ∧ (¬ (M 10 0 (4 : Int) = (6 : Int)) → ((M 10 0 (4 : Int) = (7 : Int) → ((1 : Int) = 0 ∨ (1 : Int) = 1) ∧ Q 0 (1 : Int) M) ∧ (¬ (M 10 0 (4 : Int) = (7 : Int)) → ((M 10 0 (4 : Int) = (16 : Int) → ((1 : Int) = 0 ∨ (1 : Int) = 1) ∧ Q 0 (1 : Int) M) ∧ (¬ (M 10 0 (4 : Int) = (16 : Int)) → ((M 10 0 (4 : Int) < (17 : Int) → ((0 : Int) = 0 ∨ (0 : Int) = 1) ∧ Q 0 (0 : Int) M) ∧ (¬ (M 10 0 (4 : Int) < (17 : Int)) → ((1 : Int) = 0 ∨ (1 : Int) = 1) ∧ Q 0 (1 : Int) M)))))))))))) := bk_iff (d := d) (P := P_128) (b := 0) (l := 0) (ls := [bk_c 10 0]) (st := []) (M := M) [] 40
theorem E_129 {d : Nat} {Q : bk_Q} (i0 : Nat) (a1 : Int) (a2 : Int) (a3 : Int) (M : bk_M) : bk_C (d + 1) 0 129 [bk_c 9 i0, bk_i a1, bk_i a2, bk_i a3] M Q ↔ (((40 : Int) ≤ M 9 i0 (0 : Int) → ((1 : Int) = 0 ∨ (1 : Int) = 1) ∧ Q 0 (1 : Int) M) ∧ (¬ ((40 : Int) ≤ M 9 i0 (0 : Int)) → ((0 : Int) ≤ M 9 i0 (0 : Int) ∧ M 9 i0 (0 : Int) < (40 : Int)) ∧ ∀ M1 : bk_M, M1 = bk_up M 49 i0 (M 9 i0 (0 : Int)) a1 → ((0 : Int) ≤ M1 9 i0 (0 : Int) ∧ M1 9 i0 (0 : Int) < (40 : Int)) ∧ ∀ M2 : bk_M, M2 = bk_up M1 50 i0 (M1 9 i0 (0 : Int)) a2 → ((0 : Int) ≤ M2 9 i0 (0 : Int) ∧ M2 9 i0 (0 : Int) < (40 : Int)) ∧ ∀ M3 : bk_M, M3 = bk_up M2 51 i0 (M2 9 i0 (0 : Int)) a3 → bk_r32 ((M3 9 i0 (0 : Int)) + (1 : Int)) ∧ ∀ M4 : bk_M, M4 = bk_up M3 9 i0 (0 : Int) ((M3 9 i0 (0 : Int)) + (1 : Int)) → ((1 : Int) = 0 ∨ (1 : Int) = 1) ∧ Q 0 (1 : Int) M4)) := bk_iff (d := d) (P := P_129) (b := 0) (l := 0) (ls := [bk_c 9 i0, bk_i a1, bk_i a2, bk_i a3]) (st := []) (M := M) [] 40
set_option maxRecDepth 20000 in
theorem E_130 {d : Nat} {Q : bk_Q} (i0 : Nat) (i2 : Nat) (M : bk_M) : bk_C (d + 1) 0 130 [bk_c 9 i0, bk_c 10 0, bk_c 5 i2] M Q ↔ ((M 10 0 (4 : Int) = (19 : Int) → bk_C d 0 7 [bk_c 10 0] M (fun t3 r1 M2 => t3 = 0 ∧ bk_C d 0 24 [bk_c 10 0] M2 (fun t6 r4 M5 => t6 = 0 ∧ ((r4 ≠ (0 : Int) → bk_C d 0 11 [bk_c 33 i2, bk_i (M5 5 i2 (6 : Int)), bk_l (M5 10 0 (3 : Int))] M5 (fun t9 r7 M8 => t9 = 0 ∧ ((r7 ≠ (-1 : Int) → bk_C d 0 129 [bk_c 9 i0, bk_i (M 10 0 (4 : Int)), bk_i r7, bk_i (0 : Int)] M8 (fun t12 r10 M11 => t12 = 0 ∧ (r10 = 0 ∨ r10 = 1) ∧ Q 0 r10 M11)) ∧ (¬ (r7 ≠ (-1 : Int)) → bk_C d 0 16 [bk_c 10 0, bk_i (3 : Int)] M8 (fun t15 r13 M14 => t15 = 0 ∧ (r13 = 0 ∨ r13 = 1) ∧ Q 0 r13 M14))))) ∧ (¬ (r4 ≠ (0 : Int)) → bk_C d 0 16 [bk_c 10 0, bk_i (1 : Int)] M5 (fun t18 r16 M17 => t18 = 0 ∧ (r16 = 0 ∨ r16 = 1) ∧ Q 0 r16 M17)))))) ∧ (¬ (M 10 0 (4 : Int) = (19 : Int)) → ((M 10 0 (4 : Int) ≠ (20 : Int) → ((M 10 0 (4 : Int) < (21 : Int) → bk_C d 0 129 [bk_c 9 i0, bk_i (M 10 0 (4 : Int)), bk_i (0 : Int), bk_i (0 : Int)] M (fun t21 r19 M20 => t21 = 0 ∧ (r19 = 0 ∨ r19 = 1) ∧ Q 0 r19 M20)) ∧ (¬ (M 10 0 (4 : Int) < (21 : Int)) → bk_C d 0 7 [bk_c 10 0] M (fun t24 r22 M23 => t24 = 0 ∧ ((M23 10 0 (2 : Int) = (60 : Int) → bk_C d 0 7 [bk_c 10 0] M23 (fun t27 r25 M26 => t27 = 0 ∧ ((M26 10 0 (2 : Int) ≠ (3 : Int) → bk_C d 0 16 [bk_c 10 0, bk_i (1 : Int)] M26 (fun t30 r28 M29 => t30 = 0 ∧ (r28 = 0 ∨ r28 = 1) ∧ Q 0 r28 M29)) ∧ (¬ (M26 10 0 (2 : Int) ≠ (3 : Int)) → bk_C d 0 129 [bk_c 9 i0, bk_i (M 10 0 (4 : Int)), bk_i (M26 10 0 (5 : Int)), bk_i (M23 10 0 (2 : Int))] M26 (fun t33 r31 M32 => t33 = 0 ∧ (r31 = 0 ∨ r31 = 1) ∧ Q 0 r31 M32))))) ∧ (¬ (M23 10 0 (2 : Int) = (60 : Int)) → ((M23 10 0 (2 : Int) = (61 : Int) → bk_C d 0 7 [bk_c 10 0] M23 (fun t36 r34 M35 => t36 = 0 ∧ ((M35 10 0 (2 : Int) ≠ (3 : Int) → bk_C d 0 16 [bk_c 10 0, bk_i (1 : Int)] M35 (fun t39 r37 M38 => t39 = 0 ∧ (r37 = 0 ∨ r37 = 1) ∧ Q 0 r37 M38)) ∧ (¬ (M35 10 0 (2 : Int) ≠ (3 : Int)) → bk_C d 0 129 [bk_c 9 i0, bk_i (M 10 0 (4 : Int)), bk_i (M35 10 0 (5 : Int)), bk_i (M23 10 0 (2 : Int))] M35 (fun t42 r40 M41 => t42 = 0 ∧ (r40 = 0 ∨ r40 = 1) ∧ Q 0 r40 M41))))) ∧ (¬ (M23 10 0 (2 : Int) = (61 : Int)) → ((M23 10 0 (2 : Int) = (62 : Int) → bk_C d 0 7 [bk_c 10 0] M23 (fun t45 r43 M44 => t45 = 0 ∧ ((M44 10 0 (2 : Int) ≠ (3 : Int) → bk_C d 0 16 [bk_c 10 0, bk_i (1 : Int)] M44 (fun t48 r46 M47 => t48 = 0 ∧ (r46 = 0 ∨ r46 = 1) ∧ Q 0 r46 M47)) ∧ (¬ (M44 10 0 (2 : Int) ≠ (3 : Int)) → bk_C d 0 129 [bk_c 9 i0, bk_i (M 10 0 (4 : Int)), bk_i (M44 10 0 (5 : Int)), bk_i (M23 10 0 (2 : Int))] M44 (fun t51 r49 M50 => t51 = 0 ∧ (r49 = 0 ∨ r49 = 1) ∧ Q 0 r49 M50))))) ∧ (¬ (M23 10 0 (2 : Int) = (62 : Int)) → bk_C d 0 16 [bk_c 10 0, bk_i (1 : Int)] M23 (fun t54 r52 M53 => t54 = 0 ∧ (r52 = 0 ∨ r52 = 1) ∧ Q 0 r52 M53))))))))))) ∧ (¬ (M 10 0 (4 : Int) ≠ (20 : Int)) → bk_C d 0 7 [bk_c 10 0] M (fun t57 r55 M56 => t57 = 0 ∧ bk_C d 0 24 [bk_c 10 0] M56 (fun t60 r58 M59 => t60 = 0 ∧ ((r58 ≠ (0 : Int) → bk_C d 0 11 [bk_c 33 i2, bk_i (M59 5 i2 (6 : Int)), bk_l (M59 10 0 (3 : Int))] M59 (fun t63 r61 M62 => t63 = 0 ∧ ((r61 ≠ (-1 : Int) → bk_C d 0 129 [bk_c 9 i0, bk_i (M 10 0 (4 : Int)), bk_i r61, bk_i (0 : Int)] M62 (fun t66 r64 M65 => t66 = 0 ∧ (r64 = 0 ∨ r64 = 1) ∧ Q 0 r64 M65)) ∧ (¬ (r61 ≠ (-1 : Int)) → bk_C d 0 16 [bk_c 10 0, bk_i (3 : Int)] M62 (fun t69 r67 M68 => t69 = 0 ∧ (r67 = 0 ∨ r67 = 1) ∧ Q 0 r67 M68))))) ∧ (¬ (r58 ≠ (0 : Int)) → bk_C d 0 16 [bk_c 10 0, bk_i (1 : Int)] M59 (fun t72 r70 M71 => t72 = 0 ∧ (r70 = 0 ∨ r70 = 1) ∧ Q 0 r70 M71))))))))) := bk_iff (d := d) (P := P_130) (b := 0) (l := 0) (ls := [bk_c 9 i0, bk_c 10 0, bk_c 5 i2, bk_x, bk_x]) (st := []) (M := M) [] 40
theorem E_131 {d : Nat} {Q : bk_Q} (a1 : Int) (M : bk_M) : bk_C (d + 1) 0 131 [bk_c 11 0, bk_i a1] M Q ↔ ((M 9 ((M 11 0 (7 : Int)).toNat) (0 : Int) = (0 : Int) → Q 0 (-1 : Int) M) ∧ (¬ (M 9 ((M 11 0 (7 : Int)).toNat) (0 : Int) = (0 : Int)) → (((-1 : Int) ≤ a1 → bk_C d 0 132 [bk_c 9 ((M 11 0 (7 : Int)).toNat), bk_c 5 ((M 11 0 (1 : Int)).toNat)] M (fun t3 r1 M2 => t3 = 0 ∧ ((a1 ≠ (-1 : Int) → bk_wp (bk_C d) P_131 Q 0 44 [bk_c 11 0, bk_i a1, bk_i r1, bk_i (0 : Int), bk_i (0 : Int)] [] M2) ∧ (¬ (a1 ≠ (-1 : Int)) → bk_C d 0 136 [bk_i r1] M2 (fun t6 r4 M5 => t6 = 0 ∧ Q 0 r4 M5))))) ∧ (¬ ((-1 : Int) ≤ a1) → Q 0 (-1 : Int) M)))) := bk_iff (d := d) (P := P_131) (b := 0) (l := 0) (ls := [bk_c 11 0, bk_i a1, bk_x, bk_x, bk_x]) (st := []) (M := M) [44] 40
theorem L_131_44 {d : Nat} {Q : bk_Q} (x1 : Int) (x2 : Int) (x3 : Int) (x4 : Int) (M : bk_M) : bk_wp (bk_C d) P_131 Q 0 44 [bk_c 11 0, bk_i x1, bk_i x2, bk_i x3, bk_i x4] [] M ↔ ((M 5 ((M 11 0 (1 : Int)).toNat) (6 : Int) ≤ x4 → Q 0 (-1 : Int) M) ∧ (¬ (M 5 ((M 11 0 (1 : Int)).toNat) (6 : Int) ≤ x4) → ((0 : Int) ≤ x4 ∧ x4 < 32) ∧ ((bk_and (x2 / 2 ^ x4.toNat) (1 : Int) ≠ (1 : Int) → bk_r32 (x4 + (1 : Int)) ∧ bk_wp (bk_C d) P_131 Q 0 44 [bk_c 11 0, bk_i x1, bk_i x2, bk_i x3, bk_i (x4 + (1 : Int))] [] M) ∧ (¬ (bk_and (x2 / 2 ^ x4.toNat) (1 : Int) ≠ (1 : Int)) → ((x3 ≠ x1 → bk_r32 (x3 + (1 : Int)) ∧ bk_r32 (x4 + (1 : Int)) ∧ bk_wp (bk_C d) P_131 Q 0 44 [bk_c 11 0, bk_i x1, bk_i x2, bk_i (x3 + (1 : Int)), bk_i (x4 + (1 : Int))] [] M) ∧ (¬ (x3 ≠ x1) → Q 0 x4 M)))))) := bk_iff [44] 40
theorem E_132 {d : Nat} {Q : bk_Q} (i0 : Nat) (i1 : Nat) (M : bk_M) : bk_C (d + 1) 0 132 [bk_c 9 i0, bk_c 5 i1] M Q ↔ ((0 : Int) ≤ M 5 i1 (6 : Int) ∧ M 5 i1 (6 : Int) < 32 ∧ bk_r32 ((1 : Int) * 2 ^ (M 5 i1 (6 : Int)).toNat)) ∧ bk_r32 (((1 : Int) * 2 ^ (M 5 i1 (6 : Int)).toNat) - (1 : Int)) ∧ bk_wp (bk_C d) P_132 Q 0 14 [bk_c 9 i0, bk_c 5 i1, bk_i (((1 : Int) * 2 ^ (M 5 i1 (6 : Int)).toNat) - (1 : Int)), bk_i (0 : Int), bk_i (0 : Int), bk_x] [] M := bk_iff (d := d) (P := P_132) (b := 0) (l := 0) (ls := [bk_c 9 i0, bk_c 5 i1, bk_x, bk_x, bk_x, bk_x]) (st := []) (M := M) [14] 40
set_option maxRecDepth 20000 in
theorem L_132_14 {d : Nat} {Q : bk_Q} (i0 : Nat) (i1 : Nat) (x2 : Int) (x3 : Int) (x4 : Int) (M : bk_M) : bk_wp (bk_C d) P_132 Q 0 14 [bk_c 9 i0, bk_c 5 i1, bk_i x2, bk_i x3, bk_i x4, bk_x] [] M ↔ ((M 9 i0 (0 : Int) ≤ x4 → ((x3 ≠ (1 : Int) → Q 0 (0 : Int) M) ∧ (¬ (x3 ≠ (1 : Int)) → ((0 : Int) ≤ (0 : Int) ∧ (0 : Int) < (20 : Int)) ∧ Q 0 (M 52 i0 (0 : Int)) M))) ∧ (¬ (M 9 i0 (0 : Int) ≤ x4) → ((0 : Int) ≤ x4 ∧ x4 < (40 : Int)) ∧ ((M 49 i0 x4 ≠ (16 : Int) → ((0 : Int) ≤ x4 ∧ x4 < (40 : Int)) ∧ ((M 49 i0 x4 = (15 : Int) → ((x3 ≤ (1 : Int) → bk_r32 (x4 + (1 : Int)) ∧ bk_wp (bk_C d) P_132 Q 0 14 [bk_c 9 i0, bk_c 5 i1, bk_i x2, bk_i x3, bk_i (x4 + (1 : Int)), bk_x] [] M) ∧ (¬ (x3 ≤ (1 : Int)) → bk_r32 (x3 + (-1 : Int)) ∧ bk_r32 ((x3 + (-1 : Int)) - (1 : Int)) ∧ ((0 : Int) ≤ (x3 + (-1 : Int)) - (1 : Int) ∧ (x3 + (-1 : Int)) - (1 : Int) < (20 : Int)) ∧ ((0 : Int) ≤ x3 + (-1 : Int) ∧ x3 + (-1 : Int) < (20 : Int)) ∧ bk_r32 ((x3 + (-1 : Int)) - (1 : Int)) ∧ ((0 : Int) ≤ x4 ∧ x4 < (40 : Int)) ∧ ((M 49 i0 x4 ≠ (15 : Int) → bk_r32 ((x3 + (-1 : Int)) - (1 : Int)) ∧ ((0 : Int) ≤ (x3 + (-1 : Int)) - (1 : Int) ∧ (x3 + (-1 : Int)) - (1 : Int) < (20 : Int)) ∧ ((0 : Int) ≤ x3 + (-1 : Int) ∧ x3 + (-1 : Int) < (20 : Int)) ∧ ((0 : Int) ≤ (x3 + (-1 : Int)) - (1 : Int) ∧ (x3 + (-1 : Int)) - (1 : Int) < (20 : Int)) ∧ ∀ M1 : bk_M, M1 = bk_up M 52 i0 ((x3 + (-1 : Int)) - (1 : Int)) (bk_or (M 52 i0 ((x3 + (-1 : Int)) - (1 : Int))) (M 52 i0 (x3 + (-1 : Int)))) → bk_r32 (x4 + (1 : Int)) ∧ bk_wp (bk_C d) P_132 Q 0 14 [bk_c 9 i0, bk_c 5 i1, bk_i x2, bk_i (x3 + (-1 : Int)), bk_i (x4 + (1 : Int)), bk_i (bk_and (M 52 i0 ((x3 + (-1 : Int)) - (1 : Int))) (M 52 i0 (x3 + (-1 : Int))))] [] M1) ∧ (¬ (M 49 i0 x4 ≠ (15 : Int)) → ((0 : Int) ≤ (x3 + (-1 : Int)) - (1 : Int) ∧ (x3 + (-1 : Int)) - (1 : Int) < (20 : Int)) ∧ ∀ M2 : bk_M, M2 = bk_up M 52 i0 ((x3 + (-1 : Int)) - (1 : Int)) (bk_and (M 52 i0 ((x3 + (-1 : Int)) - (1 : Int))) (M 52 i0 (x3 + (-1 : Int)))) → bk_r32 (x4 + (1 : Int)) ∧ bk_wp (bk_C d) P_132 Q 0 14 [bk_c 9 i0, bk_c 5 i1, bk_i x2, bk_i (x3 + (-1 : Int)), bk_i (x4 + (1 : Int)), bk_i (bk_and (M 52 i0 ((x3 + (-1 : Int)) - (1 : Int))) (M 52 i0 (x3 + (-1 : Int))))] [] M2))))) ∧ (¬ (M 49 i0 x4 = (15 : Int)) → ((0 : Int) ≤ x4 ∧ x4 < (40 : Int)) ∧ ((M 49 i0 x4 ≠ (14 : Int) → (((20 : Int) ≤ x3 → bk_r32 (x4 + (1 : Int)) ∧ bk_wp (bk_C d) P_132 Q 0 14 [bk_c 9 i0, bk_c 5 i1, bk_i x2, bk_i x3, bk_i (x4 + (1 : Int)), bk_x] [] M) ∧ (¬ ((20 : Int) ≤ x3) → bk_C d 0 133 [bk_c 9 i0, bk_c 5 i1, bk_i x4] M (fun t5 r3 M4 => t5 = 0 ∧ ((0 : Int) ≤ x3 ∧ x3 < (20 : Int)) ∧ ∀ M6 : bk_M, M6 = bk_up M4 52 i0 x3 r3 → bk_r32 (x3 + (1 : Int)) ∧ bk_r32 (x4 + (1 : Int)) ∧ bk_wp (bk_C d) P_132 Q 0 14 [bk_c 9 i0, bk_c 5 i1, bk_i x2, bk_i (x3 + (1 : Int)), bk_i (x4 + (1 : Int)), bk_x] [] M6)))) ∧ (¬ (M 49 i0 x4 ≠ (14 : Int)) → ((x3 ≤ (1 : Int) → bk_r32 (x4 + (1 : Int)) ∧ bk_wp (bk_C d) P_132 Q 0 14 [bk_c 9 i0, bk_c 5 i1, bk_i x2, bk_i x3, bk_i (x4 + (1 : Int)), bk_x] [] M) ∧ (¬ (x3 ≤ (1 : Int)) → bk_r32 (x3 + (-1 : Int)) ∧ bk_r32 ((x3 + (-1 : Int)) - (1 : Int)) ∧ ((0 : Int) ≤ (x3 + (-1 : Int)) - (1 : Int) ∧ (x3 + (-1 : Int)) - (1 : Int) < (20 : Int)) ∧ ((0 : Int) ≤ x3 + (-1 : Int) ∧ x3 + (-1 : Int) < (20 : Int)) ∧ bk_r32 ((x3 + (-1 : Int)) - (1 : Int)) ∧ ((0 : Int) ≤ x4 ∧ x4 < (40 : Int)) ∧ ((M 49 i0 x4 ≠ (15 : Int) → bk_r32 ((x3 + (-1 : Int)) - (1 : Int)) ∧ ((0 : Int) ≤ (x3 + (-1 : Int)) - (1 : Int) ∧ (x3 + (-1 : Int)) - (1 : Int) < (20 : Int)) ∧ ((0 : Int) ≤ x3 + (-1 : Int) ∧ x3 + (-1 : Int) < (20 : Int)) ∧ ((0 : Int) ≤ (x3 + (-1 : Int)) - (1 : Int) ∧ (x3 + (-1 : Int)) - (1 : Int) < (20 : Int)) ∧ ∀ M7 : bk_M, M7 = bk_up M 52 i0 ((x3 + (-1 : Int)) - (1 : Int)) (bk_or (M 52 i0 ((x3 + (-1 : Int)) - (1 : Int))) (M 52 i0 (x3 + (-1 : Int)))) → bk_r32 (x4 + (1 : Int)) ∧ bk_wp (bk_C d) P_132 Q 0 14 [bk_c 9 i0, bk_c 5 i1, bk_i x2, bk_i (x3 + (-1 : Int)), bk_i (x4 + (1 : Int)), bk_i (bk_and (M 52 i0 ((x3 + (-1 : Int)) - (1 : Int))) (M 52 i0 (x3 + (-1 : Int))))] [] M7) ∧ (¬ (M 49 i0 x4 ≠ (15 : Int)) → ((0 : Int) ≤ (x3 + (-1 : Int)) - (1 : Int) ∧ (x3 + (-1 : Int)) - (1 : Int) < (20 : Int)) ∧ ∀ M8 : bk_M, M8 = bk_up M 52 i0 ((x3 + (-1 : Int)) - (1 : Int)) (bk_and (M 52 i0 ((x3 + (-1 : Int)) - (1 : Int))) (M 52 i0 (x3 + (-1 : Int)))) → bk_r32 (x4 + (1 : Int)) ∧ bk_wp (bk_C d) P_132 Q 0 14 [bk_c 9 i0, bk_c 5 i1, bk_i x2, bk_i (x3 + (-1 : Int)), bk_i (x4 + (1 : Int)), bk_i (bk_and (M 52 i0 ((x3 + (-1 : Int)) - (1 : Int))) (M 52 i0 (x3 + (-1 : Int))))] [] M8))))))))) ∧ (¬ (M 49 i0 x4 ≠ (16 : Int)) → ((x3 ≤ (0 : Int) → bk_r32 (x4 + (1 : Int)) ∧ bk_wp (bk_C d) P_132 Q 0 14 [bk_c 9 i0, bk_c 5 i1, bk_i x2, bk_i x3, bk_i (x4 + (1 : Int)), bk_x] [] M) ∧ (¬ (x3 ≤ (0 : Int)) → bk_r32 (x3 - (1 : Int)) ∧ bk_r32 (x3 - (1 : Int)) ∧ ((0 : Int) ≤ x3 - (1 : Int) ∧ x3 - (1 : Int) < (20 : Int)) ∧ ((0 : Int) ≤ x3 - (1 : Int) ∧ x3 - (1 : Int) < (20 : Int)) ∧ ∀ M9 : bk_M, M9 = bk_up M 52 i0 (x3 - (1 : Int)) (bk_and x2 (bk_xor (M 52 i0 (x3 - (1 : Int))) (-1 : Int))) → bk_r32 (x4 + (1 : Int)) ∧ bk_wp (bk_C d) P_132 Q 0 14 [bk_c 9 i0, bk_c 5 i1, bk_i x2, bk_i x3, bk_i (x4 + (1 : Int)), bk_x] [] M9)))))) := bk_iff [14] 40
theorem E_133 {d : Nat} {Q : bk_Q} (i0 : Nat) (i1 : Nat) (a2 : Int) (M : bk_M) : bk_C (d + 1) 0 133 [bk_c 9 i0, bk_c 5 i1, bk_i a2] M Q ↔ bk_wp (bk_C d) P_133 Q 0 5 [bk_c 9 i0, bk_c 5 i1, bk_i a2, bk_i (0 : Int), bk_i (0 : Int)] [] M := bk_iff (d := d) (P := P_133) (b := 0) (l := 0) (ls := [bk_c 9 i0, bk_c 5 i1, bk_i a2, bk_x, bk_x]) (st := []) (M := M) [5] 40
theorem L_133_5 {d : Nat} {Q : bk_Q} (i0 : Nat) (i1 : Nat) (x2 : Int) (x3 : Int) (x4 : Int) (M : bk_M) : bk_wp (bk_C d) P_133 Q 0 5 [bk_c 9 i0, bk_c 5 i1, bk_i x2, bk_i x3, bk_i x4] [] M ↔ ((M 5 i1 (6 : Int) ≤ x4 → Q 0 x3 M) ∧ (¬ (M 5 i1 (6 : Int) ≤ x4) → bk_C d 0 134 [bk_c 9 i0, bk_c 5 i1, bk_i x4, bk_i x2] M (fun t3 r1 M2 => t3 = 0 ∧ ((r1 = (0 : Int) → bk_r32 (x4 + (1 : Int)) ∧ bk_wp (bk_C d) P_133 Q 0 5 [bk_c 9 i0, bk_c 5 i1, bk_i x2, bk_i x3, bk_i (x4 + (1 : Int))] [] M2) ∧ (¬ (r1 = (0 : Int)) → ((0 : Int) ≤ x4 ∧ x4 < 32 ∧ bk_r32 ((1 : Int) * 2 ^ x4.toNat)) ∧ bk_r32 (x4 + (1 : Int)) ∧ bk_wp (bk_C d) P_133 Q 0 5 [bk_c 9 i0, bk_c 5 i1, bk_i x2, bk_i (bk_or x3 ((1 : Int) * 2 ^ x4.toNat)), bk_i (x4 + (1 : Int))] [] M2))))) := bk_iff [5] 40
set_option maxRecDepth 20000 in
theorem E_134 {d : Nat} {Q : bk_Q} (i0 : Nat) (i1 : Nat) (a2 : Int) (a3 : Int) (M : bk_M) : bk_C (d + 1) 0 134 [bk_c 9 i0, bk_c 5 i1, bk_i a2, bk_i a3] M Q ↔ ((0 : Int) ≤ a2 ∧ a2 < (10 : Int)) ∧ bk_C d 0 41 [bk_c 29 i1, bk_i (M 30 i1 a2)] M (fun t3 r1 M2 => t3 = 0 ∧ ((0 : Int) ≤ a3 ∧ a3 < (40 : Int)) ∧ ((M2 49 i0 a3 = (6 : Int) → ((r1 ≠ (0 : Int) → ((0 : Int) = 0 ∨ (0 : Int) = 1) ∧ Q 0 (0 : Int) M2) ∧ (¬ (r1 ≠ (0 : Int)) → ((1 : Int) = 0 ∨ (1 : Int) = 1) ∧ Q 0 (1 : Int) M2))) ∧ (M2 49 i0 a3 ≠ (6 : Int) → ((M2 49 i0 a3 = (7 : Int) → ((r1 ≠ (1 : Int) → ((0 : Int) = 0 ∨ (0 : Int) = 1) ∧ Q 0 (0 : Int) M2) ∧ (¬ (r1 ≠ (1 : Int)) → ((1 : Int) = 0 ∨ (1 : Int) = 1) ∧ Q 0 (1 : Int) M2))) ∧ (M2 49 i0 a3 ≠ (7 : Int) → ((M2 49 i0 a3 = (8 : Int) → bk_C d 0 135 [bk_c 9 i0, bk_i a2, bk_i a3] M2 (fun t6 r4 M5 => t6 = 0 ∧ (r4 = 0 ∨ r4 = 1) ∧ Q 0 r4 M5)) ∧ (M2 49 i0 a3 ≠ (8 : Int) → ((M2 49 i0 a3 = (9 : Int) → bk_C d 0 135 [bk_c 9 i0, bk_i a2, bk_i a3] M2 (fun t9 r7 M8 => t9 = 0 ∧ (r7 = 0 ∨ r7 = 1) ∧ Q 0 r7 M8)) ∧ (M2 49 i0 a3 ≠ (9 : Int) → ((M2 49 i0 a3 = (10 : Int) → bk_C d 0 135 [bk_c 9 i0, bk_i a2, bk_i a3] M2 (fun t12 r10 M11 => t12 = 0 ∧ (r10 = 0 ∨ r10 = 1) ∧ Q 0 r10 M11)) ∧ (M2 49 i0 a3 ≠ (10 : Int) → ((M2 49 i0 a3 = (11 : Int) → bk_C d 0 135 [bk_c 9 i0, bk_i a2, bk_i a3] M2 (fun t15 r13 M14 => t15 = 0 ∧ (r13 = 0 ∨ r13 = 1) ∧ Q 0 r13 M14)) ∧ (M2 49 i0 a3 ≠ (11 : Int) → ((M2 49 i0 a3 = (12 : Int) → bk_C d 0 135 [bk_c 9 i0, bk_i a2, bk_i a3] M2 (fun t18 r16 M17 => t18 = 0 ∧ (r16 = 0 ∨ r16 = 1) ∧ Q 0 r16 M17)) ∧ (M2 49 i0 a3 ≠ (12 : Int) → ((M2 49 i0 a3 = (13 : Int) → bk_C d 0 135 [bk_c 9 i0, bk_i a2, bk_i a3] M2 (fun t21 r19 M20 => t21 = 0 ∧ (r19 = 0 ∨ r19 = 1) ∧ Q 0 r19 M20)) ∧ (M2 49 i0 a3 ≠ (13 : Int) → ((M2 49 i0 a3 = (14 : Int) → bk_C d 0 135 [bk_c 9 i0, bk_i a2, bk_i a3] M2 (fun t24 r22 M23 => t24 = 0 ∧ (r22 = 0 ∨ r22 = 1) ∧ Q 0 r22 M23)) ∧ (M2 49 i0 a3 ≠ (14 : Int) → ((M2 49 i0 a3 = (15 : Int) → bk_C d 0 135 [bk_c 9 i0, bk_i a2, bk_i a3] M2 (fun t27 r25 M26 => t27 = 0 ∧ (r25 = 0 ∨ r25 = 1) ∧ Q 0 r25 M26)) ∧ (M2 49 i0 a3 ≠ (15 : Int) → ((M2 49 i0 a3 = (16 : Int) → bk_C d 0 135 [bk_c 9 i0, bk_i a2, bk_i a3] M2 (fun t30 r28 M29 => t30 = 0 ∧ (r28 = 0 ∨ r28 = 1) ∧ Q 0 r28 M29)) ∧ (M2 49 i0 a3 ≠ (16 : Int) → ((M2 49 i0 a3 = (17 : Int) → ((r1 ≠ (2 : Int) → ((0 : Int) = 0 ∨ (0 : Int) = 1) ∧ Q 0 (0 : Int) M2) ∧ (¬ (r1 ≠ (2 : Int)) → ((1 : Int) = 0 ∨ (1 : Int) = 1) ∧ Q 0 (1 : Int) M2))) ∧ (M2 49 i0 a3 ≠ (17 : Int) → ((M2 49 i0 a3 = (18 : Int) → ((0 : Int) ≤ M 30 i1 a2 ∧ (0 : Int) < (6 : Int)) ∧ ((0 : Int) ≤ (M 30 i1 a2) / (6 : Int) ∧ (M 30 i1 a2) / (6 : Int) < (6 : Int)) ∧ ((0 : Int) ≤ M 30 i1 a2 ∧ (0 : Int) < (6 : Int)) ∧ bk_r32 ((M2 29 i1 ((M 30 i1 a2) / (6 : Int))) - ((M 30 i1 a2) % (6 : Int))) ∧ bk_r32 (-((M2 29 i1 ((M 30 i1 a2) / (6 : Int))) - ((M 30 i1 a2) % (6 : Int)))) ∧ (((if (M2 29 i1 ((M 30 i1 a2) / (6 : Int))) - ((M 30 i1 a2) % (6 : Int)) < 0 then -((M2 29 i1 ((M 30 i1 a2) / (6 : Int))) - ((M 30 i1 a2) % (6 : Int))) else (M2 29 i1 ((M 30 i1 a2) / (6 : Int))) - ((M 30 i1 a2) % (6 : Int))) ≠ (1 : Int) → ((0 : Int) = 0 ∨ (0 : Int) = 1) ∧ Q 0 (0 : Int) M2) ∧ (¬ ((if (M2 29 i1 ((M 30 i1 a2) / (6 : Int))) - ((M 30 i1 a2) % (6 : Int)) < 0 then -((M2 29 i1 ((M 30 i1 a2) / (6 : Int))) - ((M 30 i1 a2) % (6 : Int))) else (M2 29 i1 ((M 30 i1 a2) / (6 : Int))) - ((M 30 i1 a2) % (6 : Int))) ≠ (1 : Int)) → ((1 : Int) = 0 ∨ (1 : Int) = 1) ∧ Q 0 (1 : Int) M2))) ∧ (M2 49 i0 a3 ≠ (18 : Int) → ((M2 49 i0 a3 = (19 : Int) → ((r1 = (2 : Int) → ((0 : Int) = 0 ∨ (0 : Int) = 1) ∧ Q 0 (0 : Int) M2) ∧ (¬ (r1 = (2 : Int)) → ((0 : Int) ≤ a3 ∧ a3 < (40 : Int)) ∧ ((0 : Int) ≤ M2 50 i0 a3 ∧ M2 50 i0 a3 < (10 : Int)) ∧ bk_C d 0 41 [bk_c 29 i1, bk_i (M2 30 i1 (M2 50 i0 a3))] M2 (fun t33 r31 M32 => t33 = 0 ∧ ((r1 ≠ r31 → ((0 : Int) = 0 ∨ (0 : Int) = 1) ∧ Q 0 (0 : Int) M32) ∧ (¬ (r1 ≠ r31) → ((1 : Int) = 0 ∨ (1 : Int) = 1) ∧ Q 0 (1 : Int) M32)))))) ∧ (M2 49 i0 a3 ≠ (19 : Int) → ((M2 49 i0 a3 = (20 : Int) → ((0 : Int) ≤ M 30 i1 a2 ∧ (0 : Int) < (6 : Int)) ∧ ((0 : Int) ≤ a3 ∧ a3 < (40 : Int)) ∧ ((0 : Int) ≤ M2 50 i0 a3 ∧ M2 50 i0 a3 < (10 : Int)) ∧ ((0 : Int) ≤ M2 30 i1 (M2 50 i0 a3) ∧ (0 : Int) < (6 : Int)) ∧ (((M2 30 i1 (M2 50 i0 a3)) / (6 : Int) ≤ (M 30 i1 a2) / (6 : Int) → ((0 : Int) = 0 ∨ (0 : Int) = 1) ∧ Q 0 (0 : Int) M2) ∧ (¬ ((M2 30 i1 (M2 50 i0 a3)) / (6 : Int) ≤ (M 30 i1 a2) / (6 : Int)) → ((1 : Int) = 0 ∨ (1 : Int) = 1) ∧ Q 0 (1 : Int) M2))) ∧ (M2 49 i0 a3 ≠ (20 : Int) → ((M2 49 i0 a3 = (21 : Int) → ((0 : Int) ≤ a2 ∧ a2 < (10 : Int)) ∧ bk_C d 0 135 [bk_c 9 i0, bk_i (M2 31 i1 a2), bk_i a3] M2 (fun t36 r34 M35 => t36 = 0 ∧ (r34 = 0 ∨ r34 = 1) ∧ Q 0 r34 M35)) ∧ (M2 49 i0 a3 ≠ (21 : Int) → ((M2 49 i0 a3 = (22 : Int) → ((0 : Int) ≤ M 30 i1 a2 ∧ M 30 i1 a2 < (36 : Int)) ∧ bk_C d 0 135 [bk_c 9 i0, bk_i (M2 28 i1 (M 30 i1 a2)), bk_i a3] M2 (fun t39 r37 M38 => t39 = 0 ∧ (r37 = 0 ∨ r37 = 1) ∧ Q 0 r37 M38)) ∧ (M2 49 i0 a3 ≠ (22 : Int) → ((M2 49 i0 a3 = (23 : Int) → ((0 : Int) ≤ a2 ∧ a2 < (10 : Int)) ∧ bk_C d 0 135 [bk_c 9 i0, bk_i (M2 32 i1 a2), bk_i a3] M2 (fun t42 r40 M41 => t42 = 0 ∧ (r40 = 0 ∨ r40 = 1) ∧ Q 0 r40 M41)) ∧ (M2 49 i0 a3 ≠ (23 : Int) → bk_C d 0 135 [bk_c 9 i0, bk_i a2, bk_i a3] M2 (fun t45 r43 M44 => t45 = 0 ∧ (r43 = 0 ∨ r43 = 1) ∧ Q 0 r43 M44)))))))))))))))))))))))))))))))))))))) := bk_iff (d := d) (P := P_134) (b := 0) (l := 0) (ls := [bk_c 9 i0, bk_c 5 i1, bk_i a2, bk_i a3, bk_x, bk_x]) (st := []) (M := M) [] 40
theorem E_135 {d : Nat} {Q : bk_Q} (i0 : Nat) (a1 : Int) (a2 : Int) (M : bk_M) : bk_C (d + 1) 0 135 [bk_c 9 i0, bk_i a1, bk_i a2] M Q ↔ ((0 : Int) ≤ a2 ∧ a2 < (40 : Int)) ∧ ((M 51 i0 a2 ≠ (60 : Int) → ((0 : Int) ≤ a2 ∧ a2 < (40 : Int)) ∧ ((M 51 i0 a2 ≠ (62 : Int) → ((0 : Int) ≤ a2 ∧ a2 < (40 : Int)) ∧ ((a1 ≠ M 50 i0 a2 → ((0 : Int) = 0 ∨ (0 : Int) = 1) ∧ Q 0 (0 : Int) M) ∧ (¬ (a1 ≠ M 50 i0 a2) → ((1 : Int) = 0 ∨ (1 : Int) = 1) ∧ Q 0 (1 : Int) M))) ∧ (¬ (M 51 i0 a2 ≠ (62 : Int)) → ((0 : Int) ≤ a2 ∧ a2 < (40 : Int)) ∧ ((a1 ≤ M 50 i0 a2 → ((0 : Int) = 0 ∨ (0 : Int) = 1) ∧ Q 0 (0 : Int) M) ∧ (¬ (a1 ≤ M 50 i0 a2) → ((1 : Int) = 0 ∨ (1 : Int) = 1) ∧ Q 0 (1 : Int) M))))) ∧ (¬ (M 51 i0 a2 ≠ (60 : Int)) → ((0 : Int) ≤ a2 ∧ a2 < (40 : Int)) ∧ ((M 50 i0 a2 ≤ a1 → ((0 : Int) = 0 ∨ (0 : Int) = 1) ∧ Q 0 (0 : Int) M) ∧ (¬ (M 50 i0 a2 ≤ a1) → ((1 : Int) = 0 ∨ (1 : Int) = 1) ∧ Q 0 (1 : Int) M)))) := bk_iff (d := d) (P := P_135) (b := 0) (l := 0) (ls := [bk_c 9 i0, bk_i a1, bk_i a2]) (st := []) (M := M) [] 40
set_option maxRecDepth 20000 in
theorem E_136 {d : Nat} {Q : bk_Q} (a0 : Int) (M : bk_M) : bk_C (d + 1) 0 136 [bk_i a0] M Q ↔ ((0 : Int) ≤ (1 : Int) ∧ (1 : Int) < 32) ∧ bk_r32 (a0 - (bk_and (bk_ushr a0 (1 : Int)) (1431655765 : Int))) ∧ ((0 : Int) ≤ (2 : Int) ∧ (2 : Int) < 32) ∧ bk_r32 ((bk_and (a0 - (bk_and (bk_ushr a0 (1 : Int)) (1431655765 : Int))) (858993459 : Int)) + (bk_and (bk_ushr (a0 - (bk_and (bk_ushr a0 (1 : Int)) (1431655765 : Int))) (2 : Int)) (858993459 : Int))) ∧ ((0 : Int) ≤ (4 : Int) ∧ (4 : Int) < 32) ∧ bk_r32 (((bk_and (a0 - (bk_and (bk_ushr a0 (1 : Int)) (1431655765 : Int))) (858993459 : Int)) + (bk_and (bk_ushr (a0 - (bk_and (bk_ushr a0 (1 : Int)) (1431655765 : Int))) (2 : Int)) (858993459 : Int))) + (bk_ushr ((bk_and (a0 - (bk_and (bk_ushr a0 (1 : Int)) (1431655765 : Int))) (858993459 : Int)) + (bk_and (bk_ushr (a0 - (bk_and (bk_ushr a0 (1 : Int)) (1431655765 : Int))) (2 : Int)) (858993459 : Int))) (4 : Int))) ∧ ((0 : Int) ≤ (8 : Int) ∧ (8 : Int) < 32) ∧ bk_r32 ((bk_and (((bk_and (a0 - (bk_and (bk_ushr a0 (1 : Int)) (1431655765 : Int))) (858993459 : Int)) + (bk_and (bk_ushr (a0 - (bk_and (bk_ushr a0 (1 : Int)) (1431655765 : Int))) (2 : Int)) (858993459 : Int))) + (bk_ushr ((bk_and (a0 - (bk_and (bk_ushr a0 (1 : Int)) (1431655765 : Int))) (858993459 : Int)) + (bk_and (bk_ushr (a0 - (bk_and (bk_ushr a0 (1 : Int)) (1431655765 : Int))) (2 : Int)) (858993459 : Int))) (4 : Int))) (252645135 : Int)) + (bk_ushr (bk_and (((bk_and (a0 - (bk_and (bk_ushr a0 (1 : Int)) (1431655765 : Int))) (858993459 : Int)) + (bk_and (bk_ushr (a0 - (bk_and (bk_ushr a0 (1 : Int)) (1431655765 : Int))) (2 : Int)) (858993459 : Int))) + (bk_ushr ((bk_and (a0 - (bk_and (bk_ushr a0 (1 : Int)) (1431655765 : Int))) (858993459 : Int)) + (bk_and (bk_ushr (a0 - (bk_and (bk_ushr a0 (1 : Int)) (1431655765 : Int))) (2 : Int)) (858993459 : Int))) (4 : Int))) (252645135 : Int)) (8 : Int))) ∧ ((0 : Int) ≤ (16 : Int) ∧ (16 : Int) < 32) ∧ bk_r32 (((bk_and (((bk_and (a0 - (bk_and (bk_ushr a0 (1 : Int)) (1431655765 : Int))) (858993459 : Int)) + (bk_and (bk_ushr (a0 - (bk_and (bk_ushr a0 (1 : Int)) (1431655765 : Int))) (2 : Int)) (858993459 : Int))) + (bk_ushr ((bk_and (a0 - (bk_and (bk_ushr a0 (1 : Int)) (1431655765 : Int))) (858993459 : Int)) + (bk_and (bk_ushr (a0 - (bk_and (bk_ushr a0 (1 : Int)) (1431655765 : Int))) (2 : Int)) (858993459 : Int))) (4 : Int))) (252645135 : Int)) + (bk_ushr (bk_and (((bk_and (a0 - (bk_and (bk_ushr a0 (1 : Int)) (1431655765 : Int))) (858993459 : Int)) + (bk_and (bk_ushr (a0 - (bk_and (bk_ushr a0 (1 : Int)) (1431655765 : Int))) (2 : Int)) (858993459 : Int))) + (bk_ushr ((bk_and (a0 - (bk_and (bk_ushr a0 (1 : Int)) (1431655765 : Int))) (858993459 : Int)) + (bk_and (bk_ushr (a0 - (bk_and (bk_ushr a0 (1 : Int)) (1431655765 : Int))) (2 : Int)) (858993459 : Int))) (4 : Int))) (252645135 : Int)) (8 : Int))) + (bk_ushr ((bk_and (((bk_and (a0 - (bk_and (bk_ushr a0 (1 : Int)) (1431655765 : Int))) (858993459 : Int)) + (bk_and (bk_ushr (a0 - (bk_and (bk_ushr a0 (1 : Int)) (1431655765 : Int))) (2 : Int)) (858993459 : Int))) + (bk_ushr ((bk_and (a0 - (bk_and (bk_ushr a0 (1 : Int)) (1431655765 : Int))) (858993459 : Int)) + (bk_and (bk_ushr (a0 - (bk_and (bk_ushr a0 (1 : Int)) (1431655765 : Int))) (2 : Int)) (858993459 : Int))) (4 : Int))) (252645135 : Int)) + (bk_ushr (bk_and (((bk_and (a0 - (bk_and (bk_ushr a0 (1 : Int)) (1431655765 : Int))) (858993459 : Int)) + (bk_and (bk_ushr (a0 - (bk_and (bk_ushr a0 (1 : Int)) (1431655765 : Int))) (2 : Int)) (858993459 : Int))) + (bk_ushr ((bk_and (a0 - (bk_and (bk_ushr a0 (1 : Int)) (1431655765 : Int))) (858993459 : Int)) + (bk_and (bk_ushr (a0 - (bk_and (bk_ushr a0 (1 : Int)) (1431655765 : Int))) (2 : Int)) (858993459 : Int))) (4 : Int))) (252645135 : Int)) (8 : Int))) (16 : Int))) ∧ Q 0 (bk_and (((bk_and (((bk_and (a0 - (bk_and (bk_ushr a0 (1 : Int)) (1431655765 : Int))) (858993459 : Int)) + (bk_and (bk_ushr (a0 - (bk_and (bk_ushr a0 (1 : Int)) (1431655765 : Int))) (2 : Int)) (858993459 : Int))) + (bk_ushr ((bk_and (a0 - (bk_and (bk_ushr a0 (1 : Int)) (1431655765 : Int))) (858993459 : Int)) + (bk_and (bk_ushr (a0 - (bk_and (bk_ushr a0 (1 : Int)) (1431655765 : Int))) (2 : Int)) (858993459 : Int))) (4 : Int))) (252645135 : Int)) + (bk_ushr (bk_and (((bk_and (a0 - (bk_and (bk_ushr a0 (1 : Int)) (1431655765 : Int))) (858993459 : Int)) + (bk_and (bk_ushr (a0 - (bk_and (bk_ushr a0 (1 : Int)) (1431655765 : Int))) (2 : Int)) (858993459 : Int))) + (bk_ushr ((bk_and (a0 - (bk_and (bk_ushr a0 (1 : Int)) (1431655765 : Int))) (858993459 : Int)) + (bk_and (bk_ushr (a0 - (bk_and (bk_ushr a0 (1 : Int)) (1431655765 : Int))) (2 : Int)) (858993459 : Int))) (4 : Int))) (252645135 : Int)) (8 : Int))) + (bk_ushr ((bk_and (((bk_and (a0 - (bk_and (bk_ushr a0 (1 : Int)) (1431655765 : Int))) (858993459 : Int)) + (bk_and (bk_ushr (a0 - (bk_and (bk_ushr a0 (1 : Int)) (1431655765 : Int))) (2 : Int)) (858993459 : Int))) + (bk_ushr ((bk_and (a0 - (bk_and (bk_ushr a0 (1 : Int)) (1431655765 : Int))) (858993459 : Int)) + (bk_and (bk_ushr (a0 - (bk_and (bk_ushr a0 (1 : Int)) (1431655765 : Int))) (2 : Int)) (858993459 : Int))) (4 : Int))) (252645135 : Int)) + (bk_ushr (bk_and (((bk_and (a0 - (bk_and (bk_ushr a0 (1 : Int)) (1431655765 : Int))) (858993459 : Int)) + (bk_and (bk_ushr (a0 - (bk_and (bk_ushr a0 (1 : Int)) (1431655765 : Int))) (2 : Int)) (858993459 : Int))) + (bk_ushr ((bk_and (a0 - (bk_and (bk_ushr a0 (1 : Int)) (1431655765 : Int))) (858993459 : Int)) + (bk_and (bk_ushr (a0 - (bk_and (bk_ushr a0 (1 : Int)) (1431655765 : Int))) (2 : Int)) (858993459 : Int))) (4 : Int))) (252645135 : Int)) (8 : Int))) (16 : Int))) (63 : Int)) M := bk_iff (d := d) (P := P_136) (b := 0) (l := 0) (ls := [bk_i a0]) (st := []) (M := M) [] 40
theorem E_137 {d : Nat} {Q : bk_Q} (a1 : Int) (M : bk_M) : bk_C (d + 1) 0 137 [bk_c 11 0, bk_i a1] M Q ↔ ((a1 < (0 : Int) → ((0 : Int) = 0 ∨ (0 : Int) = 1) ∧ Q 0 (0 : Int) M) ∧ (¬ (a1 < (0 : Int)) → ((a1 < (2 : Int) → ((0 : Int) ≤ a1 ∧ a1 < (2 : Int)) ∧ bk_C d 0 58 [bk_c 5 (0 + a1.toNat + 11), bk_c 5 ((M 11 0 (1 : Int)).toNat)] M (fun t3 r1 M2 => t3 = 0 ∧ ((0 : Int) ≤ a1 ∧ a1 < (2 : Int)) ∧ bk_C d 0 138 [bk_c 9 (0 + a1.toNat + 2), bk_c 9 ((M2 11 0 (7 : Int)).toNat)] M2 (fun t6 r4 M5 => t6 = 0 ∧ ((0 : Int) ≤ a1 ∧ a1 < (2 : Int)) ∧ ((1 : Int) = 0 ∨ (1 : Int) = 1) ∧ ∀ M7 : bk_M, M7 = bk_up M5 4 (0 + a1.toNat) (2 : Int) (1 : Int) → ((1 : Int) = 0 ∨ (1 : Int) = 1) ∧ Q 0 (1 : Int) M7))) ∧ (¬ (a1 < (2 : Int)) → ((0 : Int) = 0 ∨ (0 : Int) = 1) ∧ Q 0 (0 : Int) M)))) := bk_iff (d := d) (P := P_137) (b := 0) (l := 0) (ls := [bk_c 11 0, bk_i a1]) (st := []) (M := M) [] 40
theorem E_138 {d : Nat} {Q : bk_Q} (i0 : Nat) (i1 : Nat) (M : bk_M) : bk_C (d + 1) 0 138 [bk_c 9 i0, bk_c 9 i1] M Q ↔ ∀ M1 : bk_M, M1 = bk_up M 9 i0 (0 : Int) (M 9 i1 (0 : Int)) → ∀ M2 : bk_M, M2 = bk_up M1 9 i0 (1 : Int) (M1 9 i1 (1 : Int)) → ((0 : Int) ≤ (40 : Int) ∧ (0 : Int) ≤ (0 : Int) ∧ (0 : Int) + (40 : Int) ≤ (40 : Int) ∧ (0 : Int) ≤ (0 : Int) ∧ (0 : Int) + (40 : Int) ≤ (40 : Int)) ∧ ∀ M3 : bk_M, M3 = bk_cpy M2 49 i1 (0 : Int) 49 i0 (0 : Int) (40 : Int) → ((0 : Int) ≤ (40 : Int) ∧ (0 : Int) ≤ (0 : Int) ∧ (0 : Int) + (40 : Int) ≤ (40 : Int) ∧ (0 : Int) ≤ (0 : Int) ∧ (0 : Int) + (40 : Int) ≤ (40 : Int)) ∧ ∀ M4 : bk_M, M4 = bk_cpy M3 50 i1 (0 : Int) 50 i0 (0 : Int) (40 : Int) → ((0 : Int) ≤ (40 : Int) ∧ (0 : Int) ≤ (0 : Int) ∧ (0 : Int) + (40 : Int) ≤ (40 : Int) ∧ (0 : Int) ≤ (0 : Int) ∧ (0 : Int) + (40 : Int) ≤ (40 : Int)) ∧ ∀ M5 : bk_M, M5 = bk_cpy M4 51 i1 (0 : Int) 51 i0 (0 : Int) (40 : Int) → Q 0 0 M5 := bk_iff (d := d) (P := P_138) (b := 0) (l := 0) (ls := [bk_c 9 i0, bk_c 9 i1]) (st := []) (M := M) [] 40
theorem E_139 {d : Nat} {Q : bk_Q} (a1 : Int) (M : bk_M) : bk_C (d + 1) 0 139 [bk_c 11 0, bk_i a1] M Q ↔ ((a1 < (0 : Int) → ((0 : Int) = 0 ∨ (0 : Int) = 1) ∧ Q 0 (0 : Int) M) ∧ (¬ (a1 < (0 : Int)) → (((2 : Int) ≤ a1 → ((0 : Int) = 0 ∨ (0 : Int) = 1) ∧ Q 0 (0 : Int) M) ∧ (¬ ((2 : Int) ≤ a1) → ((0 : Int) ≤ a1 ∧ a1 < (2 : Int)) ∧ ((M 4 (0 + a1.toNat) (2 : Int) ≠ (0 : Int) → ((0 : Int) ≤ a1 ∧ a1 < (2 : Int)) ∧ bk_C d 0 58 [bk_c 5 ((M 11 0 (1 : Int)).toNat), bk_c 5 (0 + a1.toNat + 11)] M (fun t3 r1 M2 => t3 = 0 ∧ ((0 : Int) ≤ a1 ∧ a1 < (2 : Int)) ∧ bk_C d 0 138 [bk_c 9 ((M2 11 0 (7 : Int)).toNat), bk_c 9 (0 + a1.toNat + 2)] M2 (fun t6 r4 M5 => t6 = 0 ∧ bk_C d 0 38 [bk_c 3 0] M5 (fun t9 r7 M8 => t9 = 0 ∧ ((1 : Int) = 0 ∨ (1 : Int) = 1) ∧ Q 0 (1 : Int) M8)))) ∧ (¬ (M 4 (0 + a1.toNat) (2 : Int) ≠ (0 : Int)) → ((0 : Int) = 0 ∨ (0 : Int) = 1) ∧ Q 0 (0 : Int) M)))))) := bk_iff (d := d) (P := P_139) (b := 0) (l := 0) (ls := [bk_c 11 0, bk_i a1]) (st := []) (M := M) [] 40
theorem E_140 {d : Nat} {Q : bk_Q} (a1 : Int) (M : bk_M) : bk_C (d + 1) 0 140 [bk_c 11 0, bk_i a1] M Q ↔ ((a1 = (0 : Int) → Q 0 (M 5 ((M 11 0 (1 : Int)).toNat) (6 : Int)) M) ∧ (a1 ≠ (0 : Int) → ((a1 = (1 : Int) → Q 0 (M 5 ((M 11 0 (1 : Int)).toNat) (0 : Int)) M) ∧ (a1 ≠ (1 : Int) → ((a1 = (2 : Int) → Q 0 (M 5 ((M 11 0 (1 : Int)).toNat) (1 : Int)) M) ∧ (a1 ≠ (2 : Int) → ((a1 = (3 : Int) → Q 0 (M 5 ((M 11 0 (1 : Int)).toNat) (2 : Int)) M) ∧ (a1 ≠ (3 : Int) → ((a1 = (4 : Int) → Q 0 (M 5 ((M 11 0 (1 : Int)).toNat) (3 : Int)) M) ∧ (a1 ≠ (4 : Int) → ((a1 = (5 : Int) → Q 0 (M 5 ((M 11 0 (1 : Int)).toNat) (11 : Int)) M) ∧ (a1 ≠ (5 : Int) → ((a1 = (6 : Int) → Q 0 (M 10 0 (1 : Int)) M) ∧ (a1 ≠ (6 : Int) → Q 0 (-1 : Int) M)))))))))))))) := bk_iff (d := d) (P := P_140) (b := 0) (l := 0) (ls := [bk_c 11 0, bk_i a1]) (st := []) (M := M) [] 40
theorem E_141 {d : Nat} {Q : bk_Q} (a1 : Int) (a2 : Int) (M : bk_M) : bk_C (d + 1) 0 141 [bk_c 11 0, bk_i a1, bk_i a2] M Q ↔ bk_C d 0 77 [bk_c 11 0, bk_i a1] M (fun t3 r1 M2 => t3 = 0 ∧ ((r1 = (0 : Int) → False) ∧ (¬ (r1 = (0 : Int)) → ((a2 < (0 : Int) → False) ∧ (¬ (a2 < (0 : Int)) → ((a2 ≤ (4 : Int) → ((0 : Int) ≤ a1 ∧ a1 < (10 : Int)) ∧ ((a2 = (0 : Int) → ((0 : Int) ≤ M2 30 ((M2 11 0 (1 : Int)).toNat) a1 ∧ (0 : Int) < (6 : Int)) ∧ Q 0 ((M2 30 ((M2 11 0 (1 : Int)).toNat) a1) % (6 : Int)) M2) ∧ (a2 ≠ (0 : Int) → ((a2 = (1 : Int) → ((0 : Int) ≤ M2 30 ((M2 11 0 (1 : Int)).toNat) a1 ∧ (0 : Int) < (6 : Int)) ∧ Q 0 ((M2 30 ((M2 11 0 (1 : Int)).toNat) a1) / (6 : Int)) M2) ∧ (a2 ≠ (1 : Int) → ((a2 = (2 : Int) → ((0 : Int) ≤ a1 ∧ a1 < (10 : Int)) ∧ Q 0 (M2 31 ((M2 11 0 (1 : Int)).toNat) a1) M2) ∧ (a2 ≠ (2 : Int) → ((a2 = (3 : Int) → bk_C d 0 41 [bk_c 29 ((M2 11 0 (1 : Int)).toNat), bk_i (M2 30 ((M2 11 0 (1 : Int)).toNat) a1)] M2 (fun t6 r4 M5 => t6 = 0 ∧ Q 0 r4 M5)) ∧ (a2 ≠ (3 : Int) → ((0 : Int) ≤ a1 ∧ a1 < (10 : Int)) ∧ Q 0 (M2 32 ((M2 11 0 (1 : Int)).toNat) a1) M2))))))))) ∧ (¬ (a2 ≤ (4 : Int)) → False))))))) := bk_iff (d := d) (P := P_141) (b := 0) (l := 0) (ls := [bk_c 11 0, bk_i a1, bk_i a2, bk_x]) (st := []) (M := M) [] 40
theorem E_142 {d : Nat} {Q : bk_Q} (a1 : Int) (M : bk_M) : bk_C (d + 1) 0 142 [bk_c 11 0, bk_i a1] M Q ↔ bk_C d 0 47 [bk_i a1] M (fun t3 r1 M2 => t3 = 0 ∧ ((r1 ≠ (0 : Int) → bk_C d 0 143 [bk_c 7 0, bk_c 5 ((M2 11 0 (1 : Int)).toNat), bk_i a1] M2 (fun t6 r4 M5 => t6 = 0 ∧ Q 0 r4 M5)) ∧ (¬ (r1 ≠ (0 : Int)) → False))) := bk_iff (d := d) (P := P_142) (b := 0) (l := 0) (ls := [bk_c 11 0, bk_i a1]) (st := []) (M := M) [] 40
theorem E_143 {d : Nat} {Q : bk_Q} (i1 : Nat) (a2 : Int) (M : bk_M) : bk_C (d + 1) 0 143 [bk_c 7 0, bk_c 5 i1, bk_i a2] M Q ↔ bk_C d 0 34 [bk_c 8 1, bk_c 5 i1] M (fun t3 r1 M2 => t3 = 0 ∧ ((1 : Int) = 0 ∨ (1 : Int) = 1) ∧ ∀ M4 : bk_M, M4 = bk_up M2 7 0 (3 : Int) (1 : Int) → bk_C d 0 144 [bk_c 7 0, bk_c 5 i1, bk_i a2, bk_i (-1000 : Int)] M4 (fun t7 r5 M6 => t7 = 0 ∧ ∀ M8 : bk_M, M8 = bk_up M6 7 0 (13 : Int) r5 → ((0 : Int) ≤ (0 : Int) ∧ (0 : Int) < (2 : Int)) ∧ ∀ M9 : bk_M, M9 = bk_up M8 41 0 (0 : Int) (-2 : Int) → ((0 : Int) ≤ (1 : Int) ∧ (1 : Int) < (2 : Int)) ∧ ∀ M10 : bk_M, M10 = bk_up M9 41 0 (1 : Int) (M9 7 0 (12 : Int)) → bk_wp (bk_C d) P_143 Q 0 46 [bk_c 7 0, bk_c 5 i1, bk_i a2, bk_i (0 : Int), bk_x] [] M10)) := bk_iff (d := d) (P := P_143) (b := 0) (l := 0) (ls := [bk_c 7 0, bk_c 5 i1, bk_i a2, bk_x, bk_x]) (st := []) (M := M) [46] 40
theorem L_143_46 {d : Nat} {Q : bk_Q} (i1 : Nat) (x2 : Int) (x3 : Int) (M : bk_M) : bk_wp (bk_C d) P_143 Q 0 46 [bk_c 7 0, bk_c 5 i1, bk_i x2, bk_i x3, bk_x] [] M ↔ (((72 : Int) ≤ x3 → Q 0 (M 7 0 (13 : Int)) M) ∧ (¬ ((72 : Int) ≤ x3) → ((0 : Int) ≤ x2 ∧ x2 < (2 : Int)) ∧ ((M 37 i1 x2 ≤ (0 : Int) → Q 0 (M 7 0 (13 : Int)) M) ∧ (¬ (M 37 i1 x2 ≤ (0 : Int)) → bk_C d 0 80 [bk_c 7 0, bk_c 5 i1, bk_i x2, bk_i x3] M (fun t3 r1 M2 => t3 = 0 ∧ ((r1 = (0 : Int) → bk_r32 (x3 + (1 : Int)) ∧ bk_wp (bk_C d) P_143 Q 0 46 [bk_c 7 0, bk_c 5 i1, bk_i x2, bk_i (x3 + (1 : Int)), bk_x] [] M2) ∧ (¬ (r1 = (0 : Int)) → bk_C d 0 82 [bk_c 7 0, bk_i x3] M2 (fun t6 r4 M5 => t6 = 0 ∧ bk_C d 0 144 [bk_c 7 0, bk_c 5 i1, bk_i x2, bk_i (M5 7 0 (13 : Int))] M5 (fun t9 r7 M8 => t9 = 0 ∧ bk_C d 0 83 [bk_c 7 0, bk_i x3] M8 (fun t12 r10 M11 => t12 = 0 ∧ ((r7 ≤ M11 7 0 (13 : Int) → bk_r32 (x3 + (1 : Int)) ∧ bk_wp (bk_C d) P_143 Q 0 46 [bk_c 7 0, bk_c 5 i1, bk_i x2, bk_i (x3 + (1 : Int)), bk_i r7] [] M11) ∧ (¬ (r7 ≤ M11 7 0 (13 : Int)) → ∀ M13 : bk_M, M13 = bk_up M11 7 0 (13 : Int) r7 → ((0 : Int) ≤ (0 : Int) ∧ (0 : Int) < (2 : Int)) ∧ ∀ M14 : bk_M, M14 = bk_up M13 41 0 (0 : Int) x3 → ((0 : Int) ≤ (1 : Int) ∧ (1 : Int) < (2 : Int)) ∧ ∀ M15 : bk_M, M15 = bk_up M14 41 0 (1 : Int) (M14 7 0 (12 : Int)) → bk_r32 (x3 + (1 : Int)) ∧ bk_wp (bk_C d) P_143 Q 0 46 [bk_c 7 0, bk_c 5 i1, bk_i x2, bk_i (x3 + (1 : Int)), bk_i r7] [] M15)))))))))))) := bk_iff [46] 40
theorem E_144 {d : Nat} {Q : bk_Q} (i1 : Nat) (a2 : Int) (a3 : Int) (M : bk_M) : bk_C (d + 1) 0 144 [bk_c 7 0, bk_c 5 i1, bk_i a2, bk_i a3] M Q ↔ bk_r32 ((1 : Int) - a2) ∧ bk_C d 0 145 [bk_c 7 0, bk_c 5 i1, bk_i a2] M (fun t3 r1 M2 => t3 = 0 ∧ ∀ M4 : bk_M, M4 = bk_up M2 7 0 (12 : Int) (-2 : Int) → bk_wp (bk_C d) P_144 Q 0 22 [bk_c 7 0, bk_c 5 i1, bk_i a2, bk_i a3, bk_i ((1 : Int) - a2), bk_i r1, bk_i (0 : Int), bk_x] [] M4) := bk_iff (d := d) (P := P_144) (b := 0) (l := 0) (ls := [bk_c 7 0, bk_c 5 i1, bk_i a2, bk_i a3, bk_x, bk_x, bk_x, bk_x]) (st := []) (M := M) [22] 40
theorem L_144_22 {d : Nat} {Q : bk_Q} (i1 : Nat) (x2 : Int) (x3 : Int) (x4 : Int) (x5 : Int) (x6 : Int) (M : bk_M) : bk_wp (bk_C d) P_144 Q 0 22 [bk_c 7 0, bk_c 5 i1, bk_i x2, bk_i x3, bk_i x4, bk_i x5, bk_i x6, bk_x] [] M ↔ (((72 : Int) ≤ x6 → Q 0 x5 M) ∧ (¬ ((72 : Int) ≤ x6) → ((0 : Int) ≤ x4 ∧ x4 < (2 : Int)) ∧ ((M 37 i1 x4 ≤ (0 : Int) → Q 0 x5 M) ∧ (¬ (M 37 i1 x4 ≤ (0 : Int)) → ((x5 ≤ x3 → Q 0 x5 M) ∧ (¬ (x5 ≤ x3) → bk_C d 0 80 [bk_c 7 0, bk_c 5 i1, bk_i x4, bk_i x6] M (fun t3 r1 M2 => t3 = 0 ∧ ((r1 = (0 : Int) → bk_r32 (x6 + (1 : Int)) ∧ bk_wp (bk_C d) P_144 Q 0 22 [bk_c 7 0, bk_c 5 i1, bk_i x2, bk_i x3, bk_i x4, bk_i x5, bk_i (x6 + (1 : Int)), bk_x] [] M2) ∧ (¬ (r1 = (0 : Int)) → bk_C d 0 82 [bk_c 7 0, bk_i x6] M2 (fun t6 r4 M5 => t6 = 0 ∧ bk_C d 0 145 [bk_c 7 0, bk_c 5 i1, bk_i x2] M5 (fun t9 r7 M8 => t9 = 0 ∧ bk_C d 0 83 [bk_c 7 0, bk_i x6] M8 (fun t12 r10 M11 => t12 = 0 ∧ ((x5 ≤ r7 → bk_r32 (x6 + (1 : Int)) ∧ bk_wp (bk_C d) P_144 Q 0 22 [bk_c 7 0, bk_c 5 i1, bk_i x2, bk_i x3, bk_i x4, bk_i x5, bk_i (x6 + (1 : Int)), bk_i r7] [] M11) ∧ (¬ (x5 ≤ r7) → ∀ M13 : bk_M, M13 = bk_up M11 7 0 (12 : Int) x6 → bk_r32 (x6 + (1 : Int)) ∧ bk_wp (bk_C d) P_144 Q 0 22 [bk_c 7 0, bk_c 5 i1, bk_i x2, bk_i x3, bk_i x4, bk_i r7, bk_i (x6 + (1 : Int)), bk_i r7] [] M13)))))))))))))) := bk_iff [22] 40
theorem E_145 {d : Nat} {Q : bk_Q} (i1 : Nat) (a2 : Int) (M : bk_M) : bk_C (d + 1) 0 145 [bk_c 7 0, bk_c 5 i1, bk_i a2] M Q ↔ bk_C d 0 35 [bk_c 8 1, bk_c 5 i1] M (fun t3 r1 M2 => t3 = 0 ∧ bk_C d 0 49 [bk_c 5 i1, bk_c 46 1, bk_i a2] M2 (fun t6 r4 M5 => t6 = 0 ∧ bk_r32 ((1 : Int) - a2) ∧ bk_C d 0 49 [bk_c 5 i1, bk_c 46 1, bk_i ((1 : Int) - a2)] M5 (fun t9 r7 M8 => t9 = 0 ∧ bk_r32 (r4 - r7) ∧ Q 0 (r4 - r7) M8))) := bk_iff (d := d) (P := P_145) (b := 0) (l := 0) (ls := [bk_c 7 0, bk_c 5 i1, bk_i a2]) (st := []) (M := M) [] 40
theorem E_146 {d : Nat} {Q : bk_Q} (M : bk_M) : bk_C (d + 1) 0 146 [bk_c 12 0] M Q ↔ Q 0 (M 12 0 (0 : Int)) M := bk_iff (d := d) (P := P_146) (b := 0) (l := 0) (ls := [bk_c 12 0]) (st := []) (M := M) [] 40
theorem E_147 {d : Nat} {Q : bk_Q} (a1 : Int) (a2 : Int) (a3 : Int) (a4 : Int) (a5 : Int) (M : bk_M) : bk_C (d + 1) 0 147 [bk_c 12 0, bk_i a1, bk_i a2, bk_i a3, bk_i a4, bk_i a5] M Q ↔ ∀ M1 : bk_M, M1 = bk_up M 12 0 (0 : Int) (0 : Int) → bk_r32 ((M1 12 0 (2 : Int)) + (20 : Int)) ∧ (((M1 12 0 (2 : Int)) + (20 : Int) ≤ (940 : Int) → bk_C d 0 148 [bk_c 12 0, bk_i a1] M1 (fun t4 r2 M3 => t4 = 0 ∧ bk_C d 0 148 [bk_c 12 0, bk_i a2] M3 (fun t7 r5 M6 => t7 = 0 ∧ bk_C d 0 148 [bk_c 12 0, bk_i a3] M6 (fun t10 r8 M9 => t10 = 0 ∧ bk_C d 0 148 [bk_c 12 0, bk_i a4] M9 (fun t13 r11 M12 => t13 = 0 ∧ bk_C d 0 148 [bk_c 12 0, bk_i a5] M12 (fun t16 r14 M15 => t16 = 0 ∧ Q 0 (M15 12 0 (2 : Int)) M15)))))) ∧ (¬ ((M1 12 0 (2 : Int)) + (20 : Int) ≤ (940 : Int)) → Q 0 (-1 : Int) M1)) := bk_iff (d := d) (P := P_147) (b := 0) (l := 0) (ls := [bk_c 12 0, bk_i a1, bk_i a2, bk_i a3, bk_i a4, bk_i a5]) (st := []) (M := M) [] 40
theorem E_148 {d : Nat} {Q : bk_Q} (a1 : Int) (M : bk_M) : bk_C (d + 1) 0 148 [bk_c 12 0, bk_i a1] M Q ↔ bk_wp (bk_C d) P_148 Q 0 3 [bk_c 12 0, bk_i a1, bk_i (24 : Int)] [] M := bk_iff (d := d) (P := P_148) (b := 0) (l := 0) (ls := [bk_c 12 0, bk_i a1, bk_x]) (st := []) (M := M) [3] 40
theorem L_148_3 {d : Nat} {Q : bk_Q} (x1 : Int) (x2 : Int) (M : bk_M) : bk_wp (bk_C d) P_148 Q 0 3 [bk_c 12 0, bk_i x1, bk_i x2] [] M ↔ ((x2 < (0 : Int) → Q 0 0 M) ∧ (¬ (x2 < (0 : Int)) → ((0 : Int) ≤ x2 ∧ x2 < 32) ∧ ((0 : Int) ≤ M 12 0 (2 : Int) ∧ M 12 0 (2 : Int) < (940 : Int)) ∧ ∀ M1 : bk_M, M1 = bk_up M 57 0 (M 12 0 (2 : Int)) (bk_and (bk_ushr x1 x2) (255 : Int)) → bk_r32 ((M1 12 0 (2 : Int)) + (1 : Int)) ∧ ∀ M2 : bk_M, M2 = bk_up M1 12 0 (2 : Int) ((M1 12 0 (2 : Int)) + (1 : Int)) → bk_r32 (x2 + (-8 : Int)) ∧ bk_wp (bk_C d) P_148 Q 0 3 [bk_c 12 0, bk_i x1, bk_i (x2 + (-8 : Int))] [] M2)) := bk_iff [3] 40
theorem E_149 {d : Nat} {Q : bk_Q} (a1 : Int) (M : bk_M) : bk_C (d + 1) 0 149 [bk_c 12 0, bk_i a1] M Q ↔ ∀ M1 : bk_M, M1 = bk_up M 12 0 (0 : Int) (0 : Int) → ((a1 < (0 : Int) → ((0 : Int) = 0 ∨ (0 : Int) = 1) ∧ Q 0 (0 : Int) M1) ∧ (¬ (a1 < (0 : Int)) → ((a1 ≤ M1 12 0 (2 : Int) → ∀ M2 : bk_M, M2 = bk_up M1 12 0 (2 : Int) a1 → ((1 : Int) = 0 ∨ (1 : Int) = 1) ∧ Q 0 (1 : Int) M2) ∧ (¬ (a1 ≤ M1 12 0 (2 : Int)) → ((0 : Int) = 0 ∨ (0 : Int) = 1) ∧ Q 0 (0 : Int) M1)))) := bk_iff (d := d) (P := P_149) (b := 0) (l := 0) (ls := [bk_c 12 0, bk_i a1]) (st := []) (M := M) [] 40
theorem E_150 {d : Nat} {Q : bk_Q} (M : bk_M) : bk_C (d + 1) 0 150 [bk_c 12 0] M Q ↔ bk_wp (bk_C d) P_150 Q 0 2 [bk_c 12 0, bk_i (0 : Int)] [] M := bk_iff (d := d) (P := P_150) (b := 0) (l := 0) (ls := [bk_c 12 0, bk_x]) (st := []) (M := M) [2, 23, 43] 40
theorem L_150_2 {d : Nat} {Q : bk_Q} (x1 : Int) (M : bk_M) : bk_wp (bk_C d) P_150 Q 0 2 [bk_c 12 0, bk_i x1] [] M ↔ (((80 : Int) ≤ x1 → bk_wp (bk_C d) P_150 Q 0 23 [bk_c 12 0, bk_i (0 : Int)] [] M) ∧ (¬ ((80 : Int) ≤ x1) → ((0 : Int) ≤ x1 ∧ x1 < (80 : Int)) ∧ ∀ M1 : bk_M, M1 = bk_up M 59 0 x1 (0 : Int) → bk_r32 (x1 + (1 : Int)) ∧ bk_wp (bk_C d) P_150 Q 0 2 [bk_c 12 0, bk_i (x1 + (1 : Int))] [] M1)) := bk_iff [2, 23, 43] 40
theorem L_150_23 {d : Nat} {Q : bk_Q} (x1 : Int) (M : bk_M) : bk_wp (bk_C d) P_150 Q 0 23 [bk_c 12 0, bk_i x1] [] M ↔ (((5 : Int) ≤ x1 → bk_wp (bk_C d) P_150 Q 0 43 [bk_c 12 0, bk_i (0 : Int)] [] M) ∧ (¬ ((5 : Int) ≤ x1) → ((0 : Int) ≤ x1 ∧ x1 < (5 : Int)) ∧ ((0 : Int) = 0 ∨ (0 : Int) = 1) ∧ ∀ M1 : bk_M, M1 = bk_up M 67 0 x1 (0 : Int) → bk_r32 (x1 + (1 : Int)) ∧ bk_wp (bk_C d) P_150 Q 0 23 [bk_c 12 0, bk_i (x1 + (1 : Int))] [] M1)) := bk_iff [2, 23, 43] 40
theorem L_150_43 {d : Nat} {Q : bk_Q} (x1 : Int) (M : bk_M) : bk_wp (bk_C d) P_150 Q 0 43 [bk_c 12 0, bk_i x1] [] M ↔ (((36 : Int) ≤ x1 → ((0 : Int) ≤ (2 : Int) ∧ (2 : Int) < (80 : Int)) ∧ ∀ M1 : bk_M, M1 = bk_up M 59 0 (2 : Int) (5 : Int) → ((0 : Int) ≤ (3 : Int) ∧ (3 : Int) < (80 : Int)) ∧ ∀ M2 : bk_M, M2 = bk_up M1 59 0 (3 : Int) (5 : Int) → ((0 : Int) ≤ (5 : Int) ∧ (5 : Int) < (80 : Int)) ∧ ∀ M3 : bk_M, M3 = bk_up M2 59 0 (5 : Int) (2 : Int) → ((0 : Int) ≤ (78 : Int) ∧ (78 : Int) < (80 : Int)) ∧ ∀ M4 : bk_M, M4 = bk_up M3 59 0 (78 : Int) (9 : Int) → ((0 : Int) ≤ (79 : Int) ∧ (79 : Int) < (80 : Int)) ∧ ∀ M5 : bk_M, M5 = bk_up M4 59 0 (79 : Int) (9 : Int) → ((0 : Int) = 0 ∨ (0 : Int) = 1) ∧ ∀ M6 : bk_M, M6 = bk_up M5 12 0 (26 : Int) (0 : Int) → Q 0 0 M6) ∧ (¬ ((36 : Int) ≤ x1) → ((0 : Int) ≤ x1 ∧ x1 < (36 : Int)) ∧ ((0 : Int) = 0 ∨ (0 : Int) = 1) ∧ ∀ M7 : bk_M, M7 = bk_up M 68 0 x1 (0 : Int) → bk_r32 ((6 : Int) + x1) ∧ ((0 : Int) ≤ (6 : Int) + x1 ∧ (6 : Int) + x1 < (80 : Int)) ∧ ∀ M8 : bk_M, M8 = bk_up M7 59 0 ((6 : Int) + x1) (5 : Int) → bk_r32 (x1 + (1 : Int)) ∧ bk_wp (bk_C d) P_150 Q 0 43 [bk_c 12 0, bk_i (x1 + (1 : Int))] [] M8)) := bk_iff [2, 23, 43] 40
theorem E_151 {d : Nat} {Q : bk_Q} (M : bk_M) : bk_C (d + 1) 0 151 [bk_c 12 0] M Q ↔ bk_wp (bk_C d) P_151 Q 0 3 [bk_c 12 0, bk_i (80 : Int)] [] M := bk_iff (d := d) (P := P_151) (b := 0) (l := 0) (ls := [bk_c 12 0, bk_x]) (st := []) (M := M) [3, 25, 56, 88, 147] 40
theorem L_151_3 {d : Nat} {Q : bk_Q} (x1 : Int) (M : bk_M) : bk_wp (bk_C d) P_151 Q 0 3 [bk_c 12 0, bk_i x1] [] M ↔ (((437 : Int) ≤ x1 → bk_wp (bk_C d) P_151 Q 0 25 [bk_c 12 0, bk_i (0 : Int)] [] M) ∧ (¬ ((437 : Int) ≤ x1) → ((0 : Int) ≤ x1 ∧ x1 < (437 : Int)) ∧ ∀ M1 : bk_M, M1 = bk_up M 58 0 x1 (0 : Int) → bk_r32 (x1 + (1 : Int)) ∧ bk_wp (bk_C d) P_151 Q 0 3 [bk_c 12 0, bk_i (x1 + (1 : Int))] [] M1)) := bk_iff [3, 25, 56, 88, 147] 40
theorem L_151_25 {d : Nat} {Q : bk_Q} (x1 : Int) (M : bk_M) : bk_wp (bk_C d) P_151 Q 0 25 [bk_c 12 0, bk_i x1] [] M ↔ (((2 : Int) ≤ x1 → bk_wp (bk_C d) P_151 Q 0 56 [bk_c 12 0, bk_i (0 : Int)] [] M) ∧ (¬ ((2 : Int) ≤ x1) → bk_r32 ((81 : Int) + x1) ∧ bk_r32 ((78 : Int) + x1) ∧ ((0 : Int) ≤ (78 : Int) + x1 ∧ (78 : Int) + x1 < (437 : Int)) ∧ ((0 : Int) ≤ (81 : Int) + x1 ∧ (81 : Int) + x1 < (437 : Int)) ∧ ∀ M1 : bk_M, M1 = bk_up M 58 0 ((81 : Int) + x1) (M 58 0 ((78 : Int) + x1)) → bk_r32 (x1 + (1 : Int)) ∧ bk_wp (bk_C d) P_151 Q 0 25 [bk_c 12 0, bk_i (x1 + (1 : Int))] [] M1)) := bk_iff [3, 25, 56, 88, 147] 40
theorem L_151_56 {d : Nat} {Q : bk_Q} (x1 : Int) (M : bk_M) : bk_wp (bk_C d) P_151 Q 0 56 [bk_c 12 0, bk_i x1] [] M ↔ (((36 : Int) ≤ x1 → bk_wp (bk_C d) P_151 Q 0 88 [bk_c 12 0, bk_i (0 : Int)] [] M) ∧ (¬ ((36 : Int) ≤ x1) → bk_r32 ((85 : Int) + x1) ∧ bk_r32 ((6 : Int) + x1) ∧ ((0 : Int) ≤ (6 : Int) + x1 ∧ (6 : Int) + x1 < (437 : Int)) ∧ ((0 : Int) ≤ (85 : Int) + x1 ∧ (85 : Int) + x1 < (437 : Int)) ∧ ∀ M1 : bk_M, M1 = bk_up M 58 0 ((85 : Int) + x1) (M 58 0 ((6 : Int) + x1)) → bk_r32 (x1 + (1 : Int)) ∧ bk_wp (bk_C d) P_151 Q 0 56 [bk_c 12 0, bk_i (x1 + (1 : Int))] [] M1)) := bk_iff [3, 25, 56, 88, 147] 40
theorem L_151_88 {d : Nat} {Q : bk_Q} (x1 : Int) (M : bk_M) : bk_wp (bk_C d) P_151 Q 0 88 [bk_c 12 0, bk_i x1] [] M ↔ (((3 : Int) ≤ x1 → bk_C d 0 152 [bk_c 12 0] M (fun t3 r1 M2 => t3 = 0 ∧ bk_C d 0 153 [bk_c 12 0] M2 (fun t6 r4 M5 => t6 = 0 ∧ bk_wp (bk_C d) P_151 Q 0 147 [bk_c 12 0, bk_i (0 : Int)] [] M5))) ∧ (¬ ((3 : Int) ≤ x1) → bk_r32 ((127 : Int) + x1) ∧ bk_r32 ((72 : Int) + x1) ∧ ((0 : Int) ≤ (72 : Int) + x1 ∧ (72 : Int) + x1 < (437 : Int)) ∧ ((0 : Int) ≤ (127 : Int) + x1 ∧ (127 : Int) + x1 < (437 : Int)) ∧ ∀ M7 : bk_M, M7 = bk_up M 58 0 ((127 : Int) + x1) (M 58 0 ((72 : Int) + x1)) → bk_r32 ((130 : Int) + x1) ∧ bk_r32 ((75 : Int) + x1) ∧ ((0 : Int) ≤ (75 : Int) + x1 ∧ (75 : Int) + x1 < (437 : Int)) ∧ ((0 : Int) ≤ (130 : Int) + x1 ∧ (130 : Int) + x1 < (437 : Int)) ∧ ∀ M8 : bk_M, M8 = bk_up M7 58 0 ((130 : Int) + x1) (M7 58 0 ((75 : Int) + x1)) → bk_r32 (x1 + (1 : Int)) ∧ bk_wp (bk_C d) P_151 Q 0 88 [bk_c 12 0, bk_i (x1 + (1 : Int))] [] M8)) := bk_iff [3, 25, 56, 88, 147] 40
theorem L_151_147 {d : Nat} {Q : bk_Q} (x1 : Int) (M : bk_M) : bk_wp (bk_C d) P_151 Q 0 147 [bk_c 12 0, bk_i x1] [] M ↔ (((6 : Int) ≤ x1 → Q 0 0 M) ∧ (¬ ((6 : Int) ≤ x1) → bk_r32 ((121 : Int) + x1) ∧ ((0 : Int) ≤ x1 ∧ x1 < (6 : Int)) ∧ ((0 : Int) ≤ (121 : Int) + x1 ∧ (121 : Int) + x1 < (437 : Int)) ∧ ∀ M1 : bk_M, M1 = bk_up M 58 0 ((121 : Int) + x1) (M 71 0 x1) → bk_r32 (x1 + (1 : Int)) ∧ bk_wp (bk_C d) P_151 Q 0 147 [bk_c 12 0, bk_i (x1 + (1 : Int))] [] M1)) := bk_iff [3, 25, 56, 88, 147] 40
theorem E_152 {d : Nat} {Q : bk_Q} (M : bk_M) : bk_C (d + 1) 0 152 [bk_c 12 0] M Q ↔ bk_wp (bk_C d) P_152 Q 0 2 [bk_c 12 0, bk_i (0 : Int)] [] M := bk_iff (d := d) (P := P_152) (b := 0) (l := 0) (ls := [bk_c 12 0, bk_x]) (st := []) (M := M) [2] 40
theorem L_152_2 {d : Nat} {Q : bk_Q} (x1 : Int) (M : bk_M) : bk_wp (bk_C d) P_152 Q 0 2 [bk_c 12 0, bk_i x1] [] M ↔ (((36 : Int) ≤ x1 → Q 0 0 M) ∧ (¬ ((36 : Int) ≤ x1) → ((0 : Int) ≤ x1 ∧ x1 < (36 : Int)) ∧ ∀ M1 : bk_M, M1 = bk_up M 69 0 x1 (0 : Int) → bk_r32 (x1 + (1 : Int)) ∧ bk_wp (bk_C d) P_152 Q 0 2 [bk_c 12 0, bk_i (x1 + (1 : Int))] [] M1)) := bk_iff [2] 40
theorem E_153 {d : Nat} {Q : bk_Q} (M : bk_M) : bk_C (d + 1) 0 153 [bk_c 12 0] M Q ↔ ((0 : Int) ≤ (3 : Int) ∧ (3 : Int) < (437 : Int)) ∧ bk_r32 ((M 58 0 (3 : Int)) - (1 : Int)) ∧ bk_wp (bk_C d) P_153 Q 0 9 [bk_c 12 0, bk_i ((M 58 0 (3 : Int)) - (1 : Int)), bk_x, bk_x] [] M := bk_iff (d := d) (P := P_153) (b := 0) (l := 0) (ls := [bk_c 12 0, bk_x, bk_x, bk_x]) (st := []) (M := M) [9, 15, 105, 128] 40
theorem L_153_9 {d : Nat} {Q : bk_Q} (x1 : Int) (M : bk_M) : bk_wp (bk_C d) P_153 Q 0 9 [bk_c 12 0, bk_i x1, bk_x, bk_x] [] M ↔ ((x1 < (0 : Int) → ((0 : Int) ≤ (4 : Int) ∧ (4 : Int) < (437 : Int)) ∧ ((0 : Int) ≤ (0 : Int) ∧ (0 : Int) < (6 : Int)) ∧ ∀ M1 : bk_M, M1 = bk_up M 71 0 (0 : Int) (M 58 0 (4 : Int)) → bk_wp (bk_C d) P_153 Q 0 105 [bk_c 12 0, bk_i (1 : Int), bk_x, bk_x] [] M1) ∧ (¬ (x1 < (0 : Int)) → bk_wp (bk_C d) P_153 Q 0 15 [bk_c 12 0, bk_i x1, bk_i (0 : Int), bk_x] [] M)) := bk_iff [9, 15, 105, 128] 40
set_option maxRecDepth 20000 in
theorem L_153_15 {d : Nat} {Q : bk_Q} (x1 : Int) (x2 : Int) (M : bk_M) : bk_wp (bk_C d) P_153 Q 0 15 [bk_c 12 0, bk_i x1, bk_i x2, bk_x] [] M ↔ ((0 : Int) ≤ (2 : Int) ∧ (2 : Int) < (437 : Int)) ∧ ((M 58 0 (2 : Int) ≤ x2 → bk_r32 (x1 + (-1 : Int)) ∧ bk_wp (bk_C d) P_153 Q 0 9 [bk_c 12 0, bk_i (x1 + (-1 : Int)), bk_i x2, bk_x] [] M) ∧ (¬ (M 58 0 (2 : Int) ≤ x2) → bk_r32 ((6 : Int) * x1) ∧ bk_r32 (((6 : Int) * x1) + x2) ∧ bk_r32 ((85 : Int) + (((6 : Int) * x1) + x2)) ∧ ((0 : Int) ≤ (85 : Int) + (((6 : Int) * x1) + x2) ∧ (85 : Int) + (((6 : Int) * x1) + x2) < (437 : Int)) ∧ ((0 : Int) ≤ ((6 : Int) * x1) + x2 ∧ ((6 : Int) * x1) + x2 < (36 : Int)) ∧ bk_r32 ((M 58 0 ((85 : Int) + (((6 : Int) * x1) + x2))) + (M 69 0 (((6 : Int) * x1) + x2))) ∧ ((0 : Int) ≤ (3 : Int) ∧ (3 : Int) < (437 : Int)) ∧ bk_r32 ((M 58 0 (3 : Int)) - (1 : Int)) ∧ ((x1 ≠ (M 58 0 (3 : Int)) - (1 : Int) → bk_r32 (x1 + (1 : Int)) ∧ bk_C d 0 154 [bk_c 12 0, bk_i x2, bk_i (x1 + (1 : Int))] M (fun t3 r1 M2 => t3 = 0 ∧ bk_r32 (((M 58 0 ((85 : Int) + (((6 : Int) * x1) + x2))) + (M 69 0 (((6 : Int) * x1) + x2))) + r1) ∧ ((0 : Int) ≤ ((6 : Int) * x1) + x2 ∧ ((6 : Int) * x1) + x2 < (36 : Int)) ∧ ∀ M4 : bk_M, M4 = bk_up M2 70 0 (((6 : Int) * x1) + x2) (((M 58 0 ((85 : Int) + (((6 : Int) * x1) + x2))) + (M 69 0 (((6 : Int) * x1) + x2))) + r1) → bk_r32 (x2 + (1 : Int)) ∧ bk_wp (bk_C d) P_153 Q 0 15 [bk_c 12 0, bk_i x1, bk_i (x2 + (1 : Int)), bk_i (((6 : Int) * x1) + x2)] [] M4)) ∧ (¬ (x1 ≠ (M 58 0 (3 : Int)) - (1 : Int)) → bk_r32 (((M 58 0 ((85 : Int) + (((6 : Int) * x1) + x2))) + (M 69 0 (((6 : Int) * x1) + x2))) + (0 : Int)) ∧ ((0 : Int) ≤ ((6 : Int) * x1) + x2 ∧ ((6 : Int) * x1) + x2 < (36 : Int)) ∧ ∀ M5 : bk_M, M5 = bk_up M 70 0 (((6 : Int) * x1) + x2) (((M 58 0 ((85 : Int) + (((6 : Int) * x1) + x2))) + (M 69 0 (((6 : Int) * x1) + x2))) + (0 : Int)) → bk_r32 (x2 + (1 : Int)) ∧ bk_wp (bk_C d) P_153 Q 0 15 [bk_c 12 0, bk_i x1, bk_i (x2 + (1 : Int)), bk_i (((6 : Int) * x1) + x2)] [] M5)))) := bk_iff [9, 15, 105, 128] 40
theorem L_153_105 {d : Nat} {Q : bk_Q} (x1 : Int) (M : bk_M) : bk_wp (bk_C d) P_153 Q 0 105 [bk_c 12 0, bk_i x1, bk_x, bk_x] [] M ↔ ((0 : Int) ≤ (3 : Int) ∧ (3 : Int) < (437 : Int)) ∧ ((M 58 0 (3 : Int) ≤ x1 → ((0 : Int) ≤ (4 : Int) ∧ (4 : Int) < (437 : Int)) ∧ ((0 : Int) ≤ M 58 0 (4 : Int) ∧ M 58 0 (4 : Int) < (36 : Int)) ∧ Q 0 (M 70 0 (M 58 0 (4 : Int))) M) ∧ (¬ (M 58 0 (3 : Int) ≤ x1) → bk_r32 (x1 - (1 : Int)) ∧ ((0 : Int) ≤ x1 - (1 : Int) ∧ x1 - (1 : Int) < (6 : Int)) ∧ bk_r32 ((M 71 0 (x1 - (1 : Int))) - (1 : Int)) ∧ bk_wp (bk_C d) P_153 Q 0 128 [bk_c 12 0, bk_i x1, bk_i (M 71 0 (x1 - (1 : Int))), bk_i ((M 71 0 (x1 - (1 : Int))) - (1 : Int))] [] M)) := bk_iff [9, 15, 105, 128] 40
theorem L_153_128 {d : Nat} {Q : bk_Q} (x1 : Int) (x2 : Int) (x3 : Int) (M : bk_M) : bk_wp (bk_C d) P_153 Q 0 128 [bk_c 12 0, bk_i x1, bk_i x2, bk_i x3] [] M ↔ bk_C d 0 155 [bk_c 12 0, bk_i x3, bk_i x1] M (fun t3 r1 M2 => t3 = 0 ∧ bk_C d 0 154 [bk_c 12 0, bk_i x2, bk_i x1] M2 (fun t6 r4 M5 => t6 = 0 ∧ ((r1 = r4 → ((0 : Int) ≤ x1 ∧ x1 < (6 : Int)) ∧ ∀ M7 : bk_M, M7 = bk_up M5 71 0 x1 x3 → bk_r32 (x1 + (1 : Int)) ∧ bk_wp (bk_C d) P_153 Q 0 105 [bk_c 12 0, bk_i (x1 + (1 : Int)), bk_i x2, bk_i x3] [] M7) ∧ (¬ (r1 = r4) → bk_r32 (x3 + (1 : Int)) ∧ bk_wp (bk_C d) P_153 Q 0 128 [bk_c 12 0, bk_i x1, bk_i x2, bk_i (x3 + (1 : Int))] [] M5)))) := bk_iff [9, 15, 105, 128] 40
theorem E_154 {d : Nat} {Q : bk_Q} (a1 : Int) (a2 : Int) (M : bk_M) : bk_C (d + 1) 0 154 [bk_c 12 0, bk_i a1, bk_i a2] M Q ↔ bk_r32 (a1 - (1 : Int)) ∧ bk_C d 0 155 [bk_c 12 0, bk_i (a1 - (1 : Int)), bk_i a2] M (fun t3 r1 M2 => t3 = 0 ∧ bk_C d 0 155 [bk_c 12 0, bk_i a1, bk_i a2] M2 (fun t6 r4 M5 => t6 = 0 ∧ bk_r32 (a1 + (1 : Int)) ∧ bk_C d 0 155 [bk_c 12 0, bk_i (a1 + (1 : Int)), bk_i a2] M5 (fun t9 r7 M8 => t9 = 0 ∧ bk_C d 0 158 [bk_i r4, bk_i r7] M8 (fun t12 r10 M11 => t12 = 0 ∧ bk_C d 0 158 [bk_i r1, bk_i r10] M11 (fun t15 r13 M14 => t15 = 0 ∧ Q 0 r13 M14))))) := bk_iff (d := d) (P := P_154) (b := 0) (l := 0) (ls := [bk_c 12 0, bk_i a1, bk_i a2]) (st := []) (M := M) [] 40
theorem E_155 {d : Nat} {Q : bk_Q} (a1 : Int) (a2 : Int) (M : bk_M) : bk_C (d + 1) 0 155 [bk_c 12 0, bk_i a1, bk_i a2] M Q ↔ bk_C d 0 156 [bk_c 12 0, bk_i a1, bk_i a2] M (fun t3 r1 M2 => t3 = 0 ∧ ((r1 = (0 : Int) → Q 0 (100000 : Int) M2) ∧ (¬ (r1 = (0 : Int)) → bk_r32 ((6 : Int) * a2) ∧ bk_r32 (((6 : Int) * a2) + a1) ∧ ((0 : Int) ≤ ((6 : Int) * a2) + a1 ∧ ((6 : Int) * a2) + a1 < (36 : Int)) ∧ Q 0 (M2 70 0 (((6 : Int) * a2) + a1)) M2))) := bk_iff (d := d) (P := P_155) (b := 0) (l := 0) (ls := [bk_c 12 0, bk_i a1, bk_i a2]) (st := []) (M := M) [] 40
theorem E_156 {d : Nat} {Q : bk_Q} (a1 : Int) (a2 : Int) (M : bk_M) : bk_C (d + 1) 0 156 [bk_c 12 0, bk_i a1, bk_i a2] M Q ↔ ((0 : Int) ≤ (2 : Int) ∧ (2 : Int) < (437 : Int)) ∧ bk_r32 ((M 58 0 (2 : Int)) - (1 : Int)) ∧ bk_C d 0 157 [bk_i a1, bk_i (0 : Int), bk_i ((M 58 0 (2 : Int)) - (1 : Int))] M (fun t3 r1 M2 => t3 = 0 ∧ ((r1 = (0 : Int) → ((0 : Int) = 0 ∨ (0 : Int) = 1) ∧ Q 0 (0 : Int) M2) ∧ (¬ (r1 = (0 : Int)) → ((0 : Int) ≤ (3 : Int) ∧ (3 : Int) < (437 : Int)) ∧ bk_r32 ((M2 58 0 (3 : Int)) - (1 : Int)) ∧ bk_C d 0 157 [bk_i a2, bk_i (0 : Int), bk_i ((M2 58 0 (3 : Int)) - (1 : Int))] M2 (fun t6 r4 M5 => t6 = 0 ∧ ((r4 = (0 : Int) → ((0 : Int) = 0 ∨ (0 : Int) = 1) ∧ Q 0 (0 : Int) M5) ∧ (¬ (r4 = (0 : Int)) → ((1 : Int) = 0 ∨ (1 : Int) = 1) ∧ Q 0 (1 : Int) M5)))))) := bk_iff (d := d) (P := P_156) (b := 0) (l := 0) (ls := [bk_c 12 0, bk_i a1, bk_i a2]) (st := []) (M := M) [] 40
theorem E_157 {d : Nat} {Q : bk_Q} (a0 : Int) (a1 : Int) (a2 : Int) (M : bk_M) : bk_C (d + 1) 0 157 [bk_i a0, bk_i a1, bk_i a2] M Q ↔ ((a0 < a1 → ((0 : Int) = 0 ∨ (0 : Int) = 1) ∧ Q 0 (0 : Int) M) ∧ (¬ (a0 < a1) → ((a2 < a0 → ((0 : Int) = 0 ∨ (0 : Int) = 1) ∧ Q 0 (0 : Int) M) ∧ (¬ (a2 < a0) → ((1 : Int) = 0 ∨ (1 : Int) = 1) ∧ Q 0 (1 : Int) M)))) := bk_iff (d := d) (P := P_157) (b := 0) (l := 0) (ls := [bk_i a0, bk_i a1, bk_i a2]) (st := []) (M := M) [] 40
theorem E_158 {d : Nat} {Q : bk_Q} (a0 : Int) (a1 : Int) (M : bk_M) : bk_C (d + 1) 0 158 [bk_i a0, bk_i a1] M Q ↔ ((a1 ≤ a0 → Q 0 a1 M) ∧ (¬ (a1 ≤ a0) → Q 0 a0 M)) := bk_iff (d := d) (P := P_158) (b := 0) (l := 0) (ls := [bk_i a0, bk_i a1]) (st := []) (M := M) [] 40
theorem E_159 {d : Nat} {Q : bk_Q} (M : bk_M) : bk_C (d + 1) 0 159 [bk_c 12 0] M Q ↔ bk_C d 0 160 [bk_c 12 0, bk_i (900 : Int)] M (fun t3 r1 M2 => t3 = 0 ∧ bk_C d 0 150 [bk_c 12 0] M2 (fun t6 r4 M5 => t6 = 0 ∧ bk_wp (bk_C d) P_159 Q 0 13 [bk_c 12 0, bk_i (0 : Int), bk_x] [] M5)) := bk_iff (d := d) (P := P_159) (b := 0) (l := 0) (ls := [bk_c 12 0, bk_x, bk_x]) (st := []) (M := M) [13, 49, 75] 40
theorem L_159_13 {d : Nat} {Q : bk_Q} (x1 : Int) (M : bk_M) : bk_wp (bk_C d) P_159 Q 0 13 [bk_c 12 0, bk_i x1, bk_x] [] M ↔ ((M 12 0 (7 : Int) = (0 : Int) → bk_wp (bk_C d) P_159 Q 0 49 [bk_c 12 0, bk_i x1, bk_i (0 : Int)] [] M) ∧ (¬ (M 12 0 (7 : Int) = (0 : Int)) → bk_C d 0 166 [bk_c 12 0] M (fun t3 r1 M2 => t3 = 0 ∧ ((r1 = (0 : Int) → bk_r32 ((-1 : Int) - (M2 12 0 (11 : Int))) ∧ Q 0 ((-1 : Int) - (M2 12 0 (11 : Int))) M2) ∧ (¬ (r1 = (0 : Int)) → bk_C d 0 188 [bk_c 12 0] M2 (fun t6 r4 M5 => t6 = 0 ∧ ((r4 ≠ (0 : Int) → bk_r32 (x1 + (1 : Int)) ∧ bk_wp (bk_C d) P_159 Q 0 13 [bk_c 12 0, bk_i (x1 + (1 : Int)), bk_x] [] M5) ∧ (¬ (r4 ≠ (0 : Int)) → bk_r32 ((-1 : Int) - (M5 12 0 (11 : Int))) ∧ Q 0 ((-1 : Int) - (M5 12 0 (11 : Int))) M5)))))))) := bk_iff [13, 49, 75] 40
theorem L_159_49 {d : Nat} {Q : bk_Q} (x1 : Int) (x2 : Int) (M : bk_M) : bk_wp (bk_C d) P_159 Q 0 49 [bk_c 12 0, bk_i x1, bk_i x2] [] M ↔ (((80 : Int) ≤ x2 → bk_wp (bk_C d) P_159 Q 0 75 [bk_c 12 0, bk_i x1, bk_i (0 : Int)] [] M) ∧ (¬ ((80 : Int) ≤ x2) → ((0 : Int) ≤ x2 ∧ x2 < (80 : Int)) ∧ ((0 : Int) ≤ x2 ∧ x2 < (437 : Int)) ∧ ∀ M1 : bk_M, M1 = bk_up M 58 0 x2 (M 59 0 x2) → bk_r32 (x2 + (1 : Int)) ∧ bk_wp (bk_C d) P_159 Q 0 49 [bk_c 12 0, bk_i x1, bk_i (x2 + (1 : Int))] [] M1)) := bk_iff [13, 49, 75] 40
theorem L_159_75 {d : Nat} {Q : bk_Q} (x1 : Int) (x2 : Int) (M : bk_M) : bk_wp (bk_C d) P_159 Q 0 75 [bk_c 12 0, bk_i x1, bk_i x2] [] M ↔ (((13 : Int) ≤ x2 → bk_C d 0 151 [bk_c 12 0] M (fun t3 r1 M2 => t3 = 0 ∧ ∀ M4 : bk_M, M4 = bk_up M2 12 0 (25 : Int) (0 : Int) → Q 0 x1 M4)) ∧ (¬ ((13 : Int) ≤ x2) → ((0 : Int) ≤ x2 ∧ x2 < (13 : Int)) ∧ ((0 : Int) ≤ x2 ∧ x2 < (13 : Int)) ∧ ∀ M5 : bk_M, M5 = bk_up M 63 0 x2 (M 64 0 x2) → bk_r32 (x2 + (1 : Int)) ∧ bk_wp (bk_C d) P_159 Q 0 75 [bk_c 12 0, bk_i x1, bk_i (x2 + (1 : Int))] [] M5)) := bk_iff [13, 49, 75] 40
theorem E_160 {d : Nat} {Q : bk_Q} (a1 : Int) (M : bk_M) : bk_C (d + 1) 0 160 [bk_c 12 0, bk_i a1] M Q ↔ ∀ M1 : bk_M, M1 = bk_up M 12 0 (0 : Int) (0 : Int) → bk_C d 0 161 [bk_c 12 0] M1 (fun t4 r2 M3 => t4 = 0 ∧ ∀ M5 : bk_M, M5 = bk_up M3 12 0 (3 : Int) r2 → ∀ M6 : bk_M, M6 = bk_up M5 12 0 (4 : Int) a1 → ∀ M7 : bk_M, M7 = bk_up M6 12 0 (10 : Int) (0 : Int) → ∀ M8 : bk_M, M8 = bk_up M7 12 0 (5 : Int) (0 : Int) → bk_C d 0 162 [bk_c 12 0] M8 (fun t11 r9 M10 => t11 = 0 ∧ Q 0 0 M10)) := bk_iff (d := d) (P := P_160) (b := 0) (l := 0) (ls := [bk_c 12 0, bk_i a1]) (st := []) (M := M) [] 40
theorem E_161 {d : Nat} {Q : bk_Q} (M : bk_M) : bk_C (d + 1) 0 161 [bk_c 12 0] M Q ↔ ∀ M1 : bk_M, M1 = bk_up M 12 0 (2 : Int) (0 : Int) → Q 0 (M 12 0 (2 : Int)) M1 := bk_iff (d := d) (P := P_161) (b := 0) (l := 0) (ls := [bk_c 12 0, bk_x]) (st := []) (M := M) [] 40
theorem E_162 {d : Nat} {Q : bk_Q} (M : bk_M) : bk_C (d + 1) 0 162 [bk_c 12 0] M Q ↔ ((M 12 0 (3 : Int) ≤ M 12 0 (5 : Int) → bk_wp (bk_C d) P_162 Q 0 52 [bk_c 12 0, bk_x, bk_x, bk_x, bk_x] [] M) ∧ (¬ (M 12 0 (3 : Int) ≤ M 12 0 (5 : Int)) → ((0 : Int) ≤ M 12 0 (5 : Int) ∧ M 12 0 (5 : Int) < (940 : Int)) ∧ ((M 57 0 (M 12 0 (5 : Int)) = (32 : Int) → bk_wp (bk_C d) P_162 Q 0 39 [bk_c 12 0, bk_x, bk_x, bk_x, bk_x] [] M) ∧ (¬ (M 57 0 (M 12 0 (5 : Int)) = (32 : Int)) → ((0 : Int) ≤ M 12 0 (5 : Int) ∧ M 12 0 (5 : Int) < (940 : Int)) ∧ ((M 57 0 (M 12 0 (5 : Int)) ≠ (10 : Int) → bk_wp (bk_C d) P_162 Q 0 52 [bk_c 12 0, bk_x, bk_x, bk_x, bk_x] [] M) ∧ (¬ (M 57 0 (M 12 0 (5 : Int)) ≠ (10 : Int)) → bk_wp (bk_C d) P_162 Q 0 39 [bk_c 12 0, bk_x, bk_x, bk_x, bk_x] [] M)))))) := bk_iff (d := d) (P := P_162) (b := 0) (l := 0) (ls := [bk_c 12 0, bk_x, bk_x, bk_x, bk_x]) (st := []) (M := M) [0, 39, 52, 96, 215, 243, 271] 40
theorem L_162_39 {d : Nat} {Q : bk_Q} (M : bk_M) : bk_wp (bk_C d) P_162 Q 0 39 [bk_c 12 0, bk_x, bk_x, bk_x, bk_x] [] M ↔ bk_r32 ((M 12 0 (5 : Int)) + (1 : Int)) ∧ ∀ M1 : bk_M, M1 = bk_up M 12 0 (5 : Int) ((M 12 0 (5 : Int)) + (1 : Int)) → bk_wp (bk_C d) P_162 Q 0 0 [bk_c 12 0, bk_x, bk_x, bk_x, bk_x] [] M1 := bk_iff [0, 39, 52, 96, 215, 243, 271] 40
theorem L_162_52 {d : Nat} {Q : bk_Q} (M : bk_M) : bk_wp (bk_C d) P_162 Q 0 52 [bk_c 12 0, bk_x, bk_x, bk_x, bk_x] [] M ↔ ∀ M1 : bk_M, M1 = bk_up M 12 0 (6 : Int) (M 12 0 (5 : Int)) → ((M1 12 0 (3 : Int) ≤ M1 12 0 (4 : Int) → bk_wp (bk_C d) P_162 Q 0 96 [bk_c 12 0, bk_x, bk_x, bk_x, bk_x] [] M1) ∧ (¬ (M1 12 0 (3 : Int) ≤ M1 12 0 (4 : Int)) → ((M1 12 0 (6 : Int) < M1 12 0 (4 : Int) → bk_wp (bk_C d) P_162 Q 0 96 [bk_c 12 0, bk_x, bk_x, bk_x, bk_x] [] M1) ∧ (¬ (M1 12 0 (6 : Int) < M1 12 0 (4 : Int)) → ∀ M2 : bk_M, M2 = bk_up M1 12 0 (6 : Int) (M1 12 0 (4 : Int)) → ∀ M3 : bk_M, M3 = bk_up M2 12 0 (7 : Int) (1 : Int) → Q 0 0 M3)))) := bk_iff [0, 39, 52, 96, 215, 243, 271] 40
set_option maxRecDepth 20000 in
theorem L_162_96 {d : Nat} {Q : bk_Q} (M : bk_M) : bk_wp (bk_C d) P_162 Q 0 96 [bk_c 12 0, bk_x, bk_x, bk_x, bk_x] [] M ↔ ((M 12 0 (5 : Int) < M 12 0 (3 : Int) → ((0 : Int) ≤ M 12 0 (5 : Int) ∧ M 12 0 (5 : Int) < (940 : Int)) ∧ bk_C d 0 163 [bk_i (M 57 0 (M 12 0 (5 : Int)))] M (fun t3 r1 M2 => t3 = 0 ∧ ((r1 ≠ (0 : Int) → bk_C d 0 163 [bk_i (M 57 0 (M 12 0 (5 : Int)))] M2 (fun t6 r4 M5 => t6 = 0 ∧ ∀ M7 : bk_M, M7 = bk_up M5 12 0 (12 : Int) (0 : Int) → ∀ M8 : bk_M, M8 = bk_up M7 12 0 (8 : Int) (0 : Int) → bk_wp (bk_C d) P_162 Q 0 215 [bk_c 12 0, bk_i (M 57 0 (M 12 0 (5 : Int))), bk_i r4, bk_i (1 : Int), bk_x] [] M8)) ∧ (¬ (r1 ≠ (0 : Int)) → bk_C d 0 164 [bk_i (M 57 0 (M 12 0 (5 : Int)))] M2 (fun t11 r9 M10 => t11 = 0 ∧ ((r9 ≠ (0 : Int) → bk_C d 0 163 [bk_i (M 57 0 (M 12 0 (5 : Int)))] M10 (fun t14 r12 M13 => t14 = 0 ∧ ∀ M15 : bk_M, M15 = bk_up M13 12 0 (12 : Int) (0 : Int) → ∀ M16 : bk_M, M16 = bk_up M15 12 0 (8 : Int) (0 : Int) → bk_wp (bk_C d) P_162 Q 0 215 [bk_c 12 0, bk_i (M 57 0 (M 12 0 (5 : Int))), bk_i r12, bk_i (1 : Int), bk_x] [] M16)) ∧ (¬ (r9 ≠ (0 : Int)) → ((M 57 0 (M 12 0 (5 : Int)) = (59 : Int) → ∀ M17 : bk_M, M17 = bk_up M10 12 0 (7 : Int) (4 : Int) → ∀ M18 : bk_M, M18 = bk_up M17 12 0 (9 : Int) (M 57 0 (M 12 0 (5 : Int))) → bk_r32 ((M18 12 0 (5 : Int)) + (1 : Int)) ∧ ∀ M19 : bk_M, M19 = bk_up M18 12 0 (5 : Int) ((M18 12 0 (5 : Int)) + (1 : Int)) → Q 0 0 M19) ∧ (¬ (M 57 0 (M 12 0 (5 : Int)) = (59 : Int)) → ((M 57 0 (M 12 0 (5 : Int)) = (60 : Int) → ∀ M20 : bk_M, M20 = bk_up M10 12 0 (7 : Int) (4 : Int) → ∀ M21 : bk_M, M21 = bk_up M20 12 0 (9 : Int) (M 57 0 (M 12 0 (5 : Int))) → bk_r32 ((M21 12 0 (5 : Int)) + (1 : Int)) ∧ ∀ M22 : bk_M, M22 = bk_up M21 12 0 (5 : Int) ((M21 12 0 (5 : Int)) + (1 : Int)) → Q 0 0 M22) ∧ (¬ (M 57 0 (M 12 0 (5 : Int)) = (60 : Int)) → ((M 57 0 (M 12 0 (5 : Int)) = (61 : Int) → ∀ M23 : bk_M, M23 = bk_up M10 12 0 (7 : Int) (4 : Int) → ∀ M24 : bk_M, M24 = bk_up M23 12 0 (9 : Int) (M 57 0 (M 12 0 (5 : Int))) → bk_r32 ((M24 12 0 (5 : Int)) + (1 : Int)) ∧ ∀ M25 : bk_M, M25 = bk_up M24 12 0 (5 : Int) ((M24 12 0 (5 : Int)) + (1 : Int)) → Q 0 0 M25) ∧ (¬ (M 57 0 (M 12 0 (5 : Int)) = (61 : Int)) → ((M 57 0 (M 12 0 (5 : Int)) = (62 : Int) → ∀ M26 : bk_M, M26 = bk_up M10 12 0 (7 : Int) (4 : Int) → ∀ M27 : bk_M, M27 = bk_up M26 12 0 (9 : Int) (M 57 0 (M 12 0 (5 : Int))) → bk_r32 ((M27 12 0 (5 : Int)) + (1 : Int)) ∧ ∀ M28 : bk_M, M28 = bk_up M27 12 0 (5 : Int) ((M27 12 0 (5 : Int)) + (1 : Int)) → Q 0 0 M28) ∧ (¬ (M 57 0 (M 12 0 (5 : Int)) = (62 : Int)) → ((M 57 0 (M 12 0 (5 : Int)) = (40 : Int) → ∀ M29 : bk_M, M29 = bk_up M10 12 0 (7 : Int) (4 : Int) → ∀ M30 : bk_M, M30 = bk_up M29 12 0 (9 : Int) (M 57 0 (M 12 0 (5 : Int))) → bk_r32 ((M30 12 0 (5 : Int)) + (1 : Int)) ∧ ∀ M31 : bk_M, M31 = bk_up M30 12 0 (5 : Int) ((M30 12 0 (5 : Int)) + (1 : Int)) → Q 0 0 M31) ∧ (¬ (M 57 0 (M 12 0 (5 : Int)) = (40 : Int)) → ((M 57 0 (M 12 0 (5 : Int)) ≠ (41 : Int) → ∀ M32 : bk_M, M32 = bk_up M10 12 0 (7 : Int) (1 : Int) → ∀ M33 : bk_M, M33 = bk_up M32 12 0 (9 : Int) (M 57 0 (M 12 0 (5 : Int))) → bk_r32 ((M33 12 0 (5 : Int)) + (1 : Int)) ∧ ∀ M34 : bk_M, M34 = bk_up M33 12 0 (5 : Int) ((M33 12 0 (5 : Int)) + (1 : Int)) → Q 0 0 M34) ∧ (¬ (M 57 0 (M 12 0 (5 : Int)) ≠ (41 : Int)) → ∀ M35 : bk_M, M35 = bk_up M10 12 0 (7 : Int) (4 : Int) → ∀ M36 : bk_M, M36 = bk_up M35 12 0 (9 : Int) (M 57 0 (M 12 0 (5 : Int))) → bk_r32 ((M36 12 0 (5 : Int)) + (1 : Int)) ∧ ∀ M37 : bk_M, M37 = bk_up M36 12 0 (5 : Int) ((M36 12 0 (5 : Int)) + (1 : Int)) → Q 0 0 M37))))))))))))))))))) ∧ (¬ (M 12 0 (5 : Int) < M 12 0 (3 : Int)) → ∀ M38 : bk_M, M38 = bk_up M 12 0 (7 : Int) (0 : Int) → Q 0 0 M38)) := bk_iff [0, 39, 52, 96, 215, 243, 271] 40
theorem L_162_215 {d : Nat} {Q : bk_Q} (x1 : Int) (x2 : Int) (x3 : Int) (M : bk_M) : bk_wp (bk_C d) P_162 Q 0 215 [bk_c 12 0, bk_i x1, bk_i x2, bk_i x3, bk_x] [] M ↔ bk_C d 0 165 [bk_c 12 0, bk_i (M 12 0 (5 : Int))] M (fun t3 r1 M2 => t3 = 0 ∧ bk_C d 0 163 [bk_i r1] M2 (fun t6 r4 M5 => t6 = 0 ∧ ((r4 ≠ (0 : Int) → bk_wp (bk_C d) P_162 Q 0 243 [bk_c 12 0, bk_i x1, bk_i x2, bk_i x3, bk_x] [] M5) ∧ (¬ (r4 ≠ (0 : Int)) → bk_C d 0 165 [bk_c 12 0, bk_i (M5 12 0 (5 : Int))] M5 (fun t9 r7 M8 => t9 = 0 ∧ bk_C d 0 164 [bk_i r7] M8 (fun t12 r10 M11 => t12 = 0 ∧ ((r10 = (0 : Int) → ((x3 = (0 : Int) → ∀ M13 : bk_M, M13 = bk_up M11 12 0 (7 : Int) (1 : Int) → Q 0 0 M13) ∧ (¬ (x3 = (0 : Int)) → bk_r32 ((M11 12 0 (5 : Int)) - (M11 12 0 (6 : Int))) ∧ ((x2 = (0 : Int) → (((M11 12 0 (5 : Int)) - (M11 12 0 (6 : Int)) ≤ (3 : Int) → ((x2 = (0 : Int) → ∀ M14 : bk_M, M14 = bk_up M11 12 0 (7 : Int) (3 : Int) → Q 0 0 M14) ∧ (¬ (x2 = (0 : Int)) → ∀ M15 : bk_M, M15 = bk_up M11 12 0 (7 : Int) (2 : Int) → Q 0 0 M15))) ∧ (¬ ((M11 12 0 (5 : Int)) - (M11 12 0 (6 : Int)) ≤ (3 : Int)) → ∀ M16 : bk_M, M16 = bk_up M11 12 0 (7 : Int) (1 : Int) → Q 0 0 M16))) ∧ (¬ (x2 = (0 : Int)) → (((M11 12 0 (5 : Int)) - (M11 12 0 (6 : Int)) ≤ (7 : Int) → ((x2 = (0 : Int) → ∀ M17 : bk_M, M17 = bk_up M11 12 0 (7 : Int) (3 : Int) → Q 0 0 M17) ∧ (¬ (x2 = (0 : Int)) → ∀ M18 : bk_M, M18 = bk_up M11 12 0 (7 : Int) (2 : Int) → Q 0 0 M18))) ∧ (¬ ((M11 12 0 (5 : Int)) - (M11 12 0 (6 : Int)) ≤ (7 : Int)) → ∀ M19 : bk_M, M19 = bk_up M11 12 0 (7 : Int) (1 : Int) → Q 0 0 M19))))))) ∧ (¬ (r10 = (0 : Int)) → bk_wp (bk_C d) P_162 Q 0 243 [bk_c 12 0, bk_i x1, bk_i x2, bk_i x3, bk_x] [] M11)))))))) := bk_iff [0, 39, 52, 96, 215, 243, 271] 40
set_option maxRecDepth 20000 in
theorem L_162_243 {d : Nat} {Q : bk_Q} (x1 : Int) (x2 : Int) (x3 : Int) (M : bk_M) : bk_wp (bk_C d) P_162 Q 0 243 [bk_c 12 0, bk_i x1, bk_i x2, bk_i x3, bk_x] [] M ↔ ((0 : Int) ≤ M 12 0 (5 : Int) ∧ M 12 0 (5 : Int) < (940 : Int)) ∧ ((x3 = (0 : Int) → bk_wp (bk_C d) P_162 Q 0 271 [bk_c 12 0, bk_i x1, bk_i x2, bk_i x3, bk_i (M 57 0 (M 12 0 (5 : Int)))] [] M) ∧ (¬ (x3 = (0 : Int)) → bk_C d 0 163 [bk_i (M 57 0 (M 12 0 (5 : Int)))] M (fun t3 r1 M2 => t3 = 0 ∧ ((r1 ≠ x2 → bk_wp (bk_C d) P_162 Q 0 271 [bk_c 12 0, bk_i x1, bk_i x2, bk_i x3, bk_i (M 57 0 (M 12 0 (5 : Int)))] [] M2) ∧ (¬ (r1 ≠ x2) → bk_r32 ((M2 12 0 (5 : Int)) - (M2 12 0 (6 : Int))) ∧ (((7 : Int) ≤ (M2 12 0 (5 : Int)) - (M2 12 0 (6 : Int)) → bk_r32 ((M2 12 0 (5 : Int)) - (M2 12 0 (6 : Int))) ∧ (((3 : Int) ≤ (M2 12 0 (5 : Int)) - (M2 12 0 (6 : Int)) → bk_r32 ((M2 12 0 (5 : Int)) + (1 : Int)) ∧ ∀ M4 : bk_M, M4 = bk_up M2 12 0 (5 : Int) ((M2 12 0 (5 : Int)) + (1 : Int)) → bk_wp (bk_C d) P_162 Q 0 215 [bk_c 12 0, bk_i x1, bk_i x2, bk_i (1 : Int), bk_i (M 57 0 (M 12 0 (5 : Int)))] [] M4) ∧ (¬ ((3 : Int) ≤ (M2 12 0 (5 : Int)) - (M2 12 0 (6 : Int))) → bk_r32 ((10 : Int) * (M2 12 0 (8 : Int))) ∧ bk_r32 (((10 : Int) * (M2 12 0 (8 : Int))) + (M 57 0 (M 12 0 (5 : Int)))) ∧ bk_r32 ((((10 : Int) * (M2 12 0 (8 : Int))) + (M 57 0 (M 12 0 (5 : Int)))) - (48 : Int)) ∧ ∀ M5 : bk_M, M5 = bk_up M2 12 0 (8 : Int) ((((10 : Int) * (M2 12 0 (8 : Int))) + (M 57 0 (M 12 0 (5 : Int)))) - (48 : Int)) → bk_r32 ((M5 12 0 (5 : Int)) + (1 : Int)) ∧ ∀ M6 : bk_M, M6 = bk_up M5 12 0 (5 : Int) ((M5 12 0 (5 : Int)) + (1 : Int)) → bk_wp (bk_C d) P_162 Q 0 215 [bk_c 12 0, bk_i x1, bk_i x2, bk_i (1 : Int), bk_i (M 57 0 (M 12 0 (5 : Int)))] [] M6))) ∧ (¬ ((7 : Int) ≤ (M2 12 0 (5 : Int)) - (M2 12 0 (6 : Int))) → bk_r64 ((27 : Int) * (M2 12 0 (12 : Int))) ∧ bk_r64 (((27 : Int) * (M2 12 0 (12 : Int))) + (M 57 0 (M 12 0 (5 : Int)))) ∧ bk_r64 ((((27 : Int) * (M2 12 0 (12 : Int))) + (M 57 0 (M 12 0 (5 : Int)))) - (96 : Int)) ∧ ∀ M7 : bk_M, M7 = bk_up M2 12 0 (12 : Int) ((((27 : Int) * (M2 12 0 (12 : Int))) + (M 57 0 (M 12 0 (5 : Int)))) - (96 : Int)) → bk_r32 ((M7 12 0 (5 : Int)) - (M7 12 0 (6 : Int))) ∧ (((3 : Int) ≤ (M7 12 0 (5 : Int)) - (M7 12 0 (6 : Int)) → bk_r32 ((M7 12 0 (5 : Int)) + (1 : Int)) ∧ ∀ M8 : bk_M, M8 = bk_up M7 12 0 (5 : Int) ((M7 12 0 (5 : Int)) + (1 : Int)) → bk_wp (bk_C d) P_162 Q 0 215 [bk_c 12 0, bk_i x1, bk_i x2, bk_i (1 : Int), bk_i (M 57 0 (M 12 0 (5 : Int)))] [] M8) ∧ (¬ ((3 : Int) ≤ (M7 12 0 (5 : Int)) - (M7 12 0 (6 : Int))) → bk_r32 ((10 : Int) * (M7 12 0 (8 : Int))) ∧ bk_r32 (((10 : Int) * (M7 12 0 (8 : Int))) + (M 57 0 (M 12 0 (5 : Int)))) ∧ bk_r32 ((((10 : Int) * (M7 12 0 (8 : Int))) + (M 57 0 (M 12 0 (5 : Int)))) - (48 : Int)) ∧ ∀ M9 : bk_M, M9 = bk_up M7 12 0 (8 : Int) ((((10 : Int) * (M7 12 0 (8 : Int))) + (M 57 0 (M 12 0 (5 : Int)))) - (48 : Int)) → bk_r32 ((M9 12 0 (5 : Int)) + (1 : Int)) ∧ ∀ M10 : bk_M, M10 = bk_up M9 12 0 (5 : Int) ((M9 12 0 (5 : Int)) + (1 : Int)) → bk_wp (bk_C d) P_162 Q 0 215 [bk_c 12 0, bk_i x1, bk_i x2, bk_i (1 : Int), bk_i (M 57 0 (M 12 0 (5 : Int)))] [] M10))))))))) := bk_iff [0, 39, 52, 96, 215, 243, 271] 40
set_option maxRecDepth 20000 in
theorem L_162_271 {d : Nat} {Q : bk_Q} (x1 : Int) (x2 : Int) (x3 : Int) (x4 : Int) (M : bk_M) : bk_wp (bk_C d) P_162 Q 0 271 [bk_c 12 0, bk_i x1, bk_i x2, bk_i x3, bk_i x4] [] M ↔ bk_r32 ((M 12 0 (5 : Int)) - (M 12 0 (6 : Int))) ∧ (((7 : Int) ≤ (M 12 0 (5 : Int)) - (M 12 0 (6 : Int)) → bk_r32 ((M 12 0 (5 : Int)) - (M 12 0 (6 : Int))) ∧ (((3 : Int) ≤ (M 12 0 (5 : Int)) - (M 12 0 (6 : Int)) → bk_r32 ((M 12 0 (5 : Int)) + (1 : Int)) ∧ ∀ M1 : bk_M, M1 = bk_up M 12 0 (5 : Int) ((M 12 0 (5 : Int)) + (1 : Int)) → bk_wp (bk_C d) P_162 Q 0 215 [bk_c 12 0, bk_i x1, bk_i x2, bk_i (0 : Int), bk_i x4] [] M1) ∧ (¬ ((3 : Int) ≤ (M 12 0 (5 : Int)) - (M 12 0 (6 : Int))) → bk_r32 ((10 : Int) * (M 12 0 (8 : Int))) ∧ bk_r32 (((10 : Int) * (M 12 0 (8 : Int))) + x4) ∧ bk_r32 ((((10 : Int) * (M 12 0 (8 : Int))) + x4) - (48 : Int)) ∧ ∀ M2 : bk_M, M2 = bk_up M 12 0 (8 : Int) ((((10 : Int) * (M 12 0 (8 : Int))) + x4) - (48 : Int)) → bk_r32 ((M2 12 0 (5 : Int)) + (1 : Int)) ∧ ∀ M3 : bk_M, M3 = bk_up M2 12 0 (5 : Int) ((M2 12 0 (5 : Int)) + (1 : Int)) → bk_wp (bk_C d) P_162 Q 0 215 [bk_c 12 0, bk_i x1, bk_i x2, bk_i (0 : Int), bk_i x4] [] M3))) ∧ (¬ ((7 : Int) ≤ (M 12 0 (5 : Int)) - (M 12 0 (6 : Int))) → bk_r64 ((27 : Int) * (M 12 0 (12 : Int))) ∧ bk_r64 (((27 : Int) * (M 12 0 (12 : Int))) + x4) ∧ bk_r64 ((((27 : Int) * (M 12 0 (12 : Int))) + x4) - (96 : Int)) ∧ ∀ M4 : bk_M, M4 = bk_up M 12 0 (12 : Int) ((((27 : Int) * (M 12 0 (12 : Int))) + x4) - (96 : Int)) → bk_r32 ((M4 12 0 (5 : Int)) - (M4 12 0 (6 : Int))) ∧ (((3 : Int) ≤ (M4 12 0 (5 : Int)) - (M4 12 0 (6 : Int)) → bk_r32 ((M4 12 0 (5 : Int)) + (1 : Int)) ∧ ∀ M5 : bk_M, M5 = bk_up M4 12 0 (5 : Int) ((M4 12 0 (5 : Int)) + (1 : Int)) → bk_wp (bk_C d) P_162 Q 0 215 [bk_c 12 0, bk_i x1, bk_i x2, bk_i (0 : Int), bk_i x4] [] M5) ∧ (¬ ((3 : Int) ≤ (M4 12 0 (5 : Int)) - (M4 12 0 (6 : Int))) → bk_r32 ((10 : Int) * (M4 12 0 (8 : Int))) ∧ bk_r32 (((10 : Int) * (M4 12 0 (8 : Int))) + x4) ∧ bk_r32 ((((10 : Int) * (M4 12 0 (8 : Int))) + x4) - (48 : Int)) ∧ ∀ M6 : bk_M, M6 = bk_up M4 12 0 (8 : Int) ((((10 : Int) * (M4 12 0 (8 : Int))) + x4) - (48 : Int)) → bk_r32 ((M6 12 0 (5 : Int)) + (1 : Int)) ∧ ∀ M7 : bk_M, M7 = bk_up M6 12 0 (5 : Int) ((M6 12 0 (5 : Int)) + (1 : Int)) → bk_wp (bk_C d) P_162 Q 0 215 [bk_c 12 0, bk_i x1, bk_i x2, bk_i (0 : Int), bk_i x4] [] M7)))) := bk_iff [0, 39, 52, 96, 215, 243, 271] 40
theorem E_163 {d : Nat} {Q : bk_Q} (a0 : Int) (M : bk_M) : bk_C (d + 1) 0 163 [bk_i a0] M Q ↔ ((a0 < (97 : Int) → ((0 : Int) = 0 ∨ (0 : Int) = 1) ∧ Q 0 (0 : Int) M) ∧ (¬ (a0 < (97 : Int)) → (((122 : Int) < a0 → ((0 : Int) = 0 ∨ (0 : Int) = 1) ∧ Q 0 (0 : Int) M) ∧ (¬ ((122 : Int) < a0) → ((1 : Int) = 0 ∨ (1 : Int) = 1) ∧ Q 0 (1 : Int) M)))) := bk_iff (d := d) (P := P_163) (b := 0) (l := 0) (ls := [bk_i a0]) (st := []) (M := M) [] 40
theorem E_164 {d : Nat} {Q : bk_Q} (a0 : Int) (M : bk_M) : bk_C (d + 1) 0 164 [bk_i a0] M Q ↔ ((a0 < (48 : Int) → ((0 : Int) = 0 ∨ (0 : Int) = 1) ∧ Q 0 (0 : Int) M) ∧ (¬ (a0 < (48 : Int)) → (((57 : Int) < a0 → ((0 : Int) = 0 ∨ (0 : Int) = 1) ∧ Q 0 (0 : Int) M) ∧ (¬ ((57 : Int) < a0) → ((1 : Int) = 0 ∨ (1 : Int) = 1) ∧ Q 0 (1 : Int) M)))) := bk_iff (d := d) (P := P_164) (b := 0) (l := 0) (ls := [bk_i a0]) (st := []) (M := M) [] 40
theorem E_165 {d : Nat} {Q : bk_Q} (a1 : Int) (M : bk_M) : bk_C (d + 1) 0 165 [bk_c 12 0, bk_i a1] M Q ↔ ((M 12 0 (3 : Int) ≤ a1 → Q 0 (0 : Int) M) ∧ (¬ (M 12 0 (3 : Int) ≤ a1) → ((0 : Int) ≤ a1 ∧ a1 < (940 : Int)) ∧ Q 0 (M 57 0 a1) M)) := bk_iff (d := d) (P := P_165) (b := 0) (l := 0) (ls := [bk_c 12 0, bk_i a1]) (st := []) (M := M) [] 40
set_option maxRecDepth 20000 in
theorem E_166 {d : Nat} {Q : bk_Q} (M : bk_M) : bk_C (d + 1) 0 166 [bk_c 12 0] M Q ↔ bk_C d 0 167 [bk_c 12 0, bk_i (0 : Int)] M (fun t3 r1 M2 => t3 = 0 ∧ ((r1 = (0 : Int) → bk_C d 0 167 [bk_c 12 0, bk_i (1 : Int)] M2 (fun t6 r4 M5 => t6 = 0 ∧ ((r4 = (0 : Int) → bk_C d 0 167 [bk_c 12 0, bk_i (2 : Int)] M5 (fun t9 r7 M8 => t9 = 0 ∧ ((r7 = (0 : Int) → bk_C d 0 167 [bk_c 12 0, bk_i (3 : Int)] M8 (fun t12 r10 M11 => t12 = 0 ∧ ((r10 = (0 : Int) → bk_C d 0 167 [bk_c 12 0, bk_i (4 : Int)] M11 (fun t15 r13 M14 => t15 = 0 ∧ ((r13 = (0 : Int) → bk_C d 0 167 [bk_c 12 0, bk_i (5 : Int)] M14 (fun t18 r16 M17 => t18 = 0 ∧ ((r16 = (0 : Int) → bk_C d 0 167 [bk_c 12 0, bk_i (6 : Int)] M17 (fun t21 r19 M20 => t21 = 0 ∧ ((r19 = (0 : Int) → bk_C d 0 171 [bk_c 12 0, bk_i (1 : Int)] M20 (fun t24 r22 M23 => t24 = 0 ∧ (r22 = 0 ∨ r22 = 1) ∧ Q 0 r22 M23)) ∧ (¬ (r19 = (0 : Int)) → bk_C d 0 172 [bk_c 12 0, bk_i (2 : Int)] M20 (fun t27 r25 M26 => t27 = 0 ∧ ((r25 = (0 : Int) → ((0 : Int) = 0 ∨ (0 : Int) = 1) ∧ Q 0 (0 : Int) M26) ∧ (¬ (r25 = (0 : Int)) → bk_C d 0 174 [bk_c 12 0, bk_i (0 : Int), bk_i (5 : Int)] M26 (fun t30 r28 M29 => t30 = 0 ∧ bk_C d 0 175 [bk_c 12 0, bk_i (5 : Int), bk_i r28] M29 (fun t33 r31 M32 => t33 = 0 ∧ ((r31 = (0 : Int) → ((0 : Int) = 0 ∨ (0 : Int) = 1) ∧ Q 0 (0 : Int) M32) ∧ (¬ (r31 = (0 : Int)) → ((1 : Int) = 0 ∨ (1 : Int) = 1) ∧ Q 0 (1 : Int) M32))))))))))) ∧ (¬ (r16 = (0 : Int)) → bk_C d 0 186 [bk_c 12 0] M17 (fun t36 r34 M35 => t36 = 0 ∧ (r34 = 0 ∨ r34 = 1) ∧ Q 0 r34 M35))))) ∧ (¬ (r13 = (0 : Int)) → bk_C d 0 185 [bk_c 12 0] M14 (fun t39 r37 M38 => t39 = 0 ∧ (r37 = 0 ∨ r37 = 1) ∧ Q 0 r37 M38))))) ∧ (¬ (r10 = (0 : Int)) → bk_C d 0 179 [bk_c 12 0] M11 (fun t42 r40 M41 => t42 = 0 ∧ (r40 = 0 ∨ r40 = 1) ∧ Q 0 r40 M41))))) ∧ (¬ (r7 = (0 : Int)) → bk_C d 0 172 [bk_c 12 0, bk_i (1 : Int)] M8 (fun t45 r43 M44 => t45 = 0 ∧ ((r43 = (0 : Int) → ((0 : Int) = 0 ∨ (0 : Int) = 1) ∧ Q 0 (0 : Int) M44) ∧ (¬ (r43 = (0 : Int)) → bk_C d 0 177 [bk_c 12 0] M44 (fun t48 r46 M47 => t48 = 0 ∧ bk_C d 0 175 [bk_c 12 0, bk_i (4 : Int), bk_i r46] M47 (fun t51 r49 M50 => t51 = 0 ∧ ((r49 = (0 : Int) → ((0 : Int) = 0 ∨ (0 : Int) = 1) ∧ Q 0 (0 : Int) M50) ∧ (¬ (r49 = (0 : Int)) → ((1 : Int) = 0 ∨ (1 : Int) = 1) ∧ Q 0 (1 : Int) M50))))))))))) ∧ (¬ (r4 = (0 : Int)) → bk_C d 0 176 [bk_c 12 0] M5 (fun t54 r52 M53 => t54 = 0 ∧ (r52 = 0 ∨ r52 = 1) ∧ Q 0 r52 M53))))) ∧ (¬ (r1 = (0 : Int)) → bk_C d 0 170 [bk_c 12 0] M2 (fun t57 r55 M56 => t57 = 0 ∧ (r55 = 0 ∨ r55 = 1) ∧ Q 0 r55 M56)))) := bk_iff (d := d) (P := P_166) (b := 0) (l := 0) (ls := [bk_c 12 0]) (st := []) (M := M) [] 40
theorem E_167 {d : Nat} {Q : bk_Q} (a1 : Int) (M : bk_M) : bk_C (d + 1) 0 167 [bk_c 12 0, bk_i a1] M Q ↔ ((M 12 0 (7 : Int) ≠ (2 : Int) → ((0 : Int) = 0 ∨ (0 : Int) = 1) ∧ Q 0 (0 : Int) M) ∧ (¬ (M 12 0 (7 : Int) ≠ (2 : Int)) → bk_C d 0 168 [bk_i a1] M (fun t3 r1 M2 => t3 = 0 ∧ ((bk_lcmp (M 12 0 (12 : Int)) r1 ≠ (0 : Int) → ((0 : Int) = 0 ∨ (0 : Int) = 1) ∧ Q 0 (0 : Int) M2) ∧ (¬ (bk_lcmp (M 12 0 (12 : Int)) r1 ≠ (0 : Int)) → ((1 : Int) = 0 ∨ (1 : Int) = 1) ∧ Q 0 (1 : Int) M2))))) := bk_iff (d := d) (P := P_167) (b := 0) (l := 0) (ls := [bk_c 12 0, bk_i a1]) (st := []) (M := M) [] 40
set_option maxRecDepth 20000 in
theorem E_168 {d : Nat} {Q : bk_Q} (a0 : Int) (M : bk_M) : bk_C (d + 1) 0 168 [bk_i a0] M Q ↔ ((a0 = (0 : Int) → bk_C d 0 169 [bk_i (112 : Int), bk_i (108 : Int), bk_i (97 : Int), bk_i (105 : Int), bk_i (110 : Int), bk_i (0 : Int), bk_i (0 : Int)] M (fun t3 r1 M2 => t3 = 0 ∧ Q 0 r1 M2)) ∧ (a0 ≠ (0 : Int) → ((a0 = (1 : Int) → bk_C d 0 169 [bk_i (108 : Int), bk_i (97 : Int), bk_i (110 : Int), bk_i (100 : Int), bk_i (0 : Int), bk_i (0 : Int), bk_i (0 : Int)] M (fun t6 r4 M5 => t6 = 0 ∧ Q 0 r4 M5)) ∧ (a0 ≠ (1 : Int) → ((a0 = (2 : Int) → bk_C d 0 169 [bk_i (115 : Int), bk_i (111 : Int), bk_i (117 : Int), bk_i (114 : Int), bk_i (99 : Int), bk_i (101 : Int), bk_i (0 : Int)] M (fun t9 r7 M8 => t9 = 0 ∧ Q 0 r7 M8)) ∧ (a0 ≠ (2 : Int) → ((a0 = (3 : Int) → bk_C d 0 169 [bk_i (102 : Int), bk_i (105 : Int), bk_i (101 : Int), bk_i (108 : Int), bk_i (100 : Int), bk_i (0 : Int), bk_i (0 : Int)] M (fun t12 r10 M11 => t12 = 0 ∧ Q 0 r10 M11)) ∧ (a0 ≠ (3 : Int) → ((a0 = (4 : Int) → bk_C d 0 169 [bk_i (109 : Int), bk_i (105 : Int), bk_i (108 : Int), bk_i (108 : Int), bk_i (0 : Int), bk_i (0 : Int), bk_i (0 : Int)] M (fun t15 r13 M14 => t15 = 0 ∧ Q 0 r13 M14)) ∧ (a0 ≠ (4 : Int) → ((a0 = (5 : Int) → bk_C d 0 169 [bk_i (112 : Int), bk_i (117 : Int), bk_i (114 : Int), bk_i (115 : Int), bk_i (101 : Int), bk_i (0 : Int), bk_i (0 : Int)] M (fun t18 r16 M17 => t18 = 0 ∧ Q 0 r16 M17)) ∧ (a0 ≠ (5 : Int) → ((a0 = (6 : Int) → bk_C d 0 169 [bk_i (105 : Int), bk_i (99 : Int), bk_i (101 : Int), bk_i (0 : Int), bk_i (0 : Int), bk_i (0 : Int), bk_i (0 : Int)] M (fun t21 r19 M20 => t21 = 0 ∧ Q 0 r19 M20)) ∧ (a0 ≠ (6 : Int) → ((a0 = (7 : Int) → bk_C d 0 169 [bk_i (100 : Int), bk_i (105 : Int), bk_i (103 : Int), bk_i (115 : Int), bk_i (0 : Int), bk_i (0 : Int), bk_i (0 : Int)] M (fun t24 r22 M23 => t24 = 0 ∧ Q 0 r22 M23)) ∧ (a0 ≠ (7 : Int) → ((a0 = (8 : Int) → bk_C d 0 169 [bk_i (108 : Int), bk_i (97 : Int), bk_i (121 : Int), bk_i (115 : Int), bk_i (0 : Int), bk_i (0 : Int), bk_i (0 : Int)] M (fun t27 r25 M26 => t27 = 0 ∧ Q 0 r25 M26)) ∧ (a0 ≠ (8 : Int) → ((a0 = (9 : Int) → bk_C d 0 169 [bk_i (114 : Int), bk_i (111 : Int), bk_i (108 : Int), bk_i (108 : Int), bk_i (115 : Int), bk_i (0 : Int), bk_i (0 : Int)] M (fun t30 r28 M29 => t30 = 0 ∧ Q 0 r28 M29)) ∧ (a0 ≠ (9 : Int) → ((a0 = (10 : Int) → bk_C d 0 169 [bk_i (115 : Int), bk_i (112 : Int), bk_i (114 : Int), bk_i (105 : Int), bk_i (110 : Int), bk_i (103 : Int), bk_i (0 : Int)] M (fun t33 r31 M32 => t33 = 0 ∧ Q 0 r31 M32)) ∧ (a0 ≠ (10 : Int) → ((a0 = (11 : Int) → bk_C d 0 169 [bk_i (121 : Int), bk_i (101 : Int), bk_i (97 : Int), bk_i (114 : Int), bk_i (115 : Int), bk_i (0 : Int), bk_i (0 : Int)] M (fun t36 r34 M35 => t36 = 0 ∧ Q 0 r34 M35)) ∧ (a0 ≠ (11 : Int) → ((a0 = (12 : Int) → bk_C d 0 169 [bk_i (111 : Int), bk_i (114 : Int), bk_i (0 : Int), bk_i (0 : Int), bk_i (0 : Int), bk_i (0 : Int), bk_i (0 : Int)] M (fun t39 r37 M38 => t39 = 0 ∧ Q 0 r37 M38)) ∧ (a0 ≠ (12 : Int) → ((a0 = (13 : Int) → bk_C d 0 169 [bk_i (97 : Int), bk_i (110 : Int), bk_i (100 : Int), bk_i (0 : Int), bk_i (0 : Int), bk_i (0 : Int), bk_i (0 : Int)] M (fun t42 r40 M41 => t42 = 0 ∧ Q 0 r40 M41)) ∧ (a0 ≠ (13 : Int) → ((a0 = (14 : Int) → bk_C d 0 169 [bk_i (110 : Int), bk_i (111 : Int), bk_i (116 : Int), bk_i (0 : Int), bk_i (0 : Int), bk_i (0 : Int), bk_i (0 : Int)] M (fun t45 r43 M44 => t45 = 0 ∧ Q 0 r43 M44)) ∧ (a0 ≠ (14 : Int) → ((a0 = (15 : Int) → bk_C d 0 169 [bk_i (108 : Int), bk_i (101 : Int), bk_i (102 : Int), bk_i (116 : Int), bk_i (0 : Int), bk_i (0 : Int), bk_i (0 : Int)] M (fun t48 r46 M47 => t48 = 0 ∧ Q 0 r46 M47)) ∧ (a0 ≠ (15 : Int) → ((a0 = (16 : Int) → bk_C d 0 169 [bk_i (114 : Int), bk_i (105 : Int), bk_i (103 : Int), bk_i (104 : Int), bk_i (116 : Int), bk_i (0 : Int), bk_i (0 : Int)] M (fun t51 r49 M50 => t51 = 0 ∧ Q 0 r49 M50)) ∧ (a0 ≠ (16 : Int) → ((a0 = (17 : Int) → bk_C d 0 169 [bk_i (119 : Int), bk_i (101 : Int), bk_i (116 : Int), bk_i (0 : Int), bk_i (0 : Int), bk_i (0 : Int), bk_i (0 : Int)] M (fun t54 r52 M53 => t54 = 0 ∧ Q 0 r52 M53)) ∧ (a0 ≠ (17 : Int) → ((a0 = (18 : Int) → bk_C d 0 169 [bk_i (110 : Int), bk_i (101 : Int), bk_i (97 : Int), bk_i (114 : Int), bk_i (0 : Int), bk_i (0 : Int), bk_i (0 : Int)] M (fun t57 r55 M56 => t57 = 0 ∧ Q 0 r55 M56)) ∧ (a0 ≠ (18 : Int) → ((a0 = (19 : Int) → bk_C d 0 169 [bk_i (115 : Int), bk_i (97 : Int), bk_i (109 : Int), bk_i (101 : Int), bk_i (0 : Int), bk_i (0 : Int), bk_i (0 : Int)] M (fun t60 r58 M59 => t60 = 0 ∧ Q 0 r58 M59)) ∧ (a0 ≠ (19 : Int) → ((a0 = (20 : Int) → bk_C d 0 169 [bk_i (97 : Int), bk_i (98 : Int), bk_i (111 : Int), bk_i (118 : Int), bk_i (101 : Int), bk_i (0 : Int), bk_i (0 : Int)] M (fun t63 r61 M62 => t63 = 0 ∧ Q 0 r61 M62)) ∧ (a0 ≠ (20 : Int) → ((a0 = (21 : Int) → bk_C d 0 169 [bk_i (119 : Int), bk_i (111 : Int), bk_i (114 : Int), bk_i (116 : Int), bk_i (104 : Int), bk_i (0 : Int), bk_i (0 : Int)] M (fun t66 r64 M65 => t66 = 0 ∧ Q 0 r64 M65)) ∧ (a0 ≠ (21 : Int) → ((a0 = (22 : Int) → bk_C d 0 169 [bk_i (104 : Int), bk_i (101 : Int), bk_i (105 : Int), bk_i (103 : Int), bk_i (104 : Int), bk_i (116 : Int), bk_i (0 : Int)] M (fun t69 r67 M68 => t69 = 0 ∧ Q 0 r67 M68)) ∧ (a0 ≠ (22 : Int) → ((a0 = (23 : Int) → bk_C d 0 169 [bk_i (99 : Int), bk_i (104 : Int), bk_i (97 : Int), bk_i (110 : Int), bk_i (103 : Int), bk_i (101 : Int), bk_i (100 : Int)] M (fun t72 r70 M71 => t72 = 0 ∧ Q 0 r70 M71)) ∧ (a0 ≠ (23 : Int) → bk_C d 0 169 [bk_i (110 : Int), bk_i (117 : Int), bk_i (109 : Int), bk_i (98 : Int), bk_i (101 : Int), bk_i (114 : Int), bk_i (0 : Int)] M (fun t75 r73 M74 => t75 = 0 ∧ Q 0 r73 M74))))))))))))))))))))))))))))))))))))))))))))))))) := bk_iff (d := d) (P := P_168) (b := 0) (l := 0) (ls := [bk_i a0]) (st := []) (M := M) [] 40
theorem E_169 {d : Nat} {Q : bk_Q} (a0 : Int) (a1 : Int) (a2 : Int) (a3 : Int) (a4 : Int) (a5 : Int) (a6 : Int) (M : bk_M) : bk_C (d + 1) 0 169 [bk_i a0, bk_i a1, bk_i a2, bk_i a3, bk_i a4, bk_i a5, bk_i a6] M Q ↔ bk_r64 (a0 - (96 : Int)) ∧ bk_r64 ((27 : Int) * (a0 - (96 : Int))) ∧ bk_r64 (((27 : Int) * (a0 - (96 : Int))) + a1) ∧ bk_r64 ((((27 : Int) * (a0 - (96 : Int))) + a1) - (96 : Int)) ∧ ((a2 ≤ (0 : Int) → bk_wp (bk_C d) P_169 Q 0 38 [bk_i a0, bk_i a1, bk_i a2, bk_i a3, bk_i a4, bk_i a5, bk_i a6, bk_l ((((27 : Int) * (a0 - (96 : Int))) + a1) - (96 : Int)), bk_x] [] M) ∧ (¬ (a2 ≤ (0 : Int)) → bk_r64 ((27 : Int) * ((((27 : Int) * (a0 - (96 : Int))) + a1) - (96 : Int))) ∧ bk_r64 (((27 : Int) * ((((27 : Int) * (a0 - (96 : Int))) + a1) - (96 : Int))) + a2) ∧ bk_r64 ((((27 : Int) * ((((27 : Int) * (a0 - (96 : Int))) + a1) - (96 : Int))) + a2) - (96 : Int)) ∧ bk_wp (bk_C d) P_169 Q 0 38 [bk_i a0, bk_i a1, bk_i a2, bk_i a3, bk_i a4, bk_i a5, bk_i a6, bk_l ((((27 : Int) * ((((27 : Int) * (a0 - (96 : Int))) + a1) - (96 : Int))) + a2) - (96 : Int)), bk_x] [] M)) := bk_iff (d := d) (P := P_169) (b := 0) (l := 0) (ls := [bk_i a0, bk_i a1, bk_i a2, bk_i a3, bk_i a4, bk_i a5, bk_i a6, bk_x, bk_x]) (st := []) (M := M) [38] 40
set_option maxRecDepth 20000 in
theorem L_169_38 {d : Nat} {Q : bk_Q} (x0 : Int) (x1 : Int) (x2 : Int) (x3 : Int) (x4 : Int) (x5 : Int) (x6 : Int) (x7 : Int) (M : bk_M) : bk_wp (bk_C d) P_169 Q 0 38 [bk_i x0, bk_i x1, bk_i x2, bk_i x3, bk_i x4, bk_i x5, bk_i x6, bk_l x7, bk_x] [] M ↔ ((x3 ≤ (0 : Int) → ((x4 ≤ (0 : Int) → ((x5 ≤ (0 : Int) → ((x6 ≤ (0 : Int) → Q 0 x7 M) ∧ (¬ (x6 ≤ (0 : Int)) → bk_r64 ((27 : Int) * x7) ∧ bk_r64 (((27 : Int) * x7) + x6) ∧ bk_r64 ((((27 : Int) * x7) + x6) - (96 : Int)) ∧ Q 0 ((((27 : Int) * x7) + x6) - (96 : Int)) M))) ∧ (¬ (x5 ≤ (0 : Int)) → bk_r64 ((27 : Int) * x7) ∧ bk_r64 (((27 : Int) * x7) + x5) ∧ bk_r64 ((((27 : Int) * x7) + x5) - (96 : Int)) ∧ ((x6 ≤ (0 : Int) → Q 0 ((((27 : Int) * x7) + x5) - (96 : Int)) M) ∧ (¬ (x6 ≤ (0 : Int)) → bk_r64 ((27 : Int) * ((((27 : Int) * x7) + x5) - (96 : Int))) ∧ bk_r64 (((27 : Int) * ((((27 : Int) * x7) + x5) - (96 : Int))) + x6) ∧ bk_r64 ((((27 : Int) * ((((27 : Int) * x7) + x5) - (96 : Int))) + x6) - (96 : Int)) ∧ Q 0 ((((27 : Int) * ((((27 : Int) * x7) + x5) - (96 : Int))) + x6) - (96 : Int)) M))))) ∧ (¬ (x4 ≤ (0 : Int)) → bk_r64 ((27 : Int) * x7) ∧ bk_r64 (((27 : Int) * x7) + x4) ∧ bk_r64 ((((27 : Int) * x7) + x4) - (96 : Int)) ∧ ((x5 ≤ (0 : Int) → ((x6 ≤ (0 : Int) → Q 0 ((((27 : Int) * x7) + x4) - (96 : Int)) M) ∧ (¬ (x6 ≤ (0 : Int)) → bk_r64 ((27 : Int) * ((((27 : Int) * x7) + x4) - (96 : Int))) ∧ bk_r64 (((27 : Int) * ((((27 : Int) * x7) + x4) - (96 : Int))) + x6) ∧ bk_r64 ((((27 : Int) * ((((27 : Int) * x7) + x4) - (96 : Int))) + x6) - (96 : Int)) ∧ Q 0 ((((27 : Int) * ((((27 : Int) * x7) + x4) - (96 : Int))) + x6) - (96 : Int)) M))) ∧ (¬ (x5 ≤ (0 : Int)) → bk_r64 ((27 : Int) * ((((27 : Int) * x7) + x4) - (96 : Int))) ∧ bk_r64 (((27 : Int) * ((((27 : Int) * x7) + x4) - (96 : Int))) + x5) ∧ bk_r64 ((((27 : Int) * ((((27 : Int) * x7) + x4) - (96 : Int))) + x5) - (96 : Int)) ∧ ((x6 ≤ (0 : Int) → Q 0 ((((27 : Int) * ((((27 : Int) * x7) + x4) - (96 : Int))) + x5) - (96 : Int)) M) ∧ (¬ (x6 ≤ (0 : Int)) → bk_r64 ((27 : Int) * ((((27 : Int) * ((((27 : Int) * x7) + x4) - (96 : Int))) + x5) - (96 : Int))) ∧ bk_r64 (((27 : Int) * ((((27 : Int) * ((((27 : Int) * x7) + x4) - (96 : Int))) + x5) - (96 : Int))) + x6) ∧ bk_r64 ((((27 : Int) * ((((27 : Int) * ((((27 : Int) * x7) + x4) - (96 : Int))) + x5) - (96 : Int))) + x6) - (96 : Int)) ∧ Q 0 ((((27 : Int) * ((((27 : Int) * ((((27 : Int) * x7) + x4) - (96 : Int))) + x5) - (96 : Int))) + x6) - (96 : Int)) M))))))) ∧ (¬ (x3 ≤ (0 : Int)) → bk_r64 ((27 : Int) * x7) ∧ bk_r64 (((27 : Int) * x7) + x3) ∧ bk_r64 ((((27 : Int) * x7) + x3) - (96 : Int)) ∧ ((x4 ≤ (0 : Int) → ((x5 ≤ (0 : Int) → ((x6 ≤ (0 : Int) → Q 0 ((((27 : Int) * x7) + x3) - (96 : Int)) M) ∧ (¬ (x6 ≤ (0 : Int)) → bk_r64 ((27 : Int) * ((((27 : Int) * x7) + x3) - (96 : Int))) ∧ bk_r64 (((27 : Int) * ((((27 : Int) * x7) + x3) - (96 : Int))) + x6) ∧ bk_r64 ((((27 : Int) * ((((27 : Int) * x7) + x3) - (96 : Int))) + x6) - (96 : Int)) ∧ Q 0 ((((27 : Int) * ((((27 : Int) * x7) + x3) - (96 : Int))) + x6) - (96 : Int)) M))) ∧ (¬ (x5 ≤ (0 : Int)) → bk_r64 ((27 : Int) * ((((27 : Int) * x7) + x3) - (96 : Int))) ∧ bk_r64 (((27 : Int) * ((((27 : Int) * x7) + x3) - (96 : Int))) + x5) ∧ bk_r64 ((((27 : Int) * ((((27 : Int) * x7) + x3) - (96 : Int))) + x5) - (96 : Int)) ∧ ((x6 ≤ (0 : Int) → Q 0 ((((27 : Int) * ((((27 : Int) * x7) + x3) - (96 : Int))) + x5) - (96 : Int)) M) ∧ (¬ (x6 ≤ (0 : Int)) → bk_r64 ((27 : Int) * ((((27 : Int) * ((((27 : Int) * x7) + x3) - (96 : Int))) + x5) - (96 : Int))) ∧ bk_r64 (((27 : Int) * ((((27 : Int) * ((((27 : Int) * x7) + x3) - (96 : Int))) + x5) - (96 : Int))) + x6) ∧ bk_r64 ((((27 : Int) * ((((27 : Int) * ((((27 : Int) * x7) + x3) - (96 : Int))) + x5) - (96 : Int))) + x6) - (96 : Int)) ∧ Q 0 ((((27 : Int) * ((((27 : Int) * ((((27 : Int) * x7) + x3) - (96 : Int))) + x5) - (96 : Int))) + x6) - (96 : Int)) M))))) ∧ (¬ (x4 ≤ (0 : Int)) → bk_r64 ((27 : Int) * ((((27 : Int) * x7) + x3) - (96 : Int))) ∧ bk_r64 (((27 : Int) * ((((27 : Int) * x7) + x3) - (96 : Int))) + x4) ∧ bk_r64 ((((27 : Int) * ((((27 : Int) * x7) + x3) - (96 : Int))) + x4) - (96 : Int)) ∧ ((x5 ≤ (0 : Int) → ((x6 ≤ (0 : Int) → Q 0 ((((27 : Int) * ((((27 : Int) * x7) + x3) - (96 : Int))) + x4) - (96 : Int)) M) ∧ (¬ (x6 ≤ (0 : Int)) → bk_r64 ((27 : Int) * ((((27 : Int) * ((((27 : Int) * x7) + x3) - (96 : Int))) + x4) - (96 : Int))) ∧ bk_r64 (((27 : Int) * ((((27 : Int) * ((((27 : Int) * x7) + x3) - (96 : Int))) + x4) - (96 : Int))) + x6) ∧ bk_r64 ((((27 : Int) * ((((27 : Int) * ((((27 : Int) * x7) + x3) - (96 : Int))) + x4) - (96 : Int))) + x6) - (96 : Int)) ∧ Q 0 ((((27 : Int) * ((((27 : Int) * ((((27 : Int) * x7) + x3) - (96 : Int))) + x4) - (96 : Int))) + x6) - (96 : Int)) M))) ∧ (¬ (x5 ≤ (0 : Int)) → bk_r64 ((27 : Int) * ((((27 : Int) * ((((27 : Int) * x7) + x3) - (96 : Int))) + x4) - (96 : Int))) ∧ bk_r64 (((27 : Int) * ((((27 : Int) * ((((27 : Int) * x7) + x3) - (96 : Int))) + x4) - (96 : Int))) + x5) ∧ bk_r64 ((((27 : Int) * ((((27 : Int) * ((((27 : Int) * x7) + x3) - (96 : Int))) + x4) - (96 : Int))) + x5) - (96 : Int)) ∧ ((x6 ≤ (0 : Int) → Q 0 ((((27 : Int) * ((((27 : Int) * ((((27 : Int) * x7) + x3) - (96 : Int))) + x4) - (96 : Int))) + x5) - (96 : Int)) M) ∧ (¬ (x6 ≤ (0 : Int)) → bk_r64 ((27 : Int) * ((((27 : Int) * ((((27 : Int) * ((((27 : Int) * x7) + x3) - (96 : Int))) + x4) - (96 : Int))) + x5) - (96 : Int))) ∧ bk_r64 (((27 : Int) * ((((27 : Int) * ((((27 : Int) * ((((27 : Int) * x7) + x3) - (96 : Int))) + x4) - (96 : Int))) + x5) - (96 : Int))) + x6) ∧ bk_r64 ((((27 : Int) * ((((27 : Int) * ((((27 : Int) * ((((27 : Int) * x7) + x3) - (96 : Int))) + x4) - (96 : Int))) + x5) - (96 : Int))) + x6) - (96 : Int)) ∧ Q 0 ((((27 : Int) * ((((27 : Int) * ((((27 : Int) * ((((27 : Int) * x7) + x3) - (96 : Int))) + x4) - (96 : Int))) + x5) - (96 : Int))) + x6) - (96 : Int)) M)))))))) := bk_iff [38] 40
theorem E_170 {d : Nat} {Q : bk_Q} (M : bk_M) : bk_C (d + 1) 0 170 [bk_c 12 0] M Q ↔ ((M 12 0 (26 : Int) = (0 : Int) → bk_C d 0 172 [bk_c 12 0, bk_i (0 : Int)] M (fun t3 r1 M2 => t3 = 0 ∧ ((r1 = (0 : Int) → ((0 : Int) = 0 ∨ (0 : Int) = 1) ∧ Q 0 (0 : Int) M2) ∧ (¬ (r1 = (0 : Int)) → bk_C d 0 173 [bk_c 12 0, bk_i (3 : Int), bk_i (6 : Int)] M2 (fun t6 r4 M5 => t6 = 0 ∧ bk_C d 0 175 [bk_c 12 0, bk_i (2 : Int), bk_i r4] M5 (fun t9 r7 M8 => t9 = 0 ∧ ((r7 = (0 : Int) → ((0 : Int) = 0 ∨ (0 : Int) = 1) ∧ Q 0 (0 : Int) M8) ∧ (¬ (r7 = (0 : Int)) → bk_C d 0 173 [bk_c 12 0, bk_i (2 : Int), bk_i (6 : Int)] M8 (fun t12 r10 M11 => t12 = 0 ∧ bk_C d 0 175 [bk_c 12 0, bk_i (3 : Int), bk_i r10] M11 (fun t15 r13 M14 => t15 = 0 ∧ ((r13 = (0 : Int) → ((0 : Int) = 0 ∨ (0 : Int) = 1) ∧ Q 0 (0 : Int) M14) ∧ (¬ (r13 = (0 : Int)) → ((1 : Int) = 0 ∨ (1 : Int) = 1) ∧ Q 0 (1 : Int) M14)))))))))))) ∧ (¬ (M 12 0 (26 : Int) = (0 : Int)) → bk_C d 0 171 [bk_c 12 0, bk_i (3 : Int)] M (fun t18 r16 M17 => t18 = 0 ∧ (r16 = 0 ∨ r16 = 1) ∧ Q 0 r16 M17))) := bk_iff (d := d) (P := P_170) (b := 0) (l := 0) (ls := [bk_c 12 0]) (st := []) (M := M) [] 40
theorem E_171 {d : Nat} {Q : bk_Q} (a1 : Int) (M : bk_M) : bk_C (d + 1) 0 171 [bk_c 12 0, bk_i a1] M Q ↔ ((M 12 0 (7 : Int) ≠ (1 : Int) → ∀ M1 : bk_M, M1 = bk_up M 12 0 (10 : Int) a1 → ∀ M2 : bk_M, M2 = bk_up M1 12 0 (11 : Int) (M1 12 0 (6 : Int)) → ((0 : Int) = 0 ∨ (0 : Int) = 1) ∧ Q 0 (0 : Int) M2) ∧ (¬ (M 12 0 (7 : Int) ≠ (1 : Int)) → ∀ M3 : bk_M, M3 = bk_up M 12 0 (10 : Int) (1 : Int) → ∀ M4 : bk_M, M4 = bk_up M3 12 0 (11 : Int) (M3 12 0 (6 : Int)) → ((0 : Int) = 0 ∨ (0 : Int) = 1) ∧ Q 0 (0 : Int) M4)) := bk_iff (d := d) (P := P_171) (b := 0) (l := 0) (ls := [bk_c 12 0, bk_i a1]) (st := []) (M := M) [] 40
theorem E_172 {d : Nat} {Q : bk_Q} (a1 : Int) (M : bk_M) : bk_C (d + 1) 0 172 [bk_c 12 0, bk_i a1] M Q ↔ ((0 : Int) ≤ a1 ∧ a1 < (5 : Int)) ∧ ((M 67 0 a1 = (0 : Int) → ((0 : Int) ≤ a1 ∧ a1 < (5 : Int)) ∧ ((1 : Int) = 0 ∨ (1 : Int) = 1) ∧ ∀ M1 : bk_M, M1 = bk_up M 67 0 a1 (1 : Int) → bk_C d 0 162 [bk_c 12 0] M1 (fun t4 r2 M3 => t4 = 0 ∧ ((1 : Int) = 0 ∨ (1 : Int) = 1) ∧ Q 0 (1 : Int) M3)) ∧ (¬ (M 67 0 a1 = (0 : Int)) → bk_C d 0 171 [bk_c 12 0, bk_i (3 : Int)] M (fun t7 r5 M6 => t7 = 0 ∧ (r5 = 0 ∨ r5 = 1) ∧ Q 0 r5 M6))) := bk_iff (d := d) (P := P_172) (b := 0) (l := 0) (ls := [bk_c 12 0, bk_i a1]) (st := []) (M := M) [] 40
theorem E_173 {d : Nat} {Q : bk_Q} (a1 : Int) (a2 : Int) (M : bk_M) : bk_C (d + 1) 0 173 [bk_c 12 0, bk_i a1, bk_i a2] M Q ↔ bk_C d 0 174 [bk_c 12 0, bk_i a1, bk_i a2] M (fun t3 r1 M2 => t3 = 0 ∧ (r1 = 0 ∨ r1 = 1) ∧ Q 0 r1 M2) := bk_iff (d := d) (P := P_173) (b := 0) (l := 0) (ls := [bk_c 12 0, bk_i a1, bk_i a2]) (st := []) (M := M) [] 40
theorem E_174 {d : Nat} {Q : bk_Q} (a1 : Int) (a2 : Int) (M : bk_M) : bk_C (d + 1) 0 174 [bk_c 12 0, bk_i a1, bk_i a2] M Q ↔ ((M 12 0 (7 : Int) = (3 : Int) → bk_C d 0 157 [bk_i (M 12 0 (8 : Int)), bk_i a1, bk_i a2] M (fun t3 r1 M2 => t3 = 0 ∧ ((r1 ≠ (0 : Int) → ∀ M4 : bk_M, M4 = bk_up M2 12 0 (13 : Int) (M2 12 0 (8 : Int)) → bk_C d 0 162 [bk_c 12 0] M4 (fun t7 r5 M6 => t7 = 0 ∧ ((1 : Int) = 0 ∨ (1 : Int) = 1) ∧ Q 0 (1 : Int) M6)) ∧ (¬ (r1 ≠ (0 : Int)) → bk_C d 0 171 [bk_c 12 0, bk_i (2 : Int)] M2 (fun t10 r8 M9 => t10 = 0 ∧ (r8 = 0 ∨ r8 = 1) ∧ Q 0 r8 M9))))) ∧ (¬ (M 12 0 (7 : Int) = (3 : Int)) → bk_C d 0 171 [bk_c 12 0, bk_i (1 : Int)] M (fun t13 r11 M12 => t13 = 0 ∧ (r11 = 0 ∨ r11 = 1) ∧ Q 0 r11 M12))) := bk_iff (d := d) (P := P_174) (b := 0) (l := 0) (ls := [bk_c 12 0, bk_i a1, bk_i a2]) (st := []) (M := M) [] 40
theorem E_175 {d : Nat} {Q : bk_Q} (a1 : Int) (a2 : Int) (M : bk_M) : bk_C (d + 1) 0 175 [bk_c 12 0, bk_i a1, bk_i a2] M Q ↔ ((a2 = (0 : Int) → (a2 = 0 ∨ a2 = 1) ∧ Q 0 a2 M) ∧ (¬ (a2 = (0 : Int)) → ((0 : Int) ≤ a1 ∧ a1 < (80 : Int)) ∧ ∀ M1 : bk_M, M1 = bk_up M 59 0 a1 (M 12 0 (13 : Int)) → (a2 = 0 ∨ a2 = 1) ∧ Q 0 a2 M1)) := bk_iff (d := d) (P := P_175) (b := 0) (l := 0) (ls := [bk_c 12 0, bk_i a1, bk_i a2]) (st := []) (M := M) [] 40
theorem E_176 {d : Nat} {Q : bk_Q} (M : bk_M) : bk_C (d + 1) 0 176 [bk_c 12 0] M Q ↔ bk_C d 0 162 [bk_c 12 0] M (fun t3 r1 M2 => t3 = 0 ∧ bk_C d 0 177 [bk_c 12 0] M2 (fun t6 r4 M5 => t6 = 0 ∧ ((r4 ≠ (0 : Int) → ((0 : Int) ≤ (3 : Int) ∧ (3 : Int) < (80 : Int)) ∧ bk_C d 0 178 [bk_c 12 0, bk_i (M5 59 0 (3 : Int))] M5 (fun t9 r7 M8 => t9 = 0 ∧ ((r7 ≠ (0 : Int) → bk_r32 ((6 : Int) * (M8 12 0 (8 : Int))) ∧ bk_r32 (((6 : Int) * (M8 12 0 (8 : Int))) + (M5 12 0 (13 : Int))) ∧ ((0 : Int) ≤ ((6 : Int) * (M8 12 0 (8 : Int))) + (M5 12 0 (13 : Int)) ∧ ((6 : Int) * (M8 12 0 (8 : Int))) + (M5 12 0 (13 : Int)) < (36 : Int)) ∧ ((M8 68 0 (((6 : Int) * (M8 12 0 (8 : Int))) + (M5 12 0 (13 : Int))) = (0 : Int) → ((0 : Int) ≤ ((6 : Int) * (M8 12 0 (8 : Int))) + (M5 12 0 (13 : Int)) ∧ ((6 : Int) * (M8 12 0 (8 : Int))) + (M5 12 0 (13 : Int)) < (36 : Int)) ∧ ((1 : Int) = 0 ∨ (1 : Int) = 1) ∧ ∀ M10 : bk_M, M10 = bk_up M8 68 0 (((6 : Int) * (M8 12 0 (8 : Int))) + (M5 12 0 (13 : Int))) (1 : Int) → bk_C d 0 162 [bk_c 12 0] M10 (fun t13 r11 M12 => t13 = 0 ∧ bk_r32 ((6 : Int) + (((6 : Int) * (M8 12 0 (8 : Int))) + (M5 12 0 (13 : Int)))) ∧ bk_C d 0 174 [bk_c 12 0, bk_i (0 : Int), bk_i (9 : Int)] M12 (fun t16 r14 M15 => t16 = 0 ∧ bk_C d 0 175 [bk_c 12 0, bk_i ((6 : Int) + (((6 : Int) * (M8 12 0 (8 : Int))) + (M5 12 0 (13 : Int)))), bk_i r14] M15 (fun t19 r17 M18 => t19 = 0 ∧ (r17 = 0 ∨ r17 = 1) ∧ Q 0 r17 M18)))) ∧ (¬ (M8 68 0 (((6 : Int) * (M8 12 0 (8 : Int))) + (M5 12 0 (13 : Int))) = (0 : Int)) → bk_C d 0 171 [bk_c 12 0, bk_i (3 : Int)] M8 (fun t22 r20 M21 => t22 = 0 ∧ (r20 = 0 ∨ r20 = 1) ∧ Q 0 r20 M21)))) ∧ (¬ (r7 ≠ (0 : Int)) → ((0 : Int) = 0 ∨ (0 : Int) = 1) ∧ Q 0 (0 : Int) M8)))) ∧ (¬ (r4 ≠ (0 : Int)) → ((0 : Int) = 0 ∨ (0 : Int) = 1) ∧ Q 0 (0 : Int) M5)))) := bk_iff (d := d) (P := P_176) (b := 0) (l := 0) (ls := [bk_c 12 0, bk_x, bk_x]) (st := []) (M := M) [] 40
theorem E_177 {d : Nat} {Q : bk_Q} (M : bk_M) : bk_C (d + 1) 0 177 [bk_c 12 0] M Q ↔ ((1 : Int) = 0 ∨ (1 : Int) = 1) ∧ ∀ M1 : bk_M, M1 = bk_up M 12 0 (26 : Int) (1 : Int) → ((0 : Int) ≤ (2 : Int) ∧ (2 : Int) < (80 : Int)) ∧ bk_r32 ((M1 59 0 (2 : Int)) - (1 : Int)) ∧ bk_C d 0 174 [bk_c 12 0, bk_i (0 : Int), bk_i ((M1 59 0 (2 : Int)) - (1 : Int))] M1 (fun t4 r2 M3 => t4 = 0 ∧ (r2 = 0 ∨ r2 = 1) ∧ Q 0 r2 M3) := bk_iff (d := d) (P := P_177) (b := 0) (l := 0) (ls := [bk_c 12 0]) (st := []) (M := M) [] 40
theorem E_178 {d : Nat} {Q : bk_Q} (a1 : Int) (M : bk_M) : bk_C (d + 1) 0 178 [bk_c 12 0, bk_i a1] M Q ↔ ((M 12 0 (7 : Int) = (3 : Int) → ((M 12 0 (8 : Int) < a1 → ((1 : Int) = 0 ∨ (1 : Int) = 1) ∧ Q 0 (1 : Int) M) ∧ (¬ (M 12 0 (8 : Int) < a1) → bk_C d 0 171 [bk_c 12 0, bk_i (2 : Int)] M (fun t3 r1 M2 => t3 = 0 ∧ ((r1 = (0 : Int) → ((0 : Int) = 0 ∨ (0 : Int) = 1) ∧ Q 0 (0 : Int) M2) ∧ (¬ (r1 = (0 : Int)) → ((1 : Int) = 0 ∨ (1 : Int) = 1) ∧ Q 0 (1 : Int) M2)))))) ∧ (¬ (M 12 0 (7 : Int) = (3 : Int)) → bk_C d 0 171 [bk_c 12 0, bk_i (1 : Int)] M (fun t6 r4 M5 => t6 = 0 ∧ (r4 = 0 ∨ r4 = 1) ∧ Q 0 r4 M5))) := bk_iff (d := d) (P := P_178) (b := 0) (l := 0) (ls := [bk_c 12 0, bk_i a1]) (st := []) (M := M) [] 40
set_option maxRecDepth 20000 in
theorem E_179 {d : Nat} {Q : bk_Q} (M : bk_M) : bk_C (d + 1) 0 179 [bk_c 12 0] M Q ↔ bk_C d 0 180 [bk_c 12 0, bk_i (0 : Int), bk_i (10 : Int)] M (fun t3 r1 M2 => t3 = 0 ∧ ((r1 ≠ (0 : Int) → ((0 : Int) ≤ (0 : Int) ∧ (0 : Int) < (80 : Int)) ∧ bk_C d 0 181 [bk_c 12 0, bk_i (M2 59 0 (0 : Int))] M2 (fun t6 r4 M5 => t6 = 0 ∧ ((r4 = (0 : Int) → ((0 : Int) = 0 ∨ (0 : Int) = 1) ∧ Q 0 (0 : Int) M5) ∧ (¬ (r4 = (0 : Int)) → bk_r32 ((42 : Int) + (M2 59 0 (0 : Int))) ∧ bk_C d 0 177 [bk_c 12 0] M5 (fun t9 r7 M8 => t9 = 0 ∧ bk_C d 0 175 [bk_c 12 0, bk_i ((42 : Int) + (M2 59 0 (0 : Int))), bk_i r7] M8 (fun t12 r10 M11 => t12 = 0 ∧ ((r10 = (0 : Int) → ((0 : Int) = 0 ∨ (0 : Int) = 1) ∧ Q 0 (0 : Int) M11) ∧ (¬ (r10 = (0 : Int)) → ((0 : Int) ≤ (3 : Int) ∧ (3 : Int) < (80 : Int)) ∧ bk_C d 0 178 [bk_c 12 0, bk_i (M11 59 0 (3 : Int))] M11 (fun t15 r13 M14 => t15 = 0 ∧ ((r13 ≠ (0 : Int) → bk_r32 ((42 : Int) + (M2 59 0 (0 : Int))) ∧ ((0 : Int) ≤ (42 : Int) + (M2 59 0 (0 : Int)) ∧ (42 : Int) + (M2 59 0 (0 : Int)) < (80 : Int)) ∧ bk_C d 0 184 [bk_c 12 0, bk_i (M14 59 0 ((42 : Int) + (M2 59 0 (0 : Int)))), bk_i (M14 12 0 (8 : Int))] M14 (fun t18 r16 M17 => t18 = 0 ∧ ((r16 = (0 : Int) → bk_r32 ((52 : Int) + (M2 59 0 (0 : Int))) ∧ ((0 : Int) ≤ (52 : Int) + (M2 59 0 (0 : Int)) ∧ (52 : Int) + (M2 59 0 (0 : Int)) < (80 : Int)) ∧ ∀ M19 : bk_M, M19 = bk_up M17 59 0 ((52 : Int) + (M2 59 0 (0 : Int))) (M17 12 0 (8 : Int)) → bk_C d 0 162 [bk_c 12 0] M19 (fun t22 r20 M21 => t22 = 0 ∧ bk_r32 ((62 : Int) + (M2 59 0 (0 : Int))) ∧ bk_C d 0 174 [bk_c 12 0, bk_i (1 : Int), bk_i (20 : Int)] M21 (fun t25 r23 M24 => t25 = 0 ∧ bk_C d 0 175 [bk_c 12 0, bk_i ((62 : Int) + (M2 59 0 (0 : Int))), bk_i r23] M24 (fun t28 r26 M27 => t28 = 0 ∧ ((r26 ≠ (0 : Int) → ((0 : Int) ≤ (0 : Int) ∧ (0 : Int) < (80 : Int)) ∧ bk_r32 ((M27 59 0 (0 : Int)) + (1 : Int)) ∧ ((0 : Int) ≤ (0 : Int) ∧ (0 : Int) < (80 : Int)) ∧ ∀ M29 : bk_M, M29 = bk_up M27 59 0 (0 : Int) ((M27 59 0 (0 : Int)) + (1 : Int)) → ((1 : Int) = 0 ∨ (1 : Int) = 1) ∧ Q 0 (1 : Int) M29) ∧ (¬ (r26 ≠ (0 : Int)) → ((0 : Int) = 0 ∨ (0 : Int) = 1) ∧ Q 0 (0 : Int) M27)))))) ∧ (¬ (r16 = (0 : Int)) → bk_C d 0 171 [bk_c 12 0, bk_i (3 : Int)] M17 (fun t32 r30 M31 => t32 = 0 ∧ (r30 = 0 ∨ r30 = 1) ∧ Q 0 r30 M31))))) ∧ (¬ (r13 ≠ (0 : Int)) → ((0 : Int) = 0 ∨ (0 : Int) = 1) ∧ Q 0 (0 : Int) M14))))))))))) ∧ (¬ (r1 ≠ (0 : Int)) → ((0 : Int) = 0 ∨ (0 : Int) = 1) ∧ Q 0 (0 : Int) M2))) := bk_iff (d := d) (P := P_179) (b := 0) (l := 0) (ls := [bk_c 12 0, bk_x]) (st := []) (M := M) [] 40
end
section
theorem E_180 {d : Nat} {Q : bk_Q} (a1 : Int) (a2 : Int) (M : bk_M) : bk_C (d + 1) 0 180 [bk_c 12 0, bk_i a1, bk_i a2] M Q ↔ ((0 : Int) ≤ a1 ∧ a1 < (80 : Int)) ∧ ((M 59 0 a1 ≠ a2 → bk_C d 0 162 [bk_c 12 0] M (fun t3 r1 M2 => t3 = 0 ∧ ((1 : Int) = 0 ∨ (1 : Int) = 1) ∧ Q 0 (1 : Int) M2)) ∧ (¬ (M 59 0 a1 ≠ a2) → bk_C d 0 171 [bk_c 12 0, bk_i (4 : Int)] M (fun t6 r4 M5 => t6 = 0 ∧ (r4 = 0 ∨ r4 = 1) ∧ Q 0 r4 M5))) := bk_iff (d := d) (P := P_180) (b := 0) (l := 0) (ls := [bk_c 12 0, bk_i a1, bk_i a2]) (st := []) (M := M) [] 40
theorem E_181 {d : Nat} {Q : bk_Q} (a1 : Int) (M : bk_M) : bk_C (d + 1) 0 181 [bk_c 12 0, bk_i a1] M Q ↔ bk_C d 0 182 [bk_c 12 0] M (fun t3 r1 M2 => t3 = 0 ∧ ((r1 ≠ (0 : Int) → ((0 : Int) ≤ (0 : Int) ∧ (0 : Int) < (80 : Int)) ∧ bk_C d 0 183 [bk_c 64 0, bk_i (0 : Int), bk_i (M2 59 0 (0 : Int)), bk_l (M2 12 0 (12 : Int))] M2 (fun t6 r4 M5 => t6 = 0 ∧ ((r4 ≠ (-1 : Int) → bk_C d 0 171 [bk_c 12 0, bk_i (3 : Int)] M5 (fun t9 r7 M8 => t9 = 0 ∧ (r7 = 0 ∨ r7 = 1) ∧ Q 0 r7 M8)) ∧ (¬ (r4 ≠ (-1 : Int)) → ((0 : Int) ≤ (1 : Int) ∧ (1 : Int) < (80 : Int)) ∧ bk_C d 0 183 [bk_c 64 0, bk_i (10 : Int), bk_i (M5 59 0 (1 : Int)), bk_l (M5 12 0 (12 : Int))] M5 (fun t12 r10 M11 => t12 = 0 ∧ ((r10 = (-1 : Int) → ((0 : Int) ≤ a1 ∧ a1 < (13 : Int)) ∧ ∀ M13 : bk_M, M13 = bk_up M11 64 0 a1 (M11 12 0 (12 : Int)) → bk_C d 0 162 [bk_c 12 0] M13 (fun t16 r14 M15 => t16 = 0 ∧ ((1 : Int) = 0 ∨ (1 : Int) = 1) ∧ Q 0 (1 : Int) M15)) ∧ (¬ (r10 = (-1 : Int)) → bk_C d 0 171 [bk_c 12 0, bk_i (3 : Int)] M11 (fun t19 r17 M18 => t19 = 0 ∧ (r17 = 0 ∨ r17 = 1) ∧ Q 0 r17 M18)))))))) ∧ (¬ (r1 ≠ (0 : Int)) → bk_C d 0 171 [bk_c 12 0, bk_i (1 : Int)] M2 (fun t22 r20 M21 => t22 = 0 ∧ (r20 = 0 ∨ r20 = 1) ∧ Q 0 r20 M21)))) := bk_iff (d := d) (P := P_181) (b := 0) (l := 0) (ls := [bk_c 12 0, bk_i a1]) (st := []) (M := M) [] 40
theorem E_182 {d : Nat} {Q : bk_Q} (M : bk_M) : bk_C (d + 1) 0 182 [bk_c 12 0] M Q ↔ ((M 12 0 (7 : Int) = (2 : Int) → bk_wp (bk_C d) P_182 Q 0 12 [bk_c 12 0, bk_i (0 : Int)] [] M) ∧ (¬ (M 12 0 (7 : Int) = (2 : Int)) → ((0 : Int) = 0 ∨ (0 : Int) = 1) ∧ Q 0 (0 : Int) M)) := bk_iff (d := d) (P := P_182) (b := 0) (l := 0) (ls := [bk_c 12 0, bk_x]) (st := []) (M := M) [12] 40
theorem L_182_12 {d : Nat} {Q : bk_Q} (x1 : Int) (M : bk_M) : bk_wp (bk_C d) P_182 Q 0 12 [bk_c 12 0, bk_i x1] [] M ↔ (((24 : Int) < x1 → ((1 : Int) = 0 ∨ (1 : Int) = 1) ∧ Q 0 (1 : Int) M) ∧ (¬ ((24 : Int) < x1) → bk_C d 0 168 [bk_i x1] M (fun t3 r1 M2 => t3 = 0 ∧ ((bk_lcmp (M 12 0 (12 : Int)) r1 ≠ (0 : Int) → bk_r32 (x1 + (1 : Int)) ∧ bk_wp (bk_C d) P_182 Q 0 12 [bk_c 12 0, bk_i (x1 + (1 : Int))] [] M2) ∧ (¬ (bk_lcmp (M 12 0 (12 : Int)) r1 ≠ (0 : Int)) → ((0 : Int) = 0 ∨ (0 : Int) = 1) ∧ Q 0 (0 : Int) M2))))) := bk_iff [12] 40
theorem E_183k64 {d : Nat} {Q : bk_Q} (a1 : Int) (a2 : Int) (a3 : Int) (M : bk_M) : bk_C (d + 1) 0 183 [bk_c 64 0, bk_i a1, bk_i a2, bk_l a3] M Q ↔ bk_wp (bk_C d) P_183 Q 0 3 [bk_c 64 0, bk_i a1, bk_i a2, bk_l a3, bk_x, bk_i (0 : Int)] [] M := bk_iff (d := d) (P := P_183) (b := 0) (l := 0) (ls := [bk_c 64 0, bk_i a1, bk_i a2, bk_l a3, bk_x, bk_x]) (st := []) (M := M) [3] 40
theorem L_183_3k64 {d : Nat} {Q : bk_Q} (x1 : Int) (x2 : Int) (x3 : Int) (x5 : Int) (M : bk_M) : bk_wp (bk_C d) P_183 Q 0 3 [bk_c 64 0, bk_i x1, bk_i x2, bk_l x3, bk_x, bk_i x5] [] M ↔ ((x2 ≤ x5 → Q 0 (-1 : Int) M) ∧ (¬ (x2 ≤ x5) → bk_r32 (x1 + x5) ∧ ((0 : Int) ≤ x1 + x5 ∧ x1 + x5 < (13 : Int)) ∧ ((bk_lcmp (M 64 0 (x1 + x5)) x3 ≠ (0 : Int) → bk_r32 (x5 + (1 : Int)) ∧ bk_wp (bk_C d) P_183 Q 0 3 [bk_c 64 0, bk_i x1, bk_i x2, bk_l x3, bk_x, bk_i (x5 + (1 : Int))] [] M) ∧ (¬ (bk_lcmp (M 64 0 (x1 + x5)) x3 ≠ (0 : Int)) → Q 0 x5 M)))) := bk_iff [3] 40
theorem E_183k63 {d : Nat} {Q : bk_Q} (a1 : Int) (a2 : Int) (a3 : Int) (M : bk_M) : bk_C (d + 1) 0 183 [bk_c 63 0, bk_i a1, bk_i a2, bk_l a3] M Q ↔ bk_wp (bk_C d) P_183 Q 0 3 [bk_c 63 0, bk_i a1, bk_i a2, bk_l a3, bk_x, bk_i (0 : Int)] [] M := bk_iff (d := d) (P := P_183) (b := 0) (l := 0) (ls := [bk_c 63 0, bk_i a1, bk_i a2, bk_l a3, bk_x, bk_x]) (st := []) (M := M) [3] 40
theorem L_183_3k63 {d : Nat} {Q : bk_Q} (x1 : Int) (x2 : Int) (x3 : Int) (x5 : Int) (M : bk_M) : bk_wp (bk_C d) P_183 Q 0 3 [bk_c 63 0, bk_i x1, bk_i x2, bk_l x3, bk_x, bk_i x5] [] M ↔ ((x2 ≤ x5 → Q 0 (-1 : Int) M) ∧ (¬ (x2 ≤ x5) → bk_r32 (x1 + x5) ∧ ((0 : Int) ≤ x1 + x5 ∧ x1 + x5 < (13 : Int)) ∧ ((bk_lcmp (M 63 0 (x1 + x5)) x3 ≠ (0 : Int) → bk_r32 (x5 + (1 : Int)) ∧ bk_wp (bk_C d) P_183 Q 0 3 [bk_c 63 0, bk_i x1, bk_i x2, bk_l x3, bk_x, bk_i (x5 + (1 : Int))] [] M) ∧ (¬ (bk_lcmp (M 63 0 (x1 + x5)) x3 ≠ (0 : Int)) → Q 0 x5 M)))) := bk_iff [3] 40
theorem E_184 {d : Nat} {Q : bk_Q} (a1 : Int) (a2 : Int) (M : bk_M) : bk_C (d + 1) 0 184 [bk_c 12 0, bk_i a1, bk_i a2] M Q ↔ bk_wp (bk_C d) P_184 Q 0 2 [bk_c 12 0, bk_i a1, bk_i a2, bk_i (0 : Int)] [] M := bk_iff (d := d) (P := P_184) (b := 0) (l := 0) (ls := [bk_c 12 0, bk_i a1, bk_i a2, bk_x]) (st := []) (M := M) [2] 40
theorem L_184_2 {d : Nat} {Q : bk_Q} (x1 : Int) (x2 : Int) (x3 : Int) (M : bk_M) : bk_wp (bk_C d) P_184 Q 0 2 [bk_c 12 0, bk_i x1, bk_i x2, bk_i x3] [] M ↔ ((0 : Int) ≤ (0 : Int) ∧ (0 : Int) < (80 : Int)) ∧ ((M 59 0 (0 : Int) ≤ x3 → ((0 : Int) = 0 ∨ (0 : Int) = 1) ∧ Q 0 (0 : Int) M) ∧ (¬ (M 59 0 (0 : Int) ≤ x3) → bk_r32 ((42 : Int) + x3) ∧ ((0 : Int) ≤ (42 : Int) + x3 ∧ (42 : Int) + x3 < (80 : Int)) ∧ ((M 59 0 ((42 : Int) + x3) ≠ x1 → bk_r32 (x3 + (1 : Int)) ∧ bk_wp (bk_C d) P_184 Q 0 2 [bk_c 12 0, bk_i x1, bk_i x2, bk_i (x3 + (1 : Int))] [] M) ∧ (¬ (M 59 0 ((42 : Int) + x3) ≠ x1) → bk_r32 ((52 : Int) + x3) ∧ ((0 : Int) ≤ (52 : Int) + x3 ∧ (52 : Int) + x3 < (80 : Int)) ∧ ((M 59 0 ((52 : Int) + x3) ≠ x2 → bk_r32 (x3 + (1 : Int)) ∧ bk_wp (bk_C d) P_184 Q 0 2 [bk_c 12 0, bk_i x1, bk_i x2, bk_i (x3 + (1 : Int))] [] M) ∧ (¬ (M 59 0 ((52 : Int) + x3) ≠ x2) → ((1 : Int) = 0 ∨ (1 : Int) = 1) ∧ Q 0 (1 : Int) M)))))) := bk_iff [2] 40
theorem E_185 {d : Nat} {Q : bk_Q} (M : bk_M) : bk_C (d + 1) 0 185 [bk_c 12 0] M Q ↔ bk_C d 0 180 [bk_c 12 0, bk_i (1 : Int), bk_i (3 : Int)] M (fun t3 r1 M2 => t3 = 0 ∧ ((r1 ≠ (0 : Int) → ((0 : Int) ≤ (1 : Int) ∧ (1 : Int) < (80 : Int)) ∧ bk_r32 ((10 : Int) + (M2 59 0 (1 : Int))) ∧ bk_C d 0 181 [bk_c 12 0, bk_i ((10 : Int) + (M2 59 0 (1 : Int)))] M2 (fun t6 r4 M5 => t6 = 0 ∧ ((r4 = (0 : Int) → ((0 : Int) = 0 ∨ (0 : Int) = 1) ∧ Q 0 (0 : Int) M5) ∧ (¬ (r4 = (0 : Int)) → bk_r32 ((72 : Int) + (M2 59 0 (1 : Int))) ∧ bk_C d 0 177 [bk_c 12 0] M5 (fun t9 r7 M8 => t9 = 0 ∧ bk_C d 0 175 [bk_c 12 0, bk_i ((72 : Int) + (M2 59 0 (1 : Int))), bk_i r7] M8 (fun t12 r10 M11 => t12 = 0 ∧ ((r10 = (0 : Int) → ((0 : Int) = 0 ∨ (0 : Int) = 1) ∧ Q 0 (0 : Int) M11) ∧ (¬ (r10 = (0 : Int)) → bk_r32 ((75 : Int) + (M2 59 0 (1 : Int))) ∧ ((0 : Int) ≤ (3 : Int) ∧ (3 : Int) < (80 : Int)) ∧ bk_r32 ((M11 59 0 (3 : Int)) - (1 : Int)) ∧ bk_C d 0 174 [bk_c 12 0, bk_i (0 : Int), bk_i ((M11 59 0 (3 : Int)) - (1 : Int))] M11 (fun t15 r13 M14 => t15 = 0 ∧ bk_C d 0 175 [bk_c 12 0, bk_i ((75 : Int) + (M2 59 0 (1 : Int))), bk_i r13] M14 (fun t18 r16 M17 => t18 = 0 ∧ ((r16 ≠ (0 : Int) → ((0 : Int) ≤ (1 : Int) ∧ (1 : Int) < (80 : Int)) ∧ bk_r32 ((M17 59 0 (1 : Int)) + (1 : Int)) ∧ ((0 : Int) ≤ (1 : Int) ∧ (1 : Int) < (80 : Int)) ∧ ∀ M19 : bk_M, M19 = bk_up M17 59 0 (1 : Int) ((M17 59 0 (1 : Int)) + (1 : Int)) → ((1 : Int) = 0 ∨ (1 : Int) = 1) ∧ Q 0 (1 : Int) M19) ∧ (¬ (r16 ≠ (0 : Int)) → ((0 : Int) = 0 ∨ (0 : Int) = 1) ∧ Q 0 (0 : Int) M17)))))))))))) ∧ (¬ (r1 ≠ (0 : Int)) → ((0 : Int) = 0 ∨ (0 : Int) = 1) ∧ Q 0 (0 : Int) M2))) := bk_iff (d := d) (P := P_185) (b := 0) (l := 0) (ls := [bk_c 12 0, bk_x]) (st := []) (M := M) [] 40
theorem E_186 {d : Nat} {Q : bk_Q} (M : bk_M) : bk_C (d + 1) 0 186 [bk_c 12 0] M Q ↔ bk_C d 0 162 [bk_c 12 0] M (fun t3 r1 M2 => t3 = 0 ∧ bk_C d 0 187 [bk_c 12 0] M2 (fun t6 r4 M5 => t6 = 0 ∧ ((r4 ≠ (0 : Int) → bk_C d 0 167 [bk_c 12 0, bk_i (15 : Int)] M5 (fun t9 r7 M8 => t9 = 0 ∧ ((r7 = (0 : Int) → bk_r32 ((3 : Int) + (1 : Int)) ∧ bk_C d 0 172 [bk_c 12 0, bk_i ((3 : Int) + (1 : Int))] M8 (fun t12 r10 M11 => t12 = 0 ∧ ((r10 = (0 : Int) → ((0 : Int) = 0 ∨ (0 : Int) = 1) ∧ Q 0 (0 : Int) M11) ∧ (¬ (r10 = (0 : Int)) → bk_r32 ((78 : Int) + (1 : Int)) ∧ bk_C d 0 174 [bk_c 12 0, bk_i (0 : Int), bk_i (99 : Int)] M11 (fun t15 r13 M14 => t15 = 0 ∧ bk_C d 0 175 [bk_c 12 0, bk_i ((78 : Int) + (1 : Int)), bk_i r13] M14 (fun t18 r16 M17 => t18 = 0 ∧ ((r16 = (0 : Int) → ((0 : Int) = 0 ∨ (0 : Int) = 1) ∧ Q 0 (0 : Int) M17) ∧ (¬ (r16 = (0 : Int)) → ((1 : Int) = 0 ∨ (1 : Int) = 1) ∧ Q 0 (1 : Int) M17)))))))) ∧ (¬ (r7 = (0 : Int)) → bk_r32 ((3 : Int) + (0 : Int)) ∧ bk_C d 0 172 [bk_c 12 0, bk_i ((3 : Int) + (0 : Int))] M8 (fun t21 r19 M20 => t21 = 0 ∧ ((r19 = (0 : Int) → ((0 : Int) = 0 ∨ (0 : Int) = 1) ∧ Q 0 (0 : Int) M20) ∧ (¬ (r19 = (0 : Int)) → bk_r32 ((78 : Int) + (0 : Int)) ∧ bk_C d 0 174 [bk_c 12 0, bk_i (0 : Int), bk_i (99 : Int)] M20 (fun t24 r22 M23 => t24 = 0 ∧ bk_C d 0 175 [bk_c 12 0, bk_i ((78 : Int) + (0 : Int)), bk_i r22] M23 (fun t27 r25 M26 => t27 = 0 ∧ ((r25 = (0 : Int) → ((0 : Int) = 0 ∨ (0 : Int) = 1) ∧ Q 0 (0 : Int) M26) ∧ (¬ (r25 = (0 : Int)) → ((1 : Int) = 0 ∨ (1 : Int) = 1) ∧ Q 0 (1 : Int) M26))))))))))) ∧ (¬ (r4 ≠ (0 : Int)) → bk_C d 0 171 [bk_c 12 0, bk_i (1 : Int)] M5 (fun t30 r28 M29 => t30 = 0 ∧ (r28 = 0 ∨ r28 = 1) ∧ Q 0 r28 M29))))) := bk_iff (d := d) (P := P_186) (b := 0) (l := 0) (ls := [bk_c 12 0, bk_x]) (st := []) (M := M) [] 40
theorem E_187 {d : Nat} {Q : bk_Q} (M : bk_M) : bk_C (d + 1) 0 187 [bk_c 12 0] M Q ↔ bk_C d 0 167 [bk_c 12 0, bk_i (15 : Int)] M (fun t3 r1 M2 => t3 = 0 ∧ ((r1 ≠ (0 : Int) → ((1 : Int) = 0 ∨ (1 : Int) = 1) ∧ Q 0 (1 : Int) M2) ∧ (¬ (r1 ≠ (0 : Int)) → bk_C d 0 167 [bk_c 12 0, bk_i (16 : Int)] M2 (fun t6 r4 M5 => t6 = 0 ∧ ((r4 = (0 : Int) → ((0 : Int) = 0 ∨ (0 : Int) = 1) ∧ Q 0 (0 : Int) M5) ∧ (¬ (r4 = (0 : Int)) → ((1 : Int) = 0 ∨ (1 : Int) = 1) ∧ Q 0 (1 : Int) M5)))))) := bk_iff (d := d) (P := P_187) (b := 0) (l := 0) (ls := [bk_c 12 0]) (st := []) (M := M) [] 40
theorem E_188 {d : Nat} {Q : bk_Q} (M : bk_M) : bk_C (d + 1) 0 188 [bk_c 12 0] M Q ↔ bk_C d 0 189 [bk_c 12 0, bk_i (59 : Int)] M (fun t3 r1 M2 => t3 = 0 ∧ ((r1 ≠ (0 : Int) → bk_C d 0 162 [bk_c 12 0] M2 (fun t6 r4 M5 => t6 = 0 ∧ ((1 : Int) = 0 ∨ (1 : Int) = 1) ∧ Q 0 (1 : Int) M5)) ∧ (¬ (r1 ≠ (0 : Int)) → bk_C d 0 171 [bk_c 12 0, bk_i (1 : Int)] M2 (fun t9 r7 M8 => t9 = 0 ∧ (r7 = 0 ∨ r7 = 1) ∧ Q 0 r7 M8)))) := bk_iff (d := d) (P := P_188) (b := 0) (l := 0) (ls := [bk_c 12 0]) (st := []) (M := M) [] 40
theorem E_189 {d : Nat} {Q : bk_Q} (a1 : Int) (M : bk_M) : bk_C (d + 1) 0 189 [bk_c 12 0, bk_i a1] M Q ↔ ((M 12 0 (7 : Int) ≠ (4 : Int) → ((0 : Int) = 0 ∨ (0 : Int) = 1) ∧ Q 0 (0 : Int) M) ∧ (¬ (M 12 0 (7 : Int) ≠ (4 : Int)) → ((M 12 0 (9 : Int) ≠ a1 → ((0 : Int) = 0 ∨ (0 : Int) = 1) ∧ Q 0 (0 : Int) M) ∧ (¬ (M 12 0 (9 : Int) ≠ a1) → ((1 : Int) = 0 ∨ (1 : Int) = 1) ∧ Q 0 (1 : Int) M)))) := bk_iff (d := d) (P := P_189) (b := 0) (l := 0) (ls := [bk_c 12 0, bk_i a1]) (st := []) (M := M) [] 40
theorem E_190 {d : Nat} {Q : bk_Q} (M : bk_M) : bk_C (d + 1) 0 190 [bk_c 12 0] M Q ↔ ∀ M1 : bk_M, M1 = bk_up M 12 0 (0 : Int) (0 : Int) → Q 0 (M1 12 0 (10 : Int)) M1 := bk_iff (d := d) (P := P_190) (b := 0) (l := 0) (ls := [bk_c 12 0]) (st := []) (M := M) [] 40
theorem E_191 {d : Nat} {Q : bk_Q} (a1 : Int) (a2 : Int) (M : bk_M) : bk_C (d + 1) 0 191 [bk_c 12 0, bk_i a1, bk_i a2] M Q ↔ ∀ M1 : bk_M, M1 = bk_up M 12 0 (0 : Int) (0 : Int) → bk_C d 0 192 [bk_c 12 0, bk_i a1] M1 (fun t4 r2 M3 => t4 = 0 ∧ ((r2 ≠ (0 : Int) → ((a2 = (0 : Int) → bk_r32 ((42 : Int) + a1) ∧ ((0 : Int) ≤ (42 : Int) + a1 ∧ (42 : Int) + a1 < (437 : Int)) ∧ Q 0 (M3 58 0 ((42 : Int) + a1)) M3) ∧ (a2 ≠ (0 : Int) → ((a2 = (1 : Int) → bk_r32 ((52 : Int) + a1) ∧ ((0 : Int) ≤ (52 : Int) + a1 ∧ (52 : Int) + a1 < (437 : Int)) ∧ Q 0 (M3 58 0 ((52 : Int) + a1)) M3) ∧ (a2 ≠ (1 : Int) → ((a2 = (2 : Int) → bk_r32 ((62 : Int) + a1) ∧ ((0 : Int) ≤ (62 : Int) + a1 ∧ (62 : Int) + a1 < (437 : Int)) ∧ Q 0 (M3 58 0 ((62 : Int) + a1)) M3) ∧ (a2 ≠ (2 : Int) → ((a2 = (3 : Int) → bk_C d 0 194 [bk_c 12 0, bk_i a1] M3 (fun t7 r5 M6 => t7 = 0 ∧ Q 0 r5 M6)) ∧ (a2 ≠ (3 : Int) → ((a2 = (4 : Int) → bk_r32 ((136 : Int) + a1) ∧ ((0 : Int) ≤ (136 : Int) + a1 ∧ (136 : Int) + a1 < (437 : Int)) ∧ Q 0 (M3 58 0 ((136 : Int) + a1)) M3) ∧ (a2 ≠ (4 : Int) → bk_C d 0 193 [bk_c 12 0] M3 (fun t10 r8 M9 => t10 = 0 ∧ Q 0 r8 M9)))))))))))) ∧ (¬ (r2 ≠ (0 : Int)) → bk_C d 0 193 [bk_c 12 0] M3 (fun t13 r11 M12 => t13 = 0 ∧ Q 0 r11 M12)))) := bk_iff (d := d) (P := P_191) (b := 0) (l := 0) (ls := [bk_c 12 0, bk_i a1, bk_i a2]) (st := []) (M := M) [] 40
theorem E_192 {d : Nat} {Q : bk_Q} (a1 : Int) (M : bk_M) : bk_C (d + 1) 0 192 [bk_c 12 0, bk_i a1] M Q ↔ ((0 : Int) ≤ (0 : Int) ∧ (0 : Int) < (437 : Int)) ∧ bk_r32 ((M 58 0 (0 : Int)) - (1 : Int)) ∧ bk_C d 0 157 [bk_i a1, bk_i (0 : Int), bk_i ((M 58 0 (0 : Int)) - (1 : Int))] M (fun t3 r1 M2 => t3 = 0 ∧ (r1 = 0 ∨ r1 = 1) ∧ Q 0 r1 M2) := bk_iff (d := d) (P := P_192) (b := 0) (l := 0) (ls := [bk_c 12 0, bk_i a1]) (st := []) (M := M) [] 40
theorem E_193 {d : Nat} {Q : bk_Q} (M : bk_M) : bk_C (d + 1) 0 193 [bk_c 12 0] M Q ↔ ∀ M1 : bk_M, M1 = bk_up M 12 0 (0 : Int) (1 : Int) → Q 0 (0 : Int) M1 := bk_iff (d := d) (P := P_193) (b := 0) (l := 0) (ls := [bk_c 12 0]) (st := []) (M := M) [] 40
theorem E_194 {d : Nat} {Q : bk_Q} (a1 : Int) (M : bk_M) : bk_C (d + 1) 0 194 [bk_c 12 0, bk_i a1] M Q ↔ bk_r32 ((42 : Int) + a1) ∧ ((0 : Int) ≤ (42 : Int) + a1 ∧ (42 : Int) + a1 < (437 : Int)) ∧ bk_r32 ((52 : Int) + a1) ∧ ((0 : Int) ≤ (52 : Int) + a1 ∧ (52 : Int) + a1 < (437 : Int)) ∧ bk_C d 0 195 [bk_c 12 0, bk_i (M 58 0 ((42 : Int) + a1)), bk_i (M 58 0 ((52 : Int) + a1))] M (fun t3 r1 M2 => t3 = 0 ∧ Q 0 r1 M2) := bk_iff (d := d) (P := P_194) (b := 0) (l := 0) (ls := [bk_c 12 0, bk_i a1]) (st := []) (M := M) [] 40
theorem E_195 {d : Nat} {Q : bk_Q} (a1 : Int) (a2 : Int) (M : bk_M) : bk_C (d + 1) 0 195 [bk_c 12 0, bk_i a1, bk_i a2] M Q ↔ bk_r32 ((121 : Int) + a2) ∧ ((0 : Int) ≤ (121 : Int) + a2 ∧ (121 : Int) + a2 < (437 : Int)) ∧ bk_C d 0 196 [bk_i a1, bk_i (M 58 0 ((121 : Int) + a2))] M (fun t3 r1 M2 => t3 = 0 ∧ Q 0 r1 M2) := bk_iff (d := d) (P := P_195) (b := 0) (l := 0) (ls := [bk_c 12 0, bk_i a1, bk_i a2]) (st := []) (M := M) [] 40
theorem E_196 {d : Nat} {Q : bk_Q} (a0 : Int) (a1 : Int) (M : bk_M) : bk_C (d + 1) 0 196 [bk_i a0, bk_i a1] M Q ↔ ((a1 ≤ a0 → ((a0 ≤ a1 → Q 0 (2 : Int) M) ∧ (¬ (a0 ≤ a1) → Q 0 (1 : Int) M))) ∧ (¬ (a1 ≤ a0) → Q 0 (0 : Int) M)) := bk_iff (d := d) (P := P_196) (b := 0) (l := 0) (ls := [bk_i a0, bk_i a1]) (st := []) (M := M) [] 40
theorem E_197 {d : Nat} {Q : bk_Q} (a1 : Int) (a2 : Int) (M : bk_M) : bk_C (d + 1) 0 197 [bk_c 12 0, bk_i a1, bk_i a2] M Q ↔ ∀ M1 : bk_M, M1 = bk_up M 12 0 (0 : Int) (0 : Int) → bk_C d 0 198 [bk_c 12 0, bk_i a1] M1 (fun t4 r2 M3 => t4 = 0 ∧ ((r2 ≠ (0 : Int) → ((a2 = (0 : Int) → bk_r32 ((127 : Int) + a1) ∧ ((0 : Int) ≤ (127 : Int) + a1 ∧ (127 : Int) + a1 < (437 : Int)) ∧ Q 0 (M3 58 0 ((127 : Int) + a1)) M3) ∧ (a2 ≠ (0 : Int) → ((a2 = (1 : Int) → bk_r32 ((130 : Int) + a1) ∧ ((0 : Int) ≤ (130 : Int) + a1 ∧ (130 : Int) + a1 < (437 : Int)) ∧ Q 0 (M3 58 0 ((130 : Int) + a1)) M3) ∧ (a2 ≠ (1 : Int) → ((a2 = (2 : Int) → bk_r32 ((127 : Int) + a1) ∧ ((0 : Int) ≤ (127 : Int) + a1 ∧ (127 : Int) + a1 < (437 : Int)) ∧ bk_r32 ((130 : Int) + a1) ∧ ((0 : Int) ≤ (130 : Int) + a1 ∧ (130 : Int) + a1 < (437 : Int)) ∧ bk_C d 0 195 [bk_c 12 0, bk_i (M3 58 0 ((127 : Int) + a1)), bk_i (M3 58 0 ((130 : Int) + a1))] M3 (fun t7 r5 M6 => t7 = 0 ∧ Q 0 r5 M6)) ∧ (a2 ≠ (2 : Int) → ((a2 = (3 : Int) → bk_r32 ((133 : Int) + a1) ∧ ((0 : Int) ≤ (133 : Int) + a1 ∧ (133 : Int) + a1 < (437 : Int)) ∧ Q 0 (M3 58 0 ((133 : Int) + a1)) M3) ∧ (a2 ≠ (3 : Int) → Q 0 (-1 : Int) M3))))))))) ∧ (¬ (r2 ≠ (0 : Int)) → Q 0 (-1 : Int) M3))) := bk_iff (d := d) (P := P_197) (b := 0) (l := 0) (ls := [bk_c 12 0, bk_i a1, bk_i a2]) (st := []) (M := M) [] 40
theorem E_198 {d : Nat} {Q : bk_Q} (a1 : Int) (M : bk_M) : bk_C (d + 1) 0 198 [bk_c 12 0, bk_i a1] M Q ↔ ((0 : Int) ≤ (1 : Int) ∧ (1 : Int) < (437 : Int)) ∧ bk_r32 ((M 58 0 (1 : Int)) - (1 : Int)) ∧ bk_C d 0 157 [bk_i a1, bk_i (0 : Int), bk_i ((M 58 0 (1 : Int)) - (1 : Int))] M (fun t3 r1 M2 => t3 = 0 ∧ (r1 = 0 ∨ r1 = 1) ∧ Q 0 r1 M2) := bk_iff (d := d) (P := P_198) (b := 0) (l := 0) (ls := [bk_c 12 0, bk_i a1]) (st := []) (M := M) [] 40
theorem E_199 {d : Nat} {Q : bk_Q} (a1 : Int) (a2 : Int) (M : bk_M) : bk_C (d + 1) 0 199 [bk_c 12 0, bk_i a1, bk_i a2] M Q ↔ ∀ M1 : bk_M, M1 = bk_up M 12 0 (0 : Int) (0 : Int) → bk_C d 0 156 [bk_c 12 0, bk_i a1, bk_i a2] M1 (fun t4 r2 M3 => t4 = 0 ∧ ((r2 = (0 : Int) → Q 0 (-1 : Int) M3) ∧ (¬ (r2 = (0 : Int)) → bk_r32 ((6 : Int) * a2) ∧ bk_r32 ((85 : Int) + ((6 : Int) * a2)) ∧ bk_r32 (((85 : Int) + ((6 : Int) * a2)) + a1) ∧ ((0 : Int) ≤ ((85 : Int) + ((6 : Int) * a2)) + a1 ∧ ((85 : Int) + ((6 : Int) * a2)) + a1 < (437 : Int)) ∧ Q 0 (M3 58 0 (((85 : Int) + ((6 : Int) * a2)) + a1)) M3))) := bk_iff (d := d) (P := P_199) (b := 0) (l := 0) (ls := [bk_c 12 0, bk_i a1, bk_i a2]) (st := []) (M := M) [] 40
theorem E_200 {d : Nat} {Q : bk_Q} (a1 : Int) (a2 : Int) (M : bk_M) : bk_C (d + 1) 0 200 [bk_c 12 0, bk_i a1, bk_i a2] M Q ↔ ∀ M1 : bk_M, M1 = bk_up M 12 0 (0 : Int) (0 : Int) → bk_C d 0 156 [bk_c 12 0, bk_i a1, bk_i a2] M1 (fun t4 r2 M3 => t4 = 0 ∧ ((r2 = (0 : Int) → Q 0 (-1 : Int) M3) ∧ (¬ (r2 = (0 : Int)) → bk_C d 0 195 [bk_c 12 0, bk_i a1, bk_i a2] M3 (fun t7 r5 M6 => t7 = 0 ∧ Q 0 r5 M6)))) := bk_iff (d := d) (P := P_200) (b := 0) (l := 0) (ls := [bk_c 12 0, bk_i a1, bk_i a2]) (st := []) (M := M) [] 40
theorem E_201 {d : Nat} {Q : bk_Q} (a1 : Int) (M : bk_M) : bk_C (d + 1) 0 201 [bk_c 12 0, bk_i a1] M Q ↔ ∀ M1 : bk_M, M1 = bk_up M 12 0 (0 : Int) (0 : Int) → bk_C d 0 202 [bk_c 12 0, bk_i a1] M1 (fun t4 r2 M3 => t4 = 0 ∧ ((r2 = (0 : Int) → Q 0 (-1 : Int) M3) ∧ (¬ (r2 = (0 : Int)) → bk_r32 ((121 : Int) + a1) ∧ ((0 : Int) ≤ (121 : Int) + a1 ∧ (121 : Int) + a1 < (437 : Int)) ∧ Q 0 (M3 58 0 ((121 : Int) + a1)) M3))) := bk_iff (d := d) (P := P_201) (b := 0) (l := 0) (ls := [bk_c 12 0, bk_i a1]) (st := []) (M := M) [] 40
theorem E_202 {d : Nat} {Q : bk_Q} (a1 : Int) (M : bk_M) : bk_C (d + 1) 0 202 [bk_c 12 0, bk_i a1] M Q ↔ ((0 : Int) ≤ (3 : Int) ∧ (3 : Int) < (437 : Int)) ∧ bk_r32 ((M 58 0 (3 : Int)) - (1 : Int)) ∧ bk_C d 0 157 [bk_i a1, bk_i (0 : Int), bk_i ((M 58 0 (3 : Int)) - (1 : Int))] M (fun t3 r1 M2 => t3 = 0 ∧ (r1 = 0 ∨ r1 = 1) ∧ Q 0 r1 M2) := bk_iff (d := d) (P := P_202) (b := 0) (l := 0) (ls := [bk_c 12 0, bk_i a1]) (st := []) (M := M) [] 40
theorem E_203 {d : Nat} {Q : bk_Q} (a1 : Int) (a2 : Int) (M : bk_M) : bk_C (d + 1) 0 203 [bk_c 12 0, bk_i a1, bk_i a2] M Q ↔ ∀ M1 : bk_M, M1 = bk_up M 12 0 (0 : Int) (0 : Int) → bk_C d 0 157 [bk_i a1, bk_i (0 : Int), bk_i (1 : Int)] M1 (fun t4 r2 M3 => t4 = 0 ∧ ((r2 ≠ (0 : Int) → ((a2 = (0 : Int) → bk_r32 ((81 : Int) + a1) ∧ ((0 : Int) ≤ (81 : Int) + a1 ∧ (81 : Int) + a1 < (437 : Int)) ∧ Q 0 (M3 58 0 ((81 : Int) + a1)) M3) ∧ (a2 ≠ (0 : Int) → ((a2 = (1 : Int) → bk_C d 0 204 [bk_c 12 0, bk_i a1] M3 (fun t7 r5 M6 => t7 = 0 ∧ Q 0 r5 M6)) ∧ (a2 ≠ (1 : Int) → ((a2 = (2 : Int) → bk_C d 0 204 [bk_c 12 0, bk_i a1] M3 (fun t10 r8 M9 => t10 = 0 ∧ bk_C d 0 205 [bk_c 12 0, bk_i r8] M9 (fun t13 r11 M12 => t13 = 0 ∧ Q 0 r11 M12))) ∧ (a2 ≠ (2 : Int) → ((a2 = (3 : Int) → bk_r32 ((83 : Int) + a1) ∧ ((0 : Int) ≤ (83 : Int) + a1 ∧ (83 : Int) + a1 < (437 : Int)) ∧ Q 0 (M3 58 0 ((83 : Int) + a1)) M3) ∧ (a2 ≠ (3 : Int) → Q 0 (-1 : Int) M3))))))))) ∧ (¬ (r2 ≠ (0 : Int)) → Q 0 (-1 : Int) M3))) := bk_iff (d := d) (P := P_203) (b := 0) (l := 0) (ls := [bk_c 12 0, bk_i a1, bk_i a2]) (st := []) (M := M) [] 40
theorem E_204 {d : Nat} {Q : bk_Q} (a1 : Int) (M : bk_M) : bk_C (d + 1) 0 204 [bk_c 12 0, bk_i a1] M Q ↔ bk_wp (bk_C d) P_204 Q 0 4 [bk_c 12 0, bk_i a1, bk_i (0 : Int), bk_i (0 : Int)] [] M := bk_iff (d := d) (P := P_204) (b := 0) (l := 0) (ls := [bk_c 12 0, bk_i a1, bk_x, bk_x]) (st := []) (M := M) [4] 40
theorem L_204_4 {d : Nat} {Q : bk_Q} (x1 : Int) (x2 : Int) (x3 : Int) (M : bk_M) : bk_wp (bk_C d) P_204 Q 0 4 [bk_c 12 0, bk_i x1, bk_i x2, bk_i x3] [] M ↔ ((0 : Int) ≤ (0 : Int) ∧ (0 : Int) < (437 : Int)) ∧ ((M 58 0 (0 : Int) ≤ x3 → Q 0 x2 M) ∧ (¬ (M 58 0 (0 : Int) ≤ x3) → bk_C d 0 194 [bk_c 12 0, bk_i x3] M (fun t3 r1 M2 => t3 = 0 ∧ ((r1 ≠ x1 → bk_r32 (x3 + (1 : Int)) ∧ bk_wp (bk_C d) P_204 Q 0 4 [bk_c 12 0, bk_i x1, bk_i x2, bk_i (x3 + (1 : Int))] [] M2) ∧ (¬ (r1 ≠ x1) → ((0 : Int) ≤ x3 ∧ x3 < 32 ∧ bk_r32 ((1 : Int) * 2 ^ x3.toNat)) ∧ bk_r32 (x3 + (1 : Int)) ∧ bk_wp (bk_C d) P_204 Q 0 4 [bk_c 12 0, bk_i x1, bk_i (bk_or x2 ((1 : Int) * 2 ^ x3.toNat)), bk_i (x3 + (1 : Int))] [] M2))))) := bk_iff [4] 40
theorem E_205 {d : Nat} {Q : bk_Q} (a1 : Int) (M : bk_M) : bk_C (d + 1) 0 205 [bk_c 12 0, bk_i a1] M Q ↔ bk_wp (bk_C d) P_205 Q 0 4 [bk_c 12 0, bk_i a1, bk_i (0 : Int), bk_i (0 : Int)] [] M := bk_iff (d := d) (P := P_205) (b := 0) (l := 0) (ls := [bk_c 12 0, bk_i a1, bk_x, bk_x]) (st := []) (M := M) [4] 40
theorem L_205_4 {d : Nat} {Q : bk_Q} (x1 : Int) (x2 : Int) (x3 : Int) (M : bk_M) : bk_wp (bk_C d) P_205 Q 0 4 [bk_c 12 0, bk_i x1, bk_i x2, bk_i x3] [] M ↔ (((10 : Int) ≤ x3 → Q 0 x2 M) ∧ (¬ ((10 : Int) ≤ x3) → bk_C d 0 206 [bk_i x1, bk_i x3] M (fun t3 r1 M2 => t3 = 0 ∧ ((r1 = (0 : Int) → bk_r32 (x3 + (1 : Int)) ∧ bk_wp (bk_C d) P_205 Q 0 4 [bk_c 12 0, bk_i x1, bk_i x2, bk_i (x3 + (1 : Int))] [] M2) ∧ (¬ (r1 = (0 : Int)) → bk_r32 ((62 : Int) + x3) ∧ ((0 : Int) ≤ (62 : Int) + x3 ∧ (62 : Int) + x3 < (437 : Int)) ∧ bk_r32 (x2 + (M2 58 0 ((62 : Int) + x3))) ∧ bk_r32 (x3 + (1 : Int)) ∧ bk_wp (bk_C d) P_205 Q 0 4 [bk_c 12 0, bk_i x1, bk_i (x2 + (M2 58 0 ((62 : Int) + x3))), bk_i (x3 + (1 : Int))] [] M2))))) := bk_iff [4] 40
theorem E_206 {d : Nat} {Q : bk_Q} (a0 : Int) (a1 : Int) (M : bk_M) : bk_C (d + 1) 0 206 [bk_i a0, bk_i a1] M Q ↔ ((0 : Int) ≤ a1 ∧ a1 < 32) ∧ ((bk_and (a0 / 2 ^ a1.toNat) (1 : Int) ≠ (1 : Int) → ((0 : Int) = 0 ∨ (0 : Int) = 1) ∧ Q 0 (0 : Int) M) ∧ (¬ (bk_and (a0 / 2 ^ a1.toNat) (1 : Int) ≠ (1 : Int)) → ((1 : Int) = 0 ∨ (1 : Int) = 1) ∧ Q 0 (1 : Int) M)) := bk_iff (d := d) (P := P_206) (b := 0) (l := 0) (ls := [bk_i a0, bk_i a1]) (st := []) (M := M) [] 40
theorem E_207 {d : Nat} {Q : bk_Q} (a1 : Int) (M : bk_M) : bk_C (d + 1) 0 207 [bk_c 12 0, bk_i a1] M Q ↔ ∀ M1 : bk_M, M1 = bk_up M 12 0 (0 : Int) (0 : Int) → ((a1 = (0 : Int) → ((0 : Int) ≤ (80 : Int) ∧ (80 : Int) < (437 : Int)) ∧ Q 0 (M1 58 0 (80 : Int)) M1) ∧ (a1 ≠ (0 : Int) → ((a1 = (1 : Int) → bk_C d 0 204 [bk_c 12 0, bk_i (2 : Int)] M1 (fun t4 r2 M3 => t4 = 0 ∧ Q 0 r2 M3)) ∧ (a1 ≠ (1 : Int) → ((a1 = (2 : Int) → bk_wp (bk_C d) P_207 Q 0 60 [bk_c 12 0, bk_i a1, bk_i (0 : Int), bk_i (0 : Int)] [] M1) ∧ (a1 ≠ (2 : Int) → ((a1 = (3 : Int) → bk_wp (bk_C d) P_207 Q 0 105 [bk_c 12 0, bk_i a1, bk_i (0 : Int), bk_i (1 : Int)] [] M1) ∧ (a1 ≠ (3 : Int) → ((a1 = (4 : Int) → bk_wp (bk_C d) P_207 Q 0 151 [bk_c 12 0, bk_i a1, bk_i (0 : Int), bk_i (0 : Int)] [] M1) ∧ (a1 ≠ (4 : Int) → Q 0 (-1 : Int) M1)))))))))) := bk_iff (d := d) (P := P_207) (b := 0) (l := 0) (ls := [bk_c 12 0, bk_i a1, bk_x, bk_x]) (st := []) (M := M) [60, 105, 151] 40
theorem L_207_60 {d : Nat} {Q : bk_Q} (x1 : Int) (x2 : Int) (x3 : Int) (M : bk_M) : bk_wp (bk_C d) P_207 Q 0 60 [bk_c 12 0, bk_i x1, bk_i x2, bk_i x3] [] M ↔ ((0 : Int) ≤ (3 : Int) ∧ (3 : Int) < (437 : Int)) ∧ ((M 58 0 (3 : Int) ≤ x3 → Q 0 x2 M) ∧ (¬ (M 58 0 (3 : Int) ≤ x3) → bk_r32 ((6 : Int) * x3) ∧ bk_r32 ((85 : Int) + ((6 : Int) * x3)) ∧ bk_r32 ((121 : Int) + x3) ∧ ((0 : Int) ≤ (121 : Int) + x3 ∧ (121 : Int) + x3 < (437 : Int)) ∧ bk_r32 (((85 : Int) + ((6 : Int) * x3)) + (M 58 0 ((121 : Int) + x3))) ∧ ((0 : Int) ≤ ((85 : Int) + ((6 : Int) * x3)) + (M 58 0 ((121 : Int) + x3)) ∧ ((85 : Int) + ((6 : Int) * x3)) + (M 58 0 ((121 : Int) + x3)) < (437 : Int)) ∧ bk_r32 (x2 + (M 58 0 (((85 : Int) + ((6 : Int) * x3)) + (M 58 0 ((121 : Int) + x3))))) ∧ bk_r32 (x3 + (1 : Int)) ∧ bk_wp (bk_C d) P_207 Q 0 60 [bk_c 12 0, bk_i x1, bk_i (x2 + (M 58 0 (((85 : Int) + ((6 : Int) * x3)) + (M 58 0 ((121 : Int) + x3))))), bk_i (x3 + (1 : Int))] [] M)) := bk_iff [60, 105, 151] 40
theorem L_207_105 {d : Nat} {Q : bk_Q} (x1 : Int) (x2 : Int) (x3 : Int) (M : bk_M) : bk_wp (bk_C d) P_207 Q 0 105 [bk_c 12 0, bk_i x1, bk_i x2, bk_i x3] [] M ↔ ((0 : Int) ≤ (3 : Int) ∧ (3 : Int) < (437 : Int)) ∧ ((M 58 0 (3 : Int) ≤ x3 → Q 0 x2 M) ∧ (¬ (M 58 0 (3 : Int) ≤ x3) → bk_r32 ((121 : Int) + x3) ∧ ((0 : Int) ≤ (121 : Int) + x3 ∧ (121 : Int) + x3 < (437 : Int)) ∧ bk_r32 ((121 : Int) + x3) ∧ bk_r32 (((121 : Int) + x3) - (1 : Int)) ∧ ((0 : Int) ≤ ((121 : Int) + x3) - (1 : Int) ∧ ((121 : Int) + x3) - (1 : Int) < (437 : Int)) ∧ ((M 58 0 ((121 : Int) + x3) = M 58 0 (((121 : Int) + x3) - (1 : Int)) → bk_r32 (x3 + (1 : Int)) ∧ bk_wp (bk_C d) P_207 Q 0 105 [bk_c 12 0, bk_i x1, bk_i x2, bk_i (x3 + (1 : Int))] [] M) ∧ (¬ (M 58 0 ((121 : Int) + x3) = M 58 0 (((121 : Int) + x3) - (1 : Int))) → bk_r32 (x2 + (1 : Int)) ∧ bk_r32 (x3 + (1 : Int)) ∧ bk_wp (bk_C d) P_207 Q 0 105 [bk_c 12 0, bk_i x1, bk_i (x2 + (1 : Int)), bk_i (x3 + (1 : Int))] [] M)))) := bk_iff [60, 105, 151] 40
theorem L_207_151 {d : Nat} {Q : bk_Q} (x1 : Int) (x2 : Int) (x3 : Int) (M : bk_M) : bk_wp (bk_C d) P_207 Q 0 151 [bk_c 12 0, bk_i x1, bk_i x2, bk_i x3] [] M ↔ (((10 : Int) ≤ x3 → Q 0 x2 M) ∧ (¬ ((10 : Int) ≤ x3) → bk_r32 ((136 : Int) + x3) ∧ ((0 : Int) ≤ (136 : Int) + x3 ∧ (136 : Int) + x3 < (437 : Int)) ∧ bk_r32 (x2 + (M 58 0 ((136 : Int) + x3))) ∧ bk_r32 (x3 + (1 : Int)) ∧ bk_wp (bk_C d) P_207 Q 0 151 [bk_c 12 0, bk_i x1, bk_i (x2 + (M 58 0 ((136 : Int) + x3))), bk_i (x3 + (1 : Int))] [] M)) := bk_iff [60, 105, 151] 40
theorem E_208 {d : Nat} {Q : bk_Q} (a1 : Int) (a2 : Int) (a3 : Int) (M : bk_M) : bk_C (d + 1) 0 208 [bk_c 12 0, bk_i a1, bk_i a2, bk_i a3] M Q ↔ ∀ M1 : bk_M, M1 = bk_up M 12 0 (0 : Int) (0 : Int) → bk_C d 0 157 [bk_i a1, bk_i (0 : Int), bk_i (1 : Int)] M1 (fun t4 r2 M3 => t4 = 0 ∧ ((r2 = (0 : Int) → Q 0 (-1 : Int) M3) ∧ (¬ (r2 = (0 : Int)) → bk_C d 0 156 [bk_c 12 0, bk_i a2, bk_i a3] M3 (fun t7 r5 M6 => t7 = 0 ∧ ((r5 = (0 : Int) → Q 0 (-1 : Int) M6) ∧ (¬ (r5 = (0 : Int)) → bk_C d 0 209 [bk_c 12 0, bk_i (0 : Int), bk_i a1, bk_i a2, bk_i a3] M6 (fun t10 r8 M9 => t10 = 0 ∧ Q 0 r8 M9))))))) := bk_iff (d := d) (P := P_208) (b := 0) (l := 0) (ls := [bk_c 12 0, bk_i a1, bk_i a2, bk_i a3]) (st := []) (M := M) [] 40
theorem E_209 {d : Nat} {Q : bk_Q} (a1 : Int) (a2 : Int) (a3 : Int) (a4 : Int) (M : bk_M) : bk_C (d + 1) 0 209 [bk_c 12 0, bk_i a1, bk_i a2, bk_i a3, bk_i a4] M Q ↔ bk_C d 0 210 [bk_c 12 0, bk_i a1, bk_i a2, bk_i a3, bk_i a4] M (fun t3 r1 M2 => t3 = 0 ∧ ((r1 = (0 : Int) → bk_C d 0 213 [bk_c 12 0] M2 (fun t6 r4 M5 => t6 = 0 ∧ bk_C d 0 214 [bk_c 12 0, bk_i a1, bk_i a2, bk_i a3, bk_i a4] M5 (fun t9 r7 M8 => t9 = 0 ∧ Q 0 (0 : Int) M8))) ∧ (¬ (r1 = (0 : Int)) → Q 0 r1 M2))) := bk_iff (d := d) (P := P_209) (b := 0) (l := 0) (ls := [bk_c 12 0, bk_i a1, bk_i a2, bk_i a3, bk_i a4, bk_x]) (st := []) (M := M) [] 40
theorem E_210 {d : Nat} {Q : bk_Q} (a1 : Int) (a2 : Int) (a3 : Int) (a4 : Int) (M : bk_M) : bk_C (d + 1) 0 210 [bk_c 12 0, bk_i a1, bk_i a2, bk_i a3, bk_i a4] M Q ↔ ((a1 ≠ (4 : Int) → bk_r32 ((81 : Int) + a2) ∧ ((0 : Int) ≤ (81 : Int) + a2 ∧ (81 : Int) + a2 < (437 : Int)) ∧ ((M 58 0 ((81 : Int) + a2) ≠ (0 : Int) → bk_C d 0 195 [bk_c 12 0, bk_i a3, bk_i a4] M (fun t3 r1 M2 => t3 = 0 ∧ bk_r32 ((1 : Int) - a2) ∧ ((r1 ≠ (1 : Int) - a2 → bk_C d 0 212 [bk_c 12 0, bk_i a1, bk_i a2, bk_i a3, bk_i a4] M2 (fun t6 r4 M5 => t6 = 0 ∧ ((r4 = (0 : Int) → Q 0 (3 : Int) M5) ∧ (¬ (r4 = (0 : Int)) → Q 0 (0 : Int) M5)))) ∧ (¬ (r1 ≠ (1 : Int) - a2) → Q 0 (2 : Int) M2)))) ∧ (¬ (M 58 0 ((81 : Int) + a2) ≠ (0 : Int)) → Q 0 (1 : Int) M))) ∧ (¬ (a1 ≠ (4 : Int)) → bk_r32 ((127 : Int) + a2) ∧ ((0 : Int) ≤ (127 : Int) + a2 ∧ (127 : Int) + a2 < (437 : Int)) ∧ bk_r32 ((M 58 0 ((127 : Int) + a2)) - a3) ∧ bk_C d 0 211 [bk_i ((M 58 0 ((127 : Int) + a2)) - a3)] M (fun t9 r7 M8 => t9 = 0 ∧ bk_r32 ((130 : Int) + a2) ∧ ((0 : Int) ≤ (130 : Int) + a2 ∧ (130 : Int) + a2 < (437 : Int)) ∧ bk_r32 ((M8 58 0 ((130 : Int) + a2)) - a4) ∧ bk_C d 0 211 [bk_i ((M8 58 0 ((130 : Int) + a2)) - a4)] M8 (fun t12 r10 M11 => t12 = 0 ∧ bk_r32 (r7 + r10) ∧ ((r7 + r10 = (1 : Int) → bk_r32 ((127 : Int) + a2) ∧ ((0 : Int) ≤ (127 : Int) + a2 ∧ (127 : Int) + a2 < (437 : Int)) ∧ bk_r32 ((130 : Int) + a2) ∧ ((0 : Int) ≤ (130 : Int) + a2 ∧ (130 : Int) + a2 < (437 : Int)) ∧ bk_C d 0 195 [bk_c 12 0, bk_i (M11 58 0 ((127 : Int) + a2)), bk_i (M11 58 0 ((130 : Int) + a2))] M11 (fun t15 r13 M14 => t15 = 0 ∧ ((r13 ≠ (2 : Int) → Q 0 (0 : Int) M14) ∧ (¬ (r13 ≠ (2 : Int)) → Q 0 (2 : Int) M14)))) ∧ (¬ (r7 + r10 = (1 : Int)) → Q 0 (1 : Int) M11)))))) := bk_iff (d := d) (P := P_210) (b := 0) (l := 0) (ls := [bk_c 12 0, bk_i a1, bk_i a2, bk_i a3, bk_i a4]) (st := []) (M := M) [] 40
theorem E_211 {d : Nat} {Q : bk_Q} (a0 : Int) (M : bk_M) : bk_C (d + 1) 0 211 [bk_i a0] M Q ↔ (((0 : Int) ≤ a0 → Q 0 a0 M) ∧ (¬ ((0 : Int) ≤ a0) → bk_r32 (-a0) ∧ Q 0 (-a0) M)) := bk_iff (d := d) (P := P_211) (b := 0) (l := 0) (ls := [bk_i a0]) (st := []) (M := M) [] 40
theorem E_212 {d : Nat} {Q : bk_Q} (a1 : Int) (a2 : Int) (a3 : Int) (a4 : Int) (M : bk_M) : bk_C (d + 1) 0 212 [bk_c 12 0, bk_i a1, bk_i a2, bk_i a3, bk_i a4] M Q ↔ bk_C d 0 195 [bk_c 12 0, bk_i a3, bk_i a4] M (fun t3 r1 M2 => t3 = 0 ∧ bk_r32 ((1 : Int) - a2) ∧ ((r1 = (1 : Int) - a2 → ((0 : Int) = 0 ∨ (0 : Int) = 1) ∧ Q 0 (0 : Int) M2) ∧ (¬ (r1 = (1 : Int) - a2) → bk_r32 ((6 : Int) * a4) ∧ bk_r32 ((85 : Int) + ((6 : Int) * a4)) ∧ bk_r32 (((85 : Int) + ((6 : Int) * a4)) + a3) ∧ ((0 : Int) ≤ ((85 : Int) + ((6 : Int) * a4)) + a3 ∧ ((85 : Int) + ((6 : Int) * a4)) + a3 < (437 : Int)) ∧ ((a1 ≠ (0 : Int) → ((M2 58 0 (((85 : Int) + ((6 : Int) * a4)) + a3) = (9 : Int) → ((0 : Int) = 0 ∨ (0 : Int) = 1) ∧ Q 0 (0 : Int) M2) ∧ (¬ (M2 58 0 (((85 : Int) + ((6 : Int) * a4)) + a3) = (9 : Int)) → ((1 : Int) = 0 ∨ (1 : Int) = 1) ∧ Q 0 (1 : Int) M2))) ∧ (¬ (a1 ≠ (0 : Int)) → ((M2 58 0 (((85 : Int) + ((6 : Int) * a4)) + a3) = (0 : Int) → ((0 : Int) = 0 ∨ (0 : Int) = 1) ∧ Q 0 (0 : Int) M2) ∧ (¬ (M2 58 0 (((85 : Int) + ((6 : Int) * a4)) + a3) = (0 : Int)) → ((1 : Int) = 0 ∨ (1 : Int) = 1) ∧ Q 0 (1 : Int) M2))))))) := bk_iff (d := d) (P := P_212) (b := 0) (l := 0) (ls := [bk_c 12 0, bk_i a1, bk_i a2, bk_i a3, bk_i a4]) (st := []) (M := M) [] 40
theorem E_213 {d : Nat} {Q : bk_Q} (M : bk_M) : bk_C (d + 1) 0 213 [bk_c 12 0] M Q ↔ ((M 12 0 (25 : Int) ≠ (8 : Int) → bk_wp (bk_C d) P_213 Q 0 51 [bk_c 12 0, bk_i (0 : Int)] [] M) ∧ (¬ (M 12 0 (25 : Int) ≠ (8 : Int)) → bk_wp (bk_C d) P_213 Q 0 11 [bk_c 12 0, bk_i (0 : Int)] [] M)) := bk_iff (d := d) (P := P_213) (b := 0) (l := 0) (ls := [bk_c 12 0, bk_x]) (st := []) (M := M) [11, 51] 40
theorem L_213_11 {d : Nat} {Q : bk_Q} (x1 : Int) (M : bk_M) : bk_wp (bk_C d) P_213 Q 0 11 [bk_c 12 0, bk_i x1] [] M ↔ (((805 : Int) ≤ x1 → bk_r32 ((M 12 0 (25 : Int)) - (1 : Int)) ∧ ∀ M1 : bk_M, M1 = bk_up M 12 0 (25 : Int) ((M 12 0 (25 : Int)) - (1 : Int)) → bk_wp (bk_C d) P_213 Q 0 51 [bk_c 12 0, bk_i (0 : Int)] [] M1) ∧ (¬ ((805 : Int) ≤ x1) → bk_r32 (x1 + (115 : Int)) ∧ ((0 : Int) ≤ x1 + (115 : Int) ∧ x1 + (115 : Int) < (920 : Int)) ∧ ((0 : Int) ≤ x1 ∧ x1 < (920 : Int)) ∧ ∀ M2 : bk_M, M2 = bk_up M 61 0 x1 (M 61 0 (x1 + (115 : Int))) → bk_r32 (x1 + (1 : Int)) ∧ bk_wp (bk_C d) P_213 Q 0 11 [bk_c 12 0, bk_i (x1 + (1 : Int))] [] M2)) := bk_iff [11, 51] 40
theorem L_213_51 {d : Nat} {Q : bk_Q} (x1 : Int) (M : bk_M) : bk_wp (bk_C d) P_213 Q 0 51 [bk_c 12 0, bk_i x1] [] M ↔ (((115 : Int) ≤ x1 → bk_r32 ((M 12 0 (25 : Int)) + (1 : Int)) ∧ ∀ M1 : bk_M, M1 = bk_up M 12 0 (25 : Int) ((M 12 0 (25 : Int)) + (1 : Int)) → Q 0 0 M1) ∧ (¬ ((115 : Int) ≤ x1) → bk_r32 ((115 : Int) * (M 12 0 (25 : Int))) ∧ bk_r32 (((115 : Int) * (M 12 0 (25 : Int))) + x1) ∧ bk_r32 ((80 : Int) + x1) ∧ ((0 : Int) ≤ (80 : Int) + x1 ∧ (80 : Int) + x1 < (437 : Int)) ∧ ((0 : Int) ≤ ((115 : Int) * (M 12 0 (25 : Int))) + x1 ∧ ((115 : Int) * (M 12 0 (25 : Int))) + x1 < (920 : Int)) ∧ ∀ M2 : bk_M, M2 = bk_up M 61 0 (((115 : Int) * (M 12 0 (25 : Int))) + x1) (M 58 0 ((80 : Int) + x1)) → bk_r32 (x1 + (1 : Int)) ∧ bk_wp (bk_C d) P_213 Q 0 51 [bk_c 12 0, bk_i (x1 + (1 : Int))] [] M2)) := bk_iff [11, 51] 40
set_option maxRecDepth 20000 in
theorem E_214 {d : Nat} {Q : bk_Q} (a1 : Int) (a2 : Int) (a3 : Int) (a4 : Int) (M : bk_M) : bk_C (d + 1) 0 214 [bk_c 12 0, bk_i a1, bk_i a2, bk_i a3, bk_i a4] M Q ↔ ((a1 ≠ (4 : Int) → bk_r32 ((81 : Int) + a2) ∧ ((0 : Int) ≤ (81 : Int) + a2 ∧ (81 : Int) + a2 < (437 : Int)) ∧ bk_r32 ((M 58 0 ((81 : Int) + a2)) - (1 : Int)) ∧ ((0 : Int) ≤ (81 : Int) + a2 ∧ (81 : Int) + a2 < (437 : Int)) ∧ ∀ M1 : bk_M, M1 = bk_up M 58 0 ((81 : Int) + a2) ((M 58 0 ((81 : Int) + a2)) - (1 : Int)) → bk_r32 ((83 : Int) + a2) ∧ ((0 : Int) ≤ (83 : Int) + a2 ∧ (83 : Int) + a2 < (437 : Int)) ∧ bk_r32 ((M1 58 0 ((83 : Int) + a2)) + (1 : Int)) ∧ ((0 : Int) ≤ (83 : Int) + a2 ∧ (83 : Int) + a2 < (437 : Int)) ∧ ∀ M2 : bk_M, M2 = bk_up M1 58 0 ((83 : Int) + a2) ((M1 58 0 ((83 : Int) + a2)) + (1 : Int)) → bk_r32 ((6 : Int) * a4) ∧ bk_r32 ((85 : Int) + ((6 : Int) * a4)) ∧ bk_r32 (((85 : Int) + ((6 : Int) * a4)) + a3) ∧ ((0 : Int) ≤ ((85 : Int) + ((6 : Int) * a4)) + a3 ∧ ((85 : Int) + ((6 : Int) * a4)) + a3 < (437 : Int)) ∧ ((a1 ≠ (0 : Int) → bk_r32 ((M2 58 0 (((85 : Int) + ((6 : Int) * a4)) + a3)) + (1 : Int)) ∧ ((0 : Int) ≤ ((85 : Int) + ((6 : Int) * a4)) + a3 ∧ ((85 : Int) + ((6 : Int) * a4)) + a3 < (437 : Int)) ∧ ∀ M3 : bk_M, M3 = bk_up M2 58 0 (((85 : Int) + ((6 : Int) * a4)) + a3) ((M2 58 0 (((85 : Int) + ((6 : Int) * a4)) + a3)) + (1 : Int)) → Q 0 0 M3) ∧ (¬ (a1 ≠ (0 : Int)) → bk_r32 ((M2 58 0 (((85 : Int) + ((6 : Int) * a4)) + a3)) + (-1 : Int)) ∧ ((0 : Int) ≤ ((85 : Int) + ((6 : Int) * a4)) + a3 ∧ ((85 : Int) + ((6 : Int) * a4)) + a3 < (437 : Int)) ∧ ∀ M4 : bk_M, M4 = bk_up M2 58 0 (((85 : Int) + ((6 : Int) * a4)) + a3) ((M2 58 0 (((85 : Int) + ((6 : Int) * a4)) + a3)) + (-1 : Int)) → Q 0 0 M4))) ∧ (¬ (a1 ≠ (4 : Int)) → bk_r32 ((127 : Int) + a2) ∧ ((0 : Int) ≤ (127 : Int) + a2 ∧ (127 : Int) + a2 < (437 : Int)) ∧ ∀ M5 : bk_M, M5 = bk_up M 58 0 ((127 : Int) + a2) a3 → bk_r32 ((130 : Int) + a2) ∧ ((0 : Int) ≤ (130 : Int) + a2 ∧ (130 : Int) + a2 < (437 : Int)) ∧ ∀ M6 : bk_M, M6 = bk_up M5 58 0 ((130 : Int) + a2) a4 → bk_r32 ((133 : Int) + a2) ∧ ((0 : Int) ≤ (133 : Int) + a2 ∧ (133 : Int) + a2 < (437 : Int)) ∧ bk_r32 ((M6 58 0 ((133 : Int) + a2)) + (1 : Int)) ∧ ((0 : Int) ≤ (133 : Int) + a2 ∧ (133 : Int) + a2 < (437 : Int)) ∧ ∀ M7 : bk_M, M7 = bk_up M6 58 0 ((133 : Int) + a2) ((M6 58 0 ((133 : Int) + a2)) + (1 : Int)) → Q 0 0 M7)) := bk_iff (d := d) (P := P_214) (b := 0) (l := 0) (ls := [bk_c 12 0, bk_i a1, bk_i a2, bk_i a3, bk_i a4]) (st := []) (M := M) [] 40
theorem E_215 {d : Nat} {Q : bk_Q} (a1 : Int) (a2 : Int) (a3 : Int) (M : bk_M) : bk_C (d + 1) 0 215 [bk_c 12 0, bk_i a1, bk_i a2, bk_i a3] M Q ↔ ∀ M1 : bk_M, M1 = bk_up M 12 0 (0 : Int) (0 : Int) → bk_C d 0 157 [bk_i a1, bk_i (0 : Int), bk_i (1 : Int)] M1 (fun t4 r2 M3 => t4 = 0 ∧ ((r2 = (0 : Int) → Q 0 (-1 : Int) M3) ∧ (¬ (r2 = (0 : Int)) → bk_C d 0 156 [bk_c 12 0, bk_i a2, bk_i a3] M3 (fun t7 r5 M6 => t7 = 0 ∧ ((r5 = (0 : Int) → Q 0 (-1 : Int) M6) ∧ (¬ (r5 = (0 : Int)) → bk_C d 0 209 [bk_c 12 0, bk_i (1 : Int), bk_i a1, bk_i a2, bk_i a3] M6 (fun t10 r8 M9 => t10 = 0 ∧ Q 0 r8 M9))))))) := bk_iff (d := d) (P := P_215) (b := 0) (l := 0) (ls := [bk_c 12 0, bk_i a1, bk_i a2, bk_i a3]) (st := []) (M := M) [] 40
theorem E_216 {d : Nat} {Q : bk_Q} (a1 : Int) (a2 : Int) (a3 : Int) (M : bk_M) : bk_C (d + 1) 0 216 [bk_c 12 0, bk_i a1, bk_i a2, bk_i a3] M Q ↔ ∀ M1 : bk_M, M1 = bk_up M 12 0 (0 : Int) (0 : Int) → bk_C d 0 198 [bk_c 12 0, bk_i a1] M1 (fun t4 r2 M3 => t4 = 0 ∧ ((r2 = (0 : Int) → Q 0 (-1 : Int) M3) ∧ (¬ (r2 = (0 : Int)) → bk_C d 0 156 [bk_c 12 0, bk_i a2, bk_i a3] M3 (fun t7 r5 M6 => t7 = 0 ∧ ((r5 = (0 : Int) → Q 0 (-1 : Int) M6) ∧ (¬ (r5 = (0 : Int)) → bk_C d 0 209 [bk_c 12 0, bk_i (4 : Int), bk_i a1, bk_i a2, bk_i a3] M6 (fun t10 r8 M9 => t10 = 0 ∧ Q 0 r8 M9))))))) := bk_iff (d := d) (P := P_216) (b := 0) (l := 0) (ls := [bk_c 12 0, bk_i a1, bk_i a2, bk_i a3]) (st := []) (M := M) [] 40
theorem E_217 {d : Nat} {Q : bk_Q} (M : bk_M) : bk_C (d + 1) 0 217 [bk_c 12 0] M Q ↔ ∀ M1 : bk_M, M1 = bk_up M 12 0 (0 : Int) (0 : Int) → ((M1 12 0 (25 : Int) ≠ (0 : Int) → bk_r32 ((M1 12 0 (25 : Int)) - (1 : Int)) ∧ ∀ M2 : bk_M, M2 = bk_up M1 12 0 (25 : Int) ((M1 12 0 (25 : Int)) - (1 : Int)) → bk_wp (bk_C d) P_217 Q 0 26 [bk_c 12 0, bk_i (0 : Int)] [] M2) ∧ (¬ (M1 12 0 (25 : Int) ≠ (0 : Int)) → Q 0 (-1 : Int) M1)) := bk_iff (d := d) (P := P_217) (b := 0) (l := 0) (ls := [bk_c 12 0, bk_x]) (st := []) (M := M) [26] 40
theorem L_217_26 {d : Nat} {Q : bk_Q} (x1 : Int) (M : bk_M) : bk_wp (bk_C d) P_217 Q 0 26 [bk_c 12 0, bk_i x1] [] M ↔ (((115 : Int) ≤ x1 → Q 0 (M 12 0 (25 : Int)) M) ∧ (¬ ((115 : Int) ≤ x1) → bk_r32 ((80 : Int) + x1) ∧ bk_r32 ((115 : Int) * (M 12 0 (25 : Int))) ∧ bk_r32 (((115 : Int) * (M 12 0 (25 : Int))) + x1) ∧ ((0 : Int) ≤ ((115 : Int) * (M 12 0 (25 : Int))) + x1 ∧ ((115 : Int) * (M 12 0 (25 : Int))) + x1 < (920 : Int)) ∧ ((0 : Int) ≤ (80 : Int) + x1 ∧ (80 : Int) + x1 < (437 : Int)) ∧ ∀ M1 : bk_M, M1 = bk_up M 58 0 ((80 : Int) + x1) (M 61 0 (((115 : Int) * (M 12 0 (25 : Int))) + x1)) → bk_r32 (x1 + (1 : Int)) ∧ bk_wp (bk_C d) P_217 Q 0 26 [bk_c 12 0, bk_i (x1 + (1 : Int))] [] M1)) := bk_iff [26] 40
theorem E_218 {d : Nat} {Q : bk_Q} (a1 : Int) (M : bk_M) : bk_C (d + 1) 0 218 [bk_c 12 0, bk_i a1] M Q ↔ ∀ M1 : bk_M, M1 = bk_up M 12 0 (0 : Int) (0 : Int) → ((0 : Int) ≤ (80 : Int) ∧ (80 : Int) < (437 : Int)) ∧ ((M1 58 0 (80 : Int) ≠ (400 : Int) → bk_C d 0 213 [bk_c 12 0] M1 (fun t4 r2 M3 => t4 = 0 ∧ ∀ M5 : bk_M, M5 = bk_up M3 12 0 (30 : Int) a1 → bk_C d 0 219 [bk_c 12 0] M5 (fun t8 r6 M7 => t8 = 0 ∧ Q 0 r6 M7))) ∧ (¬ (M1 58 0 (80 : Int) ≠ (400 : Int)) → Q 0 (-1 : Int) M1)) := bk_iff (d := d) (P := P_218) (b := 0) (l := 0) (ls := [bk_c 12 0, bk_i a1]) (st := []) (M := M) [] 40
theorem E_219 {d : Nat} {Q : bk_Q} (M : bk_M) : bk_C (d + 1) 0 219 [bk_c 12 0] M Q ↔ bk_wp (bk_C d) P_219 Q 0 2 [bk_c 12 0, bk_i (0 : Int), bk_x] [] M := bk_iff (d := d) (P := P_219) (b := 0) (l := 0) (ls := [bk_c 12 0, bk_x, bk_x]) (st := []) (M := M) [2, 14, 76, 127] 40
theorem L_219_2 {d : Nat} {Q : bk_Q} (x1 : Int) (M : bk_M) : bk_wp (bk_C d) P_219 Q 0 2 [bk_c 12 0, bk_i x1, bk_x] [] M ↔ ((0 : Int) ≤ (3 : Int) ∧ (3 : Int) < (437 : Int)) ∧ ((M 58 0 (3 : Int) ≤ x1 → bk_C d 0 153 [bk_c 12 0] M (fun t3 r1 M2 => t3 = 0 ∧ bk_C d 0 152 [bk_c 12 0] M2 (fun t6 r4 M5 => t6 = 0 ∧ bk_C d 0 221 [bk_c 12 0] M5 (fun t9 r7 M8 => t9 = 0 ∧ bk_wp (bk_C d) P_219 Q 0 76 [bk_c 12 0, bk_i (0 : Int), bk_i (0 : Int)] [] M8)))) ∧ (¬ (M 58 0 (3 : Int) ≤ x1) → bk_wp (bk_C d) P_219 Q 0 14 [bk_c 12 0, bk_i x1, bk_i (0 : Int)] [] M)) := bk_iff [2, 14, 76, 127] 40
theorem L_219_14 {d : Nat} {Q : bk_Q} (x1 : Int) (x2 : Int) (M : bk_M) : bk_wp (bk_C d) P_219 Q 0 14 [bk_c 12 0, bk_i x1, bk_i x2] [] M ↔ ((0 : Int) ≤ (2 : Int) ∧ (2 : Int) < (437 : Int)) ∧ ((M 58 0 (2 : Int) ≤ x2 → bk_r32 (x1 + (1 : Int)) ∧ bk_wp (bk_C d) P_219 Q 0 2 [bk_c 12 0, bk_i (x1 + (1 : Int)), bk_i x2] [] M) ∧ (¬ (M 58 0 (2 : Int) ≤ x2) → bk_r32 ((6 : Int) * x1) ∧ bk_r32 (((6 : Int) * x1) + x2) ∧ ((0 : Int) ≤ (5 : Int) ∧ (5 : Int) < (437 : Int)) ∧ bk_r32 ((M 58 0 (5 : Int)) + (1 : Int)) ∧ bk_C d 0 220 [bk_c 12 0, bk_i ((M 58 0 (5 : Int)) + (1 : Int))] M (fun t3 r1 M2 => t3 = 0 ∧ ((0 : Int) ≤ ((6 : Int) * x1) + x2 ∧ ((6 : Int) * x1) + x2 < (36 : Int)) ∧ ∀ M4 : bk_M, M4 = bk_up M2 69 0 (((6 : Int) * x1) + x2) r1 → bk_r32 (x2 + (1 : Int)) ∧ bk_wp (bk_C d) P_219 Q 0 14 [bk_c 12 0, bk_i x1, bk_i (x2 + (1 : Int))] [] M4))) := bk_iff [2, 14, 76, 127] 40
theorem L_219_76 {d : Nat} {Q : bk_Q} (x1 : Int) (x2 : Int) (M : bk_M) : bk_wp (bk_C d) P_219 Q 0 76 [bk_c 12 0, bk_i x1, bk_i x2] [] M ↔ ((0 : Int) ≤ (0 : Int) ∧ (0 : Int) < (437 : Int)) ∧ ((M 58 0 (0 : Int) ≤ x2 → bk_wp (bk_C d) P_219 Q 0 127 [bk_c 12 0, bk_i x1, bk_i (0 : Int)] [] M) ∧ (¬ (M 58 0 (0 : Int) ≤ x2) → bk_C d 0 194 [bk_c 12 0, bk_i x2] M (fun t3 r1 M2 => t3 = 0 ∧ bk_C d 0 222 [bk_c 12 0, bk_i x2] M2 (fun t6 r4 M5 => t6 = 0 ∧ ((r1 ≠ r4 → bk_r32 ((136 : Int) + x2) ∧ ((0 : Int) ≤ (136 : Int) + x2 ∧ (136 : Int) + x2 < (437 : Int)) ∧ bk_r32 ((M5 58 0 ((136 : Int) + x2)) + (1 : Int)) ∧ ((0 : Int) ≤ (136 : Int) + x2 ∧ (136 : Int) + x2 < (437 : Int)) ∧ ∀ M7 : bk_M, M7 = bk_up M5 58 0 ((136 : Int) + x2) ((M5 58 0 ((136 : Int) + x2)) + (1 : Int)) → bk_r32 (x1 + (1 : Int)) ∧ bk_r32 (x2 + (1 : Int)) ∧ bk_wp (bk_C d) P_219 Q 0 76 [bk_c 12 0, bk_i (x1 + (1 : Int)), bk_i (x2 + (1 : Int))] [] M7) ∧ (¬ (r1 ≠ r4) → bk_r32 (x2 + (1 : Int)) ∧ bk_wp (bk_C d) P_219 Q 0 76 [bk_c 12 0, bk_i x1, bk_i (x2 + (1 : Int))] [] M5)))))) := bk_iff [2, 14, 76, 127] 40
theorem L_219_127 {d : Nat} {Q : bk_Q} (x1 : Int) (x2 : Int) (M : bk_M) : bk_wp (bk_C d) P_219 Q 0 127 [bk_c 12 0, bk_i x1, bk_i x2] [] M ↔ ((0 : Int) ≤ (3 : Int) ∧ (3 : Int) < (437 : Int)) ∧ ((M 58 0 (3 : Int) ≤ x2 → bk_C d 0 223 [bk_c 12 0, bk_i (0 : Int)] M (fun t3 r1 M2 => t3 = 0 ∧ bk_C d 0 223 [bk_c 12 0, bk_i (1 : Int)] M2 (fun t6 r4 M5 => t6 = 0 ∧ ((0 : Int) ≤ (80 : Int) ∧ (80 : Int) < (437 : Int)) ∧ bk_r32 ((M5 58 0 (80 : Int)) + (1 : Int)) ∧ ((0 : Int) ≤ (80 : Int) ∧ (80 : Int) < (437 : Int)) ∧ ∀ M7 : bk_M, M7 = bk_up M5 58 0 (80 : Int) ((M5 58 0 (80 : Int)) + (1 : Int)) → Q 0 x1 M7))) ∧ (¬ (M 58 0 (3 : Int) ≤ x2) → bk_r32 ((121 : Int) + x2) ∧ ((0 : Int) ≤ x2 ∧ x2 < (6 : Int)) ∧ ((0 : Int) ≤ (121 : Int) + x2 ∧ (121 : Int) + x2 < (437 : Int)) ∧ ∀ M8 : bk_M, M8 = bk_up M 58 0 ((121 : Int) + x2) (M 71 0 x2) → bk_r32 (x2 + (1 : Int)) ∧ bk_wp (bk_C d) P_219 Q 0 127 [bk_c 12 0, bk_i x1, bk_i (x2 + (1 : Int))] [] M8)) := bk_iff [2, 14, 76, 127] 40
theorem E_220 {d : Nat} {Q : bk_Q} (a1 : Int) (M : bk_M) : bk_C (d + 1) 0 220 [bk_c 12 0, bk_i a1] M Q ↔ ∀ M1 : bk_M, M1 = bk_up M 12 0 (30 : Int) (bk_w32 ((bk_w32 ((M 12 0 (30 : Int)) * (1103515245 : Int))) + (12345 : Int))) → ((0 : Int) ≤ (8 : Int) ∧ (8 : Int) < 32) ∧ ((0 : Int) ≤ bk_ushr (M1 12 0 (30 : Int)) (8 : Int) ∧ (0 : Int) < a1) ∧ Q 0 ((bk_ushr (M1 12 0 (30 : Int)) (8 : Int)) % a1) M1 := bk_iff (d := d) (P := P_220) (b := 0) (l := 0) (ls := [bk_c 12 0, bk_i a1]) (st := []) (M := M) [] 40
theorem E_221 {d : Nat} {Q : bk_Q} (M : bk_M) : bk_C (d + 1) 0 221 [bk_c 12 0] M Q ↔ bk_wp (bk_C d) P_221 Q 0 3 [bk_c 12 0, bk_i (47 : Int)] [] M := bk_iff (d := d) (P := P_221) (b := 0) (l := 0) (ls := [bk_c 12 0, bk_x]) (st := []) (M := M) [3, 40] 40
theorem L_221_3 {d : Nat} {Q : bk_Q} (x1 : Int) (M : bk_M) : bk_wp (bk_C d) P_221 Q 0 3 [bk_c 12 0, bk_i x1] [] M ↔ ((x1 < (6 : Int) → bk_wp (bk_C d) P_221 Q 0 40 [bk_c 12 0, bk_i (0 : Int)] [] M) ∧ (¬ (x1 < (6 : Int)) → bk_r32 ((146 : Int) + x1) ∧ bk_r32 ((146 : Int) + x1) ∧ bk_r32 (((146 : Int) + x1) - (6 : Int)) ∧ ((0 : Int) ≤ ((146 : Int) + x1) - (6 : Int) ∧ ((146 : Int) + x1) - (6 : Int) < (437 : Int)) ∧ ((0 : Int) ≤ (146 : Int) + x1 ∧ (146 : Int) + x1 < (437 : Int)) ∧ ∀ M1 : bk_M, M1 = bk_up M 58 0 ((146 : Int) + x1) (M 58 0 (((146 : Int) + x1) - (6 : Int))) → bk_r32 (x1 + (-1 : Int)) ∧ bk_wp (bk_C d) P_221 Q 0 3 [bk_c 12 0, bk_i (x1 + (-1 : Int))] [] M1)) := bk_iff [3, 40] 40
theorem L_221_40 {d : Nat} {Q : bk_Q} (x1 : Int) (M : bk_M) : bk_wp (bk_C d) P_221 Q 0 40 [bk_c 12 0, bk_i x1] [] M ↔ (((6 : Int) ≤ x1 → ((0 : Int) ≤ (194 : Int) ∧ (194 : Int) < (437 : Int)) ∧ (((8 : Int) ≤ M 58 0 (194 : Int) → Q 0 0 M) ∧ (¬ ((8 : Int) ≤ M 58 0 (194 : Int)) → ((0 : Int) ≤ (194 : Int) ∧ (194 : Int) < (437 : Int)) ∧ bk_r32 ((M 58 0 (194 : Int)) + (1 : Int)) ∧ ((0 : Int) ≤ (194 : Int) ∧ (194 : Int) < (437 : Int)) ∧ ∀ M1 : bk_M, M1 = bk_up M 58 0 (194 : Int) ((M 58 0 (194 : Int)) + (1 : Int)) → Q 0 0 M1))) ∧ (¬ ((6 : Int) ≤ x1) → bk_r32 ((146 : Int) + x1) ∧ bk_r32 ((121 : Int) + x1) ∧ ((0 : Int) ≤ (121 : Int) + x1 ∧ (121 : Int) + x1 < (437 : Int)) ∧ ((0 : Int) ≤ (146 : Int) + x1 ∧ (146 : Int) + x1 < (437 : Int)) ∧ ∀ M2 : bk_M, M2 = bk_up M 58 0 ((146 : Int) + x1) (M 58 0 ((121 : Int) + x1)) → bk_r32 (x1 + (1 : Int)) ∧ bk_wp (bk_C d) P_221 Q 0 40 [bk_c 12 0, bk_i (x1 + (1 : Int))] [] M2)) := bk_iff [3, 40] 40
theorem E_222 {d : Nat} {Q : bk_Q} (a1 : Int) (M : bk_M) : bk_C (d + 1) 0 222 [bk_c 12 0, bk_i a1] M Q ↔ bk_r32 ((42 : Int) + a1) ∧ ((0 : Int) ≤ (42 : Int) + a1 ∧ (42 : Int) + a1 < (437 : Int)) ∧ bk_r32 ((52 : Int) + a1) ∧ ((0 : Int) ≤ (52 : Int) + a1 ∧ (52 : Int) + a1 < (437 : Int)) ∧ ((0 : Int) ≤ M 58 0 ((52 : Int) + a1) ∧ M 58 0 ((52 : Int) + a1) < (6 : Int)) ∧ bk_C d 0 196 [bk_i (M 58 0 ((42 : Int) + a1)), bk_i (M 71 0 (M 58 0 ((52 : Int) + a1)))] M (fun t3 r1 M2 => t3 = 0 ∧ Q 0 r1 M2) := bk_iff (d := d) (P := P_222) (b := 0) (l := 0) (ls := [bk_c 12 0, bk_i a1]) (st := []) (M := M) [] 40
theorem E_223 {d : Nat} {Q : bk_Q} (a1 : Int) (M : bk_M) : bk_C (d + 1) 0 223 [bk_c 12 0, bk_i a1] M Q ↔ bk_C d 0 204 [bk_c 12 0, bk_i a1] M (fun t3 r1 M2 => t3 = 0 ∧ bk_C d 0 205 [bk_c 12 0, bk_i r1] M2 (fun t6 r4 M5 => t6 = 0 ∧ ((0 : Int) ≤ r4 ∧ (0 : Int) < (4 : Int)) ∧ bk_wp (bk_C d) P_223 Q 0 14 [bk_c 12 0, bk_i a1, bk_i (r4 / (4 : Int)), bk_i (0 : Int)] [] M5)) := bk_iff (d := d) (P := P_223) (b := 0) (l := 0) (ls := [bk_c 12 0, bk_i a1, bk_x, bk_x]) (st := []) (M := M) [14] 40
theorem L_223_14 {d : Nat} {Q : bk_Q} (x1 : Int) (x2 : Int) (x3 : Int) (M : bk_M) : bk_wp (bk_C d) P_223 Q 0 14 [bk_c 12 0, bk_i x1, bk_i x2, bk_i x3] [] M ↔ ((0 : Int) ≤ (1 : Int) ∧ (1 : Int) < (437 : Int)) ∧ ((M 58 0 (1 : Int) ≤ x3 → bk_r32 ((81 : Int) + x1) ∧ bk_r32 ((81 : Int) + x1) ∧ ((0 : Int) ≤ (81 : Int) + x1 ∧ (81 : Int) + x1 < (437 : Int)) ∧ bk_r32 ((M 58 0 ((81 : Int) + x1)) + x2) ∧ bk_C d 0 158 [bk_i (999 : Int), bk_i ((M 58 0 ((81 : Int) + x1)) + x2)] M (fun t3 r1 M2 => t3 = 0 ∧ ((0 : Int) ≤ (81 : Int) + x1 ∧ (81 : Int) + x1 < (437 : Int)) ∧ ∀ M4 : bk_M, M4 = bk_up M2 58 0 ((81 : Int) + x1) r1 → Q 0 0 M4)) ∧ (¬ (M 58 0 (1 : Int) ≤ x3) → bk_r32 ((127 : Int) + x3) ∧ ((0 : Int) ≤ (127 : Int) + x3 ∧ (127 : Int) + x3 < (437 : Int)) ∧ bk_r32 ((130 : Int) + x3) ∧ ((0 : Int) ≤ (130 : Int) + x3 ∧ (130 : Int) + x3 < (437 : Int)) ∧ bk_C d 0 195 [bk_c 12 0, bk_i (M 58 0 ((127 : Int) + x3)), bk_i (M 58 0 ((130 : Int) + x3))] M (fun t7 r5 M6 => t7 = 0 ∧ ((r5 ≠ x1 → bk_r32 (x3 + (1 : Int)) ∧ bk_wp (bk_C d) P_223 Q 0 14 [bk_c 12 0, bk_i x1, bk_i x2, bk_i (x3 + (1 : Int))] [] M6) ∧ (¬ (r5 ≠ x1) → bk_r32 (x2 + (2 : Int)) ∧ bk_r32 (x3 + (1 : Int)) ∧ bk_wp (bk_C d) P_223 Q 0 14 [bk_c 12 0, bk_i x1, bk_i (x2 + (2 : Int)), bk_i (x3 + (1 : Int))] [] M6))))) := bk_iff [14] 40
theorem E_224 {d : Nat} {Q : bk_Q} (a1 : Int) (a2 : Int) (M : bk_M) : bk_C (d + 1) 0 224 [bk_c 12 0, bk_i a1, bk_i a2] M Q ↔ ∀ M1 : bk_M, M1 = bk_up M 12 0 (0 : Int) (0 : Int) → bk_C d 0 157 [bk_i a1, bk_i (1 : Int), bk_i (30 : Int)] M1 (fun t4 r2 M3 => t4 = 0 ∧ ((r2 ≠ (0 : Int) → ((0 : Int) ≤ (80 : Int) ∧ (80 : Int) < (437 : Int)) ∧ ((M3 58 0 (80 : Int) ≠ (400 : Int) → bk_C d 0 213 [bk_c 12 0] M3 (fun t7 r5 M6 => t7 = 0 ∧ bk_C d 0 225 [bk_c 12 0, bk_i a1, bk_i a2] M6 (fun t10 r8 M9 => t10 = 0 ∧ Q 0 r8 M9))) ∧ (¬ (M3 58 0 (80 : Int) ≠ (400 : Int)) → Q 0 (0 : Int) M3))) ∧ (¬ (r2 ≠ (0 : Int)) → Q 0 (-1 : Int) M3))) := bk_iff (d := d) (P := P_224) (b := 0) (l := 0) (ls := [bk_c 12 0, bk_i a1, bk_i a2]) (st := []) (M := M) [] 40
theorem E_225 {d : Nat} {Q : bk_Q} (a1 : Int) (a2 : Int) (M : bk_M) : bk_C (d + 1) 0 225 [bk_c 12 0, bk_i a1, bk_i a2] M Q ↔ ∀ M1 : bk_M, M1 = bk_up M 12 0 (30 : Int) a2 → ((0 : Int) ≤ (80 : Int) ∧ (80 : Int) < (437 : Int)) ∧ bk_r32 ((400 : Int) - (M1 58 0 (80 : Int))) ∧ bk_C d 0 158 [bk_i a1, bk_i ((400 : Int) - (M1 58 0 (80 : Int)))] M1 (fun t4 r2 M3 => t4 = 0 ∧ bk_wp (bk_C d) P_225 Q 0 24 [bk_c 12 0, bk_i a1, bk_i a2, bk_i r2, bk_i (0 : Int)] [] M3) := bk_iff (d := d) (P := P_225) (b := 0) (l := 0) (ls := [bk_c 12 0, bk_i a1, bk_i a2, bk_x, bk_x]) (st := []) (M := M) [24] 40
theorem L_225_24 {d : Nat} {Q : bk_Q} (x1 : Int) (x2 : Int) (x3 : Int) (x4 : Int) (M : bk_M) : bk_wp (bk_C d) P_225 Q 0 24 [bk_c 12 0, bk_i x1, bk_i x2, bk_i x3, bk_i x4] [] M ↔ ((x3 ≤ x4 → Q 0 x3 M) ∧ (¬ (x3 ≤ x4) → bk_C d 0 219 [bk_c 12 0] M (fun t3 r1 M2 => t3 = 0 ∧ bk_r32 (x4 + (1 : Int)) ∧ bk_wp (bk_C d) P_225 Q 0 24 [bk_c 12 0, bk_i x1, bk_i x2, bk_i x3, bk_i (x4 + (1 : Int))] [] M2))) := bk_iff [24] 40
theorem E_226 {d : Nat} {Q : bk_Q} (a1 : Int) (a2 : Int) (M : bk_M) : bk_C (d + 1) 0 226 [bk_c 12 0, bk_i a1, bk_i a2] M Q ↔ ∀ M1 : bk_M, M1 = bk_up M 12 0 (0 : Int) (0 : Int) → ((0 : Int) ≤ (194 : Int) ∧ (194 : Int) < (437 : Int)) ∧ bk_C d 0 157 [bk_i a1, bk_i (1 : Int), bk_i (M1 58 0 (194 : Int))] M1 (fun t4 r2 M3 => t4 = 0 ∧ ((r2 = (0 : Int) → Q 0 (-1 : Int) M3) ∧ (¬ (r2 = (0 : Int)) → bk_C d 0 202 [bk_c 12 0, bk_i a2] M3 (fun t7 r5 M6 => t7 = 0 ∧ ((r5 = (0 : Int) → Q 0 (-1 : Int) M6) ∧ (¬ (r5 = (0 : Int)) → bk_r32 (a1 - (1 : Int)) ∧ bk_r32 ((6 : Int) * (a1 - (1 : Int))) ∧ bk_r32 ((146 : Int) + ((6 : Int) * (a1 - (1 : Int)))) ∧ bk_r32 (((146 : Int) + ((6 : Int) * (a1 - (1 : Int)))) + a2) ∧ ((0 : Int) ≤ ((146 : Int) + ((6 : Int) * (a1 - (1 : Int)))) + a2 ∧ ((146 : Int) + ((6 : Int) * (a1 - (1 : Int)))) + a2 < (437 : Int)) ∧ Q 0 (M6 58 0 (((146 : Int) + ((6 : Int) * (a1 - (1 : Int)))) + a2)) M6)))))) := bk_iff (d := d) (P := P_226) (b := 0) (l := 0) (ls := [bk_c 12 0, bk_i a1, bk_i a2]) (st := []) (M := M) [] 40
theorem E_227 {d : Nat} {Q : bk_Q} (M : bk_M) : bk_C (d + 1) 0 227 [bk_c 12 0] M Q ↔ ∀ M1 : bk_M, M1 = bk_up M 12 0 (0 : Int) (0 : Int) → bk_C d 0 153 [bk_c 12 0] M1 (fun t4 r2 M3 => t4 = 0 ∧ Q 0 r2 M3) := bk_iff (d := d) (P := P_227) (b := 0) (l := 0) (ls := [bk_c 12 0]) (st := []) (M := M) [] 40
theorem E_228 {d : Nat} {Q : bk_Q} (a1 : Int) (M : bk_M) : bk_C (d + 1) 0 228 [bk_c 12 0, bk_i a1] M Q ↔ ∀ M1 : bk_M, M1 = bk_up M 12 0 (0 : Int) (0 : Int) → bk_C d 0 202 [bk_c 12 0, bk_i a1] M1 (fun t4 r2 M3 => t4 = 0 ∧ ((r2 ≠ (0 : Int) → bk_C d 0 153 [bk_c 12 0] M3 (fun t7 r5 M6 => t7 = 0 ∧ ((0 : Int) ≤ a1 ∧ a1 < (6 : Int)) ∧ Q 0 (M6 71 0 a1) M6)) ∧ (¬ (r2 ≠ (0 : Int)) → Q 0 (-1 : Int) M3))) := bk_iff (d := d) (P := P_228) (b := 0) (l := 0) (ls := [bk_c 12 0, bk_i a1]) (st := []) (M := M) [] 40
theorem E_229 {d : Nat} {Q : bk_Q} (a1 : Int) (M : bk_M) : bk_C (d + 1) 0 229 [bk_c 12 0, bk_i a1] M Q ↔ ∀ M1 : bk_M, M1 = bk_up M 12 0 (0 : Int) (0 : Int) → bk_C d 0 157 [bk_i a1, bk_i (0 : Int), bk_i (2 : Int)] M1 (fun t4 r2 M3 => t4 = 0 ∧ ((r2 ≠ (0 : Int) → bk_C d 0 153 [bk_c 12 0] M3 (fun t7 r5 M6 => t7 = 0 ∧ bk_C d 0 230 [bk_c 12 0, bk_i a1] M6 (fun t10 r8 M9 => t10 = 0 ∧ Q 0 r8 M9))) ∧ (¬ (r2 ≠ (0 : Int)) → Q 0 (-1 : Int) M3))) := bk_iff (d := d) (P := P_229) (b := 0) (l := 0) (ls := [bk_c 12 0, bk_i a1]) (st := []) (M := M) [] 40
theorem E_230 {d : Nat} {Q : bk_Q} (a1 : Int) (M : bk_M) : bk_C (d + 1) 0 230 [bk_c 12 0, bk_i a1] M Q ↔ bk_wp (bk_C d) P_230 Q 0 4 [bk_c 12 0, bk_i a1, bk_i (0 : Int), bk_i (0 : Int)] [] M := bk_iff (d := d) (P := P_230) (b := 0) (l := 0) (ls := [bk_c 12 0, bk_i a1, bk_x, bk_x]) (st := []) (M := M) [4] 40
theorem L_230_4 {d : Nat} {Q : bk_Q} (x1 : Int) (x2 : Int) (x3 : Int) (M : bk_M) : bk_wp (bk_C d) P_230 Q 0 4 [bk_c 12 0, bk_i x1, bk_i x2, bk_i x3] [] M ↔ ((0 : Int) ≤ (0 : Int) ∧ (0 : Int) < (437 : Int)) ∧ ((M 58 0 (0 : Int) ≤ x3 → Q 0 x2 M) ∧ (¬ (M 58 0 (0 : Int) ≤ x3) → bk_C d 0 222 [bk_c 12 0, bk_i x3] M (fun t3 r1 M2 => t3 = 0 ∧ ((r1 ≠ x1 → bk_r32 (x3 + (1 : Int)) ∧ bk_wp (bk_C d) P_230 Q 0 4 [bk_c 12 0, bk_i x1, bk_i x2, bk_i (x3 + (1 : Int))] [] M2) ∧ (¬ (r1 ≠ x1) → ((0 : Int) ≤ x3 ∧ x3 < 32 ∧ bk_r32 ((1 : Int) * 2 ^ x3.toNat)) ∧ bk_r32 (x3 + (1 : Int)) ∧ bk_wp (bk_C d) P_230 Q 0 4 [bk_c 12 0, bk_i x1, bk_i (bk_or x2 ((1 : Int) * 2 ^ x3.toNat)), bk_i (x3 + (1 : Int))] [] M2))))) := bk_iff [4] 40
theorem E_231 {d : Nat} {Q : bk_Q} (a1 : Int) (a2 : Int) (a3 : Int) (M : bk_M) : bk_C (d + 1) 0 231 [bk_c 12 0, bk_i a1, bk_i a2, bk_i a3] M Q ↔ ∀ M1 : bk_M, M1 = bk_up M 12 0 (0 : Int) (0 : Int) → bk_C d 0 192 [bk_c 12 0, bk_i a1] M1 (fun t4 r2 M3 => t4 = 0 ∧ ((r2 = (0 : Int) → Q 0 (-1 : Int) M3) ∧ (¬ (r2 = (0 : Int)) → bk_C d 0 157 [bk_i a2, bk_i (0 : Int), bk_i (1 : Int)] M3 (fun t7 r5 M6 => t7 = 0 ∧ ((r5 = (0 : Int) → Q 0 (-1 : Int) M6) ∧ (¬ (r5 = (0 : Int)) → bk_C d 0 157 [bk_i a3, bk_i (0 : Int), bk_i (1 : Int)] M6 (fun t10 r8 M9 => t10 = 0 ∧ ((r8 ≠ (0 : Int) → bk_wp (bk_C d) P_231 Q 0 36 [bk_c 12 0, bk_i a1, bk_i a2, bk_i a3, bk_i (0 : Int), bk_x] [] M9) ∧ (¬ (r8 ≠ (0 : Int)) → Q 0 (-1 : Int) M9))))))))) := bk_iff (d := d) (P := P_231) (b := 0) (l := 0) (ls := [bk_c 12 0, bk_i a1, bk_i a2, bk_i a3, bk_x, bk_x]) (st := []) (M := M) [36, 68] 40
theorem L_231_36 {d : Nat} {Q : bk_Q} (x1 : Int) (x2 : Int) (x3 : Int) (x4 : Int) (M : bk_M) : bk_wp (bk_C d) P_231 Q 0 36 [bk_c 12 0, bk_i x1, bk_i x2, bk_i x3, bk_i x4, bk_x] [] M ↔ (((3 : Int) < x4 → Q 0 (-1 : Int) M) ∧ (¬ ((3 : Int) < x4) → bk_C d 0 232 [bk_c 12 0, bk_i (0 : Int), bk_i x4, bk_i (0 : Int), bk_i x1, bk_i x2, bk_i x3] M (fun t3 r1 M2 => t3 = 0 ∧ ((r1 ≠ (0 : Int) → ∀ M4 : bk_M, M4 = bk_up M2 12 0 (33 : Int) x4 → bk_wp (bk_C d) P_231 Q 0 68 [bk_c 12 0, bk_i x1, bk_i x2, bk_i x3, bk_i x4, bk_i (0 : Int)] [] M4) ∧ (¬ (r1 ≠ (0 : Int)) → bk_r32 (x4 + (1 : Int)) ∧ bk_wp (bk_C d) P_231 Q 0 36 [bk_c 12 0, bk_i x1, bk_i x2, bk_i x3, bk_i (x4 + (1 : Int)), bk_x] [] M2))))) := bk_iff [36, 68] 40
theorem L_231_68 {d : Nat} {Q : bk_Q} (x1 : Int) (x2 : Int) (x3 : Int) (x4 : Int) (x5 : Int) (M : bk_M) : bk_wp (bk_C d) P_231 Q 0 68 [bk_c 12 0, bk_i x1, bk_i x2, bk_i x3, bk_i x4, bk_i x5] [] M ↔ ((x4 ≤ x5 → Q 0 x4 M) ∧ (¬ (x4 ≤ x5) → ((0 : Int) ≤ x5 ∧ x5 < (3 : Int)) ∧ ((0 : Int) ≤ x5 ∧ x5 < (3 : Int)) ∧ ∀ M1 : bk_M, M1 = bk_up M 73 0 x5 (M 72 0 x5) → bk_r32 (x5 + (1 : Int)) ∧ bk_wp (bk_C d) P_231 Q 0 68 [bk_c 12 0, bk_i x1, bk_i x2, bk_i x3, bk_i x4, bk_i (x5 + (1 : Int))] [] M1)) := bk_iff [36, 68] 40
theorem E_232 {d : Nat} {Q : bk_Q} (a1 : Int) (a2 : Int) (a3 : Int) (a4 : Int) (a5 : Int) (a6 : Int) (M : bk_M) : bk_C (d + 1) 0 232 [bk_c 12 0, bk_i a1, bk_i a2, bk_i a3, bk_i a4, bk_i a5, bk_i a6] M Q ↔ ((a1 ≠ a2 → bk_wp (bk_C d) P_232 Q 0 30 [bk_c 12 0, bk_i a1, bk_i a2, bk_i a3, bk_i a4, bk_i a5, bk_i a6, bk_i a3, bk_x, bk_x, bk_x, bk_x] [] M) ∧ (¬ (a1 ≠ a2) → bk_C d 0 153 [bk_c 12 0] M (fun t3 r1 M2 => t3 = 0 ∧ bk_C d 0 222 [bk_c 12 0, bk_i a4] M2 (fun t6 r4 M5 => t6 = 0 ∧ ((r4 ≠ a5 → ((0 : Int) = 0 ∨ (0 : Int) = 1) ∧ Q 0 (0 : Int) M5) ∧ (¬ (r4 ≠ a5) → ((1 : Int) = 0 ∨ (1 : Int) = 1) ∧ Q 0 (1 : Int) M5)))))) := bk_iff (d := d) (P := P_232) (b := 0) (l := 0) (ls := [bk_c 12 0, bk_i a1, bk_i a2, bk_i a3, bk_i a4, bk_i a5, bk_i a6, bk_x, bk_x, bk_x, bk_x, bk_x]) (st := []) (M := M) [30] 40
set_option maxRecDepth 20000 in
theorem L_232_30 {d : Nat} {Q : bk_Q} (x1 : Int) (x2 : Int) (x3 : Int) (x4 : Int) (x5 : Int) (x6 : Int) (x7 : Int) (M : bk_M) : bk_wp (bk_C d) P_232 Q 0 30 [bk_c 12 0, bk_i x1, bk_i x2, bk_i x3, bk_i x4, bk_i x5, bk_i x6, bk_i x7, bk_x, bk_x, bk_x, bk_x] [] M ↔ (((36 : Int) ≤ x7 → ((0 : Int) = 0 ∨ (0 : Int) = 1) ∧ Q 0 (0 : Int) M) ∧ (¬ ((36 : Int) ≤ x7) → ((0 : Int) ≤ x7 ∧ (0 : Int) < (6 : Int)) ∧ ((0 : Int) ≤ x7 ∧ (0 : Int) < (6 : Int)) ∧ bk_C d 0 156 [bk_c 12 0, bk_i (x7 % (6 : Int)), bk_i (x7 / (6 : Int))] M (fun t3 r1 M2 => t3 = 0 ∧ ((r1 = (0 : Int) → bk_r32 (x7 + (1 : Int)) ∧ bk_wp (bk_C d) P_232 Q 0 30 [bk_c 12 0, bk_i x1, bk_i x2, bk_i x3, bk_i x4, bk_i x5, bk_i x6, bk_i (x7 + (1 : Int)), bk_i (x7 % (6 : Int)), bk_i (x7 / (6 : Int)), bk_x, bk_x] [] M2) ∧ (¬ (r1 = (0 : Int)) → bk_C d 0 212 [bk_c 12 0, bk_i x6, bk_i x5, bk_i (x7 % (6 : Int)), bk_i (x7 / (6 : Int))] M2 (fun t6 r4 M5 => t6 = 0 ∧ ((r4 ≠ (0 : Int) → ((x6 ≠ (0 : Int) → bk_r32 ((85 : Int) + x7) ∧ ((0 : Int) ≤ (85 : Int) + x7 ∧ (85 : Int) + x7 < (437 : Int)) ∧ bk_r32 ((M5 58 0 ((85 : Int) + x7)) + (1 : Int)) ∧ ((0 : Int) ≤ (85 : Int) + x7 ∧ (85 : Int) + x7 < (437 : Int)) ∧ ∀ M7 : bk_M, M7 = bk_up M5 58 0 ((85 : Int) + x7) ((M5 58 0 ((85 : Int) + x7)) + (1 : Int)) → ((0 : Int) ≤ x1 ∧ x1 < (3 : Int)) ∧ ∀ M8 : bk_M, M8 = bk_up M7 72 0 x1 x7 → bk_r32 (x1 + (1 : Int)) ∧ bk_r32 (x7 + (1 : Int)) ∧ bk_C d 0 232 [bk_c 12 0, bk_i (x1 + (1 : Int)), bk_i x2, bk_i (x7 + (1 : Int)), bk_i x4, bk_i x5, bk_i x6] M8 (fun t11 r9 M10 => t11 = 0 ∧ bk_r32 ((85 : Int) + x7) ∧ ((0 : Int) ≤ (85 : Int) + x7 ∧ (85 : Int) + x7 < (437 : Int)) ∧ bk_r32 ((M10 58 0 ((85 : Int) + x7)) - (1 : Int)) ∧ ((0 : Int) ≤ (85 : Int) + x7 ∧ (85 : Int) + x7 < (437 : Int)) ∧ ∀ M12 : bk_M, M12 = bk_up M10 58 0 ((85 : Int) + x7) ((M10 58 0 ((85 : Int) + x7)) - (1 : Int)) → ((r9 = (0 : Int) → bk_r32 (x7 + (1 : Int)) ∧ bk_wp (bk_C d) P_232 Q 0 30 [bk_c 12 0, bk_i x1, bk_i x2, bk_i x3, bk_i x4, bk_i x5, bk_i x6, bk_i (x7 + (1 : Int)), bk_i (x7 % (6 : Int)), bk_i (x7 / (6 : Int)), bk_i (1 : Int), bk_i r9] [] M12) ∧ (¬ (r9 = (0 : Int)) → ((1 : Int) = 0 ∨ (1 : Int) = 1) ∧ Q 0 (1 : Int) M12)))) ∧ (¬ (x6 ≠ (0 : Int)) → bk_r32 ((85 : Int) + x7) ∧ ((0 : Int) ≤ (85 : Int) + x7 ∧ (85 : Int) + x7 < (437 : Int)) ∧ bk_r32 ((M5 58 0 ((85 : Int) + x7)) + (-1 : Int)) ∧ ((0 : Int) ≤ (85 : Int) + x7 ∧ (85 : Int) + x7 < (437 : Int)) ∧ ∀ M13 : bk_M, M13 = bk_up M5 58 0 ((85 : Int) + x7) ((M5 58 0 ((85 : Int) + x7)) + (-1 : Int)) → ((0 : Int) ≤ x1 ∧ x1 < (3 : Int)) ∧ ∀ M14 : bk_M, M14 = bk_up M13 72 0 x1 x7 → bk_r32 (x1 + (1 : Int)) ∧ bk_r32 (x7 + (1 : Int)) ∧ bk_C d 0 232 [bk_c 12 0, bk_i (x1 + (1 : Int)), bk_i x2, bk_i (x7 + (1 : Int)), bk_i x4, bk_i x5, bk_i x6] M14 (fun t17 r15 M16 => t17 = 0 ∧ bk_r32 ((85 : Int) + x7) ∧ ((0 : Int) ≤ (85 : Int) + x7 ∧ (85 : Int) + x7 < (437 : Int)) ∧ bk_r32 ((M16 58 0 ((85 : Int) + x7)) - (-1 : Int)) ∧ ((0 : Int) ≤ (85 : Int) + x7 ∧ (85 : Int) + x7 < (437 : Int)) ∧ ∀ M18 : bk_M, M18 = bk_up M16 58 0 ((85 : Int) + x7) ((M16 58 0 ((85 : Int) + x7)) - (-1 : Int)) → ((r15 = (0 : Int) → bk_r32 (x7 + (1 : Int)) ∧ bk_wp (bk_C d) P_232 Q 0 30 [bk_c 12 0, bk_i x1, bk_i x2, bk_i x3, bk_i x4, bk_i x5, bk_i x6, bk_i (x7 + (1 : Int)), bk_i (x7 % (6 : Int)), bk_i (x7 / (6 : Int)), bk_i (-1 : Int), bk_i r15] [] M18) ∧ (¬ (r15 = (0 : Int)) → ((1 : Int) = 0 ∨ (1 : Int) = 1) ∧ Q 0 (1 : Int) M18)))))) ∧ (¬ (r4 ≠ (0 : Int)) → bk_r32 (x7 + (1 : Int)) ∧ bk_wp (bk_C d) P_232 Q 0 30 [bk_c 12 0, bk_i x1, bk_i x2, bk_i x3, bk_i x4, bk_i x5, bk_i x6, bk_i (x7 + (1 : Int)), bk_i (x7 % (6 : Int)), bk_i (x7 / (6 : Int)), bk_x, bk_x] [] M5)))))))) := bk_iff [30] 40
theorem E_233 {d : Nat} {Q : bk_Q} (a1 : Int) (M : bk_M) : bk_C (d + 1) 0 233 [bk_c 12 0, bk_i a1] M Q ↔ ∀ M1 : bk_M, M1 = bk_up M 12 0 (0 : Int) (0 : Int) → bk_r32 ((M1 12 0 (33 : Int)) - (1 : Int)) ∧ bk_C d 0 157 [bk_i a1, bk_i (0 : Int), bk_i ((M1 12 0 (33 : Int)) - (1 : Int))] M1 (fun t4 r2 M3 => t4 = 0 ∧ ((r2 = (0 : Int) → Q 0 (-1 : Int) M3) ∧ (¬ (r2 = (0 : Int)) → ((0 : Int) ≤ a1 ∧ a1 < (3 : Int)) ∧ Q 0 (M3 73 0 a1) M3))) := bk_iff (d := d) (P := P_233) (b := 0) (l := 0) (ls := [bk_c 12 0, bk_i a1]) (st := []) (M := M) [] 40
theorem E_234 {d : Nat} {Q : bk_Q} (a1 : Int) (M : bk_M) : bk_C (d + 1) 0 234 [bk_c 12 0, bk_i a1] M Q ↔ ∀ M1 : bk_M, M1 = bk_up M 12 0 (0 : Int) (0 : Int) → bk_C d 0 157 [bk_i a1, bk_i (0 : Int), bk_i (1 : Int)] M1 (fun t4 r2 M3 => t4 = 0 ∧ ((r2 ≠ (0 : Int) → bk_C d 0 235 [bk_c 12 0, bk_i a1] M3 (fun t7 r5 M6 => t7 = 0 ∧ ((0 : Int) ≤ (0 : Int) ∧ (0 : Int) < (2 : Int)) ∧ ∀ M8 : bk_M, M8 = bk_up M6 74 0 (0 : Int) (-2 : Int) → ((0 : Int) ≤ (1 : Int) ∧ (1 : Int) < (2 : Int)) ∧ ∀ M9 : bk_M, M9 = bk_up M8 74 0 (1 : Int) (M8 12 0 (36 : Int)) → ((1 : Int) = 0 ∨ (1 : Int) = 1) ∧ ∀ M10 : bk_M, M10 = bk_up M9 12 0 (35 : Int) (1 : Int) → bk_r32 ((81 : Int) + a1) ∧ ((0 : Int) ≤ (81 : Int) + a1 ∧ (81 : Int) + a1 < (437 : Int)) ∧ ((M10 58 0 ((81 : Int) + a1) ≠ (0 : Int) → bk_wp (bk_C d) P_234 Q 0 64 [bk_c 12 0, bk_i a1, bk_i r5, bk_i (0 : Int), bk_x] [] M10) ∧ (¬ (M10 58 0 ((81 : Int) + a1) ≠ (0 : Int)) → Q 0 r5 M10)))) ∧ (¬ (r2 ≠ (0 : Int)) → bk_C d 0 193 [bk_c 12 0] M3 (fun t13 r11 M12 => t13 = 0 ∧ Q 0 r11 M12)))) := bk_iff (d := d) (P := P_234) (b := 0) (l := 0) (ls := [bk_c 12 0, bk_i a1, bk_x, bk_x, bk_x]) (st := []) (M := M) [64] 40
set_option maxRecDepth 20000 in
theorem L_234_64 {d : Nat} {Q : bk_Q} (x1 : Int) (x2 : Int) (x3 : Int) (M : bk_M) : bk_wp (bk_C d) P_234 Q 0 64 [bk_c 12 0, bk_i x1, bk_i x2, bk_i x3, bk_x] [] M ↔ (((72 : Int) ≤ x3 → Q 0 x2 M) ∧ (¬ ((72 : Int) ≤ x3) → bk_C d 0 237 [bk_c 12 0, bk_i x3, bk_i x1] M (fun t3 r1 M2 => t3 = 0 ∧ ((r1 ≠ (0 : Int) → ((0 : Int) ≤ x3 ∧ (0 : Int) < (36 : Int)) ∧ bk_r32 ((85 : Int) + (x3 % (36 : Int))) ∧ ((0 : Int) ≤ (85 : Int) + (x3 % (36 : Int)) ∧ (85 : Int) + (x3 % (36 : Int)) < (437 : Int)) ∧ bk_C d 0 238 [bk_i x3] M2 (fun t6 r4 M5 => t6 = 0 ∧ bk_r32 ((M2 58 0 ((85 : Int) + (x3 % (36 : Int)))) + r4) ∧ ((0 : Int) ≤ (85 : Int) + (x3 % (36 : Int)) ∧ (85 : Int) + (x3 % (36 : Int)) < (437 : Int)) ∧ ∀ M7 : bk_M, M7 = bk_up M5 58 0 ((85 : Int) + (x3 % (36 : Int))) ((M2 58 0 ((85 : Int) + (x3 % (36 : Int)))) + r4) → bk_C d 0 235 [bk_c 12 0, bk_i x1] M7 (fun t10 r8 M9 => t10 = 0 ∧ ((0 : Int) ≤ x3 ∧ (0 : Int) < (36 : Int)) ∧ bk_r32 ((85 : Int) + (x3 % (36 : Int))) ∧ ((0 : Int) ≤ (85 : Int) + (x3 % (36 : Int)) ∧ (85 : Int) + (x3 % (36 : Int)) < (437 : Int)) ∧ bk_C d 0 238 [bk_i x3] M9 (fun t13 r11 M12 => t13 = 0 ∧ bk_r32 ((M9 58 0 ((85 : Int) + (x3 % (36 : Int)))) - r11) ∧ ((0 : Int) ≤ (85 : Int) + (x3 % (36 : Int)) ∧ (85 : Int) + (x3 % (36 : Int)) < (437 : Int)) ∧ ∀ M14 : bk_M, M14 = bk_up M12 58 0 ((85 : Int) + (x3 % (36 : Int))) ((M9 58 0 ((85 : Int) + (x3 % (36 : Int)))) - r11) → ((x2 < r8 → ((0 : Int) ≤ (0 : Int) ∧ (0 : Int) < (2 : Int)) ∧ ∀ M15 : bk_M, M15 = bk_up M14 74 0 (0 : Int) x3 → ((0 : Int) ≤ (1 : Int) ∧ (1 : Int) < (2 : Int)) ∧ ∀ M16 : bk_M, M16 = bk_up M15 74 0 (1 : Int) (M15 12 0 (36 : Int)) → bk_r32 (x3 + (1 : Int)) ∧ bk_wp (bk_C d) P_234 Q 0 64 [bk_c 12 0, bk_i x1, bk_i r8, bk_i (x3 + (1 : Int)), bk_i r8] [] M16) ∧ (¬ (x2 < r8) → bk_r32 (x3 + (1 : Int)) ∧ bk_wp (bk_C d) P_234 Q 0 64 [bk_c 12 0, bk_i x1, bk_i x2, bk_i (x3 + (1 : Int)), bk_i r8] [] M14)))))) ∧ (¬ (r1 ≠ (0 : Int)) → bk_r32 (x3 + (1 : Int)) ∧ bk_wp (bk_C d) P_234 Q 0 64 [bk_c 12 0, bk_i x1, bk_i x2, bk_i (x3 + (1 : Int)), bk_x] [] M2))))) := bk_iff [64] 40
theorem E_235 {d : Nat} {Q : bk_Q} (a1 : Int) (M : bk_M) : bk_C (d + 1) 0 235 [bk_c 12 0, bk_i a1] M Q ↔ bk_C d 0 236 [bk_c 12 0, bk_i a1] M (fun t3 r1 M2 => t3 = 0 ∧ ∀ M4 : bk_M, M4 = bk_up M2 12 0 (36 : Int) (-2 : Int) → bk_r32 ((82 : Int) - a1) ∧ ((0 : Int) ≤ (82 : Int) - a1 ∧ (82 : Int) - a1 < (437 : Int)) ∧ ((M4 58 0 ((82 : Int) - a1) ≠ (0 : Int) → bk_wp (bk_C d) P_235 Q 0 28 [bk_c 12 0, bk_i a1, bk_i r1, bk_i (0 : Int), bk_x] [] M4) ∧ (¬ (M4 58 0 ((82 : Int) - a1) ≠ (0 : Int)) → Q 0 r1 M4))) := bk_iff (d := d) (P := P_235) (b := 0) (l := 0) (ls := [bk_c 12 0, bk_i a1, bk_x, bk_x, bk_x]) (st := []) (M := M) [28] 40
theorem L_235_28 {d : Nat} {Q : bk_Q} (x1 : Int) (x2 : Int) (x3 : Int) (M : bk_M) : bk_wp (bk_C d) P_235 Q 0 28 [bk_c 12 0, bk_i x1, bk_i x2, bk_i x3, bk_x] [] M ↔ (((72 : Int) ≤ x3 → Q 0 x2 M) ∧ (¬ ((72 : Int) ≤ x3) → bk_r32 ((1 : Int) - x1) ∧ bk_C d 0 237 [bk_c 12 0, bk_i x3, bk_i ((1 : Int) - x1)] M (fun t3 r1 M2 => t3 = 0 ∧ ((r1 ≠ (0 : Int) → ((0 : Int) ≤ x3 ∧ (0 : Int) < (36 : Int)) ∧ bk_r32 ((85 : Int) + (x3 % (36 : Int))) ∧ ((0 : Int) ≤ (85 : Int) + (x3 % (36 : Int)) ∧ (85 : Int) + (x3 % (36 : Int)) < (437 : Int)) ∧ bk_C d 0 238 [bk_i x3] M2 (fun t6 r4 M5 => t6 = 0 ∧ bk_r32 ((M2 58 0 ((85 : Int) + (x3 % (36 : Int)))) + r4) ∧ ((0 : Int) ≤ (85 : Int) + (x3 % (36 : Int)) ∧ (85 : Int) + (x3 % (36 : Int)) < (437 : Int)) ∧ ∀ M7 : bk_M, M7 = bk_up M5 58 0 ((85 : Int) + (x3 % (36 : Int))) ((M2 58 0 ((85 : Int) + (x3 % (36 : Int)))) + r4) → bk_C d 0 236 [bk_c 12 0, bk_i x1] M7 (fun t10 r8 M9 => t10 = 0 ∧ ((0 : Int) ≤ x3 ∧ (0 : Int) < (36 : Int)) ∧ bk_r32 ((85 : Int) + (x3 % (36 : Int))) ∧ ((0 : Int) ≤ (85 : Int) + (x3 % (36 : Int)) ∧ (85 : Int) + (x3 % (36 : Int)) < (437 : Int)) ∧ bk_C d 0 238 [bk_i x3] M9 (fun t13 r11 M12 => t13 = 0 ∧ bk_r32 ((M9 58 0 ((85 : Int) + (x3 % (36 : Int)))) - r11) ∧ ((0 : Int) ≤ (85 : Int) + (x3 % (36 : Int)) ∧ (85 : Int) + (x3 % (36 : Int)) < (437 : Int)) ∧ ∀ M14 : bk_M, M14 = bk_up M12 58 0 ((85 : Int) + (x3 % (36 : Int))) ((M9 58 0 ((85 : Int) + (x3 % (36 : Int)))) - r11) → ((r8 < x2 → ∀ M15 : bk_M, M15 = bk_up M14 12 0 (36 : Int) x3 → bk_r32 (x3 + (1 : Int)) ∧ bk_wp (bk_C d) P_235 Q 0 28 [bk_c 12 0, bk_i x1, bk_i r8, bk_i (x3 + (1 : Int)), bk_i r8] [] M15) ∧ (¬ (r8 < x2) → bk_r32 (x3 + (1 : Int)) ∧ bk_wp (bk_C d) P_235 Q 0 28 [bk_c 12 0, bk_i x1, bk_i x2, bk_i (x3 + (1 : Int)), bk_i r8] [] M14)))))) ∧ (¬ (r1 ≠ (0 : Int)) → bk_r32 (x3 + (1 : Int)) ∧ bk_wp (bk_C d) P_235 Q 0 28 [bk_c 12 0, bk_i x1, bk_i x2, bk_i (x3 + (1 : Int)), bk_x] [] M2))))) := bk_iff [28] 40
theorem E_236 {d : Nat} {Q : bk_Q} (a1 : Int) (M : bk_M) : bk_C (d + 1) 0 236 [bk_c 12 0, bk_i a1] M Q ↔ bk_C d 0 153 [bk_c 12 0] M (fun t3 r1 M2 => t3 = 0 ∧ bk_C d 0 230 [bk_c 12 0, bk_i a1] M2 (fun t6 r4 M5 => t6 = 0 ∧ bk_C d 0 205 [bk_c 12 0, bk_i r4] M5 (fun t9 r7 M8 => t9 = 0 ∧ bk_r32 ((1 : Int) - a1) ∧ bk_C d 0 230 [bk_c 12 0, bk_i ((1 : Int) - a1)] M8 (fun t12 r10 M11 => t12 = 0 ∧ bk_C d 0 205 [bk_c 12 0, bk_i r10] M11 (fun t15 r13 M14 => t15 = 0 ∧ bk_r32 (r7 - r13) ∧ Q 0 (r7 - r13) M14))))) := bk_iff (d := d) (P := P_236) (b := 0) (l := 0) (ls := [bk_c 12 0, bk_i a1]) (st := []) (M := M) [] 40
theorem E_237 {d : Nat} {Q : bk_Q} (a1 : Int) (a2 : Int) (M : bk_M) : bk_C (d + 1) 0 237 [bk_c 12 0, bk_i a1, bk_i a2] M Q ↔ ((0 : Int) ≤ a1 ∧ (0 : Int) < (36 : Int)) ∧ ((0 : Int) ≤ a1 % (36 : Int) ∧ (0 : Int) < (6 : Int)) ∧ ((0 : Int) ≤ a1 % (36 : Int) ∧ (0 : Int) < (6 : Int)) ∧ bk_C d 0 156 [bk_c 12 0, bk_i ((a1 % (36 : Int)) % (6 : Int)), bk_i ((a1 % (36 : Int)) / (6 : Int))] M (fun t3 r1 M2 => t3 = 0 ∧ ((r1 = (0 : Int) → ((0 : Int) = 0 ∨ (0 : Int) = 1) ∧ Q 0 (0 : Int) M2) ∧ (¬ (r1 = (0 : Int)) → ((0 : Int) ≤ a1 ∧ (0 : Int) < (36 : Int)) ∧ ((0 : Int) ≤ a1 % (36 : Int) ∧ (0 : Int) < (6 : Int)) ∧ ((0 : Int) ≤ a1 % (36 : Int) ∧ (0 : Int) < (6 : Int)) ∧ bk_C d 0 212 [bk_c 12 0, bk_i (a1 / (36 : Int)), bk_i a2, bk_i ((a1 % (36 : Int)) % (6 : Int)), bk_i ((a1 % (36 : Int)) / (6 : Int))] M2 (fun t6 r4 M5 => t6 = 0 ∧ ((r4 = (0 : Int) → ((0 : Int) = 0 ∨ (0 : Int) = 1) ∧ Q 0 (0 : Int) M5) ∧ (¬ (r4 = (0 : Int)) → ((1 : Int) = 0 ∨ (1 : Int) = 1) ∧ Q 0 (1 : Int) M5)))))) := bk_iff (d := d) (P := P_237) (b := 0) (l := 0) (ls := [bk_c 12 0, bk_i a1, bk_i a2, bk_x]) (st := []) (M := M) [] 40
theorem E_238 {d : Nat} {Q : bk_Q} (a0 : Int) (M : bk_M) : bk_C (d + 1) 0 238 [bk_i a0] M Q ↔ (((36 : Int) ≤ a0 → Q 0 (1 : Int) M) ∧ (¬ ((36 : Int) ≤ a0) → Q 0 (-1 : Int) M)) := bk_iff (d := d) (P := P_238) (b := 0) (l := 0) (ls := [bk_i a0]) (st := []) (M := M) [] 40
theorem E_239 {d : Nat} {Q : bk_Q} (a1 : Int) (M : bk_M) : bk_C (d + 1) 0 239 [bk_c 12 0, bk_i a1] M Q ↔ ∀ M1 : bk_M, M1 = bk_up M 12 0 (0 : Int) (0 : Int) → ((M1 12 0 (35 : Int) = (0 : Int) → Q 0 (-1 : Int) M1) ∧ (¬ (M1 12 0 (35 : Int) = (0 : Int)) → bk_C d 0 157 [bk_i a1, bk_i (0 : Int), bk_i (1 : Int)] M1 (fun t4 r2 M3 => t4 = 0 ∧ ((r2 = (0 : Int) → Q 0 (-1 : Int) M3) ∧ (¬ (r2 = (0 : Int)) → ((0 : Int) ≤ a1 ∧ a1 < (2 : Int)) ∧ Q 0 (M3 74 0 a1) M3))))) := bk_iff (d := d) (P := P_239) (b := 0) (l := 0) (ls := [bk_c 12 0, bk_i a1]) (st := []) (M := M) [] 40
theorem GE_183 {k1 : Nat} (hk1 : k1 = 64 ∨ k1 = 63) {d : Nat} {Q : bk_Q} (a1 : Int) (a2 : Int) (a3 : Int) (M : bk_M) : bk_C (d + 1) 0 183 [bk_c k1 0, bk_i a1, bk_i a2, bk_l a3] M Q ↔ bk_wp (bk_C d) P_183 Q 0 3 [bk_c k1 0, bk_i a1, bk_i a2, bk_l a3, bk_x, bk_i (0 : Int)] [] M := by
  rcases hk1 with rfl | rfl
  · exact E_183k64 a1 a2 a3 M
  · exact E_183k63 a1 a2 a3 M
theorem GL_183_3 {k1 : Nat} (hk1 : k1 = 64 ∨ k1 = 63) {d : Nat} {Q : bk_Q} (x1 : Int) (x2 : Int) (x3 : Int) (x5 : Int) (M : bk_M) : bk_wp (bk_C d) P_183 Q 0 3 [bk_c k1 0, bk_i x1, bk_i x2, bk_l x3, bk_x, bk_i x5] [] M ↔ ((x2 ≤ x5 → Q 0 (-1 : Int) M) ∧ (¬ (x2 ≤ x5) → bk_r32 (x1 + x5) ∧ ((0 : Int) ≤ x1 + x5 ∧ x1 + x5 < (13 : Int)) ∧ ((bk_lcmp (M k1 0 (x1 + x5)) x3 ≠ (0 : Int) → bk_r32 (x5 + (1 : Int)) ∧ bk_wp (bk_C d) P_183 Q 0 3 [bk_c k1 0, bk_i x1, bk_i x2, bk_l x3, bk_x, bk_i (x5 + (1 : Int))] [] M) ∧ (¬ (bk_lcmp (M k1 0 (x1 + x5)) x3 ≠ (0 : Int)) → Q 0 x5 M)))) := by
  rcases hk1 with rfl | rfl
  · exact L_183_3k64 x1 x2 x3 x5 M
  · exact L_183_3k63 x1 x2 x3 x5 M
end
section
theorem E_240 {d : Nat} {Q : bk_Q} (a1 : Int) (a2 : Int) (M : bk_M) : bk_C (d + 1) 0 240 [bk_c 12 0, bk_i a1, bk_i a2] M Q ↔ ∀ M1 : bk_M, M1 = bk_up M 12 0 (0 : Int) (0 : Int) → bk_C d 0 157 [bk_i a1, bk_i (0 : Int), bk_i (1 : Int)] M1 (fun t4 r2 M3 => t4 = 0 ∧ ((r2 = (0 : Int) → Q 0 (-1 : Int) M3) ∧ (¬ (r2 = (0 : Int)) → bk_C d 0 157 [bk_i a2, bk_i (0 : Int), bk_i (2 : Int)] M3 (fun t7 r5 M6 => t7 = 0 ∧ ((r5 ≠ (0 : Int) → ∀ M8 : bk_M, M8 = bk_up M6 12 0 (40 : Int) (-1 : Int) → bk_wp (bk_C d) P_240 Q 0 32 [bk_c 12 0, bk_i a1, bk_i a2, bk_i (0 : Int)] [] M8) ∧ (¬ (r5 ≠ (0 : Int)) → Q 0 (-1 : Int) M6)))))) := bk_iff (d := d) (P := P_240) (b := 0) (l := 0) (ls := [bk_c 12 0, bk_i a1, bk_i a2, bk_x]) (st := []) (M := M) [32] 40
theorem L_240_32 {d : Nat} {Q : bk_Q} (x1 : Int) (x2 : Int) (x3 : Int) (M : bk_M) : bk_wp (bk_C d) P_240 Q 0 32 [bk_c 12 0, bk_i x1, bk_i x2, bk_i x3] [] M ↔ ((x2 < x3 → Q 0 (M 12 0 (40 : Int)) M) ∧ (¬ (x2 < x3) → bk_C d 0 241 [bk_c 12 0, bk_i (0 : Int), bk_i x3, bk_i (0 : Int), bk_i x1] M (fun t3 r1 M2 => t3 = 0 ∧ bk_r32 (x3 + (1 : Int)) ∧ bk_wp (bk_C d) P_240 Q 0 32 [bk_c 12 0, bk_i x1, bk_i x2, bk_i (x3 + (1 : Int))] [] M2))) := bk_iff [32] 40
theorem E_241 {d : Nat} {Q : bk_Q} (a1 : Int) (a2 : Int) (a3 : Int) (a4 : Int) (M : bk_M) : bk_C (d + 1) 0 241 [bk_c 12 0, bk_i a1, bk_i a2, bk_i a3, bk_i a4] M Q ↔ ((a1 ≠ a2 → bk_wp (bk_C d) P_241 Q 0 76 [bk_c 12 0, bk_i a1, bk_i a2, bk_i a3, bk_i a4, bk_i a3, bk_x] [] M) ∧ (¬ (a1 ≠ a2) → bk_C d 0 153 [bk_c 12 0] M (fun t3 r1 M2 => t3 = 0 ∧ bk_C d 0 230 [bk_c 12 0, bk_i a4] M2 (fun t6 r4 M5 => t6 = 0 ∧ bk_C d 0 205 [bk_c 12 0, bk_i r4] M5 (fun t9 r7 M8 => t9 = 0 ∧ ((M8 12 0 (40 : Int) < r7 → ∀ M10 : bk_M, M10 = bk_up M8 12 0 (40 : Int) r7 → ∀ M11 : bk_M, M11 = bk_up M10 12 0 (39 : Int) a2 → bk_wp (bk_C d) P_241 Q 0 46 [bk_c 12 0, bk_i a1, bk_i a2, bk_i a3, bk_i a4, bk_i r7, bk_i (0 : Int)] [] M11) ∧ (¬ (M8 12 0 (40 : Int) < r7) → Q 0 0 M8))))))) := bk_iff (d := d) (P := P_241) (b := 0) (l := 0) (ls := [bk_c 12 0, bk_i a1, bk_i a2, bk_i a3, bk_i a4, bk_x, bk_x]) (st := []) (M := M) [46, 76] 40
theorem L_241_46 {d : Nat} {Q : bk_Q} (x1 : Int) (x2 : Int) (x3 : Int) (x4 : Int) (x5 : Int) (x6 : Int) (M : bk_M) : bk_wp (bk_C d) P_241 Q 0 46 [bk_c 12 0, bk_i x1, bk_i x2, bk_i x3, bk_i x4, bk_i x5, bk_i x6] [] M ↔ ((x2 ≤ x6 → Q 0 0 M) ∧ (¬ (x2 ≤ x6) → ((0 : Int) ≤ x6 ∧ x6 < (2 : Int)) ∧ ((0 : Int) ≤ x6 ∧ x6 < (2 : Int)) ∧ ∀ M1 : bk_M, M1 = bk_up M 76 0 x6 (M 75 0 x6) → bk_r32 (x6 + (1 : Int)) ∧ bk_wp (bk_C d) P_241 Q 0 46 [bk_c 12 0, bk_i x1, bk_i x2, bk_i x3, bk_i x4, bk_i x5, bk_i (x6 + (1 : Int))] [] M1)) := bk_iff [46, 76] 40
set_option maxRecDepth 20000 in
theorem L_241_76 {d : Nat} {Q : bk_Q} (x1 : Int) (x2 : Int) (x3 : Int) (x4 : Int) (x5 : Int) (M : bk_M) : bk_wp (bk_C d) P_241 Q 0 76 [bk_c 12 0, bk_i x1, bk_i x2, bk_i x3, bk_i x4, bk_i x5, bk_x] [] M ↔ (((72 : Int) ≤ x5 → Q 0 0 M) ∧ (¬ ((72 : Int) ≤ x5) → ((x1 ≤ (0 : Int) → bk_C d 0 237 [bk_c 12 0, bk_i x5, bk_i x4] M (fun t3 r1 M2 => t3 = 0 ∧ ((r1 ≠ (0 : Int) → ((0 : Int) ≤ x5 ∧ (0 : Int) < (36 : Int)) ∧ bk_r32 ((85 : Int) + (x5 % (36 : Int))) ∧ ((0 : Int) ≤ (85 : Int) + (x5 % (36 : Int)) ∧ (85 : Int) + (x5 % (36 : Int)) < (437 : Int)) ∧ bk_C d 0 238 [bk_i x5] M2 (fun t6 r4 M5 => t6 = 0 ∧ bk_r32 ((M2 58 0 ((85 : Int) + (x5 % (36 : Int)))) + r4) ∧ ((0 : Int) ≤ (85 : Int) + (x5 % (36 : Int)) ∧ (85 : Int) + (x5 % (36 : Int)) < (437 : Int)) ∧ ∀ M7 : bk_M, M7 = bk_up M5 58 0 ((85 : Int) + (x5 % (36 : Int))) ((M2 58 0 ((85 : Int) + (x5 % (36 : Int)))) + r4) → ((0 : Int) ≤ x1 ∧ x1 < (2 : Int)) ∧ ∀ M8 : bk_M, M8 = bk_up M7 75 0 x1 x5 → bk_r32 (x1 + (1 : Int)) ∧ bk_r32 (x5 + (1 : Int)) ∧ bk_C d 0 241 [bk_c 12 0, bk_i (x1 + (1 : Int)), bk_i x2, bk_i (x5 + (1 : Int)), bk_i x4] M8 (fun t11 r9 M10 => t11 = 0 ∧ ((0 : Int) ≤ x5 ∧ (0 : Int) < (36 : Int)) ∧ bk_r32 ((85 : Int) + (x5 % (36 : Int))) ∧ ((0 : Int) ≤ (85 : Int) + (x5 % (36 : Int)) ∧ (85 : Int) + (x5 % (36 : Int)) < (437 : Int)) ∧ bk_C d 0 238 [bk_i x5] M10 (fun t14 r12 M13 => t14 = 0 ∧ bk_r32 ((M10 58 0 ((85 : Int) + (x5 % (36 : Int)))) - r12) ∧ ((0 : Int) ≤ (85 : Int) + (x5 % (36 : Int)) ∧ (85 : Int) + (x5 % (36 : Int)) < (437 : Int)) ∧ ∀ M15 : bk_M, M15 = bk_up M13 58 0 ((85 : Int) + (x5 % (36 : Int))) ((M10 58 0 ((85 : Int) + (x5 % (36 : Int)))) - r12) → bk_r32 (x5 + (1 : Int)) ∧ bk_wp (bk_C d) P_241 Q 0 76 [bk_c 12 0, bk_i x1, bk_i x2, bk_i x3, bk_i x4, bk_i (x5 + (1 : Int)), bk_x] [] M15)))) ∧ (¬ (r1 ≠ (0 : Int)) → bk_r32 (x5 + (1 : Int)) ∧ bk_wp (bk_C d) P_241 Q 0 76 [bk_c 12 0, bk_i x1, bk_i x2, bk_i x3, bk_i x4, bk_i (x5 + (1 : Int)), bk_x] [] M2)))) ∧ (¬ (x1 ≤ (0 : Int)) → ((0 : Int) ≤ x5 ∧ (0 : Int) < (36 : Int)) ∧ ((0 : Int) ≤ (0 : Int) ∧ (0 : Int) < (2 : Int)) ∧ ((0 : Int) ≤ M 75 0 (0 : Int) ∧ (0 : Int) < (36 : Int)) ∧ ((x5 % (36 : Int) = (M 75 0 (0 : Int)) % (36 : Int) → bk_r32 (x5 + (1 : Int)) ∧ bk_wp (bk_C d) P_241 Q 0 76 [bk_c 12 0, bk_i x1, bk_i x2, bk_i x3, bk_i x4, bk_i (x5 + (1 : Int)), bk_x] [] M) ∧ (¬ (x5 % (36 : Int) = (M 75 0 (0 : Int)) % (36 : Int)) → bk_C d 0 237 [bk_c 12 0, bk_i x5, bk_i x4] M (fun t18 r16 M17 => t18 = 0 ∧ ((r16 ≠ (0 : Int) → ((0 : Int) ≤ x5 ∧ (0 : Int) < (36 : Int)) ∧ bk_r32 ((85 : Int) + (x5 % (36 : Int))) ∧ ((0 : Int) ≤ (85 : Int) + (x5 % (36 : Int)) ∧ (85 : Int) + (x5 % (36 : Int)) < (437 : Int)) ∧ bk_C d 0 238 [bk_i x5] M17 (fun t21 r19 M20 => t21 = 0 ∧ bk_r32 ((M17 58 0 ((85 : Int) + (x5 % (36 : Int)))) + r19) ∧ ((0 : Int) ≤ (85 : Int) + (x5 % (36 : Int)) ∧ (85 : Int) + (x5 % (36 : Int)) < (437 : Int)) ∧ ∀ M22 : bk_M, M22 = bk_up M20 58 0 ((85 : Int) + (x5 % (36 : Int))) ((M17 58 0 ((85 : Int) + (x5 % (36 : Int)))) + r19) → ((0 : Int) ≤ x1 ∧ x1 < (2 : Int)) ∧ ∀ M23 : bk_M, M23 = bk_up M22 75 0 x1 x5 → bk_r32 (x1 + (1 : Int)) ∧ bk_r32 (x5 + (1 : Int)) ∧ bk_C d 0 241 [bk_c 12 0, bk_i (x1 + (1 : Int)), bk_i x2, bk_i (x5 + (1 : Int)), bk_i x4] M23 (fun t26 r24 M25 => t26 = 0 ∧ ((0 : Int) ≤ x5 ∧ (0 : Int) < (36 : Int)) ∧ bk_r32 ((85 : Int) + (x5 % (36 : Int))) ∧ ((0 : Int) ≤ (85 : Int) + (x5 % (36 : Int)) ∧ (85 : Int) + (x5 % (36 : Int)) < (437 : Int)) ∧ bk_C d 0 238 [bk_i x5] M25 (fun t29 r27 M28 => t29 = 0 ∧ bk_r32 ((M25 58 0 ((85 : Int) + (x5 % (36 : Int)))) - r27) ∧ ((0 : Int) ≤ (85 : Int) + (x5 % (36 : Int)) ∧ (85 : Int) + (x5 % (36 : Int)) < (437 : Int)) ∧ ∀ M30 : bk_M, M30 = bk_up M28 58 0 ((85 : Int) + (x5 % (36 : Int))) ((M25 58 0 ((85 : Int) + (x5 % (36 : Int)))) - r27) → bk_r32 (x5 + (1 : Int)) ∧ bk_wp (bk_C d) P_241 Q 0 76 [bk_c 12 0, bk_i x1, bk_i x2, bk_i x3, bk_i x4, bk_i (x5 + (1 : Int)), bk_x] [] M30)))) ∧ (¬ (r16 ≠ (0 : Int)) → bk_r32 (x5 + (1 : Int)) ∧ bk_wp (bk_C d) P_241 Q 0 76 [bk_c 12 0, bk_i x1, bk_i x2, bk_i x3, bk_i x4, bk_i (x5 + (1 : Int)), bk_x] [] M17))))))))) := bk_iff [46, 76] 40
theorem E_242 {d : Nat} {Q : bk_Q} (a1 : Int) (M : bk_M) : bk_C (d + 1) 0 242 [bk_c 12 0, bk_i a1] M Q ↔ ∀ M1 : bk_M, M1 = bk_up M 12 0 (0 : Int) (0 : Int) → bk_r32 ((M1 12 0 (39 : Int)) - (1 : Int)) ∧ bk_C d 0 157 [bk_i a1, bk_i (0 : Int), bk_i ((M1 12 0 (39 : Int)) - (1 : Int))] M1 (fun t4 r2 M3 => t4 = 0 ∧ ((r2 = (0 : Int) → Q 0 (-1 : Int) M3) ∧ (¬ (r2 = (0 : Int)) → ((0 : Int) ≤ a1 ∧ a1 < (2 : Int)) ∧ Q 0 (M3 76 0 a1) M3))) := bk_iff (d := d) (P := P_242) (b := 0) (l := 0) (ls := [bk_c 12 0, bk_i a1]) (st := []) (M := M) [] 40
theorem E_243 {d : Nat} {Q : bk_Q} (a1 : Int) (a2 : Int) (a3 : Int) (a4 : Int) (M : bk_M) : bk_C (d + 1) 0 243 [bk_c 12 0, bk_i a1, bk_i a2, bk_i a3, bk_i a4] M Q ↔ ∀ M1 : bk_M, M1 = bk_up M 12 0 (0 : Int) (0 : Int) → bk_C d 0 157 [bk_i a1, bk_i (0 : Int), bk_i (1 : Int)] M1 (fun t4 r2 M3 => t4 = 0 ∧ ((r2 = (0 : Int) → Q 0 (-1 : Int) M3) ∧ (¬ (r2 = (0 : Int)) → bk_C d 0 157 [bk_i a2, bk_i (1 : Int), bk_i (10 : Int)] M3 (fun t7 r5 M6 => t7 = 0 ∧ ((r5 = (0 : Int) → Q 0 (-1 : Int) M6) ∧ (¬ (r5 = (0 : Int)) → bk_C d 0 157 [bk_i a3, bk_i (1 : Int), bk_i (30 : Int)] M6 (fun t10 r8 M9 => t10 = 0 ∧ ((r8 ≠ (0 : Int) → bk_C d 0 244 [bk_c 12 0] M9 (fun t13 r11 M12 => t13 = 0 ∧ bk_wp (bk_C d) P_243 Q 0 46 [bk_c 12 0, bk_i a1, bk_i a2, bk_i a3, bk_i a4, bk_i (0 : Int), bk_i (0 : Int), bk_x] [] M12)) ∧ (¬ (r8 ≠ (0 : Int)) → Q 0 (-1 : Int) M9))))))))) := bk_iff (d := d) (P := P_243) (b := 0) (l := 0) (ls := [bk_c 12 0, bk_i a1, bk_i a2, bk_i a3, bk_i a4, bk_x, bk_x, bk_x]) (st := []) (M := M) [46, 64] 40
theorem L_243_46 {d : Nat} {Q : bk_Q} (x1 : Int) (x2 : Int) (x3 : Int) (x4 : Int) (x5 : Int) (x6 : Int) (M : bk_M) : bk_wp (bk_C d) P_243 Q 0 46 [bk_c 12 0, bk_i x1, bk_i x2, bk_i x3, bk_i x4, bk_i x5, bk_i x6, bk_x] [] M ↔ ((x3 ≤ x6 → Q 0 x5 M) ∧ (¬ (x3 ≤ x6) → ∀ M1 : bk_M, M1 = bk_up M 12 0 (30 : Int) (bk_w32 (x4 + x6)) → bk_wp (bk_C d) P_243 Q 0 64 [bk_c 12 0, bk_i x1, bk_i x2, bk_i x3, bk_i x4, bk_i x5, bk_i x6, bk_i (0 : Int)] [] M1)) := bk_iff [46, 64] 40
theorem L_243_64 {d : Nat} {Q : bk_Q} (x1 : Int) (x2 : Int) (x3 : Int) (x4 : Int) (x5 : Int) (x6 : Int) (x7 : Int) (M : bk_M) : bk_wp (bk_C d) P_243 Q 0 64 [bk_c 12 0, bk_i x1, bk_i x2, bk_i x3, bk_i x4, bk_i x5, bk_i x6, bk_i x7] [] M ↔ ((x2 ≤ x7 → bk_C d 0 245 [bk_c 12 0] M (fun t3 r1 M2 => t3 = 0 ∧ bk_r32 (x6 + (1 : Int)) ∧ bk_wp (bk_C d) P_243 Q 0 46 [bk_c 12 0, bk_i x1, bk_i x2, bk_i x3, bk_i x4, bk_i x5, bk_i (x6 + (1 : Int)), bk_i x7] [] M2)) ∧ (¬ (x2 ≤ x7) → ((0 : Int) ≤ (80 : Int) ∧ (80 : Int) < (437 : Int)) ∧ (((400 : Int) ≤ M 58 0 (80 : Int) → bk_C d 0 245 [bk_c 12 0] M (fun t6 r4 M5 => t6 = 0 ∧ bk_r32 (x6 + (1 : Int)) ∧ bk_wp (bk_C d) P_243 Q 0 46 [bk_c 12 0, bk_i x1, bk_i x2, bk_i x3, bk_i x4, bk_i x5, bk_i (x6 + (1 : Int)), bk_i x7] [] M5)) ∧ (¬ ((400 : Int) ≤ M 58 0 (80 : Int)) → bk_C d 0 219 [bk_c 12 0] M (fun t9 r7 M8 => t9 = 0 ∧ bk_C d 0 204 [bk_c 12 0, bk_i x1] M8 (fun t12 r10 M11 => t12 = 0 ∧ bk_C d 0 205 [bk_c 12 0, bk_i r10] M11 (fun t15 r13 M14 => t15 = 0 ∧ bk_r32 (x7 + (1 : Int)) ∧ bk_wp (bk_C d) P_243 Q 0 64 [bk_c 12 0, bk_i x1, bk_i x2, bk_i x3, bk_i x4, bk_i (bk_w32 (x5 + r13)), bk_i x6, bk_i (x7 + (1 : Int))] [] M14))))))) := bk_iff [46, 64] 40
theorem E_244 {d : Nat} {Q : bk_Q} (M : bk_M) : bk_C (d + 1) 0 244 [bk_c 12 0] M Q ↔ bk_wp (bk_C d) P_244 Q 0 2 [bk_c 12 0, bk_i (0 : Int)] [] M := bk_iff (d := d) (P := P_244) (b := 0) (l := 0) (ls := [bk_c 12 0, bk_x]) (st := []) (M := M) [2] 40
theorem L_244_2 {d : Nat} {Q : bk_Q} (x1 : Int) (M : bk_M) : bk_wp (bk_C d) P_244 Q 0 2 [bk_c 12 0, bk_i x1] [] M ↔ (((115 : Int) ≤ x1 → Q 0 0 M) ∧ (¬ ((115 : Int) ≤ x1) → bk_r32 ((80 : Int) + x1) ∧ ((0 : Int) ≤ (80 : Int) + x1 ∧ (80 : Int) + x1 < (437 : Int)) ∧ ((0 : Int) ≤ x1 ∧ x1 < (115 : Int)) ∧ ∀ M1 : bk_M, M1 = bk_up M 62 0 x1 (M 58 0 ((80 : Int) + x1)) → bk_r32 (x1 + (1 : Int)) ∧ bk_wp (bk_C d) P_244 Q 0 2 [bk_c 12 0, bk_i (x1 + (1 : Int))] [] M1)) := bk_iff [2] 40
theorem E_245 {d : Nat} {Q : bk_Q} (M : bk_M) : bk_C (d + 1) 0 245 [bk_c 12 0] M Q ↔ bk_wp (bk_C d) P_245 Q 0 2 [bk_c 12 0, bk_i (0 : Int)] [] M := bk_iff (d := d) (P := P_245) (b := 0) (l := 0) (ls := [bk_c 12 0, bk_x]) (st := []) (M := M) [2] 40
theorem L_245_2 {d : Nat} {Q : bk_Q} (x1 : Int) (M : bk_M) : bk_wp (bk_C d) P_245 Q 0 2 [bk_c 12 0, bk_i x1] [] M ↔ (((115 : Int) ≤ x1 → Q 0 0 M) ∧ (¬ ((115 : Int) ≤ x1) → bk_r32 ((80 : Int) + x1) ∧ ((0 : Int) ≤ x1 ∧ x1 < (115 : Int)) ∧ ((0 : Int) ≤ (80 : Int) + x1 ∧ (80 : Int) + x1 < (437 : Int)) ∧ ∀ M1 : bk_M, M1 = bk_up M 58 0 ((80 : Int) + x1) (M 62 0 x1) → bk_r32 (x1 + (1 : Int)) ∧ bk_wp (bk_C d) P_245 Q 0 2 [bk_c 12 0, bk_i (x1 + (1 : Int))] [] M1)) := bk_iff [2] 40
theorem E_246 {d : Nat} {Q : bk_Q} (a1 : Int) (a2 : Int) (a3 : Int) (a4 : Int) (a5 : Int) (M : bk_M) : bk_C (d + 1) 0 246 [bk_c 12 0, bk_i a1, bk_i a2, bk_i a3, bk_i a4, bk_i a5] M Q ↔ ∀ M1 : bk_M, M1 = bk_up M 12 0 (0 : Int) (0 : Int) → bk_C d 0 192 [bk_c 12 0, bk_i a1] M1 (fun t4 r2 M3 => t4 = 0 ∧ ((r2 = (0 : Int) → Q 0 (-1 : Int) M3) ∧ (¬ (r2 = (0 : Int)) → bk_C d 0 157 [bk_i a2, bk_i (0 : Int), bk_i (2 : Int)] M3 (fun t7 r5 M6 => t7 = 0 ∧ ((r5 = (0 : Int) → Q 0 (-1 : Int) M6) ∧ (¬ (r5 = (0 : Int)) → bk_C d 0 157 [bk_i a3, bk_i (1 : Int), bk_i (10 : Int)] M6 (fun t10 r8 M9 => t10 = 0 ∧ ((r8 = (0 : Int) → Q 0 (-1 : Int) M9) ∧ (¬ (r8 = (0 : Int)) → bk_C d 0 157 [bk_i a4, bk_i (1 : Int), bk_i (30 : Int)] M9 (fun t13 r11 M12 => t13 = 0 ∧ ((r11 ≠ (0 : Int) → bk_C d 0 244 [bk_c 12 0] M12 (fun t16 r14 M15 => t16 = 0 ∧ bk_wp (bk_C d) P_246 Q 0 55 [bk_c 12 0, bk_i a1, bk_i a2, bk_i a3, bk_i a4, bk_i a5, bk_i (0 : Int), bk_i (0 : Int)] [] M15)) ∧ (¬ (r11 ≠ (0 : Int)) → Q 0 (-1 : Int) M12)))))))))))) := bk_iff (d := d) (P := P_246) (b := 0) (l := 0) (ls := [bk_c 12 0, bk_i a1, bk_i a2, bk_i a3, bk_i a4, bk_i a5, bk_x, bk_x]) (st := []) (M := M) [55] 40
theorem L_246_55 {d : Nat} {Q : bk_Q} (x1 : Int) (x2 : Int) (x3 : Int) (x4 : Int) (x5 : Int) (x6 : Int) (x7 : Int) (M : bk_M) : bk_wp (bk_C d) P_246 Q 0 55 [bk_c 12 0, bk_i x1, bk_i x2, bk_i x3, bk_i x4, bk_i x5, bk_i x6, bk_i x7] [] M ↔ ((x4 ≤ x7 → Q 0 x6 M) ∧ (¬ (x4 ≤ x7) → bk_C d 0 225 [bk_c 12 0, bk_i x3, bk_i (bk_w32 (x5 + x7))] M (fun t3 r1 M2 => t3 = 0 ∧ bk_C d 0 194 [bk_c 12 0, bk_i x1] M2 (fun t6 r4 M5 => t6 = 0 ∧ ((r4 ≠ x2 → bk_C d 0 245 [bk_c 12 0] M5 (fun t9 r7 M8 => t9 = 0 ∧ bk_r32 (x7 + (1 : Int)) ∧ bk_wp (bk_C d) P_246 Q 0 55 [bk_c 12 0, bk_i x1, bk_i x2, bk_i x3, bk_i x4, bk_i x5, bk_i x6, bk_i (x7 + (1 : Int))] [] M8)) ∧ (¬ (r4 ≠ x2) → bk_r32 (x6 + (1 : Int)) ∧ bk_C d 0 245 [bk_c 12 0] M5 (fun t12 r10 M11 => t12 = 0 ∧ bk_r32 (x7 + (1 : Int)) ∧ bk_wp (bk_C d) P_246 Q 0 55 [bk_c 12 0, bk_i x1, bk_i x2, bk_i x3, bk_i x4, bk_i x5, bk_i (x6 + (1 : Int)), bk_i (x7 + (1 : Int))] [] M11))))))) := bk_iff [55] 40
theorem E_247 {d : Nat} {Q : bk_Q} (M : bk_M) : bk_C (d + 1) 0 247 [bk_c 12 0] M Q ↔ ∀ M1 : bk_M, M1 = bk_up M 12 0 (0 : Int) (0 : Int) → bk_C d 0 161 [bk_c 12 0] M1 (fun t4 r2 M3 => t4 = 0 ∧ ((0 : Int) ≤ r2 ∧ (0 : Int) < (2 : Int)) ∧ ((r2 % (2 : Int) ≠ (0 : Int) → Q 0 (-1 : Int) M3) ∧ (¬ (r2 % (2 : Int) ≠ (0 : Int)) → ((0 : Int) ≤ r2 ∧ (0 : Int) < (2 : Int)) ∧ bk_C d 0 157 [bk_i (r2 / (2 : Int)), bk_i (1 : Int), bk_i (10 : Int)] M3 (fun t7 r5 M6 => t7 = 0 ∧ ((r5 ≠ (0 : Int) → bk_wp (bk_C d) P_247 Q 0 32 [bk_c 12 0, bk_i r2, bk_i (0 : Int)] [] M6) ∧ (¬ (r5 ≠ (0 : Int)) → Q 0 (-1 : Int) M6)))))) := bk_iff (d := d) (P := P_247) (b := 0) (l := 0) (ls := [bk_c 12 0, bk_x, bk_x]) (st := []) (M := M) [32, 77, 138] 40
theorem L_247_32 {d : Nat} {Q : bk_Q} (x1 : Int) (x2 : Int) (M : bk_M) : bk_wp (bk_C d) P_247 Q 0 32 [bk_c 12 0, bk_i x1, bk_i x2] [] M ↔ ((x1 ≤ x2 → ∀ M1 : bk_M, M1 = bk_up M 12 0 (45 : Int) (0 : Int) → bk_wp (bk_C d) P_247 Q 0 77 [bk_c 12 0, bk_i x1, bk_i (0 : Int)] [] M1) ∧ (¬ (x1 ≤ x2) → ((0 : Int) ≤ x2 ∧ x2 < (940 : Int)) ∧ bk_C d 0 192 [bk_c 12 0, bk_i (M 57 0 x2)] M (fun t4 r2 M3 => t4 = 0 ∧ ((r2 = (0 : Int) → Q 0 (-1 : Int) M3) ∧ (¬ (r2 = (0 : Int)) → bk_r32 (x2 + (1 : Int)) ∧ ((0 : Int) ≤ x2 + (1 : Int) ∧ x2 + (1 : Int) < (940 : Int)) ∧ ((M3 57 0 (x2 + (1 : Int)) ≤ (2 : Int) → bk_r32 (x2 + (2 : Int)) ∧ bk_wp (bk_C d) P_247 Q 0 32 [bk_c 12 0, bk_i x1, bk_i (x2 + (2 : Int))] [] M3) ∧ (¬ (M3 57 0 (x2 + (1 : Int)) ≤ (2 : Int)) → Q 0 (-1 : Int) M3))))))) := bk_iff [32, 77, 138] 40
theorem L_247_77 {d : Nat} {Q : bk_Q} (x1 : Int) (x2 : Int) (M : bk_M) : bk_wp (bk_C d) P_247 Q 0 77 [bk_c 12 0, bk_i x1, bk_i x2] [] M ↔ (((6 : Int) ≤ x2 → bk_C d 0 248 [bk_c 12 0, bk_i (0 : Int), bk_i x1] M (fun t3 r1 M2 => t3 = 0 ∧ ((M2 12 0 (45 : Int) ≤ (0 : Int) → bk_wp (bk_C d) P_247 Q 0 138 [bk_c 12 0, bk_i x1, bk_i (0 : Int)] [] M2) ∧ (¬ (M2 12 0 (45 : Int) ≤ (0 : Int)) → ((0 : Int) ≤ (3 : Int) ∧ (3 : Int) < (437 : Int)) ∧ ∀ M4 : bk_M, M4 = bk_up M2 12 0 (44 : Int) (M2 58 0 (3 : Int)) → bk_wp (bk_C d) P_247 Q 0 138 [bk_c 12 0, bk_i x1, bk_i (0 : Int)] [] M4)))) ∧ (¬ ((6 : Int) ≤ x2) → ((0 : Int) ≤ x2 ∧ x2 < (6 : Int)) ∧ ((0 : Int) ≤ x2 ∧ x2 < (6 : Int)) ∧ ∀ M5 : bk_M, M5 = bk_up M 80 0 x2 (M 78 0 x2) → ((0 : Int) ≤ x2 ∧ x2 < (6 : Int)) ∧ ((0 : Int) ≤ x2 ∧ x2 < (6 : Int)) ∧ ∀ M6 : bk_M, M6 = bk_up M5 81 0 x2 (M5 79 0 x2) → bk_r32 (x2 + (1 : Int)) ∧ bk_wp (bk_C d) P_247 Q 0 77 [bk_c 12 0, bk_i x1, bk_i (x2 + (1 : Int))] [] M6)) := bk_iff [32, 77, 138] 40
theorem L_247_138 {d : Nat} {Q : bk_Q} (x1 : Int) (x2 : Int) (M : bk_M) : bk_wp (bk_C d) P_247 Q 0 138 [bk_c 12 0, bk_i x1, bk_i x2] [] M ↔ (((6 : Int) ≤ x2 → Q 0 (M 12 0 (45 : Int)) M) ∧ (¬ ((6 : Int) ≤ x2) → ((M 12 0 (45 : Int) ≠ (0 : Int) → Q 0 (M 12 0 (45 : Int)) M) ∧ (¬ (M 12 0 (45 : Int) ≠ (0 : Int)) → ((0 : Int) ≤ x2 ∧ x2 < (6 : Int)) ∧ ((0 : Int) ≤ x2 ∧ x2 < (6 : Int)) ∧ ∀ M1 : bk_M, M1 = bk_up M 78 0 x2 (M 80 0 x2) → ((0 : Int) ≤ x2 ∧ x2 < (6 : Int)) ∧ ((0 : Int) ≤ x2 ∧ x2 < (6 : Int)) ∧ ∀ M2 : bk_M, M2 = bk_up M1 79 0 x2 (M1 81 0 x2) → bk_r32 (x2 + (1 : Int)) ∧ bk_wp (bk_C d) P_247 Q 0 138 [bk_c 12 0, bk_i x1, bk_i (x2 + (1 : Int))] [] M2)))) := bk_iff [32, 77, 138] 40
theorem E_248 {d : Nat} {Q : bk_Q} (a1 : Int) (a2 : Int) (M : bk_M) : bk_C (d + 1) 0 248 [bk_c 12 0, bk_i a1, bk_i a2] M Q ↔ ((0 : Int) ≤ (3 : Int) ∧ (3 : Int) < (437 : Int)) ∧ ((a1 ≠ M 58 0 (3 : Int) → ((a1 ≠ (0 : Int) → bk_r32 (a1 - (1 : Int)) ∧ ((0 : Int) ≤ a1 - (1 : Int) ∧ a1 - (1 : Int) < (6 : Int)) ∧ bk_r32 ((M 77 0 (a1 - (1 : Int))) - (1 : Int)) ∧ ((a1 ≠ (0 : Int) → bk_r32 (a1 - (1 : Int)) ∧ ((0 : Int) ≤ a1 - (1 : Int) ∧ a1 - (1 : Int) < (6 : Int)) ∧ bk_r32 ((M 77 0 (a1 - (1 : Int))) + (1 : Int)) ∧ bk_wp (bk_C d) P_248 Q 0 145 [bk_c 12 0, bk_i a1, bk_i a2, bk_i ((M 77 0 (a1 - (1 : Int))) - (1 : Int)), bk_i ((M 77 0 (a1 - (1 : Int))) + (1 : Int)), bk_i ((M 77 0 (a1 - (1 : Int))) - (1 : Int))] [] M) ∧ (¬ (a1 ≠ (0 : Int)) → ((0 : Int) ≤ (2 : Int) ∧ (2 : Int) < (437 : Int)) ∧ bk_r32 ((M 58 0 (2 : Int)) - (1 : Int)) ∧ bk_wp (bk_C d) P_248 Q 0 145 [bk_c 12 0, bk_i a1, bk_i a2, bk_i ((M 77 0 (a1 - (1 : Int))) - (1 : Int)), bk_i ((M 58 0 (2 : Int)) - (1 : Int)), bk_i ((M 77 0 (a1 - (1 : Int))) - (1 : Int))] [] M))) ∧ (¬ (a1 ≠ (0 : Int)) → ((a1 ≠ (0 : Int) → bk_r32 (a1 - (1 : Int)) ∧ ((0 : Int) ≤ a1 - (1 : Int) ∧ a1 - (1 : Int) < (6 : Int)) ∧ bk_r32 ((M 77 0 (a1 - (1 : Int))) + (1 : Int)) ∧ bk_wp (bk_C d) P_248 Q 0 145 [bk_c 12 0, bk_i a1, bk_i a2, bk_i (0 : Int), bk_i ((M 77 0 (a1 - (1 : Int))) + (1 : Int)), bk_i (0 : Int)] [] M) ∧ (¬ (a1 ≠ (0 : Int)) → ((0 : Int) ≤ (2 : Int) ∧ (2 : Int) < (437 : Int)) ∧ bk_r32 ((M 58 0 (2 : Int)) - (1 : Int)) ∧ bk_wp (bk_C d) P_248 Q 0 145 [bk_c 12 0, bk_i a1, bk_i a2, bk_i (0 : Int), bk_i ((M 58 0 (2 : Int)) - (1 : Int)), bk_i (0 : Int)] [] M))))) ∧ (¬ (a1 ≠ M 58 0 (3 : Int)) → bk_r32 ((M 12 0 (45 : Int)) + (1 : Int)) ∧ ∀ M1 : bk_M, M1 = bk_up M 12 0 (45 : Int) ((M 12 0 (45 : Int)) + (1 : Int)) → bk_wp (bk_C d) P_248 Q 0 22 [bk_c 12 0, bk_i a1, bk_i a2, bk_i (0 : Int), bk_x, bk_x] [] M1)) := bk_iff (d := d) (P := P_248) (b := 0) (l := 0) (ls := [bk_c 12 0, bk_i a1, bk_i a2, bk_x, bk_x, bk_x]) (st := []) (M := M) [22, 145] 40
set_option maxRecDepth 20000 in
theorem L_248_22 {d : Nat} {Q : bk_Q} (x1 : Int) (x2 : Int) (x3 : Int) (M : bk_M) : bk_wp (bk_C d) P_248 Q 0 22 [bk_c 12 0, bk_i x1, bk_i x2, bk_i x3, bk_x, bk_x] [] M ↔ ((x1 ≤ x3 → Q 0 0 M) ∧ (¬ (x1 ≤ x3) → ((M 12 0 (45 : Int) ≠ (1 : Int) → ((M 12 0 (45 : Int) ≠ (1 : Int) → ((0 : Int) ≤ x3 ∧ x3 < (6 : Int)) ∧ ((0 : Int) ≤ x3 ∧ x3 < (6 : Int)) ∧ ((M 79 0 x3 = M 77 0 x3 → bk_r32 (x3 + (1 : Int)) ∧ bk_wp (bk_C d) P_248 Q 0 22 [bk_c 12 0, bk_i x1, bk_i x2, bk_i (x3 + (1 : Int)), bk_x, bk_x] [] M) ∧ (¬ (M 79 0 x3 = M 77 0 x3) → ((0 : Int) ≤ x3 ∧ x3 < (6 : Int)) ∧ ∀ M1 : bk_M, M1 = bk_up M 79 0 x3 (-1 : Int) → bk_r32 (x3 + (1 : Int)) ∧ bk_wp (bk_C d) P_248 Q 0 22 [bk_c 12 0, bk_i x1, bk_i x2, bk_i (x3 + (1 : Int)), bk_x, bk_x] [] M1))) ∧ (¬ (M 12 0 (45 : Int) ≠ (1 : Int)) → ((0 : Int) ≤ x3 ∧ x3 < (6 : Int)) ∧ ((0 : Int) ≤ x3 ∧ x3 < (6 : Int)) ∧ ∀ M2 : bk_M, M2 = bk_up M 79 0 x3 (M 77 0 x3) → ((0 : Int) ≤ x3 ∧ x3 < (6 : Int)) ∧ ((0 : Int) ≤ x3 ∧ x3 < (6 : Int)) ∧ ((M2 79 0 x3 = M2 77 0 x3 → bk_r32 (x3 + (1 : Int)) ∧ bk_wp (bk_C d) P_248 Q 0 22 [bk_c 12 0, bk_i x1, bk_i x2, bk_i (x3 + (1 : Int)), bk_x, bk_x] [] M2) ∧ (¬ (M2 79 0 x3 = M2 77 0 x3) → ((0 : Int) ≤ x3 ∧ x3 < (6 : Int)) ∧ ∀ M3 : bk_M, M3 = bk_up M2 79 0 x3 (-1 : Int) → bk_r32 (x3 + (1 : Int)) ∧ bk_wp (bk_C d) P_248 Q 0 22 [bk_c 12 0, bk_i x1, bk_i x2, bk_i (x3 + (1 : Int)), bk_x, bk_x] [] M3))))) ∧ (¬ (M 12 0 (45 : Int) ≠ (1 : Int)) → ((0 : Int) ≤ x3 ∧ x3 < (6 : Int)) ∧ ((0 : Int) ≤ x3 ∧ x3 < (6 : Int)) ∧ ∀ M4 : bk_M, M4 = bk_up M 78 0 x3 (M 77 0 x3) → ((M4 12 0 (45 : Int) ≠ (1 : Int) → ((0 : Int) ≤ x3 ∧ x3 < (6 : Int)) ∧ ((0 : Int) ≤ x3 ∧ x3 < (6 : Int)) ∧ ((M4 79 0 x3 = M4 77 0 x3 → bk_r32 (x3 + (1 : Int)) ∧ bk_wp (bk_C d) P_248 Q 0 22 [bk_c 12 0, bk_i x1, bk_i x2, bk_i (x3 + (1 : Int)), bk_x, bk_x] [] M4) ∧ (¬ (M4 79 0 x3 = M4 77 0 x3) → ((0 : Int) ≤ x3 ∧ x3 < (6 : Int)) ∧ ∀ M5 : bk_M, M5 = bk_up M4 79 0 x3 (-1 : Int) → bk_r32 (x3 + (1 : Int)) ∧ bk_wp (bk_C d) P_248 Q 0 22 [bk_c 12 0, bk_i x1, bk_i x2, bk_i (x3 + (1 : Int)), bk_x, bk_x] [] M5))) ∧ (¬ (M4 12 0 (45 : Int) ≠ (1 : Int)) → ((0 : Int) ≤ x3 ∧ x3 < (6 : Int)) ∧ ((0 : Int) ≤ x3 ∧ x3 < (6 : Int)) ∧ ∀ M6 : bk_M, M6 = bk_up M4 79 0 x3 (M4 77 0 x3) → ((0 : Int) ≤ x3 ∧ x3 < (6 : Int)) ∧ ((0 : Int) ≤ x3 ∧ x3 < (6 : Int)) ∧ ((M6 79 0 x3 = M6 77 0 x3 → bk_r32 (x3 + (1 : Int)) ∧ bk_wp (bk_C d) P_248 Q 0 22 [bk_c 12 0, bk_i x1, bk_i x2, bk_i (x3 + (1 : Int)), bk_x, bk_x] [] M6) ∧ (¬ (M6 79 0 x3 = M6 77 0 x3) → ((0 : Int) ≤ x3 ∧ x3 < (6 : Int)) ∧ ∀ M7 : bk_M, M7 = bk_up M6 79 0 x3 (-1 : Int) → bk_r32 (x3 + (1 : Int)) ∧ bk_wp (bk_C d) P_248 Q 0 22 [bk_c 12 0, bk_i x1, bk_i x2, bk_i (x3 + (1 : Int)), bk_x, bk_x] [] M7)))))))) := bk_iff [22, 145] 40
theorem L_248_145 {d : Nat} {Q : bk_Q} (x1 : Int) (x2 : Int) (x3 : Int) (x4 : Int) (x5 : Int) (M : bk_M) : bk_wp (bk_C d) P_248 Q 0 145 [bk_c 12 0, bk_i x1, bk_i x2, bk_i x3, bk_i x4, bk_i x5] [] M ↔ ((x4 < x5 → Q 0 0 M) ∧ (¬ (x4 < x5) → bk_C d 0 156 [bk_c 12 0, bk_i x5, bk_i x1] M (fun t3 r1 M2 => t3 = 0 ∧ ((r1 = (0 : Int) → bk_r32 (x5 + (1 : Int)) ∧ bk_wp (bk_C d) P_248 Q 0 145 [bk_c 12 0, bk_i x1, bk_i x2, bk_i x3, bk_i x4, bk_i (x5 + (1 : Int))] [] M2) ∧ (¬ (r1 = (0 : Int)) → bk_C d 0 249 [bk_c 12 0, bk_i x1, bk_i x5, bk_i x2] M2 (fun t6 r4 M5 => t6 = 0 ∧ ((r4 ≠ (0 : Int) → ((0 : Int) ≤ x1 ∧ x1 < (6 : Int)) ∧ ∀ M7 : bk_M, M7 = bk_up M5 77 0 x1 x5 → bk_r32 (x1 + (1 : Int)) ∧ bk_C d 0 248 [bk_c 12 0, bk_i (x1 + (1 : Int)), bk_i x2] M7 (fun t10 r8 M9 => t10 = 0 ∧ bk_r32 (x5 + (1 : Int)) ∧ bk_wp (bk_C d) P_248 Q 0 145 [bk_c 12 0, bk_i x1, bk_i x2, bk_i x3, bk_i x4, bk_i (x5 + (1 : Int))] [] M9)) ∧ (¬ (r4 ≠ (0 : Int)) → bk_r32 (x5 + (1 : Int)) ∧ bk_wp (bk_C d) P_248 Q 0 145 [bk_c 12 0, bk_i x1, bk_i x2, bk_i x3, bk_i x4, bk_i (x5 + (1 : Int))] [] M5)))))))) := bk_iff [22, 145] 40
theorem E_249 {d : Nat} {Q : bk_Q} (a1 : Int) (a2 : Int) (a3 : Int) (M : bk_M) : bk_C (d + 1) 0 249 [bk_c 12 0, bk_i a1, bk_i a2, bk_i a3] M Q ↔ bk_wp (bk_C d) P_249 Q 0 3 [bk_c 12 0, bk_i a1, bk_i a2, bk_i a3, bk_i (0 : Int)] [] M := bk_iff (d := d) (P := P_249) (b := 0) (l := 0) (ls := [bk_c 12 0, bk_i a1, bk_i a2, bk_i a3, bk_x]) (st := []) (M := M) [3] 40
theorem L_249_3 {d : Nat} {Q : bk_Q} (x1 : Int) (x2 : Int) (x3 : Int) (x4 : Int) (M : bk_M) : bk_wp (bk_C d) P_249 Q 0 3 [bk_c 12 0, bk_i x1, bk_i x2, bk_i x3, bk_i x4] [] M ↔ ((x3 ≤ x4 → ((1 : Int) = 0 ∨ (1 : Int) = 1) ∧ Q 0 (1 : Int) M) ∧ (¬ (x3 ≤ x4) → ((0 : Int) ≤ x4 ∧ x4 < (940 : Int)) ∧ bk_r32 ((52 : Int) + (M 57 0 x4)) ∧ ((0 : Int) ≤ (52 : Int) + (M 57 0 x4) ∧ (52 : Int) + (M 57 0 x4) < (437 : Int)) ∧ ((M 58 0 ((52 : Int) + (M 57 0 x4)) ≠ x1 → bk_r32 (x4 + (2 : Int)) ∧ bk_wp (bk_C d) P_249 Q 0 3 [bk_c 12 0, bk_i x1, bk_i x2, bk_i x3, bk_i (x4 + (2 : Int))] [] M) ∧ (¬ (M 58 0 ((52 : Int) + (M 57 0 x4)) ≠ x1) → ((0 : Int) ≤ x4 ∧ x4 < (940 : Int)) ∧ bk_r32 ((42 : Int) + (M 57 0 x4)) ∧ ((0 : Int) ≤ (42 : Int) + (M 57 0 x4) ∧ (42 : Int) + (M 57 0 x4) < (437 : Int)) ∧ bk_C d 0 196 [bk_i (M 58 0 ((42 : Int) + (M 57 0 x4))), bk_i x2] M (fun t3 r1 M2 => t3 = 0 ∧ bk_r32 (x4 + (1 : Int)) ∧ ((0 : Int) ≤ x4 + (1 : Int) ∧ x4 + (1 : Int) < (940 : Int)) ∧ ((r1 = M2 57 0 (x4 + (1 : Int)) → bk_r32 (x4 + (2 : Int)) ∧ bk_wp (bk_C d) P_249 Q 0 3 [bk_c 12 0, bk_i x1, bk_i x2, bk_i x3, bk_i (x4 + (2 : Int))] [] M2) ∧ (¬ (r1 = M2 57 0 (x4 + (1 : Int))) → ((0 : Int) = 0 ∨ (0 : Int) = 1) ∧ Q 0 (0 : Int) M2))))))) := bk_iff [3] 40
theorem E_250 {d : Nat} {Q : bk_Q} (a1 : Int) (M : bk_M) : bk_C (d + 1) 0 250 [bk_c 12 0, bk_i a1] M Q ↔ ∀ M1 : bk_M, M1 = bk_up M 12 0 (0 : Int) (0 : Int) → bk_r32 ((M1 12 0 (44 : Int)) - (1 : Int)) ∧ bk_C d 0 157 [bk_i a1, bk_i (0 : Int), bk_i ((M1 12 0 (44 : Int)) - (1 : Int))] M1 (fun t4 r2 M3 => t4 = 0 ∧ ((r2 = (0 : Int) → Q 0 (-1 : Int) M3) ∧ (¬ (r2 = (0 : Int)) → ((0 : Int) ≤ a1 ∧ a1 < (6 : Int)) ∧ Q 0 (M3 78 0 a1) M3))) := bk_iff (d := d) (P := P_250) (b := 0) (l := 0) (ls := [bk_c 12 0, bk_i a1]) (st := []) (M := M) [] 40
theorem E_251 {d : Nat} {Q : bk_Q} (a1 : Int) (M : bk_M) : bk_C (d + 1) 0 251 [bk_c 12 0, bk_i a1] M Q ↔ ∀ M1 : bk_M, M1 = bk_up M 12 0 (0 : Int) (0 : Int) → bk_r32 ((M1 12 0 (44 : Int)) - (1 : Int)) ∧ bk_C d 0 157 [bk_i a1, bk_i (0 : Int), bk_i ((M1 12 0 (44 : Int)) - (1 : Int))] M1 (fun t4 r2 M3 => t4 = 0 ∧ ((r2 = (0 : Int) → Q 0 (-1 : Int) M3) ∧ (¬ (r2 = (0 : Int)) → ((0 : Int) ≤ a1 ∧ a1 < (6 : Int)) ∧ Q 0 (M3 79 0 a1) M3))) := bk_iff (d := d) (P := P_251) (b := 0) (l := 0) (ls := [bk_c 12 0, bk_i a1]) (st := []) (M := M) [] 40
theorem E_252 {d : Nat} {Q : bk_Q} (a1 : Int) (M : bk_M) : bk_C (d + 1) 0 252 [bk_c 12 0, bk_i a1] M Q ↔ ∀ M1 : bk_M, M1 = bk_up M 12 0 (0 : Int) (0 : Int) → bk_C d 0 157 [bk_i a1, bk_i (0 : Int), bk_i (1 : Int)] M1 (fun t4 r2 M3 => t4 = 0 ∧ ((r2 ≠ (0 : Int) → bk_wp (bk_C d) P_252 Q 0 20 [bk_c 12 0, bk_i a1, bk_i (-1 : Int), bk_i (0 : Int)] [] M3) ∧ (¬ (r2 ≠ (0 : Int)) → Q 0 (-1 : Int) M3))) := bk_iff (d := d) (P := P_252) (b := 0) (l := 0) (ls := [bk_c 12 0, bk_i a1, bk_x, bk_x]) (st := []) (M := M) [20] 40
theorem L_252_20 {d : Nat} {Q : bk_Q} (x1 : Int) (x2 : Int) (x3 : Int) (M : bk_M) : bk_wp (bk_C d) P_252 Q 0 20 [bk_c 12 0, bk_i x1, bk_i x2, bk_i x3] [] M ↔ ((0 : Int) ≤ (0 : Int) ∧ (0 : Int) < (437 : Int)) ∧ ((M 58 0 (0 : Int) ≤ x3 → Q 0 x2 M) ∧ (¬ (M 58 0 (0 : Int) ≤ x3) → bk_C d 0 194 [bk_c 12 0, bk_i x3] M (fun t3 r1 M2 => t3 = 0 ∧ ((r1 ≠ x1 → bk_r32 (x3 + (1 : Int)) ∧ bk_wp (bk_C d) P_252 Q 0 20 [bk_c 12 0, bk_i x1, bk_i x2, bk_i (x3 + (1 : Int))] [] M2) ∧ (¬ (r1 ≠ x1) → ((x2 = (-1 : Int) → bk_r32 (x3 + (1 : Int)) ∧ bk_wp (bk_C d) P_252 Q 0 20 [bk_c 12 0, bk_i x1, bk_i x3, bk_i (x3 + (1 : Int))] [] M2) ∧ (¬ (x2 = (-1 : Int)) → bk_r32 ((62 : Int) + x3) ∧ ((0 : Int) ≤ (62 : Int) + x3 ∧ (62 : Int) + x3 < (437 : Int)) ∧ bk_r32 ((62 : Int) + x2) ∧ ((0 : Int) ≤ (62 : Int) + x2 ∧ (62 : Int) + x2 < (437 : Int)) ∧ ((M2 58 0 ((62 : Int) + x3) ≤ M2 58 0 ((62 : Int) + x2) → bk_r32 (x3 + (1 : Int)) ∧ bk_wp (bk_C d) P_252 Q 0 20 [bk_c 12 0, bk_i x1, bk_i x2, bk_i (x3 + (1 : Int))] [] M2) ∧ (¬ (M2 58 0 ((62 : Int) + x3) ≤ M2 58 0 ((62 : Int) + x2)) → bk_r32 (x3 + (1 : Int)) ∧ bk_wp (bk_C d) P_252 Q 0 20 [bk_c 12 0, bk_i x1, bk_i x3, bk_i (x3 + (1 : Int))] [] M2))))))))) := bk_iff [20] 40
theorem E_253 {d : Nat} {Q : bk_Q} (a1 : Int) (M : bk_M) : bk_C (d + 1) 0 253 [bk_c 12 0, bk_i a1] M Q ↔ ∀ M1 : bk_M, M1 = bk_up M 12 0 (0 : Int) (0 : Int) → bk_C d 0 192 [bk_c 12 0, bk_i a1] M1 (fun t4 r2 M3 => t4 = 0 ∧ ((r2 ≠ (0 : Int) → ∀ M5 : bk_M, M5 = bk_up M3 12 0 (49 : Int) (0 : Int) → ((0 : Int) ≤ a1 ∧ a1 < (13 : Int)) ∧ bk_C d 0 254 [bk_c 12 0, bk_l (M5 63 0 a1)] M5 (fun t8 r6 M7 => t8 = 0 ∧ bk_C d 0 169 [bk_i (105 : Int), bk_i (115 : Int), bk_i (0 : Int), bk_i (0 : Int), bk_i (0 : Int), bk_i (0 : Int), bk_i (0 : Int)] M7 (fun t11 r9 M10 => t11 = 0 ∧ bk_C d 0 256 [bk_c 12 0, bk_l r9] M10 (fun t14 r12 M13 => t14 = 0 ∧ bk_C d 0 194 [bk_c 12 0, bk_i a1] M13 (fun t17 r15 M16 => t17 = 0 ∧ bk_r32 ((15 : Int) + r15) ∧ bk_C d 0 168 [bk_i ((15 : Int) + r15)] M16 (fun t20 r18 M19 => t20 = 0 ∧ bk_C d 0 256 [bk_c 12 0, bk_l r18] M19 (fun t23 r21 M22 => t23 = 0 ∧ bk_C d 0 169 [bk_i (97 : Int), bk_i (116 : Int), bk_i (0 : Int), bk_i (0 : Int), bk_i (0 : Int), bk_i (0 : Int), bk_i (0 : Int)] M22 (fun t26 r24 M25 => t26 = 0 ∧ bk_C d 0 256 [bk_c 12 0, bk_l r24] M25 (fun t29 r27 M28 => t29 = 0 ∧ bk_C d 0 255 [bk_c 12 0, bk_i (32 : Int)] M28 (fun t32 r30 M31 => t32 = 0 ∧ bk_r32 ((42 : Int) + a1) ∧ ((0 : Int) ≤ (42 : Int) + a1 ∧ (42 : Int) + a1 < (437 : Int)) ∧ bk_r32 ((48 : Int) + (M31 58 0 ((42 : Int) + a1))) ∧ bk_C d 0 255 [bk_c 12 0, bk_i ((48 : Int) + (M31 58 0 ((42 : Int) + a1)))] M31 (fun t35 r33 M34 => t35 = 0 ∧ bk_C d 0 255 [bk_c 12 0, bk_i (32 : Int)] M34 (fun t38 r36 M37 => t38 = 0 ∧ bk_r32 ((52 : Int) + a1) ∧ ((0 : Int) ≤ (52 : Int) + a1 ∧ (52 : Int) + a1 < (437 : Int)) ∧ bk_r32 ((48 : Int) + (M37 58 0 ((52 : Int) + a1))) ∧ bk_C d 0 255 [bk_c 12 0, bk_i ((48 : Int) + (M37 58 0 ((52 : Int) + a1)))] M37 (fun t41 r39 M40 => t41 = 0 ∧ Q 0 (M40 12 0 (49 : Int)) M40))))))))))))) ∧ (¬ (r2 ≠ (0 : Int)) → Q 0 (-1 : Int) M3))) := bk_iff (d := d) (P := P_253) (b := 0) (l := 0) (ls := [bk_c 12 0, bk_i a1]) (st := []) (M := M) [] 40
theorem E_254 {d : Nat} {Q : bk_Q} (a1 : Int) (M : bk_M) : bk_C (d + 1) 0 254 [bk_c 12 0, bk_l a1] M Q ↔ ((bk_lcmp a1 (27 : Int) < (0 : Int) → ((0 : Int) ≤ a1 ∧ (0 : Int) < (27 : Int)) ∧ bk_r32 (a1 % (27 : Int)) ∧ bk_r32 ((96 : Int) + (a1 % (27 : Int))) ∧ bk_C d 0 255 [bk_c 12 0, bk_i ((96 : Int) + (a1 % (27 : Int)))] M (fun t3 r1 M2 => t3 = 0 ∧ Q 0 0 M2)) ∧ (¬ (bk_lcmp a1 (27 : Int) < (0 : Int)) → ((0 : Int) ≤ a1 ∧ (0 : Int) < (27 : Int)) ∧ bk_C d 0 254 [bk_c 12 0, bk_l (a1 / (27 : Int))] M (fun t6 r4 M5 => t6 = 0 ∧ ((0 : Int) ≤ a1 ∧ (0 : Int) < (27 : Int)) ∧ bk_r32 (a1 % (27 : Int)) ∧ bk_r32 ((96 : Int) + (a1 % (27 : Int))) ∧ bk_C d 0 255 [bk_c 12 0, bk_i ((96 : Int) + (a1 % (27 : Int)))] M5 (fun t9 r7 M8 => t9 = 0 ∧ Q 0 0 M8)))) := bk_iff (d := d) (P := P_254) (b := 0) (l := 0) (ls := [bk_c 12 0, bk_l a1, bk_x]) (st := []) (M := M) [] 40
theorem E_255 {d : Nat} {Q : bk_Q} (a1 : Int) (M : bk_M) : bk_C (d + 1) 0 255 [bk_c 12 0, bk_i a1] M Q ↔ ((0 : Int) ≤ M 12 0 (49 : Int) ∧ M 12 0 (49 : Int) < (64 : Int)) ∧ ∀ M1 : bk_M, M1 = bk_up M 82 0 (M 12 0 (49 : Int)) a1 → bk_r32 ((M1 12 0 (49 : Int)) + (1 : Int)) ∧ ∀ M2 : bk_M, M2 = bk_up M1 12 0 (49 : Int) ((M1 12 0 (49 : Int)) + (1 : Int)) → Q 0 0 M2 := bk_iff (d := d) (P := P_255) (b := 0) (l := 0) (ls := [bk_c 12 0, bk_i a1]) (st := []) (M := M) [] 40
theorem E_256 {d : Nat} {Q : bk_Q} (a1 : Int) (M : bk_M) : bk_C (d + 1) 0 256 [bk_c 12 0, bk_l a1] M Q ↔ bk_C d 0 255 [bk_c 12 0, bk_i (32 : Int)] M (fun t3 r1 M2 => t3 = 0 ∧ bk_C d 0 254 [bk_c 12 0, bk_l a1] M2 (fun t6 r4 M5 => t6 = 0 ∧ Q 0 0 M5)) := bk_iff (d := d) (P := P_256) (b := 0) (l := 0) (ls := [bk_c 12 0, bk_l a1, bk_x]) (st := []) (M := M) [] 40
theorem E_257 {d : Nat} {Q : bk_Q} (a1 : Int) (M : bk_M) : bk_C (d + 1) 0 257 [bk_c 12 0, bk_i a1] M Q ↔ ∀ M1 : bk_M, M1 = bk_up M 12 0 (0 : Int) (0 : Int) → bk_r32 ((M1 12 0 (49 : Int)) - (1 : Int)) ∧ bk_C d 0 157 [bk_i a1, bk_i (0 : Int), bk_i ((M1 12 0 (49 : Int)) - (1 : Int))] M1 (fun t4 r2 M3 => t4 = 0 ∧ ((r2 = (0 : Int) → Q 0 (-1 : Int) M3) ∧ (¬ (r2 = (0 : Int)) → ((0 : Int) ≤ a1 ∧ a1 < (64 : Int)) ∧ Q 0 (M3 82 0 a1) M3))) := bk_iff (d := d) (P := P_257) (b := 0) (l := 0) (ls := [bk_c 12 0, bk_i a1]) (st := []) (M := M) [] 40
theorem E_258 {d : Nat} {Q : bk_Q} (a1 : Int) (M : bk_M) : bk_C (d + 1) 0 258 [bk_c 12 0, bk_i a1] M Q ↔ ∀ M1 : bk_M, M1 = bk_up M 12 0 (0 : Int) (0 : Int) → bk_C d 0 157 [bk_i a1, bk_i (0 : Int), bk_i (1 : Int)] M1 (fun t4 r2 M3 => t4 = 0 ∧ ((r2 ≠ (0 : Int) → bk_C d 0 160 [bk_c 12 0, bk_i (400 : Int)] M3 (fun t7 r5 M6 => t7 = 0 ∧ ∀ M8 : bk_M, M8 = bk_up M6 12 0 (52 : Int) (0 : Int) → bk_wp (bk_C d) P_258 Q 0 30 [bk_c 12 0, bk_i a1, bk_x, bk_x] [] M8)) ∧ (¬ (r2 ≠ (0 : Int)) → Q 0 (-1000 : Int) M3))) := bk_iff (d := d) (P := P_258) (b := 0) (l := 0) (ls := [bk_c 12 0, bk_i a1, bk_x, bk_x]) (st := []) (M := M) [30, 73] 40
theorem L_258_30 {d : Nat} {Q : bk_Q} (x1 : Int) (M : bk_M) : bk_wp (bk_C d) P_258 Q 0 30 [bk_c 12 0, bk_i x1, bk_x, bk_x] [] M ↔ ((M 12 0 (7 : Int) = (0 : Int) → bk_C d 0 244 [bk_c 12 0] M (fun t3 r1 M2 => t3 = 0 ∧ bk_wp (bk_C d) P_258 Q 0 73 [bk_c 12 0, bk_i x1, bk_i (0 : Int), bk_i (0 : Int)] [] M2)) ∧ (¬ (M 12 0 (7 : Int) = (0 : Int)) → bk_C d 0 259 [bk_c 12 0] M (fun t6 r4 M5 => t6 = 0 ∧ ((r4 ≠ (0 : Int) → bk_r32 ((M5 12 0 (52 : Int)) + (1 : Int)) ∧ ∀ M7 : bk_M, M7 = bk_up M5 12 0 (52 : Int) ((M5 12 0 (52 : Int)) + (1 : Int)) → bk_wp (bk_C d) P_258 Q 0 30 [bk_c 12 0, bk_i x1, bk_x, bk_x] [] M7) ∧ (¬ (r4 ≠ (0 : Int)) → bk_r32 ((-2 : Int) - (M5 12 0 (11 : Int))) ∧ Q 0 ((-2 : Int) - (M5 12 0 (11 : Int))) M5))))) := bk_iff [30, 73] 40
set_option maxRecDepth 20000 in
theorem L_258_73 {d : Nat} {Q : bk_Q} (x1 : Int) (x2 : Int) (x3 : Int) (M : bk_M) : bk_wp (bk_C d) P_258 Q 0 73 [bk_c 12 0, bk_i x1, bk_i x2, bk_i x3] [] M ↔ ((M 12 0 (52 : Int) ≤ x2 → ((0 : Int) ≤ (0 : Int) ∧ (0 : Int) < (4 : Int)) ∧ ∀ M1 : bk_M, M1 = bk_up M 84 0 (0 : Int) x3 → ((0 : Int) ≤ (1 : Int) ∧ (1 : Int) < (4 : Int)) ∧ ∀ M2 : bk_M, M2 = bk_up M1 84 0 (1 : Int) x2 → ((0 : Int) ≤ (80 : Int) ∧ (80 : Int) < (437 : Int)) ∧ ((0 : Int) ≤ (2 : Int) ∧ (2 : Int) < (4 : Int)) ∧ ∀ M3 : bk_M, M3 = bk_up M2 84 0 (2 : Int) (M2 58 0 (80 : Int)) → bk_C d 0 204 [bk_c 12 0, bk_i (0 : Int)] M3 (fun t6 r4 M5 => t6 = 0 ∧ ((0 : Int) ≤ (3 : Int) ∧ (3 : Int) < (4 : Int)) ∧ ∀ M7 : bk_M, M7 = bk_up M5 84 0 (3 : Int) r4 → ((1 : Int) = 0 ∨ (1 : Int) = 1) ∧ ∀ M8 : bk_M, M8 = bk_up M7 12 0 (53 : Int) (1 : Int) → ((x1 ≠ (1 : Int) → bk_C d 0 266 [bk_c 12 0, bk_i (0 : Int)] M8 (fun t11 r9 M10 => t11 = 0 ∧ ((x3 ≠ (0 : Int) → Q 0 x2 M10) ∧ (¬ (x3 ≠ (0 : Int)) → Q 0 (-1 : Int) M10)))) ∧ (¬ (x1 ≠ (1 : Int)) → ((x2 ≤ (0 : Int) → bk_C d 0 266 [bk_c 12 0, bk_i (0 : Int)] M8 (fun t14 r12 M13 => t14 = 0 ∧ ((x3 ≠ (0 : Int) → Q 0 x2 M13) ∧ (¬ (x3 ≠ (0 : Int)) → Q 0 (-1 : Int) M13)))) ∧ (¬ (x2 ≤ (0 : Int)) → bk_C d 0 266 [bk_c 12 0, bk_i (1 : Int)] M8 (fun t17 r15 M16 => t17 = 0 ∧ ((x3 ≠ (0 : Int) → Q 0 x2 M16) ∧ (¬ (x3 ≠ (0 : Int)) → Q 0 (-1 : Int) M16))))))))) ∧ (¬ (M 12 0 (52 : Int) ≤ x2) → ((x3 ≠ (0 : Int) → ((0 : Int) ≤ (0 : Int) ∧ (0 : Int) < (4 : Int)) ∧ ∀ M18 : bk_M, M18 = bk_up M 84 0 (0 : Int) x3 → ((0 : Int) ≤ (1 : Int) ∧ (1 : Int) < (4 : Int)) ∧ ∀ M19 : bk_M, M19 = bk_up M18 84 0 (1 : Int) x2 → ((0 : Int) ≤ (80 : Int) ∧ (80 : Int) < (437 : Int)) ∧ ((0 : Int) ≤ (2 : Int) ∧ (2 : Int) < (4 : Int)) ∧ ∀ M20 : bk_M, M20 = bk_up M19 84 0 (2 : Int) (M19 58 0 (80 : Int)) → bk_C d 0 204 [bk_c 12 0, bk_i (0 : Int)] M20 (fun t23 r21 M22 => t23 = 0 ∧ ((0 : Int) ≤ (3 : Int) ∧ (3 : Int) < (4 : Int)) ∧ ∀ M24 : bk_M, M24 = bk_up M22 84 0 (3 : Int) r21 → ((1 : Int) = 0 ∨ (1 : Int) = 1) ∧ ∀ M25 : bk_M, M25 = bk_up M24 12 0 (53 : Int) (1 : Int) → ((x1 ≠ (1 : Int) → bk_C d 0 266 [bk_c 12 0, bk_i (0 : Int)] M25 (fun t28 r26 M27 => t28 = 0 ∧ ((x3 ≠ (0 : Int) → Q 0 x2 M27) ∧ (¬ (x3 ≠ (0 : Int)) → Q 0 (-1 : Int) M27)))) ∧ (¬ (x1 ≠ (1 : Int)) → ((x2 ≤ (0 : Int) → bk_C d 0 266 [bk_c 12 0, bk_i (0 : Int)] M25 (fun t31 r29 M30 => t31 = 0 ∧ ((x3 ≠ (0 : Int) → Q 0 x2 M30) ∧ (¬ (x3 ≠ (0 : Int)) → Q 0 (-1 : Int) M30)))) ∧ (¬ (x2 ≤ (0 : Int)) → bk_C d 0 266 [bk_c 12 0, bk_i (1 : Int)] M25 (fun t34 r32 M33 => t34 = 0 ∧ ((x3 ≠ (0 : Int) → Q 0 x2 M33) ∧ (¬ (x3 ≠ (0 : Int)) → Q 0 (-1 : Int) M33))))))))) ∧ (¬ (x3 ≠ (0 : Int)) → bk_r32 ((4 : Int) * x2) ∧ bk_C d 0 265 [bk_c 12 0, bk_i ((4 : Int) * x2)] M (fun t37 r35 M36 => t37 = 0 ∧ ((r35 ≠ (0 : Int) → bk_wp (bk_C d) P_258 Q 0 73 [bk_c 12 0, bk_i x1, bk_i x2, bk_i r35] [] M36) ∧ (¬ (r35 ≠ (0 : Int)) → bk_r32 (x2 + (1 : Int)) ∧ bk_wp (bk_C d) P_258 Q 0 73 [bk_c 12 0, bk_i x1, bk_i (x2 + (1 : Int)), bk_i r35] [] M36))))))) := bk_iff [30, 73] 40
theorem E_259 {d : Nat} {Q : bk_Q} (M : bk_M) : bk_C (d + 1) 0 259 [bk_c 12 0] M Q ↔ bk_C d 0 187 [bk_c 12 0] M (fun t3 r1 M2 => t3 = 0 ∧ bk_C d 0 167 [bk_c 12 0, bk_i (10 : Int)] M2 (fun t6 r4 M5 => t6 = 0 ∧ ((r4 ≠ (0 : Int) → bk_wp (bk_C d) P_259 Q 0 23 [bk_c 12 0, bk_i r1, bk_x, bk_x] [] M5) ∧ (¬ (r4 ≠ (0 : Int)) → bk_C d 0 167 [bk_c 12 0, bk_i (11 : Int)] M5 (fun t9 r7 M8 => t9 = 0 ∧ ((r7 = (0 : Int) → bk_wp (bk_C d) P_259 Q 0 28 [bk_c 12 0, bk_i r1, bk_x, bk_x] [bk_i (0 : Int)] M8) ∧ (¬ (r7 = (0 : Int)) → bk_wp (bk_C d) P_259 Q 0 23 [bk_c 12 0, bk_i r1, bk_x, bk_x] [] M8))))))) := bk_iff (d := d) (P := P_259) (b := 0) (l := 0) (ls := [bk_c 12 0, bk_x, bk_x, bk_x]) (st := []) (M := M) [23, 28] 40
theorem L_259_23 {d : Nat} {Q : bk_Q} (x1 : Int) (M : bk_M) : bk_wp (bk_C d) P_259 Q 0 23 [bk_c 12 0, bk_i x1, bk_x, bk_x] [] M ↔ bk_wp (bk_C d) P_259 Q 0 28 [bk_c 12 0, bk_i x1, bk_x, bk_x] [bk_i (1 : Int)] M := bk_iff [23, 28] 40
set_option maxRecDepth 20000 in
theorem L_259_28 {d : Nat} {Q : bk_Q} (x1 : Int) (y0 : Int) (M : bk_M) : bk_wp (bk_C d) P_259 Q 0 28 [bk_c 12 0, bk_i x1, bk_x, bk_x] [bk_i y0] M ↔ ((x1 ≠ (0 : Int) → ((M 12 0 (52 : Int) ≠ (40 : Int) → bk_r32 ((4 : Int) * (M 12 0 (52 : Int))) ∧ ((x1 = (0 : Int) → ((y0 = (0 : Int) → bk_C d 0 264 [bk_c 12 0, bk_i ((4 : Int) * (M 12 0 (52 : Int)))] M (fun t3 r1 M2 => t3 = 0 ∧ ((r1 = (0 : Int) → ((0 : Int) = 0 ∨ (0 : Int) = 1) ∧ Q 0 (0 : Int) M2) ∧ (¬ (r1 = (0 : Int)) → bk_C d 0 188 [bk_c 12 0] M2 (fun t6 r4 M5 => t6 = 0 ∧ ((r4 = (0 : Int) → ((0 : Int) = 0 ∨ (0 : Int) = 1) ∧ Q 0 (0 : Int) M5) ∧ (¬ (r4 = (0 : Int)) → ((1 : Int) = 0 ∨ (1 : Int) = 1) ∧ Q 0 (1 : Int) M5))))))) ∧ (¬ (y0 = (0 : Int)) → bk_C d 0 263 [bk_c 12 0, bk_i ((4 : Int) * (M 12 0 (52 : Int)))] M (fun t9 r7 M8 => t9 = 0 ∧ ((r7 = (0 : Int) → ((0 : Int) = 0 ∨ (0 : Int) = 1) ∧ Q 0 (0 : Int) M8) ∧ (¬ (r7 = (0 : Int)) → bk_C d 0 188 [bk_c 12 0] M8 (fun t12 r10 M11 => t12 = 0 ∧ ((r10 = (0 : Int) → ((0 : Int) = 0 ∨ (0 : Int) = 1) ∧ Q 0 (0 : Int) M11) ∧ (¬ (r10 = (0 : Int)) → ((1 : Int) = 0 ∨ (1 : Int) = 1) ∧ Q 0 (1 : Int) M11))))))))) ∧ (¬ (x1 = (0 : Int)) → bk_C d 0 260 [bk_c 12 0, bk_i ((4 : Int) * (M 12 0 (52 : Int)))] M (fun t15 r13 M14 => t15 = 0 ∧ ((r13 = (0 : Int) → ((0 : Int) = 0 ∨ (0 : Int) = 1) ∧ Q 0 (0 : Int) M14) ∧ (¬ (r13 = (0 : Int)) → bk_C d 0 188 [bk_c 12 0] M14 (fun t18 r16 M17 => t18 = 0 ∧ ((r16 = (0 : Int) → ((0 : Int) = 0 ∨ (0 : Int) = 1) ∧ Q 0 (0 : Int) M17) ∧ (¬ (r16 = (0 : Int)) → ((1 : Int) = 0 ∨ (1 : Int) = 1) ∧ Q 0 (1 : Int) M17))))))))) ∧ (¬ (M 12 0 (52 : Int) ≠ (40 : Int)) → bk_C d 0 171 [bk_c 12 0, bk_i (4 : Int)] M (fun t21 r19 M20 => t21 = 0 ∧ (r19 = 0 ∨ r19 = 1) ∧ Q 0 r19 M20)))) ∧ (¬ (x1 ≠ (0 : Int)) → ((y0 ≠ (0 : Int) → ((M 12 0 (52 : Int) ≠ (40 : Int) → bk_r32 ((4 : Int) * (M 12 0 (52 : Int))) ∧ ((x1 = (0 : Int) → ((y0 = (0 : Int) → bk_C d 0 264 [bk_c 12 0, bk_i ((4 : Int) * (M 12 0 (52 : Int)))] M (fun t24 r22 M23 => t24 = 0 ∧ ((r22 = (0 : Int) → ((0 : Int) = 0 ∨ (0 : Int) = 1) ∧ Q 0 (0 : Int) M23) ∧ (¬ (r22 = (0 : Int)) → bk_C d 0 188 [bk_c 12 0] M23 (fun t27 r25 M26 => t27 = 0 ∧ ((r25 = (0 : Int) → ((0 : Int) = 0 ∨ (0 : Int) = 1) ∧ Q 0 (0 : Int) M26) ∧ (¬ (r25 = (0 : Int)) → ((1 : Int) = 0 ∨ (1 : Int) = 1) ∧ Q 0 (1 : Int) M26))))))) ∧ (¬ (y0 = (0 : Int)) → bk_C d 0 263 [bk_c 12 0, bk_i ((4 : Int) * (M 12 0 (52 : Int)))] M (fun t30 r28 M29 => t30 = 0 ∧ ((r28 = (0 : Int) → ((0 : Int) = 0 ∨ (0 : Int) = 1) ∧ Q 0 (0 : Int) M29) ∧ (¬ (r28 = (0 : Int)) → bk_C d 0 188 [bk_c 12 0] M29 (fun t33 r31 M32 => t33 = 0 ∧ ((r31 = (0 : Int) → ((0 : Int) = 0 ∨ (0 : Int) = 1) ∧ Q 0 (0 : Int) M32) ∧ (¬ (r31 = (0 : Int)) → ((1 : Int) = 0 ∨ (1 : Int) = 1) ∧ Q 0 (1 : Int) M32))))))))) ∧ (¬ (x1 = (0 : Int)) → bk_C d 0 260 [bk_c 12 0, bk_i ((4 : Int) * (M 12 0 (52 : Int)))] M (fun t36 r34 M35 => t36 = 0 ∧ ((r34 = (0 : Int) → ((0 : Int) = 0 ∨ (0 : Int) = 1) ∧ Q 0 (0 : Int) M35) ∧ (¬ (r34 = (0 : Int)) → bk_C d 0 188 [bk_c 12 0] M35 (fun t39 r37 M38 => t39 = 0 ∧ ((r37 = (0 : Int) → ((0 : Int) = 0 ∨ (0 : Int) = 1) ∧ Q 0 (0 : Int) M38) ∧ (¬ (r37 = (0 : Int)) → ((1 : Int) = 0 ∨ (1 : Int) = 1) ∧ Q 0 (1 : Int) M38))))))))) ∧ (¬ (M 12 0 (52 : Int) ≠ (40 : Int)) → bk_C d 0 171 [bk_c 12 0, bk_i (4 : Int)] M (fun t42 r40 M41 => t42 = 0 ∧ (r40 = 0 ∨ r40 = 1) ∧ Q 0 r40 M41)))) ∧ (¬ (y0 ≠ (0 : Int)) → bk_C d 0 182 [bk_c 12 0] M (fun t45 r43 M44 => t45 = 0 ∧ ((r43 ≠ (0 : Int) → ((0 : Int) ≤ (1 : Int) ∧ (1 : Int) < (437 : Int)) ∧ bk_C d 0 183 [bk_c 63 0, bk_i (10 : Int), bk_i (M44 58 0 (1 : Int)), bk_l (M44 12 0 (12 : Int))] M44 (fun t48 r46 M47 => t48 = 0 ∧ ((r46 ≠ (-1 : Int) → ((M47 12 0 (52 : Int) ≠ (40 : Int) → bk_r32 ((4 : Int) * (M47 12 0 (52 : Int))) ∧ ((x1 = (0 : Int) → ((y0 = (0 : Int) → bk_C d 0 264 [bk_c 12 0, bk_i ((4 : Int) * (M47 12 0 (52 : Int)))] M47 (fun t51 r49 M50 => t51 = 0 ∧ ((r49 = (0 : Int) → ((0 : Int) = 0 ∨ (0 : Int) = 1) ∧ Q 0 (0 : Int) M50) ∧ (¬ (r49 = (0 : Int)) → bk_C d 0 188 [bk_c 12 0] M50 (fun t54 r52 M53 => t54 = 0 ∧ ((r52 = (0 : Int) → ((0 : Int) = 0 ∨ (0 : Int) = 1) ∧ Q 0 (0 : Int) M53) ∧ (¬ (r52 = (0 : Int)) → ((1 : Int) = 0 ∨ (1 : Int) = 1) ∧ Q 0 (1 : Int) M53))))))) ∧ (¬ (y0 = (0 : Int)) → bk_C d 0 263 [bk_c 12 0, bk_i ((4 : Int) * (M47 12 0 (52 : Int)))] M47 (fun t57 r55 M56 => t57 = 0 ∧ ((r55 = (0 : Int) → ((0 : Int) = 0 ∨ (0 : Int) = 1) ∧ Q 0 (0 : Int) M56) ∧ (¬ (r55 = (0 : Int)) → bk_C d 0 188 [bk_c 12 0] M56 (fun t60 r58 M59 => t60 = 0 ∧ ((r58 = (0 : Int) → ((0 : Int) = 0 ∨ (0 : Int) = 1) ∧ Q 0 (0 : Int) M59) ∧ (¬ (r58 = (0 : Int)) → ((1 : Int) = 0 ∨ (1 : Int) = 1) ∧ Q 0 (1 : Int) M59))))))))) ∧ (¬ (x1 = (0 : Int)) → bk_C d 0 260 [bk_c 12 0, bk_i ((4 : Int) * (M47 12 0 (52 : Int)))] M47 (fun t63 r61 M62 => t63 = 0 ∧ ((r61 = (0 : Int) → ((0 : Int) = 0 ∨ (0 : Int) = 1) ∧ Q 0 (0 : Int) M62) ∧ (¬ (r61 = (0 : Int)) → bk_C d 0 188 [bk_c 12 0] M62 (fun t66 r64 M65 => t66 = 0 ∧ ((r64 = (0 : Int) → ((0 : Int) = 0 ∨ (0 : Int) = 1) ∧ Q 0 (0 : Int) M65) ∧ (¬ (r64 = (0 : Int)) → ((1 : Int) = 0 ∨ (1 : Int) = 1) ∧ Q 0 (1 : Int) M65))))))))) ∧ (¬ (M47 12 0 (52 : Int) ≠ (40 : Int)) → bk_C d 0 171 [bk_c 12 0, bk_i (4 : Int)] M47 (fun t69 r67 M68 => t69 = 0 ∧ (r67 = 0 ∨ r67 = 1) ∧ Q 0 r67 M68)))) ∧ (¬ (r46 ≠ (-1 : Int)) → bk_C d 0 171 [bk_c 12 0, bk_i (3 : Int)] M47 (fun t72 r70 M71 => t72 = 0 ∧ (r70 = 0 ∨ r70 = 1) ∧ Q 0 r70 M71))))) ∧ (¬ (r43 ≠ (0 : Int)) → bk_C d 0 171 [bk_c 12 0, bk_i (1 : Int)] M44 (fun t75 r73 M74 => t75 = 0 ∧ (r73 = 0 ∨ r73 = 1) ∧ Q 0 r73 M74)))))))) := bk_iff [23, 28] 40
set_option maxRecDepth 20000 in
theorem E_260 {d : Nat} {Q : bk_Q} (a1 : Int) (M : bk_M) : bk_C (d + 1) 0 260 [bk_c 12 0, bk_i a1] M Q ↔ bk_r32 (a1 + (1 : Int)) ∧ bk_C d 0 167 [bk_c 12 0, bk_i (15 : Int)] M (fun t3 r1 M2 => t3 = 0 ∧ ((r1 = (0 : Int) → ((0 : Int) ≤ a1 + (1 : Int) ∧ a1 + (1 : Int) < (160 : Int)) ∧ ∀ M4 : bk_M, M4 = bk_up M2 83 0 (a1 + (1 : Int)) (1 : Int) → bk_C d 0 162 [bk_c 12 0] M4 (fun t7 r5 M6 => t7 = 0 ∧ bk_C d 0 167 [bk_c 12 0, bk_i (7 : Int)] M6 (fun t10 r8 M9 => t10 = 0 ∧ ((r8 ≠ (0 : Int) → bk_C d 0 167 [bk_c 12 0, bk_i (7 : Int)] M9 (fun t13 r11 M12 => t13 = 0 ∧ ((r11 = (0 : Int) → ((0 : Int) ≤ a1 ∧ a1 < (160 : Int)) ∧ ∀ M14 : bk_M, M14 = bk_up M12 83 0 a1 (1 : Int) → bk_C d 0 162 [bk_c 12 0] M14 (fun t17 r15 M16 => t17 = 0 ∧ bk_r32 (a1 + (2 : Int)) ∧ bk_C d 0 261 [bk_c 12 0, bk_i (a1 + (2 : Int))] M16 (fun t20 r18 M19 => t20 = 0 ∧ (r18 = 0 ∨ r18 = 1) ∧ Q 0 r18 M19))) ∧ (¬ (r11 = (0 : Int)) → ((0 : Int) ≤ a1 ∧ a1 < (160 : Int)) ∧ ∀ M21 : bk_M, M21 = bk_up M12 83 0 a1 (0 : Int) → bk_C d 0 162 [bk_c 12 0] M21 (fun t24 r22 M23 => t24 = 0 ∧ bk_r32 (a1 + (2 : Int)) ∧ bk_C d 0 261 [bk_c 12 0, bk_i (a1 + (2 : Int))] M23 (fun t27 r25 M26 => t27 = 0 ∧ (r25 = 0 ∨ r25 = 1) ∧ Q 0 r25 M26)))))) ∧ (¬ (r8 ≠ (0 : Int)) → bk_C d 0 167 [bk_c 12 0, bk_i (8 : Int)] M9 (fun t30 r28 M29 => t30 = 0 ∧ ((r28 ≠ (0 : Int) → bk_C d 0 167 [bk_c 12 0, bk_i (7 : Int)] M29 (fun t33 r31 M32 => t33 = 0 ∧ ((r31 = (0 : Int) → ((0 : Int) ≤ a1 ∧ a1 < (160 : Int)) ∧ ∀ M34 : bk_M, M34 = bk_up M32 83 0 a1 (1 : Int) → bk_C d 0 162 [bk_c 12 0] M34 (fun t37 r35 M36 => t37 = 0 ∧ bk_r32 (a1 + (2 : Int)) ∧ bk_C d 0 261 [bk_c 12 0, bk_i (a1 + (2 : Int))] M36 (fun t40 r38 M39 => t40 = 0 ∧ (r38 = 0 ∨ r38 = 1) ∧ Q 0 r38 M39))) ∧ (¬ (r31 = (0 : Int)) → ((0 : Int) ≤ a1 ∧ a1 < (160 : Int)) ∧ ∀ M41 : bk_M, M41 = bk_up M32 83 0 a1 (0 : Int) → bk_C d 0 162 [bk_c 12 0] M41 (fun t44 r42 M43 => t44 = 0 ∧ bk_r32 (a1 + (2 : Int)) ∧ bk_C d 0 261 [bk_c 12 0, bk_i (a1 + (2 : Int))] M43 (fun t47 r45 M46 => t47 = 0 ∧ (r45 = 0 ∨ r45 = 1) ∧ Q 0 r45 M46)))))) ∧ (¬ (r28 ≠ (0 : Int)) → bk_C d 0 171 [bk_c 12 0, bk_i (1 : Int)] M29 (fun t50 r48 M49 => t50 = 0 ∧ (r48 = 0 ∨ r48 = 1) ∧ Q 0 r48 M49))))))))) ∧ (¬ (r1 = (0 : Int)) → ((0 : Int) ≤ a1 + (1 : Int) ∧ a1 + (1 : Int) < (160 : Int)) ∧ ∀ M51 : bk_M, M51 = bk_up M2 83 0 (a1 + (1 : Int)) (0 : Int) → bk_C d 0 162 [bk_c 12 0] M51 (fun t54 r52 M53 => t54 = 0 ∧ bk_C d 0 167 [bk_c 12 0, bk_i (7 : Int)] M53 (fun t57 r55 M56 => t57 = 0 ∧ ((r55 ≠ (0 : Int) → bk_C d 0 167 [bk_c 12 0, bk_i (7 : Int)] M56 (fun t60 r58 M59 => t60 = 0 ∧ ((r58 = (0 : Int) → ((0 : Int) ≤ a1 ∧ a1 < (160 : Int)) ∧ ∀ M61 : bk_M, M61 = bk_up M59 83 0 a1 (1 : Int) → bk_C d 0 162 [bk_c 12 0] M61 (fun t64 r62 M63 => t64 = 0 ∧ bk_r32 (a1 + (2 : Int)) ∧ bk_C d 0 261 [bk_c 12 0, bk_i (a1 + (2 : Int))] M63 (fun t67 r65 M66 => t67 = 0 ∧ (r65 = 0 ∨ r65 = 1) ∧ Q 0 r65 M66))) ∧ (¬ (r58 = (0 : Int)) → ((0 : Int) ≤ a1 ∧ a1 < (160 : Int)) ∧ ∀ M68 : bk_M, M68 = bk_up M59 83 0 a1 (0 : Int) → bk_C d 0 162 [bk_c 12 0] M68 (fun t71 r69 M70 => t71 = 0 ∧ bk_r32 (a1 + (2 : Int)) ∧ bk_C d 0 261 [bk_c 12 0, bk_i (a1 + (2 : Int))] M70 (fun t74 r72 M73 => t74 = 0 ∧ (r72 = 0 ∨ r72 = 1) ∧ Q 0 r72 M73)))))) ∧ (¬ (r55 ≠ (0 : Int)) → bk_C d 0 167 [bk_c 12 0, bk_i (8 : Int)] M56 (fun t77 r75 M76 => t77 = 0 ∧ ((r75 ≠ (0 : Int) → bk_C d 0 167 [bk_c 12 0, bk_i (7 : Int)] M76 (fun t80 r78 M79 => t80 = 0 ∧ ((r78 = (0 : Int) → ((0 : Int) ≤ a1 ∧ a1 < (160 : Int)) ∧ ∀ M81 : bk_M, M81 = bk_up M79 83 0 a1 (1 : Int) → bk_C d 0 162 [bk_c 12 0] M81 (fun t84 r82 M83 => t84 = 0 ∧ bk_r32 (a1 + (2 : Int)) ∧ bk_C d 0 261 [bk_c 12 0, bk_i (a1 + (2 : Int))] M83 (fun t87 r85 M86 => t87 = 0 ∧ (r85 = 0 ∨ r85 = 1) ∧ Q 0 r85 M86))) ∧ (¬ (r78 = (0 : Int)) → ((0 : Int) ≤ a1 ∧ a1 < (160 : Int)) ∧ ∀ M88 : bk_M, M88 = bk_up M79 83 0 a1 (0 : Int) → bk_C d 0 162 [bk_c 12 0] M88 (fun t91 r89 M90 => t91 = 0 ∧ bk_r32 (a1 + (2 : Int)) ∧ bk_C d 0 261 [bk_c 12 0, bk_i (a1 + (2 : Int))] M90 (fun t94 r92 M93 => t94 = 0 ∧ (r92 = 0 ∨ r92 = 1) ∧ Q 0 r92 M93)))))) ∧ (¬ (r75 ≠ (0 : Int)) → bk_C d 0 171 [bk_c 12 0, bk_i (1 : Int)] M76 (fun t97 r95 M96 => t97 = 0 ∧ (r95 = 0 ∨ r95 = 1) ∧ Q 0 r95 M96))))))))))) := bk_iff (d := d) (P := P_260) (b := 0) (l := 0) (ls := [bk_c 12 0, bk_i a1]) (st := []) (M := M) [] 40
theorem E_261 {d : Nat} {Q : bk_Q} (a1 : Int) (M : bk_M) : bk_C (d + 1) 0 261 [bk_c 12 0, bk_i a1] M Q ↔ bk_C d 0 174 [bk_c 12 0, bk_i (0 : Int), bk_i (5 : Int)] M (fun t3 r1 M2 => t3 = 0 ∧ bk_C d 0 262 [bk_c 12 0, bk_i a1, bk_i r1] M2 (fun t6 r4 M5 => t6 = 0 ∧ ((r4 = (0 : Int) → ((0 : Int) = 0 ∨ (0 : Int) = 1) ∧ Q 0 (0 : Int) M5) ∧ (¬ (r4 = (0 : Int)) → bk_r32 (a1 + (1 : Int)) ∧ bk_C d 0 174 [bk_c 12 0, bk_i (0 : Int), bk_i (5 : Int)] M5 (fun t9 r7 M8 => t9 = 0 ∧ bk_C d 0 262 [bk_c 12 0, bk_i (a1 + (1 : Int)), bk_i r7] M8 (fun t12 r10 M11 => t12 = 0 ∧ ((r10 = (0 : Int) → ((0 : Int) = 0 ∨ (0 : Int) = 1) ∧ Q 0 (0 : Int) M11) ∧ (¬ (r10 = (0 : Int)) → ((1 : Int) = 0 ∨ (1 : Int) = 1) ∧ Q 0 (1 : Int) M11)))))))) := bk_iff (d := d) (P := P_261) (b := 0) (l := 0) (ls := [bk_c 12 0, bk_i a1]) (st := []) (M := M) [] 40
theorem E_262 {d : Nat} {Q : bk_Q} (a1 : Int) (a2 : Int) (M : bk_M) : bk_C (d + 1) 0 262 [bk_c 12 0, bk_i a1, bk_i a2] M Q ↔ ((a2 = (0 : Int) → (a2 = 0 ∨ a2 = 1) ∧ Q 0 a2 M) ∧ (¬ (a2 = (0 : Int)) → ((0 : Int) ≤ a1 ∧ a1 < (160 : Int)) ∧ ∀ M1 : bk_M, M1 = bk_up M 83 0 a1 (M 12 0 (13 : Int)) → (a2 = 0 ∨ a2 = 1) ∧ Q 0 a2 M1)) := bk_iff (d := d) (P := P_262) (b := 0) (l := 0) (ls := [bk_c 12 0, bk_i a1, bk_i a2]) (st := []) (M := M) [] 40
set_option maxRecDepth 20000 in
theorem E_263 {d : Nat} {Q : bk_Q} (a1 : Int) (M : bk_M) : bk_C (d + 1) 0 263 [bk_c 12 0, bk_i a1] M Q ↔ bk_C d 0 167 [bk_c 12 0, bk_i (10 : Int)] M (fun t3 r1 M2 => t3 = 0 ∧ ((0 : Int) ≤ a1 ∧ a1 < (160 : Int)) ∧ ∀ M4 : bk_M, M4 = bk_up M2 83 0 a1 (3 : Int) → bk_C d 0 162 [bk_c 12 0] M4 (fun t7 r5 M6 => t7 = 0 ∧ ((r1 = (0 : Int) → bk_C d 0 174 [bk_c 12 0, bk_i (1 : Int), bk_i (30 : Int)] M6 (fun t10 r8 M9 => t10 = 0 ∧ ((r8 ≠ (0 : Int) → bk_r32 (a1 + (1 : Int)) ∧ ((r1 = (0 : Int) → ((0 : Int) ≤ a1 + (1 : Int) ∧ a1 + (1 : Int) < (160 : Int)) ∧ ∀ M11 : bk_M, M11 = bk_up M9 83 0 (a1 + (1 : Int)) (M9 12 0 (13 : Int)) → bk_r32 (a1 + (2 : Int)) ∧ ((0 : Int) ≤ a1 + (2 : Int) ∧ a1 + (2 : Int) < (160 : Int)) ∧ ∀ M12 : bk_M, M12 = bk_up M11 83 0 (a1 + (2 : Int)) (M11 12 0 (13 : Int)) → ((1 : Int) = 0 ∨ (1 : Int) = 1) ∧ Q 0 (1 : Int) M12) ∧ (¬ (r1 = (0 : Int)) → ((0 : Int) ≤ a1 + (1 : Int) ∧ a1 + (1 : Int) < (160 : Int)) ∧ ∀ M13 : bk_M, M13 = bk_up M9 83 0 (a1 + (1 : Int)) (1 : Int) → bk_r32 (a1 + (2 : Int)) ∧ ((0 : Int) ≤ a1 + (2 : Int) ∧ a1 + (2 : Int) < (160 : Int)) ∧ ∀ M14 : bk_M, M14 = bk_up M13 83 0 (a1 + (2 : Int)) (M13 12 0 (13 : Int)) → ((1 : Int) = 0 ∨ (1 : Int) = 1) ∧ Q 0 (1 : Int) M14))) ∧ (¬ (r8 ≠ (0 : Int)) → ((0 : Int) = 0 ∨ (0 : Int) = 1) ∧ Q 0 (0 : Int) M9)))) ∧ (¬ (r1 = (0 : Int)) → bk_C d 0 174 [bk_c 12 0, bk_i (0 : Int), bk_i (999 : Int)] M6 (fun t17 r15 M16 => t17 = 0 ∧ ((r15 = (0 : Int) → ((0 : Int) = 0 ∨ (0 : Int) = 1) ∧ Q 0 (0 : Int) M16) ∧ (¬ (r15 = (0 : Int)) → bk_r32 (a1 + (1 : Int)) ∧ ((r1 = (0 : Int) → ((0 : Int) ≤ a1 + (1 : Int) ∧ a1 + (1 : Int) < (160 : Int)) ∧ ∀ M18 : bk_M, M18 = bk_up M16 83 0 (a1 + (1 : Int)) (M16 12 0 (13 : Int)) → bk_r32 (a1 + (2 : Int)) ∧ ((0 : Int) ≤ a1 + (2 : Int) ∧ a1 + (2 : Int) < (160 : Int)) ∧ ∀ M19 : bk_M, M19 = bk_up M18 83 0 (a1 + (2 : Int)) (M18 12 0 (13 : Int)) → ((1 : Int) = 0 ∨ (1 : Int) = 1) ∧ Q 0 (1 : Int) M19) ∧ (¬ (r1 = (0 : Int)) → ((0 : Int) ≤ a1 + (1 : Int) ∧ a1 + (1 : Int) < (160 : Int)) ∧ ∀ M20 : bk_M, M20 = bk_up M16 83 0 (a1 + (1 : Int)) (1 : Int) → bk_r32 (a1 + (2 : Int)) ∧ ((0 : Int) ≤ a1 + (2 : Int) ∧ a1 + (2 : Int) < (160 : Int)) ∧ ∀ M21 : bk_M, M21 = bk_up M20 83 0 (a1 + (2 : Int)) (M20 12 0 (13 : Int)) → ((1 : Int) = 0 ∨ (1 : Int) = 1) ∧ Q 0 (1 : Int) M21))))))))) := bk_iff (d := d) (P := P_263) (b := 0) (l := 0) (ls := [bk_c 12 0, bk_i a1, bk_x]) (st := []) (M := M) [] 40
theorem E_264 {d : Nat} {Q : bk_Q} (a1 : Int) (M : bk_M) : bk_C (d + 1) 0 264 [bk_c 12 0, bk_i a1] M Q ↔ ((0 : Int) ≤ a1 ∧ a1 < (160 : Int)) ∧ ∀ M1 : bk_M, M1 = bk_up M 83 0 a1 (4 : Int) → bk_r32 (a1 + (1 : Int)) ∧ ((0 : Int) ≤ (1 : Int) ∧ (1 : Int) < (437 : Int)) ∧ bk_C d 0 183 [bk_c 63 0, bk_i (10 : Int), bk_i (M1 58 0 (1 : Int)), bk_l (M1 12 0 (12 : Int))] M1 (fun t4 r2 M3 => t4 = 0 ∧ ((0 : Int) ≤ a1 + (1 : Int) ∧ a1 + (1 : Int) < (160 : Int)) ∧ ∀ M5 : bk_M, M5 = bk_up M3 83 0 (a1 + (1 : Int)) r2 → bk_C d 0 162 [bk_c 12 0] M5 (fun t8 r6 M7 => t8 = 0 ∧ bk_C d 0 167 [bk_c 12 0, bk_i (9 : Int)] M7 (fun t11 r9 M10 => t11 = 0 ∧ ((r9 ≠ (0 : Int) → bk_C d 0 162 [bk_c 12 0] M10 (fun t14 r12 M13 => t14 = 0 ∧ bk_r32 (a1 + (2 : Int)) ∧ bk_C d 0 261 [bk_c 12 0, bk_i (a1 + (2 : Int))] M13 (fun t17 r15 M16 => t17 = 0 ∧ (r15 = 0 ∨ r15 = 1) ∧ Q 0 r15 M16))) ∧ (¬ (r9 ≠ (0 : Int)) → bk_C d 0 171 [bk_c 12 0, bk_i (1 : Int)] M10 (fun t20 r18 M19 => t20 = 0 ∧ (r18 = 0 ∨ r18 = 1) ∧ Q 0 r18 M19)))))) := bk_iff (d := d) (P := P_264) (b := 0) (l := 0) (ls := [bk_c 12 0, bk_i a1]) (st := []) (M := M) [] 40
theorem E_265 {d : Nat} {Q : bk_Q} (a1 : Int) (M : bk_M) : bk_C (d + 1) 0 265 [bk_c 12 0, bk_i a1] M Q ↔ bk_r32 (a1 + (1 : Int)) ∧ ((0 : Int) ≤ a1 + (1 : Int) ∧ a1 + (1 : Int) < (160 : Int)) ∧ bk_r32 (a1 + (2 : Int)) ∧ ((0 : Int) ≤ a1 + (2 : Int) ∧ a1 + (2 : Int) < (160 : Int)) ∧ bk_r32 (a1 + (3 : Int)) ∧ ((0 : Int) ≤ a1 + (3 : Int) ∧ a1 + (3 : Int) < (160 : Int)) ∧ ((0 : Int) ≤ a1 ∧ a1 < (160 : Int)) ∧ ((M 83 0 a1 ≠ (3 : Int) → bk_C d 0 156 [bk_c 12 0, bk_i (M 83 0 (a1 + (2 : Int))), bk_i (M 83 0 (a1 + (3 : Int)))] M (fun t3 r1 M2 => t3 = 0 ∧ ((r1 ≠ (0 : Int) → ((0 : Int) ≤ a1 ∧ a1 < (160 : Int)) ∧ bk_C d 0 210 [bk_c 12 0, bk_i (M2 83 0 a1), bk_i (M 83 0 (a1 + (1 : Int))), bk_i (M 83 0 (a1 + (2 : Int))), bk_i (M 83 0 (a1 + (3 : Int)))] M2 (fun t6 r4 M5 => t6 = 0 ∧ ((r4 = (0 : Int) → ((0 : Int) ≤ a1 ∧ a1 < (160 : Int)) ∧ bk_C d 0 214 [bk_c 12 0, bk_i (M5 83 0 a1), bk_i (M 83 0 (a1 + (1 : Int))), bk_i (M 83 0 (a1 + (2 : Int))), bk_i (M 83 0 (a1 + (3 : Int)))] M5 (fun t9 r7 M8 => t9 = 0 ∧ Q 0 (0 : Int) M8)) ∧ (¬ (r4 = (0 : Int)) → ((0 : Int) ≤ a1 ∧ a1 < (160 : Int)) ∧ bk_r32 ((10 : Int) * (M5 83 0 a1)) ∧ bk_r32 (((10 : Int) * (M5 83 0 a1)) + r4) ∧ Q 0 (((10 : Int) * (M5 83 0 a1)) + r4) M5)))) ∧ (¬ (r1 ≠ (0 : Int)) → ((0 : Int) ≤ a1 ∧ a1 < (160 : Int)) ∧ bk_r32 ((10 : Int) * (M2 83 0 a1)) ∧ bk_r32 (((10 : Int) * (M2 83 0 a1)) + (9 : Int)) ∧ Q 0 (((10 : Int) * (M2 83 0 a1)) + (9 : Int)) M2)))) ∧ (¬ (M 83 0 a1 ≠ (3 : Int)) → ((0 : Int) ≤ (80 : Int) ∧ (80 : Int) < (437 : Int)) ∧ bk_r32 ((M 58 0 (80 : Int)) + (M 83 0 (a1 + (1 : Int)))) ∧ (((M 58 0 (80 : Int)) + (M 83 0 (a1 + (1 : Int))) ≤ (400 : Int) → bk_C d 0 225 [bk_c 12 0, bk_i (M 83 0 (a1 + (1 : Int))), bk_i (M 83 0 (a1 + (2 : Int)))] M (fun t12 r10 M11 => t12 = 0 ∧ Q 0 (0 : Int) M11)) ∧ (¬ ((M 58 0 (80 : Int)) + (M 83 0 (a1 + (1 : Int))) ≤ (400 : Int)) → Q 0 (31 : Int) M)))) := bk_iff (d := d) (P := P_265) (b := 0) (l := 0) (ls := [bk_c 12 0, bk_i a1, bk_x, bk_x, bk_x, bk_x]) (st := []) (M := M) [] 40
theorem E_266 {d : Nat} {Q : bk_Q} (a1 : Int) (M : bk_M) : bk_C (d + 1) 0 266 [bk_c 12 0, bk_i a1] M Q ↔ bk_wp (bk_C d) P_266 Q 0 2 [bk_c 12 0, bk_i a1, bk_i (0 : Int), bk_x] [] M := bk_iff (d := d) (P := P_266) (b := 0) (l := 0) (ls := [bk_c 12 0, bk_i a1, bk_x, bk_x]) (st := []) (M := M) [2] 40
theorem L_266_2 {d : Nat} {Q : bk_Q} (x1 : Int) (x2 : Int) (M : bk_M) : bk_wp (bk_C d) P_266 Q 0 2 [bk_c 12 0, bk_i x1, bk_i x2, bk_x] [] M ↔ (((115 : Int) ≤ x2 → ((x1 ≠ (0 : Int) → bk_C d 0 213 [bk_c 12 0] M (fun t3 r1 M2 => t3 = 0 ∧ bk_C d 0 245 [bk_c 12 0] M2 (fun t6 r4 M5 => t6 = 0 ∧ Q 0 0 M5))) ∧ (¬ (x1 ≠ (0 : Int)) → Q 0 0 M))) ∧ (¬ ((115 : Int) ≤ x2) → bk_r32 ((80 : Int) + x2) ∧ ((0 : Int) ≤ (80 : Int) + x2 ∧ (80 : Int) + x2 < (437 : Int)) ∧ bk_r32 ((80 : Int) + x2) ∧ ((0 : Int) ≤ x2 ∧ x2 < (115 : Int)) ∧ ((0 : Int) ≤ (80 : Int) + x2 ∧ (80 : Int) + x2 < (437 : Int)) ∧ ∀ M7 : bk_M, M7 = bk_up M 58 0 ((80 : Int) + x2) (M 62 0 x2) → ((0 : Int) ≤ x2 ∧ x2 < (115 : Int)) ∧ ∀ M8 : bk_M, M8 = bk_up M7 62 0 x2 (M 58 0 ((80 : Int) + x2)) → bk_r32 (x2 + (1 : Int)) ∧ bk_wp (bk_C d) P_266 Q 0 2 [bk_c 12 0, bk_i x1, bk_i (x2 + (1 : Int)), bk_i (M 58 0 ((80 : Int) + x2))] [] M8)) := bk_iff [2] 40
theorem E_267 {d : Nat} {Q : bk_Q} (a1 : Int) (M : bk_M) : bk_C (d + 1) 0 267 [bk_c 12 0, bk_i a1] M Q ↔ ∀ M1 : bk_M, M1 = bk_up M 12 0 (0 : Int) (0 : Int) → ((M1 12 0 (53 : Int) = (0 : Int) → Q 0 (-1 : Int) M1) ∧ (¬ (M1 12 0 (53 : Int) = (0 : Int)) → bk_C d 0 157 [bk_i a1, bk_i (0 : Int), bk_i (3 : Int)] M1 (fun t4 r2 M3 => t4 = 0 ∧ ((r2 = (0 : Int) → Q 0 (-1 : Int) M3) ∧ (¬ (r2 = (0 : Int)) → ((0 : Int) ≤ a1 ∧ a1 < (4 : Int)) ∧ Q 0 (M3 84 0 a1) M3))))) := bk_iff (d := d) (P := P_267) (b := 0) (l := 0) (ls := [bk_c 12 0, bk_i a1]) (st := []) (M := M) [] 40
theorem E_268 {d : Nat} {Q : bk_Q} (M : bk_M) : bk_C (d + 1) 0 268 [bk_c 12 0] M Q ↔ bk_C d 0 160 [bk_c 12 0, bk_i (200 : Int)] M (fun t3 r1 M2 => t3 = 0 ∧ ∀ M4 : bk_M, M4 = bk_up M2 12 0 (55 : Int) (0 : Int) → ∀ M5 : bk_M, M5 = bk_up M4 12 0 (56 : Int) (0 : Int) → ∀ M6 : bk_M, M6 = bk_up M5 12 0 (57 : Int) (0 : Int) → bk_C d 0 269 [bk_c 12 0] M6 (fun t9 r7 M8 => t9 = 0 ∧ ((r7 ≠ (0 : Int) → ((M8 12 0 (7 : Int) = (0 : Int) → ((0 : Int) ≤ (195 : Int) ∧ (195 : Int) < (437 : Int)) ∧ ∀ M10 : bk_M, M10 = bk_up M8 58 0 (195 : Int) (1 : Int) → ((0 : Int) ≤ (196 : Int) ∧ (196 : Int) < (437 : Int)) ∧ ∀ M11 : bk_M, M11 = bk_up M10 58 0 (196 : Int) (M10 12 0 (58 : Int)) → bk_wp (bk_C d) P_268 Q 0 79 [bk_c 12 0, bk_i (0 : Int)] [] M11) ∧ (¬ (M8 12 0 (7 : Int) = (0 : Int)) → bk_C d 0 171 [bk_c 12 0, bk_i (1 : Int)] M8 (fun t14 r12 M13 => t14 = 0 ∧ bk_r32 ((-1 : Int) - (M13 12 0 (11 : Int))) ∧ Q 0 ((-1 : Int) - (M13 12 0 (11 : Int))) M13)))) ∧ (¬ (r7 ≠ (0 : Int)) → bk_r32 ((-1 : Int) - (M8 12 0 (11 : Int))) ∧ Q 0 ((-1 : Int) - (M8 12 0 (11 : Int))) M8)))) := bk_iff (d := d) (P := P_268) (b := 0) (l := 0) (ls := [bk_c 12 0, bk_x]) (st := []) (M := M) [79] 40
theorem L_268_79 {d : Nat} {Q : bk_Q} (x1 : Int) (M : bk_M) : bk_wp (bk_C d) P_268 Q 0 79 [bk_c 12 0, bk_i x1] [] M ↔ (((240 : Int) ≤ x1 → Q 0 (M 12 0 (56 : Int)) M) ∧ (¬ ((240 : Int) ≤ x1) → bk_r32 ((197 : Int) + x1) ∧ ((0 : Int) ≤ x1 ∧ x1 < (240 : Int)) ∧ ((0 : Int) ≤ (197 : Int) + x1 ∧ (197 : Int) + x1 < (437 : Int)) ∧ ∀ M1 : bk_M, M1 = bk_up M 58 0 ((197 : Int) + x1) (M 85 0 x1) → bk_r32 (x1 + (1 : Int)) ∧ bk_wp (bk_C d) P_268 Q 0 79 [bk_c 12 0, bk_i (x1 + (1 : Int))] [] M1)) := bk_iff [79] 40
theorem E_269 {d : Nat} {Q : bk_Q} (M : bk_M) : bk_C (d + 1) 0 269 [bk_c 12 0] M Q ↔ bk_C d 0 270 [bk_c 12 0] M (fun t3 r1 M2 => t3 = 0 ∧ ((r1 ≠ (0 : Int) → bk_wp (bk_C d) P_269 Q 0 14 [bk_c 12 0, bk_i (M2 12 0 (58 : Int))] [] M2) ∧ (¬ (r1 ≠ (0 : Int)) → ((0 : Int) = 0 ∨ (0 : Int) = 1) ∧ Q 0 (0 : Int) M2))) := bk_iff (d := d) (P := P_269) (b := 0) (l := 0) (ls := [bk_c 12 0, bk_x]) (st := []) (M := M) [14] 40
theorem L_269_14 {d : Nat} {Q : bk_Q} (x1 : Int) (M : bk_M) : bk_wp (bk_C d) P_269 Q 0 14 [bk_c 12 0, bk_i x1] [] M ↔ bk_C d 0 167 [bk_c 12 0, bk_i (12 : Int)] M (fun t3 r1 M2 => t3 = 0 ∧ ((r1 = (0 : Int) → ∀ M4 : bk_M, M4 = bk_up M2 12 0 (58 : Int) x1 → ((1 : Int) = 0 ∨ (1 : Int) = 1) ∧ Q 0 (1 : Int) M4) ∧ (¬ (r1 = (0 : Int)) → bk_C d 0 162 [bk_c 12 0] M2 (fun t7 r5 M6 => t7 = 0 ∧ bk_C d 0 270 [bk_c 12 0] M6 (fun t10 r8 M9 => t10 = 0 ∧ ((r8 ≠ (0 : Int) → bk_C d 0 274 [bk_c 12 0, bk_i (3 : Int), bk_i x1, bk_i (M9 12 0 (58 : Int)), bk_i (0 : Int)] M9 (fun t13 r11 M12 => t13 = 0 ∧ bk_wp (bk_C d) P_269 Q 0 14 [bk_c 12 0, bk_i r11] [] M12)) ∧ (¬ (r8 ≠ (0 : Int)) → ((0 : Int) = 0 ∨ (0 : Int) = 1) ∧ Q 0 (0 : Int) M9))))))) := bk_iff [14] 40
theorem E_270 {d : Nat} {Q : bk_Q} (M : bk_M) : bk_C (d + 1) 0 270 [bk_c 12 0] M Q ↔ bk_C d 0 271 [bk_c 12 0] M (fun t3 r1 M2 => t3 = 0 ∧ ((r1 ≠ (0 : Int) → bk_wp (bk_C d) P_270 Q 0 14 [bk_c 12 0, bk_i (M2 12 0 (58 : Int))] [] M2) ∧ (¬ (r1 ≠ (0 : Int)) → ((0 : Int) = 0 ∨ (0 : Int) = 1) ∧ Q 0 (0 : Int) M2))) := bk_iff (d := d) (P := P_270) (b := 0) (l := 0) (ls := [bk_c 12 0, bk_x]) (st := []) (M := M) [14] 40
theorem L_270_14 {d : Nat} {Q : bk_Q} (x1 : Int) (M : bk_M) : bk_wp (bk_C d) P_270 Q 0 14 [bk_c 12 0, bk_i x1] [] M ↔ bk_C d 0 167 [bk_c 12 0, bk_i (13 : Int)] M (fun t3 r1 M2 => t3 = 0 ∧ ((r1 = (0 : Int) → ∀ M4 : bk_M, M4 = bk_up M2 12 0 (58 : Int) x1 → ((1 : Int) = 0 ∨ (1 : Int) = 1) ∧ Q 0 (1 : Int) M4) ∧ (¬ (r1 = (0 : Int)) → bk_C d 0 162 [bk_c 12 0] M2 (fun t7 r5 M6 => t7 = 0 ∧ bk_C d 0 271 [bk_c 12 0] M6 (fun t10 r8 M9 => t10 = 0 ∧ ((r8 ≠ (0 : Int) → bk_C d 0 274 [bk_c 12 0, bk_i (2 : Int), bk_i x1, bk_i (M9 12 0 (58 : Int)), bk_i (0 : Int)] M9 (fun t13 r11 M12 => t13 = 0 ∧ bk_wp (bk_C d) P_270 Q 0 14 [bk_c 12 0, bk_i r11] [] M12)) ∧ (¬ (r8 ≠ (0 : Int)) → ((0 : Int) = 0 ∨ (0 : Int) = 1) ∧ Q 0 (0 : Int) M9))))))) := bk_iff [14] 40
theorem E_271 {d : Nat} {Q : bk_Q} (M : bk_M) : bk_C (d + 1) 0 271 [bk_c 12 0] M Q ↔ bk_C d 0 189 [bk_c 12 0, bk_i (40 : Int)] M (fun t3 r1 M2 => t3 = 0 ∧ bk_wp (bk_C d) P_271 Q 0 10 [bk_c 12 0, bk_i r1, bk_i (14 : Int), bk_x] [] M2) := bk_iff (d := d) (P := P_271) (b := 0) (l := 0) (ls := [bk_c 12 0, bk_x, bk_x, bk_x]) (st := []) (M := M) [10, 30] 40
theorem L_271_10 {d : Nat} {Q : bk_Q} (x1 : Int) (x2 : Int) (M : bk_M) : bk_wp (bk_C d) P_271 Q 0 10 [bk_c 12 0, bk_i x1, bk_i x2, bk_x] [] M ↔ (((24 : Int) < x2 → bk_wp (bk_C d) P_271 Q 0 30 [bk_c 12 0, bk_i x1, bk_i x2, bk_x] [] M) ∧ (¬ ((24 : Int) < x2) → bk_C d 0 167 [bk_c 12 0, bk_i x2] M (fun t3 r1 M2 => t3 = 0 ∧ ((r1 ≠ (0 : Int) → bk_wp (bk_C d) P_271 Q 0 30 [bk_c 12 0, bk_i x1, bk_i x2, bk_x] [] M2) ∧ (¬ (r1 ≠ (0 : Int)) → bk_r32 (x2 + (1 : Int)) ∧ bk_wp (bk_C d) P_271 Q 0 10 [bk_c 12 0, bk_i x1, bk_i (x2 + (1 : Int)), bk_x] [] M2))))) := bk_iff [10, 30] 40
set_option maxRecDepth 20000 in
theorem L_271_30 {d : Nat} {Q : bk_Q} (x1 : Int) (x2 : Int) (M : bk_M) : bk_wp (bk_C d) P_271 Q 0 30 [bk_c 12 0, bk_i x1, bk_i x2, bk_x] [] M ↔ ((x1 ≠ (0 : Int) → ((M 12 0 (56 : Int) = (20 : Int) → bk_C d 0 171 [bk_c 12 0, bk_i (4 : Int)] M (fun t3 r1 M2 => t3 = 0 ∧ (r1 = 0 ∨ r1 = 1) ∧ Q 0 r1 M2)) ∧ (¬ (M 12 0 (56 : Int) = (20 : Int)) → ((M 12 0 (57 : Int) ≠ (8 : Int) → bk_r32 ((M 12 0 (56 : Int)) + (1 : Int)) ∧ ∀ M4 : bk_M, M4 = bk_up M 12 0 (56 : Int) ((M 12 0 (56 : Int)) + (1 : Int)) → bk_r32 ((M4 12 0 (57 : Int)) + (1 : Int)) ∧ ∀ M5 : bk_M, M5 = bk_up M4 12 0 (57 : Int) ((M4 12 0 (57 : Int)) + (1 : Int)) → bk_C d 0 162 [bk_c 12 0] M5 (fun t8 r6 M7 => t8 = 0 ∧ ((x1 = (0 : Int) → ((x2 ≠ (14 : Int) → (((19 : Int) ≤ x2 → (((21 : Int) ≤ x2 → bk_C d 0 277 [bk_c 12 0, bk_i x2] M7 (fun t11 r9 M10 => t11 = 0 ∧ bk_r32 ((M10 12 0 (57 : Int)) - (1 : Int)) ∧ ∀ M12 : bk_M, M12 = bk_up M10 12 0 (57 : Int) ((M10 12 0 (57 : Int)) - (1 : Int)) → (r9 = 0 ∨ r9 = 1) ∧ Q 0 r9 M12)) ∧ (¬ ((21 : Int) ≤ x2) → bk_C d 0 275 [bk_c 12 0, bk_i x2] M7 (fun t15 r13 M14 => t15 = 0 ∧ bk_r32 ((M14 12 0 (57 : Int)) - (1 : Int)) ∧ ∀ M16 : bk_M, M16 = bk_up M14 12 0 (57 : Int) ((M14 12 0 (57 : Int)) - (1 : Int)) → (r13 = 0 ∨ r13 = 1) ∧ Q 0 r13 M16)))) ∧ (¬ ((19 : Int) ≤ x2) → bk_r32 ((50 : Int) + x2) ∧ bk_C d 0 274 [bk_c 12 0, bk_i ((50 : Int) + x2), bk_i (0 : Int), bk_i (0 : Int), bk_i (0 : Int)] M7 (fun t19 r17 M18 => t19 = 0 ∧ ∀ M20 : bk_M, M20 = bk_up M18 12 0 (58 : Int) r17 → bk_r32 ((M20 12 0 (57 : Int)) - (1 : Int)) ∧ ∀ M21 : bk_M, M21 = bk_up M20 12 0 (57 : Int) ((M20 12 0 (57 : Int)) - (1 : Int)) → ((1 : Int) = 0 ∨ (1 : Int) = 1) ∧ Q 0 (1 : Int) M21)))) ∧ (¬ (x2 ≠ (14 : Int)) → bk_C d 0 273 [bk_c 12 0] M7 (fun t24 r22 M23 => t24 = 0 ∧ bk_r32 ((M23 12 0 (57 : Int)) - (1 : Int)) ∧ ∀ M25 : bk_M, M25 = bk_up M23 12 0 (57 : Int) ((M23 12 0 (57 : Int)) - (1 : Int)) → (r22 = 0 ∨ r22 = 1) ∧ Q 0 r22 M25)))) ∧ (¬ (x1 = (0 : Int)) → bk_C d 0 272 [bk_c 12 0] M7 (fun t28 r26 M27 => t28 = 0 ∧ bk_r32 ((M27 12 0 (57 : Int)) - (1 : Int)) ∧ ∀ M29 : bk_M, M29 = bk_up M27 12 0 (57 : Int) ((M27 12 0 (57 : Int)) - (1 : Int)) → (r26 = 0 ∨ r26 = 1) ∧ Q 0 r26 M29))))) ∧ (¬ (M 12 0 (57 : Int) ≠ (8 : Int)) → bk_C d 0 171 [bk_c 12 0, bk_i (4 : Int)] M (fun t32 r30 M31 => t32 = 0 ∧ (r30 = 0 ∨ r30 = 1) ∧ Q 0 r30 M31)))))) ∧ (¬ (x1 ≠ (0 : Int)) → ((x2 ≤ (24 : Int) → ((M 12 0 (56 : Int) = (20 : Int) → bk_C d 0 171 [bk_c 12 0, bk_i (4 : Int)] M (fun t35 r33 M34 => t35 = 0 ∧ (r33 = 0 ∨ r33 = 1) ∧ Q 0 r33 M34)) ∧ (¬ (M 12 0 (56 : Int) = (20 : Int)) → ((M 12 0 (57 : Int) ≠ (8 : Int) → bk_r32 ((M 12 0 (56 : Int)) + (1 : Int)) ∧ ∀ M36 : bk_M, M36 = bk_up M 12 0 (56 : Int) ((M 12 0 (56 : Int)) + (1 : Int)) → bk_r32 ((M36 12 0 (57 : Int)) + (1 : Int)) ∧ ∀ M37 : bk_M, M37 = bk_up M36 12 0 (57 : Int) ((M36 12 0 (57 : Int)) + (1 : Int)) → bk_C d 0 162 [bk_c 12 0] M37 (fun t40 r38 M39 => t40 = 0 ∧ ((x1 = (0 : Int) → ((x2 ≠ (14 : Int) → (((19 : Int) ≤ x2 → (((21 : Int) ≤ x2 → bk_C d 0 277 [bk_c 12 0, bk_i x2] M39 (fun t43 r41 M42 => t43 = 0 ∧ bk_r32 ((M42 12 0 (57 : Int)) - (1 : Int)) ∧ ∀ M44 : bk_M, M44 = bk_up M42 12 0 (57 : Int) ((M42 12 0 (57 : Int)) - (1 : Int)) → (r41 = 0 ∨ r41 = 1) ∧ Q 0 r41 M44)) ∧ (¬ ((21 : Int) ≤ x2) → bk_C d 0 275 [bk_c 12 0, bk_i x2] M39 (fun t47 r45 M46 => t47 = 0 ∧ bk_r32 ((M46 12 0 (57 : Int)) - (1 : Int)) ∧ ∀ M48 : bk_M, M48 = bk_up M46 12 0 (57 : Int) ((M46 12 0 (57 : Int)) - (1 : Int)) → (r45 = 0 ∨ r45 = 1) ∧ Q 0 r45 M48)))) ∧ (¬ ((19 : Int) ≤ x2) → bk_r32 ((50 : Int) + x2) ∧ bk_C d 0 274 [bk_c 12 0, bk_i ((50 : Int) + x2), bk_i (0 : Int), bk_i (0 : Int), bk_i (0 : Int)] M39 (fun t51 r49 M50 => t51 = 0 ∧ ∀ M52 : bk_M, M52 = bk_up M50 12 0 (58 : Int) r49 → bk_r32 ((M52 12 0 (57 : Int)) - (1 : Int)) ∧ ∀ M53 : bk_M, M53 = bk_up M52 12 0 (57 : Int) ((M52 12 0 (57 : Int)) - (1 : Int)) → ((1 : Int) = 0 ∨ (1 : Int) = 1) ∧ Q 0 (1 : Int) M53)))) ∧ (¬ (x2 ≠ (14 : Int)) → bk_C d 0 273 [bk_c 12 0] M39 (fun t56 r54 M55 => t56 = 0 ∧ bk_r32 ((M55 12 0 (57 : Int)) - (1 : Int)) ∧ ∀ M57 : bk_M, M57 = bk_up M55 12 0 (57 : Int) ((M55 12 0 (57 : Int)) - (1 : Int)) → (r54 = 0 ∨ r54 = 1) ∧ Q 0 r54 M57)))) ∧ (¬ (x1 = (0 : Int)) → bk_C d 0 272 [bk_c 12 0] M39 (fun t60 r58 M59 => t60 = 0 ∧ bk_r32 ((M59 12 0 (57 : Int)) - (1 : Int)) ∧ ∀ M61 : bk_M, M61 = bk_up M59 12 0 (57 : Int) ((M59 12 0 (57 : Int)) - (1 : Int)) → (r58 = 0 ∨ r58 = 1) ∧ Q 0 r58 M61))))) ∧ (¬ (M 12 0 (57 : Int) ≠ (8 : Int)) → bk_C d 0 171 [bk_c 12 0, bk_i (4 : Int)] M (fun t64 r62 M63 => t64 = 0 ∧ (r62 = 0 ∨ r62 = 1) ∧ Q 0 r62 M63)))))) ∧ (¬ (x2 ≤ (24 : Int)) → bk_C d 0 171 [bk_c 12 0, bk_i (1 : Int)] M (fun t67 r65 M66 => t67 = 0 ∧ (r65 = 0 ∨ r65 = 1) ∧ Q 0 r65 M66))))) := bk_iff [10, 30] 40
theorem E_272 {d : Nat} {Q : bk_Q} (M : bk_M) : bk_C (d + 1) 0 272 [bk_c 12 0] M Q ↔ bk_C d 0 269 [bk_c 12 0] M (fun t3 r1 M2 => t3 = 0 ∧ ((r1 ≠ (0 : Int) → bk_C d 0 189 [bk_c 12 0, bk_i (41 : Int)] M2 (fun t6 r4 M5 => t6 = 0 ∧ ((r4 ≠ (0 : Int) → bk_C d 0 162 [bk_c 12 0] M5 (fun t9 r7 M8 => t9 = 0 ∧ ((1 : Int) = 0 ∨ (1 : Int) = 1) ∧ Q 0 (1 : Int) M8)) ∧ (¬ (r4 ≠ (0 : Int)) → bk_C d 0 171 [bk_c 12 0, bk_i (1 : Int)] M5 (fun t12 r10 M11 => t12 = 0 ∧ (r10 = 0 ∨ r10 = 1) ∧ Q 0 r10 M11))))) ∧ (¬ (r1 ≠ (0 : Int)) → ((0 : Int) = 0 ∨ (0 : Int) = 1) ∧ Q 0 (0 : Int) M2))) := bk_iff (d := d) (P := P_272) (b := 0) (l := 0) (ls := [bk_c 12 0]) (st := []) (M := M) [] 40
theorem E_273 {d : Nat} {Q : bk_Q} (M : bk_M) : bk_C (d + 1) 0 273 [bk_c 12 0] M Q ↔ bk_C d 0 271 [bk_c 12 0] M (fun t3 r1 M2 => t3 = 0 ∧ ((r1 ≠ (0 : Int) → bk_C d 0 274 [bk_c 12 0, bk_i (1 : Int), bk_i (M2 12 0 (58 : Int)), bk_i (0 : Int), bk_i (0 : Int)] M2 (fun t6 r4 M5 => t6 = 0 ∧ ∀ M7 : bk_M, M7 = bk_up M5 12 0 (58 : Int) r4 → ((1 : Int) = 0 ∨ (1 : Int) = 1) ∧ Q 0 (1 : Int) M7)) ∧ (¬ (r1 ≠ (0 : Int)) → ((0 : Int) = 0 ∨ (0 : Int) = 1) ∧ Q 0 (0 : Int) M2))) := bk_iff (d := d) (P := P_273) (b := 0) (l := 0) (ls := [bk_c 12 0]) (st := []) (M := M) [] 40
theorem E_274 {d : Nat} {Q : bk_Q} (a1 : Int) (a2 : Int) (a3 : Int) (a4 : Int) (M : bk_M) : bk_C (d + 1) 0 274 [bk_c 12 0, bk_i a1, bk_i a2, bk_i a3, bk_i a4] M Q ↔ bk_r32 ((4 : Int) * (M 12 0 (55 : Int))) ∧ ((0 : Int) ≤ (4 : Int) * (M 12 0 (55 : Int)) ∧ (4 : Int) * (M 12 0 (55 : Int)) < (240 : Int)) ∧ ∀ M1 : bk_M, M1 = bk_up M 85 0 ((4 : Int) * (M 12 0 (55 : Int))) a1 → bk_r32 (((4 : Int) * (M 12 0 (55 : Int))) + (1 : Int)) ∧ ((0 : Int) ≤ ((4 : Int) * (M 12 0 (55 : Int))) + (1 : Int) ∧ ((4 : Int) * (M 12 0 (55 : Int))) + (1 : Int) < (240 : Int)) ∧ ∀ M2 : bk_M, M2 = bk_up M1 85 0 (((4 : Int) * (M 12 0 (55 : Int))) + (1 : Int)) a2 → bk_r32 (((4 : Int) * (M 12 0 (55 : Int))) + (2 : Int)) ∧ ((0 : Int) ≤ ((4 : Int) * (M 12 0 (55 : Int))) + (2 : Int) ∧ ((4 : Int) * (M 12 0 (55 : Int))) + (2 : Int) < (240 : Int)) ∧ ∀ M3 : bk_M, M3 = bk_up M2 85 0 (((4 : Int) * (M 12 0 (55 : Int))) + (2 : Int)) a3 → bk_r32 (((4 : Int) * (M 12 0 (55 : Int))) + (3 : Int)) ∧ ((0 : Int) ≤ ((4 : Int) * (M 12 0 (55 : Int))) + (3 : Int) ∧ ((4 : Int) * (M 12 0 (55 : Int))) + (3 : Int) < (240 : Int)) ∧ ∀ M4 : bk_M, M4 = bk_up M3 85 0 (((4 : Int) * (M 12 0 (55 : Int))) + (3 : Int)) a4 → bk_r32 ((M4 12 0 (55 : Int)) + (1 : Int)) ∧ ∀ M5 : bk_M, M5 = bk_up M4 12 0 (55 : Int) ((M4 12 0 (55 : Int)) + (1 : Int)) → bk_r32 ((M5 12 0 (55 : Int)) - (1 : Int)) ∧ Q 0 ((M5 12 0 (55 : Int)) - (1 : Int)) M5 := bk_iff (d := d) (P := P_274) (b := 0) (l := 0) (ls := [bk_c 12 0, bk_i a1, bk_i a2, bk_i a3, bk_i a4, bk_x]) (st := []) (M := M) [] 40
theorem E_275 {d : Nat} {Q : bk_Q} (a1 : Int) (M : bk_M) : bk_C (d + 1) 0 275 [bk_c 12 0, bk_i a1] M Q ↔ bk_C d 0 276 [bk_c 12 0] M (fun t3 r1 M2 => t3 = 0 ∧ ((r1 ≠ (0 : Int) → bk_r32 ((50 : Int) + a1) ∧ bk_C d 0 274 [bk_c 12 0, bk_i ((50 : Int) + a1), bk_i (M2 12 0 (13 : Int)), bk_i (0 : Int), bk_i (0 : Int)] M2 (fun t6 r4 M5 => t6 = 0 ∧ ∀ M7 : bk_M, M7 = bk_up M5 12 0 (58 : Int) r4 → ((1 : Int) = 0 ∨ (1 : Int) = 1) ∧ Q 0 (1 : Int) M7)) ∧ (¬ (r1 ≠ (0 : Int)) → ((0 : Int) = 0 ∨ (0 : Int) = 1) ∧ Q 0 (0 : Int) M2))) := bk_iff (d := d) (P := P_275) (b := 0) (l := 0) (ls := [bk_c 12 0, bk_i a1]) (st := []) (M := M) [] 40
theorem E_276 {d : Nat} {Q : bk_Q} (M : bk_M) : bk_C (d + 1) 0 276 [bk_c 12 0] M Q ↔ bk_C d 0 182 [bk_c 12 0] M (fun t3 r1 M2 => t3 = 0 ∧ ((r1 ≠ (0 : Int) → ((0 : Int) ≤ (0 : Int) ∧ (0 : Int) < (437 : Int)) ∧ bk_C d 0 183 [bk_c 63 0, bk_i (0 : Int), bk_i (M2 58 0 (0 : Int)), bk_l (M2 12 0 (12 : Int))] M2 (fun t6 r4 M5 => t6 = 0 ∧ ∀ M7 : bk_M, M7 = bk_up M5 12 0 (13 : Int) r4 → ((M7 12 0 (13 : Int) ≠ (-1 : Int) → bk_C d 0 162 [bk_c 12 0] M7 (fun t10 r8 M9 => t10 = 0 ∧ ((1 : Int) = 0 ∨ (1 : Int) = 1) ∧ Q 0 (1 : Int) M9)) ∧ (¬ (M7 12 0 (13 : Int) ≠ (-1 : Int)) → bk_C d 0 171 [bk_c 12 0, bk_i (3 : Int)] M7 (fun t13 r11 M12 => t13 = 0 ∧ (r11 = 0 ∨ r11 = 1) ∧ Q 0 r11 M12))))) ∧ (¬ (r1 ≠ (0 : Int)) → bk_C d 0 171 [bk_c 12 0, bk_i (1 : Int)] M2 (fun t16 r14 M15 => t16 = 0 ∧ (r14 = 0 ∨ r14 = 1) ∧ Q 0 r14 M15)))) := bk_iff (d := d) (P := P_276) (b := 0) (l := 0) (ls := [bk_c 12 0]) (st := []) (M := M) [] 40
set_option maxRecDepth 20000 in
theorem E_277 {d : Nat} {Q : bk_Q} (a1 : Int) (M : bk_M) : bk_C (d + 1) 0 277 [bk_c 12 0, bk_i a1] M Q ↔ bk_C d 0 189 [bk_c 12 0, bk_i (60 : Int)] M (fun t3 r1 M2 => t3 = 0 ∧ ((r1 ≠ (0 : Int) → bk_C d 0 162 [bk_c 12 0] M2 (fun t6 r4 M5 => t6 = 0 ∧ bk_C d 0 174 [bk_c 12 0, bk_i (0 : Int), bk_i (999 : Int)] M5 (fun t9 r7 M8 => t9 = 0 ∧ ((r7 ≠ (0 : Int) → bk_r32 ((50 : Int) + a1) ∧ bk_C d 0 274 [bk_c 12 0, bk_i ((50 : Int) + a1), bk_i (0 : Int), bk_i (M8 12 0 (13 : Int)), bk_i (M2 12 0 (9 : Int))] M8 (fun t12 r10 M11 => t12 = 0 ∧ ∀ M13 : bk_M, M13 = bk_up M11 12 0 (58 : Int) r10 → ((1 : Int) = 0 ∨ (1 : Int) = 1) ∧ Q 0 (1 : Int) M13)) ∧ (¬ (r7 ≠ (0 : Int)) → ((0 : Int) = 0 ∨ (0 : Int) = 1) ∧ Q 0 (0 : Int) M8))))) ∧ (¬ (r1 ≠ (0 : Int)) → bk_C d 0 189 [bk_c 12 0, bk_i (61 : Int)] M2 (fun t16 r14 M15 => t16 = 0 ∧ ((r14 ≠ (0 : Int) → bk_C d 0 162 [bk_c 12 0] M15 (fun t19 r17 M18 => t19 = 0 ∧ bk_C d 0 174 [bk_c 12 0, bk_i (0 : Int), bk_i (999 : Int)] M18 (fun t22 r20 M21 => t22 = 0 ∧ ((r20 ≠ (0 : Int) → bk_r32 ((50 : Int) + a1) ∧ bk_C d 0 274 [bk_c 12 0, bk_i ((50 : Int) + a1), bk_i (0 : Int), bk_i (M21 12 0 (13 : Int)), bk_i (M15 12 0 (9 : Int))] M21 (fun t25 r23 M24 => t25 = 0 ∧ ∀ M26 : bk_M, M26 = bk_up M24 12 0 (58 : Int) r23 → ((1 : Int) = 0 ∨ (1 : Int) = 1) ∧ Q 0 (1 : Int) M26)) ∧ (¬ (r20 ≠ (0 : Int)) → ((0 : Int) = 0 ∨ (0 : Int) = 1) ∧ Q 0 (0 : Int) M21))))) ∧ (¬ (r14 ≠ (0 : Int)) → bk_C d 0 189 [bk_c 12 0, bk_i (62 : Int)] M15 (fun t29 r27 M28 => t29 = 0 ∧ ((r27 ≠ (0 : Int) → bk_C d 0 162 [bk_c 12 0] M28 (fun t32 r30 M31 => t32 = 0 ∧ bk_C d 0 174 [bk_c 12 0, bk_i (0 : Int), bk_i (999 : Int)] M31 (fun t35 r33 M34 => t35 = 0 ∧ ((r33 ≠ (0 : Int) → bk_r32 ((50 : Int) + a1) ∧ bk_C d 0 274 [bk_c 12 0, bk_i ((50 : Int) + a1), bk_i (0 : Int), bk_i (M34 12 0 (13 : Int)), bk_i (M28 12 0 (9 : Int))] M34 (fun t38 r36 M37 => t38 = 0 ∧ ∀ M39 : bk_M, M39 = bk_up M37 12 0 (58 : Int) r36 → ((1 : Int) = 0 ∨ (1 : Int) = 1) ∧ Q 0 (1 : Int) M39)) ∧ (¬ (r33 ≠ (0 : Int)) → ((0 : Int) = 0 ∨ (0 : Int) = 1) ∧ Q 0 (0 : Int) M34))))) ∧ (¬ (r27 ≠ (0 : Int)) → bk_C d 0 171 [bk_c 12 0, bk_i (1 : Int)] M28 (fun t42 r40 M41 => t42 = 0 ∧ (r40 = 0 ∨ r40 = 1) ∧ Q 0 r40 M41)))))))))) := bk_iff (d := d) (P := P_277) (b := 0) (l := 0) (ls := [bk_c 12 0, bk_i a1, bk_x]) (st := []) (M := M) [] 40
theorem E_278 {d : Nat} {Q : bk_Q} (a1 : Int) (M : bk_M) : bk_C (d + 1) 0 278 [bk_c 12 0, bk_i a1] M Q ↔ ∀ M1 : bk_M, M1 = bk_up M 12 0 (0 : Int) (0 : Int) → ((0 : Int) ≤ (195 : Int) ∧ (195 : Int) < (437 : Int)) ∧ ((M1 58 0 (195 : Int) ≠ (0 : Int) → bk_wp (bk_C d) P_278 Q 0 22 [bk_c 12 0, bk_i a1, bk_i (0 : Int), bk_i (0 : Int)] [] M1) ∧ (¬ (M1 58 0 (195 : Int) ≠ (0 : Int)) → Q 0 (-1 : Int) M1)) := bk_iff (d := d) (P := P_278) (b := 0) (l := 0) (ls := [bk_c 12 0, bk_i a1, bk_x, bk_x]) (st := []) (M := M) [22] 40
theorem L_278_22 {d : Nat} {Q : bk_Q} (x1 : Int) (x2 : Int) (x3 : Int) (M : bk_M) : bk_wp (bk_C d) P_278 Q 0 22 [bk_c 12 0, bk_i x1, bk_i x2, bk_i x3] [] M ↔ ((0 : Int) ≤ (0 : Int) ∧ (0 : Int) < (437 : Int)) ∧ ((M 58 0 (0 : Int) ≤ x3 → ((x1 ≠ (-1 : Int) → Q 0 (-1 : Int) M) ∧ (¬ (x1 ≠ (-1 : Int)) → Q 0 x2 M))) ∧ (¬ (M 58 0 (0 : Int) ≤ x3) → ((0 : Int) ≤ (196 : Int) ∧ (196 : Int) < (437 : Int)) ∧ bk_C d 0 279 [bk_c 12 0, bk_i (M 58 0 (196 : Int)), bk_i x3] M (fun t3 r1 M2 => t3 = 0 ∧ ((r1 ≠ (0 : Int) → ((x2 ≠ x1 → bk_r32 (x2 + (1 : Int)) ∧ bk_r32 (x3 + (1 : Int)) ∧ bk_wp (bk_C d) P_278 Q 0 22 [bk_c 12 0, bk_i x1, bk_i (x2 + (1 : Int)), bk_i (x3 + (1 : Int))] [] M2) ∧ (¬ (x2 ≠ x1) → Q 0 x3 M2))) ∧ (¬ (r1 ≠ (0 : Int)) → bk_r32 (x3 + (1 : Int)) ∧ bk_wp (bk_C d) P_278 Q 0 22 [bk_c 12 0, bk_i x1, bk_i x2, bk_i (x3 + (1 : Int))] [] M2))))) := bk_iff [22] 40
set_option maxRecDepth 20000 in
theorem E_279 {d : Nat} {Q : bk_Q} (a1 : Int) (a2 : Int) (M : bk_M) : bk_C (d + 1) 0 279 [bk_c 12 0, bk_i a1, bk_i a2] M Q ↔ bk_r32 ((4 : Int) * a1) ∧ bk_r32 ((197 : Int) + ((4 : Int) * a1)) ∧ bk_r32 (((197 : Int) + ((4 : Int) * a1)) + (1 : Int)) ∧ ((0 : Int) ≤ ((197 : Int) + ((4 : Int) * a1)) + (1 : Int) ∧ ((197 : Int) + ((4 : Int) * a1)) + (1 : Int) < (437 : Int)) ∧ bk_r32 (((197 : Int) + ((4 : Int) * a1)) + (2 : Int)) ∧ ((0 : Int) ≤ ((197 : Int) + ((4 : Int) * a1)) + (2 : Int) ∧ ((197 : Int) + ((4 : Int) * a1)) + (2 : Int) < (437 : Int)) ∧ ((0 : Int) ≤ (197 : Int) + ((4 : Int) * a1) ∧ (197 : Int) + ((4 : Int) * a1) < (437 : Int)) ∧ ((M 58 0 ((197 : Int) + ((4 : Int) * a1)) = (1 : Int) → bk_C d 0 279 [bk_c 12 0, bk_i (M 58 0 (((197 : Int) + ((4 : Int) * a1)) + (1 : Int))), bk_i a2] M (fun t3 r1 M2 => t3 = 0 ∧ ((r1 ≠ (0 : Int) → bk_wp (bk_C d) P_279 Q 0 131 [bk_c 12 0, bk_i a1, bk_i a2, bk_i ((197 : Int) + ((4 : Int) * a1)), bk_i (M 58 0 (((197 : Int) + ((4 : Int) * a1)) + (1 : Int))), bk_i (M 58 0 (((197 : Int) + ((4 : Int) * a1)) + (2 : Int))), bk_x, bk_x] [bk_i (0 : Int)] M2) ∧ (¬ (r1 ≠ (0 : Int)) → bk_wp (bk_C d) P_279 Q 0 131 [bk_c 12 0, bk_i a1, bk_i a2, bk_i ((197 : Int) + ((4 : Int) * a1)), bk_i (M 58 0 (((197 : Int) + ((4 : Int) * a1)) + (1 : Int))), bk_i (M 58 0 (((197 : Int) + ((4 : Int) * a1)) + (2 : Int))), bk_x, bk_x] [bk_i (1 : Int)] M2)))) ∧ (M 58 0 ((197 : Int) + ((4 : Int) * a1)) ≠ (1 : Int) → ((M 58 0 ((197 : Int) + ((4 : Int) * a1)) = (2 : Int) → bk_C d 0 279 [bk_c 12 0, bk_i (M 58 0 (((197 : Int) + ((4 : Int) * a1)) + (1 : Int))), bk_i a2] M (fun t6 r4 M5 => t6 = 0 ∧ ((r4 = (0 : Int) → bk_wp (bk_C d) P_279 Q 0 156 [bk_c 12 0, bk_i a1, bk_i a2, bk_i ((197 : Int) + ((4 : Int) * a1)), bk_i (M 58 0 (((197 : Int) + ((4 : Int) * a1)) + (1 : Int))), bk_i (M 58 0 (((197 : Int) + ((4 : Int) * a1)) + (2 : Int))), bk_x, bk_x] [] M5) ∧ (¬ (r4 = (0 : Int)) → bk_C d 0 279 [bk_c 12 0, bk_i (M 58 0 (((197 : Int) + ((4 : Int) * a1)) + (2 : Int))), bk_i a2] M5 (fun t9 r7 M8 => t9 = 0 ∧ ((r7 = (0 : Int) → bk_wp (bk_C d) P_279 Q 0 156 [bk_c 12 0, bk_i a1, bk_i a2, bk_i ((197 : Int) + ((4 : Int) * a1)), bk_i (M 58 0 (((197 : Int) + ((4 : Int) * a1)) + (1 : Int))), bk_i (M 58 0 (((197 : Int) + ((4 : Int) * a1)) + (2 : Int))), bk_x, bk_x] [] M8) ∧ (¬ (r7 = (0 : Int)) → bk_wp (bk_C d) P_279 Q 0 157 [bk_c 12 0, bk_i a1, bk_i a2, bk_i ((197 : Int) + ((4 : Int) * a1)), bk_i (M 58 0 (((197 : Int) + ((4 : Int) * a1)) + (1 : Int))), bk_i (M 58 0 (((197 : Int) + ((4 : Int) * a1)) + (2 : Int))), bk_x, bk_x] [bk_i (1 : Int)] M8))))))) ∧ (M 58 0 ((197 : Int) + ((4 : Int) * a1)) ≠ (2 : Int) → ((M 58 0 ((197 : Int) + ((4 : Int) * a1)) = (3 : Int) → bk_C d 0 279 [bk_c 12 0, bk_i (M 58 0 (((197 : Int) + ((4 : Int) * a1)) + (1 : Int))), bk_i a2] M (fun t12 r10 M11 => t12 = 0 ∧ ((r10 ≠ (0 : Int) → bk_wp (bk_C d) P_279 Q 0 178 [bk_c 12 0, bk_i a1, bk_i a2, bk_i ((197 : Int) + ((4 : Int) * a1)), bk_i (M 58 0 (((197 : Int) + ((4 : Int) * a1)) + (1 : Int))), bk_i (M 58 0 (((197 : Int) + ((4 : Int) * a1)) + (2 : Int))), bk_x, bk_x] [] M11) ∧ (¬ (r10 ≠ (0 : Int)) → bk_C d 0 279 [bk_c 12 0, bk_i (M 58 0 (((197 : Int) + ((4 : Int) * a1)) + (2 : Int))), bk_i a2] M11 (fun t15 r13 M14 => t15 = 0 ∧ ((r13 = (0 : Int) → bk_wp (bk_C d) P_279 Q 0 183 [bk_c 12 0, bk_i a1, bk_i a2, bk_i ((197 : Int) + ((4 : Int) * a1)), bk_i (M 58 0 (((197 : Int) + ((4 : Int) * a1)) + (1 : Int))), bk_i (M 58 0 (((197 : Int) + ((4 : Int) * a1)) + (2 : Int))), bk_x, bk_x] [bk_i (0 : Int)] M14) ∧ (¬ (r13 = (0 : Int)) → bk_wp (bk_C d) P_279 Q 0 178 [bk_c 12 0, bk_i a1, bk_i a2, bk_i ((197 : Int) + ((4 : Int) * a1)), bk_i (M 58 0 (((197 : Int) + ((4 : Int) * a1)) + (1 : Int))), bk_i (M 58 0 (((197 : Int) + ((4 : Int) * a1)) + (2 : Int))), bk_x, bk_x] [] M14))))))) ∧ (M 58 0 ((197 : Int) + ((4 : Int) * a1)) ≠ (3 : Int) → ((M 58 0 ((197 : Int) + ((4 : Int) * a1)) = (65 : Int) → bk_C d 0 194 [bk_c 12 0, bk_i a2] M (fun t18 r16 M17 => t18 = 0 ∧ ((r16 ≠ (0 : Int) → bk_wp (bk_C d) P_279 Q 0 197 [bk_c 12 0, bk_i a1, bk_i a2, bk_i ((197 : Int) + ((4 : Int) * a1)), bk_i (M 58 0 (((197 : Int) + ((4 : Int) * a1)) + (1 : Int))), bk_i (M 58 0 (((197 : Int) + ((4 : Int) * a1)) + (2 : Int))), bk_x, bk_x] [bk_i (0 : Int)] M17) ∧ (¬ (r16 ≠ (0 : Int)) → bk_wp (bk_C d) P_279 Q 0 197 [bk_c 12 0, bk_i a1, bk_i a2, bk_i ((197 : Int) + ((4 : Int) * a1)), bk_i (M 58 0 (((197 : Int) + ((4 : Int) * a1)) + (1 : Int))), bk_i (M 58 0 (((197 : Int) + ((4 : Int) * a1)) + (2 : Int))), bk_x, bk_x] [bk_i (1 : Int)] M17)))) ∧ (M 58 0 ((197 : Int) + ((4 : Int) * a1)) ≠ (65 : Int) → ((M 58 0 ((197 : Int) + ((4 : Int) * a1)) = (66 : Int) → bk_C d 0 194 [bk_c 12 0, bk_i a2] M (fun t21 r19 M20 => t21 = 0 ∧ ((r19 ≠ (1 : Int) → bk_wp (bk_C d) P_279 Q 0 212 [bk_c 12 0, bk_i a1, bk_i a2, bk_i ((197 : Int) + ((4 : Int) * a1)), bk_i (M 58 0 (((197 : Int) + ((4 : Int) * a1)) + (1 : Int))), bk_i (M 58 0 (((197 : Int) + ((4 : Int) * a1)) + (2 : Int))), bk_x, bk_x] [bk_i (0 : Int)] M20) ∧ (¬ (r19 ≠ (1 : Int)) → bk_wp (bk_C d) P_279 Q 0 212 [bk_c 12 0, bk_i a1, bk_i a2, bk_i ((197 : Int) + ((4 : Int) * a1)), bk_i (M 58 0 (((197 : Int) + ((4 : Int) * a1)) + (1 : Int))), bk_i (M 58 0 (((197 : Int) + ((4 : Int) * a1)) + (2 : Int))), bk_x, bk_x] [bk_i (1 : Int)] M20)))) ∧ (M 58 0 ((197 : Int) + ((4 : Int) * a1)) ≠ (66 : Int) → ((M 58 0 ((197 : Int) + ((4 : Int) * a1)) = (67 : Int) → bk_C d 0 194 [bk_c 12 0, bk_i a2] M (fun t24 r22 M23 => t24 = 0 ∧ ((r22 ≠ (2 : Int) → bk_wp (bk_C d) P_279 Q 0 227 [bk_c 12 0, bk_i a1, bk_i a2, bk_i ((197 : Int) + ((4 : Int) * a1)), bk_i (M 58 0 (((197 : Int) + ((4 : Int) * a1)) + (1 : Int))), bk_i (M 58 0 (((197 : Int) + ((4 : Int) * a1)) + (2 : Int))), bk_x, bk_x] [bk_i (0 : Int)] M23) ∧ (¬ (r22 ≠ (2 : Int)) → bk_wp (bk_C d) P_279 Q 0 227 [bk_c 12 0, bk_i a1, bk_i a2, bk_i ((197 : Int) + ((4 : Int) * a1)), bk_i (M 58 0 (((197 : Int) + ((4 : Int) * a1)) + (1 : Int))), bk_i (M 58 0 (((197 : Int) + ((4 : Int) * a1)) + (2 : Int))), bk_x, bk_x] [bk_i (1 : Int)] M23)))) ∧ (M 58 0 ((197 : Int) + ((4 : Int) * a1)) ≠ (67 : Int) → ((M 58 0 ((197 : Int) + ((4 : Int) * a1)) = (68 : Int) → bk_C d 0 280 [bk_c 12 0, bk_i a2] M (fun t27 r25 M26 => t27 = 0 ∧ (r25 = 0 ∨ r25 = 1) ∧ Q 0 r25 M26)) ∧ (M 58 0 ((197 : Int) + ((4 : Int) * a1)) ≠ (68 : Int) → ((M 58 0 ((197 : Int) + ((4 : Int) * a1)) = (69 : Int) → bk_C d 0 194 [bk_c 12 0, bk_i a2] M (fun t30 r28 M29 => t30 = 0 ∧ ((r28 = (2 : Int) → bk_wp (bk_C d) P_279 Q 0 261 [bk_c 12 0, bk_i a1, bk_i a2, bk_i ((197 : Int) + ((4 : Int) * a1)), bk_i (M 58 0 (((197 : Int) + ((4 : Int) * a1)) + (1 : Int))), bk_i (M 58 0 (((197 : Int) + ((4 : Int) * a1)) + (2 : Int))), bk_x, bk_x] [] M29) ∧ (¬ (r28 = (2 : Int)) → bk_C d 0 194 [bk_c 12 0, bk_i a2] M29 (fun t33 r31 M32 => t33 = 0 ∧ bk_C d 0 194 [bk_c 12 0, bk_i (M 58 0 (((197 : Int) + ((4 : Int) * a1)) + (1 : Int)))] M32 (fun t36 r34 M35 => t36 = 0 ∧ ((r31 ≠ r34 → bk_wp (bk_C d) P_279 Q 0 261 [bk_c 12 0, bk_i a1, bk_i a2, bk_i ((197 : Int) + ((4 : Int) * a1)), bk_i (M 58 0 (((197 : Int) + ((4 : Int) * a1)) + (1 : Int))), bk_i (M 58 0 (((197 : Int) + ((4 : Int) * a1)) + (2 : Int))), bk_x, bk_x] [] M35) ∧ (¬ (r31 ≠ r34) → bk_wp (bk_C d) P_279 Q 0 262 [bk_c 12 0, bk_i a1, bk_i a2, bk_i ((197 : Int) + ((4 : Int) * a1)), bk_i (M 58 0 (((197 : Int) + ((4 : Int) * a1)) + (1 : Int))), bk_i (M 58 0 (((197 : Int) + ((4 : Int) * a1)) + (2 : Int))), bk_x, bk_x] [bk_i (1 : Int)] M35)))))))) ∧ (M 58 0 ((197 : Int) + ((4 : Int) * a1)) ≠ (69 : Int) → ((M 58 0 ((197 : Int) + ((4 : Int) * a1)) = (70 : Int) → bk_r32 ((52 : Int) + a2) ∧ ((0 : Int) ≤ (52 : Int) + a2 ∧ (52 : Int) + a2 < (437 : Int)) ∧ bk_r32 ((52 : Int) + (M 58 0 (((197 : Int) + ((4 : Int) * a1)) + (1 : Int)))) ∧ ((0 : Int) ≤ (52 : Int) + (M 58 0 (((197 : Int) + ((4 : Int) * a1)) + (1 : Int))) ∧ (52 : Int) + (M 58 0 (((197 : Int) + ((4 : Int) * a1)) + (1 : Int))) < (437 : Int)) ∧ ((M 58 0 ((52 : Int) + (M 58 0 (((197 : Int) + ((4 : Int) * a1)) + (1 : Int)))) ≤ M 58 0 ((52 : Int) + a2) → bk_wp (bk_C d) P_279 Q 0 290 [bk_c 12 0, bk_i a1, bk_i a2, bk_i ((197 : Int) + ((4 : Int) * a1)), bk_i (M 58 0 (((197 : Int) + ((4 : Int) * a1)) + (1 : Int))), bk_i (M 58 0 (((197 : Int) + ((4 : Int) * a1)) + (2 : Int))), bk_x, bk_x] [bk_i (0 : Int)] M) ∧ (¬ (M 58 0 ((52 : Int) + (M 58 0 (((197 : Int) + ((4 : Int) * a1)) + (1 : Int)))) ≤ M 58 0 ((52 : Int) + a2)) → bk_wp (bk_C d) P_279 Q 0 290 [bk_c 12 0, bk_i a1, bk_i a2, bk_i ((197 : Int) + ((4 : Int) * a1)), bk_i (M 58 0 (((197 : Int) + ((4 : Int) * a1)) + (1 : Int))), bk_i (M 58 0 (((197 : Int) + ((4 : Int) * a1)) + (2 : Int))), bk_x, bk_x] [bk_i (1 : Int)] M))) ∧ (M 58 0 ((197 : Int) + ((4 : Int) * a1)) ≠ (70 : Int) → ((0 : Int) ≤ (197 : Int) + ((4 : Int) * a1) ∧ (197 : Int) + ((4 : Int) * a1) < (437 : Int)) ∧ bk_r32 ((M 58 0 ((197 : Int) + ((4 : Int) * a1))) - (50 : Int)) ∧ (((M 58 0 ((197 : Int) + ((4 : Int) * a1))) - (50 : Int) ≠ (21 : Int) → (((M 58 0 ((197 : Int) + ((4 : Int) * a1))) - (50 : Int) ≠ (22 : Int) → (((M 58 0 ((197 : Int) + ((4 : Int) * a1))) - (50 : Int) ≠ (23 : Int) → bk_wp (bk_C d) P_279 Q 0 382 [bk_c 12 0, bk_i a1, bk_i a2, bk_i ((197 : Int) + ((4 : Int) * a1)), bk_i (M 58 0 (((197 : Int) + ((4 : Int) * a1)) + (1 : Int))), bk_i (M 58 0 (((197 : Int) + ((4 : Int) * a1)) + (2 : Int))), bk_i ((M 58 0 ((197 : Int) + ((4 : Int) * a1))) - (50 : Int)), bk_x] [bk_i a2] M) ∧ (¬ ((M 58 0 ((197 : Int) + ((4 : Int) * a1))) - (50 : Int) ≠ (23 : Int)) → bk_r32 ((136 : Int) + a2) ∧ ((0 : Int) ≤ (136 : Int) + a2 ∧ (136 : Int) + a2 < (437 : Int)) ∧ bk_wp (bk_C d) P_279 Q 0 382 [bk_c 12 0, bk_i a1, bk_i a2, bk_i ((197 : Int) + ((4 : Int) * a1)), bk_i (M 58 0 (((197 : Int) + ((4 : Int) * a1)) + (1 : Int))), bk_i (M 58 0 (((197 : Int) + ((4 : Int) * a1)) + (2 : Int))), bk_i ((M 58 0 ((197 : Int) + ((4 : Int) * a1))) - (50 : Int)), bk_x] [bk_i (M 58 0 ((136 : Int) + a2))] M))) ∧ (¬ ((M 58 0 ((197 : Int) + ((4 : Int) * a1))) - (50 : Int) ≠ (22 : Int)) → bk_r32 ((52 : Int) + a2) ∧ ((0 : Int) ≤ (52 : Int) + a2 ∧ (52 : Int) + a2 < (437 : Int)) ∧ bk_r32 ((6 : Int) * (M 58 0 ((52 : Int) + a2))) ∧ bk_r32 ((85 : Int) + ((6 : Int) * (M 58 0 ((52 : Int) + a2)))) ∧ bk_r32 ((42 : Int) + a2) ∧ ((0 : Int) ≤ (42 : Int) + a2 ∧ (42 : Int) + a2 < (437 : Int)) ∧ bk_r32 (((85 : Int) + ((6 : Int) * (M 58 0 ((52 : Int) + a2)))) + (M 58 0 ((42 : Int) + a2))) ∧ ((0 : Int) ≤ ((85 : Int) + ((6 : Int) * (M 58 0 ((52 : Int) + a2)))) + (M 58 0 ((42 : Int) + a2)) ∧ ((85 : Int) + ((6 : Int) * (M 58 0 ((52 : Int) + a2)))) + (M 58 0 ((42 : Int) + a2)) < (437 : Int)) ∧ bk_wp (bk_C d) P_279 Q 0 382 [bk_c 12 0, bk_i a1, bk_i a2, bk_i ((197 : Int) + ((4 : Int) * a1)), bk_i (M 58 0 (((197 : Int) + ((4 : Int) * a1)) + (1 : Int))), bk_i (M 58 0 (((197 : Int) + ((4 : Int) * a1)) + (2 : Int))), bk_i ((M 58 0 ((197 : Int) + ((4 : Int) * a1))) - (50 : Int)), bk_x] [bk_i (M 58 0 (((85 : Int) + ((6 : Int) * (M 58 0 ((52 : Int) + a2)))) + (M 58 0 ((42 : Int) + a2))))] M))) ∧ (¬ ((M 58 0 ((197 : Int) + ((4 : Int) * a1))) - (50 : Int) ≠ (21 : Int)) → bk_r32 ((62 : Int) + a2) ∧ ((0 : Int) ≤ (62 : Int) + a2 ∧ (62 : Int) + a2 < (437 : Int)) ∧ bk_wp (bk_C d) P_279 Q 0 382 [bk_c 12 0, bk_i a1, bk_i a2, bk_i ((197 : Int) + ((4 : Int) * a1)), bk_i (M 58 0 (((197 : Int) + ((4 : Int) * a1)) + (1 : Int))), bk_i (M 58 0 (((197 : Int) + ((4 : Int) * a1)) + (2 : Int))), bk_i ((M 58 0 ((197 : Int) + ((4 : Int) * a1))) - (50 : Int)), bk_x] [bk_i (M 58 0 ((62 : Int) + a2))] M)))))))))))))))))))) := bk_iff (d := d) (P := P_279) (b := 0) (l := 0) (ls := [bk_c 12 0, bk_i a1, bk_i a2, bk_x, bk_x, bk_x, bk_x, bk_x]) (st := []) (M := M) [131, 156, 157, 178, 183, 197, 212, 227, 261, 262, 290, 382, 452] 40
theorem L_279_131 {d : Nat} {Q : bk_Q} (x1 : Int) (x2 : Int) (x3 : Int) (x4 : Int) (x5 : Int) (y0 : Int) (M : bk_M) : bk_wp (bk_C d) P_279 Q 0 131 [bk_c 12 0, bk_i x1, bk_i x2, bk_i x3, bk_i x4, bk_i x5, bk_x, bk_x] [bk_i y0] M ↔ (y0 = 0 ∨ y0 = 1) ∧ Q 0 y0 M := bk_iff [131, 156, 157, 178, 183, 197, 212, 227, 261, 262, 290, 382, 452] 40
theorem L_279_156 {d : Nat} {Q : bk_Q} (x1 : Int) (x2 : Int) (x3 : Int) (x4 : Int) (x5 : Int) (M : bk_M) : bk_wp (bk_C d) P_279 Q 0 156 [bk_c 12 0, bk_i x1, bk_i x2, bk_i x3, bk_i x4, bk_i x5, bk_x, bk_x] [] M ↔ bk_wp (bk_C d) P_279 Q 0 157 [bk_c 12 0, bk_i x1, bk_i x2, bk_i x3, bk_i x4, bk_i x5, bk_x, bk_x] [bk_i (0 : Int)] M := bk_iff [131, 156, 157, 178, 183, 197, 212, 227, 261, 262, 290, 382, 452] 40
theorem L_279_157 {d : Nat} {Q : bk_Q} (x1 : Int) (x2 : Int) (x3 : Int) (x4 : Int) (x5 : Int) (y0 : Int) (M : bk_M) : bk_wp (bk_C d) P_279 Q 0 157 [bk_c 12 0, bk_i x1, bk_i x2, bk_i x3, bk_i x4, bk_i x5, bk_x, bk_x] [bk_i y0] M ↔ (y0 = 0 ∨ y0 = 1) ∧ Q 0 y0 M := bk_iff [131, 156, 157, 178, 183, 197, 212, 227, 261, 262, 290, 382, 452] 40
theorem L_279_178 {d : Nat} {Q : bk_Q} (x1 : Int) (x2 : Int) (x3 : Int) (x4 : Int) (x5 : Int) (M : bk_M) : bk_wp (bk_C d) P_279 Q 0 178 [bk_c 12 0, bk_i x1, bk_i x2, bk_i x3, bk_i x4, bk_i x5, bk_x, bk_x] [] M ↔ bk_wp (bk_C d) P_279 Q 0 183 [bk_c 12 0, bk_i x1, bk_i x2, bk_i x3, bk_i x4, bk_i x5, bk_x, bk_x] [bk_i (1 : Int)] M := bk_iff [131, 156, 157, 178, 183, 197, 212, 227, 261, 262, 290, 382, 452] 40
theorem L_279_183 {d : Nat} {Q : bk_Q} (x1 : Int) (x2 : Int) (x3 : Int) (x4 : Int) (x5 : Int) (y0 : Int) (M : bk_M) : bk_wp (bk_C d) P_279 Q 0 183 [bk_c 12 0, bk_i x1, bk_i x2, bk_i x3, bk_i x4, bk_i x5, bk_x, bk_x] [bk_i y0] M ↔ (y0 = 0 ∨ y0 = 1) ∧ Q 0 y0 M := bk_iff [131, 156, 157, 178, 183, 197, 212, 227, 261, 262, 290, 382, 452] 40
theorem L_279_197 {d : Nat} {Q : bk_Q} (x1 : Int) (x2 : Int) (x3 : Int) (x4 : Int) (x5 : Int) (y0 : Int) (M : bk_M) : bk_wp (bk_C d) P_279 Q 0 197 [bk_c 12 0, bk_i x1, bk_i x2, bk_i x3, bk_i x4, bk_i x5, bk_x, bk_x] [bk_i y0] M ↔ (y0 = 0 ∨ y0 = 1) ∧ Q 0 y0 M := bk_iff [131, 156, 157, 178, 183, 197, 212, 227, 261, 262, 290, 382, 452] 40
theorem L_279_212 {d : Nat} {Q : bk_Q} (x1 : Int) (x2 : Int) (x3 : Int) (x4 : Int) (x5 : Int) (y0 : Int) (M : bk_M) : bk_wp (bk_C d) P_279 Q 0 212 [bk_c 12 0, bk_i x1, bk_i x2, bk_i x3, bk_i x4, bk_i x5, bk_x, bk_x] [bk_i y0] M ↔ (y0 = 0 ∨ y0 = 1) ∧ Q 0 y0 M := bk_iff [131, 156, 157, 178, 183, 197, 212, 227, 261, 262, 290, 382, 452] 40
theorem L_279_227 {d : Nat} {Q : bk_Q} (x1 : Int) (x2 : Int) (x3 : Int) (x4 : Int) (x5 : Int) (y0 : Int) (M : bk_M) : bk_wp (bk_C d) P_279 Q 0 227 [bk_c 12 0, bk_i x1, bk_i x2, bk_i x3, bk_i x4, bk_i x5, bk_x, bk_x] [bk_i y0] M ↔ (y0 = 0 ∨ y0 = 1) ∧ Q 0 y0 M := bk_iff [131, 156, 157, 178, 183, 197, 212, 227, 261, 262, 290, 382, 452] 40
theorem L_279_261 {d : Nat} {Q : bk_Q} (x1 : Int) (x2 : Int) (x3 : Int) (x4 : Int) (x5 : Int) (M : bk_M) : bk_wp (bk_C d) P_279 Q 0 261 [bk_c 12 0, bk_i x1, bk_i x2, bk_i x3, bk_i x4, bk_i x5, bk_x, bk_x] [] M ↔ bk_wp (bk_C d) P_279 Q 0 262 [bk_c 12 0, bk_i x1, bk_i x2, bk_i x3, bk_i x4, bk_i x5, bk_x, bk_x] [bk_i (0 : Int)] M := bk_iff [131, 156, 157, 178, 183, 197, 212, 227, 261, 262, 290, 382, 452] 40
theorem L_279_262 {d : Nat} {Q : bk_Q} (x1 : Int) (x2 : Int) (x3 : Int) (x4 : Int) (x5 : Int) (y0 : Int) (M : bk_M) : bk_wp (bk_C d) P_279 Q 0 262 [bk_c 12 0, bk_i x1, bk_i x2, bk_i x3, bk_i x4, bk_i x5, bk_x, bk_x] [bk_i y0] M ↔ (y0 = 0 ∨ y0 = 1) ∧ Q 0 y0 M := bk_iff [131, 156, 157, 178, 183, 197, 212, 227, 261, 262, 290, 382, 452] 40
theorem L_279_290 {d : Nat} {Q : bk_Q} (x1 : Int) (x2 : Int) (x3 : Int) (x4 : Int) (x5 : Int) (y0 : Int) (M : bk_M) : bk_wp (bk_C d) P_279 Q 0 290 [bk_c 12 0, bk_i x1, bk_i x2, bk_i x3, bk_i x4, bk_i x5, bk_x, bk_x] [bk_i y0] M ↔ (y0 = 0 ∨ y0 = 1) ∧ Q 0 y0 M := bk_iff [131, 156, 157, 178, 183, 197, 212, 227, 261, 262, 290, 382, 452] 40
theorem L_279_382 {d : Nat} {Q : bk_Q} (x1 : Int) (x2 : Int) (x3 : Int) (x4 : Int) (x5 : Int) (x6 : Int) (y0 : Int) (M : bk_M) : bk_wp (bk_C d) P_279 Q 0 382 [bk_c 12 0, bk_i x1, bk_i x2, bk_i x3, bk_i x4, bk_i x5, bk_i x6, bk_x] [bk_i y0] M ↔ bk_r32 (x3 + (3 : Int)) ∧ ((0 : Int) ≤ x3 + (3 : Int) ∧ x3 + (3 : Int) < (437 : Int)) ∧ ((M 58 0 (x3 + (3 : Int)) ≠ (60 : Int) → bk_r32 (x3 + (3 : Int)) ∧ ((0 : Int) ≤ x3 + (3 : Int) ∧ x3 + (3 : Int) < (437 : Int)) ∧ ((M 58 0 (x3 + (3 : Int)) ≠ (61 : Int) → ((y0 ≤ x5 → bk_wp (bk_C d) P_279 Q 0 452 [bk_c 12 0, bk_i x1, bk_i x2, bk_i x3, bk_i x4, bk_i x5, bk_i x6, bk_i y0] [bk_i (0 : Int)] M) ∧ (¬ (y0 ≤ x5) → bk_wp (bk_C d) P_279 Q 0 452 [bk_c 12 0, bk_i x1, bk_i x2, bk_i x3, bk_i x4, bk_i x5, bk_i x6, bk_i y0] [bk_i (1 : Int)] M))) ∧ (¬ (M 58 0 (x3 + (3 : Int)) ≠ (61 : Int)) → ((y0 ≠ x5 → bk_wp (bk_C d) P_279 Q 0 452 [bk_c 12 0, bk_i x1, bk_i x2, bk_i x3, bk_i x4, bk_i x5, bk_i x6, bk_i y0] [bk_i (0 : Int)] M) ∧ (¬ (y0 ≠ x5) → bk_wp (bk_C d) P_279 Q 0 452 [bk_c 12 0, bk_i x1, bk_i x2, bk_i x3, bk_i x4, bk_i x5, bk_i x6, bk_i y0] [bk_i (1 : Int)] M))))) ∧ (¬ (M 58 0 (x3 + (3 : Int)) ≠ (60 : Int)) → ((x5 ≤ y0 → bk_wp (bk_C d) P_279 Q 0 452 [bk_c 12 0, bk_i x1, bk_i x2, bk_i x3, bk_i x4, bk_i x5, bk_i x6, bk_i y0] [bk_i (0 : Int)] M) ∧ (¬ (x5 ≤ y0) → bk_wp (bk_C d) P_279 Q 0 452 [bk_c 12 0, bk_i x1, bk_i x2, bk_i x3, bk_i x4, bk_i x5, bk_i x6, bk_i y0] [bk_i (1 : Int)] M)))) := bk_iff [131, 156, 157, 178, 183, 197, 212, 227, 261, 262, 290, 382, 452] 40
theorem L_279_452 {d : Nat} {Q : bk_Q} (x1 : Int) (x2 : Int) (x3 : Int) (x4 : Int) (x5 : Int) (x6 : Int) (x7 : Int) (y0 : Int) (M : bk_M) : bk_wp (bk_C d) P_279 Q 0 452 [bk_c 12 0, bk_i x1, bk_i x2, bk_i x3, bk_i x4, bk_i x5, bk_i x6, bk_i x7] [bk_i y0] M ↔ (y0 = 0 ∨ y0 = 1) ∧ Q 0 y0 M := bk_iff [131, 156, 157, 178, 183, 197, 212, 227, 261, 262, 290, 382, 452] 40
theorem E_280 {d : Nat} {Q : bk_Q} (a1 : Int) (M : bk_M) : bk_C (d + 1) 0 280 [bk_c 12 0, bk_i a1] M Q ↔ bk_r32 ((42 : Int) + a1) ∧ ((0 : Int) ≤ (42 : Int) + a1 ∧ (42 : Int) + a1 < (437 : Int)) ∧ bk_r32 ((52 : Int) + a1) ∧ ((0 : Int) ≤ (52 : Int) + a1 ∧ (52 : Int) + a1 < (437 : Int)) ∧ bk_r32 ((121 : Int) + (M 58 0 ((52 : Int) + a1))) ∧ ((0 : Int) ≤ (121 : Int) + (M 58 0 ((52 : Int) + a1)) ∧ (121 : Int) + (M 58 0 ((52 : Int) + a1)) < (437 : Int)) ∧ bk_r32 ((M 58 0 ((42 : Int) + a1)) - (M 58 0 ((121 : Int) + (M 58 0 ((52 : Int) + a1))))) ∧ bk_C d 0 211 [bk_i ((M 58 0 ((42 : Int) + a1)) - (M 58 0 ((121 : Int) + (M 58 0 ((52 : Int) + a1)))))] M (fun t3 r1 M2 => t3 = 0 ∧ ((r1 ≠ (1 : Int) → ((0 : Int) = 0 ∨ (0 : Int) = 1) ∧ Q 0 (0 : Int) M2) ∧ (¬ (r1 ≠ (1 : Int)) → ((1 : Int) = 0 ∨ (1 : Int) = 1) ∧ Q 0 (1 : Int) M2))) := bk_iff (d := d) (P := P_280) (b := 0) (l := 0) (ls := [bk_c 12 0, bk_i a1]) (st := []) (M := M) [] 40
theorem E_281 {d : Nat} {Q : bk_Q} (a1 : Int) (M : bk_M) : bk_C (d + 1) 0 281 [bk_c 12 0, bk_i a1] M Q ↔ ∀ M1 : bk_M, M1 = bk_up M 12 0 (0 : Int) (0 : Int) → bk_C d 0 157 [bk_i a1, bk_i (0 : Int), bk_i (1 : Int)] M1 (fun t4 r2 M3 => t4 = 0 ∧ ((r2 ≠ (0 : Int) → bk_wp (bk_C d) P_281 Q 0 18 [bk_c 12 0, bk_i a1, bk_i (0 : Int)] [] M3) ∧ (¬ (r2 ≠ (0 : Int)) → ((0 : Int) = 0 ∨ (0 : Int) = 1) ∧ Q 0 (0 : Int) M3))) := bk_iff (d := d) (P := P_281) (b := 0) (l := 0) (ls := [bk_c 12 0, bk_i a1, bk_x]) (st := []) (M := M) [18, 51] 40
theorem L_281_18 {d : Nat} {Q : bk_Q} (x1 : Int) (x2 : Int) (M : bk_M) : bk_wp (bk_C d) P_281 Q 0 18 [bk_c 12 0, bk_i x1, bk_i x2] [] M ↔ (((437 : Int) ≤ x2 → bk_wp (bk_C d) P_281 Q 0 51 [bk_c 12 0, bk_i x1, bk_i (0 : Int)] [] M) ∧ (¬ ((437 : Int) ≤ x2) → bk_r32 ((437 : Int) * x1) ∧ bk_r32 (((437 : Int) * x1) + x2) ∧ ((0 : Int) ≤ x2 ∧ x2 < (437 : Int)) ∧ ((0 : Int) ≤ ((437 : Int) * x1) + x2 ∧ ((437 : Int) * x1) + x2 < (874 : Int)) ∧ ∀ M1 : bk_M, M1 = bk_up M 60 0 (((437 : Int) * x1) + x2) (M 58 0 x2) → bk_r32 (x2 + (1 : Int)) ∧ bk_wp (bk_C d) P_281 Q 0 18 [bk_c 12 0, bk_i x1, bk_i (x2 + (1 : Int))] [] M1)) := bk_iff [18, 51] 40
theorem L_281_51 {d : Nat} {Q : bk_Q} (x1 : Int) (x2 : Int) (M : bk_M) : bk_wp (bk_C d) P_281 Q 0 51 [bk_c 12 0, bk_i x1, bk_i x2] [] M ↔ (((13 : Int) ≤ x2 → ((0 : Int) ≤ x1 ∧ x1 < (2 : Int)) ∧ ((1 : Int) = 0 ∨ (1 : Int) = 1) ∧ ∀ M1 : bk_M, M1 = bk_up M 66 0 x1 (1 : Int) → ((1 : Int) = 0 ∨ (1 : Int) = 1) ∧ Q 0 (1 : Int) M1) ∧ (¬ ((13 : Int) ≤ x2) → bk_r32 ((13 : Int) * x1) ∧ bk_r32 (((13 : Int) * x1) + x2) ∧ ((0 : Int) ≤ x2 ∧ x2 < (13 : Int)) ∧ ((0 : Int) ≤ ((13 : Int) * x1) + x2 ∧ ((13 : Int) * x1) + x2 < (26 : Int)) ∧ ∀ M2 : bk_M, M2 = bk_up M 65 0 (((13 : Int) * x1) + x2) (M 63 0 x2) → bk_r32 (x2 + (1 : Int)) ∧ bk_wp (bk_C d) P_281 Q 0 51 [bk_c 12 0, bk_i x1, bk_i (x2 + (1 : Int))] [] M2)) := bk_iff [18, 51] 40
theorem E_282 {d : Nat} {Q : bk_Q} (a1 : Int) (M : bk_M) : bk_C (d + 1) 0 282 [bk_c 12 0, bk_i a1] M Q ↔ ∀ M1 : bk_M, M1 = bk_up M 12 0 (0 : Int) (0 : Int) → bk_C d 0 157 [bk_i a1, bk_i (0 : Int), bk_i (1 : Int)] M1 (fun t4 r2 M3 => t4 = 0 ∧ ((r2 = (0 : Int) → ((0 : Int) = 0 ∨ (0 : Int) = 1) ∧ Q 0 (0 : Int) M3) ∧ (¬ (r2 = (0 : Int)) → ((0 : Int) ≤ a1 ∧ a1 < (2 : Int)) ∧ ((M3 66 0 a1 ≠ (0 : Int) → bk_wp (bk_C d) P_282 Q 0 27 [bk_c 12 0, bk_i a1, bk_i (0 : Int)] [] M3) ∧ (¬ (M3 66 0 a1 ≠ (0 : Int)) → ((0 : Int) = 0 ∨ (0 : Int) = 1) ∧ Q 0 (0 : Int) M3))))) := bk_iff (d := d) (P := P_282) (b := 0) (l := 0) (ls := [bk_c 12 0, bk_i a1, bk_x]) (st := []) (M := M) [27, 60] 40
theorem L_282_27 {d : Nat} {Q : bk_Q} (x1 : Int) (x2 : Int) (M : bk_M) : bk_wp (bk_C d) P_282 Q 0 27 [bk_c 12 0, bk_i x1, bk_i x2] [] M ↔ (((437 : Int) ≤ x2 → bk_wp (bk_C d) P_282 Q 0 60 [bk_c 12 0, bk_i x1, bk_i (0 : Int)] [] M) ∧ (¬ ((437 : Int) ≤ x2) → bk_r32 ((437 : Int) * x1) ∧ bk_r32 (((437 : Int) * x1) + x2) ∧ ((0 : Int) ≤ ((437 : Int) * x1) + x2 ∧ ((437 : Int) * x1) + x2 < (874 : Int)) ∧ ((0 : Int) ≤ x2 ∧ x2 < (437 : Int)) ∧ ∀ M1 : bk_M, M1 = bk_up M 58 0 x2 (M 60 0 (((437 : Int) * x1) + x2)) → bk_r32 (x2 + (1 : Int)) ∧ bk_wp (bk_C d) P_282 Q 0 27 [bk_c 12 0, bk_i x1, bk_i (x2 + (1 : Int))] [] M1)) := bk_iff [27, 60] 40
theorem L_282_60 {d : Nat} {Q : bk_Q} (x1 : Int) (x2 : Int) (M : bk_M) : bk_wp (bk_C d) P_282 Q 0 60 [bk_c 12 0, bk_i x1, bk_i x2] [] M ↔ (((13 : Int) ≤ x2 → ∀ M1 : bk_M, M1 = bk_up M 12 0 (25 : Int) (0 : Int) → ((1 : Int) = 0 ∨ (1 : Int) = 1) ∧ Q 0 (1 : Int) M1) ∧ (¬ ((13 : Int) ≤ x2) → bk_r32 ((13 : Int) * x1) ∧ bk_r32 (((13 : Int) * x1) + x2) ∧ ((0 : Int) ≤ ((13 : Int) * x1) + x2 ∧ ((13 : Int) * x1) + x2 < (26 : Int)) ∧ ((0 : Int) ≤ x2 ∧ x2 < (13 : Int)) ∧ ∀ M2 : bk_M, M2 = bk_up M 63 0 x2 (M 65 0 (((13 : Int) * x1) + x2)) → bk_r32 (x2 + (1 : Int)) ∧ bk_wp (bk_C d) P_282 Q 0 60 [bk_c 12 0, bk_i x1, bk_i (x2 + (1 : Int))] [] M2)) := bk_iff [27, 60] 40
theorem E_283 {d : Nat} {Q : bk_Q} (a1 : Int) (M : bk_M) : bk_C (d + 1) 0 283 [bk_c 12 0, bk_i a1] M Q ↔ ∀ M1 : bk_M, M1 = bk_up M 12 0 (0 : Int) (0 : Int) → ((a1 = (0 : Int) → ((0 : Int) ≤ (0 : Int) ∧ (0 : Int) < (437 : Int)) ∧ Q 0 (M1 58 0 (0 : Int)) M1) ∧ (a1 ≠ (0 : Int) → ((a1 = (1 : Int) → ((0 : Int) ≤ (2 : Int) ∧ (2 : Int) < (437 : Int)) ∧ Q 0 (M1 58 0 (2 : Int)) M1) ∧ (a1 ≠ (1 : Int) → ((a1 = (2 : Int) → ((0 : Int) ≤ (3 : Int) ∧ (3 : Int) < (437 : Int)) ∧ Q 0 (M1 58 0 (3 : Int)) M1) ∧ (a1 ≠ (2 : Int) → ((a1 = (3 : Int) → ((0 : Int) ≤ (4 : Int) ∧ (4 : Int) < (437 : Int)) ∧ Q 0 (M1 58 0 (4 : Int)) M1) ∧ (a1 ≠ (3 : Int) → ((a1 = (4 : Int) → ((0 : Int) ≤ (5 : Int) ∧ (5 : Int) < (437 : Int)) ∧ Q 0 (M1 58 0 (5 : Int)) M1) ∧ (a1 ≠ (4 : Int) → ((a1 = (5 : Int) → ((0 : Int) ≤ (1 : Int) ∧ (1 : Int) < (437 : Int)) ∧ Q 0 (M1 58 0 (1 : Int)) M1) ∧ (a1 ≠ (5 : Int) → ((a1 = (6 : Int) → Q 0 (M1 12 0 (2 : Int)) M1) ∧ (a1 ≠ (6 : Int) → Q 0 (-1 : Int) M1)))))))))))))) := bk_iff (d := d) (P := P_283) (b := 0) (l := 0) (ls := [bk_c 12 0, bk_i a1]) (st := []) (M := M) [] 40
end
section
/-! Numbers, sums, bits: what both sides count with. -/
theorem bk_and_mod {x m : Int} {k : Nat} (hk : k < 32) (hm : m = 2 ^ k - 1) : bk_and x m = x % 2 ^ k := by
  unfold bk_and
  have h1 : (BitVec.ofInt 32 m).toNat = 2 ^ k - 1 := by
    subst hm
    have key : ∀ k : Nat, k < 32 → (BitVec.ofInt 32 (2 ^ k - 1)).toNat = 2 ^ k - 1 := by decide +kernel
    exact key k hk
  have h2 : (BitVec.ofInt 32 x &&& BitVec.ofInt 32 m).toNat = (x % 2 ^ k).toNat := by
    rw [BitVec.toNat_and, h1, Nat.and_two_pow_sub_one_eq_mod, BitVec.toNat_ofInt]
    have h3 : (((2 : Nat) ^ 32 : Nat) : Int) = 2 ^ 32 := by decide
    rw [h3]
    have h4 : (0 : Int) ≤ x % 2 ^ 32 := Int.emod_nonneg _ (by decide)
    have h5 : (x % 2 ^ 32) % 2 ^ k = x % 2 ^ k := Int.emod_emod_of_dvd x ⟨2 ^ (32 - k), by rw [← Int.pow_add]; congr 1; omega⟩
    have h6 : (((x % 2 ^ 32).toNat % 2 ^ k : Nat) : Int) = x % 2 ^ k := by
      rw [Int.natCast_emod, Int.toNat_of_nonneg h4, Int.natCast_pow]
      exact h5
    omega
  have h7 : (0 : Int) < 2 ^ k := Int.pow_pos (by omega)
  have h8 := Int.emod_nonneg x (Int.ne_of_gt h7)
  have h9 := Int.emod_lt_of_pos x h7
  have h10 : (2 : Int) ^ k ≤ 2147483648 := by
    have key : ∀ k : Nat, k < 32 → (2 : Int) ^ k ≤ 2147483648 := by decide
    exact key k hk
  rw [BitVec.toInt_eq_toNat_of_lt, h2]
  · omega
  · rw [h2]; omega
theorem bk_and1 (x : Int) : bk_and x 1 = x % 2 := bk_and_mod (k := 1) (by decide) (by decide)
theorem bk_and63 (x : Int) : bk_and x 63 = x % 64 := bk_and_mod (k := 6) (by decide) (by decide)
theorem bk_and255 (x : Int) : bk_and x 255 = x % 256 := bk_and_mod (k := 8) (by decide) (by decide)
theorem bk_w32_id {z : Int} (h : bk_r32 z) : bk_w32 z = z := by
  unfold bk_r32 at h
  unfold bk_w32
  exact Int.bmod_eq_of_le (by omega) (by omega)
def bkSum (g : Int → Int) : Nat → Int
  | 0 => 0
  | n + 1 => bkSum g n + g n
theorem bkSum_congr {g h : Int → Int} : ∀ {n : Nat}, (∀ k : Nat, k < n → g k = h k) → bkSum g n = bkSum h n
  | 0, _ => rfl
  | n + 1, q => by
    unfold bkSum
    rw [bkSum_congr fun k hk => q k (by omega), q n (by omega)]
theorem bkSum_le {g : Int → Int} {c : Int} : ∀ {n : Nat}, (∀ k : Nat, k < n → 0 ≤ g k ∧ g k ≤ c) → 0 ≤ bkSum g n ∧ bkSum g n ≤ n * c
  | 0, _ => by simp [bkSum]
  | n + 1, q => by
    unfold bkSum
    have h1 := bkSum_le (n := n) fun k hk => q k (by omega)
    have h2 := q n (by omega)
    have h3 : ((n + 1 : Nat) : Int) * c = n * c + c := by push_cast; rw [Int.add_mul, Int.one_mul]
    omega
/-- a set of fields, as bits -/
def bkBits (p : Int → Bool) : Nat → Int := bkSum fun f => if p f then 2 ^ f.toNat else 0
theorem bkBits_lt (p : Int → Bool) : ∀ n : Nat, 0 ≤ bkBits p n ∧ bkBits p n < 2 ^ n
  | 0 => by simp [bkBits, bkSum]
  | n + 1 => by
    have h := bkBits_lt p n
    have h2 : bkBits p (n + 1) = bkBits p n + (if p n then 2 ^ n else 0) := by
      unfold bkBits; rw [bkSum]; simp
    rw [h2, Int.pow_succ]
    split <;> omega
theorem bk_or_bit : ∀ f : Nat, f < 10 → ∀ x : Nat, x < 2 ^ f → bk_or x (2 ^ f) = x + 2 ^ f := by decide +kernel
theorem bkBits_or {p : Int → Bool} {n : Nat} (h : n < 10) : bk_or (bkBits p n) (2 ^ n) = bkBits p n + 2 ^ n := by
  have h1 := bkBits_lt p n
  obtain ⟨x, hx⟩ : ∃ x : Nat, bkBits p n = x := ⟨(bkBits p n).toNat, by omega⟩
  rw [hx] at h1 ⊢
  exact bk_or_bit n h x (by have := h1.2; exact_mod_cast this)
theorem bkBits_succ (p : Int → Bool) (n : Nat) : bkBits p (n + 1) = bkBits p n + (if p n then 2 ^ n else 0) := by
  unfold bkBits; rw [bkSum]; simp
theorem bkBits_congr {p q : Int → Bool} {n : Nat} (h : ∀ k : Nat, k < n → p k = q k) : bkBits p n = bkBits q n :=
  bkSum_congr fun k hk => by show (if p k = true then _ else _) = _; rw [h k hk]
theorem bkBits_get {p : Int → Bool} (k : Nat) : ∀ n : Nat, bkBits p n / 2 ^ k % 2 = if k < n ∧ p k = true then 1 else 0
  | 0 => by simp [bkBits, bkSum]
  | n + 1 => by
    have ih := bkBits_get (p := p) k n
    have hlt := bkBits_lt p n
    rw [bkBits_succ]
    have hp : (0 : Int) < 2 ^ k := Int.pow_pos (by omega)
    rcases Nat.lt_trichotomy k n with h | h | h
    · by_cases hn : p n = true
      · rw [if_pos hn]
        have e : (2 : Int) ^ n = 2 ^ (n - k - 1) * 2 * 2 ^ k := by
          rw [← Int.pow_succ, ← Int.pow_add]; congr 1; omega
        rw [e, Int.add_mul_ediv_right _ _ (Int.ne_of_gt hp), Int.add_mul_emod_self_right, ih]
        simp only [h, show k < n + 1 by omega, true_and]
      · rw [if_neg hn, Int.add_zero, ih]
        simp only [h, show k < n + 1 by omega, true_and]
    · subst h
      have e0 : bkBits p k / 2 ^ k = 0 := Int.ediv_eq_zero_of_lt hlt.1 hlt.2
      by_cases hn : p k = true
      · have e1 : (bkBits p k + 2 ^ k) / 2 ^ k = 1 := by
          have := Int.add_mul_ediv_right (bkBits p k) 1 (Int.ne_of_gt hp)
          rw [Int.one_mul] at this
          rw [this, e0]; rfl
        rw [if_pos hn, e1]
        simp [hn]
      · rw [if_neg hn, Int.add_zero, e0]
        simp [hn]
    · have hle : (2 : Int) ^ (n + 1) ≤ 2 ^ k := by
        have := Nat.pow_le_pow_right (show 0 < 2 by omega) (show n + 1 ≤ k by omega)
        exact_mod_cast this
      have h2 := bkBits_lt p (n + 1)
      rw [bkBits_succ] at h2
      have e0 : (bkBits p n + (if p n then 2 ^ n else 0)) / 2 ^ k = 0 := Int.ediv_eq_zero_of_lt h2.1 (by omega)
      rw [e0]
      simp [show ¬ k < n + 1 by omega]
/-- whose a cell is by a bed -/
def bkBank (co : Int → Int) (c : Int) : Int := if c % 6 = co (c / 6) then 2 else if c % 6 < co (c / 6) then 0 else 1
end
section
/-! Small methods, each as one equivalence. -/
theorem S41 {d i k : Nat} {Q : bk_Q} {c : Int} {M : bk_M} (hk : k = 29 ∨ k = 46) (h0 : 0 ≤ c) (h1 : c < 36) : bk_C (d + 1) 0 41 [bk_c k i, bk_i c] M Q ↔ Q 0 (bkBank (M k i) c) M := by
  rw [GE_41 hk]; unfold bkBank; grind
/-- a plain of the class, within its bounds -/
def bkPl (M : bk_M) (i : Nat) : Prop :=
  (3 ≤ M 5 i 0 ∧ M 5 i 0 ≤ 6) ∧ (2 ≤ M 5 i 1 ∧ M 5 i 1 ≤ 6) ∧ (0 ≤ M 5 i 2 ∧ M 5 i 2 < M 5 i 0) ∧ (0 ≤ M 5 i 3 ∧ M 5 i 3 ≤ 5) ∧ (0 ≤ M 5 i 6 ∧ M 5 i 6 ≤ 10) ∧ (0 ≤ M 5 i 11 ∧ M 5 i 11 ≤ 3) ∧ (0 ≤ M 5 i 17 ∧ M 5 i 17 ≤ 400) ∧
  (∀ c, 0 ≤ c → c < 36 → 0 ≤ M 28 i c ∧ M 28 i c ≤ 9) ∧ (∀ y, 0 ≤ y → y < M 5 i 1 → 0 ≤ M 29 i y ∧ M 29 i y < M 5 i 0) ∧
  (∀ f, 0 ≤ f → f < M 5 i 6 → 0 ≤ M 30 i f ∧ M 30 i f % 6 < M 5 i 0 ∧ M 30 i f / 6 < M 5 i 1 ∧ 1 ≤ M 31 i f ∧ M 31 i f ≤ 20 ∧ 0 ≤ M 32 i f ∧ M 32 i f ≤ M 5 i 17) ∧
  (∀ m, 0 ≤ m → m < M 5 i 11 → 0 ≤ M 34 i m ∧ M 34 i m % 6 < M 5 i 0 ∧ M 34 i m / 6 < M 5 i 1) ∧
  (∀ s, 0 ≤ s → s < 2 → 0 ≤ M 37 i s ∧ M 37 i s ≤ 999)
theorem bkPl_cell {M : bk_M} {i : Nat} (h : bkPl M i) {f : Int} (h0 : 0 ≤ f) (h1 : f < M 5 i 6) : 0 ≤ M 30 i f ∧ M 30 i f < 36 := by
  obtain ⟨a, b, c, e, g, m, n, p, q, r, s, t⟩ := h
  have := r f h0 h1
  omega
def bkIs (M : bk_M) (i k j : Nat) (s : Int) : Int → Bool := fun f => decide (bkBank (M k j) (M 30 i f) = s)
theorem S48 {d i j k : Nat} {Q : bk_Q} {s : Int} {M : bk_M} (hk : k = 29 ∨ k = 46) (hP : bkPl M i) : bk_C (d + 2) 0 48 [bk_c 5 i, bk_c k j, bk_i s] M Q ↔ Q 0 (bkBits (bkIs M i k j s) (M 5 i 6).toNat) M := by
  have hf : 0 ≤ M 5 i 6 ∧ M 5 i 6 ≤ 10 := hP.2.2.2.2.1
  refine bk_det (fun Q hQ => ?_) Q
  rw [GE_48 hk]
  have key : ∀ (n : Nat) (f : Nat), f + n = (M 5 i 6).toNat → bk_wp (bk_C (d + 1)) P_48 Q 0 5 [bk_c 5 i, bk_c k j, bk_i s, bk_i (bkBits (bkIs M i k j s) f), bk_i f] [] M := by
    intro n
    induction n with
    | zero =>
      intro f hf2
      rw [GL_48_5 hk]
      refine ⟨fun _ => ?_, fun q => absurd (by omega) q⟩
      rw [show f = (M 5 i 6).toNat by omega]; exact hQ
    | succ n ih =>
      intro f hf2
      rw [GL_48_5 hk]
      refine ⟨fun q => absurd q (by omega), fun _ => ⟨by omega, ?_⟩⟩
      obtain ⟨c0, c1⟩ := bkPl_cell hP (f := f) (by omega) (by omega)
      rw [S41 hk c0 c1]
      have ih := ih (f + 1) (by omega)
      rw [bkBits_succ] at ih
      have e : ((f + 1 : Nat) : Int) = (f : Int) + 1 := by omega
      rw [e] at ih
      have hb := bkBits_lt (bkIs M i k j s) f
      have hp : (2 : Int) ^ f ≤ 1024 := by
        have key : ∀ f : Nat, f < 10 → (2 : Int) ^ f ≤ 1024 := by decide
        exact key f (by omega)
      have hp0 : (0 : Int) < 2 ^ f := Int.pow_pos (by omega)
      refine ⟨rfl, fun q => ?_, fun q => ?_⟩
      · rw [if_neg (by simpa [bkIs] using q), Int.add_zero] at ih
        exact ⟨by unfold bk_r32; omega, ih⟩
      · rw [if_pos (by simpa [bkIs] using q)] at ih
        have e2 : (1 : Int) * 2 ^ (f : Int).toNat = 2 ^ f := by rw [Int.one_mul]; rfl
        refine ⟨⟨by omega, by omega, by rw [e2]; unfold bk_r32; omega⟩, by unfold bk_r32; omega, ?_⟩
        rw [e2, bkBits_or (by omega)]
        exact ih
  exact key (M 5 i 6).toNat 0 (by omega)
/-- the worth of the fields that p picks -/
def bkWorth (w : Int → Int) (p : Int → Bool) : Nat → Int := bkSum fun f => if p f then w f else 0
theorem bkWorth_succ (w : Int → Int) (p : Int → Bool) (n : Nat) : bkWorth w p (n + 1) = bkWorth w p n + (if p n then w n else 0) := rfl
theorem bkWorth_le {w : Int → Int} {p : Int → Bool} {n : Nat} (h : ∀ k : Nat, k < n → 0 ≤ w k ∧ w k ≤ 20) : 0 ≤ bkWorth w p n ∧ bkWorth w p n ≤ n * 20 := by
  refine bkSum_le fun k hk => ?_
  have := h k hk
  show 0 ≤ (if p k = true then w k else 0) ∧ (if p k = true then w k else 0) ≤ 20
  split <;> omega
theorem bkWorth_congr {w v : Int → Int} {p q : Int → Bool} {n : Nat} (h : ∀ k : Nat, k < n → p k = q k ∧ w k = v k) : bkWorth w p n = bkWorth v q n :=
  bkSum_congr fun k hk => by show (if p k = true then _ else _) = _; rw [(h k hk).1, (h k hk).2]
theorem S49 {d i j k : Nat} {Q : bk_Q} {s : Int} {M : bk_M} (hk : k = 29 ∨ k = 46) (hP : bkPl M i) : bk_C (d + 2) 0 49 [bk_c 5 i, bk_c k j, bk_i s] M Q ↔ Q 0 (bkWorth (M 31 i) (bkIs M i k j s) (M 5 i 6).toNat) M := by
  have hf : 0 ≤ M 5 i 6 ∧ M 5 i 6 ≤ 10 := hP.2.2.2.2.1
  refine bk_det (fun Q hQ => ?_) Q
  rw [GE_49 hk]
  have key : ∀ (n : Nat) (f : Nat), f + n = (M 5 i 6).toNat → bk_wp (bk_C (d + 1)) P_49 Q 0 5 [bk_c 5 i, bk_c k j, bk_i s, bk_i (bkWorth (M 31 i) (bkIs M i k j s) f), bk_i f] [] M := by
    intro n
    induction n with
    | zero =>
      intro f hf2
      rw [GL_49_5 hk]
      refine ⟨fun _ => ?_, fun q => absurd (by omega) q⟩
      rw [show f = (M 5 i 6).toNat by omega]; exact hQ
    | succ n ih =>
      intro f hf2
      rw [GL_49_5 hk]
      refine ⟨fun q => absurd q (by omega), fun _ => ⟨by omega, ?_⟩⟩
      obtain ⟨c0, c1⟩ := bkPl_cell hP (f := f) (by omega) (by omega)
      rw [S41 hk c0 c1]
      have ih := ih (f + 1) (by omega)
      rw [bkWorth_succ] at ih
      have e : ((f + 1 : Nat) : Int) = (f : Int) + 1 := by omega
      rw [e] at ih
      have hw := bkWorth_le (w := M 31 i) (p := bkIs M i k j s) (n := f) (fun q hq => by have := hP.2.2.2.2.2.2.2.2.2.1 q (by omega) (by omega); omega)
      have hw2 := hP.2.2.2.2.2.2.2.2.2.1 f (by omega) (by omega)
      refine ⟨rfl, fun q => ?_, fun q => ?_⟩
      · rw [if_neg (by simpa [bkIs] using q), Int.add_zero] at ih
        exact ⟨by unfold bk_r32; omega, ih⟩
      · rw [if_pos (by simpa [bkIs] using q)] at ih
        exact ⟨by omega, by unfold bk_r32; omega, by unfold bk_r32; omega, ih⟩
  exact key (M 5 i 6).toNat 0 (by omega)
end
section
theorem bkSum_s (g : Int → Int) {k : Int} (h : 0 ≤ k) : bkSum g (k + 1).toNat = bkSum g k.toNat + g k := by
  rw [show (k + 1).toNat = k.toNat + 1 by omega, bkSum, Int.toNat_of_nonneg h]
/-- a loop that counts from 0 to n -/
theorem bk_for {W : Int → Prop} {n : Int} (hn : 0 ≤ n) (hs : ∀ k, 0 ≤ k → k < n → W (k + 1) → W k) (he : W n) : W 0 := by
  have key : ∀ (j : Nat), ∀ k : Int, 0 ≤ k → k + j = n → W k := by
    intro j
    induction j with
    | zero => intro k _ e; rw [show k = n by omega]; exact he
    | succ j ih => intro k h0 e; exact hs k h0 (by omega) (ih (k + 1) (by omega) (by omega))
  exact key n.toNat 0 (by omega) (by omega)
/-- a loop that adds g -/
theorem bk_forS {W : Int → Int → Prop} {g : Int → Int} {c n : Int} (hn : 0 ≤ n) (hb : ∀ k, 0 ≤ k → k < n → 0 ≤ g k ∧ g k ≤ c) (hs : ∀ k acc, 0 ≤ k → k < n → 0 ≤ acc → acc ≤ k * c → W (acc + g k) (k + 1) → W acc k) (he : W (bkSum g n.toNat) n) : W 0 0 := by
  refine bk_for (W := fun k => W (bkSum g k.toNat) k) hn (fun k h0 h1 h => ?_) he
  have h2 := bkSum_le (g := g) (c := c) (n := k.toNat) (fun q hq => hb q (by omega) (by omega))
  rw [Int.toNat_of_nonneg h0] at h2
  refine hs k _ h0 h1 h2.1 h2.2 ?_
  rw [← bkSum_s g h0]
  exact h
theorem S51 {d i : Nat} {Q : bk_Q} {M : bk_M} (hP : bkPl M i) : bk_C (d + 1) 0 51 [bk_c 5 i] M Q ↔ Q 0 (bkSum (fun y => M 28 i (6 * y + M 29 i y)) (M 5 i 1).toNat) M := by
  obtain ⟨h1, h2, -, -, -, -, -, h3, h4, -⟩ := hP
  refine bk_det (fun Q hQ => ?_) Q
  rw [E_51]
  refine bk_forS (W := fun x y => bk_wp (bk_C d) P_51 Q 0 4 [bk_c 5 i, bk_i x, bk_i y] [] M) (g := fun y => M 28 i (6 * y + M 29 i y)) (c := 9) (n := M 5 i 1) (by omega) (fun k h0 h1 => ?_) (fun k acc h0 h1 p2 p3 h => ?_) ?_
  · have := h4 k h0 h1; exact h3 _ (by omega) (by omega)
  · have q1 := h4 k h0 h1
    have q2 := h3 (6 * k + M 29 i k) (by omega) (by omega)
    rw [L_51_4]
    grind [bk_r32]
  · rw [L_51_4]; exact ⟨fun _ => hQ, fun q => absurd (Int.le_refl _) q⟩
theorem S52 {d i : Nat} {Q : bk_Q} {M : bk_M} (hP : bkPl M i) : bk_C (d + 1) 0 52 [bk_c 5 i] M Q ↔ Q 0 (bkSum (fun y => if M 29 i (y + 1) = M 29 i y then 0 else 1) (M 5 i 1 - 1).toNat) M := by
  obtain ⟨h1, h2, -, -, -, -, -, h3, h4, -⟩ := hP
  refine bk_det (fun Q hQ => ?_) Q
  rw [E_52]
  refine bk_forS (W := fun x y => bk_wp (bk_C d) P_52 Q 0 4 [bk_c 5 i, bk_i x, bk_i (y + 1)] [] M) (g := fun y => if M 29 i (y + 1) = M 29 i y then 0 else 1) (c := 1) (n := M 5 i 1 - 1) (by omega) (fun k h0 h1 => ?_) (fun k acc h0 h1 h2 h3 h => ?_) ?_
  · by_cases q : M 29 i (k + 1) = M 29 i k <;> simp [q]
  · rw [L_52_4]
    grind [bk_r32]
  · rw [L_52_4]; exact ⟨fun _ => hQ, fun q => absurd (by omega) q⟩
theorem S53 {d i : Nat} {Q : bk_Q} {M : bk_M} (hP : bkPl M i) : bk_C (d + 1) 0 53 [bk_c 5 i] M Q ↔ Q 0 (bkSum (M 32 i) (M 5 i 6).toNat) M := by
  obtain ⟨-, -, -, -, h1, -, h2, -, -, h3, -⟩ := hP
  refine bk_det (fun Q hQ => ?_) Q
  rw [E_53]
  refine bk_forS (W := fun x y => bk_wp (bk_C d) P_53 Q 0 4 [bk_c 5 i, bk_i x, bk_i y] [] M) (g := M 32 i) (c := 400) (n := M 5 i 6) (by omega) (fun k h0 h1 => ?_) (fun k acc h0 h1 h2 h4 h => ?_) ?_
  · have := h3 k h0 h1; omega
  · have q1 := h3 k h0 h1
    rw [L_53_4]
    grind [bk_r32]
  · rw [L_53_4]; exact ⟨fun _ => hQ, fun q => absurd (Int.le_refl _) q⟩
end
section
/-! A plain of the class and a row of the reference: the same plain. K, o: which row, from where. -/
def bkHd (M : bk_M) (i K : Nat) (o : Int) : Prop :=
  M 5 i 6 = M K 0 o ∧ M 5 i 11 = M K 0 (o + 1) ∧ M 5 i 0 = M K 0 (o + 2) ∧ M 5 i 1 = M K 0 (o + 3) ∧ M 5 i 2 = M K 0 (o + 4) ∧ M 5 i 3 = M K 0 (o + 5) ∧
  (∀ f, 0 ≤ f → f < M 5 i 6 → M 30 i f = 6 * M K 0 (o + 52 + f) + M K 0 (o + 42 + f) ∧ M 31 i f = M K 0 (o + 62 + f) ∧ 0 ≤ M K 0 (o + 42 + f) ∧ M K 0 (o + 42 + f) < 6 ∧ 0 ≤ M K 0 (o + 52 + f))
def bkSo (M : bk_M) (i K : Nat) (o : Int) : Prop :=
  M 5 i 17 = M K 0 o ∧ (∀ s, 0 ≤ s → s < 2 → M 37 i s = M K 0 (o + 1 + s) ∧ M 38 i s = M K 0 (o + 3 + s)) ∧ (∀ c, 0 ≤ c → c < 36 → M 28 i c = M K 0 (o + 5 + c)) ∧
  (∀ y, 0 ≤ y → y < M 5 i 1 → M 29 i y = M K 0 (o + 41 + y)) ∧
  (∀ m, 0 ≤ m → m < M 5 i 11 → M 34 i m = 6 * M K 0 (o + 50 + m) + M K 0 (o + 47 + m) ∧ 0 ≤ M K 0 (o + 47 + m) ∧ M K 0 (o + 47 + m) < 6 ∧ 0 ≤ M K 0 (o + 50 + m) ∧ M 35 i m = M K 0 (o + 53 + m)) ∧
  (∀ f, 0 ≤ f → f < 10 → M K 0 (o + 56 + f) = if f < M 5 i 6 then M 32 i f else 0) ∧
  M K 0 (o + 114) = (if M 5 i 17 < 8 then M 5 i 17 else 8) ∧
  (∀ k y, 1 ≤ k → k ≤ 8 → k ≤ M 5 i 17 → 0 ≤ y → y < M 5 i 1 → M 39 i (6 * ((M 5 i 17 - k) % 8) + y) = M K 0 (o + 66 + 6 * (k - 1) + y))
/-- the plain that is now -/
def bkNow (M : bk_M) (p : Nat) : Prop := (M 11 0 1).toNat = p ∧ bkPl M p ∧ bkHd M p 58 0 ∧ bkSo M p 58 80
theorem bkNow_e {M : bk_M} {p : Nat} (h : bkNow M p) : (M 11 0 1).toNat = p ∧ bkPl M p ∧
    (M 5 p 6 = M 58 0 0 ∧ M 5 p 11 = M 58 0 1 ∧ M 5 p 0 = M 58 0 2 ∧ M 5 p 1 = M 58 0 3 ∧ M 5 p 2 = M 58 0 4 ∧ M 5 p 3 = M 58 0 5 ∧
      (∀ f, 0 ≤ f → f < M 5 p 6 → M 30 p f = 6 * M 58 0 (52 + f) + M 58 0 (42 + f) ∧ M 31 p f = M 58 0 (62 + f) ∧ 0 ≤ M 58 0 (42 + f) ∧ M 58 0 (42 + f) < 6 ∧ 0 ≤ M 58 0 (52 + f))) ∧
    (M 5 p 17 = M 58 0 80 ∧ (∀ s, 0 ≤ s → s < 2 → M 37 p s = M 58 0 (81 + s) ∧ M 38 p s = M 58 0 (83 + s)) ∧ (∀ c, 0 ≤ c → c < 36 → M 28 p c = M 58 0 (85 + c)) ∧
      (∀ y, 0 ≤ y → y < M 5 p 1 → M 29 p y = M 58 0 (121 + y)) ∧
      (∀ m, 0 ≤ m → m < M 5 p 11 → M 34 p m = 6 * M 58 0 (130 + m) + M 58 0 (127 + m) ∧ 0 ≤ M 58 0 (127 + m) ∧ M 58 0 (127 + m) < 6 ∧ 0 ≤ M 58 0 (130 + m) ∧ M 35 p m = M 58 0 (133 + m)) ∧
      (∀ f, 0 ≤ f → f < 10 → M 58 0 (136 + f) = if f < M 5 p 6 then M 32 p f else 0) ∧
      M 58 0 194 = (if M 5 p 17 < 8 then M 5 p 17 else 8) ∧
      (∀ k y, 1 ≤ k → k ≤ 8 → k ≤ M 5 p 17 → 0 ≤ y → y < M 5 p 1 → M 39 p (6 * ((M 5 p 17 - k) % 8) + y) = M 58 0 (146 + 6 * (k - 1) + y))) := by
  obtain ⟨h1, h2, h3, h4⟩ := h
  unfold bkHd at h3
  unfold bkSo at h4
  simp only [Int.zero_add, Int.reduceAdd] at h3 h4
  exact ⟨h1, h2, h3, h4⟩
theorem bk_up_k {M : bk_M} {k i k' i' : Nat} {j v j' : Int} (h : k' ≠ k) : bk_up M k i j v k' i' j' = M k' i' j' := by
  unfold bk_up
  rw [if_neg (fun q => h q.1)]
theorem bk_up_s {M : bk_M} {k i i' : Nat} {j v j' : Int} (h : j' ≠ j) : bk_up M k i j v k i' j' = M k i' j' := by
  unfold bk_up
  rw [if_neg (fun q => h q.2.2)]
theorem bk_up_i {M : bk_M} {k i i' : Nat} {j v j' : Int} (h : i' ≠ i) : bk_up M k i j v k i' j' = M k i' j' := by
  unfold bk_up
  rw [if_neg (fun q => h q.2.1)]
theorem bk_up_e {M : bk_M} {k i : Nat} {j v : Int} : bk_up M k i j v k i j = v := by
  unfold bk_up
  rw [if_pos ⟨rfl, rfl, rfl⟩]
theorem S20 {d i : Nat} {Q : bk_Q} {x y : Int} {M : bk_M} (hP : bkPl M i) : bk_C (d + 1) 0 20 [bk_c 5 i, bk_i x, bk_i y] M Q ↔ Q 0 (if 0 ≤ x ∧ x < M 5 i 0 ∧ 0 ≤ y ∧ y < M 5 i 1 then 6 * y + x else -1) M := by
  obtain ⟨h0, h1, -⟩ := hP
  rw [E_20]
  simp only [bk_r32]
  grind
theorem S157 {d : Nat} {Q : bk_Q} {v a b : Int} {M : bk_M} : bk_C (d + 1) 0 157 [bk_i v, bk_i a, bk_i b] M Q ↔ Q 0 (if a ≤ v ∧ v ≤ b then 1 else 0) M := by
  rw [E_157]
  grind
theorem S156 {d : Nat} {Q : bk_Q} {x y : Int} {M : bk_M} (h0 : 3 ≤ M 58 0 2 ∧ M 58 0 2 ≤ 6) (h1 : 2 ≤ M 58 0 3 ∧ M 58 0 3 ≤ 6) : bk_C (d + 2) 0 156 [bk_c 12 0, bk_i x, bk_i y] M Q ↔ Q 0 (if 0 ≤ x ∧ x < M 58 0 2 ∧ 0 ≤ y ∧ y < M 58 0 3 then 1 else 0) M := by
  simp only [E_156, S157, bk_r32]
  grind
theorem C6 {d p : Nat} {x y : Int} {M : bk_M} (h : bkNow M p) {Q : bk_Q} (hQ : ∀ r, Q 0 r (bk_up M 12 0 0 0)) : bk_C (d + 3) 0 42 [bk_c 11 0, bk_i x, bk_i y] M (fun t r M1 => t = 0 ∧ bk_C (d + 3) 0 199 [bk_c 12 0, bk_i x, bk_i y] M1 (fun t2 r2 M2 => t2 = 0 ∧ r = r2 ∧ Q 0 r M2)) := by
  obtain ⟨hp, hP, ⟨b1, b2, b3, b4, -⟩, ⟨-, -, c3, -⟩⟩ := bkNow_e h
  have hw := hP.1
  have hh := hP.2.1
  rw [b3] at hw
  rw [b4] at hh
  have e156 := fun (Q : bk_Q) => @S156 d Q x y (bk_up M 12 0 0 0) (by simpa only [bk_up_k (show (58 : Nat) ≠ 12 by decide)] using hw) (by simpa only [bk_up_k (show (58 : Nat) ≠ 12 by decide)] using hh)
  simp only [E_42, hp, S20 hP, E_199, forall_eq, e156, b3, b4, bk_up_k (show (58 : Nat) ≠ 12 by decide), bk_r32]
  by_cases hc : 0 ≤ x ∧ x < M 58 0 2 ∧ 0 ≤ y ∧ y < M 58 0 3
  · have e := c3 (6 * y + x) (by omega) (by omega)
    simp only [if_pos hc, e]
    repeat' (first | exact rfl | exact trivial | exact hQ _ | omega | apply And.intro | intro _ | (congr 1; omega))
  · simp only [if_neg hc]
    grind
theorem C8 {d p : Nat} {y : Int} {M : bk_M} (h : bkNow M p) {Q : bk_Q} (hQ : ∀ r, Q 0 r (bk_up M 12 0 0 0)) : bk_C (d + 3) 0 44 [bk_c 11 0, bk_i y] M (fun t r M1 => t = 0 ∧ bk_C (d + 3) 0 201 [bk_c 12 0, bk_i y] M1 (fun t2 r2 M2 => t2 = 0 ∧ r = r2 ∧ Q 0 r M2)) := by
  obtain ⟨hp, ⟨a1, a2, a3, -⟩, ⟨b1, b2, b3, b4, -⟩, ⟨-, -, -, c4, -⟩⟩ := bkNow_e h
  simp only [E_44, E_45, E_201, E_202, E_157, hp, forall_eq]
  simp [bk_up_k, bk_r32, hQ]
  grind
end
section
/-! The reference's row of numbers N = M 58 0: what is read off it. -/
def bkMd (N : Int → Int) : Prop :=
  (3 ≤ N 2 ∧ N 2 ≤ 6) ∧ (2 ≤ N 3 ∧ N 3 ≤ 6) ∧ (0 ≤ N 4 ∧ N 4 < N 2) ∧ (0 ≤ N 5 ∧ N 5 ≤ 5) ∧ (0 ≤ N 0 ∧ N 0 ≤ 10) ∧ (0 ≤ N 1 ∧ N 1 ≤ 3) ∧ (0 ≤ N 80 ∧ N 80 ≤ 400) ∧
  (∀ c, 0 ≤ c → c < 36 → 0 ≤ N (85 + c) ∧ N (85 + c) ≤ 9) ∧ (∀ y, 0 ≤ y → y < N 3 → 0 ≤ N (121 + y) ∧ N (121 + y) < N 2) ∧
  (∀ f, 0 ≤ f → f < N 0 → 0 ≤ N (42 + f) ∧ N (42 + f) < N 2 ∧ 0 ≤ N (52 + f) ∧ N (52 + f) < N 3 ∧ 1 ≤ N (62 + f) ∧ N (62 + f) ≤ 20 ∧ 0 ≤ N (136 + f) ∧ N (136 + f) ≤ N 80) ∧
  (∀ m, 0 ≤ m → m < N 1 → 0 ≤ N (127 + m) ∧ N (127 + m) < N 2 ∧ 0 ≤ N (130 + m) ∧ N (130 + m) < N 3) ∧
  (∀ s, 0 ≤ s → s < 2 → 0 ≤ N (81 + s) ∧ N (81 + s) ≤ 999) ∧ (∀ f, 0 ≤ f → f < 10 → N 0 ≤ f → N (136 + f) = 0) ∧ N 194 = (if N 80 < 8 then N 80 else 8)
theorem bkNow_md {M : bk_M} {p : Nat} (h : bkNow M p) : bkMd (M 58 0) := by
  obtain ⟨-, ⟨a1, a2, a3, a4, a5, a6, a7, a8, a9, a10, a11, a12⟩, ⟨b1, b2, b3, b4, b5, b6, b7⟩, ⟨c1, c2, c3, c4, c5, c6, c7, c8⟩⟩ := bkNow_e h
  refine ⟨by omega, by omega, by omega, by omega, by omega, by omega, by omega, fun c h0 h1 => ?_, fun y h0 h1 => ?_, fun f h0 h1 => ?_, fun m h0 h1 => ?_, fun s h0 h1 => ?_, fun f h0 h1 h2 => ?_, ?_⟩
  · rw [← c3 c h0 h1]; exact a8 c h0 h1
  · rw [← c4 y h0 (by omega), ← b3]; exact a9 y h0 (by omega)
  · have q1 := b7 f h0 (by omega)
    have q2 := a10 f h0 (by omega)
    have q3 := c6 f h0 (by omega)
    rw [if_pos (by omega)] at q3
    omega
  · have q1 := c5 m h0 (by omega)
    have q2 := a11 m h0 (by omega)
    omega
  · rw [← (c2 s h0 h1).1]; exact a12 s h0 h1
  · rw [c6 f h0 h1, if_neg (by omega)]
  · rw [c7, c1]
def bkSide (x b : Int) : Int := if x < b then 0 else if b < x then 1 else 2
theorem bkBank_side {co : Int → Int} {x y : Int} (h0 : 0 ≤ x) (h1 : x < 6) : bkBank co (6 * y + x) = bkSide x (co y) := by
  unfold bkBank bkSide
  rw [show (6 * y + x) % 6 = x by omega, show (6 * y + x) / 6 = y by omega]
  grind
def bkWho (N : Int → Int) (f : Int) : Int := bkSide (N (42 + f)) (N (121 + N (52 + f)))
theorem S196 {d : Nat} {Q : bk_Q} {x b : Int} {M : bk_M} : bk_C (d + 1) 0 196 [bk_i x, bk_i b] M Q ↔ Q 0 (bkSide x b) M := by
  rw [E_196]; unfold bkSide; grind
theorem S195 {d : Nat} {Q : bk_Q} {x y : Int} {M : bk_M} (h0 : 0 ≤ y) (h1 : y < 6) : bk_C (d + 2) 0 195 [bk_c 12 0, bk_i x, bk_i y] M Q ↔ Q 0 (bkSide x (M 58 0 (121 + y))) M := by
  rw [E_195, S196]; unfold bk_r32
  exact ⟨fun h => h.2.2.2, fun h => ⟨by omega, by omega, rfl, h⟩⟩
theorem S194 {d : Nat} {Q : bk_Q} {f : Int} {M : bk_M} (hN : bkMd (M 58 0)) (h0 : 0 ≤ f) (h1 : f < M 58 0 0) : bk_C (d + 3) 0 194 [bk_c 12 0, bk_i f] M Q ↔ Q 0 (bkWho (M 58 0) f) M := by
  obtain ⟨a1, a2, a3, a4, a5, a6, a7, a8, a9, a10, -⟩ := hN
  have := a10 f h0 h1
  rw [E_194, S195 (by omega) (by omega)]; unfold bk_r32
  exact ⟨fun h => h.2.2.2.2.2, fun h => ⟨by omega, by omega, by omega, by omega, rfl, h⟩⟩
theorem S192 {d : Nat} {Q : bk_Q} {f : Int} {M : bk_M} (hN : bkMd (M 58 0)) : bk_C (d + 2) 0 192 [bk_c 12 0, bk_i f] M Q ↔ Q 0 (if 0 ≤ f ∧ f < M 58 0 0 then 1 else 0) M := by
  have := hN.2.2.2.2.1
  simp only [E_192, S157, bk_r32]; grind
theorem S198 {d : Nat} {Q : bk_Q} {f : Int} {M : bk_M} (hN : bkMd (M 58 0)) : bk_C (d + 2) 0 198 [bk_c 12 0, bk_i f] M Q ↔ Q 0 (if 0 ≤ f ∧ f < M 58 0 1 then 1 else 0) M := by
  have := hN.2.2.2.2.2.1
  simp only [E_198, S157, bk_r32]; grind
theorem S202 {d : Nat} {Q : bk_Q} {f : Int} {M : bk_M} (hN : bkMd (M 58 0)) : bk_C (d + 2) 0 202 [bk_c 12 0, bk_i f] M Q ↔ Q 0 (if 0 ≤ f ∧ f < M 58 0 3 then 1 else 0) M := by
  have := hN.2.1
  simp only [E_202, S157, bk_r32]; grind
def bkWs (N : Int → Int) (s : Int) : Int → Bool := fun f => decide (bkWho N f = s)
theorem S204 {d : Nat} {Q : bk_Q} {s : Int} {M : bk_M} (hN : bkMd (M 58 0)) : bk_C (d + 4) 0 204 [bk_c 12 0, bk_i s] M Q ↔ Q 0 (bkBits (bkWs (M 58 0) s) (M 58 0 0).toNat) M := by
  have hf := hN.2.2.2.2.1
  refine bk_det (fun Q hQ => ?_) Q
  rw [E_204]
  refine bk_for (W := fun f => bk_wp (bk_C (d + 3)) P_204 Q 0 4 [bk_c 12 0, bk_i s, bk_i (bkBits (bkWs (M 58 0) s) f.toNat), bk_i f] [] M) (n := M 58 0 0) hf.1 (fun f h0 h1 ih => ?_) ?_
  · rw [L_204_4, S194 hN h0 h1]
    rw [show (f + 1).toNat = f.toNat + 1 by omega, bkBits_succ] at ih
    have hb := bkBits_lt (bkWs (M 58 0) s) f.toNat
    have hp : (2 : Int) ^ f.toNat ≤ 1024 := by
      have key : ∀ f : Nat, f < 10 → (2 : Int) ^ f ≤ 1024 := by decide
      exact key f.toNat (by omega)
    have hp0 : (0 : Int) < 2 ^ f.toNat := Int.pow_pos (by omega)
    have e3 : ((f.toNat : Nat) : Int) = f := by omega
    refine ⟨by omega, fun q => absurd q (by omega), fun _ => ⟨rfl, fun q => ?_, fun q => ?_⟩⟩
    · rw [if_neg (by simpa [bkWs, e3] using q), Int.add_zero] at ih
      exact ⟨by unfold bk_r32; omega, ih⟩
    · rw [if_pos (by simpa [bkWs, e3] using q)] at ih
      rw [Int.one_mul, bkBits_or (by omega)]
      exact ⟨⟨by omega, by omega, by unfold bk_r32; omega⟩, by unfold bk_r32; omega, ih⟩
  · rw [L_204_4]
    exact ⟨by omega, fun _ => hQ, fun q => absurd (Int.le_refl _) q⟩
theorem S205 {d : Nat} {Q : bk_Q} {set : Int} {M : bk_M} (hw : ∀ f, 0 ≤ f → f < 10 → 0 ≤ M 58 0 (62 + f) ∧ M 58 0 (62 + f) ≤ 20) : bk_C (d + 2) 0 205 [bk_c 12 0, bk_i set] M Q ↔ Q 0 (bkWorth (fun f => M 58 0 (62 + f)) (fun f => decide (set / 2 ^ f.toNat % 2 = 1)) 10) M := by
  refine bk_det (fun Q hQ => ?_) Q
  rw [E_205]
  refine bk_forS (W := fun a f => bk_wp (bk_C (d + 1)) P_205 Q 0 4 [bk_c 12 0, bk_i set, bk_i a, bk_i f] [] M) (g := fun f => if decide (set / 2 ^ f.toNat % 2 = 1) = true then M 58 0 (62 + f) else 0) (c := 20) (n := 10) (by omega) (fun f h0 h1 => ?_) (fun f a h0 h1 h2 h3 h => ?_) ?_
  · have := hw f h0 h1
    show 0 ≤ (if decide (set / 2 ^ f.toNat % 2 = 1) = true then M 58 0 (62 + f) else 0) ∧ (if decide (set / 2 ^ f.toNat % 2 = 1) = true then M 58 0 (62 + f) else 0) ≤ 20
    split <;> omega
  · have hw := hw f h0 h1
    rw [L_205_4, E_206, bk_and1]
    unfold bk_r32
    by_cases q : set / 2 ^ f.toNat % 2 = 1
    · simp only [q, decide_true, if_true] at h
      refine ⟨fun z => absurd z (by omega), fun _ => ⟨by omega, fun z => absurd q z, fun _ => ⟨Or.inr rfl, rfl, fun z => absurd z (by decide), fun _ => ⟨by omega, by omega, by omega, by omega, h⟩⟩⟩⟩
    · simp only [q, decide_false, Bool.false_eq_true, if_false, Int.add_zero] at h
      refine ⟨fun z => absurd z (by omega), fun _ => ⟨by omega, fun _ => ⟨Or.inl rfl, rfl, fun _ => ⟨by omega, h⟩, fun z => absurd rfl z⟩, fun z => absurd q z⟩⟩
  · rw [L_205_4]
    exact ⟨fun _ => hQ, fun q => absurd (Int.le_refl _) q⟩
end
