/-- the cells in the order of their making: kind, which one -/
def bk_lay : List (Nat × Nat) := [(11, 0), (10, 0), (53, 0), (54, 0), (5, 0), (28, 0), (29, 0), (30, 0), (31, 0), (32, 0), (33, 0), (34, 0), (35, 0), (36, 0), (37, 0), (38, 0), (39, 0), (5, 1), (28, 1), (29, 1), (30, 1), (31, 1), (32, 1), (33, 1), (34, 1), (35, 1), (36, 1), (37, 1), (38, 1), (39, 1), (5, 2), (28, 2), (29, 2), (30, 2), (31, 2), (32, 2), (33, 2), (34, 2), (35, 2), (36, 2), (37, 2), (38, 2), (39, 2), (8, 0), (45, 0), (46, 0), (47, 0), (48, 0), (6, 0), (0, 0), (16, 0), (17, 0), (18, 0), (19, 0), (9, 0), (49, 0), (50, 0), (51, 0), (52, 0), (9, 1), (49, 1), (50, 1), (51, 1), (52, 1), (7, 0), (40, 0), (41, 0), (42, 0), (8, 1), (45, 1), (46, 1), (47, 1), (48, 1), (43, 0), (44, 0), (1, 0), (20, 0), (21, 0), (22, 0), (23, 0), (24, 0), (25, 0), (2, 0), (26, 0), (3, 0), (27, 0), (5, 3), (28, 3), (29, 3), (30, 3), (31, 3), (32, 3), (33, 3), (34, 3), (35, 3), (36, 3), (37, 3), (38, 3), (39, 3), (5, 4), (28, 4), (29, 4), (30, 4), (31, 4), (32, 4), (33, 4), (34, 4), (35, 4), (36, 4), (37, 4), (38, 4), (39, 4), (5, 5), (28, 5), (29, 5), (30, 5), (31, 5), (32, 5), (33, 5), (34, 5), (35, 5), (36, 5), (37, 5), (38, 5), (39, 5), (5, 6), (28, 6), (29, 6), (30, 6), (31, 6), (32, 6), (33, 6), (34, 6), (35, 6), (36, 6), (37, 6), (38, 6), (39, 6), (5, 7), (28, 7), (29, 7), (30, 7), (31, 7), (32, 7), (33, 7), (34, 7), (35, 7), (36, 7), (37, 7), (38, 7), (39, 7), (5, 8), (28, 8), (29, 8), (30, 8), (31, 8), (32, 8), (33, 8), (34, 8), (35, 8), (36, 8), (37, 8), (38, 8), (39, 8), (5, 9), (28, 9), (29, 9), (30, 9), (31, 9), (32, 9), (33, 9), (34, 9), (35, 9), (36, 9), (37, 9), (38, 9), (39, 9), (5, 10), (28, 10), (29, 10), (30, 10), (31, 10), (32, 10), (33, 10), (34, 10), (35, 10), (36, 10), (37, 10), (38, 10), (39, 10), (55, 0), (4, 0), (5, 11), (28, 11), (29, 11), (30, 11), (31, 11), (32, 11), (33, 11), (34, 11), (35, 11), (36, 11), (37, 11), (38, 11), (39, 11), (9, 2), (49, 2), (50, 2), (51, 2), (52, 2), (4, 1), (5, 12), (28, 12), (29, 12), (30, 12), (31, 12), (32, 12), (33, 12), (34, 12), (35, 12), (36, 12), (37, 12), (38, 12), (39, 12), (9, 3), (49, 3), (50, 3), (51, 3), (52, 3), (56, 0), (12, 0), (57, 0), (58, 0), (59, 0), (60, 0), (61, 0), (62, 0), (63, 0), (64, 0), (65, 0), (66, 0), (67, 0), (68, 0), (69, 0), (70, 0), (71, 0), (72, 0), (73, 0), (74, 0), (75, 0), (76, 0), (77, 0), (78, 0), (79, 0), (80, 0), (81, 0), (82, 0), (83, 0), (84, 0), (85, 0), (86, 0)]
/-- the fields of the classes: what they hold -/
def bk_fds : List (List Nat) := [[0, 0, 130, 138, 146, 154],
  [162, 170, 0, 178, 186, 194, 202],
  [210, 0],
  [0, 0, 218],
  [11306, 2122, 4],
  [0, 0, 0, 0, 226, 234, 0, 242, 250, 258, 266, 0, 274, 282, 290, 298, 306, 0, 314],
  [0, 0, 1, 4],
  [322, 0, 330, 4, 338, 0, 1090, 346, 0, 354, 0, 0, 0, 0],
  [362, 370, 0, 0, 378, 386],
  [0, 0, 394, 402, 410, 418],
  [426, 0, 0, 1, 0, 0, 0, 0, 434, 0, 0, 0],
  [82, 43, 43, 2090, 66, 50, 2, 75, 75, 58, 10, 18, 26, 442, 450, 4, 0],
  [0, 458, 0, 0, 0, 0, 0, 0, 0, 0, 0, 0, 1, 0, 466, 474, 482, 490, 498, 506, 514, 522, 530, 538, 546, 0, 4, 554, 562, 570, 0, 578, 586, 0, 594, 4, 0, 602, 610, 0, 0, 618, 626, 634, 0, 0, 642, 650, 658, 0, 666, 674, 0, 4, 682, 0, 0, 0, 0]]
/-- the links of arraycopy, min, max, abs, length, charAt -/
def bk_pl0 : List (Nat × Nat) := [(8, 29), (5, 74), (9, 31)]
def bk_pl1 : List (Nat × Nat) := [(8, 56), (3, 29), (5, 93), (1, 78)]
def bk_pl2 : List (Nat × Nat) := [(8, 62), (1, 72)]
def bk_pl3 : List (Nat × Nat) := [(5, 84), (7, 46), (9, 132)]
def bk_pl4 : List (Nat × Nat) := [(2, 55)]
def bk_pl5 : List (Nat × Nat) := [(2, 61)]
def bk_fd (c j : Nat) : Nat := (bk_fds.getD c []).getD j 0
/-- a real instruction r of so many bytes is carried out as i -/
def bk_ck (own : Nat) (rt : Option FieldType) (nL pc : Nat) (r : Instr) (len : Nat) (i : Instr) : Bool :=
  match i with
  | .sipush v => match r with
    | .sipush w => decide (w = v ∧ len = 3 ∧ -32768 ≤ v ∧ v ≤ 32767)
    | .bipush w => decide (w = v ∧ len = 2 ∧ -128 ≤ v ∧ v ≤ 127)
    | .iconst w => decide (w = v ∧ len = 1 ∧ -1 ≤ v ∧ v ≤ 5)
    | .ldc n => decide ((own, n, v) ∈ bk_kl ∧ len = 2 ∧ -2147483648 ≤ v ∧ v ≤ 2147483647)
    | .ldc_w n => decide ((own, n, v) ∈ bk_kl ∧ len = 3 ∧ -2147483648 ≤ v ∧ v ≤ 2147483647)
    | _ => false
  | .bipush v => match r with
    | .lconst w => decide (((w : Nat) : Int) = v ∧ len = 1)
    | .ldc2_w n => decide ((own, n, v) ∈ bk_kL ∧ len = 3 ∧ -9223372036854775808 ≤ v ∧ v ≤ 9223372036854775807)
    | _ => false
  | .ldc k => match r with
    | .ldc n => decide (own = 2 ∧ len = 2 ∧ [39, 41, 43, 49][k]? = some n)
    | _ => false
  | .iload n => match r with
    | .iload k => decide (k = n ∧ len = 2)
    | .iload_n k => decide (k.val = n ∧ len = 1)
    | _ => false
  | .lload n => match r with
    | .lload k => decide (k = n ∧ len = 2)
    | .lload_n k => decide (k.val = n ∧ len = 1)
    | _ => false
  | .aload n => match r with
    | .aload k => decide (k = n ∧ len = 2)
    | .aload_n k => decide (k.val = n ∧ len = 1)
    | _ => false
  | .istore n => match r with
    | .istore k => decide (k = n ∧ len = 2 ∧ n < nL)
    | .istore_n k => decide (k.val = n ∧ len = 1 ∧ n < nL)
    | _ => false
  | .lstore n => match r with
    | .lstore k => decide (k = n ∧ len = 2 ∧ n + 1 < nL)
    | .lstore_n k => decide (k.val = n ∧ len = 1 ∧ n + 1 < nL)
    | _ => false
  | .astore n => match r with
    | .astore k => decide (k = n ∧ len = 2 ∧ n < nL)
    | .astore_n k => decide (k.val = n ∧ len = 1 ∧ n < nL)
    | _ => false
  | .iinc n c => match r with
    | .iinc k d => decide (k = n ∧ d = c ∧ len = 3 ∧ -128 ≤ c ∧ c ≤ 127)
    | _ => false
  | .getfield f => match r with
    | .getfield n => decide ((own, n, f) ∈ bk_fl ∧ len = 3)
    | _ => false
  | .putfield f => match r with
    | .putfield n => decide ((own, n, f) ∈ bk_fl ∧ len = 3 ∧ (bk_F (f / 64 % 16) (f % 64)).2.2.2 = false)
    | _ => false
  | .iaload => decide (r = .iaload ∧ len = 1)
  | .laload => decide (r = .laload ∧ len = 1)
  | .baload => decide (r = .baload ∧ len = 1)
  | .iastore => decide (r = .iastore ∧ len = 1)
  | .lastore => decide (r = .lastore ∧ len = 1)
  | .bastore => decide (r = .bastore ∧ len = 1)
  | .if_icmp c t => match r with
    | .if_icmp c' off => decide (c' = c ∧ (pc : Int) + off = t ∧ 0 ≤ t ∧ len = 3)
    | _ => false
  | .ifCond c t => match r with
    | .ifCond c' off => decide (c' = c ∧ (pc : Int) + off = t ∧ 0 ≤ t ∧ len = 3)
    | _ => false
  | .tableswitch d lo hi ts => match r with
    | .tableswitch d' lo' hi' offs => decide ((pc : Int) + d' = d ∧ 0 ≤ d ∧ lo' = lo ∧ hi' = hi ∧ offs.toList.map (fun o => (pc : Int) + o) = ts.toList ∧ (∀ t ∈ ts.toList, (0 : Int) ≤ t) ∧ hi = lo + ts.toList.length - 1)
    | _ => false
  | .lookupswitch d ps => match r with
    | .lookupswitch d' qs => decide ((pc : Int) + d' = d ∧ 0 ≤ d ∧ qs.toList.map (fun o => (o.1, (pc : Int) + o.2)) = ps.toList ∧ (∀ t ∈ ps.toList, (0 : Int) ≤ t.2)) && (qs.toList.zip (qs.toList.drop 1)).all (fun (a, next) => a.1 < next.1)
    | _ => false
  | .ireturn => decide (r = .ireturn ∧ len = 1 ∧ rt = some .int)
  | .freturn => decide (r = .ireturn ∧ len = 1 ∧ rt = some .boolean)
  | .lreturn => decide (r = .lreturn ∧ len = 1 ∧ rt = some .long)
  | .return_ => decide (r = .return_ ∧ len = 1 ∧ rt = none)
  | .invokestatic n => decide (len = 3 ∧ n / 32768 % 16 = (if (bk_m (n / 64 % 512)).2.2.2.2.1 = true then 0 else (bk_m (n / 64 % 512)).2.2.2.2.2.1 + 1) ∧ n / 524288 ≤ (bk_m (n / 64 % 512)).2.2.1 ∧ n / 64 % 512 < bk_me.length ∧ n / 4 % 16 = (bk_m (n / 64 % 512)).2.2.2.2.2.2 ∧ n % 4 = (match (bk_m (n / 64 % 512)).2.2.2.1 with | none => 0 | some .int => 1 | some .boolean => 1 | some .long => 2 | _ => 3)) && (match r with
    | .invokestatic k => decide ((bk_m (n / 64 % 512)).2.2.2.2.1 = true ∧ n / 64 % 512 ∈ bk_tT ∧ ((own, k, n / 64 % 512) ∈ bk_ml ∨ (own, k, n / 64 % 512) ∈ bk_nl))
    | .invokevirtual k => decide ((bk_m (n / 64 % 512)).2.2.2.2.1 = false ∧ n / 64 % 512 ∈ bk_iT ∧ (n / 64 % 512 ∈ bk_sT ∨ n / 64 % 512 ∈ bk_sP) ∧ (own, k, n / 64 % 512) ∈ bk_ml)
    | _ => false)
  | .invokevirtual n => decide (len = 3) && (match n with
    | 0 => decide ((own, (match r with | .invokestatic k => k | _ => 0)) ∈ bk_pl0 ∧ r = .invokestatic (match r with | .invokestatic k => k | _ => 0))
    | 1 => decide ((own, (match r with | .invokestatic k => k | _ => 0)) ∈ bk_pl1 ∧ r = .invokestatic (match r with | .invokestatic k => k | _ => 0))
    | 2 => decide ((own, (match r with | .invokestatic k => k | _ => 0)) ∈ bk_pl2 ∧ r = .invokestatic (match r with | .invokestatic k => k | _ => 0))
    | 3 => decide ((own, (match r with | .invokestatic k => k | _ => 0)) ∈ bk_pl3 ∧ r = .invokestatic (match r with | .invokestatic k => k | _ => 0))
    | 4 => decide ((own, (match r with | .invokevirtual k => k | _ => 0)) ∈ bk_pl4 ∧ r = .invokevirtual (match r with | .invokevirtual k => k | _ => 0))
    | 5 => decide ((own, (match r with | .invokevirtual k => k | _ => 0)) ∈ bk_pl5 ∧ r = .invokevirtual (match r with | .invokevirtual k => k | _ => 0))
    | _ => false)
  | .saload => decide (r = .iaload ∧ len = 1)
  | .swap => decide (r = .arraylength ∧ len = 1)
  | .dadd => decide (r = .iadd ∧ len = 1)
  | .dmul => decide (r = .imul ∧ len = 1)
  | .dsub => decide (r = .isub ∧ len = 1)
  | .fadd => decide (r = .ladd ∧ len = 1)
  | .fmul => decide (r = .lshl ∧ len = 1)
  | .aaload => decide (r = .aaload ∧ len = 1)
  | .arraylength => decide (r = .arraylength ∧ len = 1)
  | .iadd => decide (r = .iadd ∧ len = 1)
  | .isub => decide (r = .isub ∧ len = 1)
  | .imul => decide (r = .imul ∧ len = 1)
  | .idiv => decide (r = .idiv ∧ len = 1)
  | .irem => decide (r = .irem ∧ len = 1)
  | .ineg => decide (r = .ineg ∧ len = 1)
  | .ishl => decide (r = .ishl ∧ len = 1)
  | .ishr => decide (r = .ishr ∧ len = 1)
  | .iushr => decide (r = .iushr ∧ len = 1)
  | .iand => decide (r = .iand ∧ len = 1)
  | .ior => decide (r = .ior ∧ len = 1)
  | .ixor => decide (r = .ixor ∧ len = 1)
  | .ladd => decide (r = .ladd ∧ len = 1)
  | .lsub => decide (r = .lsub ∧ len = 1)
  | .lmul => decide (r = .lmul ∧ len = 1)
  | .ldiv => decide (r = .ldiv ∧ len = 1)
  | .lrem => decide (r = .lrem ∧ len = 1)
  | .lshl => decide (r = .lshl ∧ len = 1)
  | .lshr => decide (r = .lshr ∧ len = 1)
  | .land => decide (r = .land ∧ len = 1)
  | .lor => decide (r = .lor ∧ len = 1)
  | .lcmp => decide (r = .lcmp ∧ len = 1)
  | .i2l => decide (r = .i2l ∧ len = 1)
  | .l2i => decide (r = .l2i ∧ len = 1)
  | .dup => decide (r = .dup ∧ len = 1)
  | .dup2 => decide (r = .dup2 ∧ len = 1)
  | .pop => decide (r = .pop ∧ len = 1)
  | _ => false
def bk_chk (own : Nat) (rt : Option FieldType) (nL : Nat) (cc : ByteArray) : Nat → List Instr → Bool
  | _, [] => true
  | pc, i :: is => match i with
    | .goto t => decide ((pc : Int) = t) || (match decode cc pc with
      | .ok (.goto off, 3) => decide ((pc : Int) + off = t ∧ 0 ≤ t)
      | _ => false)
    | .athrow => decide (own = 11 ∧ decode cc pc = .ok (.new 133, 3) ∧ decode cc (pc + 3) = .ok (.dup, 1) ∧ decode cc (pc + 4) = .ok (.invokespecial 135, 3) ∧ decode cc (pc + 7) = .ok (.athrow, 1))
    | i => match decode cc pc with
      | .ok (r, len) => bk_ck own rt nL pc r len i && bk_chk own rt nL cc (pc + len) is
      | _ => false
def bk_okP (e : bk_Me) (P : bk_P) : Bool := P.all fun q => bk_chk e.2.2.2.2.2.1 e.2.2.2.1 e.2.2.1 e.2.1 q.1 q.2
/-- a method's table is that of its bytes -/
def bk_ok1 (μ : Nat) : Prop := bk_okP (bk_m μ) (bk_prog μ).1 = true ∧ (bk_prog μ).2 = (bk_m μ).2.2.1
theorem bk_fl_ok : ∀ e ∈ bk_fl, e.2.2 / 64 % 16 < 13 ∧ e.2.2 % 64 < bk_n (e.2.2 / 64 % 16) ∧ e.2.2 / 1024 = bk_fd (e.2.2 / 64 % 16) (e.2.2 % 64) ∧ e.1 ≤ 14 := by decide +kernel
