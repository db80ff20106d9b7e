/-! The simple makings as layouts; History and the images in the whole layout. -/
def bk_l0 : List (Nat × Nat) := [(0, 0), (16, 0), (17, 0), (18, 0), (19, 0)]
def bk_f1_0 (h1 : Nat) : List Value := [.int 0, .int 0, .ref (h1 + 1), .ref (h1 + 1 + 1), .ref (h1 + 1 + 2), .ref (h1 + 1 + 3)]
def bk_e1_0 (cA : Nat → ClassId) (h1 : Nat) : List va_E := [bk_ze cA 0 40, bk_ze cA 0 40, bk_ze cA 0 40, bk_ze cA 0 40]
theorem bk_sl_0 (h1 : Nat) (cA : Nat → ClassId) : .inr (0, bk_f1_0 h1) :: bk_e1_0 cA h1 = bk_l0.map (bk_en (h1, bk_l0) cA bk_Mz) := rfl
def bk_l1 : List (Nat × Nat) := [(1, 0), (20, 0), (21, 0), (22, 0), (23, 0), (24, 0), (25, 0)]
def bk_f1_1 (h1 : Nat) : List Value := [.ref (h1 + 1), .ref (h1 + 1 + 1), .int 0, .ref (h1 + 1 + 2), .ref (h1 + 1 + 3), .ref (h1 + 1 + 4), .ref (h1 + 1 + 5)]
def bk_e1_1 (cA : Nat → ClassId) (h1 : Nat) : List va_E := [bk_ze cA 0 6, bk_ze cA 0 6, bk_ze cA 0 6, bk_ze cA 0 6, bk_ze cA 0 36, bk_ze cA 2 36]
theorem bk_sl_1 (h1 : Nat) (cA : Nat → ClassId) : .inr (1, bk_f1_1 h1) :: bk_e1_1 cA h1 = bk_l1.map (bk_en (h1, bk_l1) cA bk_Mz) := rfl
def bk_l2 : List (Nat × Nat) := [(2, 0), (26, 0)]
def bk_f1_2 (h1 : Nat) : List Value := [.ref (h1 + 1), .int 0]
def bk_e1_2 (cA : Nat → ClassId) (h1 : Nat) : List va_E := [bk_ze cA 0 32]
theorem bk_sl_2 (h1 : Nat) (cA : Nat → ClassId) : .inr (2, bk_f1_2 h1) :: bk_e1_2 cA h1 = bk_l2.map (bk_en (h1, bk_l2) cA bk_Mz) := rfl
def bk_l6 : List (Nat × Nat) := [(6, 0)]
def bk_f1_6 (h1 : Nat) : List Value := [.int 0, .int 0, .long 0, .int 0]
def bk_e1_6 (cA : Nat → ClassId) (h1 : Nat) : List va_E := []
theorem bk_sl_6 (h1 : Nat) (cA : Nat → ClassId) : .inr (6, bk_f1_6 h1) :: bk_e1_6 cA h1 = bk_l6.map (bk_en (h1, bk_l6) cA bk_Mz) := rfl
def bk_l8 : List (Nat × Nat) := [(8, 0), (45, 0), (46, 0), (47, 0), (48, 0)]
def bk_f1_8 (h1 : Nat) : List Value := [.ref (h1 + 1), .ref (h1 + 1 + 1), .int 0, .int 0, .ref (h1 + 1 + 2), .ref (h1 + 1 + 3)]
def bk_e1_8 (cA : Nat → ClassId) (h1 : Nat) : List va_E := [bk_ze cA 0 36, bk_ze cA 0 6, bk_ze cA 0 36, bk_ze cA 0 36]
theorem bk_sl_8 (h1 : Nat) (cA : Nat → ClassId) : .inr (8, bk_f1_8 h1) :: bk_e1_8 cA h1 = bk_l8.map (bk_en (h1, bk_l8) cA bk_Mz) := rfl
def bk_l7 : List (Nat × Nat) := [(7, 0), (40, 0), (41, 0), (42, 0), (8, 1), (45, 1), (46, 1), (47, 1), (48, 1), (43, 0), (44, 0)]
def bk_f1_7 (h1 : Nat) : List Value := [.ref (h1 + 1), .int 0, .ref (h1 + 1 + 1), .int 0, .ref (h1 + 1 + 2), .int 0, .ref (h1 + 1 + 3), .ref (h1 + 1 + 8), .int 0, .ref (h1 + 1 + 9), .int 0, .int 0, .int 0, .int 0]
def bk_e1_7 (cA : Nat → ClassId) (h1 : Nat) : List va_E := [bk_ze cA 0 3, bk_ze cA 0 2, bk_ze cA 0 2, .inr (8, [.ref (h1 + 1 + 4), .ref (h1 + 1 + 5), .int 0, .int 0, .ref (h1 + 1 + 6), .ref (h1 + 1 + 7)]), bk_ze cA 0 36, bk_ze cA 0 6, bk_ze cA 0 36, bk_ze cA 0 36, bk_ze cA 0 72, bk_ze cA 0 3]
theorem bk_sl_7 (h1 : Nat) (cA : Nat → ClassId) : .inr (7, bk_f1_7 h1) :: bk_e1_7 cA h1 = bk_l7.map (bk_en (h1, bk_l7) cA bk_Mz) := rfl
theorem bk_df_0 : ∀ j, j < bk_n 0 → defaultValue (bk_ty 0 j) = vp_V [.int 0, .int 0, .null, .null, .null, .null] j := fun j hj => by
  have hj : j < 6 := hj
  obtain rfl | rfl | rfl | rfl | rfl | rfl : j = 0 ∨ j = 1 ∨ j = 2 ∨ j = 3 ∨ j = 4 ∨ j = 5 := by omega
  all_goals rfl
theorem bk_df_1 : ∀ j, j < bk_n 1 → defaultValue (bk_ty 1 j) = vp_V [.null, .null, .int 0, .null, .null, .null, .null] j := fun j hj => by
  have hj : j < 7 := hj
  obtain rfl | rfl | rfl | rfl | rfl | rfl | rfl : j = 0 ∨ j = 1 ∨ j = 2 ∨ j = 3 ∨ j = 4 ∨ j = 5 ∨ j = 6 := by omega
  all_goals rfl
theorem bk_df_2 : ∀ j, j < bk_n 2 → defaultValue (bk_ty 2 j) = vp_V [.null, .int 0] j := fun j hj => by
  have hj : j < 2 := hj
  obtain rfl | rfl : j = 0 ∨ j = 1 := by omega
  all_goals rfl
theorem bk_df_3 : ∀ j, j < bk_n 3 → defaultValue (bk_ty 3 j) = vp_V [.int 0, .int 0, .null] j := fun j hj => by
  have hj : j < 3 := hj
  obtain rfl | rfl | rfl : j = 0 ∨ j = 1 ∨ j = 2 := by omega
  all_goals rfl
theorem bk_df_4 : ∀ j, j < bk_n 4 → defaultValue (bk_ty 4 j) = vp_V [.null, .null, .int 0] j := fun j hj => by
  have hj : j < 3 := hj
  obtain rfl | rfl | rfl : j = 0 ∨ j = 1 ∨ j = 2 := by omega
  all_goals rfl
theorem bk_df_6 : ∀ j, j < bk_n 6 → defaultValue (bk_ty 6 j) = vp_V [.int 0, .int 0, .long 0, .int 0] j := fun j hj => by
  have hj : j < 4 := hj
  obtain rfl | rfl | rfl | rfl : j = 0 ∨ j = 1 ∨ j = 2 ∨ j = 3 := by omega
  all_goals rfl
theorem bk_df_7 : ∀ j, j < bk_n 7 → defaultValue (bk_ty 7 j) = vp_V [.null, .int 0, .null, .int 0, .null, .int 0, .null, .null, .int 0, .null, .int 0, .int 0, .int 0, .int 0] j := fun j hj => by
  have hj : j < 14 := hj
  obtain rfl | rfl | rfl | rfl | rfl | rfl | rfl | rfl | rfl | rfl | rfl | rfl | rfl | rfl : j = 0 ∨ j = 1 ∨ j = 2 ∨ j = 3 ∨ j = 4 ∨ j = 5 ∨ j = 6 ∨ j = 7 ∨ j = 8 ∨ j = 9 ∨ j = 10 ∨ j = 11 ∨ j = 12 ∨ j = 13 := by omega
  all_goals rfl
theorem bk_df_10 : ∀ j, j < bk_n 10 → defaultValue (bk_ty 10 j) = vp_V [.null, .int 0, .int 0, .long 0, .int 0, .int 0, .int 0, .int 0, .null, .int 0, .int 0, .int 0] j := fun j hj => by
  have hj : j < 12 := hj
  obtain rfl | rfl | rfl | rfl | rfl | rfl | rfl | rfl | rfl | rfl | rfl | rfl : j = 0 ∨ j = 1 ∨ j = 2 ∨ j = 3 ∨ j = 4 ∨ j = 5 ∨ j = 6 ∨ j = 7 ∨ j = 8 ∨ j = 9 ∨ j = 10 ∨ j = 11 := by omega
  all_goals rfl
theorem bk_hX {X : List (Nat × Nat)} {n a h0 : Nat} (h : Nat.beq X.length n = true) (e : 1 + n = a) : h0 + 1 + X.length = h0 + a := by
  rw [Nat.eq_of_beq_eq_true h, Nat.add_assoc, e]
theorem bk_close2 {sc : Nat → Int → Int} {tw : Int → Int} {D : va_G} {cA : Nat → ClassId} {h0 q0 k : Nat} {o : va_E} {X X' L : List (Nat × Nat)} {M Mo : bk_M} {H : Heap} (hX : X = X') (hn : X.contains (k, 0) = false) (ha : bk_apart [] X = true) (hg : bk_gd sc tw X M) (hY : bk_Y D h0 q0 o (X.map (bk_en (h0, L) cA M)) H) (ho : o = bk_en (h0, L) cA Mo (k, 0)) :
    ∃ u : bk_M, bk_gd sc tw X' u ∧ (∀ j, u k 0 j = Mo k 0 j) ∧ bk_Y D h0 q0 (bk_en (h0, L) cA u (k, 0)) (X'.map (bk_en (h0, L) cA u)) H := by
  subst hX
  refine ⟨bk_jn X M Mo, ?_, fun j => bk_jn_n hn j, ?_⟩
  · exact bk_gd_jn (X := []) ⟨fun p hp => (nomatch hp), fun q hq => (nomatch hq), fun i hi => (nomatch hi)⟩ hg ha
  · exact bk_Yl hY (ho.trans (bk_en_eq fun j => (bk_jn_n hn j).symm)) (List.map_congr_left fun q hq => bk_en_eq (k := q.1) (i := q.2) fun j => (bk_jn_y hq j).symm)
/-! History, its plains 3 to 10. -/
def bk_y3 : List (Nat × Nat) := (3, 0) :: (27, 0) :: (List.range 8).flatMap fun i => bk_shl (3 + i) bk_l5
def bk_uh (us : Nat → bk_M) : bk_M := fun k i j => bif bk_pk k then us (i - 3) k 0 j else 0
theorem bk_emb3 : ∀ i, i < 8 → bk_embc bk_lay bk_l5 (86 + 13 * i) (3 + i) = true := by decide +kernel
theorem bk_l5_0 : ∀ q ∈ bk_l5, q.2 = 0 ∧ bk_pk q.1 = true := by decide +kernel
theorem bk_sl_3 (h0 : Nat) (cA : Nat → ClassId) (us : Nat → bk_M) : .inr (3, bk_f1_3 (h0 + 84) us) :: bk_e1_3 cA (h0 + 84) us = bk_y3.map (bk_en (h0, bk_lay) cA (bk_uh us)) := by
  have f27 : bk_find (27, 0) bk_lay = 85 := by decide +kernel
  unfold bk_y3 bk_e1_3
  rw [List.map_cons, List.map_cons, List.map_flatMap]
  have e1 : (.inr (3, bk_f1_3 (h0 + 84) us) : va_E) = bk_en (h0, bk_lay) cA (bk_uh us) (3, 0) := by
    show (.inr (3, [.int 0, .int 0, .ref (h0 + 84 + 1)]) : va_E) = .inr (3, [.int (Int32.ofInt 0), .int (Int32.ofInt 0), .ref (h0 + bk_find (27, 0) bk_lay)])
    rw [f27]
    rfl
  have e2 : bk_arr3 cA (fun j => some (h0 + 84 + bk_find (5, 3 + j) bk_lay - 84)) = bk_en (h0, bk_lay) cA (bk_uh us) (27, 0) := by
    show bk_arr3 cA (fun j => some (h0 + 84 + bk_find (5, 3 + j) bk_lay - 84)) = bk_arr3 cA (fun j => some (h0 + bk_find (5, 3 + j) bk_lay))
    congr 1
    funext j
    congr 1
    omega
  rw [e1, e2]
  refine congrArg (List.cons _) (congrArg (List.cons _) ?_)
  unfold bk_hbl
  rw [List.flatMap_def, List.flatMap_def]
  refine congrArg List.flatten ?_
  refine List.map_congr_left fun i hi => ?_
  have h := bk_emb (b := h0) (cA := cA) (u := us i) (bk_emb3 i (List.mem_range.mp hi))
  rw [show h0 + 84 + 2 + 13 * i = h0 + (86 + 13 * i) by omega]
  refine h.trans (List.map_congr_left fun q hq => ?_)
  obtain ⟨q0, a, rfl⟩ := List.mem_map.mp hq
  obtain ⟨b1, b2⟩ := bk_l5_0 q0 a
  refine bk_en_eq (k := q0.1) (i := q0.2 + (3 + i)) fun j => ?_
  unfold bk_sh bk_uh
  rw [b2, b1, show 0 + (3 + i) - (3 + i) = 0 by omega, show 0 + (3 + i) - 3 = i by omega]
  rfl
theorem bk_gd_3 {sc : Nat → Int → Int} {tw : Int → Int} {us : Nat → bk_M} (h : bk_P3 sc us) : bk_gd sc tw bk_y3 (bk_uh us) := by
  have h5 : ∀ q ∈ bk_y3, q.1 = 5 → 3 ≤ q.2 ∧ q.2 < 11 := by decide +kernel
  have h54 : ∀ q ∈ bk_y3, q.1 ≠ 54 := by decide +kernel
  refine ⟨fun p hp => ?_, fun q hq w1 _ j => ?_, fun i hi j => absurd rfl (h54 _ hi)⟩
  · obtain ⟨p1, p2⟩ := h5 _ hp rfl
    dsimp only at p1 p2
    refine ⟨us (p - 3), h (p - 3) (by omega), fun k hk j => ?_⟩
    unfold bk_uh
    rw [bk_pk_of hk]
    rfl
  · unfold bk_uh
    rw [w1]
    rfl
section NEWC
variable {p : Program} {l : Launch} {e : Env} {R : Room} {s : State} {m : MethodId} {args : Array Value} {below : List Frame} {meth : Method} {c : Code} {cc : ByteArray}
variable {cA : Nat → ClassId} {D : va_G} {Q : State → Prop} {h0 q0 : Nat} {H : Heap} {locs : List Loc} {cells slots : Nat} {ls : Array Slot}
variable {sc : Nat → Int → Int} {tw : Int → Int} {X Y L : List (Nat × Nat)} {M : bk_M} {a : Nat}
theorem bk_newC {k k1 N S nL pc i1 i2 : Nat} {o : va_E} {fs0 : List Value} {S9 : Type} {P9 : S9 → Prop} {F1 : Nat → S9 → List Value} {E1 : Nat → S9 → List va_E} {G : S9 → bk_M} {y1 : MethodName} {cc1 : ByteArray} {maxL : Nat} {rm : Room} {rest : List Value} {Pr : Nat → State → Prop}
    (hx : p.tables.exec = Jvm.exec) (hb : c.code = cc) (hts : ∀ w ∈ bk_W, w.before args s = true) (hown : s.vm.findClass (bk_R k) = some m.cls) (hml : c.maxLocals = nL) (hlsz : ls.size = nL) (hK : va_K D vwCl (bk_tys cA) s) (hk1 : k1 < 13)
    (hM : ∀ h1, Met l y1 (bk_wS y1 cc1 maxL none) rm (va_Pc [.ref h1] (Pr h1)) (bk_Qx D h1 (h1 + 1) P9 (fun u => .inr (k1, F1 h1 u)) (E1 h1)) N S (bk_Ya h1 (h1 + 1))) (hbl : ∀ h1, FrameBlind (va_Pc [.ref h1] (Pr h1)))
    (hPr : ∀ U : State, bk_Pn D cA (h0 + a) (h0 + a + 1) k1 fs0 U → s.WarmedH U.vm → s.heap.size ≤ U.heap.size → (∀ a : Nat, a < s.heap.size → ¬ bk_Ya h0 q0 a → U.heap[a]? = s.heap[a]?) → Pr (h0 + a) U) (hfs : ∀ j, j < bk_n k1 → defaultValue (bk_ty k1 j) = vp_V fs0 j)
    (w1 : Cond.classLink (bk_R k) i1 (bk_R k1) ∈ bk_W) (w2 : Cond.instantiable (bk_R k1) (bk_n k1) ∈ bk_W) (w3 : Cond.initialized (bk_R k1) ∈ bk_W) (w4 : Cond.methodLink (bk_R k) i2 y1 ∈ bk_W ∨ ∃ host, va_Nw (.methodLinkNest (bk_R k) i2 y1 host) s) (w5 : Cond.instanceMethod y1 ∈ bk_W) (w6 : Cond.code y1 cc1 maxL none ∈ bk_W)
    (hy : y1.cls = bk_R k1) (hy1 : y1.name = "<init>") (hd9 : y1.cls ≠ "java/lang/invoke/MethodHandle" ∧ y1.cls ≠ "java/lang/invoke/VarHandle" ∧ (parseMethodDescriptor y1.desc).map (fun d => d.parameters.length) = some 0)
    (hrm : rm.cells = N ∧ rm.slots = S) (hroom : rm.frames + 1 ≤ R.frames ∧ 8 + (maxL + 11) + rm.locals ≤ R.locals) (hrest : (rest.map fun v => v.category).sum ≤ 4)
    (hX : q0 + X.length = h0 + a) (hcell : ∀ u, P9 u → .inr (k1, F1 (h0 + a) u) :: E1 (h0 + a) u = Y.map (bk_en (h0, L) cA (G u))) (hG : ∀ u, P9 u → bk_gd sc tw Y (G u)) (hap : bk_apart X Y = true)
    (hg : bk_gd sc tw X M) (hY : bk_Y D h0 q0 o (X.map (bk_en (h0, L) cA M)) H) (hS : va_S (bk_Ya h0 q0) s.heap H locs) (d0 : decode cc pc = .ok (.new i1, 3)) (d3 : decode cc (pc + 3) = .ok (.dup, 1)) (d4 : decode cc (pc + 4) = .ok (.invokespecial i2, 3))
    (hc : cells + 1 + N ≤ R.cells) (hs : slots + bk_n k1 + S ≤ R.slots)
    (kk : ∀ (M' : bk_M) (H1 : Heap) (locs1 : List Loc), bk_gd sc tw (X ++ Y) M' → bk_Y D h0 q0 o ((X ++ Y).map (bk_en (h0, L) cA M')) H1 → va_S (bk_Ya h0 q0) s.heap H1 locs1 → W p l e R s m args below meth c H1 locs1 (cells + 1 + N) (slots + bk_n k1 + S) Q (F0 m (pc + 4 + 3) ls (.ref (h0 + a) :: rest))) :
    W p l e R s m args below meth c H locs cells slots Q (F0 m pc ls rest) := by
  have hq : q0 + (X.map (bk_en (h0, L) cA M)).length = h0 + a := by rw [List.length_map]; exact hX
  refine bk_newx (es := X.map (bk_en (h0, L) cA M)) (F1 := F1) (E1 := E1) hx hb hts hown hml hlsz hK hk1 hM hbl (fun U => by rw [hq]; exact hPr U) hfs w1 w2 w3 w4 w5 w6 hy hy1 hd9 hrm hroom hrest hY hS d0 d3 d4 hc hs (fun u H1 locs1 hu hY1 hS1 => ?_)
  rw [hq, hcell u hu, bk_accL (bk_apart_1 hap)] at hY1
  rw [hq]
  exact kk _ H1 locs1 (bk_gd_jn hg (hG u hu) hap) hY1 hS1
end NEWC
/-! The images. -/
def bk_f1_4 (h1 : Nat) (u : bk_M) : List Value := (List.range (bk_n 4)).map (bk_fv (h1, bk_l4) u 4 0)
def bk_e1_4 (cA : Nat → ClassId) (h1 : Nat) (u : bk_M) : List va_E := (bk_l4.drop 1).map (bk_en (h1, bk_l4) cA u)
theorem bk_sl_4 (h1 : Nat) (cA : Nat → ClassId) (u : bk_M) : .inr (4, bk_f1_4 h1 u) :: bk_e1_4 cA h1 u = bk_l4.map (bk_en (h1, bk_l4) cA u) := rfl
def bk_arr4 (cA : Nat → ClassId) (f : Nat → Option Nat) : va_E := .inl (cA 4, 2, .inr (.inr (.inr (.inr f))))
theorem bk_find4 : bk_find (4, 0) bk_lay = 191 ∧ bk_find (4, 1) bk_lay = 210 := by decide +kernel
theorem bk_emb4 : bk_embc bk_lay bk_l4 191 0 = true ∧ bk_embc bk_lay bk_l4 210 1 = true := by decide +kernel
section IMGS
variable {p : Program} {l : Launch} {e : Env} {R : Room} {s : State} {m : MethodId} {args : Array Value} {below : List Frame} {meth : Method} {c : Code} {cc : ByteArray}
variable {cA : Nat → ClassId} {D : va_G} {Q : State → Prop} {h0 q5 b0 : Nat} {H : Heap} {locs : List Loc} {cells slots : Nat} {ls : Array Slot} {ba : bk_B} {aK : Nat → Nat}
variable {sc : Nat → Int → Int} {X : List (Nat × Nat)} {M : bk_M}
theorem bk_imgs {pc i0 i1 i2 : Nat} {o : va_E} (hsc : bk_scO sc) (hx : p.tables.exec = Jvm.exec) (hb : c.code = cc) (hts : ∀ w ∈ bk_W, w.before args s = true) (hown : s.vm.findClass (bk_R 11) = some m.cls) (hml : c.maxLocals = 1) (hlsz : ls.size = 1) (hK : va_K D vwCl (bk_tys cA) s) (hE : bk_Ew ba b0 aK sc q5 s s.heap) (hsz : s.heap.size = h0 + 1) (hbA : ba.1 ≤ h0 ∧ h0 + 230 ≤ ba.1 + ba.2.length)
    (w0 : Cond.classLink (bk_R 11) i0 (bk_R 4) ∈ bk_W) (w1 : Cond.classLink (bk_R 11) i1 (bk_R 4) ∈ bk_W) (w2 : Cond.instantiable (bk_R 4) (bk_n 4) ∈ bk_W) (w3 : Cond.initialized (bk_R 4) ∈ bk_W) (w4 : ∃ host, va_Nw (.methodLinkNest (bk_R 11) i2 yX4_init host) s) (w5 : Cond.instanceMethod yX4_init ∈ bk_W) (w6 : Cond.code yX4_init cX4_init 1 none ∈ bk_W)
    (hroom : 23 ≤ R.frames ∧ 2120 ≤ R.locals) (hX : X.length = 189) (hcl : s.heap.size + cells = h0 + 190)
    (hap : bk_apart X [(55, 0)] = true ∧ bk_apart (X ++ [(55, 0)]) (bk_shl 0 bk_l4) = true ∧ bk_apart (X ++ [(55, 0)] ++ bk_shl 0 bk_l4) (bk_shl 1 bk_l4) = true)
    (hg : bk_gd sc bk_tpw X M) (hY : bk_Y D h0 (h0 + 1) o (X.map (bk_en (h0, bk_lay) cA M)) H) (hS : va_S (bk_Ya h0 (h0 + 1)) s.heap H locs)
    (d0 : decode cc pc = .ok (.anewarray i0, 3)) (d3 : decode cc (pc + 3) = .ok (.dup, 1)) (d4 : decode cc (pc + 3 + 1) = .ok (.iconst 0, 1)) (d5 : decode cc (pc + 3 + 1 + 1) = .ok (.new i1, 3)) (d8 : decode cc (pc + 3 + 1 + 1 + 3) = .ok (.dup, 1)) (d9 : decode cc (pc + 3 + 1 + 1 + 4) = .ok (.invokespecial i2, 3)) (dC : decode cc (pc + 3 + 1 + 1 + 4 + 3) = .ok (.aastore, 1))
    (e3 : decode cc (pc + 13) = .ok (.dup, 1)) (e4 : decode cc (pc + 13 + 1) = .ok (.iconst 1, 1)) (e5 : decode cc (pc + 13 + 1 + 1) = .ok (.new i1, 3)) (e8 : decode cc (pc + 13 + 1 + 1 + 3) = .ok (.dup, 1)) (e9 : decode cc (pc + 13 + 1 + 1 + 4) = .ok (.invokespecial i2, 3)) (eC : decode cc (pc + 13 + 1 + 1 + 4 + 3) = .ok (.aastore, 1))
    (hc : cells + 1 + 19 + 19 ≤ R.cells) (hs : slots + 2 + 311 + 311 ≤ R.slots)
    (kk : ∀ (M' : bk_M) (H1 : Heap) (locs1 : List Loc), bk_gd sc bk_tpw (X ++ [(55, 0)] ++ bk_shl 0 bk_l4 ++ bk_shl 1 bk_l4) M' → bk_Y D h0 (h0 + 1) o ((X ++ [(55, 0)] ++ bk_shl 0 bk_l4 ++ bk_shl 1 bk_l4).map (bk_en (h0, bk_lay) cA M')) H1 → va_S (bk_Ya h0 (h0 + 1)) s.heap H1 locs1 → W p l e R s m args below meth c H1 locs1 (cells + 1 + 19 + 19) (slots + 2 + 311 + 311) Q (F0 m (pc + 23) ls [.ref (h0 + 190), .ref h0])) :
    W p l e R s m args below meth c H locs cells slots Q (F0 m pc ls [.int 2, .ref h0]) := by
  have hEw : ∀ U : State, s.WarmedH U.vm → s.heap.size ≤ U.heap.size → (∀ a : Nat, a < s.heap.size → ¬ bk_Ya h0 (h0 + 1) a → U.heap[a]? = s.heap[a]?) → bk_Ew ba b0 aK sc q5 U U.heap := fun U hW hz hk => (hE.kept2 hz (by omega) (by omega) hk).warm hW
  have hXl : (X.map (bk_en (h0, bk_lay) cA M)).length = 189 := by rw [List.length_map]; exact hX
  have e1l : ∀ h1 u, (bk_e1_4 cA h1 u).length = 18 := fun _ _ => rfl
  refine bk_anew (k := 11) (t := 4) (n := 2) (C := "BanksDealt$Image") hx hb hts hown hK w0 hE.2.2.2.2 rfl (by decide) rfl (by decide) d0 hY hS (by omega) (by omega) (fun H hY hS => ?_)
  rw [hXl]
  refine lv_dup hx hb d3 rfl ?_
  refine lv_iconst (v := 0) hx hb d4 (by decide) ?_
  generalize hEX : X.map (bk_en (h0, bk_lay) cA M) = EX at hY hXl
  have q1 : h0 + 1 + (EX ++ [bk_arr4 cA (fun _ => none)]).length = h0 + 191 := by rw [List.length_append, hXl]; rfl
  refine bk_newx (k := 11) (k1 := 4) (nL := 1) (F1 := bk_f1_4) (E1 := bk_e1_4 cA) (P9 := bk_gd sc bk_tpw bk_l4) hx hb hts hown hml hlsz hK (by decide) (fun h1 => bk_mk_4 l ba b0 aK sc hsc q5 D cA h1) (fun _ => bk_Pe_blind) (fun U h hW hz hk => ⟨h, hEw U hW hz hk, by show ba.1 ≤ h0 + 1 + (EX ++ [bk_arr4 cA (fun _ => none)]).length ∧ h0 + 1 + (EX ++ [bk_arr4 cA (fun _ => none)]).length + 19 ≤ _; rw [q1]; omega⟩) bk_df_4 w1 w2 w3 (Or.inr w4) w5 w6 rfl rfl ⟨by decide +kernel, by decide +kernel, by decide +kernel⟩ ⟨rfl, rfl⟩ ⟨by show 22 + 1 ≤ R.frames; omega, by show 8 + (1 + 11) + 2100 ≤ R.locals; omega⟩ (Nat.le_of_ble_eq_true rfl) hY hS d5 d8 d9 (by omega) (by show slots + 2 + 3 + 308 ≤ R.slots; omega) (fun u1 H locs hu1 hY hS => ?_)
  have hY : bk_Y D h0 (h0 + 1) o ((EX ++ [bk_arr4 cA (fun _ => none)]) ++ .inr (4, bk_f1_4 (h0 + 1 + (EX ++ [bk_arr4 cA (fun _ => none)]).length) u1) :: bk_e1_4 cA (h0 + 1 + (EX ++ [bk_arr4 cA (fun _ => none)]).length) u1) H := hY
  show W p l e R s m args below meth c H locs (cells + 1 + 1 + 18) (slots + 2 + 3 + 308) Q (F0 m (pc + 3 + 1 + 1 + 4 + 3) ls (.ref (h0 + 1 + (EX ++ [bk_arr4 cA (fun _ => none)]).length) :: .int 0 :: .ref (h0 + 1 + 189) :: [.ref (h0 + 1 + 189), .ref h0]))
  rw [q1] at hY
  rw [q1]
  refine bk_astq (k1 := 4) (t := 4) (n := 2) (z := 190) (vs := bk_f1_4 (h0 + 191) u1) (e1 := EX) (e2 := .inr (4, bk_f1_4 (h0 + 191) u1) :: bk_e1_4 cA (h0 + 191) u1) hx hb hK (by decide) rfl (bk_Yl hY rfl (by rw [List.append_assoc]; rfl)) hS ?_ (by omega) (show ¬ ((0 : Int32) < 0 ∨ 2 ≤ (0 : Int32).toNatClampNeg) by decide) dC (by rw [hXl]) ?_ (fun H locs hY hS => ?_)
  · rw [List.getElem?_append_right (by rw [hXl]; decide), hXl]
    rfl
  · rw [List.length_append, List.length_cons, List.length_cons, e1l, hXl]
    omega
  have hY : bk_Y D h0 (h0 + 1) o (EX ++ bk_arr4 cA (va_up (fun _ => none) 0 (some (h0 + 191))) :: .inr (4, bk_f1_4 (h0 + 191) u1) :: bk_e1_4 cA (h0 + 191) u1) H := hY
  refine W.eq (g2 := F0 m (pc + 13) ls (.ref (h0 + 1 + 189) :: [.ref h0])) rfl ?_
  refine lv_dup hx hb e3 rfl ?_
  refine lv_iconst (v := 1) hx hb e4 (by decide) ?_
  have q2 : h0 + 1 + (EX ++ bk_arr4 cA (va_up (fun _ => none) 0 (some (h0 + 191))) :: .inr (4, bk_f1_4 (h0 + 191) u1) :: bk_e1_4 cA (h0 + 191) u1).length = h0 + 210 := by rw [List.length_append, List.length_cons, List.length_cons, e1l, hXl]
  refine bk_newx (k := 11) (k1 := 4) (nL := 1) (F1 := bk_f1_4) (E1 := bk_e1_4 cA) (P9 := bk_gd sc bk_tpw bk_l4) hx hb hts hown hml hlsz hK (by decide) (fun h1 => bk_mk_4 l ba b0 aK sc hsc q5 D cA h1) (fun _ => bk_Pe_blind) (fun U h hW hz hk => ⟨h, hEw U hW hz hk, by rw [q2]; omega⟩) bk_df_4 w1 w2 w3 (Or.inr w4) w5 w6 rfl rfl ⟨by decide +kernel, by decide +kernel, by decide +kernel⟩ ⟨rfl, rfl⟩ ⟨by show 22 + 1 ≤ R.frames; omega, by show 8 + (1 + 11) + 2100 ≤ R.locals; omega⟩ (Nat.le_of_ble_eq_true rfl) hY hS e5 e8 e9 (by omega) (by show slots + 2 + 3 + 308 + 3 + 308 ≤ R.slots; omega) (fun u2 H locs hu2 hY hS => ?_)
  rw [q2] at hY
  rw [q2]
  refine bk_astq (k1 := 4) (t := 4) (n := 2) (z := 209) (vs := bk_f1_4 (h0 + 210) u2) (e1 := EX) (e2 := (.inr (4, bk_f1_4 (h0 + 191) u1) :: bk_e1_4 cA (h0 + 191) u1) ++ .inr (4, bk_f1_4 (h0 + 210) u2) :: bk_e1_4 cA (h0 + 210) u2) hx hb hK (by decide) rfl (bk_Yl hY rfl (by rw [List.append_assoc]; rfl)) hS ?_ (by omega) (show ¬ ((1 : Int32) < 0 ∨ 2 ≤ (1 : Int32).toNatClampNeg) by decide) eC (by rw [hXl]) ?_ (fun H locs hY hS => ?_)
  · rw [List.getElem?_append_right (by rw [hXl]; decide), hXl, List.getElem?_cons_succ, List.getElem?_append_right (by rw [List.length_cons, e1l]; decide), List.length_cons, e1l]
    rfl
  · rw [List.length_append, List.length_cons, List.length_append, List.length_cons, List.length_cons, e1l, e1l, hXl]
    show s.heap.size + (cells + 1 + 1 + 18 + 1 + 18) = _
    omega
  have hY2 := bk_Yq hY (g := fun j => some (h0 + bk_find (4, 0 + j) bk_lay)) (fun j hj => by
    obtain rfl | rfl : j = 0 ∨ j = 1 := by omega
    · show some (h0 + 191) = some (h0 + bk_find (4, 0) bk_lay)
      rw [bk_find4.1]
    · show some (h0 + 210) = some (h0 + bk_find (4, 1) bk_lay)
      rw [bk_find4.2])
  refine kk (bk_jn (bk_shl 1 bk_l4) (bk_sh 1 u2) (bk_jn (bk_shl 0 bk_l4) (bk_sh 0 u1) (bk_jn [(55, 0)] bk_Mz M))) H locs (bk_gd_jn (bk_gd_jn (bk_gd_jn hg (bk_gd_z rfl) hap.1) (bk_gd_sh hu1) hap.2.1) (bk_gd_sh hu2) hap.2.2) (bk_Yl hY2 rfl ?_) hS
  rw [← bk_accL (bk_apart_1 hap.2.2), ← bk_accL (bk_apart_1 hap.2.1), ← bk_accL (bk_apart_1 hap.1), hEX, ← bk_emb (b := h0) bk_emb4.1, ← bk_emb (b := h0) bk_emb4.2, ← bk_sl_4, ← bk_sl_4, List.append_assoc, List.append_assoc]
  rfl
end IMGS
