/-! Makings one behind the other, seen as the cells X of a layout L with one memory M. -/
theorem bk_close {sc : Nat → Int → Int} {tw : Int → Int} {D : va_G} {cA : Nat → ClassId} {h0 q0 k : Nat} {o : va_E} {X L : List (Nat × Nat)} {M Mo : bk_M} {H : Heap} (hL : L = (k, 0) :: X) (hn : X.contains (k, 0) = false) (ha : bk_apart [] X = true) (hg : bk_gd sc tw X M) (hY : bk_Y D h0 q0 o (X.map (bk_en (h0, L) cA M)) H) (ho : o = bk_en (h0, L) cA Mo (k, 0)) :
    ∃ u : bk_M, bk_gd sc tw X u ∧ (∀ j, u k 0 j = Mo k 0 j) ∧ bk_Y D h0 q0 (bk_en (h0, L) cA u (k, 0)) ((L.drop 1).map (bk_en (h0, L) cA u)) H := by
  refine ⟨bk_jn X M Mo, ?_, fun j => bk_jn_n hn j, ?_⟩
  · exact bk_gd_jn (X := []) ⟨fun p hp => (nomatch hp), fun q hq => (nomatch hq), fun i hi => (nomatch hi)⟩ hg ha
  · refine bk_Yl hY (ho.trans (bk_en_eq fun j => (bk_jn_n hn j).symm)) ?_
    rw [hL, List.drop_one, List.tail_cons]
    exact List.map_congr_left fun q hq => bk_en_eq (k := q.1) (i := q.2) fun j => (bk_jn_y hq j).symm
/-- the own cell's row told too -/
theorem bk_gd_own {sc : Nat → Int → Int} {tw : Int → Int} {k : Nat} {X : List (Nat × Nat)} {u : bk_M} (hg : bk_gd sc tw X u) (hk : bk_pk k = false ∧ k ≠ 54) (hz : ∀ j, u k 0 j = 0) : bk_gd sc tw ((k, 0) :: X) u := by
  obtain ⟨g1, g2, g3⟩ := hg
  refine ⟨fun p hp => ?_, fun q hq w1 w2 j => ?_, fun i hi j => ?_⟩
  · rcases List.mem_cons.mp hp with e | h
    · cases e
      exact absurd hk.1 (by decide)
    · exact g1 p h
  · rcases List.mem_cons.mp hq with e | h
    · rw [e]; exact hz j
    · exact g2 q h w1 w2 j
  · rcases List.mem_cons.mp hi with e | h
    · cases e
      exact absurd rfl hk.2
    · exact g3 i h j
section NEWA
variable {p : Program} {l : Launch} {e : Env} {R : Room} {s : State} {m : MethodId} {args : Array Value} {below : List Frame} {meth : Method} {c : Code} {cc : ByteArray}
variable {cA : Nat → ClassId} {D : va_G} {Q : State → Prop} {h0 q0 : Nat} {H : Heap} {locs : List Loc} {cells slots : Nat} {ls : Array Slot}
variable {sc : Nat → Int → Int} {tw : Int → Int} {X L L' : List (Nat × Nat)} {M : bk_M} {a sft : Nat}
theorem bk_newA {k k1 N S nL pc i1 i2 : Nat} {o : va_E} {fs0 : List Value} {S9 : Type} {P9 : S9 → Prop} {F1 : Nat → S9 → List Value} {E1 : Nat → S9 → List va_E} {G : S9 → bk_M} {y1 : MethodName} {cc1 : ByteArray} {maxL : Nat} {rm : Room} {rest : List Value} {Pr : Nat → State → Prop}
    (hx : p.tables.exec = Jvm.exec) (hb : c.code = cc) (hts : ∀ w ∈ bk_W, w.before args s = true) (hown : s.vm.findClass (bk_R k) = some m.cls) (hml : c.maxLocals = nL) (hlsz : ls.size = nL) (hK : va_K D vwCl (bk_tys cA) s) (hk1 : k1 < 13)
    (hM : ∀ h1, Met l y1 (bk_wS y1 cc1 maxL none) rm (va_Pc [.ref h1] (Pr h1)) (bk_Qx D h1 (h1 + 1) P9 (fun u => .inr (k1, F1 h1 u)) (E1 h1)) N S (bk_Ya h1 (h1 + 1))) (hbl : ∀ h1, FrameBlind (va_Pc [.ref h1] (Pr h1)))
    (hPr : ∀ U : State, bk_Pn D cA (h0 + a) (h0 + a + 1) k1 fs0 U → s.WarmedH U.vm → s.heap.size ≤ U.heap.size → (∀ a : Nat, a < s.heap.size → ¬ bk_Ya h0 q0 a → U.heap[a]? = s.heap[a]?) → Pr (h0 + a) U) (hfs : ∀ j, j < bk_n k1 → defaultValue (bk_ty k1 j) = vp_V fs0 j)
    (w1 : Cond.classLink (bk_R k) i1 (bk_R k1) ∈ bk_W) (w2 : Cond.instantiable (bk_R k1) (bk_n k1) ∈ bk_W) (w3 : Cond.initialized (bk_R k1) ∈ bk_W) (w4 : Cond.methodLink (bk_R k) i2 y1 ∈ bk_W ∨ ∃ host, va_Nw (.methodLinkNest (bk_R k) i2 y1 host) s) (w5 : Cond.instanceMethod y1 ∈ bk_W) (w6 : Cond.code y1 cc1 maxL none ∈ bk_W)
    (hy : y1.cls = bk_R k1) (hy1 : y1.name = "<init>") (hd9 : y1.cls ≠ "java/lang/invoke/MethodHandle" ∧ y1.cls ≠ "java/lang/invoke/VarHandle" ∧ (parseMethodDescriptor y1.desc).map (fun d => d.parameters.length) = some 0)
    (hrm : rm.cells = N ∧ rm.slots = S) (hroom : rm.frames + 1 ≤ R.frames ∧ 8 + (maxL + 11) + rm.locals ≤ R.locals) (hrest : (rest.map fun v => v.category).sum ≤ 4)
    (hX : q0 + X.length = h0 + a) (hcell : ∀ h1 u, P9 u → .inr (k1, F1 h1 u) :: E1 h1 u = L'.map (bk_en (h1, L') cA (G u))) (hG : ∀ u, P9 u → bk_gd sc tw L' (G u)) (hemb : bk_embc L L' a sft = true) (hap : bk_apart X (bk_shl sft L') = true)
    (hg : bk_gd sc tw X M) (hY : bk_Y D h0 q0 o (X.map (bk_en (h0, L) cA M)) H) (hS : va_S (bk_Ya h0 q0) s.heap H locs) (d0 : decode cc pc = .ok (.new i1, 3)) (d3 : decode cc (pc + 3) = .ok (.dup, 1)) (d4 : decode cc (pc + 4) = .ok (.invokespecial i2, 3))
    (hc : cells + 1 + N ≤ R.cells) (hs : slots + bk_n k1 + S ≤ R.slots)
    (kk : ∀ (M' : bk_M) (H1 : Heap) (locs1 : List Loc), bk_gd sc tw (X ++ bk_shl sft L') M' → bk_Y D h0 q0 o ((X ++ bk_shl sft L').map (bk_en (h0, L) cA M')) H1 → va_S (bk_Ya h0 q0) s.heap H1 locs1 → W p l e R s m args below meth c H1 locs1 (cells + 1 + N) (slots + bk_n k1 + S) Q (F0 m (pc + 4 + 3) ls (.ref (h0 + a) :: rest))) :
    W p l e R s m args below meth c H locs cells slots Q (F0 m pc ls rest) := by
  have hq : q0 + (X.map (bk_en (h0, L) cA M)).length = h0 + a := by rw [List.length_map]; exact hX
  refine bk_newx (es := X.map (bk_en (h0, L) cA M)) (F1 := F1) (E1 := E1) hx hb hts hown hml hlsz hK hk1 hM hbl (fun U => by rw [hq]; exact hPr U) hfs w1 w2 w3 w4 w5 w6 hy hy1 hd9 hrm hroom hrest hY hS d0 d3 d4 hc hs (fun u H1 locs1 hu hY1 hS1 => ?_)
  rw [hq, hcell (h0 + a) u hu, bk_emb hemb, bk_accL (bk_apart_1 hap)] at hY1
  rw [hq]
  exact kk _ H1 locs1 (bk_gd_jn hg (bk_gd_sh (hG u hu)) hap) hY1 hS1
theorem bk_newB {k k1 N S nL pc i1 i2 : Nat} {o : va_E} {fs0 : List Value} {F1 : Nat → List Value} {E1 : Nat → List va_E} {G : bk_M} {y1 : MethodName} {cc1 : ByteArray} {maxL : Nat} {rm : Room} {rest : List Value} {Pr : Nat → State → Prop}
    (hx : p.tables.exec = Jvm.exec) (hb : c.code = cc) (hts : ∀ w ∈ bk_W, w.before args s = true) (hown : s.vm.findClass (bk_R k) = some m.cls) (hml : c.maxLocals = nL) (hlsz : ls.size = nL) (hK : va_K D vwCl (bk_tys cA) s) (hk1 : k1 < 13)
    (hM : ∀ h1, Met l y1 (bk_wS y1 cc1 maxL none) rm (va_Pc [.ref h1] (Pr h1)) (bk_Qn D h1 (h1 + 1) (.inr (k1, F1 h1)) (E1 h1)) N S (bk_Ya h1 (h1 + 1))) (hbl : ∀ h1, FrameBlind (va_Pc [.ref h1] (Pr h1)))
    (hPr : ∀ U : State, bk_Pn D cA (h0 + a) (h0 + a + 1) k1 fs0 U → s.WarmedH U.vm → s.heap.size ≤ U.heap.size → (∀ a : Nat, a < s.heap.size → ¬ bk_Ya h0 q0 a → U.heap[a]? = s.heap[a]?) → Pr (h0 + a) U) (hfs : ∀ j, j < bk_n k1 → defaultValue (bk_ty k1 j) = vp_V fs0 j)
    (w1 : Cond.classLink (bk_R k) i1 (bk_R k1) ∈ bk_W) (w2 : Cond.instantiable (bk_R k1) (bk_n k1) ∈ bk_W) (w3 : Cond.initialized (bk_R k1) ∈ bk_W) (w4 : Cond.methodLink (bk_R k) i2 y1 ∈ bk_W ∨ ∃ host, va_Nw (.methodLinkNest (bk_R k) i2 y1 host) s) (w5 : Cond.instanceMethod y1 ∈ bk_W) (w6 : Cond.code y1 cc1 maxL none ∈ bk_W)
    (hy : y1.cls = bk_R k1) (hy1 : y1.name = "<init>") (hd9 : y1.cls ≠ "java/lang/invoke/MethodHandle" ∧ y1.cls ≠ "java/lang/invoke/VarHandle" ∧ (parseMethodDescriptor y1.desc).map (fun d => d.parameters.length) = some 0)
    (hrm : rm.cells = N ∧ rm.slots = S) (hroom : rm.frames + 1 ≤ R.frames ∧ 8 + (maxL + 11) + rm.locals ≤ R.locals) (hrest : (rest.map fun v => v.category).sum ≤ 4)
    (hX : q0 + X.length = h0 + a) (hcell : ∀ h1, .inr (k1, F1 h1) :: E1 h1 = L'.map (bk_en (h1, L') cA G)) (hG : bk_gd sc tw L' G) (hemb : bk_embc L L' a sft = true) (hap : bk_apart X (bk_shl sft L') = true)
    (hg : bk_gd sc tw X M) (hY : bk_Y D h0 q0 o (X.map (bk_en (h0, L) cA M)) H) (hS : va_S (bk_Ya h0 q0) s.heap H locs) (d0 : decode cc pc = .ok (.new i1, 3)) (d3 : decode cc (pc + 3) = .ok (.dup, 1)) (d4 : decode cc (pc + 4) = .ok (.invokespecial i2, 3))
    (hc : cells + 1 + N ≤ R.cells) (hs : slots + bk_n k1 + S ≤ R.slots)
    (kk : ∀ (M' : bk_M) (H1 : Heap) (locs1 : List Loc), bk_gd sc tw (X ++ bk_shl sft L') M' → bk_Y D h0 q0 o ((X ++ bk_shl sft L').map (bk_en (h0, L) cA M')) H1 → va_S (bk_Ya h0 q0) s.heap H1 locs1 → W p l e R s m args below meth c H1 locs1 (cells + 1 + N) (slots + bk_n k1 + S) Q (F0 m (pc + 4 + 3) ls (.ref (h0 + a) :: rest))) :
    W p l e R s m args below meth c H locs cells slots Q (F0 m pc ls rest) := by
  have hq : q0 + (X.map (bk_en (h0, L) cA M)).length = h0 + a := by rw [List.length_map]; exact hX
  refine bk_new (es := X.map (bk_en (h0, L) cA M)) (F1 := F1) (E1 := E1) hx hb hts hown hml hlsz hK hk1 hM hbl (fun U => by rw [hq]; exact hPr U) hfs w1 w2 w3 w4 w5 w6 hy hy1 hd9 hrm hroom hrest hY hS d0 d3 d4 hc hs (fun H1 locs1 hY1 hS1 => ?_)
  rw [hq, hcell (h0 + a), bk_emb hemb, bk_accL (bk_apart_1 hap)] at hY1
  rw [hq]
  exact kk _ H1 locs1 (bk_gd_jn hg (bk_gd_sh hG) hap) hY1 hS1
/-- an array -/
theorem bk_segA {k f n t nL pc p2 q1 : Nat} {atype : ArrayType} {fs : List Value} {n32 : Int32} (hx : p.tables.exec = Jvm.exec) (hb : c.code = cc) (hts : ∀ w ∈ bk_W, w.before args s = true) (hown : s.vm.findClass (bk_R k) = some m.cls) (hK : va_K D vwCl (bk_tys cA) s) (hin : meth.name = "<init>")
    (hk13 : k < 13) (hX : q0 + X.length = h0 + a) (hcell : bk_ze cA t n = bk_en (h0, L) cA bk_Mz (q1, 0)) (hG : bk_gd sc tw [(q1, 0)] bk_Mz) (hap : bk_apart X [(q1, 0)] = true) (hg : bk_gd sc tw X M) (hY : bk_Y D h0 q0 (.inr (k, fs)) (X.map (bk_en (h0, L) cA M)) H) (hS : va_S (bk_Ya h0 q0) s.heap H locs) {lv : List (Nat × Value)} (hl : lv_has ls nL ((0, .ref h0) :: lv))
    (ht : (bk_tys cA)[t]? = some (cA t, newarray.typeOf atype)) (ht3 : t < 3) (harr : Cond.arrayClass (newarray.typeOf atype) ∈ bk_W) (hn : ¬ n32 < 0) (hN : n32.toNatClampNeg = n) (hn9 : n ≤ 1000)
    (d0 : decode cc pc = .ok (.aload_n 0, 1)) (hpush : ∀ (st : List Value), W p l e R s m args below meth c H locs cells slots Q (F0 m p2 ls (.int n32 :: st)) → W p l e R s m args below meth c H locs cells slots Q (F0 m (pc + 1) ls st))
    (d2 : decode cc p2 = .ok (.newarray atype, 2)) {idx : Nat} (d4 : decode cc (p2 + 2) = .ok (.putfield idx, 3)) (hf : f < bk_n k) (hfl : f < fs.length) (hlink : Cond.fieldLink (bk_R k) idx (bk_R k) (bk_F k f).2.1 (bk_F k f).2.2.1 ∈ bk_W)
    (hown2 : (bk_F k f).1 = bk_R k) (hfin : (bk_F k f).2.2.2 = true) (hd : parseFieldDescriptor (bk_F k f).2.2.1 = some (.array (newarray.typeOf atype))) (hc : cells + 1 ≤ R.cells) (hs : slots + n ≤ R.slots)
    (kk : ∀ (M' : bk_M) (H1 : Heap) (locs1 : List Loc), bk_gd sc tw (X ++ [(q1, 0)]) M' → bk_Y D h0 q0 (.inr (k, fs.set f (.ref (h0 + a)))) ((X ++ [(q1, 0)]).map (bk_en (h0, L) cA M')) H1 → va_S (bk_Ya h0 q0) s.heap H1 locs1 → W p l e R s m args below meth c H1 locs1 (cells + 1) (slots + n) Q (F0 m (p2 + 2 + 3) ls [])) :
    W p l e R s m args below meth c H locs cells slots Q (F0 m pc ls []) := by
  have hq : q0 + (X.map (bk_en (h0, L) cA M)).length = h0 + a := by rw [List.length_map]; exact hX
  refine bk_seg hx hb hts hown hK hin hk13 hY hS hl ht ht3 harr hn hN hn9 d0 hpush d2 d4 hf hfl hlink hown2 hfin hd hc hs (fun H1 locs1 hY1 hS1 => ?_)
  rw [hq] at hY1
  have e : X.map (bk_en (h0, L) cA M) ++ [bk_ze cA t n] = (X ++ [(q1, 0)]).map (bk_en (h0, L) cA (bk_jn [(q1, 0)] bk_Mz M)) := by
    rw [← bk_accL (bk_apart_1 hap), hcell]
    rfl
  exact kk _ H1 locs1 (bk_gd_jn hg hG hap) (bk_Yl hY1 rfl e) hS1
end NEWA
