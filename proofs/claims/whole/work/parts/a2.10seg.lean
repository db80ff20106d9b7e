/-! Makings: a constructor's own cell, and what it makes, one behind the other. -/
def bk_zs : Nat → List va_E → va_W
  | _, [] => []
  | q, o :: es => (q, o) :: bk_zs (q + 1) es
theorem bk_zs_at : ∀ (es : List va_E) (q i : Nat), (bk_zs q es)[i]? = es[i]?.map fun o => (q + i, o)
  | [], q, i => by simp [bk_zs]
  | o :: es, q, 0 => by simp [bk_zs]
  | o :: es, q, i + 1 => by
    rw [bk_zs, List.getElem?_cons_succ, List.getElem?_cons_succ, bk_zs_at es (q + 1) i]
    congr 1
    funext o
    rw [Nat.add_assoc, Nat.add_comm 1 i]
theorem bk_zs_app : ∀ (es : List va_E) (q : Nat) (o : va_E), bk_zs q (es ++ [o]) = bk_zs q es ++ [(q + es.length, o)]
  | [], q, o => by simp [bk_zs]
  | z :: es, q, o => by
    rw [List.cons_append, bk_zs, bk_zs, bk_zs_app es (q + 1) o, List.cons_append, List.length_cons, Nat.add_assoc, Nat.add_comm 1]
/-- the own cell stands at h0, what was made from q0 on -/
def bk_Y (D : va_G) (h0 q0 : Nat) (o : va_E) (es : List va_E) (H : Heap) : Prop := H.size = q0 + es.length ∧ va_P D vwCl ((h0, o) :: bk_zs q0 es) H ∧ h0 < q0
def bk_Ya (h0 q0 : Nat) : Nat → Prop := fun q => q = h0 ∨ q0 ≤ q
theorem bk_Y_D {h0 q0 : Nat} {o : va_E} {es : List va_E} (h : h0 < q0) : va_D (bk_Ya h0 q0) ((h0, o) :: bk_zs q0 es) := by
  have key : ∀ (i : Nat) (q : Nat × va_E), ((h0, o) :: bk_zs q0 es)[i]? = some q → (i = 0 ∧ q.1 = h0) ∨ (i ≠ 0 ∧ q.1 + 1 = q0 + i) := by
    intro i q hq
    cases i with
    | zero =>
      rw [List.getElem?_cons_zero] at hq
      exact Or.inl ⟨rfl, by rw [← Option.some.inj hq]⟩
    | succ i =>
      rw [List.getElem?_cons_succ, bk_zs_at] at hq
      cases hz : es[i]? with
      | none => rw [hz] at hq; cases hq
      | some z =>
        rw [hz] at hq
        have hq := Option.some.inj hq
        exact Or.inr ⟨by omega, by rw [← hq]; show q0 + i + 1 = _; omega⟩
  refine ⟨fun i j p q hp hq e => ?_, fun i q hq => ?_⟩
  · have a := key i p hp
    have b := key j q hq
    omega
  · have a := key i q hq
    unfold bk_Ya
    omega
/-- a new array's cell -/
def bk_ze (cA : Nat → ClassId) (t n : Nat) : va_E := match t with
  | 1 => .inl (cA 1, n, .inr (.inl (fun _ => 0)))
  | t => .inl (cA t, n, .inl (fun _ => 0))
section SEG
variable {p : Program} {l : Launch} {e : Env} {R : Room} {s : State} {m : MethodId} {args : Array Value} {below : List Frame} {meth : Method} {c : Code} {cc : ByteArray}
variable {cA : Nat → ClassId} {D : va_G} {Q : State → Prop} {h0 q0 : Nat} {es : List va_E} {H : Heap} {locs : List Loc} {cells slots : Nat} {ls : Array Slot}
/-- 'this.f = v' in a constructor, at a final field, the heap's size told -/
theorem bk_putF {A : Nat → Prop} {ws : va_W} {tys : List (ClassId × FieldType)} {rest : List Value} {k f idx pc a : Nat} {fs : List Value} {v : Value} {ty : FieldType} (hx : p.tables.exec = Jvm.exec) (hb : c.code = cc) (hts : ∀ w ∈ bk_W, w.before args s = true) (hown : s.vm.findClass (bk_R k) = some m.cls) (hK : va_K D vwCl tys s) (hin : meth.name = "<init>") (hk13 : k < 13)
    (hP : va_P D vwCl ws H) (hD : va_D A ws) (hS : va_S A s.heap H locs) (q : Nat) (he : ws[q]? = some (a, .inr (k, fs))) (hf : f < bk_n k) (hfl : f < fs.length) (hlink : Cond.fieldLink (bk_R k) idx (bk_R k) (bk_F k f).2.1 (bk_F k f).2.2.1 ∈ bk_W)
    (hown2 : (bk_F k f).1 = bk_R k) (hfin : (bk_F k f).2.2.2 = true) (hd : parseFieldDescriptor (bk_F k f).2.2.1 = some ty) (hn : narrow ty v = v) (hfit : fits ty v = true) (d4 : decode cc pc = .ok (.putfield idx, 3))
    (kk : ∀ (H1 : Heap) (locs1 : List Loc), H1.size = H.size → va_P D vwCl (ws.set q (a, .inr (k, fs.set f v))) H1 → va_S A s.heap H1 locs1 → W p l e R s m args below meth c H1 locs1 cells slots Q (F0 m (pc + 3) ls rest)) : W p l e R s m args below meth c H locs cells slots Q (F0 m pc ls (v :: .ref a :: rest)) := by
  have hc := bk_cl k hk13
  have hin9 := bk_lay_W hk13
  have hap := va_apart (own := bk_R k) hts hin9 (bk_ty k) (bk_ty_ok k hk13) (bk_nm_ok k hk13) hK hc
  obtain ⟨r, h1, cell, q1, q2, q3, q4⟩ := hP q _ he
  obtain rfl : r = (bk_R k, bk_F k, bk_n k) := Option.some.inj (h1.symm.trans hc)
  obtain ⟨hSl, hfc, kC, hkC, hkind⟩ := hK.1 k _ hc
  obtain ⟨cf, kf, fi, fl, hi, hsl⟩ := hSl f hf
  have hlay := hts _ (hin9 _ (u_in_lay hf))
  unfold u_lay at hlay
  rw [if_pos hfin] at hlay
  have hst := (u_facts hfc hkC (u_lays hts hin9 hf) hi).1
  have hcf : m.cls = cf := by
    obtain ⟨_, _, c', _, _, _, -, -, hf', -, -, -, ho2, -⟩ := Cond.laysFinal_spec hlay
    have e1 : c' = cf := by have := hi.symm.trans hf'; simp at this; exact this.1.symm
    rw [hown2] at ho2
    rw [← e1]; exact Option.some.inj (hown.symm.trans ho2)
  have h6 := u_fits hfc hkC hkind (Or.inr hlay) hi hd hn hfit
  refine W.putFinK hx hb hown (hts _ hlink) (by rw [← hown2]; exact hi) hst hcf hin (by rw [q2]; exact h6) q1 q3 (by rw [hsl]; exact k2_hasslot (q4 f hf)) rfl rfl d4 fun H' e1 e2 e3 => ?_
  rw [hsl] at e1 ⊢
  exact kk H' _ e2 (hP.set hD he ⟨_, hc, t_OB.to (V := updV (vp_V fs) f v) ⟨_, e1, q2, q3, t_set q4 hap hf v⟩ (fun j _ => vp_updV_set hfl v j)⟩ e3) (hS.put e2 e3 (hD.2 q _ he))
/-- 'this.f = new t[n]' -/
theorem bk_seg {k f n t nL pc p2 : Nat} {atype : ArrayType} {fs : List Value} {n32 : Int32} (hx : p.tables.exec = Jvm.exec) (hb : c.code = cc) (hts : ∀ w ∈ bk_W, w.before args s = true) (hown : s.vm.findClass (bk_R k) = some m.cls) (hK : va_K D vwCl (bk_tys cA) s) (hin : meth.name = "<init>")
    (hk13 : k < 13) (hY : bk_Y D h0 q0 (.inr (k, fs)) es H) (hS : va_S (bk_Ya h0 q0) s.heap H locs) {lv : List (Nat × Value)} (hl : lv_has ls nL ((0, .ref h0) :: lv))
    (ht : (bk_tys cA)[t]? = some (cA t, newarray.typeOf atype)) (ht3 : t < 3) (harr : Cond.arrayClass (newarray.typeOf atype) ∈ bk_W) (hn : ¬ n32 < 0) (hN : n32.toNatClampNeg = n) (hn9 : n ≤ 1000)
    (d0 : decode cc pc = .ok (.aload_n 0, 1)) (hpush : ∀ (st : List Value), W p l e R s m args below meth c H locs cells slots Q (F0 m p2 ls (.int n32 :: st)) → W p l e R s m args below meth c H locs cells slots Q (F0 m (pc + 1) ls st))
    (d2 : decode cc p2 = .ok (.newarray atype, 2)) {idx : Nat} (d4 : decode cc (p2 + 2) = .ok (.putfield idx, 3)) (hf : f < bk_n k) (hfl : f < fs.length) (hlink : Cond.fieldLink (bk_R k) idx (bk_R k) (bk_F k f).2.1 (bk_F k f).2.2.1 ∈ bk_W)
    (hown2 : (bk_F k f).1 = bk_R k) (hfin : (bk_F k f).2.2.2 = true) (hd : parseFieldDescriptor (bk_F k f).2.2.1 = some (.array (newarray.typeOf atype))) (hc : cells + 1 ≤ R.cells) (hs : slots + n ≤ R.slots)
    (kk : ∀ (H1 : Heap) (locs1 : List Loc), bk_Y D h0 q0 (.inr (k, fs.set f (.ref (q0 + es.length)))) (es ++ [bk_ze cA t n]) H1 → va_S (bk_Ya h0 q0) s.heap H1 locs1 → W p l e R s m args below meth c H1 locs1 (cells + 1) (slots + n) Q (F0 m (p2 + 2 + 3) ls [])) :
    W p l e R s m args below meth c H locs cells slots Q (F0 m pc ls []) := by
  obtain ⟨y1, y2, y3⟩ := hY
  refine lv_aload_n hx hb d0 rfl (lv_at hl 0 rfl) ?_
  refine hpush _ ?_
  have hbytes : n * componentBytes (newarray.typeOf atype) ≤ 536870912 := by
    have : componentBytes (newarray.typeOf atype) ≤ 8 := by cases atype <;> decide
    calc n * componentBytes (newarray.typeOf atype) ≤ 1000 * 8 := Nat.mul_le_mul hn9 this
      _ ≤ 536870912 := by decide
  refine va_newaK hx hb (hts _ harr) rfl d2 rfl hn hN hbytes hc hs y1 fun H1 cB e1 z1 o1 hAr hNm => ?_
  have hcB : cB = cA t := by
    have h9 := (hK.2 t _ ht).2
    have h8 : s.vm.findClass ("[" ++ (newarray.typeOf atype).toString) = some (cA t) := by cases atype <;> exact h9
    exact Option.some.inj (hNm.symm.trans h8)
  subst hcB
  have hze : va_at D vwCl (q0 + es.length, bk_ze cA t n) H1 := by
    obtain rfl | rfl | rfl : t = 0 ∨ t = 1 ∨ t = 2 := by omega
    · have h9 : newarray.typeOf atype = .int := (congrArg Prod.snd (Option.some.inj ht)).symm
      rw [h9] at e1
      exact e1
    · have h9 : newarray.typeOf atype = .long := (congrArg Prod.snd (Option.some.inj ht)).symm
      rw [h9] at e1
      exact e1
    · have h9 : newarray.typeOf atype = .boolean := (congrArg Prod.snd (Option.some.inj ht)).symm
      rw [h9] at e1
      exact e1
  have hk1 : ∀ (i : Nat) (x : Nat × va_E), ((h0, .inr (k, fs)) :: bk_zs q0 es)[i]? = some x → H1[x.1]? = H[x.1]? := fun i x hx => o1 x.1 (by have := (y2 i x hx).lt; omega)
  have hP1 : va_P D vwCl ((h0, .inr (k, fs)) :: bk_zs q0 (es ++ [bk_ze cA t n])) H1 := by
    rw [bk_zs_app, ← List.cons_append]
    refine (y2.kept hk1).app fun i x hx => ?_
    have hz : i < 1 := (List.getElem?_eq_some_iff.mp hx).1
    rw [show i = 0 by omega] at hx
    cases hx
    exact hze
  have hS1 : va_S (bk_Ya h0 q0) s.heap H1 locs := ⟨Nat.le_trans hS.1 (by omega), fun x h1 h2 => (o1 x (by have := hS.1; omega)).trans (hS.2.1 x h1 h2), hS.2.2⟩
  have hsz : H1.size = q0 + (es ++ [bk_ze cA t n]).length := by rw [z1, List.length_append]; rfl
  refine bk_putF (f := f) (ty := .array (newarray.typeOf atype)) (v := .ref (q0 + es.length)) hx hb hts hown hK hin hk13 hP1 (bk_Y_D y3) hS1 0 rfl hf hfl hlink hown2 hfin hd rfl rfl d4 fun H2 locs2 z2 hP2 hS2 => ?_
  exact kk H2 locs2 ⟨z2.trans hsz, hP2, y3⟩ hS2
end SEG
