/-! Makings whose end is told by a property (reset, startRead, startSo write what only a relation tells). -/
def bk_Qx {S9 : Type} (D : va_G) (h0 sz : Nat) (P9 : S9 → Prop) (o : S9 → va_E) (es : S9 → List va_E) : Array Value → State → Outcome → State → Prop := fun _ st oc t => oc = .returned none ∧ (∃ u : S9, P9 u ∧ bk_Y D h0 sz (o u) (es u) t.heap) ∧ va_F (bk_Ya h0 sz) st t
section NEWX
variable {p : Program} {l : Launch} {e : Env} {R : Room} {s : State} {m : MethodId} {args : Array Value} {below : List Frame} {meth : Method} {c : Code} {cc : ByteArray}
variable {cA : Nat → ClassId} {D : va_G} {Q : State → Prop} {h0 q0 : Nat} {es : List va_E} {H : Heap} {locs : List Loc} {cells slots : Nat} {ls : Array Slot}
/-- behind a making -/
theorem bk_callx {S9 : Type} {P9 : S9 → Prop} {h1 z1 mc ms pc : Nat} {o : S9 → va_E} {es1 : S9 → List va_E} {st0 rest : List Value} {a : Array Value} (hr : va_Run p l e R s m args below meth c H locs cells slots mc ms (F0 m pc ls st0) rest (bk_Qx D h1 z1 P9 o es1 a) (bk_Ya h1 z1)) (hS : va_S (bk_Ya h0 q0) s.heap H locs) (h9 : q0 ≤ h1 ∧ h1 < z1 ∧ z1 = H.size)
    (kk : ∀ (u : S9) (H1 : Heap) (locs1 : List Loc), P9 u → bk_Y D h1 z1 (o u) (es1 u) H1 → (∀ q, q < h1 → H1[q]? = H[q]?) → va_S (bk_Ya h0 q0) s.heap H1 locs1 → W p l e R s m args below meth c H1 locs1 (cells + mc) (slots + ms) Q (F0 m (pc + 3) ls rest)) : W p l e R s m args below meth c H locs cells slots Q (F0 m pc ls st0) := by
  intro T hT X
  obtain ⟨v, st₀, t, T', L, g0, X', hL, e1, e2, ⟨hv, ⟨u, hu, hY⟩, hz, hk⟩, st⟩ := hr T hT X
  cases hv
  rw [g0] at hz hk
  have hA : ∀ q, bk_Ya h1 z1 q → bk_Ya h0 q0 q := fun q h => by unfold bk_Ya at h ⊢; omega
  obtain ⟨t2, a1, b1⟩ := kk u T'.heap (locs ++ L) hu (by rw [e1]; exact hY) (fun q hq => by rw [e1]; exact hk q (by omega) (fun z => by unfold bk_Ya at z; omega))
    ⟨Nat.le_trans hS.1 (by rw [e1]; exact hz), fun q h1 h2 => by rw [e1, hk q (Nat.lt_of_lt_of_le h1 hS.1) (fun z => h2 (hA q z))]; exact hS.2.1 q h1 h2, fun q hq => by
      rcases List.mem_append.mp hq with h | h
      · exact hS.2.2 q h
      · exact hA _ (hL q h)⟩ T' rfl X'
  exact ⟨t2, st t2 a1, b1⟩
/-- new X(), up to the end of its making; the new cell's address stands on the stack -/
theorem bk_newx {k k1 N S nL pc i1 i2 : Nat} {o : va_E} {fs0 : List Value} {S9 : Type} {P9 : S9 → Prop} {F1 : Nat → S9 → List Value} {E1 : Nat → S9 → List va_E} {y1 : MethodName} {cc1 : ByteArray} {maxL : Nat} {rm : Room} {rest : List Value} {Pr : Nat → State → Prop}
    (hx : p.tables.exec = Jvm.exec) (hb : c.code = cc) (hts : ∀ w ∈ bk_W, w.before args s = true) (hown : s.vm.findClass (bk_R k) = some m.cls) (hml : c.maxLocals = nL) (hlsz : ls.size = nL) (hK : va_K D vwCl (bk_tys cA) s) (hk1 : k1 < 13)
    (hM : ∀ h1, Met l y1 (bk_wS y1 cc1 maxL none) rm (va_Pc [.ref h1] (Pr h1)) (bk_Qx D h1 (h1 + 1) P9 (fun u => .inr (k1, F1 h1 u)) (E1 h1)) N S (bk_Ya h1 (h1 + 1))) (hbl : ∀ h1, FrameBlind (va_Pc [.ref h1] (Pr h1)))
    (hPr : ∀ U : State, bk_Pn D cA (q0 + es.length) (q0 + es.length + 1) k1 fs0 U → s.WarmedH U.vm → s.heap.size ≤ U.heap.size → (∀ a : Nat, a < s.heap.size → ¬ bk_Ya h0 q0 a → U.heap[a]? = s.heap[a]?) → Pr (q0 + es.length) U) (hfs : ∀ j, j < bk_n k1 → defaultValue (bk_ty k1 j) = vp_V fs0 j)
    (w1 : Cond.classLink (bk_R k) i1 (bk_R k1) ∈ bk_W) (w2 : Cond.instantiable (bk_R k1) (bk_n k1) ∈ bk_W) (w3 : Cond.initialized (bk_R k1) ∈ bk_W) (w4 : Cond.methodLink (bk_R k) i2 y1 ∈ bk_W ∨ ∃ host, va_Nw (.methodLinkNest (bk_R k) i2 y1 host) s) (w5 : Cond.instanceMethod y1 ∈ bk_W) (w6 : Cond.code y1 cc1 maxL none ∈ bk_W)
    (hy : y1.cls = bk_R k1) (hy1 : y1.name = "<init>") (hd9 : y1.cls ≠ "java/lang/invoke/MethodHandle" ∧ y1.cls ≠ "java/lang/invoke/VarHandle" ∧ (parseMethodDescriptor y1.desc).map (fun d => d.parameters.length) = some 0)
    (hrm : rm.cells = N ∧ rm.slots = S) (hroom : rm.frames + 1 ≤ R.frames ∧ 8 + (maxL + 11) + rm.locals ≤ R.locals) (hrest : (rest.map fun v => v.category).sum ≤ 4)
    (hY : bk_Y D h0 q0 o es H) (hS : va_S (bk_Ya h0 q0) s.heap H locs) (d0 : decode cc pc = .ok (.new i1, 3)) (d3 : decode cc (pc + 3) = .ok (.dup, 1)) (d4 : decode cc (pc + 4) = .ok (.invokespecial i2, 3))
    (hc : cells + 1 + N ≤ R.cells) (hs : slots + bk_n k1 + S ≤ R.slots)
    (kk : ∀ (u : S9) (H1 : Heap) (locs1 : List Loc), P9 u → bk_Y D h0 q0 o (es ++ .inr (k1, F1 (q0 + es.length) u) :: E1 (q0 + es.length) u) H1 → va_S (bk_Ya h0 q0) s.heap H1 locs1 → W p l e R s m args below meth c H1 locs1 (cells + 1 + N) (slots + bk_n k1 + S) Q (F0 m (pc + 4 + 3) ls (.ref (q0 + es.length) :: rest))) :
    W p l e R s m args below meth c H locs cells slots Q (F0 m pc ls rest) := by
  obtain ⟨y1', y2, y3⟩ := hY
  have hKn := hK.1 k1 _ (bk_cl k1 hk1)
  refine W.newcK (C := bk_R k1) (n := bk_n k1) hx hb hown (hts _ w1) (hts _ w2) (hts _ w3) rfl d0 (by omega) (by omega) hKn.2.1 y1' fun Ha kC hkC e1 z1 o1 => ?_
  have hb1 : va_at D vwCl (q0 + es.length, .inr (k1, fs0)) Ha := ⟨_, bk_cl k1 hk1, (u_born (bk_ty k1) hts (bk_lay_W hk1) hKn hkC e1 (bk_ty_ok k1 hk1)).to hfs⟩
  have hSa : va_S (bk_Ya h0 q0) s.heap Ha locs := ⟨Nat.le_trans hS.1 (by omega), fun x h1 h2 => (o1 x (by have := hS.1; omega)).trans (hS.2.1 x h1 h2), hS.2.2⟩
  show W p l e R s m args below meth c Ha locs (cells + 1) (slots + bk_n k1) Q (F0 m (pc + 3) ls (.ref (q0 + es.length) :: rest))
  refine lv_dup hx hb d3 rfl ?_
  have hp : PreS s Ha (va_Pc [.ref (q0 + es.length)] (Pr (q0 + es.length))) (.ref (q0 + es.length) :: []) := ⟨hbl _, fun U hU hW => ⟨rfl, hPr U ⟨by rw [hU]; exact z1, fun i x hx9 => by
    have hz : i < 1 := (List.getElem?_eq_some_iff.mp hx9).1
    rw [show i = 0 by omega] at hx9
    cases hx9
    rw [hU]
    exact hb1, va_K.moved hW.alike hK, by omega⟩ hW (by rw [hU]; exact hSa.1) (fun a h1 h2 => by rw [hU]; exact hSa.2.1 a h1 h2)⟩⟩
  have hrm9 : 2 * (F0 m (pc + 4) ls (.ref (q0 + es.length) :: .ref (q0 + es.length) :: rest)).monitorRoom + ((Value.ref (q0 + es.length) :: rest).map fun v => v.category).sum ≤ 8 := lv_room (by
    show 1 + (rest.map fun v => v.category).sum ≤ 8
    omega)
  have hF : CallFix p m c cc nL s args bk_W (bk_R k) := ⟨hx, hb, hml, hown, hts⟩
  have hRun : va_Run p l e R s m args below meth c Ha locs (cells + 1) (slots + bk_n k1) N S (F0 m (pc + 4) ls (.ref (q0 + es.length) :: .ref (q0 + es.length) :: rest)) (.ref (q0 + es.length) :: rest) (bk_Qx D (q0 + es.length) (q0 + es.length + 1) P9 (fun u => .inr (k1, F1 (q0 + es.length) u)) (E1 (q0 + es.length)) (Value.ref (q0 + es.length) :: []).toArray) (bk_Ya (q0 + es.length) (q0 + es.length + 1)) := by
    rcases w4 with w4 | ⟨host, w4⟩
    · exact va_runI (As := []) (b := q0 + es.length) (rest := .ref (q0 + es.length) :: rest) hF (hM (q0 + es.length)) (cwI 0 hts (bk_good (bk_wS_in w6)) rfl hrm.1 hrm.2 (by rw [hy]; exact hts _ w3) (hts _ w4) (hts _ w5) hy1 hd9 hroom) hp rfl rfl hlsz rfl hrm9 d4 ⟨hc, hs⟩
    · exact va_runIN (As := []) (b := q0 + es.length) (rest := .ref (q0 + es.length) :: rest) hF (hM (q0 + es.length)) ⟨va_cnB 0 hts (bk_good (bk_wS_in w6)) rfl hrm.1 hrm.2 w4 (by rw [hy]; exact hts _ w3) hd9 hroom, hy1, hts _ w5⟩ hp rfl rfl hlsz rfl hrm9 d4 ⟨hc, hs⟩
  refine bk_callx (h1 := q0 + es.length) hRun hSa ⟨by omega, by omega, z1.symm⟩ (fun u H1 locs1 hu hY1 hk1' hS1 => ?_)
  obtain ⟨g1, g2, g3⟩ := hY1
  refine kk u H1 locs1 hu ⟨by rw [g1, List.length_append, List.length_cons]; omega, ?_, y3⟩ hS1
  rw [bk_zs_app2, ← List.cons_append]
  refine va_P.app (y2.kept fun i x hx9 => ?_) g2
  have hlt := (y2 i x hx9).lt
  rw [hk1' x.1 (by omega)]
  exact o1 x.1 (by omega)
end NEWX
