/-! The law's three makings, and the law from its entry. -/
def bk_Yo (D : va_G) (q0 : Nat) (es : List va_E) (H : Heap) : Prop := H.size = q0 + es.length ∧ va_P D vwCl (bk_zs q0 es) H
section NEWL
variable {p : Program} {l : Launch} {e : Env} {R : Room} {s : State} {m : MethodId} {args : Array Value} {below : List Frame} {meth : Method} {c : Code} {cc : ByteArray}
variable {cA : Nat → ClassId} {D : va_G} {Q : State → Prop} {q0 : Nat} {es : List va_E} {H : Heap} {locs : List Loc} {cells slots : Nat} {ls : Array Slot}
theorem bk_callL {S9 : Type} {P9 : S9 → Prop} {h1 z1 mc ms pc : Nat} {o : S9 → va_E} {es1 : S9 → List va_E} {st0 rest : List Value} {a : Array Value} (hr : va_Run p l e R s m args below meth c H locs cells slots mc ms (F0 m pc ls st0) rest (bk_Qx D h1 z1 P9 o es1 a) (bk_Ya h1 z1)) (hS : va_S (fun q => q0 ≤ q) s.heap H locs) (h9 : q0 ≤ h1 ∧ h1 < z1 ∧ z1 = H.size)
    (kk : ∀ (u : S9) (H1 : Heap) (locs1 : List Loc), P9 u → bk_Y D h1 z1 (o u) (es1 u) H1 → (∀ q, q < h1 → H1[q]? = H[q]?) → va_S (fun q => q0 ≤ q) s.heap H1 locs1 → W p l e R s m args below meth c H1 locs1 (cells + mc) (slots + ms) Q (F0 m (pc + 3) ls rest)) : W p l e R s m args below meth c H locs cells slots Q (F0 m pc ls st0) := by
  intro T hT X
  obtain ⟨v, st₀, t, T', L, g0, X', hL, e1, e2, ⟨hv, ⟨u, hu, hY⟩, hz, hk⟩, st⟩ := hr T hT X
  cases hv
  rw [g0] at hz hk
  have hA : ∀ q, bk_Ya h1 z1 q → q0 ≤ q := fun q h => by unfold bk_Ya at h; omega
  obtain ⟨t2, a1, b1⟩ := kk u T'.heap (locs ++ L) hu (by rw [e1]; exact hY) (fun q hq => by rw [e1]; exact hk q (by omega) (fun z => by unfold bk_Ya at z; omega))
    ⟨Nat.le_trans hS.1 (by rw [e1]; exact hz), fun q h1 h2 => by rw [e1, hk q (Nat.lt_of_lt_of_le h1 hS.1) (fun z => h2 (hA q z))]; exact hS.2.1 q h1 h2, fun q hq => by
      rcases List.mem_append.mp hq with h | h
      · exact hS.2.2 q h
      · exact hA _ (hL q h)⟩ T' rfl X'
  exact ⟨t2, st t2 a1, b1⟩
theorem bk_newL {k k1 N S nL pc i1 i2 h1 : Nat} {fs0 : List Value} {S9 : Type} {P9 : S9 → Prop} {F1 : Nat → S9 → List Value} {E1 : Nat → S9 → List va_E} {y1 : MethodName} {cc1 : ByteArray} {maxL : Nat} {rm : Room} {rest : List Value} {Pr : Nat → State → Prop}
    (hx : p.tables.exec = Jvm.exec) (hb : c.code = cc) (hts : ∀ w ∈ bk_W, w.before args s = true) (hown : s.vm.findClass (bk_R k) = some m.cls) (hml : c.maxLocals = nL) (hlsz : ls.size = nL) (hK : va_K D vwCl (bk_tys cA) s) (hk1 : k1 < 13) (hq : q0 + es.length = h1)
    (hM : Met l y1 (bk_wS y1 cc1 maxL none) rm (va_Pc [.ref h1] (Pr h1)) (bk_Qx D h1 (h1 + 1) P9 (fun u => .inr (k1, F1 h1 u)) (E1 h1)) N S (bk_Ya h1 (h1 + 1))) (hbl : FrameBlind (va_Pc [.ref h1] (Pr h1)))
    (hPr : ∀ U : State, bk_Pn D cA h1 (h1 + 1) k1 fs0 U → s.WarmedH U.vm → s.heap.size ≤ U.heap.size → (∀ a : Nat, a < s.heap.size → ¬ q0 ≤ a → U.heap[a]? = s.heap[a]?) → Pr h1 U) (hfs : ∀ j, j < bk_n k1 → defaultValue (bk_ty k1 j) = vp_V fs0 j)
    (w1 : Cond.classLink (bk_R k) i1 (bk_R k1) ∈ bk_W) (w2 : Cond.instantiable (bk_R k1) (bk_n k1) ∈ bk_W) (w3 : Cond.initialized (bk_R k1) ∈ bk_W) (w4 : Cond.methodLink (bk_R k) i2 y1 ∈ bk_W) (w5 : Cond.instanceMethod y1 ∈ bk_W) (w6 : Cond.code y1 cc1 maxL none ∈ bk_W)
    (hy : y1.cls = bk_R k1) (hy1 : y1.name = "<init>") (hd9 : y1.cls ≠ "java/lang/invoke/MethodHandle" ∧ y1.cls ≠ "java/lang/invoke/VarHandle" ∧ (parseMethodDescriptor y1.desc).map (fun d => d.parameters.length) = some 0)
    (hrm : rm.cells = N ∧ rm.slots = S) (hroom : rm.frames + 1 ≤ R.frames ∧ 8 + (maxL + 11) + rm.locals ≤ R.locals) (hrest : (rest.map fun v => v.category).sum ≤ 4)
    (hY : bk_Yo D q0 es H) (hS : va_S (fun q => q0 ≤ q) s.heap H locs) (d0 : decode cc pc = .ok (.new i1, 3)) (d3 : decode cc (pc + 3) = .ok (.dup, 1)) (d4 : decode cc (pc + 4) = .ok (.invokespecial i2, 3))
    (hc : cells + 1 + N ≤ R.cells) (hs : slots + bk_n k1 + S ≤ R.slots)
    (kk : ∀ (u : S9) (H1 : Heap) (locs1 : List Loc), P9 u → bk_Yo D q0 (es ++ .inr (k1, F1 h1 u) :: E1 h1 u) H1 → va_S (fun q => q0 ≤ q) s.heap H1 locs1 → W p l e R s m args below meth c H1 locs1 (cells + 1 + N) (slots + bk_n k1 + S) Q (F0 m (pc + 4 + 3) ls (.ref h1 :: rest))) :
    W p l e R s m args below meth c H locs cells slots Q (F0 m pc ls rest) := by
  subst hq
  obtain ⟨y1', y2⟩ := hY
  have hKn := hK.1 k1 _ (bk_cl k1 hk1)
  refine W.newcK (C := bk_R k1) (n := bk_n k1) hx hb hown (hts _ w1) (hts _ w2) (hts _ w3) rfl d0 (by omega) (by omega) hKn.2.1 y1' fun Ha kC hkC e1 z1 o1 => ?_
  have hb1 : va_at D vwCl (q0 + es.length, .inr (k1, fs0)) Ha := ⟨_, bk_cl k1 hk1, (u_born (bk_ty k1) hts (bk_lay_W hk1) hKn hkC e1 (bk_ty_ok k1 hk1)).to hfs⟩
  have hSa : va_S (fun q => q0 ≤ q) s.heap Ha locs := ⟨Nat.le_trans hS.1 (by omega), fun x h1 h2 => (o1 x (by have := hS.1; omega)).trans (hS.2.1 x h1 h2), hS.2.2⟩
  show W p l e R s m args below meth c Ha locs (cells + 1) (slots + bk_n k1) Q (F0 m (pc + 3) ls (.ref (q0 + es.length) :: rest))
  refine lv_dup hx hb d3 rfl ?_
  have hp : PreS s Ha (va_Pc [.ref (q0 + es.length)] (Pr (q0 + es.length))) (.ref (q0 + es.length) :: []) := ⟨hbl, fun U hU hW => ⟨rfl, hPr U ⟨by rw [hU]; exact z1, fun i x hx9 => by
    have hz : i < 1 := (List.getElem?_eq_some_iff.mp hx9).1
    rw [show i = 0 by omega] at hx9
    cases hx9
    rw [hU]
    exact hb1, va_K.moved hW.alike hK, by omega⟩ hW (by rw [hU]; exact hSa.1) (fun a h1 h2 => by rw [hU]; exact hSa.2.1 a h1 h2)⟩⟩
  have hrm9 : 2 * (F0 m (pc + 4) ls (.ref (q0 + es.length) :: .ref (q0 + es.length) :: rest)).monitorRoom + ((Value.ref (q0 + es.length) :: rest).map fun v => v.category).sum ≤ 8 := lv_room (by
    show 1 + (rest.map fun v => v.category).sum ≤ 8
    omega)
  have hF : CallFix p m c cc nL s args bk_W (bk_R k) := ⟨hx, hb, hml, hown, hts⟩
  have hRun : va_Run p l e R s m args below meth c Ha locs (cells + 1) (slots + bk_n k1) N S (F0 m (pc + 4) ls (.ref (q0 + es.length) :: .ref (q0 + es.length) :: rest)) (.ref (q0 + es.length) :: rest) (bk_Qx D (q0 + es.length) (q0 + es.length + 1) P9 (fun u => .inr (k1, F1 (q0 + es.length) u)) (E1 (q0 + es.length)) (Value.ref (q0 + es.length) :: []).toArray) (bk_Ya (q0 + es.length) (q0 + es.length + 1)) :=
    va_runI (As := []) (b := q0 + es.length) (rest := .ref (q0 + es.length) :: rest) hF hM (cwI 0 hts (bk_good (bk_wS_in w6)) rfl hrm.1 hrm.2 (by rw [hy]; exact hts _ w3) (hts _ w4) (hts _ w5) hy1 hd9 hroom) hp rfl rfl hlsz rfl hrm9 d4 ⟨hc, hs⟩
  refine bk_callL (h1 := q0 + es.length) hRun hSa ⟨by omega, by omega, z1.symm⟩ (fun u H1 locs1 hu hY1 hk1' hS1 => ?_)
  obtain ⟨g1, g2, g3⟩ := hY1
  refine kk u H1 locs1 hu ⟨by rw [g1, List.length_append, List.length_cons]; omega, ?_⟩ hS1
  rw [bk_zs_app2]
  refine va_P.app (y2.kept fun i x hx9 => ?_) g2
  have hlt := (y2 i x hx9).lt
  rw [hk1' x.1 (by omega)]
  exact o1 x.1 (by omega)
/-- 'new long[n]' -/
theorem bk_newarL {n pc : Nat} {n32 : Int32} {rest : List Value} (hx : p.tables.exec = Jvm.exec) (hb : c.code = cc) (hts : ∀ w ∈ bk_W, w.before args s = true) (hK : va_K D vwCl (bk_tys cA) s) (harr : Cond.arrayClass .long ∈ bk_W) (hn : ¬ n32 < 0) (hN : n32.toNatClampNeg = n) (hn9 : n ≤ 1000) (d2 : decode cc pc = .ok (.newarray .long, 2))
    (hY : bk_Yo D q0 es H) (hS : va_S (fun q => q0 ≤ q) s.heap H locs) (hc : cells + 1 ≤ R.cells) (hs : slots + n ≤ R.slots)
    (kk : ∀ (H1 : Heap), bk_Yo D q0 (es ++ [bk_ze cA 1 n]) H1 → va_S (fun q => q0 ≤ q) s.heap H1 locs → W p l e R s m args below meth c H1 locs (cells + 1) (slots + n) Q (F0 m (pc + 2) ls (.ref (q0 + es.length) :: rest))) : W p l e R s m args below meth c H locs cells slots Q (F0 m pc ls (.int n32 :: rest)) := by
  obtain ⟨y1, y2⟩ := hY
  have hbytes : n * componentBytes (newarray.typeOf .long) ≤ 536870912 := by
    show n * 8 ≤ 536870912
    omega
  refine va_newaK (atype := .long) hx hb (hts _ harr) rfl d2 rfl hn hN hbytes hc hs y1 fun H1 cB e1 z1 o1 hAr hNm => ?_
  have hcB : cB = cA 1 := Option.some.inj (hNm.symm.trans (hK.2 1 _ rfl).2)
  subst hcB
  refine kk H1 ⟨by rw [z1, List.length_append]; rfl, ?_⟩ ⟨Nat.le_trans hS.1 (by omega), fun x h1 h2 => (o1 x (by have := hS.1; omega)).trans (hS.2.1 x h1 h2), hS.2.2⟩
  rw [bk_zs_app]
  refine (y2.kept fun i x hx9 => o1 x.1 (by have := (y2 i x hx9).lt; omega)).app fun i x hx9 => ?_
  have hz : i < 1 := (List.getElem?_eq_some_iff.mp hx9).1
  rw [show i = 0 by omega] at hx9
  cases hx9
  exact e1
end NEWL
def bk_f1_11 (h1 : Nat) (u : bk_M) : List Value := (List.range (bk_n 11)).map (bk_fv (h1, bk_lay) u 11 0)
def bk_e1_11 (cA : Nat → ClassId) (h1 : Nat) (u : bk_M) : List va_E := bk_x11.map (bk_en (h1, bk_lay) cA u)
theorem bk_sl_11 (h1 : Nat) (cA : Nat → ClassId) (u : bk_M) : (.inr (11, bk_f1_11 h1 u) : va_E) = bk_en (h1, bk_lay) cA u (11, 0) := rfl
def bk_f1_12 (h1 : Nat) (u : bk_M) : List Value := (List.range (bk_n 12)).map (bk_fv (h1, bk_l12) u 12 0)
def bk_e1_12 (cA : Nat → ClassId) (h1 : Nat) (u : bk_M) : List va_E := (bk_l12.drop 1).map (bk_en (h1, bk_l12) cA u)
theorem bk_sl_12 (h1 : Nat) (cA : Nat → ClassId) (u : bk_M) : .inr (12, bk_f1_12 h1 u) :: bk_e1_12 cA h1 u = bk_l12.map (bk_en (h1, bk_l12) cA u) := rfl
theorem bk_lay_len : bk_lay.length = 261 := by decide +kernel
theorem bk_x11_len : bk_x11.length = 229 := by decide +kernel
theorem bk_e11_len (cA : Nat → ClassId) (h1 : Nat) (u : bk_M) : (bk_e1_11 cA h1 u).length = 229 := by
  unfold bk_e1_11
  rw [List.length_map, bk_x11_len]
theorem bk_e12_len (cA : Nat → ClassId) (h1 : Nat) (u : bk_M) : (bk_e1_12 cA h1 u).length = 29 := by
  unfold bk_e1_12
  rw [List.length_map]
  decide
def bk_mwL : List Cond := [.classLink (bk_R 13) 8 RX11, .instantiable RX11 17, .initialized RX11, .methodLink (bk_R 13) 19 yX11_init, .instanceMethod yX11_init, .code yX11_init cX11_init 1 none, .classLink (bk_R 13) 20 RX12, .instantiable RX12 59, .initialized RX12, .methodLink (bk_R 13) 22 yX12_init, .instanceMethod yX12_init, .code yX12_init cX12_init 2 none]
theorem bk_mwL_1 : bk_mwL.all (fun w => bk_sub [w] tables_1 && goodWord w) = true := by decide +kernel
theorem d_lawS : decode code 0 = .ok (.new 8, 3) ∧ decode code 3 = .ok (.dup, 1) ∧ decode code 4 = .ok (.invokespecial 19, 3) ∧ decode code 7 = .ok (.astore_n 1, 1) ∧ decode code 8 = .ok (.new 20, 3) ∧ decode code 11 = .ok (.dup, 1) ∧ decode code 12 = .ok (.invokespecial 22, 3) ∧ decode code 15 = .ok (.astore_n 2, 1) ∧ decode code 16 = .ok (.iconst 1, 1) ∧ decode code 17 = .ok (.newarray .long, 2) ∧ decode code 19 = .ok (.astore_n 3, 1) := ⟨by decide +kernel, by decide +kernel, by decide +kernel, by decide +kernel, by decide +kernel, by decide +kernel, by decide +kernel, by decide +kernel, by decide +kernel, by decide +kernel, by decide +kernel⟩
theorem bk_offL : bk_find (11, 0) bk_lay = 0 ∧ bk_find (12, 0) bk_lay = 230 ∧ bk_find (86, 0) bk_lay = 260 ∧ (11, 0) ∈ bk_lay ∧ (12, 0) ∈ bk_lay ∧ (86, 0) ∈ bk_lay := by decide +kernel
theorem bk_df_11 : ∀ j, j < bk_n 11 → defaultValue (bk_ty 11 j) = vp_V [.null, .null, .null, .null, .null, .null, .null, .null, .null, .null, .null, .null, .null, .null, .null, .int 0, .int 0] j := lt_s (lt_s (lt_s (lt_s (lt_s (lt_s (lt_s (lt_s (lt_s (lt_s (lt_s (lt_s (lt_s (lt_s (lt_s (lt_s (lt_s lt_0 rfl) rfl) rfl) rfl) rfl) rfl) rfl) rfl) rfl) rfl) rfl) rfl) rfl) rfl) rfl) rfl) rfl
theorem bk_df_12 : ∀ j, j < bk_n 12 → defaultValue (bk_ty 12 j) = vp_V [.int 0, .null, .int 0, .int 0, .int 0, .int 0, .int 0, .int 0, .int 0, .int 0, .int 0, .int 0, .long 0, .int 0, .null, .null, .null, .null, .null, .null, .null, .null, .null, .null, .null, .int 0, .int 0, .null, .null, .null, .int 0, .null, .null, .int 0, .null, .int 0, .int 0, .null, .null, .int 0, .int 0, .null, .null, .null, .int 0, .int 0, .null, .null, .null, .int 0, .null, .null, .int 0, .int 0, .null, .int 0, .int 0, .int 0, .int 0] j := lt_s (lt_s (lt_s (lt_s (lt_s (lt_s (lt_s (lt_s (lt_s (lt_s (lt_s (lt_s (lt_s (lt_s (lt_s (lt_s (lt_s (lt_s (lt_s (lt_s (lt_s (lt_s (lt_s (lt_s (lt_s (lt_s (lt_s (lt_s (lt_s (lt_s (lt_s (lt_s (lt_s (lt_s (lt_s (lt_s (lt_s (lt_s (lt_s (lt_s (lt_s (lt_s (lt_s (lt_s (lt_s (lt_s (lt_s (lt_s (lt_s (lt_s (lt_s (lt_s (lt_s (lt_s (lt_s (lt_s (lt_s (lt_s (lt_s lt_0 rfl) rfl) rfl) rfl) rfl) rfl) rfl) rfl) rfl) rfl) rfl) rfl) rfl) rfl) rfl) rfl) rfl) rfl) rfl) rfl) rfl) rfl) rfl) rfl) rfl) rfl) rfl) rfl) rfl) rfl) rfl) rfl) rfl) rfl) rfl) rfl) rfl) rfl) rfl) rfl) rfl) rfl) rfl) rfl) rfl) rfl) rfl) rfl) rfl) rfl) rfl) rfl) rfl) rfl) rfl) rfl) rfl) rfl) rfl
set_option maxHeartbeats 20000000 in
theorem whole_start {p : Program} {e : Env} {s : State} {m : MethodId} {below : List Frame} {meth : Method} {c : Code} (l : Launch) (hflags : l.flags = flags0) {b L : Nat} {xs : Nat → Int32} (hL : L ≤ 3072) (C0 : lw_At p s m meth c b L xs) : W p l e room_1 s m #[Value.ref b] below meth c s.heap [] 0 0 (lw_Z below #[Value.ref b] s) (entryFrame m ([Value.ref b] : List Value).toArray 7) := by
  obtain ⟨hx, hb, hr, hml, hown, hts0, hX, hbl, hlocks, hgv⟩ := id C0
  have hts : ∀ w ∈ bk_W, w.before #[Value.ref b] s = true := fun w hw => hts0 w (List.mem_filter.mp hw).1
  obtain ⟨D, cA, aK, q5, hK, hE⟩ := bk_world hL hts0 hX hbl hgv
  have hsc := bk_sc_O (xs := xs) hL
  have hown : s.vm.findClass (bk_R 13) = some m.cls := hown
  generalize hb1 : s.heap.size = b1 at hE
  have hY : bk_Yo D b1 [] s.heap := ⟨hb1, fun k q h => nomatch h⟩
  have hS : va_S (fun q => b1 ≤ q) s.heap s.heap [] := va_S.rf
  have hl := lv_entry ([.ref b]) (n := 7) (Nat.le_of_ble_eq_true rfl)
  rw [lg_entry_eq]
  generalize (lg_sl ([.ref b]) ++ List.replicate (7 - (lg_sl ([.ref b])).length) Slot.unset).toArray = ls at hl ⊢
  have hl : lv_has ls 7 [(0, .ref b)] := hl
  have hEw : ∀ U : State, s.WarmedH U.vm → s.heap.size ≤ U.heap.size → (∀ a : Nat, a < s.heap.size → ¬ b1 ≤ a → U.heap[a]? = s.heap[a]?) → bk_Ew (b1, bk_lay) b aK (bk_sc L xs) q5 U U.heap := fun U hW hz hk => (hE.kept2 (h0 := b1) (q0 := b1) hz ⟨Nat.le_refl _, by show b1 < b1 + bk_lay.length; rw [bk_lay_len]; omega⟩ (by omega) (fun a h1 _ => hk a h1 (by omega))).warm hW
  obtain ⟨d0, d3, d4, d7, d8, d11, d12, d15, d16, d17, d19⟩ := d_lawS
  refine bk_newL (k := 13) (k1 := 11) (nL := 7) (h1 := b1) (F1 := bk_f1_11) (E1 := bk_e1_11 cA) (P9 := bk_P11 (bk_sc L xs)) (Pr := fun h1 => bk_Pe (b1, bk_lay) b aK (bk_sc L xs) q5 D cA h1 11 230 _) hx hb hts hown hml hl.1 hK (by decide) rfl (bk_mk_11 l (b1, bk_lay) b aK (bk_sc L xs) hsc q5 D cA b1) bk_Pe_blind (fun U h hW hz hk => ⟨h, hEw U hW hz hk, Nat.le_refl _, by show b1 + 230 ≤ b1 + bk_lay.length; rw [bk_lay_len]; omega⟩) bk_df_11 (bk_wIn bk_mwL_1 0 rfl) (bk_wIn bk_mwL_1 1 rfl) (bk_wIn bk_mwL_1 2 rfl) (bk_wIn bk_mwL_1 3 rfl) (bk_wIn bk_mwL_1 4 rfl) (bk_wIn bk_mwL_1 5 rfl) rfl rfl ⟨by decide +kernel, by decide +kernel, by decide +kernel⟩ ⟨rfl, rfl⟩ ⟨by decide, by decide⟩ (Nat.le_of_ble_eq_true rfl) hY hS d0 d3 d4 (by decide) (by decide) (fun u H locs hu hY hS => ?_)
  refine lv_astore_n hx hb d7 rfl hl (by decide) rfl (fun ls hl => ?_)
  have q2 : b1 + (([] : List va_E) ++ Sum.inr (11, bk_f1_11 b1 u) :: bk_e1_11 cA b1 u).length = b1 + 230 := by rw [List.nil_append, List.length_cons, bk_e11_len]
  refine bk_newL (k := 13) (k1 := 12) (nL := 7) (h1 := b1 + 230) (F1 := bk_f1_12) (E1 := bk_e1_12 cA) (P9 := bk_P12) (Pr := fun h1 => bk_Pp (b1, bk_lay) b aK (bk_sc L xs) D cA h1 (h1 + 1) 12 30 _) hx hb hts hown hml hl.1 hK (by decide) q2 (bk_mk_12 l (b1, bk_lay) b aK (bk_sc L xs) hsc D cA (b1 + 230)) bk_Pp_blind (fun U h hW hz hk => ⟨h, (hEw U hW hz hk).2.1, by show b1 ≤ b1 + 230; omega, by show b1 + 230 + 30 ≤ b1 + bk_lay.length; rw [bk_lay_len]; omega⟩) bk_df_12 (bk_wIn bk_mwL_1 6 rfl) (bk_wIn bk_mwL_1 7 rfl) (bk_wIn bk_mwL_1 8 rfl) (bk_wIn bk_mwL_1 9 rfl) (bk_wIn bk_mwL_1 10 rfl) (bk_wIn bk_mwL_1 11 rfl) rfl rfl ⟨by decide +kernel, by decide +kernel, by decide +kernel⟩ ⟨rfl, rfl⟩ ⟨by decide, by decide⟩ (Nat.le_of_ble_eq_true rfl) hY hS d8 d11 d12 (by decide) (by decide) (fun v H locs hv hY hS => ?_)
  refine lv_astore_n hx hb d15 rfl hl (by decide) rfl (fun ls hl => ?_)
  refine lv_iconst (v := 1) hx hb d16 (by decide) ?_
  refine bk_newarL (n := 1) hx hb hts hK (bk_wIn bk_mW_1 3 rfl) (by decide) rfl (by decide) d17 hY hS (by decide) (by decide) (fun H hY hS => ?_)
  have q3 : b1 + ((([] : List va_E) ++ Sum.inr (11, bk_f1_11 b1 u) :: bk_e1_11 cA b1 u) ++ Sum.inr (12, bk_f1_12 (b1 + 230) v) :: bk_e1_12 cA (b1 + 230) v).length = b1 + 260 := by rw [List.length_append, List.nil_append, List.length_cons, List.length_cons, bk_e11_len, bk_e12_len]
  rw [q3]
  refine lv_astore_n hx hb d19 rfl hl (by decide) rfl (fun ls hl => ?_)
  have hl : lv_has ls 7 [(3, .ref (b1 + 260)), (2, .ref (b1 + 230)), (1, .ref b1), (0, .ref b)] := hl
  obtain ⟨o1, o2, o3, o4, o5, o6⟩ := bk_offL
  have hP : va_P D vwCl (bk_ws (b1, bk_lay) cA (bk_M9 (bk_sc L xs) u v)) H := by
    rw [bk_ws_zs, ← bk_ws9, ← bk_sl_12, ← bk_sl_11]
    have h := hY.2
    rw [List.append_assoc, List.nil_append] at h
    exact h
  refine va_forget (fun q hq => by rw [hb1]; exact hS.2.2 q hq) ?_
  refine bk_law_20 (ba := (b1, bk_lay)) (aK := aK) (cA := cA) (D := D) (sc := bk_sc L xs) l hflags hL C0 hb1 ⟨hx, hb, hml, hown, hts, hK, by have h := hE.2.1; exact h, by decide, by decide, by show s.heap.size ≥ b1; omega, bk_LayL b1⟩ o4 o6 rfl (bk_inv0 hu hv) (bk_okm9 hsc hu hv) bk_M9_13 (fun v hv => ?_) hP ⟨hS.1, fun q h1 h2 => hS.2.1 q h1 (by omega), fun q hq => nomatch hq⟩ (by decide) (by decide) ⟨hl.1, hl.2.1, fun q hq => ?_⟩
  · simp only [List.mem_cons, List.not_mem_nil, or_false] at hv
    rcases hv with rfl | rfl | rfl | rfl
    · exact Or.inl rfl
    · exact Or.inr (Or.inr o4)
    · exact Or.inr (Or.inr o5)
    · exact Or.inr (Or.inr o6)
  · obtain ⟨w, g1, g2, g3⟩ := bk_al_mem.mp hq
    match hq1 : q.1, g1 with
    | 0, g1 =>
      cases g1
      rw [g3]
      exact hl.2.2 (0, .ref b) (by simp)
    | 1, g1 =>
      cases g1
      rw [g3, show bk_rv (b1, bk_lay) b aK (bk_c 11 0) = .ref (b1 + bk_find (11, 0) bk_lay) from rfl, o1]
      exact hl.2.2 (1, .ref b1) (by simp)
    | 2, g1 =>
      cases g1
      rw [g3, show bk_rv (b1, bk_lay) b aK (bk_c 12 0) = .ref (b1 + bk_find (12, 0) bk_lay) from rfl, o2]
      exact hl.2.2 (2, .ref (b1 + 230)) (by simp)
    | 3, g1 =>
      cases g1
      rw [g3, show bk_rv (b1, bk_lay) b aK (bk_c 86 0) = .ref (b1 + bk_find (86, 0) bk_lay) from rfl, o3]
      exact hl.2.2 (3, .ref (b1 + 260)) (by simp)
    | 4, g1 => cases g1; exact absurd rfl g2
    | 5, g1 => cases g1; exact absurd rfl g2
    | 6, g1 => cases g1; exact absurd rfl g2
    | z + 7, g1 => cases g1
