/-! The constructors that make arrays only. -/
def bk_Pn (D : va_G) (cA : Nat → ClassId) (h0 sz k : Nat) (fs : List Value) (U : State) : Prop := U.heap.size = sz ∧ va_P D vwCl [(h0, .inr (k, fs))] U.heap ∧ va_K D vwCl (bk_tys cA) U ∧ h0 < sz
def bk_Qn (D : va_G) (h0 sz : Nat) (o : va_E) (es : List va_E) : Array Value → State → Outcome → State → Prop := fun _ st oc t => oc = .returned none ∧ bk_Y D h0 sz o es t.heap ∧ va_F (bk_Ya h0 sz) st t
theorem bk_Pn_blind {D : va_G} {cA : Nat → ClassId} {h0 sz k : Nat} {fs : List Value} {as : List Value} : FrameBlind (va_Pc as (bk_Pn D cA h0 sz k fs)) := fun a U g mk h => ⟨h.1, h.2.1, h.2.2.1, va_K.moved (u := U) (U := U.calling g mk a) (Vm.Alike.refl U.vm) h.2.2.2.1, h.2.2.2.2⟩
def bk_mW : List Cond := [.instanceMethod Lib.objectInit, .code Lib.objectInit ⟨#[0xb1]⟩ 1 none, .arrayClass .int, .arrayClass .long, .arrayClass .boolean]
theorem bk_mW_1 : bk_mW.all (fun w => bk_sub [w] tables_1 && goodWord w) = true := by decide +kernel
theorem bk_wIn {L : List Cond} (hL : L.all (fun w => bk_sub [w] tables_1 && goodWord w) = true) (n : Nat) {w : Cond} (hw : L[n]? = some w) : w ∈ bk_W := by
  have h := List.all_eq_true.mp hL w (List.mem_of_getElem? hw)
  rw [Bool.and_eq_true] at h
  exact bk_W_of (bk_sub_mem h.1 w List.mem_cons_self) h.2
theorem d_mk_0 : decode cX0_init 0 = .ok (.aload_n 0, 1) ∧ decode cX0_init 1 = .ok (.invokespecial 3, 3) ∧ decode cX0_init 4 = .ok (.aload_n 0, 1) ∧ decode cX0_init 5 = .ok (.bipush 40, 2) ∧ decode cX0_init 7 = .ok (.newarray .int, 2) ∧ decode cX0_init 9 = .ok (.putfield 9, 3) ∧ decode cX0_init 12 = .ok (.aload_n 0, 1) ∧ decode cX0_init 13 = .ok (.bipush 40, 2) ∧ decode cX0_init 15 = .ok (.newarray .int, 2) ∧ decode cX0_init 17 = .ok (.putfield 15, 3) ∧ decode cX0_init 20 = .ok (.aload_n 0, 1) ∧ decode cX0_init 21 = .ok (.bipush 40, 2) ∧ decode cX0_init 23 = .ok (.newarray .int, 2) ∧ decode cX0_init 25 = .ok (.putfield 18, 3) ∧ decode cX0_init 28 = .ok (.aload_n 0, 1) ∧ decode cX0_init 29 = .ok (.bipush 40, 2) ∧ decode cX0_init 31 = .ok (.newarray .int, 2) ∧ decode cX0_init 33 = .ok (.putfield 21, 3) ∧ decode cX0_init 36 = .ok (.return_, 1) := ⟨by decide +kernel, by decide +kernel, by decide +kernel, by decide +kernel, by decide +kernel, by decide +kernel, by decide +kernel, by decide +kernel, by decide +kernel, by decide +kernel, by decide +kernel, by decide +kernel, by decide +kernel, by decide +kernel, by decide +kernel, by decide +kernel, by decide +kernel, by decide +kernel, by decide +kernel⟩
def bk_mw_0 : List Cond := [.methodLink RX0 3 Lib.objectInit, .fieldLink RX0 9 RX0 (bk_F 0 2).2.1 (bk_F 0 2).2.2.1, .fieldLink RX0 15 RX0 (bk_F 0 3).2.1 (bk_F 0 3).2.2.1, .fieldLink RX0 18 RX0 (bk_F 0 4).2.1 (bk_F 0 4).2.2.1, .fieldLink RX0 21 RX0 (bk_F 0 5).2.1 (bk_F 0 5).2.2.1]
theorem bk_mw_0_1 : bk_mw_0.all (fun w => bk_sub [w] tables_1 && goodWord w) = true := by decide +kernel
theorem bk_mk_0 (l : Launch) (D : va_G) (cA : Nat → ClassId) (h0 sz : Nat) : Met l yX0_init (bk_wS yX0_init cX0_init 1 none) { frames := 1, cells := 4, slots := 160, locals := 12 } (va_Pc [.ref h0] (bk_Pn D cA h0 sz 0 [.int 0, .int 0, .null, .null, .null, .null])) (bk_Qn D h0 sz (.inr (0, [.int 0, .int 0, .ref sz, .ref (sz + 1), .ref (sz + 2), .ref (sz + 3)])) [bk_ze cA 0 40, bk_ze cA 0 40, bk_ze cA 0 40, bk_ze cA 0 40]) 4 160 (bk_Ya h0 sz) := by
  refine Met.ofW (cc := cX0_init) (maxL := 1) (ret := none) (by decide +kernel) rfl ?_
  intro p e s m args below meth c s₁ B hml hv
  obtain ⟨rfl, hsz, hP, hK, h0s⟩ := hv
  subst hsz
  have hx := B.exec
  have hb := B.bytes
  have hr := B.returns
  have hts : ∀ w ∈ bk_W, w.before #[Value.ref h0] s = true := fun w hw => atoms_spec (ws := bk_wS yX0_init cX0_init 1 none) B.pre w (List.mem_cons_of_mem _ hw)
  have hown : s.vm.findClass (bk_R 0) = some m.cls := findClass_of_methodNamed B.named
  have hlocks := B.notSynchronized
  have hin : meth.name = "<init>" := (name_of_methodNamed B.named B.method).1
  have hY : bk_Y D h0 s.heap.size (.inr (0, [.int 0, .int 0, .null, .null, .null, .null])) [] s.heap := ⟨rfl, hP, h0s⟩
  have hS : va_S (bk_Ya h0 s.heap.size) s.heap s.heap [] := va_S.rf
  have hl := lv_entry ([.ref h0]) (n := 1) (Nat.le_of_ble_eq_true rfl)
  rw [lg_entry_eq]
  generalize (lg_sl ([.ref h0]) ++ List.replicate (1 - (lg_sl ([.ref h0])).length) Slot.unset).toArray = ls at hl ⊢
  have hl : lv_has ls 1 [(0, .ref h0)] := hl
  obtain ⟨d0, d1, d4, d5, d7, d9, d12, d13, d15, d17, d20, d21, d23, d25, d28, d29, d31, d33, d36⟩ := d_mk_0
  refine lv_aload_n hx hb d0 rfl (lv_at hl 0 rfl) ?_
  refine W.objInit hx hb hown (hts _ (bk_wIn bk_mw_0_1 0 rfl)) (hts _ (bk_wIn bk_mW_1 0 rfl)) (hts _ (bk_wIn bk_mW_1 1 rfl)) rfl (by rw [hml]; exact hl.1) rfl d1 (Nat.le_of_ble_eq_true rfl) (Nat.le_of_ble_eq_true rfl) ?_
  refine W.eq (g2 := F0 m 4 ls []) rfl ?_
  refine bk_seg (k := 0) (f := 2) (n := 40) (t := 0) (n32 := 40) hx hb hts hown hK hin (by decide) hY hS hl rfl (by decide) (bk_wIn bk_mW_1 2 rfl) (by decide) (by decide) (by decide) d4 (fun st h => lv_bipush (v := 40) hx hb d5 (by decide) h) d7 d9 (by decide) (Nat.le_of_ble_eq_true rfl) (bk_wIn bk_mw_0_1 1 rfl) rfl rfl (by decide +kernel) (Nat.le_of_ble_eq_true rfl) (Nat.le_of_ble_eq_true rfl) (fun H locs hY hS => ?_)
  refine bk_seg (k := 0) (f := 3) (n := 40) (t := 0) (n32 := 40) hx hb hts hown hK hin (by decide) hY hS hl rfl (by decide) (bk_wIn bk_mW_1 2 rfl) (by decide) (by decide) (by decide) d12 (fun st h => lv_bipush (v := 40) hx hb d13 (by decide) h) d15 d17 (by decide) (Nat.le_of_ble_eq_true rfl) (bk_wIn bk_mw_0_1 2 rfl) rfl rfl (by decide +kernel) (Nat.le_of_ble_eq_true rfl) (Nat.le_of_ble_eq_true rfl) (fun H locs hY hS => ?_)
  refine bk_seg (k := 0) (f := 4) (n := 40) (t := 0) (n32 := 40) hx hb hts hown hK hin (by decide) hY hS hl rfl (by decide) (bk_wIn bk_mW_1 2 rfl) (by decide) (by decide) (by decide) d20 (fun st h => lv_bipush (v := 40) hx hb d21 (by decide) h) d23 d25 (by decide) (Nat.le_of_ble_eq_true rfl) (bk_wIn bk_mw_0_1 3 rfl) rfl rfl (by decide +kernel) (Nat.le_of_ble_eq_true rfl) (Nat.le_of_ble_eq_true rfl) (fun H locs hY hS => ?_)
  refine bk_seg (k := 0) (f := 5) (n := 40) (t := 0) (n32 := 40) hx hb hts hown hK hin (by decide) hY hS hl rfl (by decide) (bk_wIn bk_mW_1 2 rfl) (by decide) (by decide) (by decide) d28 (fun st h => lv_bipush (v := 40) hx hb d29 (by decide) h) d31 d33 (by decide) (Nat.le_of_ble_eq_true rfl) (bk_wIn bk_mw_0_1 4 rfl) rfl rfl (by decide +kernel) (Nat.le_of_ble_eq_true rfl) (Nat.le_of_ble_eq_true rfl) (fun H locs hY hS => ?_)
  exact W.vret hx hb hr (fun t ht hW => ⟨rfl, by rw [ht]; exact hY, hS.F ht⟩) hS.2.2 d36
theorem d_mk_1 : decode cX1_init 0 = .ok (.aload_n 0, 1) ∧ decode cX1_init 1 = .ok (.invokespecial 3, 3) ∧ decode cX1_init 4 = .ok (.aload_n 0, 1) ∧ decode cX1_init 5 = .ok (.bipush 6, 2) ∧ decode cX1_init 7 = .ok (.newarray .int, 2) ∧ decode cX1_init 9 = .ok (.putfield 9, 3) ∧ decode cX1_init 12 = .ok (.aload_n 0, 1) ∧ decode cX1_init 13 = .ok (.bipush 6, 2) ∧ decode cX1_init 15 = .ok (.newarray .int, 2) ∧ decode cX1_init 17 = .ok (.putfield 15, 3) ∧ decode cX1_init 20 = .ok (.aload_n 0, 1) ∧ decode cX1_init 21 = .ok (.bipush 6, 2) ∧ decode cX1_init 23 = .ok (.newarray .int, 2) ∧ decode cX1_init 25 = .ok (.putfield 18, 3) ∧ decode cX1_init 28 = .ok (.aload_n 0, 1) ∧ decode cX1_init 29 = .ok (.bipush 6, 2) ∧ decode cX1_init 31 = .ok (.newarray .int, 2) ∧ decode cX1_init 33 = .ok (.putfield 21, 3) ∧ decode cX1_init 36 = .ok (.aload_n 0, 1) ∧ decode cX1_init 37 = .ok (.bipush 36, 2) ∧ decode cX1_init 39 = .ok (.newarray .int, 2) ∧ decode cX1_init 41 = .ok (.putfield 24, 3) ∧ decode cX1_init 44 = .ok (.aload_n 0, 1) ∧ decode cX1_init 45 = .ok (.bipush 36, 2) ∧ decode cX1_init 47 = .ok (.newarray .boolean, 2) ∧ decode cX1_init 49 = .ok (.putfield 27, 3) ∧ decode cX1_init 52 = .ok (.return_, 1) := ⟨by decide +kernel, by decide +kernel, by decide +kernel, by decide +kernel, by decide +kernel, by decide +kernel, by decide +kernel, by decide +kernel, by decide +kernel, by decide +kernel, by decide +kernel, by decide +kernel, by decide +kernel, by decide +kernel, by decide +kernel, by decide +kernel, by decide +kernel, by decide +kernel, by decide +kernel, by decide +kernel, by decide +kernel, by decide +kernel, by decide +kernel, by decide +kernel, by decide +kernel, by decide +kernel, by decide +kernel⟩
def bk_mw_1 : List Cond := [.methodLink RX1 3 Lib.objectInit, .fieldLink RX1 9 RX1 (bk_F 1 0).2.1 (bk_F 1 0).2.2.1, .fieldLink RX1 15 RX1 (bk_F 1 1).2.1 (bk_F 1 1).2.2.1, .fieldLink RX1 18 RX1 (bk_F 1 3).2.1 (bk_F 1 3).2.2.1, .fieldLink RX1 21 RX1 (bk_F 1 4).2.1 (bk_F 1 4).2.2.1, .fieldLink RX1 24 RX1 (bk_F 1 5).2.1 (bk_F 1 5).2.2.1, .fieldLink RX1 27 RX1 (bk_F 1 6).2.1 (bk_F 1 6).2.2.1]
theorem bk_mw_1_1 : bk_mw_1.all (fun w => bk_sub [w] tables_1 && goodWord w) = true := by decide +kernel
theorem bk_mk_1 (l : Launch) (D : va_G) (cA : Nat → ClassId) (h0 sz : Nat) : Met l yX1_init (bk_wS yX1_init cX1_init 1 none) { frames := 1, cells := 6, slots := 96, locals := 12 } (va_Pc [.ref h0] (bk_Pn D cA h0 sz 1 [.null, .null, .int 0, .null, .null, .null, .null])) (bk_Qn D h0 sz (.inr (1, [.ref sz, .ref (sz + 1), .int 0, .ref (sz + 2), .ref (sz + 3), .ref (sz + 4), .ref (sz + 5)])) [bk_ze cA 0 6, bk_ze cA 0 6, bk_ze cA 0 6, bk_ze cA 0 6, bk_ze cA 0 36, bk_ze cA 2 36]) 6 96 (bk_Ya h0 sz) := by
  refine Met.ofW (cc := cX1_init) (maxL := 1) (ret := none) (by decide +kernel) rfl ?_
  intro p e s m args below meth c s₁ B hml hv
  obtain ⟨rfl, hsz, hP, hK, h0s⟩ := hv
  subst hsz
  have hx := B.exec
  have hb := B.bytes
  have hr := B.returns
  have hts : ∀ w ∈ bk_W, w.before #[Value.ref h0] s = true := fun w hw => atoms_spec (ws := bk_wS yX1_init cX1_init 1 none) B.pre w (List.mem_cons_of_mem _ hw)
  have hown : s.vm.findClass (bk_R 1) = some m.cls := findClass_of_methodNamed B.named
  have hlocks := B.notSynchronized
  have hin : meth.name = "<init>" := (name_of_methodNamed B.named B.method).1
  have hY : bk_Y D h0 s.heap.size (.inr (1, [.null, .null, .int 0, .null, .null, .null, .null])) [] s.heap := ⟨rfl, hP, h0s⟩
  have hS : va_S (bk_Ya h0 s.heap.size) s.heap s.heap [] := va_S.rf
  have hl := lv_entry ([.ref h0]) (n := 1) (Nat.le_of_ble_eq_true rfl)
  rw [lg_entry_eq]
  generalize (lg_sl ([.ref h0]) ++ List.replicate (1 - (lg_sl ([.ref h0])).length) Slot.unset).toArray = ls at hl ⊢
  have hl : lv_has ls 1 [(0, .ref h0)] := hl
  obtain ⟨d0, d1, d4, d5, d7, d9, d12, d13, d15, d17, d20, d21, d23, d25, d28, d29, d31, d33, d36, d37, d39, d41, d44, d45, d47, d49, d52⟩ := d_mk_1
  refine lv_aload_n hx hb d0 rfl (lv_at hl 0 rfl) ?_
  refine W.objInit hx hb hown (hts _ (bk_wIn bk_mw_1_1 0 rfl)) (hts _ (bk_wIn bk_mW_1 0 rfl)) (hts _ (bk_wIn bk_mW_1 1 rfl)) rfl (by rw [hml]; exact hl.1) rfl d1 (Nat.le_of_ble_eq_true rfl) (Nat.le_of_ble_eq_true rfl) ?_
  refine W.eq (g2 := F0 m 4 ls []) rfl ?_
  refine bk_seg (k := 1) (f := 0) (n := 6) (t := 0) (n32 := 6) hx hb hts hown hK hin (by decide) hY hS hl rfl (by decide) (bk_wIn bk_mW_1 2 rfl) (by decide) (by decide) (by decide) d4 (fun st h => lv_bipush (v := 6) hx hb d5 (by decide) h) d7 d9 (by decide) (Nat.le_of_ble_eq_true rfl) (bk_wIn bk_mw_1_1 1 rfl) rfl rfl (by decide +kernel) (Nat.le_of_ble_eq_true rfl) (Nat.le_of_ble_eq_true rfl) (fun H locs hY hS => ?_)
  refine bk_seg (k := 1) (f := 1) (n := 6) (t := 0) (n32 := 6) hx hb hts hown hK hin (by decide) hY hS hl rfl (by decide) (bk_wIn bk_mW_1 2 rfl) (by decide) (by decide) (by decide) d12 (fun st h => lv_bipush (v := 6) hx hb d13 (by decide) h) d15 d17 (by decide) (Nat.le_of_ble_eq_true rfl) (bk_wIn bk_mw_1_1 2 rfl) rfl rfl (by decide +kernel) (Nat.le_of_ble_eq_true rfl) (Nat.le_of_ble_eq_true rfl) (fun H locs hY hS => ?_)
  refine bk_seg (k := 1) (f := 3) (n := 6) (t := 0) (n32 := 6) hx hb hts hown hK hin (by decide) hY hS hl rfl (by decide) (bk_wIn bk_mW_1 2 rfl) (by decide) (by decide) (by decide) d20 (fun st h => lv_bipush (v := 6) hx hb d21 (by decide) h) d23 d25 (by decide) (Nat.le_of_ble_eq_true rfl) (bk_wIn bk_mw_1_1 3 rfl) rfl rfl (by decide +kernel) (Nat.le_of_ble_eq_true rfl) (Nat.le_of_ble_eq_true rfl) (fun H locs hY hS => ?_)
  refine bk_seg (k := 1) (f := 4) (n := 6) (t := 0) (n32 := 6) hx hb hts hown hK hin (by decide) hY hS hl rfl (by decide) (bk_wIn bk_mW_1 2 rfl) (by decide) (by decide) (by decide) d28 (fun st h => lv_bipush (v := 6) hx hb d29 (by decide) h) d31 d33 (by decide) (Nat.le_of_ble_eq_true rfl) (bk_wIn bk_mw_1_1 4 rfl) rfl rfl (by decide +kernel) (Nat.le_of_ble_eq_true rfl) (Nat.le_of_ble_eq_true rfl) (fun H locs hY hS => ?_)
  refine bk_seg (k := 1) (f := 5) (n := 36) (t := 0) (n32 := 36) hx hb hts hown hK hin (by decide) hY hS hl rfl (by decide) (bk_wIn bk_mW_1 2 rfl) (by decide) (by decide) (by decide) d36 (fun st h => lv_bipush (v := 36) hx hb d37 (by decide) h) d39 d41 (by decide) (Nat.le_of_ble_eq_true rfl) (bk_wIn bk_mw_1_1 5 rfl) rfl rfl (by decide +kernel) (Nat.le_of_ble_eq_true rfl) (Nat.le_of_ble_eq_true rfl) (fun H locs hY hS => ?_)
  refine bk_seg (k := 1) (f := 6) (n := 36) (t := 2) (n32 := 36) hx hb hts hown hK hin (by decide) hY hS hl rfl (by decide) (bk_wIn bk_mW_1 4 rfl) (by decide) (by decide) (by decide) d44 (fun st h => lv_bipush (v := 36) hx hb d45 (by decide) h) d47 d49 (by decide) (Nat.le_of_ble_eq_true rfl) (bk_wIn bk_mw_1_1 6 rfl) rfl rfl (by decide +kernel) (Nat.le_of_ble_eq_true rfl) (Nat.le_of_ble_eq_true rfl) (fun H locs hY hS => ?_)
  exact W.vret hx hb hr (fun t ht hW => ⟨rfl, by rw [ht]; exact hY, hS.F ht⟩) hS.2.2 d52
theorem d_mk_2 : decode cX2_init 0 = .ok (.aload_n 0, 1) ∧ decode cX2_init 1 = .ok (.invokespecial 3, 3) ∧ decode cX2_init 4 = .ok (.aload_n 0, 1) ∧ decode cX2_init 5 = .ok (.bipush 32, 2) ∧ decode cX2_init 7 = .ok (.newarray .int, 2) ∧ decode cX2_init 9 = .ok (.putfield 9, 3) ∧ decode cX2_init 12 = .ok (.return_, 1) := ⟨by decide +kernel, by decide +kernel, by decide +kernel, by decide +kernel, by decide +kernel, by decide +kernel, by decide +kernel⟩
def bk_mw_2 : List Cond := [.methodLink RX2 3 Lib.objectInit, .fieldLink RX2 9 RX2 (bk_F 2 0).2.1 (bk_F 2 0).2.2.1]
theorem bk_mw_2_1 : bk_mw_2.all (fun w => bk_sub [w] tables_1 && goodWord w) = true := by decide +kernel
theorem bk_mk_2 (l : Launch) (D : va_G) (cA : Nat → ClassId) (h0 sz : Nat) : Met l yX2_init (bk_wS yX2_init cX2_init 1 none) { frames := 1, cells := 1, slots := 32, locals := 12 } (va_Pc [.ref h0] (bk_Pn D cA h0 sz 2 [.null, .int 0])) (bk_Qn D h0 sz (.inr (2, [.ref sz, .int 0])) [bk_ze cA 0 32]) 1 32 (bk_Ya h0 sz) := by
  refine Met.ofW (cc := cX2_init) (maxL := 1) (ret := none) (by decide +kernel) rfl ?_
  intro p e s m args below meth c s₁ B hml hv
  obtain ⟨rfl, hsz, hP, hK, h0s⟩ := hv
  subst hsz
  have hx := B.exec
  have hb := B.bytes
  have hr := B.returns
  have hts : ∀ w ∈ bk_W, w.before #[Value.ref h0] s = true := fun w hw => atoms_spec (ws := bk_wS yX2_init cX2_init 1 none) B.pre w (List.mem_cons_of_mem _ hw)
  have hown : s.vm.findClass (bk_R 2) = some m.cls := findClass_of_methodNamed B.named
  have hlocks := B.notSynchronized
  have hin : meth.name = "<init>" := (name_of_methodNamed B.named B.method).1
  have hY : bk_Y D h0 s.heap.size (.inr (2, [.null, .int 0])) [] s.heap := ⟨rfl, hP, h0s⟩
  have hS : va_S (bk_Ya h0 s.heap.size) s.heap s.heap [] := va_S.rf
  have hl := lv_entry ([.ref h0]) (n := 1) (Nat.le_of_ble_eq_true rfl)
  rw [lg_entry_eq]
  generalize (lg_sl ([.ref h0]) ++ List.replicate (1 - (lg_sl ([.ref h0])).length) Slot.unset).toArray = ls at hl ⊢
  have hl : lv_has ls 1 [(0, .ref h0)] := hl
  obtain ⟨d0, d1, d4, d5, d7, d9, d12⟩ := d_mk_2
  refine lv_aload_n hx hb d0 rfl (lv_at hl 0 rfl) ?_
  refine W.objInit hx hb hown (hts _ (bk_wIn bk_mw_2_1 0 rfl)) (hts _ (bk_wIn bk_mW_1 0 rfl)) (hts _ (bk_wIn bk_mW_1 1 rfl)) rfl (by rw [hml]; exact hl.1) rfl d1 (Nat.le_of_ble_eq_true rfl) (Nat.le_of_ble_eq_true rfl) ?_
  refine W.eq (g2 := F0 m 4 ls []) rfl ?_
  refine bk_seg (k := 2) (f := 0) (n := 32) (t := 0) (n32 := 32) hx hb hts hown hK hin (by decide) hY hS hl rfl (by decide) (bk_wIn bk_mW_1 2 rfl) (by decide) (by decide) (by decide) d4 (fun st h => lv_bipush (v := 32) hx hb d5 (by decide) h) d7 d9 (by decide) (Nat.le_of_ble_eq_true rfl) (bk_wIn bk_mw_2_1 1 rfl) rfl rfl (by decide +kernel) (Nat.le_of_ble_eq_true rfl) (Nat.le_of_ble_eq_true rfl) (fun H locs hY hS => ?_)
  exact W.vret hx hb hr (fun t ht hW => ⟨rfl, by rw [ht]; exact hY, hS.F ht⟩) hS.2.2 d12
theorem d_mk_6 : decode cX6_init 0 = .ok (.aload_n 0, 1) ∧ decode cX6_init 1 = .ok (.invokespecial 3, 3) ∧ decode cX6_init 4 = .ok (.return_, 1) := ⟨by decide +kernel, by decide +kernel, by decide +kernel⟩
def bk_mw_6 : List Cond := [.methodLink RX6 3 Lib.objectInit]
theorem bk_mw_6_1 : bk_mw_6.all (fun w => bk_sub [w] tables_1 && goodWord w) = true := by decide +kernel
theorem bk_mk_6 (l : Launch) (D : va_G) (cA : Nat → ClassId) (h0 sz : Nat) : Met l yX6_init (bk_wS yX6_init cX6_init 1 none) { frames := 1, cells := 0, slots := 0, locals := 12 } (va_Pc [.ref h0] (bk_Pn D cA h0 sz 6 [.int 0, .int 0, .long 0, .int 0])) (bk_Qn D h0 sz (.inr (6, [.int 0, .int 0, .long 0, .int 0])) []) 0 0 (bk_Ya h0 sz) := by
  refine Met.ofW (cc := cX6_init) (maxL := 1) (ret := none) (by decide +kernel) rfl ?_
  intro p e s m args below meth c s₁ B hml hv
  obtain ⟨rfl, hsz, hP, hK, h0s⟩ := hv
  subst hsz
  have hx := B.exec
  have hb := B.bytes
  have hr := B.returns
  have hts : ∀ w ∈ bk_W, w.before #[Value.ref h0] s = true := fun w hw => atoms_spec (ws := bk_wS yX6_init cX6_init 1 none) B.pre w (List.mem_cons_of_mem _ hw)
  have hown : s.vm.findClass (bk_R 6) = some m.cls := findClass_of_methodNamed B.named
  have hlocks := B.notSynchronized
  have hin : meth.name = "<init>" := (name_of_methodNamed B.named B.method).1
  have hY : bk_Y D h0 s.heap.size (.inr (6, [.int 0, .int 0, .long 0, .int 0])) [] s.heap := ⟨rfl, hP, h0s⟩
  have hS : va_S (bk_Ya h0 s.heap.size) s.heap s.heap [] := va_S.rf
  have hl := lv_entry ([.ref h0]) (n := 1) (Nat.le_of_ble_eq_true rfl)
  rw [lg_entry_eq]
  generalize (lg_sl ([.ref h0]) ++ List.replicate (1 - (lg_sl ([.ref h0])).length) Slot.unset).toArray = ls at hl ⊢
  have hl : lv_has ls 1 [(0, .ref h0)] := hl
  obtain ⟨d0, d1, d4⟩ := d_mk_6
  refine lv_aload_n hx hb d0 rfl (lv_at hl 0 rfl) ?_
  refine W.objInit hx hb hown (hts _ (bk_wIn bk_mw_6_1 0 rfl)) (hts _ (bk_wIn bk_mW_1 0 rfl)) (hts _ (bk_wIn bk_mW_1 1 rfl)) rfl (by rw [hml]; exact hl.1) rfl d1 (Nat.le_of_ble_eq_true rfl) (Nat.le_of_ble_eq_true rfl) ?_
  refine W.eq (g2 := F0 m 4 ls []) rfl ?_
  exact W.vret hx hb hr (fun t ht hW => ⟨rfl, by rw [ht]; exact hY, hS.F ht⟩) hS.2.2 d4
theorem d_mk_8 : decode cX8_init 0 = .ok (.aload_n 0, 1) ∧ decode cX8_init 1 = .ok (.invokespecial 3, 3) ∧ decode cX8_init 4 = .ok (.aload_n 0, 1) ∧ decode cX8_init 5 = .ok (.bipush 36, 2) ∧ decode cX8_init 7 = .ok (.newarray .int, 2) ∧ decode cX8_init 9 = .ok (.putfield 9, 3) ∧ decode cX8_init 12 = .ok (.aload_n 0, 1) ∧ decode cX8_init 13 = .ok (.bipush 6, 2) ∧ decode cX8_init 15 = .ok (.newarray .int, 2) ∧ decode cX8_init 17 = .ok (.putfield 15, 3) ∧ decode cX8_init 20 = .ok (.aload_n 0, 1) ∧ decode cX8_init 21 = .ok (.bipush 36, 2) ∧ decode cX8_init 23 = .ok (.newarray .int, 2) ∧ decode cX8_init 25 = .ok (.putfield 18, 3) ∧ decode cX8_init 28 = .ok (.aload_n 0, 1) ∧ decode cX8_init 29 = .ok (.bipush 36, 2) ∧ decode cX8_init 31 = .ok (.newarray .int, 2) ∧ decode cX8_init 33 = .ok (.putfield 21, 3) ∧ decode cX8_init 36 = .ok (.return_, 1) := ⟨by decide +kernel, by decide +kernel, by decide +kernel, by decide +kernel, by decide +kernel, by decide +kernel, by decide +kernel, by decide +kernel, by decide +kernel, by decide +kernel, by decide +kernel, by decide +kernel, by decide +kernel, by decide +kernel, by decide +kernel, by decide +kernel, by decide +kernel, by decide +kernel, by decide +kernel⟩
def bk_mw_8 : List Cond := [.methodLink RX8 3 Lib.objectInit, .fieldLink RX8 9 RX8 (bk_F 8 0).2.1 (bk_F 8 0).2.2.1, .fieldLink RX8 15 RX8 (bk_F 8 1).2.1 (bk_F 8 1).2.2.1, .fieldLink RX8 18 RX8 (bk_F 8 4).2.1 (bk_F 8 4).2.2.1, .fieldLink RX8 21 RX8 (bk_F 8 5).2.1 (bk_F 8 5).2.2.1]
theorem bk_mw_8_1 : bk_mw_8.all (fun w => bk_sub [w] tables_1 && goodWord w) = true := by decide +kernel
theorem bk_mk_8 (l : Launch) (D : va_G) (cA : Nat → ClassId) (h0 sz : Nat) : Met l yX8_init (bk_wS yX8_init cX8_init 1 none) { frames := 1, cells := 4, slots := 114, locals := 12 } (va_Pc [.ref h0] (bk_Pn D cA h0 sz 8 [.null, .null, .int 0, .int 0, .null, .null])) (bk_Qn D h0 sz (.inr (8, [.ref sz, .ref (sz + 1), .int 0, .int 0, .ref (sz + 2), .ref (sz + 3)])) [bk_ze cA 0 36, bk_ze cA 0 6, bk_ze cA 0 36, bk_ze cA 0 36]) 4 114 (bk_Ya h0 sz) := by
  refine Met.ofW (cc := cX8_init) (maxL := 1) (ret := none) (by decide +kernel) rfl ?_
  intro p e s m args below meth c s₁ B hml hv
  obtain ⟨rfl, hsz, hP, hK, h0s⟩ := hv
  subst hsz
  have hx := B.exec
  have hb := B.bytes
  have hr := B.returns
  have hts : ∀ w ∈ bk_W, w.before #[Value.ref h0] s = true := fun w hw => atoms_spec (ws := bk_wS yX8_init cX8_init 1 none) B.pre w (List.mem_cons_of_mem _ hw)
  have hown : s.vm.findClass (bk_R 8) = some m.cls := findClass_of_methodNamed B.named
  have hlocks := B.notSynchronized
  have hin : meth.name = "<init>" := (name_of_methodNamed B.named B.method).1
  have hY : bk_Y D h0 s.heap.size (.inr (8, [.null, .null, .int 0, .int 0, .null, .null])) [] s.heap := ⟨rfl, hP, h0s⟩
  have hS : va_S (bk_Ya h0 s.heap.size) s.heap s.heap [] := va_S.rf
  have hl := lv_entry ([.ref h0]) (n := 1) (Nat.le_of_ble_eq_true rfl)
  rw [lg_entry_eq]
  generalize (lg_sl ([.ref h0]) ++ List.replicate (1 - (lg_sl ([.ref h0])).length) Slot.unset).toArray = ls at hl ⊢
  have hl : lv_has ls 1 [(0, .ref h0)] := hl
  obtain ⟨d0, d1, d4, d5, d7, d9, d12, d13, d15, d17, d20, d21, d23, d25, d28, d29, d31, d33, d36⟩ := d_mk_8
  refine lv_aload_n hx hb d0 rfl (lv_at hl 0 rfl) ?_
  refine W.objInit hx hb hown (hts _ (bk_wIn bk_mw_8_1 0 rfl)) (hts _ (bk_wIn bk_mW_1 0 rfl)) (hts _ (bk_wIn bk_mW_1 1 rfl)) rfl (by rw [hml]; exact hl.1) rfl d1 (Nat.le_of_ble_eq_true rfl) (Nat.le_of_ble_eq_true rfl) ?_
  refine W.eq (g2 := F0 m 4 ls []) rfl ?_
  refine bk_seg (k := 8) (f := 0) (n := 36) (t := 0) (n32 := 36) hx hb hts hown hK hin (by decide) hY hS hl rfl (by decide) (bk_wIn bk_mW_1 2 rfl) (by decide) (by decide) (by decide) d4 (fun st h => lv_bipush (v := 36) hx hb d5 (by decide) h) d7 d9 (by decide) (Nat.le_of_ble_eq_true rfl) (bk_wIn bk_mw_8_1 1 rfl) rfl rfl (by decide +kernel) (Nat.le_of_ble_eq_true rfl) (Nat.le_of_ble_eq_true rfl) (fun H locs hY hS => ?_)
  refine bk_seg (k := 8) (f := 1) (n := 6) (t := 0) (n32 := 6) hx hb hts hown hK hin (by decide) hY hS hl rfl (by decide) (bk_wIn bk_mW_1 2 rfl) (by decide) (by decide) (by decide) d12 (fun st h => lv_bipush (v := 6) hx hb d13 (by decide) h) d15 d17 (by decide) (Nat.le_of_ble_eq_true rfl) (bk_wIn bk_mw_8_1 2 rfl) rfl rfl (by decide +kernel) (Nat.le_of_ble_eq_true rfl) (Nat.le_of_ble_eq_true rfl) (fun H locs hY hS => ?_)
  refine bk_seg (k := 8) (f := 4) (n := 36) (t := 0) (n32 := 36) hx hb hts hown hK hin (by decide) hY hS hl rfl (by decide) (bk_wIn bk_mW_1 2 rfl) (by decide) (by decide) (by decide) d20 (fun st h => lv_bipush (v := 36) hx hb d21 (by decide) h) d23 d25 (by decide) (Nat.le_of_ble_eq_true rfl) (bk_wIn bk_mw_8_1 3 rfl) rfl rfl (by decide +kernel) (Nat.le_of_ble_eq_true rfl) (Nat.le_of_ble_eq_true rfl) (fun H locs hY hS => ?_)
  refine bk_seg (k := 8) (f := 5) (n := 36) (t := 0) (n32 := 36) hx hb hts hown hK hin (by decide) hY hS hl rfl (by decide) (bk_wIn bk_mW_1 2 rfl) (by decide) (by decide) (by decide) d28 (fun st h => lv_bipush (v := 36) hx hb d29 (by decide) h) d31 d33 (by decide) (Nat.le_of_ble_eq_true rfl) (bk_wIn bk_mw_8_1 4 rfl) rfl rfl (by decide +kernel) (Nat.le_of_ble_eq_true rfl) (Nat.le_of_ble_eq_true rfl) (fun H locs hY hS => ?_)
  exact W.vret hx hb hr (fun t ht hW => ⟨rfl, by rw [ht]; exact hY, hS.F ht⟩) hS.2.2 d36
theorem d_mk_9 : decode cX9_init 0 = .ok (.aload_n 0, 1) ∧ decode cX9_init 1 = .ok (.invokespecial 3, 3) ∧ decode cX9_init 4 = .ok (.aload_n 0, 1) ∧ decode cX9_init 5 = .ok (.bipush 40, 2) ∧ decode cX9_init 7 = .ok (.newarray .int, 2) ∧ decode cX9_init 9 = .ok (.putfield 9, 3) ∧ decode cX9_init 12 = .ok (.aload_n 0, 1) ∧ decode cX9_init 13 = .ok (.bipush 40, 2) ∧ decode cX9_init 15 = .ok (.newarray .int, 2) ∧ decode cX9_init 17 = .ok (.putfield 15, 3) ∧ decode cX9_init 20 = .ok (.aload_n 0, 1) ∧ decode cX9_init 21 = .ok (.bipush 40, 2) ∧ decode cX9_init 23 = .ok (.newarray .int, 2) ∧ decode cX9_init 25 = .ok (.putfield 18, 3) ∧ decode cX9_init 28 = .ok (.aload_n 0, 1) ∧ decode cX9_init 29 = .ok (.bipush 20, 2) ∧ decode cX9_init 31 = .ok (.newarray .int, 2) ∧ decode cX9_init 33 = .ok (.putfield 21, 3) ∧ decode cX9_init 36 = .ok (.return_, 1) := ⟨by decide +kernel, by decide +kernel, by decide +kernel, by decide +kernel, by decide +kernel, by decide +kernel, by decide +kernel, by decide +kernel, by decide +kernel, by decide +kernel, by decide +kernel, by decide +kernel, by decide +kernel, by decide +kernel, by decide +kernel, by decide +kernel, by decide +kernel, by decide +kernel, by decide +kernel⟩
def bk_mw_9 : List Cond := [.methodLink RX9 3 Lib.objectInit, .fieldLink RX9 9 RX9 (bk_F 9 2).2.1 (bk_F 9 2).2.2.1, .fieldLink RX9 15 RX9 (bk_F 9 3).2.1 (bk_F 9 3).2.2.1, .fieldLink RX9 18 RX9 (bk_F 9 4).2.1 (bk_F 9 4).2.2.1, .fieldLink RX9 21 RX9 (bk_F 9 5).2.1 (bk_F 9 5).2.2.1]
theorem bk_mw_9_1 : bk_mw_9.all (fun w => bk_sub [w] tables_1 && goodWord w) = true := by decide +kernel
theorem bk_mk_9 (l : Launch) (D : va_G) (cA : Nat → ClassId) (h0 sz : Nat) : Met l yX9_init (bk_wS yX9_init cX9_init 1 none) { frames := 1, cells := 4, slots := 140, locals := 12 } (va_Pc [.ref h0] (bk_Pn D cA h0 sz 9 [.int 0, .int 0, .null, .null, .null, .null])) (bk_Qn D h0 sz (.inr (9, [.int 0, .int 0, .ref sz, .ref (sz + 1), .ref (sz + 2), .ref (sz + 3)])) [bk_ze cA 0 40, bk_ze cA 0 40, bk_ze cA 0 40, bk_ze cA 0 20]) 4 140 (bk_Ya h0 sz) := by
  refine Met.ofW (cc := cX9_init) (maxL := 1) (ret := none) (by decide +kernel) rfl ?_
  intro p e s m args below meth c s₁ B hml hv
  obtain ⟨rfl, hsz, hP, hK, h0s⟩ := hv
  subst hsz
  have hx := B.exec
  have hb := B.bytes
  have hr := B.returns
  have hts : ∀ w ∈ bk_W, w.before #[Value.ref h0] s = true := fun w hw => atoms_spec (ws := bk_wS yX9_init cX9_init 1 none) B.pre w (List.mem_cons_of_mem _ hw)
  have hown : s.vm.findClass (bk_R 9) = some m.cls := findClass_of_methodNamed B.named
  have hlocks := B.notSynchronized
  have hin : meth.name = "<init>" := (name_of_methodNamed B.named B.method).1
  have hY : bk_Y D h0 s.heap.size (.inr (9, [.int 0, .int 0, .null, .null, .null, .null])) [] s.heap := ⟨rfl, hP, h0s⟩
  have hS : va_S (bk_Ya h0 s.heap.size) s.heap s.heap [] := va_S.rf
  have hl := lv_entry ([.ref h0]) (n := 1) (Nat.le_of_ble_eq_true rfl)
  rw [lg_entry_eq]
  generalize (lg_sl ([.ref h0]) ++ List.replicate (1 - (lg_sl ([.ref h0])).length) Slot.unset).toArray = ls at hl ⊢
  have hl : lv_has ls 1 [(0, .ref h0)] := hl
  obtain ⟨d0, d1, d4, d5, d7, d9, d12, d13, d15, d17, d20, d21, d23, d25, d28, d29, d31, d33, d36⟩ := d_mk_9
  refine lv_aload_n hx hb d0 rfl (lv_at hl 0 rfl) ?_
  refine W.objInit hx hb hown (hts _ (bk_wIn bk_mw_9_1 0 rfl)) (hts _ (bk_wIn bk_mW_1 0 rfl)) (hts _ (bk_wIn bk_mW_1 1 rfl)) rfl (by rw [hml]; exact hl.1) rfl d1 (Nat.le_of_ble_eq_true rfl) (Nat.le_of_ble_eq_true rfl) ?_
  refine W.eq (g2 := F0 m 4 ls []) rfl ?_
  refine bk_seg (k := 9) (f := 2) (n := 40) (t := 0) (n32 := 40) hx hb hts hown hK hin (by decide) hY hS hl rfl (by decide) (bk_wIn bk_mW_1 2 rfl) (by decide) (by decide) (by decide) d4 (fun st h => lv_bipush (v := 40) hx hb d5 (by decide) h) d7 d9 (by decide) (Nat.le_of_ble_eq_true rfl) (bk_wIn bk_mw_9_1 1 rfl) rfl rfl (by decide +kernel) (Nat.le_of_ble_eq_true rfl) (Nat.le_of_ble_eq_true rfl) (fun H locs hY hS => ?_)
  refine bk_seg (k := 9) (f := 3) (n := 40) (t := 0) (n32 := 40) hx hb hts hown hK hin (by decide) hY hS hl rfl (by decide) (bk_wIn bk_mW_1 2 rfl) (by decide) (by decide) (by decide) d12 (fun st h => lv_bipush (v := 40) hx hb d13 (by decide) h) d15 d17 (by decide) (Nat.le_of_ble_eq_true rfl) (bk_wIn bk_mw_9_1 2 rfl) rfl rfl (by decide +kernel) (Nat.le_of_ble_eq_true rfl) (Nat.le_of_ble_eq_true rfl) (fun H locs hY hS => ?_)
  refine bk_seg (k := 9) (f := 4) (n := 40) (t := 0) (n32 := 40) hx hb hts hown hK hin (by decide) hY hS hl rfl (by decide) (bk_wIn bk_mW_1 2 rfl) (by decide) (by decide) (by decide) d20 (fun st h => lv_bipush (v := 40) hx hb d21 (by decide) h) d23 d25 (by decide) (Nat.le_of_ble_eq_true rfl) (bk_wIn bk_mw_9_1 3 rfl) rfl rfl (by decide +kernel) (Nat.le_of_ble_eq_true rfl) (Nat.le_of_ble_eq_true rfl) (fun H locs hY hS => ?_)
  refine bk_seg (k := 9) (f := 5) (n := 20) (t := 0) (n32 := 20) hx hb hts hown hK hin (by decide) hY hS hl rfl (by decide) (bk_wIn bk_mW_1 2 rfl) (by decide) (by decide) (by decide) d28 (fun st h => lv_bipush (v := 20) hx hb d29 (by decide) h) d31 d33 (by decide) (Nat.le_of_ble_eq_true rfl) (bk_wIn bk_mw_9_1 4 rfl) rfl rfl (by decide +kernel) (Nat.le_of_ble_eq_true rfl) (Nat.le_of_ble_eq_true rfl) (fun H locs hY hS => ?_)
  exact W.vret hx hb hr (fun t ht hW => ⟨rfl, by rw [ht]; exact hY, hS.F ht⟩) hS.2.2 d36
