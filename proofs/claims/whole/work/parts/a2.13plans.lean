/-! Plans: arrays, and a River. -/
theorem d_mk_7 : decode cX7_init 0 = .ok (.aload_n 0, 1) ∧ decode cX7_init 1 = .ok (.invokespecial 3, 3) ∧ decode cX7_init 4 = .ok (.aload_n 0, 1) ∧ decode cX7_init 5 = .ok (.iconst 3, 1) ∧ decode cX7_init 6 = .ok (.newarray .int, 2) ∧ decode cX7_init 8 = .ok (.putfield 9, 3) ∧ decode cX7_init 11 = .ok (.aload_n 0, 1) ∧ decode cX7_init 12 = .ok (.iconst 2, 1) ∧ decode cX7_init 13 = .ok (.newarray .int, 2) ∧ decode cX7_init 15 = .ok (.putfield 15, 3) ∧ decode cX7_init 18 = .ok (.aload_n 0, 1) ∧ decode cX7_init 19 = .ok (.iconst 2, 1) ∧ decode cX7_init 20 = .ok (.newarray .int, 2) ∧ decode cX7_init 22 = .ok (.putfield 18, 3) ∧ decode cX7_init 25 = .ok (.aload_n 0, 1) ∧ decode cX7_init 26 = .ok (.new 21, 3) ∧ decode cX7_init 29 = .ok (.dup, 1) ∧ decode cX7_init 30 = .ok (.invokespecial 23, 3) ∧ decode cX7_init 33 = .ok (.putfield 24, 3) ∧ decode cX7_init 36 = .ok (.aload_n 0, 1) ∧ decode cX7_init 37 = .ok (.bipush 72, 2) ∧ decode cX7_init 39 = .ok (.newarray .int, 2) ∧ decode cX7_init 41 = .ok (.putfield 28, 3) ∧ decode cX7_init 44 = .ok (.aload_n 0, 1) ∧ decode cX7_init 45 = .ok (.iconst 3, 1) ∧ decode cX7_init 46 = .ok (.newarray .int, 2) ∧ decode cX7_init 48 = .ok (.putfield 31, 3) ∧ decode cX7_init 51 = .ok (.return_, 1) := ⟨by decide +kernel, by decide +kernel, by decide +kernel, by decide +kernel, by decide +kernel, by decide +kernel, by decide +kernel, by decide +kernel, by decide +kernel, by decide +kernel, by decide +kernel, by decide +kernel, by decide +kernel, by decide +kernel, by decide +kernel, by decide +kernel, by decide +kernel, by decide +kernel, by decide +kernel, by decide +kernel, by decide +kernel, by decide +kernel, by decide +kernel, by decide +kernel, by decide +kernel, by decide +kernel, by decide +kernel, by decide +kernel⟩
def bk_mw_7 : List Cond := [.methodLink RX7 3 Lib.objectInit, .fieldLink RX7 9 RX7 (bk_F 7 0).2.1 (bk_F 7 0).2.2.1, .fieldLink RX7 15 RX7 (bk_F 7 2).2.1 (bk_F 7 2).2.2.1, .fieldLink RX7 18 RX7 (bk_F 7 4).2.1 (bk_F 7 4).2.2.1, .classLink RX7 21 RX8, .instantiable RX8 6, .initialized RX8, .initialized RX8, .instanceMethod yX8_init, .code yX8_init cX8_init 1 none, .fieldLink RX7 24 RX7 (bk_F 7 6).2.1 (bk_F 7 6).2.2.1, .fieldLink RX7 28 RX7 (bk_F 7 7).2.1 (bk_F 7 7).2.2.1, .fieldLink RX7 31 RX7 (bk_F 7 9).2.1 (bk_F 7 9).2.2.1]
theorem bk_mw_7_1 : bk_mw_7.all (fun w => bk_sub [w] tables_1 && goodWord w) = true := by decide +kernel
theorem bk_df_8 : ∀ j, j < bk_n 8 → defaultValue (bk_ty 8 j) = vp_V [.null, .null, .int 0, .int 0, .null, .null] j := fun j hj => by
  have hj : j < 6 := hj
  obtain rfl | rfl | rfl | rfl | rfl | rfl : j = 0 ∨ j = 1 ∨ j = 2 ∨ j = 3 ∨ j = 4 ∨ j = 5 := by omega
  all_goals rfl
theorem bk_mk_7 (l : Launch) (D : va_G) (cA : Nat → ClassId) (h0 sz : Nat) : Met l yX7_init (bk_wS yX7_init cX7_init 1 none) { frames := 2, cells := 10, slots := 202, locals := 40 } (va_Pc [.ref h0] (bk_Pm D cA h0 sz 7 [.null, .int 0, .null, .int 0, .null, .int 0, .null, .null, .int 0, .null, .int 0, .int 0, .int 0, .int 0])) (bk_Qn D h0 sz (.inr (7, [.ref sz, .int 0, .ref (sz + 1), .int 0, .ref (sz + 2), .int 0, .ref (sz + 3), .ref (sz + 8), .int 0, .ref (sz + 9), .int 0, .int 0, .int 0, .int 0])) [bk_ze cA 0 3, bk_ze cA 0 2, bk_ze cA 0 2, .inr (8, [.ref (sz + 4), .ref (sz + 5), .int 0, .int 0, .ref (sz + 6), .ref (sz + 7)]), bk_ze cA 0 36, bk_ze cA 0 6, bk_ze cA 0 36, bk_ze cA 0 36, bk_ze cA 0 72, bk_ze cA 0 3]) 10 202 (bk_Ya h0 sz) := by
  refine Met.ofW (cc := cX7_init) (maxL := 1) (ret := none) (by decide +kernel) rfl ?_
  intro p e s m args below meth c s₁ B hml hv
  obtain ⟨rfl, ⟨hsz, hP, hK, h0s⟩, hN⟩ := hv
  subst hsz
  have hx := B.exec
  have hb := B.bytes
  have hr := B.returns
  have hts : ∀ w ∈ bk_W, w.before #[Value.ref h0] s = true := fun w hw => atoms_spec (ws := bk_wS yX7_init cX7_init 1 none) B.pre w (List.mem_cons_of_mem _ hw)
  have hown : s.vm.findClass (bk_R 7) = some m.cls := findClass_of_methodNamed B.named
  have hlocks := B.notSynchronized
  have hin : meth.name = "<init>" := (name_of_methodNamed B.named B.method).1
  have hY : bk_Y D h0 s.heap.size (.inr (7, [.null, .int 0, .null, .int 0, .null, .int 0, .null, .null, .int 0, .null, .int 0, .int 0, .int 0, .int 0])) [] s.heap := ⟨rfl, hP, h0s⟩
  have hS : va_S (bk_Ya h0 s.heap.size) s.heap s.heap [] := va_S.rf
  have hl := lv_entry ([.ref h0]) (n := 1) (Nat.le_of_ble_eq_true rfl)
  rw [lg_entry_eq]
  generalize (lg_sl ([.ref h0]) ++ List.replicate (1 - (lg_sl ([.ref h0])).length) Slot.unset).toArray = ls at hl ⊢
  have hl : lv_has ls 1 [(0, .ref h0)] := hl
  obtain ⟨d0, d1, d4, d5, d6, d8, d11, d12, d13, d15, d18, d19, d20, d22, d25, d26, d29, d30, d33, d36, d37, d39, d41, d44, d45, d46, d48, d51⟩ := d_mk_7
  refine lv_aload_n hx hb d0 rfl (lv_at hl 0 rfl) ?_
  refine W.objInit hx hb hown (hts _ (bk_wIn bk_mw_7_1 0 rfl)) (hts _ (bk_wIn bk_mW_1 0 rfl)) (hts _ (bk_wIn bk_mW_1 1 rfl)) rfl (by rw [hml]; exact hl.1) rfl d1 (Nat.le_of_ble_eq_true rfl) (Nat.le_of_ble_eq_true rfl) ?_
  refine W.eq (g2 := F0 m 4 ls []) rfl ?_
  refine bk_seg (k := 7) (f := 0) (n := 3) (t := 0) (n32 := 3) hx hb hts hown hK hin (by decide) hY hS hl rfl (by decide) (bk_wIn bk_mW_1 2 rfl) (by decide) (by decide) (by decide) d4 (fun st h => lv_iconst (v := 3) hx hb d5 (by decide) h) d6 d8 (by decide) (Nat.le_of_ble_eq_true rfl) (bk_wIn bk_mw_7_1 1 rfl) rfl rfl (by decide +kernel) (Nat.le_of_ble_eq_true rfl) (Nat.le_of_ble_eq_true rfl) (fun H locs hY hS => ?_)
  refine bk_seg (k := 7) (f := 2) (n := 2) (t := 0) (n32 := 2) hx hb hts hown hK hin (by decide) hY hS hl rfl (by decide) (bk_wIn bk_mW_1 2 rfl) (by decide) (by decide) (by decide) d11 (fun st h => lv_iconst (v := 2) hx hb d12 (by decide) h) d13 d15 (by decide) (Nat.le_of_ble_eq_true rfl) (bk_wIn bk_mw_7_1 2 rfl) rfl rfl (by decide +kernel) (Nat.le_of_ble_eq_true rfl) (Nat.le_of_ble_eq_true rfl) (fun H locs hY hS => ?_)
  refine bk_seg (k := 7) (f := 4) (n := 2) (t := 0) (n32 := 2) hx hb hts hown hK hin (by decide) hY hS hl rfl (by decide) (bk_wIn bk_mW_1 2 rfl) (by decide) (by decide) (by decide) d18 (fun st h => lv_iconst (v := 2) hx hb d19 (by decide) h) d20 d22 (by decide) (Nat.le_of_ble_eq_true rfl) (bk_wIn bk_mw_7_1 3 rfl) rfl rfl (by decide +kernel) (Nat.le_of_ble_eq_true rfl) (Nat.le_of_ble_eq_true rfl) (fun H locs hY hS => ?_)
  refine lv_aload_n hx hb d25 rfl (lv_at hl 0 rfl) ?_
  refine bk_new (k := 7) (k1 := 8) (nL := 1) hx hb hts hown hml hl.1 hK (by decide) (fun h1 => bk_mk_8 l D cA h1 (h1 + 1)) (fun _ => bk_Pn_blind) (fun U h hW _ _ => h) bk_df_8 (bk_wIn bk_mw_7_1 4 rfl) (bk_wIn bk_mw_7_1 5 rfl) (bk_wIn bk_mw_7_1 6 rfl) (Or.inr ⟨_, hN _ (List.mem_of_getElem? (i := 5) rfl)⟩) (bk_wIn bk_mw_7_1 8 rfl) (bk_wIn bk_mw_7_1 9 rfl) rfl rfl ⟨by decide +kernel, by decide +kernel, by decide +kernel⟩ ⟨rfl, rfl⟩ ⟨Nat.le_of_ble_eq_true rfl, Nat.le_of_ble_eq_true rfl⟩ (Nat.le_of_ble_eq_true rfl) hY hS d26 d29 d30 (Nat.le_of_ble_eq_true rfl) (Nat.le_of_ble_eq_true rfl) (fun H locs hY hS => ?_)
  obtain ⟨y1, y2, y3⟩ := hY
  refine bk_putF (k := 7) (f := 6) (ty := .object RX8) hx hb hts hown hK hin (by decide) y2 (bk_Y_D y3) hS 0 rfl (by decide) (Nat.le_of_ble_eq_true rfl) (bk_wIn bk_mw_7_1 10 rfl) rfl rfl (by decide +kernel) rfl rfl d33 (fun H1 locs1 z1 hP1 hS1 => ?_)
  have hY := (show bk_Y D h0 s.heap.size _ _ H1 from ⟨z1.trans y1, hP1, y3⟩)
  clear y1 y2 hS
  have hS := hS1
  refine bk_seg (k := 7) (f := 7) (n := 72) (t := 0) (n32 := 72) hx hb hts hown hK hin (by decide) hY hS hl rfl (by decide) (bk_wIn bk_mW_1 2 rfl) (by decide) (by decide) (by decide) d36 (fun st h => lv_bipush (v := 72) hx hb d37 (by decide) h) d39 d41 (by decide) (Nat.le_of_ble_eq_true rfl) (bk_wIn bk_mw_7_1 11 rfl) rfl rfl (by decide +kernel) (Nat.le_of_ble_eq_true rfl) (Nat.le_of_ble_eq_true rfl) (fun H locs hY hS => ?_)
  refine bk_seg (k := 7) (f := 9) (n := 3) (t := 0) (n32 := 3) hx hb hts hown hK hin (by decide) hY hS hl rfl (by decide) (bk_wIn bk_mW_1 2 rfl) (by decide) (by decide) (by decide) d44 (fun st h => lv_iconst (v := 3) hx hb d45 (by decide) h) d46 d48 (by decide) (Nat.le_of_ble_eq_true rfl) (bk_wIn bk_mw_7_1 12 rfl) rfl rfl (by decide +kernel) (Nat.le_of_ble_eq_true rfl) (Nat.le_of_ble_eq_true rfl) (fun H locs hY hS => ?_)
  exact W.vret hx hb hr (fun t ht hW => ⟨rfl, by rw [ht]; exact hY, hS.F ht⟩) hS.2.2 d51
