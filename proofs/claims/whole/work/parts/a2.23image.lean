/-! Image: a Plain, a Sentence. -/
theorem d_mk_4 : decode cX4_init 0 = .ok (.aload_n 0, 1) ∧ decode cX4_init 1 = .ok (.invokespecial 1, 3) ∧ decode cX4_init 4 = .ok (.aload_n 0, 1) ∧ decode cX4_init 5 = .ok (.new 7, 3) ∧ decode cX4_init 8 = .ok (.dup, 1) ∧ decode cX4_init 9 = .ok (.invokespecial 9, 3) ∧ decode cX4_init 12 = .ok (.putfield 10, 3) ∧ decode cX4_init 15 = .ok (.aload_n 0, 1) ∧ decode cX4_init 16 = .ok (.new 16, 3) ∧ decode cX4_init 19 = .ok (.dup, 1) ∧ decode cX4_init 20 = .ok (.invokespecial 18, 3) ∧ decode cX4_init 23 = .ok (.putfield 19, 3) ∧ decode cX4_init 26 = .ok (.return_, 1) := ⟨by decide +kernel, by decide +kernel, by decide +kernel, by decide +kernel, by decide +kernel, by decide +kernel, by decide +kernel, by decide +kernel, by decide +kernel, by decide +kernel, by decide +kernel, by decide +kernel, by decide +kernel⟩
def bk_mw_4 : List Cond := [.methodLink RX4 1 Lib.objectInit, .classLink RX4 7 RX5, .instantiable RX5 19, .initialized RX5, .methodLink RX4 9 yX5_init, .instanceMethod yX5_init, .code yX5_init cX5_init 1 none, .fieldLink RX4 10 RX4 (bk_F 4 0).2.1 (bk_F 4 0).2.2.1, .classLink RX4 16 RX9, .instantiable RX9 6, .initialized RX9, .initialized RX9, .instanceMethod yX9_init, .code yX9_init cX9_init 1 none, .fieldLink RX4 19 RX4 (bk_F 4 1).2.1 (bk_F 4 1).2.2.1]
theorem bk_mw_4_1 : bk_mw_4.all (fun w => bk_sub [w] tables_1 && goodWord w) = true := by decide +kernel
def bk_l9 : List (Nat × Nat) := [(9, 0), (49, 0), (50, 0), (51, 0), (52, 0)]
def bk_l4 : List (Nat × Nat) := (4, 0) :: (bk_shl 11 bk_l5 ++ bk_shl 2 bk_l9)
def bk_f1_5 (h1 : Nat) (u : bk_M) : List Value := (List.range (bk_n 5)).map (bk_fv (h1, bk_l5) u 5 0)
def bk_e1_5 (cA : Nat → ClassId) (h1 : Nat) (u : bk_M) : List va_E := (bk_l5.drop 1).map (bk_en (h1, bk_l5) cA u)
theorem bk_sl_5 (h1 : Nat) (cA : Nat → ClassId) (u : bk_M) : .inr (5, bk_f1_5 h1 u) :: bk_e1_5 cA h1 u = bk_l5.map (bk_en (h1, bk_l5) cA u) := rfl
def bk_f1_9 (h1 : Nat) : List Value := [.int 0, .int 0, .ref (h1 + 1), .ref (h1 + 1 + 1), .ref (h1 + 1 + 2), .ref (h1 + 1 + 3)]
def bk_e1_9 (cA : Nat → ClassId) (h1 : Nat) : List va_E := [bk_ze cA 0 40, bk_ze cA 0 40, bk_ze cA 0 40, bk_ze cA 0 20]
theorem bk_sl_9 (h1 : Nat) (cA : Nat → ClassId) : .inr (9, bk_f1_9 h1) :: bk_e1_9 cA h1 = bk_l9.map (bk_en (h1, bk_l9) cA bk_Mz) := rfl
theorem bk_df_5 : ∀ j, j < bk_n 5 → defaultValue (bk_ty 5 j) = vp_V [.int 0, .int 0, .int 0, .int 0, .null, .null, .int 0, .null, .null, .null, .null, .int 0, .null, .null, .null, .null, .null, .int 0, .null] j := fun j hj => by
  have hj : j < 19 := hj
  obtain rfl | rfl | rfl | rfl | rfl | rfl | rfl | rfl | rfl | rfl | rfl | rfl | rfl | rfl | rfl | rfl | rfl | rfl | rfl : j = 0 ∨ j = 1 ∨ j = 2 ∨ j = 3 ∨ j = 4 ∨ j = 5 ∨ j = 6 ∨ j = 7 ∨ j = 8 ∨ j = 9 ∨ j = 10 ∨ j = 11 ∨ j = 12 ∨ j = 13 ∨ j = 14 ∨ j = 15 ∨ j = 16 ∨ j = 17 ∨ j = 18 := by omega
  all_goals rfl
theorem bk_df_9 : ∀ j, j < bk_n 9 → defaultValue (bk_ty 9 j) = vp_V [.int 0, .int 0, .null, .null, .null, .null] j := fun j hj => by
  have hj : j < 6 := hj
  obtain rfl | rfl | rfl | rfl | rfl | rfl : j = 0 ∨ j = 1 ∨ j = 2 ∨ j = 3 ∨ j = 4 ∨ j = 5 := by omega
  all_goals rfl
theorem bk_mk_4 (l : Launch) (ba : bk_B) (b0 : Nat) (aK : Nat → Nat) (sc : Nat → Int → Int) (hsc : bk_scO sc) (q5 : Nat) (D : va_G) (cA : Nat → ClassId) (h0 : Nat) : Met l yX4_init (bk_wS yX4_init cX4_init 1 none) { frames := 22, cells := 18, slots := 308, locals := 2100 } (va_Pc [.ref h0] (bk_Pe ba b0 aK sc q5 D cA h0 4 19 [.null, .null, .int 0]))
    (bk_Qx D h0 (h0 + 1) (bk_gd sc bk_tpw bk_l4) (fun u => bk_en (h0, bk_l4) cA u (4, 0)) (fun u => (bk_l4.drop 1).map (bk_en (h0, bk_l4) cA u))) 18 308 (bk_Ya h0 (h0 + 1)) := by
  refine Met.ofW (cc := cX4_init) (maxL := 1) (ret := none) (by decide +kernel) rfl ?_
  intro p e s m args below meth c s₁ B hml hv
  obtain ⟨rfl, ⟨hsz, hP, hK, h0s⟩, hE, hbA⟩ := hv
  have hx := B.exec
  have hb := B.bytes
  have hr := B.returns
  have hts : ∀ w ∈ bk_W, w.before #[Value.ref h0] s = true := fun w hw => atoms_spec (ws := bk_wS yX4_init cX4_init 1 none) B.pre w (List.mem_cons_of_mem _ hw)
  have hown : s.vm.findClass (bk_R 4) = some m.cls := findClass_of_methodNamed B.named
  have hlocks := B.notSynchronized
  have hin : meth.name = "<init>" := (name_of_methodNamed B.named B.method).1
  have hEw : ∀ U : State, s.WarmedH U.vm → s.heap.size ≤ U.heap.size → (∀ a : Nat, a < s.heap.size → ¬ bk_Ya h0 (h0 + 1) a → U.heap[a]? = s.heap[a]?) → bk_Ew ba b0 aK sc q5 U U.heap := fun U hW hz hk => (hE.kept2 hz (by omega) (by omega) hk).warm hW
  have hg : bk_gd sc bk_tpw [] bk_Mz := bk_gd_z rfl
  have hY : bk_Y D h0 (h0 + 1) (.inr (4, [.null, .null, .int 0])) (([] : List (Nat × Nat)).map (bk_en (h0, bk_l4) cA bk_Mz)) s.heap := ⟨hsz, hP, h0s⟩
  have hS : va_S (bk_Ya h0 (h0 + 1)) s.heap s.heap [] := va_S.rf
  have hl := lv_entry ([.ref h0]) (n := 1) (Nat.le_of_ble_eq_true rfl)
  rw [lg_entry_eq]
  generalize (lg_sl ([.ref h0]) ++ List.replicate (1 - (lg_sl ([.ref h0])).length) Slot.unset).toArray = ls at hl ⊢
  have hl : lv_has ls 1 [(0, .ref h0)] := hl
  obtain ⟨d0, d1, d4, d5, d8, d9, d12, d15, d16, d19, d20, d23, d26⟩ := d_mk_4
  refine lv_aload_n hx hb d0 rfl (lv_at hl 0 rfl) ?_
  refine W.objInit hx hb hown (hts _ (bk_wIn bk_mw_4_1 0 rfl)) (hts _ (bk_wIn bk_mW_1 0 rfl)) (hts _ (bk_wIn bk_mW_1 1 rfl)) rfl (by rw [hml]; exact hl.1) rfl d1 (Nat.le_of_ble_eq_true rfl) (Nat.le_of_ble_eq_true rfl) ?_
  refine W.eq (g2 := F0 m 4 ls []) rfl ?_
  refine lv_aload_n hx hb d4 rfl (lv_at hl 0 rfl) ?_
  refine bk_newA (k := 4) (k1 := 5) (nL := 1) (a := 1) (sft := 11) (L := bk_l4) (L' := bk_l5) (F1 := bk_f1_5) (E1 := bk_e1_5 cA) (G := fun u => u) (P9 := bk_P5 sc) hx hb hts hown hml hl.1 hK (by decide) (fun h1 => bk_mk_5 l ba b0 aK sc hsc D cA h1) (fun _ => bk_Pp_blind) (fun U h hW hz hk => ⟨h, (hEw U hW hz hk).2.1, by omega⟩) bk_df_5 (bk_wIn bk_mw_4_1 1 rfl) (bk_wIn bk_mw_4_1 2 rfl) (bk_wIn bk_mw_4_1 3 rfl) (Or.inl (bk_wIn bk_mw_4_1 4 rfl)) (bk_wIn bk_mw_4_1 5 rfl) (bk_wIn bk_mw_4_1 6 rfl) rfl rfl ⟨by decide +kernel, by decide +kernel, by decide +kernel⟩ ⟨rfl, rfl⟩ ⟨Nat.le_of_ble_eq_true rfl, Nat.le_of_ble_eq_true rfl⟩ (Nat.le_of_ble_eq_true rfl) rfl (fun h1 u _ => bk_sl_5 h1 cA u) (fun u hu => bk_gd_5 hu) (by decide +kernel) (by decide +kernel) hg hY hS d5 d8 d9 (Nat.le_of_ble_eq_true rfl) (Nat.le_of_ble_eq_true rfl) (fun M H locs hg hY hS => ?_)
  obtain ⟨y1, y2, y3⟩ := hY
  refine bk_putF (k := 4) (f := 0) (ty := .object RX5) hx hb hts hown hK hin (by decide) y2 (bk_Y_D y3) hS 0 rfl (by decide) (Nat.le_of_ble_eq_true rfl) (bk_wIn bk_mw_4_1 7 rfl) rfl rfl (by decide +kernel) rfl rfl d12 (fun H1 locs1 z1 hP1 hS1 => ?_)
  have hY := (show bk_Y D h0 (h0 + 1) _ _ H1 from ⟨z1.trans y1, hP1, y3⟩)
  clear y1 y2 hS
  have hS := hS1
  refine lv_aload_n hx hb d15 rfl (lv_at hl 0 rfl) ?_
  refine bk_newB (k := 4) (k1 := 9) (nL := 1) (a := 14) (sft := 2) (L := bk_l4) (L' := bk_l9) (F1 := bk_f1_9) (E1 := bk_e1_9 cA) hx hb hts hown hml hl.1 hK (by decide) (fun h1 => bk_mk_9 l D cA h1 (h1 + 1)) (fun _ => bk_Pn_blind) (fun U h hW _ _ => h) bk_df_9 (bk_wIn bk_mw_4_1 8 rfl) (bk_wIn bk_mw_4_1 9 rfl) (bk_wIn bk_mw_4_1 10 rfl) (Or.inr ⟨_, hE.1 _ (List.mem_of_getElem? (i := 9) rfl)⟩) (bk_wIn bk_mw_4_1 12 rfl) (bk_wIn bk_mw_4_1 13 rfl) rfl rfl ⟨by decide +kernel, by decide +kernel, by decide +kernel⟩ ⟨rfl, rfl⟩ ⟨Nat.le_of_ble_eq_true rfl, Nat.le_of_ble_eq_true rfl⟩ (Nat.le_of_ble_eq_true rfl) rfl (fun h1 => bk_sl_9 h1 cA) (bk_gd_z rfl) (by decide +kernel) (by decide +kernel) hg hY hS d16 d19 d20 (Nat.le_of_ble_eq_true rfl) (Nat.le_of_ble_eq_true rfl) (fun M H locs hg hY hS => ?_)
  obtain ⟨y1, y2, y3⟩ := hY
  refine bk_putF (k := 4) (f := 1) (ty := .object RX9) hx hb hts hown hK hin (by decide) y2 (bk_Y_D y3) hS 0 rfl (by decide) (Nat.le_of_ble_eq_true rfl) (bk_wIn bk_mw_4_1 14 rfl) rfl rfl (by decide +kernel) rfl rfl d23 (fun H1 locs1 z1 hP1 hS1 => ?_)
  have hY := (show bk_Y D h0 (h0 + 1) _ _ H1 from ⟨z1.trans y1, hP1, y3⟩)
  clear y1 y2 hS
  have hS := hS1
  obtain ⟨u, g1, g2, hY⟩ := bk_close (k := 4) (L := bk_l4) (Mo := bk_Mz) rfl (by decide +kernel) (by decide +kernel) hg hY rfl
  exact W.vret hx hb hr (fun t ht hW => ⟨rfl, ⟨u, bk_gd_own g1 ⟨rfl, by decide⟩ g2, by rw [ht]; exact hY⟩, hS.F ht⟩) hS.2.2 d26
