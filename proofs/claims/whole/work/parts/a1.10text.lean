/-! The texts' own methods length and charAt, as putText calls them: contracts of the JDK's methods over one text that nobody writes. -/
def bk_Nn : Nat → Prop := fun _ => False
/-- the words that they ask for -/
def bk_tW : List Cond := [.methodLink "BanksDealt$Deed" 55 yJ0_length_8abf5, .instanceMethod yJ0_length_8abf5, .selects RJ0 yJ0_length_8abf5 yJ0_length_8abf5, .initialized RJ0, .initialized RJ1, .initialized RJ3,
  .code yJ0_length_8abf5 cJ0_length_8abf5 1 (some .int), .methodLink RJ0 335 yJ0_coder_7d493, .instanceMethod yJ0_coder_7d493, .selects RJ0 yJ0_coder_7d493 yJ0_coder_7d493, .code yJ0_coder_7d493 cJ0_coder_7d493 1 (some .byte), .fieldLink RJ0 38 RJ0 "COMPACT_STRINGS" "Z",
  .methodLink "BanksDealt$Deed" 61 yJ0_charAt_5068e, .instanceMethod yJ0_charAt_5068e, .selects RJ0 yJ0_charAt_5068e yJ0_charAt_5068e, .code yJ0_charAt_5068e cJ0_charAt_5068e 2 (some .char), .methodLink RJ0 492 yJ0_isLatin1_aae02, .instanceMethod yJ0_isLatin1_aae02, .selects RJ0 yJ0_isLatin1_aae02 yJ0_isLatin1_aae02, .code yJ0_isLatin1_aae02 cJ0_isLatin1_aae02 1 (some .boolean),
  .methodLink RJ0 495 yJ1_charAt_3b067, .static yJ1_charAt_3b067, .code yJ1_charAt_3b067 cJ1_charAt_3b067 2 (some .char), .methodLink RJ1 9 yJ0_checkIndex_df160, .static yJ0_checkIndex_df160, .code yJ0_checkIndex_df160 cJ0_checkIndex_df160 2 none,
  .fieldLink RJ0 1053 RJ3 "SIOOBE_FORMATTER" "Ljava/util/function/BiFunction;", .methodLink RJ0 1059 yJ3_checkIndex_8e157, .static yJ3_checkIndex_8e157, .code yJ3_checkIndex_8e157 cJ3_checkIndex_8e157 3 (some .int), .fieldLink RJ0 9 RJ0 "value" "[B", .fieldLink RJ0 15 RJ0 "coder" "B"]
theorem bk_tW_1 : bk_tW.all (fun w => bk_sub [w] tables_1 && goodWord w) = true := by decide +kernel
theorem bk_tW_in : ∀ w ∈ bk_tW, w ∈ bk_W := fun w hw => by
  have h := List.all_eq_true.mp bk_tW_1 w hw
  rw [Bool.and_eq_true] at h
  exact bk_W_of (bk_sub_mem h.1 w List.mem_cons_self) h.2
theorem bk_tw (n : Nat) {w : Cond} (h : bk_tW[n]? = some w) : w ∈ bk_W := bk_tW_in w (List.mem_of_getElem? h)
theorem bk_shr0 (x : Int32) : x >>> ((0 : Int32) &&& 31) = x := by
  have : ((0 : Int32) &&& 31) = 0 := by decide
  rw [this]
  simp
/-- a text of that bytes, and the static fields -/
def bk_Sw (q v N : Nat) (f : Nat → Int32) (U : State) : Prop :=
  va_O "java/lang/String" q bk_Nn U U.heap ∧ va_OF "java/lang/String" "coder" "B" (.int 0) q bk_Nn U U.heap ∧ va_OF "java/lang/String" "value" "[B" (.ref v) q bk_Nn U U.heap ∧ va_T .byte v N (fun j => .int (f j)) bk_Nn U U.heap ∧
  va_Z "java/lang/String" "COMPACT_STRINGS" "Z" (.int 1) bk_Nn U U.heap ∧ va_Zq "jdk/internal/util/Preconditions" "SIOOBE_FORMATTER" "Ljava/util/function/BiFunction;" bk_Nn U U.heap
theorem bk_Sw.moved {q v N : Nat} {f : Nat → Int32} {u U : State} (hvm : u.vm.Alike U.vm) (hH : ∀ a : Nat, a < u.heap.size → U.heap[a]? = u.heap[a]?) (h : bk_Sw q v N f u) : bk_Sw q v N f U := by
  obtain ⟨h1, h2, h3, h4, h5, h6⟩ := h
  have hq : ∀ a : Nat, a < u.heap.size → ¬ bk_Nn a → U.heap[a]? = u.heap[a]? := fun a ha _ => hH a ha
  exact ⟨(h1.kept hq).moved hvm, (h2.kept hq).moved hvm, (h3.kept hq).moved hvm, (h4.kept hq).moved hvm, (h5.kept hq).moved hvm, va_Zq.moved hvm (va_Zq.kept h6 hq)⟩
theorem bk_Sw_blind {as : List Value} {q v N : Nat} {f : Nat → Int32} : FrameBlind (va_Pc as (bk_Sw q v N f)) := fun a U g mk h => ⟨h.1, bk_Sw.moved (u := U) (U := U.calling g mk a) (Vm.Alike.refl U.vm) (fun _ _ => rfl) h.2⟩
def bk_wS (y : MethodName) (cc : ByteArray) (n : Nat) (ret : Option FieldType) : List Cond := Cond.code y cc n ret :: bk_W
theorem bk_wS_in {y : MethodName} {cc : ByteArray} {n : Nat} {ret : Option FieldType} (h : Cond.code y cc n ret ∈ bk_W) : ∀ w ∈ bk_wS y cc n ret, w ∈ bk_W := fun w hw => (List.mem_cons.mp hw).elim (fun e => e ▸ h) (fun e => e)
theorem bk_gS {own : String} {i : Nat} {y : MethodName} {ws : List Cond} (h1 : Cond.methodLink own i y ∈ bk_W) (h2 : Cond.static y ∈ bk_W) (h3 : Cond.initialized y.cls ∈ bk_W) (h : ∀ w ∈ ws, w ∈ bk_W) : GoodIn bk_W (va_wsS own i y ws) := bk_good fun w hw => by
  unfold va_wsS at hw
  rcases List.mem_append.mp hw with hw | hw
  · simp only [List.mem_cons, List.not_mem_nil, or_false] at hw
    rcases hw with rfl | rfl | rfl
    · exact h1
    · exact h2
    · exact h3
  · exact h w hw
theorem bk_gV {own C : String} {i : Nat} {y : MethodName} {ws : List Cond} (h1 : Cond.methodLink own i y ∈ bk_W) (h2 : Cond.instanceMethod y ∈ bk_W) (h3 : Cond.selects C y y ∈ bk_W) (h4 : Cond.initialized C ∈ bk_W) (h : ∀ w ∈ ws, w ∈ bk_W) : GoodIn bk_W (wsV own i C y ws) := bk_good fun w hw => by
  unfold wsV at hw
  rcases List.mem_append.mp hw with hw | hw
  · simp only [List.mem_cons, List.not_mem_nil, or_false] at hw
    rcases hw with rfl | rfl | rfl | rfl
    · exact h1
    · exact h2
    · exact h3
    · exact h4
  · exact h w hw
theorem d_coder : decode cJ0_coder_7d493 0 = .ok (.getstatic 38, 3) ∧ decode cJ0_coder_7d493 3 = .ok (.ifCond .eq 10, 3) ∧ decode cJ0_coder_7d493 6 = .ok (.aload_n 0, 1) ∧ decode cJ0_coder_7d493 7 = .ok (.getfield 15, 3) ∧ decode cJ0_coder_7d493 10 = .ok (.goto 4, 3) ∧ decode cJ0_coder_7d493 14 = .ok (.ireturn, 1) := by decide +kernel
theorem d_isLatin1 : decode cJ0_isLatin1_aae02 0 = .ok (.getstatic 38, 3) ∧ decode cJ0_isLatin1_aae02 3 = .ok (.ifCond .eq 14, 3) ∧ decode cJ0_isLatin1_aae02 6 = .ok (.aload_n 0, 1) ∧ decode cJ0_isLatin1_aae02 7 = .ok (.getfield 15, 3) ∧ decode cJ0_isLatin1_aae02 10 = .ok (.ifCond .ne 7, 3) ∧ decode cJ0_isLatin1_aae02 13 = .ok (.iconst 1, 1) ∧ decode cJ0_isLatin1_aae02 14 = .ok (.goto 4, 3) ∧ decode cJ0_isLatin1_aae02 18 = .ok (.ireturn, 1) := by decide +kernel
theorem d_length : decode cJ0_length_8abf5 0 = .ok (.aload_n 0, 1) ∧ decode cJ0_length_8abf5 1 = .ok (.getfield 9, 3) ∧ decode cJ0_length_8abf5 4 = .ok (.arraylength, 1) ∧ decode cJ0_length_8abf5 5 = .ok (.aload_n 0, 1) ∧ decode cJ0_length_8abf5 6 = .ok (.invokevirtual 335, 3) ∧ decode cJ0_length_8abf5 9 = .ok (.ishr, 1) ∧ decode cJ0_length_8abf5 10 = .ok (.ireturn, 1) := by decide +kernel
theorem d_charAt : decode cJ0_charAt_5068e 0 = .ok (.aload_n 0, 1) ∧ decode cJ0_charAt_5068e 1 = .ok (.invokevirtual 492, 3) ∧ decode cJ0_charAt_5068e 4 = .ok (.ifCond .eq 12, 3) ∧ decode cJ0_charAt_5068e 7 = .ok (.aload_n 0, 1) ∧ decode cJ0_charAt_5068e 8 = .ok (.getfield 9, 3) ∧ decode cJ0_charAt_5068e 11 = .ok (.iload_n 1, 1) ∧ decode cJ0_charAt_5068e 12 = .ok (.invokestatic 495, 3) ∧ decode cJ0_charAt_5068e 15 = .ok (.ireturn, 1) := by decide +kernel
theorem d_l1 : decode cJ1_charAt_3b067 0 = .ok (.iload_n 1, 1) ∧ decode cJ1_charAt_3b067 1 = .ok (.aload_n 0, 1) ∧ decode cJ1_charAt_3b067 2 = .ok (.arraylength, 1) ∧ decode cJ1_charAt_3b067 3 = .ok (.invokestatic 9, 3) ∧ decode cJ1_charAt_3b067 6 = .ok (.aload_n 0, 1) ∧ decode cJ1_charAt_3b067 7 = .ok (.iload_n 1, 1) ∧ decode cJ1_charAt_3b067 8 = .ok (.baload, 1) ∧ decode cJ1_charAt_3b067 9 = .ok (.sipush 255, 3) ∧ decode cJ1_charAt_3b067 12 = .ok (.iand, 1) ∧ decode cJ1_charAt_3b067 13 = .ok (.i2c, 1) ∧ decode cJ1_charAt_3b067 14 = .ok (.ireturn, 1) := by decide +kernel
theorem d_ckS : decode cJ0_checkIndex_df160 0 = .ok (.iload_n 0, 1) ∧ decode cJ0_checkIndex_df160 1 = .ok (.iload_n 1, 1) ∧ decode cJ0_checkIndex_df160 2 = .ok (.getstatic 1053, 3) ∧ decode cJ0_checkIndex_df160 5 = .ok (.invokestatic 1059, 3) ∧ decode cJ0_checkIndex_df160 8 = .ok (.pop, 1) ∧ decode cJ0_checkIndex_df160 9 = .ok (.return_, 1) := by decide +kernel
theorem d_ckP : decode cJ3_checkIndex_8e157 0 = .ok (.iload_n 0, 1) ∧ decode cJ3_checkIndex_8e157 1 = .ok (.ifCond .lt 8, 3) ∧ decode cJ3_checkIndex_8e157 4 = .ok (.iload_n 0, 1) ∧ decode cJ3_checkIndex_8e157 5 = .ok (.iload_n 1, 1) ∧ decode cJ3_checkIndex_8e157 6 = .ok (.if_icmp .lt 10, 3) ∧ decode cJ3_checkIndex_8e157 16 = .ok (.iload_n 0, 1) ∧ decode cJ3_checkIndex_8e157 17 = .ok (.ireturn, 1) := by decide +kernel
theorem bk_c_coder (l : Launch) (q v N : Nat) (f : Nat → Int32) : Met l yJ0_coder_7d493 (bk_wS yJ0_coder_7d493 cJ0_coder_7d493 1 (some .byte)) { frames := 0, cells := 0, slots := 0, locals := 0 } (va_Pc [.ref q] (bk_Sw q v N f)) (va_Qi (fun r (_ : Unit) => r = 0) (fun _ _ => True) bk_Nn) 0 0 bk_Nn := by
  refine Met.ofW (cc := cJ0_coder_7d493) (maxL := 1) (ret := some .byte) (by decide) rfl ?_
  intro p e s m args below meth c s₁ B hml hv
  obtain ⟨rfl, hO, hC, hV, hT, hZ, hQ⟩ := hv
  have hx := B.exec
  have hb := B.bytes
  have hr := B.returns
  have hts : ∀ w ∈ bk_W, w.before #[Value.ref q] s = true := fun w hw => atoms_spec (ws := bk_wS yJ0_coder_7d493 cJ0_coder_7d493 1 (some .byte)) B.pre w (List.mem_cons_of_mem _ hw)
  have hown : s.vm.findClass RJ0 = some m.cls := findClass_of_methodNamed B.named
  have hlocks := B.notSynchronized
  have hS : va_S bk_Nn s.heap s.heap [] := va_S.rf
  have hl := lv_entry ([.ref q]) (n := 1) (Nat.le_of_ble_eq_true rfl)
  rw [lg_entry_eq]
  generalize (lg_sl ([.ref q]) ++ List.replicate (1 - (lg_sl ([.ref q])).length) Slot.unset).toArray = ls at hl ⊢
  have hl : lv_has ls 1 [(0, .ref q)] := hl
  obtain ⟨d0, d3, d6, d7, d10, d14⟩ := d_coder
  refine va_gets hx hb hZ hS hown (hts _ (bk_tw 11 rfl)) (fun _ h => h) d0 ?_
  refine lv_if_eq hx hb d3 (tgt := 13) rfl (fun h => absurd h (by decide)) (fun _ => ?_)
  refine lv_aload_n hx hb d6 rfl (lv_at hl 0 rfl) ?_
  refine vk_getf hx hb hC hS hown (hts _ (bk_tw 31 rfl)) (fun _ h => h) d7 ?_
  refine lv_goto hx hb d10 (tgt := 14) rfl ?_
  exact W.zret (ty := .byte) hx hb hr rfl (fun t ht hW => ⟨⟨0, (), rfl, rfl, trivial⟩, hS.F ht⟩) hS.2.2 d14
theorem bk_c_isLatin1 (l : Launch) (q v N : Nat) (f : Nat → Int32) : Met l yJ0_isLatin1_aae02 (bk_wS yJ0_isLatin1_aae02 cJ0_isLatin1_aae02 1 (some .boolean)) { frames := 0, cells := 0, slots := 0, locals := 0 } (va_Pc [.ref q] (bk_Sw q v N f)) (va_Qi (fun r (_ : Unit) => r = 1) (fun _ _ => True) bk_Nn) 0 0 bk_Nn := by
  refine Met.ofW (cc := cJ0_isLatin1_aae02) (maxL := 1) (ret := some .boolean) (by decide) rfl ?_
  intro p e s m args below meth c s₁ B hml hv
  obtain ⟨rfl, hO, hC, hV, hT, hZ, hQ⟩ := hv
  have hx := B.exec
  have hb := B.bytes
  have hr := B.returns
  have hts : ∀ w ∈ bk_W, w.before #[Value.ref q] s = true := fun w hw => atoms_spec (ws := bk_wS yJ0_isLatin1_aae02 cJ0_isLatin1_aae02 1 (some .boolean)) B.pre w (List.mem_cons_of_mem _ hw)
  have hown : s.vm.findClass RJ0 = some m.cls := findClass_of_methodNamed B.named
  have hlocks := B.notSynchronized
  have hS : va_S bk_Nn s.heap s.heap [] := va_S.rf
  have hl := lv_entry ([.ref q]) (n := 1) (Nat.le_of_ble_eq_true rfl)
  rw [lg_entry_eq]
  generalize (lg_sl ([.ref q]) ++ List.replicate (1 - (lg_sl ([.ref q])).length) Slot.unset).toArray = ls at hl ⊢
  have hl : lv_has ls 1 [(0, .ref q)] := hl
  obtain ⟨d0, d3, d6, d7, d10, d13, d14, d18⟩ := d_isLatin1
  refine va_gets hx hb hZ hS hown (hts _ (bk_tw 11 rfl)) (fun _ h => h) d0 ?_
  refine lv_if_eq hx hb d3 (tgt := 17) rfl (fun h => absurd h (by decide)) (fun _ => ?_)
  refine lv_aload_n hx hb d6 rfl (lv_at hl 0 rfl) ?_
  refine vk_getf hx hb hC hS hown (hts _ (bk_tw 31 rfl)) (fun _ h => h) d7 ?_
  refine lv_if_ne hx hb d10 (tgt := 17) rfl (fun h => absurd rfl h) (fun _ => ?_)
  refine lv_iconst (v := 1) hx hb d13 (by decide) ?_
  refine lv_goto hx hb d14 (tgt := 18) rfl ?_
  exact W.zret (ty := .boolean) hx hb hr rfl (fun t ht hW => ⟨⟨1, (), rfl, rfl, trivial⟩, hS.F ht⟩) hS.2.2 d18
theorem bk_c_length (l : Launch) (q v N : Nat) (f : Nat → Int32) : Met l yJ0_length_8abf5 (bk_wS yJ0_length_8abf5 cJ0_length_8abf5 1 (some .int)) { frames := 1, cells := 0, slots := 0, locals := 30 } (va_Pc [.ref q] (bk_Sw q v N f)) (va_Qi (fun r (_ : Unit) => r = Int32.ofNat N) (fun _ _ => True) bk_Nn) 0 0 bk_Nn := by
  refine Met.ofW (cc := cJ0_length_8abf5) (maxL := 1) (ret := some .int) (by decide) rfl ?_
  intro p e s m args below meth c s₁ B hml hv
  obtain ⟨rfl, hSw⟩ := hv
  have hSw' := hSw
  obtain ⟨hO, hC, hV, hT, hZ, hQ⟩ := hSw'
  have hx := B.exec
  have hb := B.bytes
  have hr := B.returns
  have hts : ∀ w ∈ bk_W, w.before #[Value.ref q] s = true := fun w hw => atoms_spec (ws := bk_wS yJ0_length_8abf5 cJ0_length_8abf5 1 (some .int)) B.pre w (List.mem_cons_of_mem _ hw)
  have hown : s.vm.findClass RJ0 = some m.cls := findClass_of_methodNamed B.named
  have hlocks := B.notSynchronized
  have hS : va_S bk_Nn s.heap s.heap [] := va_S.rf
  have hl := lv_entry ([.ref q]) (n := 1) (Nat.le_of_ble_eq_true rfl)
  rw [lg_entry_eq]
  generalize (lg_sl ([.ref q]) ++ List.replicate (1 - (lg_sl ([.ref q])).length) Slot.unset).toArray = ls at hl ⊢
  have hl : lv_has ls 1 [(0, .ref q)] := hl
  obtain ⟨d0, d1, d4, d5, d6, d9, d10⟩ := d_length
  refine lv_aload_n hx hb d0 rfl (lv_at hl 0 rfl) ?_
  refine vk_getf hx hb hV hS hown (hts _ (bk_tw 30 rfl)) (fun _ h => h) d1 ?_
  refine va_tlen hx hb hT hS rfl d4 ?_
  refine lv_aload_n hx hb d5 rfl (lv_at hl 0 rfl) ?_
  obtain ⟨cell, o1, o2, o3, -⟩ := hO
  refine va_calli (va_runV (As := []) (rest := [.int (Int32.ofNat N)]) ⟨hx, hb, hml, hown, hts⟩ (bk_c_coder l q v N f) (cwV 0 hts (bk_gV (bk_tw 7 rfl) (bk_tw 8 rfl) (bk_tw 9 rfl) (bk_tw 3 rfl) (bk_wS_in (bk_tw 10 rfl))) rfl rfl rfl (by decide +kernel) ⟨Nat.le_of_ble_eq_true rfl, Nat.le_of_ble_eq_true rfl⟩) ⟨bk_Sw_blind, ⟨cell, o1, o2, o3⟩, fun U hU hW => ⟨rfl, bk_Sw.moved hW.alike (fun a _ => by rw [hU]) hSw⟩⟩ rfl rfl hl.1 rfl (lv_room (Nat.le_of_ble_eq_true rfl)) d6 ⟨Nat.zero_le _, Nat.zero_le _⟩) hS (fun _ _ h => h) (fun _ h => h) (fun r u t H1 locs1 ht hvm hw hB hz1 hk1 hS => ?_)
  subst hw
  refine lv_ishr hx hb d9 ?_
  exact W.iret hx hb hr (fun t ht hW => ⟨⟨_, (), rfl, bk_shr0 _, trivial⟩, hS.F ht⟩) hS.2.2 d10
theorem bk_c_ckP (l : Launch) (i n : Int32) (F : Value) (hF : F = .null ∨ ∃ t : Nat, F = .ref t) (h0 : ¬ i < 0) (h1 : i < n) : Met l yJ3_checkIndex_8e157 (bk_wS yJ3_checkIndex_8e157 cJ3_checkIndex_8e157 3 (some .int)) { frames := 0, cells := 0, slots := 0, locals := 0 } (va_Pc [.int i, .int n, F] (fun _ => True)) (va_Qi (fun r (_ : Unit) => r = i) (fun _ _ => True) bk_Nn) 0 0 bk_Nn := by
  refine Met.ofW (cc := cJ3_checkIndex_8e157) (maxL := 3) (ret := some .int) (by decide) rfl ?_
  intro p e s m args below meth c s₁ B hml hv
  obtain ⟨rfl, -⟩ := hv
  have hx := B.exec
  have hb := B.bytes
  have hr := B.returns
  have hlocks := B.notSynchronized
  have hS : va_S bk_Nn s.heap s.heap [] := va_S.rf
  rw [lg_entry_eq]
  have hl : lv_has ((lg_sl [.int i, .int n, F] ++ List.replicate (3 - (lg_sl [.int i, .int n, F]).length) Slot.unset).toArray) 3 [(0, .int i), (1, .int n), (2, F)] := by
    rcases hF with rfl | ⟨t, rfl⟩
    · exact lv_entry ([.int i, .int n, .null]) (n := 3) (Nat.le_of_ble_eq_true rfl)
    · exact lv_entry ([.int i, .int n, .ref t]) (n := 3) (Nat.le_of_ble_eq_true rfl)
  generalize (lg_sl [.int i, .int n, F] ++ List.replicate (3 - (lg_sl [.int i, .int n, F]).length) Slot.unset).toArray = ls at hl ⊢
  obtain ⟨d0, d1, d4, d5, d6, d16, d17⟩ := d_ckP
  refine lv_iload_n hx hb d0 rfl (lv_at hl 0 rfl) ?_
  refine lv_if_lt hx hb d1 (tgt := 9) rfl (fun h => absurd h h0) (fun _ => ?_)
  refine lv_iload_n hx hb d4 rfl (lv_at hl 0 rfl) ?_
  refine lv_iload_n hx hb d5 rfl (lv_at hl 1 rfl) ?_
  refine lv_icmp_lt hx hb d6 (tgt := 16) rfl (fun _ => ?_) (fun h => absurd h1 h)
  refine lv_iload_n hx hb d16 rfl (lv_at hl 0 rfl) ?_
  exact W.iret hx hb hr (fun t ht hW => ⟨⟨_, (), rfl, rfl, trivial⟩, hS.F ht⟩) hS.2.2 d17
theorem bk_c_ckS (l : Launch) (q v N : Nat) (f : Nat → Int32) (i n : Int32) (h0 : ¬ i < 0) (h1 : i < n) : Met l yJ0_checkIndex_df160 (bk_wS yJ0_checkIndex_df160 cJ0_checkIndex_df160 2 none) { frames := 1, cells := 0, slots := 0, locals := 30 } (va_Pc [.int i, .int n] (bk_Sw q v N f)) (va_Qv (fun (_ : Unit) => True) (fun _ _ => True) bk_Nn) 0 0 bk_Nn := by
  refine Met.ofW (cc := cJ0_checkIndex_df160) (maxL := 2) (ret := none) (by decide) rfl ?_
  intro p e s m args below meth c s₁ B hml hv
  obtain ⟨rfl, hO, hC, hV, hT, hZ, hQ⟩ := hv
  have hx := B.exec
  have hb := B.bytes
  have hr := B.returns
  have hts : ∀ w ∈ bk_W, w.before #[Value.int i, Value.int n] s = true := fun w hw => atoms_spec (ws := bk_wS yJ0_checkIndex_df160 cJ0_checkIndex_df160 2 none) B.pre w (List.mem_cons_of_mem _ hw)
  have hown : s.vm.findClass RJ0 = some m.cls := findClass_of_methodNamed B.named
  have hlocks := B.notSynchronized
  have hS : va_S bk_Nn s.heap s.heap [] := va_S.rf
  have hl := lv_entry ([.int i, .int n]) (n := 2) (Nat.le_of_ble_eq_true rfl)
  rw [lg_entry_eq]
  generalize (lg_sl ([.int i, .int n]) ++ List.replicate (2 - (lg_sl ([.int i, .int n])).length) Slot.unset).toArray = ls at hl ⊢
  have hl : lv_has ls 2 [(0, .int i), (1, .int n)] := hl
  obtain ⟨d0, d1, d2, d5, d8, d9⟩ := d_ckS
  refine lv_iload_n hx hb d0 rfl (lv_at hl 0 rfl) ?_
  refine lv_iload_n hx hb d1 rfl (lv_at hl 1 rfl) ?_
  obtain ⟨F, hF, hZF⟩ : ∃ F : Value, (F = .null ∨ ∃ t : Nat, F = .ref t) ∧ va_Z "jdk/internal/util/Preconditions" "SIOOBE_FORMATTER" "Ljava/util/function/BiFunction;" F bk_Nn s s.heap := by
    rcases hQ with h | ⟨t, h⟩
    · exact ⟨_, Or.inl rfl, h⟩
    · exact ⟨_, Or.inr ⟨t, rfl⟩, h⟩
  refine va_gets hx hb hZF hS hown (hts _ (bk_tw 26 rfl)) (fun _ h => h) d2 ?_
  refine va_calli (va_runS (As := [.int i, .int n, F]) (rest := []) ⟨hx, hb, hml, hown, hts⟩ (bk_c_ckP l i n F hF h0 h1) (va_cwS 3 hts (bk_gS (bk_tw 27 rfl) (bk_tw 28 rfl) (bk_tw 5 rfl) (bk_wS_in (bk_tw 29 rfl))) rfl rfl rfl (by decide +kernel) ⟨Nat.le_of_ble_eq_true rfl, Nat.le_of_ble_eq_true rfl⟩) ⟨fun a U g mk h => h, fun U hU hW => ⟨rfl, trivial⟩⟩ rfl rfl hl.1 rfl (lv_room (Nat.le_of_ble_eq_true rfl)) d5 ⟨Nat.zero_le _, Nat.zero_le _⟩) hS (fun _ _ h => h) (fun _ h => h) (fun r u t H1 locs1 ht hvm hw hB hz1 hk1 hS => ?_)
  refine lv_pop hx hb d8 rfl ?_
  exact W.vret hx hb hr (fun t ht hW => ⟨⟨(), rfl, trivial, trivial⟩, hS.F ht⟩) hS.2.2 d9
theorem bk_c_l1 (l : Launch) (q v N : Nat) (f : Nat → Int32) (i r0 : Int32) (h0 : ¬ i < 0) (h1 : i < Int32.ofNat N) (hin : vp_in i N) (hr0 : ((f i.toNatClampNeg &&& 255).toUInt32 % 65536).toInt32 = r0) (hn0 : narrow .char (.int r0) = .int r0) : Met l yJ1_charAt_3b067 (bk_wS yJ1_charAt_3b067 cJ1_charAt_3b067 2 (some .char)) { frames := 2, cells := 0, slots := 0, locals := 60 } (va_Pc [.ref v, .int i] (bk_Sw q v N f)) (va_Qi (fun r (_ : Unit) => r = r0) (fun _ _ => True) bk_Nn) 0 0 bk_Nn := by
  refine Met.ofW (cc := cJ1_charAt_3b067) (maxL := 2) (ret := some .char) (by decide) rfl ?_
  intro p e s m args below meth c s₁ B hml hv
  obtain ⟨rfl, hSw⟩ := hv
  have hSw' := hSw
  obtain ⟨hO, hC, hV, hT, hZ, hQ⟩ := hSw'
  have hx := B.exec
  have hb := B.bytes
  have hr := B.returns
  have hts : ∀ w ∈ bk_W, w.before #[Value.ref v, Value.int i] s = true := fun w hw => atoms_spec (ws := bk_wS yJ1_charAt_3b067 cJ1_charAt_3b067 2 (some .char)) B.pre w (List.mem_cons_of_mem _ hw)
  have hown : s.vm.findClass RJ1 = some m.cls := findClass_of_methodNamed B.named
  have hlocks := B.notSynchronized
  have hS : va_S bk_Nn s.heap s.heap [] := va_S.rf
  have hl := lv_entry ([.ref v, .int i]) (n := 2) (Nat.le_of_ble_eq_true rfl)
  rw [lg_entry_eq]
  generalize (lg_sl ([.ref v, .int i]) ++ List.replicate (2 - (lg_sl ([.ref v, .int i])).length) Slot.unset).toArray = ls at hl ⊢
  have hl : lv_has ls 2 [(0, .ref v), (1, .int i)] := hl
  obtain ⟨d0, d1, d2, d3, d6, d7, d8, d9, d12, d13, d14⟩ := d_l1
  refine lv_iload_n hx hb d0 rfl (lv_at hl 1 rfl) ?_
  refine lv_aload_n hx hb d1 rfl (lv_at hl 0 rfl) ?_
  refine va_tlen hx hb hT hS rfl d2 ?_
  refine va_callv (va_runS (As := [.int i, .int (Int32.ofNat N)]) (rest := []) ⟨hx, hb, hml, hown, hts⟩ (bk_c_ckS l q v N f i (Int32.ofNat N) h0 h1) (va_cwS 2 hts (bk_gS (bk_tw 23 rfl) (bk_tw 24 rfl) (bk_tw 3 rfl) (bk_wS_in (bk_tw 25 rfl))) rfl rfl rfl (by decide +kernel) ⟨Nat.le_of_ble_eq_true rfl, Nat.le_of_ble_eq_true rfl⟩) ⟨bk_Sw_blind, fun U hU hW => ⟨rfl, bk_Sw.moved hW.alike (fun a _ => by rw [hU]) hSw⟩⟩ rfl rfl hl.1 rfl (lv_room (Nat.le_of_ble_eq_true rfl)) d3 ⟨Nat.zero_le _, Nat.zero_le _⟩) hS (fun _ _ h => h) (fun _ h => h) (fun u t H1 locs1 ht hvm hw hB hz1 hk1 hS => ?_)
  refine lv_aload_n hx hb d6 rfl (lv_at hl 0 rfl) ?_
  refine lv_iload_n hx hb d7 rfl (lv_at hl 1 rfl) ?_
  refine va_tb hx hb hT hS hin rfl d8 ?_
  refine lv_sipush (v := 255) hx hb d9 (by decide) ?_
  refine lv_iand hx hb d12 ?_
  refine lv_i2c hx hb d13 hr0 ?_
  exact W.zret (ty := .char) hx hb hr hn0 (fun t ht hW => ⟨⟨_, (), rfl, rfl, trivial⟩, hS.F ht⟩) hS.2.2 d14
theorem bk_c_charAt (l : Launch) (q v N : Nat) (f : Nat → Int32) (i r0 : Int32) (h0 : ¬ i < 0) (h1 : i < Int32.ofNat N) (hin : vp_in i N) (hr0 : ((f i.toNatClampNeg &&& 255).toUInt32 % 65536).toInt32 = r0) (hn0 : narrow .char (.int r0) = .int r0) : Met l yJ0_charAt_5068e (bk_wS yJ0_charAt_5068e cJ0_charAt_5068e 2 (some .char)) { frames := 3, cells := 0, slots := 0, locals := 90 } (va_Pc [.ref q, .int i] (bk_Sw q v N f)) (va_Qi (fun r (_ : Unit) => r = r0) (fun _ _ => True) bk_Nn) 0 0 bk_Nn := by
  refine Met.ofW (cc := cJ0_charAt_5068e) (maxL := 2) (ret := some .char) (by decide) rfl ?_
  intro p e s m args below meth c s₁ B hml hv
  obtain ⟨rfl, hSw⟩ := hv
  have hSw' := hSw
  obtain ⟨hO, hC, hV, hT, hZ, hQ⟩ := hSw'
  have hx := B.exec
  have hb := B.bytes
  have hr := B.returns
  have hts : ∀ w ∈ bk_W, w.before #[Value.ref q, Value.int i] s = true := fun w hw => atoms_spec (ws := bk_wS yJ0_charAt_5068e cJ0_charAt_5068e 2 (some .char)) B.pre w (List.mem_cons_of_mem _ hw)
  have hown : s.vm.findClass RJ0 = some m.cls := findClass_of_methodNamed B.named
  have hlocks := B.notSynchronized
  have hS : va_S bk_Nn s.heap s.heap [] := va_S.rf
  have hl := lv_entry ([.ref q, .int i]) (n := 2) (Nat.le_of_ble_eq_true rfl)
  rw [lg_entry_eq]
  generalize (lg_sl ([.ref q, .int i]) ++ List.replicate (2 - (lg_sl ([.ref q, .int i])).length) Slot.unset).toArray = ls at hl ⊢
  have hl : lv_has ls 2 [(0, .ref q), (1, .int i)] := hl
  obtain ⟨d0, d1, d4, d7, d8, d11, d12, d15⟩ := d_charAt
  refine lv_aload_n hx hb d0 rfl (lv_at hl 0 rfl) ?_
  obtain ⟨cell, o1, o2, o3, -⟩ := hO
  refine va_calli (va_runV (As := []) (rest := []) ⟨hx, hb, hml, hown, hts⟩ (bk_c_isLatin1 l q v N f) (cwV 0 hts (bk_gV (bk_tw 16 rfl) (bk_tw 17 rfl) (bk_tw 18 rfl) (bk_tw 3 rfl) (bk_wS_in (bk_tw 19 rfl))) rfl rfl rfl (by decide +kernel) ⟨Nat.le_of_ble_eq_true rfl, Nat.le_of_ble_eq_true rfl⟩) ⟨bk_Sw_blind, ⟨cell, o1, o2, o3⟩, fun U hU hW => ⟨rfl, bk_Sw.moved hW.alike (fun a _ => by rw [hU]) hSw⟩⟩ rfl rfl hl.1 rfl (lv_room (Nat.le_of_ble_eq_true rfl)) d1 ⟨Nat.zero_le _, Nat.zero_le _⟩) hS (fun _ _ h => h) (fun _ h => h) (fun r u t H1 locs1 ht hvm hw hB hz1 hk1 hS1 => ?_)
  subst hw
  refine lv_if_eq hx hb d4 (tgt := 16) rfl (fun h => absurd h (by decide)) (fun _ => ?_)
  refine lv_aload_n hx hb d7 rfl (lv_at hl 0 rfl) ?_
  refine vk_getf hx hb hV hS1 hown (hts _ (bk_tw 30 rfl)) (fun _ h => h) d8 ?_
  refine lv_iload_n hx hb d11 rfl (lv_at hl 1 rfl) ?_
  refine va_calli (va_runS (As := [.ref v, .int i]) (rest := []) ⟨hx, hb, hml, hown, hts⟩ (bk_c_l1 l q v N f i r0 h0 h1 hin hr0 hn0) (va_cwS 2 hts (bk_gS (bk_tw 20 rfl) (bk_tw 21 rfl) (bk_tw 4 rfl) (bk_wS_in (bk_tw 22 rfl))) rfl rfl rfl (by decide +kernel) ⟨Nat.le_of_ble_eq_true rfl, Nat.le_of_ble_eq_true rfl⟩) ⟨bk_Sw_blind, fun U hU hW => ⟨rfl, bk_Sw.moved hW.alike (fun a ha => by rw [hU]; exact hS1.2.1 a ha (fun z => z)) hSw⟩⟩ rfl rfl hl.1 rfl (lv_room (Nat.le_of_ble_eq_true rfl)) d12 ⟨Nat.zero_le _, Nat.zero_le _⟩) hS1 (fun _ _ h => h) (fun _ h => h) (fun r u t H1 locs1 ht hvm hw hB hz1 hk1 hS => ?_)
  subst hw
  exact W.zret (ty := .char) hx hb hr hn0 (fun t ht hW => ⟨⟨_, (), rfl, rfl, trivial⟩, hS.F ht⟩) hS.2.2 d15
