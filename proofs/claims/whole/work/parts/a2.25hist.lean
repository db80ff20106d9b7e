/-! History: an array of eight plains. -/
def bk_hbl (cA : Nat → ClassId) (h0 : Nat) (us : Nat → bk_M) (i : Nat) : List va_E := (List.range i).flatMap fun t => bk_l5.map (bk_en (h0 + 2 + 13 * t, bk_l5) cA (us t))
theorem bk_hbl_len (cA : Nat → ClassId) (h0 : Nat) (us : Nat → bk_M) : ∀ i, (bk_hbl cA h0 us i).length = 13 * i
  | 0 => rfl
  | i + 1 => by
    have h := bk_hbl_len cA h0 us i
    unfold bk_hbl at h ⊢
    rw [List.range_succ, List.flatMap_append, List.length_append, h]
    simp [bk_l5]
    omega
theorem bk_hbl_s (cA : Nat → ClassId) (h0 : Nat) (us : Nat → bk_M) (i : Nat) (w : bk_M) : bk_hbl cA h0 us i ++ bk_l5.map (bk_en (h0 + 2 + 13 * i, bk_l5) cA w) = bk_hbl cA h0 (fun t => if t = i then w else us t) (i + 1) := by
  unfold bk_hbl
  rw [List.range_succ, List.flatMap_append]
  congr 1
  · rw [List.flatMap_def, List.flatMap_def]
    congr 1
    refine List.map_congr_left fun t ht => ?_
    have h9 := List.mem_range.mp ht
    show _ = List.map (bk_en (h0 + 2 + 13 * t, bk_l5) cA (if t = i then w else us t)) bk_l5
    rw [if_neg (show ¬ t = i by omega)]
  · simp
def bk_ahd (h0 i : Nat) : Nat → Option Nat := fun j => if j < i then some (h0 + 2 + 13 * j) else none
theorem bk_ahd_s (h0 i : Nat) : va_up (bk_ahd h0 i) i (some (h0 + 2 + 13 * i)) = bk_ahd h0 (i + 1) := by
  funext j
  unfold bk_ahd
  by_cases e : j = i
  · subst e
    rw [va_up_self, if_pos (by omega)]
  · rw [va_up_ne _ _ e]
    by_cases w : j < i
    · rw [if_pos w, if_pos (by omega)]
    · rw [if_neg w, if_neg (by omega)]
theorem bk_ahd_0 (h0 : Nat) : bk_ahd h0 0 = fun _ => none := by
  funext j
  exact if_neg (by omega)
theorem bk_hfind : ∀ j, j < 8 → bk_find (5, 3 + j) bk_lay = 86 + 13 * j := by decide +kernel
theorem bk_h8 : ∀ i, i < 8 → ¬ ((8 : Int32) ≤ Int32.ofNat i) ∧ ¬ (Int32.ofNat i < 0 ∨ 8 ≤ (Int32.ofNat i).toNatClampNeg) ∧ (Int32.ofNat i).toNatClampNeg = i ∧ Int32.ofNat i + Int32.ofInt 1 = Int32.ofNat (i + 1) := by decide +kernel
def bk_mw_3 : List Cond := [.methodLink RX3 3 Lib.objectInit, .classLink RX3 9 RX5, .fieldLink RX3 11 RX3 (bk_F 3 2).2.1 (bk_F 3 2).2.2.1, .instantiable RX5 19, .initialized RX5, .methodLink RX3 17 yX5_init, .instanceMethod yX5_init, .code yX5_init cX5_init 1 none]
theorem bk_mw_3_1 : bk_mw_3.all (fun w => bk_sub [w] tables_1 && goodWord w) = true := by decide +kernel
theorem d_mk_3 : decode cX3_init 0 = .ok (.aload_n 0, 1) ∧ decode cX3_init 1 = .ok (.invokespecial 3, 3) ∧ decode cX3_init 4 = .ok (.aload_n 0, 1) ∧ decode cX3_init 5 = .ok (.bipush 8, 2) ∧ decode cX3_init 7 = .ok (.anewarray 9, 3) ∧ decode cX3_init 10 = .ok (.putfield 11, 3) ∧ decode cX3_init 13 = .ok (.iconst 0, 1) ∧ decode cX3_init 14 = .ok (.istore_n 1, 1) ∧ decode cX3_init 15 = .ok (.iload_n 1, 1) ∧ decode cX3_init 16 = .ok (.bipush 8, 2) ∧ decode cX3_init 18 = .ok (.if_icmp .ge 22, 3) ∧ decode cX3_init 21 = .ok (.aload_n 0, 1) ∧ decode cX3_init 22 = .ok (.getfield 11, 3) ∧ decode cX3_init 25 = .ok (.iload_n 1, 1) ∧ decode cX3_init 26 = .ok (.new 9, 3) ∧ decode cX3_init 29 = .ok (.dup, 1) ∧ decode cX3_init 30 = .ok (.invokespecial 17, 3) ∧ decode cX3_init 33 = .ok (.aastore, 1) ∧ decode cX3_init 34 = .ok (.iinc 1 1, 3) ∧ decode cX3_init 37 = .ok (.goto (-22), 3) ∧ decode cX3_init 40 = .ok (.return_, 1) := ⟨by decide +kernel, by decide +kernel, by decide +kernel, by decide +kernel, by decide +kernel, by decide +kernel, by decide +kernel, by decide +kernel, by decide +kernel, by decide +kernel, by decide +kernel, by decide +kernel, by decide +kernel, by decide +kernel, by decide +kernel, by decide +kernel, by decide +kernel, by decide +kernel, by decide +kernel, by decide +kernel, by decide +kernel⟩
def bk_arr3 (cA : Nat → ClassId) (f : Nat → Option Nat) : va_E := .inl (cA 3, 8, .inr (.inr (.inr (.inr f))))
def bk_f1_3 (h1 : Nat) (_ : Nat → bk_M) : List Value := [.int 0, .int 0, .ref (h1 + 1)]
def bk_e1_3 (cA : Nat → ClassId) (h1 : Nat) (us : Nat → bk_M) : List va_E := bk_arr3 cA (fun j => some (h1 + bk_find (5, 3 + j) bk_lay - 84)) :: bk_hbl cA h1 us 8
def bk_P3 (sc : Nat → Int → Int) (us : Nat → bk_M) : Prop := ∀ i, i < 8 → bk_P5 sc (us i)
section HIST
variable {p : Program} {l : Launch} {e : Env} {R : Room} {s : State} {m : MethodId} {args : Array Value} {below : List Frame} {meth : Method} {c : Code}
variable {cA : Nat → ClassId} {D : va_G} {Q : State → Prop} {h0 q5 b0 : Nat} {ba : bk_B} {aK : Nat → Nat} {sc : Nat → Int → Int}
theorem bk_histL (hsc : bk_scO sc) (hx : p.tables.exec = Jvm.exec) (hb : c.code = cX3_init) (hts : ∀ w ∈ bk_W, w.before args s = true) (hown : s.vm.findClass (bk_R 3) = some m.cls) (hml : c.maxLocals = 2) (hK : va_K D vwCl (bk_tys cA) s) (hsz : s.heap.size = h0 + 1) (hbA : ba.1 ≤ h0 ∧ h0 + 106 ≤ ba.1 + ba.2.length) (hE : bk_Ew ba b0 aK sc q5 s s.heap) (hRm : 21 ≤ R.frames ∧ 2020 ≤ R.locals) (hRc : 105 ≤ R.cells ∧ 1304 ≤ R.slots)
    (hend : ∀ (us : Nat → bk_M) (H : Heap) (locs : List Loc) (ls : Array Slot), bk_P3 sc us → bk_Y D h0 (h0 + 1) (.inr (3, bk_f1_3 h0 us)) (bk_arr3 cA (bk_ahd h0 8) :: bk_hbl cA h0 us 8) H → va_S (bk_Ya h0 (h0 + 1)) s.heap H locs → W p l e R s m args below meth c H locs 105 1304 Q (F0 m 40 ls [])) :
    ∀ k i, i + k = 8 → ∀ (us : Nat → bk_M) (H : Heap) (locs : List Loc) (ls : Array Slot), (∀ t, t < i → bk_P5 sc (us t)) → bk_Y D h0 (h0 + 1) (.inr (3, bk_f1_3 h0 us)) (bk_arr3 cA (bk_ahd h0 i) :: bk_hbl cA h0 us i) H → va_S (bk_Ya h0 (h0 + 1)) s.heap H locs → lv_has ls 2 [(1, .int (Int32.ofNat i)), (0, .ref h0)] → W p l e R s m args below meth c H locs (1 + 13 * i) (8 + 162 * i) Q (F0 m 15 ls []) := by
  obtain ⟨d0, d1, d4, d5, d7, d10, d13, d14, d15, d16, d18, d21, d22, d25, d26, d29, d30, d33, d34, d37, d40⟩ := d_mk_3
  have hEw : ∀ U : State, s.WarmedH U.vm → s.heap.size ≤ U.heap.size → (∀ a : Nat, a < s.heap.size → ¬ bk_Ya h0 (h0 + 1) a → U.heap[a]? = s.heap[a]?) → bk_Ew ba b0 aK sc q5 U U.heap := fun U hW hz hk => (hE.kept2 hz (by omega) (by omega) hk).warm hW
  intro k
  induction k with
  | zero =>
    intro i hi us H locs ls hu hY hS hl
    obtain rfl : i = 8 := hi
    refine lv_iload_n hx hb d15 rfl (lv_at hl 0 rfl) ?_
    refine lv_bipush (v := 8) hx hb d16 (by decide) ?_
    exact lv_icmp_ge hx hb d18 (tgt := 40) rfl (fun _ => hend us H locs ls hu hY hS) (fun z => absurd (show (8 : Int32) ≤ Int32.ofNat 8 by decide) z)
  | succ k ih =>
    intro i hi us H locs ls hu hY hS hl
    have hi8 : i < 8 := by omega
    obtain ⟨f1, f2, f3, f4⟩ := bk_h8 i hi8
    refine lv_iload_n hx hb d15 rfl (lv_at hl 0 rfl) ?_
    refine lv_bipush (v := 8) hx hb d16 (by decide) ?_
    refine lv_icmp_ge hx hb d18 (tgt := 40) rfl (fun z => absurd z f1) (fun _ => ?_)
    refine lv_aload_n hx hb d21 rfl (lv_at hl 1 rfl) ?_
    refine va_get hx hb hts (bk_lay_W (k := 3) (by decide)) hown hK hY.2.1 0 rfl (bk_cl 3 (by decide)) 2 (by decide) (hts _ (bk_wIn bk_mw_3_1 2 rfl)) (fun x hx => hx) (v := .ref (h0 + 1)) rfl d22 ?_
    refine lv_iload_n hx hb d25 rfl (lv_at hl 0 rfl) ?_
    have hlen : (bk_arr3 cA (bk_ahd h0 i) :: bk_hbl cA h0 us i).length = 1 + 13 * i := by rw [List.length_cons, bk_hbl_len]; omega
    have hq : h0 + 1 + (bk_arr3 cA (bk_ahd h0 i) :: bk_hbl cA h0 us i).length = h0 + 2 + 13 * i := by rw [hlen]; omega
    refine bk_newx (k := 3) (k1 := 5) (nL := 2) (F1 := bk_f1_5) (E1 := bk_e1_5 cA) (P9 := bk_P5 sc) hx hb hts hown hml hl.1 hK (by decide) (fun h1 => bk_mk_5 l ba b0 aK sc hsc D cA h1) (fun _ => bk_Pp_blind) (fun U h hW hz hk => ⟨h, (hEw U hW hz hk).2.1, by rw [hq]; omega⟩) bk_df_5 (bk_wIn bk_mw_3_1 1 rfl) (bk_wIn bk_mw_3_1 3 rfl) (bk_wIn bk_mw_3_1 4 rfl) (Or.inl (bk_wIn bk_mw_3_1 5 rfl)) (bk_wIn bk_mw_3_1 6 rfl) (bk_wIn bk_mw_3_1 7 rfl) rfl rfl ⟨by decide +kernel, by decide +kernel, by decide +kernel⟩ ⟨rfl, rfl⟩ ⟨by show 20 + 1 ≤ R.frames; omega, by show 8 + (1 + 11) + 2000 ≤ R.locals; omega⟩ (Nat.le_of_ble_eq_true rfl) hY hS d26 d29 d30 (by omega) (by show 8 + 162 * i + 19 + 143 ≤ R.slots; omega) (fun w H locs hw hY hS => ?_)
    rw [hq] at hY
    rw [hq]
    have hz : ((bk_arr3 cA (bk_ahd h0 i) :: bk_hbl cA h0 us i) ++ .inr (5, bk_f1_5 (h0 + 2 + 13 * i) w) :: bk_e1_5 cA (h0 + 2 + 13 * i) w)[1 + 13 * i]? = some (.inr (5, bk_f1_5 (h0 + 2 + 13 * i) w)) := by
      rw [List.getElem?_append_right (by rw [hlen]; exact Nat.le_refl _), hlen, Nat.sub_self]
      rfl
    refine bk_astq (k1 := 5) (t := 3) (n := 8) (z := 1 + 13 * i) (e1 := []) (e2 := bk_hbl cA h0 us i ++ .inr (5, bk_f1_5 (h0 + 2 + 13 * i) w) :: bk_e1_5 cA (h0 + 2 + 13 * i) w) hx hb hK (by decide) rfl hY hS hz (by omega) f2 d33 rfl ?_ (fun H locs hY hS => ?_)
    · rw [hsz]
      show h0 + 1 + (1 + 13 * i + 1 + 12) = h0 + 1 + ((bk_arr3 cA (bk_ahd h0 i) :: bk_hbl cA h0 us i) ++ .inr (5, bk_f1_5 (h0 + 2 + 13 * i) w) :: bk_e1_5 cA (h0 + 2 + 13 * i) w).length
      rw [List.length_append, hlen, List.length_cons, show (bk_e1_5 cA (h0 + 2 + 13 * i) w).length = 12 from rfl]
    refine lv_iinc (k := 0) hx hb d34 hl rfl f4 (by decide) rfl (fun ls hl => ?_)
    refine lv_goto hx hb d37 (tgt := 15) rfl ?_
    refine W.widen (k := 1 + 13 * (i + 1)) (n := 8 + 162 * (i + 1)) (by omega) (by show 8 + 162 * i + 19 + 143 ≤ _; omega) ?_
    refine ih (i + 1) (by omega) (fun t => if t = i then w else us t) H locs ls (fun t ht => ?_) (bk_Yl hY rfl ?_) hS hl
    · by_cases e : t = i
      · rw [if_pos e]; exact hw
      · rw [if_neg e]; exact hu t (by omega)
    · rw [f3, bk_ahd_s, bk_sl_5, bk_hbl_s]
      rfl
end HIST
theorem bk_mk_3 (l : Launch) (ba : bk_B) (b0 : Nat) (aK : Nat → Nat) (sc : Nat → Int → Int) (hsc : bk_scO sc) (q5 : Nat) (D : va_G) (cA : Nat → ClassId) (h0 : Nat) : Met l yX3_init (bk_wS yX3_init cX3_init 2 none) { frames := 22, cells := 105, slots := 1304, locals := 2100 } (va_Pc [.ref h0] (bk_Pe ba b0 aK sc q5 D cA h0 3 106 [.int 0, .int 0, .null])) (bk_Qx D h0 (h0 + 1) (bk_P3 sc) (fun us => .inr (3, bk_f1_3 h0 us)) (bk_e1_3 cA h0)) 105 1304 (bk_Ya h0 (h0 + 1)) := by
  refine Met.ofW (cc := cX3_init) (maxL := 2) (ret := none) (by decide +kernel) rfl ?_
  intro p e s m args below meth c s₁ B hml hv
  obtain ⟨rfl, ⟨hsz, hP, hK, h0s⟩, hE, hbA⟩ := hv
  have hx := B.exec
  have hb := B.bytes
  have hr := B.returns
  have hts : ∀ w ∈ bk_W, w.before #[Value.ref h0] s = true := fun w hw => atoms_spec (ws := bk_wS yX3_init cX3_init 2 none) B.pre w (List.mem_cons_of_mem _ hw)
  have hown : s.vm.findClass (bk_R 3) = some m.cls := findClass_of_methodNamed B.named
  have hlocks := B.notSynchronized
  have hin : meth.name = "<init>" := (name_of_methodNamed B.named B.method).1
  have hY : bk_Y D h0 (h0 + 1) (.inr (3, [.int 0, .int 0, .null])) [] s.heap := ⟨hsz, hP, h0s⟩
  have hS : va_S (bk_Ya h0 (h0 + 1)) s.heap s.heap [] := va_S.rf
  have hl := lv_entry ([.ref h0]) (n := 2) (Nat.le_of_ble_eq_true rfl)
  rw [lg_entry_eq]
  generalize (lg_sl ([.ref h0]) ++ List.replicate (2 - (lg_sl ([.ref h0])).length) Slot.unset).toArray = ls at hl ⊢
  have hl : lv_has ls 2 [(0, .ref h0)] := hl
  obtain ⟨d0, d1, d4, d5, d7, d10, d13, d14, d15, d16, d18, d21, d22, d25, d26, d29, d30, d33, d34, d37, d40⟩ := d_mk_3
  refine lv_aload_n hx hb d0 rfl (lv_at hl 0 rfl) ?_
  refine W.objInit hx hb hown (hts _ (bk_wIn bk_mw_3_1 0 rfl)) (hts _ (bk_wIn bk_mW_1 0 rfl)) (hts _ (bk_wIn bk_mW_1 1 rfl)) rfl (by rw [hml]; exact hl.1) rfl d1 (Nat.le_of_ble_eq_true rfl) (Nat.le_of_ble_eq_true rfl) ?_
  refine W.eq (g2 := F0 m 4 ls []) rfl ?_
  refine lv_aload_n hx hb d4 rfl (lv_at hl 0 rfl) ?_
  refine lv_bipush (v := 8) hx hb d5 (by decide) ?_
  refine bk_anew (k := 3) (t := 3) (n := 8) (C := "BanksDealt$Plain") hx hb hts hown hK (bk_wIn bk_mw_3_1 1 rfl) hE.2.2.2.1 rfl (by decide) rfl (by decide) d7 hY hS (Nat.le_of_ble_eq_true rfl) (Nat.le_of_ble_eq_true rfl) (fun H hY hS => ?_)
  obtain ⟨y1, y2, y3⟩ := hY
  refine bk_putF (k := 3) (f := 2) (ty := .array (.object RX5)) hx hb hts hown hK hin (by decide) y2 (bk_Y_D y3) hS 0 rfl (by decide) (Nat.le_of_ble_eq_true rfl) (bk_wIn bk_mw_3_1 2 rfl) rfl rfl (by decide +kernel) rfl rfl d10 (fun H1 locs1 z1 hP1 hS1 => ?_)
  have hY := (show bk_Y D h0 (h0 + 1) _ _ H1 from ⟨z1.trans y1, hP1, y3⟩)
  refine lv_iconst (v := 0) hx hb d13 (by decide) ?_
  refine lv_istore_n hx hb d14 rfl hl (by decide) rfl (fun ls hl => ?_)
  refine bk_histL (us := fun _ => bk_Mz) hsc hx hb hts hown hml hK hsz hbA hE ⟨Nat.le_of_ble_eq_true rfl, Nat.le_of_ble_eq_true rfl⟩ ⟨Nat.le_of_ble_eq_true rfl, Nat.le_of_ble_eq_true rfl⟩ (fun us H locs ls hu hY hS => ?_) 8 0 rfl H1 locs1 ls (fun t ht => absurd ht (Nat.not_lt_zero t)) (bk_Yl hY rfl (by rw [bk_ahd_0]; rfl)) hS1 hl
  have hY2 := bk_Yq (es := []) hY (g := fun j => some (h0 + bk_find (5, 3 + j) bk_lay - 84)) (fun j hj => by
    unfold bk_ahd
    rw [if_pos hj, bk_hfind j hj]
    congr 1
    omega)
  exact W.vret hx hb hr (fun t ht hW => ⟨rfl, ⟨us, hu, by rw [ht]; exact hY2⟩, hS.F ht⟩) hS.2.2 d40
