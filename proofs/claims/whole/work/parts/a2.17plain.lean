/-! Plain: its arrays, then reset. -/
theorem d_mk_5 : decode cX5_init 0 = .ok (.aload_n 0, 1) ∧ decode cX5_init 1 = .ok (.invokespecial 3, 3) ∧ decode cX5_init 4 = .ok (.aload_n 0, 1) ∧ decode cX5_init 5 = .ok (.bipush 36, 2) ∧ decode cX5_init 7 = .ok (.newarray .int, 2) ∧ decode cX5_init 9 = .ok (.putfield 9, 3) ∧ decode cX5_init 12 = .ok (.aload_n 0, 1) ∧ decode cX5_init 13 = .ok (.bipush 6, 2) ∧ decode cX5_init 15 = .ok (.newarray .int, 2) ∧ decode cX5_init 17 = .ok (.putfield 15, 3) ∧ decode cX5_init 20 = .ok (.aload_n 0, 1) ∧ decode cX5_init 21 = .ok (.bipush 10, 2) ∧ decode cX5_init 23 = .ok (.newarray .int, 2) ∧ decode cX5_init 25 = .ok (.putfield 18, 3) ∧ decode cX5_init 28 = .ok (.aload_n 0, 1) ∧ decode cX5_init 29 = .ok (.bipush 10, 2) ∧ decode cX5_init 31 = .ok (.newarray .int, 2) ∧ decode cX5_init 33 = .ok (.putfield 21, 3) ∧ decode cX5_init 36 = .ok (.aload_n 0, 1) ∧ decode cX5_init 37 = .ok (.bipush 10, 2) ∧ decode cX5_init 39 = .ok (.newarray .int, 2) ∧ decode cX5_init 41 = .ok (.putfield 24, 3) ∧ decode cX5_init 44 = .ok (.aload_n 0, 1) ∧ decode cX5_init 45 = .ok (.bipush 10, 2) ∧ decode cX5_init 47 = .ok (.newarray .long, 2) ∧ decode cX5_init 49 = .ok (.putfield 27, 3) ∧ decode cX5_init 52 = .ok (.aload_n 0, 1) ∧ decode cX5_init 53 = .ok (.iconst 3, 1) ∧ decode cX5_init 54 = .ok (.newarray .int, 2) ∧ decode cX5_init 56 = .ok (.putfield 31, 3) ∧ decode cX5_init 59 = .ok (.aload_n 0, 1) ∧ decode cX5_init 60 = .ok (.iconst 3, 1) ∧ decode cX5_init 61 = .ok (.newarray .int, 2) ∧ decode cX5_init 63 = .ok (.putfield 34, 3) ∧ decode cX5_init 66 = .ok (.aload_n 0, 1) ∧ decode cX5_init 67 = .ok (.iconst 3, 1) ∧ decode cX5_init 68 = .ok (.newarray .long, 2) ∧ decode cX5_init 70 = .ok (.putfield 37, 3) ∧ decode cX5_init 73 = .ok (.aload_n 0, 1) ∧ decode cX5_init 74 = .ok (.iconst 2, 1) ∧ decode cX5_init 75 = .ok (.newarray .int, 2) ∧ decode cX5_init 77 = .ok (.putfield 40, 3) ∧ decode cX5_init 80 = .ok (.aload_n 0, 1) ∧ decode cX5_init 81 = .ok (.iconst 2, 1) ∧ decode cX5_init 82 = .ok (.newarray .int, 2) ∧ decode cX5_init 84 = .ok (.putfield 43, 3) ∧ decode cX5_init 87 = .ok (.aload_n 0, 1) ∧ decode cX5_init 88 = .ok (.bipush 48, 2) ∧ decode cX5_init 90 = .ok (.newarray .int, 2) ∧ decode cX5_init 92 = .ok (.putfield 46, 3) ∧ decode cX5_init 95 = .ok (.aload_n 0, 1) ∧ decode cX5_init 96 = .ok (.invokevirtual 49, 3) ∧ decode cX5_init 99 = .ok (.return_, 1) := ⟨by decide +kernel, by decide +kernel, by decide +kernel, by decide +kernel, by decide +kernel, by decide +kernel, by decide +kernel, by decide +kernel, by decide +kernel, by decide +kernel, by decide +kernel, by decide +kernel, by decide +kernel, by decide +kernel, by decide +kernel, by decide +kernel, by decide +kernel, by decide +kernel, by decide +kernel, by decide +kernel, by decide +kernel, by decide +kernel, by decide +kernel, by decide +kernel, by decide +kernel, by decide +kernel, by decide +kernel, by decide +kernel, by decide +kernel, by decide +kernel, by decide +kernel, by decide +kernel, by decide +kernel, by decide +kernel, by decide +kernel, by decide +kernel, by decide +kernel, by decide +kernel, by decide +kernel, by decide +kernel, by decide +kernel, by decide +kernel, by decide +kernel, by decide +kernel, by decide +kernel, by decide +kernel, by decide +kernel, by decide +kernel, by decide +kernel, by decide +kernel, by decide +kernel, by decide +kernel, by decide +kernel⟩
def bk_mw_5 : List Cond := [.methodLink RX5 3 Lib.objectInit, .fieldLink RX5 9 RX5 (bk_F 5 4).2.1 (bk_F 5 4).2.2.1, .fieldLink RX5 15 RX5 (bk_F 5 5).2.1 (bk_F 5 5).2.2.1, .fieldLink RX5 18 RX5 (bk_F 5 7).2.1 (bk_F 5 7).2.2.1, .fieldLink RX5 21 RX5 (bk_F 5 8).2.1 (bk_F 5 8).2.2.1, .fieldLink RX5 24 RX5 (bk_F 5 9).2.1 (bk_F 5 9).2.2.1, .fieldLink RX5 27 RX5 (bk_F 5 10).2.1 (bk_F 5 10).2.2.1, .fieldLink RX5 31 RX5 (bk_F 5 12).2.1 (bk_F 5 12).2.2.1, .fieldLink RX5 34 RX5 (bk_F 5 13).2.1 (bk_F 5 13).2.2.1, .fieldLink RX5 37 RX5 (bk_F 5 14).2.1 (bk_F 5 14).2.2.1, .fieldLink RX5 40 RX5 (bk_F 5 15).2.1 (bk_F 5 15).2.2.1, .fieldLink RX5 43 RX5 (bk_F 5 16).2.1 (bk_F 5 16).2.2.1, .fieldLink RX5 46 RX5 (bk_F 5 18).2.1 (bk_F 5 18).2.2.1, .methodLink RX5 49 ⟨RX5, "reset", "()V"⟩]
theorem bk_mw_5_1 : bk_mw_5.all (fun w => bk_sub [w] tables_1 && goodWord w) = true := by decide +kernel
def bk_Pp (ba : bk_B) (b0 : Nat) (aK : Nat → Nat) (sc : Nat → Int → Int) (D : va_G) (cA : Nat → ClassId) (h0 sz k n : Nat) (fs : List Value) (U : State) : Prop := bk_Pn D cA h0 sz k fs U ∧ bk_St ba b0 aK sc U U.heap ∧ (ba.1 ≤ h0 ∧ h0 + n ≤ ba.1 + ba.2.length)
theorem bk_Pp_blind {ba : bk_B} {b0 : Nat} {aK : Nat → Nat} {sc : Nat → Int → Int} {D : va_G} {cA : Nat → ClassId} {h0 sz k n : Nat} {fs : List Value} {as : List Value} : FrameBlind (va_Pc as (bk_Pp ba b0 aK sc D cA h0 sz k n fs)) := fun a U g mk h => ⟨h.1, ⟨h.2.1.1, h.2.1.2.1, va_K.moved (u := U) (U := U.calling g mk a) (Vm.Alike.refl U.vm) h.2.1.2.2.1, h.2.1.2.2.2⟩, bk_St.same (u := U) (U := U.calling g mk a) rfl h.2.2.1, h.2.2.2⟩
def bk_scO (sc : Nat → Int → Int) : Prop := 0 ≤ sc 1 0 ∧ sc 1 0 ≤ 2147483647 ∧ ∀ j, 0 ≤ j → j < sc 1 0 → bk_r32 (sc 0 j)
theorem bk_okm5 {h0 : Nat} {sc : Nat → Int → Int} (h : bk_scO sc) : bk_okm (h0, bk_l5) (bk_M0 sc) := by
  have z : ∀ k i j, k ≠ 13 → bk_M0 sc k i j = 0 := fun k i j w => if_neg w
  have n3 : ∀ q ∈ bk_l5, q.1 < 13 → ∀ j, j < bk_n q.1 → bk_fd q.1 j % 8 ≠ 3 := by decide +kernel
  have n13 : ∀ q ∈ bk_l5, q.1 ≠ 13 := by decide +kernel
  refine ⟨fun k i j hm hk hj => ?_, fun k i j hm hk h0 h1 => ?_, h⟩
  · have h3 := n3 (k, i) hm hk j hj
    rw [z k i j (by omega)]
    split
    · exact ⟨by decide, by decide⟩
    · trivial
    · rename_i w
      exact absurd w h3
    · exact ⟨by decide, by decide⟩
  · rw [z k i j (n13 (k, i) hm)]
    split
    · exact ⟨by decide, by decide⟩
    · trivial
    · exact ⟨by decide, by decide⟩
/-- what reset leaves -/
def bk_P5 (sc : Nat → Int → Int) (M1 : bk_M) : Prop := bkFr (bkPa 0) (bk_M0 sc) M1 ∧ bkRdP M1 0 bkS0 ∧ bk_okm (0, bk_l5) M1
theorem bk_mk_5 (l : Launch) (ba : bk_B) (b0 : Nat) (aK : Nat → Nat) (sc : Nat → Int → Int) (hsc : bk_scO sc) (D : va_G) (cA : Nat → ClassId) (h0 : Nat) : Met l yX5_init (bk_wS yX5_init cX5_init 1 none) { frames := 20, cells := 12, slots := 143, locals := 2000 } (va_Pc [.ref h0] (bk_Pp ba b0 aK sc D cA h0 (h0 + 1) 5 13 [.int 0, .int 0, .int 0, .int 0, .null, .null, .int 0, .null, .null, .null, .null, .int 0, .null, .null, .null, .null, .null, .int 0, .null]))
    (bk_Qx D h0 (h0 + 1) (bk_P5 sc) (fun M1 => .inr (5, (List.range (bk_n 5)).map (bk_fv (h0, bk_l5) M1 5 0))) (fun M1 => (bk_l5.drop 1).map (bk_en (h0, bk_l5) cA M1))) 12 143 (bk_Ya h0 (h0 + 1)) := by
  refine Met.ofW (cc := cX5_init) (maxL := 1) (ret := none) (by decide +kernel) rfl ?_
  intro p e s m args below meth c s₁ B hml hv
  obtain ⟨rfl, ⟨hsz, hP, hK, h0s⟩, hSt, hbA⟩ := hv
  have hx := B.exec
  have hb := B.bytes
  have hr := B.returns
  have hts : ∀ w ∈ bk_W, w.before #[Value.ref h0] s = true := fun w hw => atoms_spec (ws := bk_wS yX5_init cX5_init 1 none) B.pre w (List.mem_cons_of_mem _ hw)
  have hown : s.vm.findClass (bk_R 5) = some m.cls := findClass_of_methodNamed B.named
  have hlocks := B.notSynchronized
  have hin : meth.name = "<init>" := (name_of_methodNamed B.named B.method).1
  have hY : bk_Y D h0 (h0 + 1) (.inr (5, [.int 0, .int 0, .int 0, .int 0, .null, .null, .int 0, .null, .null, .null, .null, .int 0, .null, .null, .null, .null, .null, .int 0, .null])) [] s.heap := ⟨hsz, hP, h0s⟩
  have hS : va_S (bk_Ya h0 (h0 + 1)) s.heap s.heap [] := va_S.rf
  have hl := lv_entry ([.ref h0]) (n := 1) (Nat.le_of_ble_eq_true rfl)
  rw [lg_entry_eq]
  generalize (lg_sl ([.ref h0]) ++ List.replicate (1 - (lg_sl ([.ref h0])).length) Slot.unset).toArray = ls at hl ⊢
  have hl : lv_has ls 1 [(0, .ref h0)] := hl
  obtain ⟨d0, d1, d4, d5, d7, d9, d12, d13, d15, d17, d20, d21, d23, d25, d28, d29, d31, d33, d36, d37, d39, d41, d44, d45, d47, d49, d52, d53, d54, d56, d59, d60, d61, d63, d66, d67, d68, d70, d73, d74, d75, d77, d80, d81, d82, d84, d87, d88, d90, d92, d95, d96, d99⟩ := d_mk_5
  refine lv_aload_n hx hb d0 rfl (lv_at hl 0 rfl) ?_
  refine W.objInit hx hb hown (hts _ (bk_wIn bk_mw_5_1 0 rfl)) (hts _ (bk_wIn bk_mW_1 0 rfl)) (hts _ (bk_wIn bk_mW_1 1 rfl)) rfl (by rw [hml]; exact hl.1) rfl d1 (Nat.le_of_ble_eq_true rfl) (Nat.le_of_ble_eq_true rfl) ?_
  refine W.eq (g2 := F0 m 4 ls []) rfl ?_
  refine bk_seg (k := 5) (f := 4) (n := 36) (t := 0) (n32 := 36) hx hb hts hown hK hin (by decide) hY hS hl rfl (by decide) (bk_wIn bk_mW_1 2 rfl) (by decide) (by decide) (by decide) d4 (fun st h => lv_bipush (v := 36) hx hb d5 (by decide) h) d7 d9 (by decide) (Nat.le_of_ble_eq_true rfl) (bk_wIn bk_mw_5_1 1 rfl) rfl rfl (by decide +kernel) (Nat.le_of_ble_eq_true rfl) (Nat.le_of_ble_eq_true rfl) (fun H locs hY hS => ?_)
  refine bk_seg (k := 5) (f := 5) (n := 6) (t := 0) (n32 := 6) hx hb hts hown hK hin (by decide) hY hS hl rfl (by decide) (bk_wIn bk_mW_1 2 rfl) (by decide) (by decide) (by decide) d12 (fun st h => lv_bipush (v := 6) hx hb d13 (by decide) h) d15 d17 (by decide) (Nat.le_of_ble_eq_true rfl) (bk_wIn bk_mw_5_1 2 rfl) rfl rfl (by decide +kernel) (Nat.le_of_ble_eq_true rfl) (Nat.le_of_ble_eq_true rfl) (fun H locs hY hS => ?_)
  refine bk_seg (k := 5) (f := 7) (n := 10) (t := 0) (n32 := 10) hx hb hts hown hK hin (by decide) hY hS hl rfl (by decide) (bk_wIn bk_mW_1 2 rfl) (by decide) (by decide) (by decide) d20 (fun st h => lv_bipush (v := 10) hx hb d21 (by decide) h) d23 d25 (by decide) (Nat.le_of_ble_eq_true rfl) (bk_wIn bk_mw_5_1 3 rfl) rfl rfl (by decide +kernel) (Nat.le_of_ble_eq_true rfl) (Nat.le_of_ble_eq_true rfl) (fun H locs hY hS => ?_)
  refine bk_seg (k := 5) (f := 8) (n := 10) (t := 0) (n32 := 10) hx hb hts hown hK hin (by decide) hY hS hl rfl (by decide) (bk_wIn bk_mW_1 2 rfl) (by decide) (by decide) (by decide) d28 (fun st h => lv_bipush (v := 10) hx hb d29 (by decide) h) d31 d33 (by decide) (Nat.le_of_ble_eq_true rfl) (bk_wIn bk_mw_5_1 4 rfl) rfl rfl (by decide +kernel) (Nat.le_of_ble_eq_true rfl) (Nat.le_of_ble_eq_true rfl) (fun H locs hY hS => ?_)
  refine bk_seg (k := 5) (f := 9) (n := 10) (t := 0) (n32 := 10) hx hb hts hown hK hin (by decide) hY hS hl rfl (by decide) (bk_wIn bk_mW_1 2 rfl) (by decide) (by decide) (by decide) d36 (fun st h => lv_bipush (v := 10) hx hb d37 (by decide) h) d39 d41 (by decide) (Nat.le_of_ble_eq_true rfl) (bk_wIn bk_mw_5_1 5 rfl) rfl rfl (by decide +kernel) (Nat.le_of_ble_eq_true rfl) (Nat.le_of_ble_eq_true rfl) (fun H locs hY hS => ?_)
  refine bk_seg (k := 5) (f := 10) (n := 10) (t := 1) (n32 := 10) hx hb hts hown hK hin (by decide) hY hS hl rfl (by decide) (bk_wIn bk_mW_1 3 rfl) (by decide) (by decide) (by decide) d44 (fun st h => lv_bipush (v := 10) hx hb d45 (by decide) h) d47 d49 (by decide) (Nat.le_of_ble_eq_true rfl) (bk_wIn bk_mw_5_1 6 rfl) rfl rfl (by decide +kernel) (Nat.le_of_ble_eq_true rfl) (Nat.le_of_ble_eq_true rfl) (fun H locs hY hS => ?_)
  refine bk_seg (k := 5) (f := 12) (n := 3) (t := 0) (n32 := 3) hx hb hts hown hK hin (by decide) hY hS hl rfl (by decide) (bk_wIn bk_mW_1 2 rfl) (by decide) (by decide) (by decide) d52 (fun st h => lv_iconst (v := 3) hx hb d53 (by decide) h) d54 d56 (by decide) (Nat.le_of_ble_eq_true rfl) (bk_wIn bk_mw_5_1 7 rfl) rfl rfl (by decide +kernel) (Nat.le_of_ble_eq_true rfl) (Nat.le_of_ble_eq_true rfl) (fun H locs hY hS => ?_)
  refine bk_seg (k := 5) (f := 13) (n := 3) (t := 0) (n32 := 3) hx hb hts hown hK hin (by decide) hY hS hl rfl (by decide) (bk_wIn bk_mW_1 2 rfl) (by decide) (by decide) (by decide) d59 (fun st h => lv_iconst (v := 3) hx hb d60 (by decide) h) d61 d63 (by decide) (Nat.le_of_ble_eq_true rfl) (bk_wIn bk_mw_5_1 8 rfl) rfl rfl (by decide +kernel) (Nat.le_of_ble_eq_true rfl) (Nat.le_of_ble_eq_true rfl) (fun H locs hY hS => ?_)
  refine bk_seg (k := 5) (f := 14) (n := 3) (t := 1) (n32 := 3) hx hb hts hown hK hin (by decide) hY hS hl rfl (by decide) (bk_wIn bk_mW_1 3 rfl) (by decide) (by decide) (by decide) d66 (fun st h => lv_iconst (v := 3) hx hb d67 (by decide) h) d68 d70 (by decide) (Nat.le_of_ble_eq_true rfl) (bk_wIn bk_mw_5_1 9 rfl) rfl rfl (by decide +kernel) (Nat.le_of_ble_eq_true rfl) (Nat.le_of_ble_eq_true rfl) (fun H locs hY hS => ?_)
  refine bk_seg (k := 5) (f := 15) (n := 2) (t := 0) (n32 := 2) hx hb hts hown hK hin (by decide) hY hS hl rfl (by decide) (bk_wIn bk_mW_1 2 rfl) (by decide) (by decide) (by decide) d73 (fun st h => lv_iconst (v := 2) hx hb d74 (by decide) h) d75 d77 (by decide) (Nat.le_of_ble_eq_true rfl) (bk_wIn bk_mw_5_1 10 rfl) rfl rfl (by decide +kernel) (Nat.le_of_ble_eq_true rfl) (Nat.le_of_ble_eq_true rfl) (fun H locs hY hS => ?_)
  refine bk_seg (k := 5) (f := 16) (n := 2) (t := 0) (n32 := 2) hx hb hts hown hK hin (by decide) hY hS hl rfl (by decide) (bk_wIn bk_mW_1 2 rfl) (by decide) (by decide) (by decide) d80 (fun st h => lv_iconst (v := 2) hx hb d81 (by decide) h) d82 d84 (by decide) (Nat.le_of_ble_eq_true rfl) (bk_wIn bk_mw_5_1 11 rfl) rfl rfl (by decide +kernel) (Nat.le_of_ble_eq_true rfl) (Nat.le_of_ble_eq_true rfl) (fun H locs hY hS => ?_)
  refine bk_seg (k := 5) (f := 18) (n := 48) (t := 0) (n32 := 48) hx hb hts hown hK hin (by decide) hY hS hl rfl (by decide) (bk_wIn bk_mW_1 2 rfl) (by decide) (by decide) (by decide) d87 (fun st h => lv_bipush (v := 48) hx hb d88 (by decide) h) d90 d92 (by decide) (Nat.le_of_ble_eq_true rfl) (bk_wIn bk_mw_5_1 12 rfl) rfl rfl (by decide +kernel) (Nat.le_of_ble_eq_true rfl) (Nat.le_of_ble_eq_true rfl) (fun H locs hY hS => ?_)
  refine lv_aload_n hx hb d95 rfl (lv_at hl 0 rfl) ?_
  have hP9 : va_P D vwCl (bk_ws (h0, bk_l5) cA (bk_M0 sc)) H := by
    rw [bk_ws_cons, bk_en5_0, bk_en5_a]
    exact hY.2.1
  have hSt9 : bk_St (h0, bk_l5) b0 aK sc s H := bk_St.narrow (bk_St.kept2 hSt hS.1 (h0 := h0) (q0 := h0 + 1) (by omega) (by omega) hS.2.1) hbA.1 (bk_A_part (n := 0) hbA.1 hbA.2)
  have hM := bk_sound l (h0, bk_l5) b0 aK cA D sc 2 0 [bk_c 5 0] (bk_M0 sc) (fun t r M' => t = 0 ∧ bkFr (bkPa 0) (bk_M0 sc) M' ∧ bkRdP M' 0 bkS0) (by decide) (bk_C_mono 2 0 0 _ _ _ _ (fun t r M' q => q) (S0c (d := 1) (p := 0) (M := bk_M0 sc))) (by decide) (fun v hv => by
    rw [List.mem_singleton] at hv
    rw [hv]
    exact Or.inr (Or.inr (show (5, 0) ∈ bk_l5 by decide))) (bk_okm5 hsc) rfl
  have hRun := va_runV (C := bk_R 5) (b := h0) (As := []) (rest := []) (Ts := bk_W) (own := bk_R 5) (nL := 1) (g := F0 m 96 ls [.ref h0]) (H := H) (locs := locs) (cells := 0 + 12) (slots := 0 + 143) (below := below) (e := e) (l := l) (R := (headSpec (bk_wS yX5_init cX5_init 1 none) { frames := 20, cells := 12, slots := 143, locals := 2000 }).room) (meth := meth) (p := p) (s := s) (args := #[Value.ref h0]) (c := c) (cc := cX5_init) (m := m) ⟨hx, hb, hml, hown, hts⟩ hM (cwV (index := 49) 0 hts (bk_gV (bk_wIn bk_mw_5_1 13 rfl) (bk_i_W (List.elem_iff.mp (by decide +kernel))) (bk_s_W (μ := 0) (Or.inl (List.elem_iff.mp (by decide +kernel)))) (bk_ini_W (c := 5) (List.elem_iff.mp (by decide +kernel))) (bk_wsm_in (by decide))) rfl rfl rfl (by decide +kernel) ⟨Nat.le_of_ble_eq_true rfl, Nat.le_of_ble_eq_true rfl⟩)
    ⟨bk_Pc_blind, va_recv hK hY.2.1 (bk_cl 5 (by decide)) (q0 := 0) rfl, fun U hU hW => ⟨rfl, by rw [hU]; exact hP9, va_K.moved hW.alike hK, bk_okm5 hsc, rfl, by rw [hU]; exact bk_St.warm hW hSt9, by rw [hU, hY.1]; show h0 + 1 + _ ≥ h0; omega, bk_Lay5 h0⟩⟩ rfl rfl hl.1 rfl (lv_room (Nat.le_of_ble_eq_true rfl)) d96 ⟨Nat.le_of_ble_eq_true rfl, Nat.le_of_ble_eq_true rfl⟩
  intro T hT X
  obtain ⟨v, st₀, t, T', L, g0, X', hL, e1, e2, ⟨r, M', q1, q2, q3, q4, q5, q6, hz, hk⟩, stp⟩ := hRun T hT X
  cases q5
  rw [g0] at hz hk
  have hA9 : ∀ q, bk_A (h0, bk_l5) q → bk_Ya h0 (h0 + 1) q := fun q w => by
    have w1 : h0 ≤ q := w.1
    show q = h0 ∨ h0 + 1 ≤ q
    omega
  have hS1 : va_S (bk_Ya h0 (h0 + 1)) s.heap T'.heap (locs ++ L) := ⟨Nat.le_trans hS.1 (by rw [e1]; exact hz), fun q h1 h2 => by rw [e1, hk q (Nat.lt_of_lt_of_le h1 hS.1) (fun w => h2 (hA9 q w))]; exact hS.2.1 q h1 h2, fun q hq => by
      rcases List.mem_append.mp hq with h | h
      · exact hS.2.2 q h
      · exact hA9 _ (hL q h)⟩
  have hub : T'.heap.size ≤ s.heap.size + 12 := X'.same.2.2.1
  have hH : H.size = h0 + 1 + 12 := hY.1
  have hY1 : bk_Y D h0 (h0 + 1) (.inr (5, (List.range (bk_n 5)).map (bk_fv (h0, bk_l5) M' 5 0))) ((bk_l5.drop 1).map (bk_en (h0, bk_l5) cA M')) T'.heap := by
    refine ⟨?_, ?_, by omega⟩
    · show T'.heap.size = h0 + 1 + 12
      have : H.size ≤ T'.heap.size := by rw [e1]; exact hz
      omega
    · rw [e1]
      have h9 := q6
      rw [bk_ws_cons] at h9
      exact h9
  obtain ⟨t2, a1, b1⟩ := W.vret hx hb hr (Qc := bk_Qx D h0 (h0 + 1) (bk_P5 sc) (fun M1 => .inr (5, (List.range (bk_n 5)).map (bk_fv (h0, bk_l5) M1 5 0))) (fun M1 => (bk_l5.drop 1).map (bk_en (h0, bk_l5) cA M1))) (free := bk_Ya h0 (h0 + 1)) (fun t ht hW => ⟨rfl, ⟨M', ⟨q1.2.1, q1.2.2, q3⟩, by rw [ht]; exact hY1⟩, hS1.F ht⟩) hS1.2.2 d99 hlocks T' rfl X'
  exact ⟨t2, stp t2 a1, b1⟩
