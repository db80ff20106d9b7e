/-! Tape: two arrays, and the words out of the text. -/
theorem bk_Yk {D : va_G} {h0 q0 : Nat} {o : va_E} {es : List va_E} {H H1 : Heap} (h : bk_Y D h0 q0 o es H) (hk : ∀ q : Nat, q < H.size → H1[q]? = H[q]?) (hu : H1.size ≤ q0 + es.length) (hl : 0 < es.length) : bk_Y D h0 q0 o es H1 := bk_Y_of (h.2.1.kept fun i x hx => hk x.1 ((h.2.1 i x hx).lt)) h.2.2 hu hl
def bk_mw_10 : List Cond := [.methodLink RX10 3 Lib.objectInit, .fieldLink RX10 9 RX10 (bk_F 10 0).2.1 (bk_F 10 0).2.2.1, .fieldLink RX10 15 RX10 (bk_F 10 8).2.1 (bk_F 10 8).2.2.1, .methodLink RX10 21 yJ0_length_8abf5, .methodLink RX10 27 yJ0_charAt_5068e]
theorem bk_mw_10_1 : bk_mw_10.all (fun w => bk_sub [w] tables_1 && goodWord w) = true := by decide +kernel
theorem d_mk_10 : decode cX10_init 0 = .ok (.aload_n 0, 1) ∧ decode cX10_init 1 = .ok (.invokespecial 3, 3) ∧ decode cX10_init 4 = .ok (.aload_n 0, 1) ∧ decode cX10_init 5 = .ok (.sipush 940, 3) ∧ decode cX10_init 8 = .ok (.newarray .int, 2) ∧ decode cX10_init 10 = .ok (.putfield 9, 3) ∧ decode cX10_init 13 = .ok (.aload_n 0, 1) ∧ decode cX10_init 14 = .ok (.bipush 25, 2) ∧ decode cX10_init 16 = .ok (.newarray .long, 2) ∧ decode cX10_init 18 = .ok (.putfield 15, 3) ∧ decode cX10_init 21 = .ok (.iconst 0, 1) ∧ decode cX10_init 22 = .ok (.istore_n 1, 1) ∧ decode cX10_init 23 = .ok (.lconst 0, 1) ∧ decode cX10_init 24 = .ok (.lstore_n 2, 1) ∧ decode cX10_init 25 = .ok (.iconst 0, 1) ∧ decode cX10_init 26 = .ok (.istore 4, 2) := ⟨by decide +kernel, by decide +kernel, by decide +kernel, by decide +kernel, by decide +kernel, by decide +kernel, by decide +kernel, by decide +kernel, by decide +kernel, by decide +kernel, by decide +kernel, by decide +kernel, by decide +kernel, by decide +kernel, by decide +kernel, by decide +kernel⟩
theorem d_tpA : decode cX10_init 28 = .ok (.iload 4, 2) ∧ decode cX10_init 30 = .ok (.ldc 19, 2) ∧ decode cX10_init 32 = .ok (.invokevirtual 21, 3) ∧ decode cX10_init 35 = .ok (.if_icmp .ge 62, 3) ∧ decode cX10_init 38 = .ok (.iload_n 1, 1) ∧ decode cX10_init 39 = .ok (.aload_n 0, 1) ∧ decode cX10_init 40 = .ok (.getfield 15, 3) ∧ decode cX10_init 43 = .ok (.arraylength, 1) ∧ decode cX10_init 44 = .ok (.if_icmp .ge 53, 3) ∧ decode cX10_init 47 = .ok (.ldc 19, 2) ∧ decode cX10_init 49 = .ok (.iload 4, 2) ∧ decode cX10_init 51 = .ok (.invokevirtual 27, 3) ∧ decode cX10_init 54 = .ok (.istore 5, 2) ∧ decode cX10_init 56 = .ok (.iload 5, 2) ∧ decode cX10_init 58 = .ok (.bipush 32, 2) ∧ decode cX10_init 60 = .ok (.if_icmp .ne 18, 3) := ⟨by decide +kernel, by decide +kernel, by decide +kernel, by decide +kernel, by decide +kernel, by decide +kernel, by decide +kernel, by decide +kernel, by decide +kernel, by decide +kernel, by decide +kernel, by decide +kernel, by decide +kernel, by decide +kernel, by decide +kernel, by decide +kernel⟩
theorem d_tpB : decode cX10_init 63 = .ok (.aload_n 0, 1) ∧ decode cX10_init 64 = .ok (.getfield 15, 3) ∧ decode cX10_init 67 = .ok (.iload_n 1, 1) ∧ decode cX10_init 68 = .ok (.lload_n 2, 1) ∧ decode cX10_init 69 = .ok (.lastore, 1) ∧ decode cX10_init 70 = .ok (.iinc 1 1, 3) ∧ decode cX10_init 73 = .ok (.lconst 0, 1) ∧ decode cX10_init 74 = .ok (.lstore_n 2, 1) ∧ decode cX10_init 75 = .ok (.goto 16, 3) ∧ decode cX10_init 78 = .ok (.lload_n 2, 1) ∧ decode cX10_init 79 = .ok (.iconst 5, 1) ∧ decode cX10_init 80 = .ok (.lshl, 1) ∧ decode cX10_init 81 = .ok (.iload 5, 2) ∧ decode cX10_init 83 = .ok (.bipush 97, 2) ∧ decode cX10_init 85 = .ok (.isub, 1) ∧ decode cX10_init 86 = .ok (.iconst 1, 1) ∧ decode cX10_init 87 = .ok (.iadd, 1) ∧ decode cX10_init 88 = .ok (.i2l, 1) ∧ decode cX10_init 89 = .ok (.ladd, 1) ∧ decode cX10_init 90 = .ok (.lstore_n 2, 1) ∧ decode cX10_init 91 = .ok (.iinc 4 1, 3) ∧ decode cX10_init 94 = .ok (.goto (-66), 3) ∧ decode cX10_init 97 = .ok (.return_, 1) := ⟨by decide +kernel, by decide +kernel, by decide +kernel, by decide +kernel, by decide +kernel, by decide +kernel, by decide +kernel, by decide +kernel, by decide +kernel, by decide +kernel, by decide +kernel, by decide +kernel, by decide +kernel, by decide +kernel, by decide +kernel, by decide +kernel, by decide +kernel, by decide +kernel, by decide +kernel, by decide +kernel, by decide +kernel, by decide +kernel, by decide +kernel⟩
def bk_f1_10 (h1 : Nat) : List Value := [.ref (h1 + 1), .int 0, .int 0, .long 0, .int 0, .int 0, .int 0, .int 0, .ref (h1 + 1 + 1), .int 0, .int 0, .int 0]
def bk_tpE (cA : Nat → ClassId) (n : Nat) : List va_E := [bk_ze cA 0 940, .inl (cA 1, 25, .inr (.inl (bk_tpF n)))]
section TAPE
variable {p : Program} {l : Launch} {e : Env} {R : Room} {s : State} {m : MethodId} {args : Array Value} {below : List Frame} {meth : Method} {c : Code}
variable {cA : Nat → ClassId} {D : va_G} {Q : State → Prop} {h0 q5 v5 : Nat} {ba : bk_B}
theorem bk_tape (hx : p.tables.exec = Jvm.exec) (hb : c.code = cX10_init) (hts : ∀ w ∈ bk_W, w.before args s = true) (hown : s.vm.findClass (bk_R 10) = some m.cls) (hml : c.maxLocals = 6) (hK : va_K D vwCl (bk_tys cA) s) (hsz : s.heap.size = h0 + 1) (hR5 : vk_R RX10 19 bk_tx5 q5 s) (hRm : 5 ≤ R.frames ∧ 200 ≤ R.locals) (hRc : 2 ≤ R.cells ∧ 965 ≤ R.slots)
    (hT : ∀ (H : Heap) (locs : List Loc), va_S (bk_Ya h0 (h0 + 1)) s.heap H locs → ∀ U : State, U.heap = H → s.WarmedH U.vm → bk_Sw q5 v5 138 bk_t5f U) (hO : ∀ (H : Heap) (locs : List Loc), va_S (bk_Ya h0 (h0 + 1)) s.heap H locs → va_O "java/lang/String" q5 (bk_A ba) s H)
    (hend : ∀ (H : Heap) (locs : List Loc) (ls : Array Slot), bk_Y D h0 (h0 + 1) (.inr (10, bk_f1_10 h0)) (bk_tpE cA 138) H → va_S (bk_Ya h0 (h0 + 1)) s.heap H locs → W p l e R s m args below meth c H locs 2 965 Q (F0 m 97 ls [])) :
    ∀ k n, n + k = 138 → ∀ (H : Heap) (locs : List Loc) (ls : Array Slot), bk_Y D h0 (h0 + 1) (.inr (10, bk_f1_10 h0)) (bk_tpE cA n) H → va_S (bk_Ya h0 (h0 + 1)) s.heap H locs → lv_has ls 6 [(4, .int (Int32.ofNat n)), (2, .long (bk_tpA n)), (1, .int (bk_tpI n)), (0, .ref h0)] → W p l e R s m args below meth c H locs 2 965 Q (F0 m 28 ls []) := by
  obtain ⟨d28, d30, d32, d35, d38, d39, d40, d43, d44, d47, d49, d51, d54, d56, d58, d60⟩ := d_tpA
  obtain ⟨d63, d64, d67, d68, d69, d70, d73, d74, d75, d78, d79, d80, d81, d83, d85, d86, d87, d88, d89, d90, d91, d94, d97⟩ := d_tpB
  have hlink := hts _ (bk_wIn bk_mw_10_1 2 rfl)
  intro k
  induction k with
  | zero =>
    intro n hn H locs ls hY hS hl
    obtain rfl : n = 138 := hn
    refine lv_iload hx hb d28 (lv_at hl 0 rfl) ?_
    refine va_ldcS hx hb hown hR5 d30 ?_
    obtain ⟨cell, o1, o2, o3, -⟩ := hO H locs hS
    refine va_calli (va_runV (As := []) (rest := [.int (Int32.ofNat 138)]) ⟨hx, hb, hml, hown, hts⟩ (bk_c_length l q5 v5 138 bk_t5f) (cwV 0 hts (bk_gV (bk_wIn bk_mw_10_1 3 rfl) (bk_tw 1 rfl) (bk_tw 2 rfl) (bk_tw 3 rfl) (bk_wS_in (bk_tw 6 rfl))) rfl rfl rfl (by decide +kernel) ⟨by show 1 + 1 ≤ R.frames; omega, by show 8 + (1 + 11) + 30 ≤ R.locals; omega⟩)
      ⟨bk_Sw_blind, ⟨cell, o1, o2, o3⟩, fun U hU hW => ⟨rfl, hT H locs hS U hU hW⟩⟩ rfl rfl hl.1 rfl (lv_room (Nat.le_of_ble_eq_true rfl)) d32 ⟨by omega, by omega⟩) hS (fun _ _ z => z.elim) (fun _ z => z.elim) (fun r u t H1 locs1 ht hvm hw hB hz1 hk1 hS1 => ?_)
    subst hw
    refine bk_Wsz fun hub => ?_
    have hY1 := bk_Yk hY (fun q hq => hk1 q hq (fun z => z)) (by show H1.size ≤ h0 + 1 + 2; omega) (Nat.succ_pos _)
    exact lv_icmp_ge hx hb d35 (tgt := 97) rfl (fun _ => hend H1 locs1 ls hY1 hS1) (fun z => absurd (Int32.le_refl _) z)
  | succ k ih =>
    intro n hn H locs ls hY hS hl
    have hn9 : n < 138 := by omega
    obtain ⟨f1, f2, f3, f4, f5⟩ := bk_t5a n hn9
    obtain ⟨i1, i2⟩ := bk_tpI_ok n hn9
    refine lv_iload hx hb d28 (lv_at hl 0 rfl) ?_
    refine va_ldcS hx hb hown hR5 d30 ?_
    obtain ⟨cell, o1, o2, o3, -⟩ := hO H locs hS
    refine va_calli (va_runV (As := []) (rest := [.int (Int32.ofNat n)]) ⟨hx, hb, hml, hown, hts⟩ (bk_c_length l q5 v5 138 bk_t5f) (cwV 0 hts (bk_gV (bk_wIn bk_mw_10_1 3 rfl) (bk_tw 1 rfl) (bk_tw 2 rfl) (bk_tw 3 rfl) (bk_wS_in (bk_tw 6 rfl))) rfl rfl rfl (by decide +kernel) ⟨by show 1 + 1 ≤ R.frames; omega, by show 8 + (1 + 11) + 30 ≤ R.locals; omega⟩)
      ⟨bk_Sw_blind, ⟨cell, o1, o2, o3⟩, fun U hU hW => ⟨rfl, hT H locs hS U hU hW⟩⟩ rfl rfl hl.1 rfl (lv_room (Nat.le_of_ble_eq_true rfl)) d32 ⟨by omega, by omega⟩) hS (fun _ _ z => z.elim) (fun _ z => z.elim) (fun r u t H1 locs1 ht hvm hw hB hz1 hk1 hS1 => ?_)
    subst hw
    refine bk_Wsz fun hub => ?_
    have hY1 := bk_Yk hY (fun q hq => hk1 q hq (fun z => z)) (by show H1.size ≤ h0 + 1 + 2; omega) (Nat.succ_pos _)
    refine lv_icmp_ge hx hb d35 (tgt := 97) rfl (fun z => absurd z f4) (fun _ => ?_)
    refine lv_iload_n hx hb d38 rfl (lv_at hl 2 rfl) ?_
    refine lv_aload_n hx hb d39 rfl (lv_at hl 3 rfl) ?_
    refine va_get hx hb hts (bk_lay_W (k := 10) (by decide)) hown hK hY1.2.1 0 rfl (bk_cl 10 (by decide)) 8 (by decide) hlink (fun x hx => hx) (v := .ref (h0 + 1 + 1)) rfl d40 ?_
    refine va_alen hx hb hK hY1.2.1 2 1 rfl rfl (v := 25) rfl d43 ?_
    refine lv_icmp_ge hx hb d44 (tgt := 97) rfl (fun z => absurd z i1) (fun _ => ?_)
    refine va_ldcS hx hb hown hR5 d47 ?_
    refine lv_iload hx hb d49 (lv_at hl 0 rfl) ?_
    obtain ⟨cell, o1, o2, o3, -⟩ := hO H1 locs1 hS1
    refine va_calli (va_runV (As := [.int (Int32.ofNat n)]) (rest := []) ⟨hx, hb, hml, hown, hts⟩ (bk_c_charAt l q5 v5 138 bk_t5f (Int32.ofNat n) (bk_tpc n) f1 f2 f3 (bk_t5b n hn9) (bk_t5c n hn9)) (cwV 1 hts (bk_gV (bk_wIn bk_mw_10_1 4 rfl) (bk_tw 13 rfl) (bk_tw 14 rfl) (bk_tw 3 rfl) (bk_wS_in (bk_tw 15 rfl))) rfl rfl rfl (by decide +kernel) ⟨by show 3 + 1 ≤ R.frames; omega, by show 8 + (2 + 11) + 90 ≤ R.locals; omega⟩)
      ⟨bk_Sw_blind, ⟨cell, o1, o2, o3⟩, fun U hU hW => ⟨rfl, hT H1 locs1 hS1 U hU hW⟩⟩ rfl rfl hl.1 rfl (lv_room (Nat.le_of_ble_eq_true rfl)) d51 ⟨by omega, by omega⟩) hS1 (fun _ _ z => z.elim) (fun _ z => z.elim) (fun r u t H2 locs2 ht hvm hw hB hz2 hk2 hS2 => ?_)
    subst hw
    refine bk_Wsz fun hub2 => ?_
    have hY2 := bk_Yk hY1 (fun q hq => hk2 q hq (fun z => z)) (by show H2.size ≤ h0 + 1 + 2; omega) (Nat.succ_pos _)
    refine lv_istore hx hb d54 hl (by decide) rfl (fun ls hl => ?_)
    refine lv_iload hx hb d56 (lv_at hl 0 rfl) ?_
    refine lv_bipush (v := 32) hx hb d58 (by decide) ?_
    refine lv_icmp_ne hx hb d60 (tgt := 78) rfl (fun hne => ?_) (fun heq => ?_)
    · refine lv_lload_n hx hb d78 rfl (lv_at hl 2 rfl) ?_
      refine lv_iconst (v := 5) hx hb d79 (by decide) ?_
      refine lv_lshl hx hb d80 rfl ?_
      refine lv_iload hx hb d81 (lv_at hl 0 rfl) ?_
      refine lv_bipush (v := 97) hx hb d83 (by decide) ?_
      refine lv_isub hx hb d85 ?_
      refine lv_iconst (v := 1) hx hb d86 (by decide) ?_
      refine lv_iadd hx hb d87 ?_
      refine lv_i2l hx hb d88 rfl ?_
      refine lv_ladd hx hb d89 ?_
      refine lv_lstore_n hx hb d90 rfl hl (by decide) rfl (fun ls hl => ?_)
      refine lv_iinc (k := 2) hx hb d91 hl rfl f5 (by decide) rfl (fun ls hl => ?_)
      refine lv_goto hx hb d94 (tgt := 28) rfl ?_
      have eI : bk_tpI (n + 1) = bk_tpI n := by rw [bk_tpI, if_neg hne]
      have eA : bk_tpA (n + 1) = (bk_tpA n <<< ((5 : Int32).toInt64 &&& 63)) + (bk_tpc n - 97 + 1).toInt64 := by rw [bk_tpA, if_neg hne]
      have eF : bk_tpF (n + 1) = bk_tpF n := by rw [bk_tpF, if_neg hne]
      refine ih (n + 1) (by omega) H2 locs2 ls (by unfold bk_tpE; rw [eF]; exact hY2) hS2 ?_
      rw [eI, eA]
      exact lv_sub hl [0, 1, 3, 4] rfl
    · refine lv_aload_n hx hb d63 rfl (lv_at hl 4 rfl) ?_
      refine va_get hx hb hts (bk_lay_W (k := 10) (by decide)) hown hK hY2.2.1 0 rfl (bk_cl 10 (by decide)) 8 (by decide) hlink (fun x hx => hx) (v := .ref (h0 + 1 + 1)) rfl d64 ?_
      refine lv_iload_n hx hb d67 rfl (lv_at hl 3 rfl) ?_
      refine lv_lload_n hx hb d68 rfl (lv_at hl 2 rfl) ?_
      refine va_last hx hb hK hY2.2.1 (bk_Y_D hY2.2.2) hS2 2 1 rfl rfl i2 d69 (fun H3 locs3 hP3 hD3 hS3 => ?_)
      refine bk_Wsz fun hub3 => ?_
      have hY3 : bk_Y D h0 (h0 + 1) (.inr (10, bk_f1_10 h0)) [bk_ze cA 0 940, .inl (cA 1, 25, .inr (.inl (vp_updL (bk_tpF n) (bk_tpI n).toNatClampNeg (bk_tpA n))))] H3 := bk_Y_of hP3 hY2.2.2 (by show H3.size ≤ h0 + 1 + 2; omega) (Nat.succ_pos _)
      refine lv_iinc (k := 3) hx hb d70 hl rfl rfl (by decide) rfl (fun ls hl => ?_)
      refine lv_lconst (v := 0) hx hb d73 (by decide) ?_
      refine lv_lstore_n hx hb d74 rfl hl (by decide) rfl (fun ls hl => ?_)
      refine lv_goto hx hb d75 (tgt := 91) rfl ?_
      refine lv_iinc (k := 3) hx hb d91 hl rfl f5 (by decide) rfl (fun ls hl => ?_)
      refine lv_goto hx hb d94 (tgt := 28) rfl ?_
      have eI : bk_tpI (n + 1) = bk_tpI n + Int32.ofInt 1 := by rw [bk_tpI, if_pos heq]
      have eA : bk_tpA (n + 1) = 0 := by rw [bk_tpA, if_pos heq]
      have eF : bk_tpF (n + 1) = vp_updL (bk_tpF n) (bk_tpI n).toNatClampNeg (bk_tpA n) := by rw [bk_tpF, if_pos heq]
      refine ih (n + 1) (by omega) H3 locs3 ls (by unfold bk_tpE; rw [eF]; exact hY3) hS3 ?_
      rw [eI, eA]
      exact lv_sub hl [0, 1, 2, 4] rfl
end TAPE
def bk_e1_10 (cA : Nat → ClassId) (_ : Nat) : List va_E := bk_tpE cA 138
theorem bk_mk_10 (l : Launch) (ba : bk_B) (b0 : Nat) (aK : Nat → Nat) (sc : Nat → Int → Int) (q5 : Nat) (D : va_G) (cA : Nat → ClassId) (h0 : Nat) : Met l yX10_init (bk_wS yX10_init cX10_init 6 none) { frames := 6, cells := 2, slots := 965, locals := 300 } (va_Pc [.ref h0] (bk_Pe ba b0 aK sc q5 D cA h0 10 3 [.null, .int 0, .int 0, .long 0, .int 0, .int 0, .int 0, .int 0, .null, .int 0, .int 0, .int 0])) (bk_Qn D h0 (h0 + 1) (.inr (10, bk_f1_10 h0)) (bk_e1_10 cA h0)) 2 965 (bk_Ya h0 (h0 + 1)) := by
  refine Met.ofW (cc := cX10_init) (maxL := 6) (ret := none) (by decide +kernel) rfl ?_
  intro p e s m args below meth c s₁ B hml hv
  obtain ⟨rfl, ⟨hsz, hP, hK, h0s⟩, hE, hbA⟩ := hv
  have hx := B.exec
  have hb := B.bytes
  have hr := B.returns
  have hts : ∀ w ∈ bk_W, w.before #[Value.ref h0] s = true := fun w hw => atoms_spec (ws := bk_wS yX10_init cX10_init 6 none) B.pre w (List.mem_cons_of_mem _ hw)
  have hown : s.vm.findClass (bk_R 10) = some m.cls := findClass_of_methodNamed B.named
  have hlocks := B.notSynchronized
  have hin : meth.name = "<init>" := (name_of_methodNamed B.named B.method).1
  have hY : bk_Y D h0 (h0 + 1) (.inr (10, [.null, .int 0, .int 0, .long 0, .int 0, .int 0, .int 0, .int 0, .null, .int 0, .int 0, .int 0])) [] s.heap := ⟨hsz, hP, h0s⟩
  have hS : va_S (bk_Ya h0 (h0 + 1)) s.heap s.heap [] := va_S.rf
  have hl := lv_entry ([.ref h0]) (n := 6) (Nat.le_of_ble_eq_true rfl)
  rw [lg_entry_eq]
  generalize (lg_sl ([.ref h0]) ++ List.replicate (6 - (lg_sl ([.ref h0])).length) Slot.unset).toArray = ls at hl ⊢
  have hl : lv_has ls 6 [(0, .ref h0)] := hl
  obtain ⟨d0, d1, d4, d5, d8, d10, d13, d14, d16, d18, d21, d22, d23, d24, d25, d26⟩ := d_mk_10
  refine lv_aload_n hx hb d0 rfl (lv_at hl 0 rfl) ?_
  refine W.objInit hx hb hown (hts _ (bk_wIn bk_mw_10_1 0 rfl)) (hts _ (bk_wIn bk_mW_1 0 rfl)) (hts _ (bk_wIn bk_mW_1 1 rfl)) rfl (by rw [hml]; exact hl.1) rfl d1 (Nat.le_of_ble_eq_true rfl) (Nat.le_of_ble_eq_true rfl) ?_
  refine W.eq (g2 := F0 m 4 ls []) rfl ?_
  refine bk_seg (k := 10) (f := 0) (n := 940) (t := 0) (n32 := 940) hx hb hts hown hK hin (by decide) hY hS hl rfl (by decide) (bk_wIn bk_mW_1 2 rfl) (by decide) (by decide) (by decide) d4 (fun st h => lv_sipush (v := 940) hx hb d5 (by decide) h) d8 d10 (by decide) (Nat.le_of_ble_eq_true rfl) (bk_wIn bk_mw_10_1 1 rfl) rfl rfl (by decide +kernel) (Nat.le_of_ble_eq_true rfl) (Nat.le_of_ble_eq_true rfl) (fun H locs hY hS => ?_)
  refine bk_seg (k := 10) (f := 8) (n := 25) (t := 1) (n32 := 25) hx hb hts hown hK hin (by decide) hY hS hl rfl (by decide) (bk_wIn bk_mW_1 3 rfl) (by decide) (by decide) (by decide) d13 (fun st h => lv_bipush (v := 25) hx hb d14 (by decide) h) d16 d18 (by decide) (Nat.le_of_ble_eq_true rfl) (bk_wIn bk_mw_10_1 2 rfl) rfl rfl (by decide +kernel) (Nat.le_of_ble_eq_true rfl) (Nat.le_of_ble_eq_true rfl) (fun H locs hY hS => ?_)
  refine lv_iconst (v := 0) hx hb d21 (by decide) ?_
  refine lv_istore_n hx hb d22 rfl hl (by decide) rfl (fun ls hl => ?_)
  refine lv_lconst (v := 0) hx hb d23 (by decide) ?_
  refine lv_lstore_n hx hb d24 rfl hl (by decide) rfl (fun ls hl => ?_)
  refine lv_iconst (v := 0) hx hb d25 (by decide) ?_
  refine lv_istore hx hb d26 hl (by decide) rfl (fun ls hl => ?_)
  obtain ⟨-, -, ⟨hR5, v5, h4⟩, -, -⟩ := id hE
  have hYA : ∀ a, bk_Ya h0 (h0 + 1) a → a < s.heap.size → bk_A ba a := fun a z w => by
    have z : a = h0 ∨ h0 + 1 ≤ a := z
    show ba.1 ≤ a ∧ a < ba.1 + ba.2.length
    omega
  have h4' : ∀ (H : Heap) (locs : List Loc), va_S (bk_Ya h0 (h0 + 1)) s.heap H locs → vk_S 1 [138] [bk_t5.map Int32.ofInt] (fun _ => q5) (fun _ => v5) (bk_A ba) s H := fun H locs hS => vk_S.kept h4 fun a a1 a2 => hS.2.1 a a1 fun z => a2 (hYA a z a1)
  refine bk_tape (ba := ba) (v5 := v5) hx hb hts hown hml hK hsz hR5 ⟨Nat.le_of_ble_eq_true rfl, Nat.le_of_ble_eq_true rfl⟩ ⟨Nat.le_of_ble_eq_true rfl, Nat.le_of_ble_eq_true rfl⟩ (fun H locs hS U hU hW => ?_) (fun H locs hS => ((h4' H locs hS).1 0 (by decide)).1) (fun H locs ls hY hS => ?_) 138 0 rfl H locs ls hY hS (lv_sub hl [0, 1, 2, 3] rfl)
  · have hE2 := (hE.kept2 hS.1 (by omega) (by omega) hS.2.1).warm hW
    obtain ⟨-, ⟨-, -, -, -, -, -, g7, g8, -, -⟩, -, -, -⟩ := hE2
    have hN : ∀ q, bk_Nn q → bk_A ba q := fun _ h => h.elim
    obtain ⟨t1, t2, t3, t4⟩ := (vk_S.moved hW.alike (h4' H locs hS)).1 0 (by decide)
    subst hU
    exact ⟨t1.narrow hN, t2.narrow hN, t3.narrow hN, t4.narrow hN, g7.narrow hN, va_Zq.narrow g8 hN⟩
  · exact W.vret hx hb hr (fun t ht hW => ⟨rfl, by rw [ht]; exact hY, hS.F ht⟩) hS.2.2 d_tpB.2.2.2.2.2.2.2.2.2.2.2.2.2.2.2.2.2.2.2.2.2.2
def bk_l10 : List (Nat × Nat) := [(10, 0), (53, 0), (54, 0)]
def bk_M10 : bk_M := fun k _ j => if k = 54 then bk_tpw j else 0
theorem bk_sl_10 (h1 : Nat) (cA : Nat → ClassId) : .inr (10, bk_f1_10 h1) :: bk_e1_10 cA h1 = bk_l10.map (bk_en (h1, bk_l10) cA bk_M10) := by
  unfold bk_e1_10 bk_tpE
  rw [← bk_tpw_f]
  rfl
theorem bk_gd_10 {sc : Nat → Int → Int} : bk_gd sc bk_tpw bk_l10 bk_M10 := by
  refine ⟨fun p hp => ?_, fun q hq w1 w2 j => if_neg w2, fun i hi j => if_pos rfl⟩
  simp [bk_l10] at hp
