/-! The law's own two methods: they call the ones that may throw, and catch. -/
section VC
variable {p : Program} {l : Launch} {e : Env} {R : Room} {s : State} {m : MethodId} {args : Array Value} {below : List Frame} {meth : Method} {c : Code} {cc : ByteArray} {own : Nat}
variable {ba : bk_B} {b0 : Nat} {aK : Nat → Nat} {cA : Nat → ClassId} {D : va_G} {sc : Nat → Int → Int} {nL mc ms : Nat} {Z : State → Prop}
theorem bk_vcall {H : Heap} {locs : List Loc} {cells slots pc : Nat} {lsr : Array Slot} {st0 rest : List Value} {rt : Option FieldType} {a : Array Value} {Q' : bk_Q}
    (hr : vx_Run p l e R s m args below meth c H locs cells slots 1 6 (F0 m pc lsr st0) rest (bk_Qc rt ba cA D sc Q' a) (bk_XC ba cA D sc Q') (bk_A ba)) (hS : va_S (bk_A ba) s.heap H locs)
    (kk : ∀ (r : Int) (M' : bk_M) (H1 : Heap) (locs1 : List Loc), Q' 0 r M' → bk_rok rt r → bk_okm ba M' → M' 13 = sc → va_P D vwCl (bk_ws ba cA M') H1 → va_S (bk_A ba) s.heap H1 locs1 →
      W p l e R s m args below meth c H1 locs1 (cells + 1) (slots + 6) Z (F0 m (pc + 3) lsr ((bk_rval rt r).toList ++ rest)))
    (kx : ∀ (M' : bk_M) (H1 : Heap) (locs1 : List Loc) (q : Addr) (ce : Cell), Q' 1 0 M' → bk_okm ba M' → M' 13 = sc → va_P D vwCl (bk_ws ba cA M') H1 → va_S (bk_A ba) s.heap H1 locs1 → H1[q]? = some ce → ce.vm = .none → s.vm.findClass bk_nse = some ce.cls →
      vx_W p l e R s m args below meth c H1 locs1 (cells + 1) (slots + 6) Z (F0 m pc lsr rest) q) : W p l e R s m args below meth c H locs cells slots Z (F0 m pc lsr st0) := by
  intro T hT X
  have key : ∀ (st₀ t T' : State) (L : List Loc), st₀.heap = H → T'.heap = t.heap → va_F (bk_A ba) st₀ t → (∀ q ∈ L, bk_A ba q.base) → va_S (bk_A ba) s.heap T'.heap (locs ++ L) := by
    intro st₀ t T' L h0 e1 hF hL
    obtain ⟨hz, hk⟩ := hF
    rw [h0] at hz hk
    exact ⟨Nat.le_trans hS.1 (by rw [e1]; exact hz), fun q h1 h2 => by rw [e1, hk q (Nat.lt_of_lt_of_le h1 hS.1) h2]; exact hS.2.1 q h1 h2, fun q hq => by
      rcases List.mem_append.mp hq with h | h
      · exact hS.2.2 q h
      · exact hL q h⟩
  rcases hr T hT X with ⟨v, st₀, t, T', L, h0, X', hL, e1, e2, ⟨r, M', q1, q2, q3, q4, q5, q6, hF⟩, stp⟩ | ⟨q, st₀, t, T', L, E, ce, h0, X', hL, e1, e2, ⟨hE, M', q1, q3, q4, q6, hF⟩, hce, hcv, hcl, stp⟩
  · cases q5
    obtain ⟨t2, a1, b1⟩ := kk r M' T'.heap (locs ++ L) q1 q2 q3 q4 (by rw [e1]; exact q6) (key _ _ _ _ h0 e1 hF hL) T' rfl X'
    exact ⟨t2, stp t2 a1, b1⟩
  · subst hE
    obtain ⟨t2, a1, b1⟩ := kx M' T'.heap (locs ++ L) q ce q1 q3 q4 (by rw [e1]; exact q6) (key _ _ _ _ h0 e1 hF hL) (by rw [e1]; exact hce) hcv hcl T' rfl X'
    exact ⟨t2, stp.trans a1, b1⟩
end VC
/-- the law's words -/
def bk_lW : List Cond := [.classLink RL 13 bk_nse, .methodLink RL 42 yL_field, .static yL_field, .initialized RL, .codeWith yL_field cL_field 5 (some .int) [(0, 10, 13, 13)], .methodLink RL 120 yL_duel, .static yL_duel, .codeWith yL_duel cL_duel 4 (some .int) [(0, 9, 12, 13)]]
theorem bk_lW_1 : bk_lW.all (fun w => bk_sub [w] tables_1 && goodWord w) = true := by decide +kernel
theorem bk_lW_in : ∀ w ∈ bk_lW, w ∈ bk_W := fun w hw => by
  have h := List.all_eq_true.mp bk_lW_1 w hw
  rw [Bool.and_eq_true] at h
  exact bk_W_of (bk_sub_mem h.1 w List.mem_cons_self) h.2
theorem bk_lwd (n : Nat) {w : Cond} (h : bk_lW[n]? = some w) : w ∈ bk_W := bk_lW_in w (List.mem_of_getElem? h)
theorem d_h_field : decode cL_field 0 = .ok (.aload_n 3, 1) ∧ decode cL_field 1 = .ok (.iconst 0, 1) ∧ decode cL_field 2 = .ok (.aload_n 0, 1) ∧ decode cL_field 3 = .ok (.iload_n 1, 1) ∧ decode cL_field 4 = .ok (.iload_n 2, 1) ∧ decode cL_field 5 = .ok (.invokevirtual 7, 3) ∧ decode cL_field 13 = .ok (.astore 4, 2) ∧ decode cL_field 15 = .ok (.iconst 1, 1) ∧ decode cL_field 16 = .ok (.ireturn, 1) := by decide +kernel
theorem ck_h_field : bk_chk 13 (some .int) 5 cL_field 8 [.i2l, .lastore, .goto 17] = true ∧ bk_chk 13 (some .int) 5 cL_field 17 [.sipush 0, .ireturn] = true := by decide +kernel
theorem bk_h_field {l : Launch} (hl : l.stackTraces = false) (ba : bk_B) (b0 : Nat) (aK : Nat → Nat) (cA : Nat → ClassId) (D : va_G) (sc : Nat → Int → Int) {d : Nat} {x y : Int} {M : bk_M} {Q : Int → bk_M → Prop} (hX : (11, 0) ∈ ba.2) (hO : (86, 0) ∈ ba.2) (hr32 : ∀ z ∈ [x, y], bk_r32 z)
    (h : bk_C (d + 1) 1 141 [bk_c 11 0, bk_i x, bk_i y] M (fun t r M' => (t = 0 → ∀ M2, M2 = bk_up M' 86 0 0 r → Q 0 M2) ∧ (t = 1 → Q 1 M'))) :
    Met l yL_field (Cond.codeWith yL_field cL_field 5 (some .int) [(0, 10, 13, 13)] :: bk_W) (bk_rm (d + 2) 1) (bk_Pc ba b0 aK cA D sc [bk_c 11 0, bk_i x, bk_i y, bk_c 86 0] M) (bk_Qc (some .int) ba cA D sc (fun t r M' => t = 0 ∧ Q r M')) 1 6 (bk_A ba) := by
  refine va_MetW (cc := cL_field) (maxL := 5) (ret := some .int) (by decide +kernel) rfl ?_
  intro p e s m args below meth c s₁ B hml hv
  obtain ⟨rfl, hPic⟩ := hv
  have hPic0 := hPic
  obtain ⟨h1, h2, h3, h4, h5, h6⟩ := hPic0
  have hts0 := atoms_spec (ws := (Cond.codeWith yL_field cL_field 5 (some .int) [(0, 10, 13, 13)] :: bk_W)) B.pre
  have hts : ∀ w ∈ bk_W, w.before _ s = true := fun w hw => hts0 w (List.mem_cons_of_mem _ hw)
  have hown : s.vm.findClass (bk_R 13) = some m.cls := findClass_of_methodNamed B.named
  have htab : c.exceptionTable.toList = tableOf [(0, 10, 13, 13)] := vx_table (x := yL_field) B (hts0 _ List.mem_cons_self)
  have C0 : bk_Cx p (headSpec (Cond.codeWith yL_field cL_field 5 (some .int) [(0, 10, 13, 13)] :: bk_W) (bk_rm (d + 2) 1)).room s m ([bk_c 11 0, bk_i x, bk_i y, bk_c 86 0].map (bk_rv ba b0 aK)).toArray c cL_field 13 5 ba b0 aK cA D sc := ⟨B.exec, B.bytes, hml, hown, hts, h2, h5, by show 1 ≤ d + 2 + 10; omega, by show 100 ≤ 100 * (d + 2 + 10); omega, h6⟩
  have hlocks := B.notSynchronized
  have hx := B.exec
  have hb := B.bytes
  refine bk_start (mc := 1) (ms := 6) (b := 1) (Nat.le_of_ble_eq_true rfl) ?_ hPic ⟨Nat.le_refl _, Nat.le_refl _⟩ ?_
  · intro v hv
    simp only [List.mem_cons, List.not_mem_nil, or_false] at hv
    rcases hv with rfl | rfl | rfl | rfl
    · exact Or.inr (Or.inr hX)
    · exact hr32 _ (by simp)
    · exact hr32 _ (by simp)
    · exact Or.inr (Or.inr hO)
  have hZ : bk_Zs p l e (headSpec (Cond.codeWith yL_field cL_field 5 (some .int) [(0, 10, 13, 13)] :: bk_W) (bk_rm (d + 2) 1)).room s m ([bk_c 11 0, bk_i x, bk_i y, bk_c 86 0].map (bk_rv ba b0 aK)).toArray below meth c cL_field (some .int) ba cA D sc 5 1 6 (fun t r M' => t = 0 ∧ Q r M') (MQ below (bk_Qc (some .int) ba cA D sc (fun t r M' => t = 0 ∧ Q r M')) ([bk_c 11 0, bk_i x, bk_i y, bk_c 86 0].map (bk_rv ba b0 aK)).toArray s 1 6 (bk_A ba)) := by
    intro r M' hM' h13' H locs cells slots pc lsr hP hS hc hsl
    refine ⟨fun hrk hQ => ⟨fun _ hd => W.widen (k := 1) (n := 6) hc hsl (W.iret hx hb (B.returns.trans rfl) (fun t ht _ => ⟨r, M', hQ, hrk, hM', h13', rfl, by rw [ht]; exact hP, hS.F ht⟩) hS.2.2 hd), (fun z => nomatch z), (fun z => nomatch z), (fun z => nomatch z)⟩, fun hQ => absurd hQ.1 (by decide)⟩
  obtain ⟨d0, d1, d2, d3, d4, d5, d13, d15, d16⟩ := d_h_field
  intro hs hlv hn hM h13 H locs cells slots lsr hP hS hc hsl hL
  obtain rfl : cells = 0 := by omega
  obtain rfl : slots = 0 := by omega
  have hX13 : (11 : Nat) < 13 := by decide
  have a11 : bk_ad ba b0 aK 11 0 = ba.1 + bk_off ba 11 0 := bk_ad_lay h6.2 hX
  refine lv_aload_n hx hb d0 rfl (bk_at hL (n := 3) (v := bk_c 86 0) rfl (by simp [bk_x])) ?_
  refine lv_iconst (v := 0) hx hb d1 (by decide) ?_
  refine lv_aload_n hx hb d2 rfl (bk_at hL (n := 0) (v := bk_c 11 0) rfl (by simp [bk_x])) ?_
  refine lv_iload_n hx hb d3 rfl (bk_at hL (n := 1) (v := bk_i x) rfl (by simp [bk_x])) ?_
  refine lv_iload_n hx hb d4 rfl (bk_at hL (n := 2) (v := bk_i y) rfl (by simp [bk_x])) ?_
  have eW := bk_ws_at (ba := ba) (cA := cA) (M := M) hX
  rw [bk_en_o hX13] at eW
  have hrecv := va_recv h2 hP (bk_cl 11 hX13) eW
  have hPicU : ∀ U : State, U.heap = H → s.WarmedH U.vm → bk_Pic ba b0 aK cA D sc M U := by
    intro U hU hW
    refine ⟨by rw [hU]; exact hP, va_K.moved hW.alike h2, hM, h13, ?_, ?_⟩
    · rw [hU]; exact bk_St.warm hW (bk_St.kept h5 hS.1 hS.2.1)
    · exact ⟨by have := h6.1; have := hS.1; rw [hU]; omega, h6.2⟩
  have hT := bk_thr hl ba b0 aK cA D sc (μ := 141) (by decide) rfl h (Nat.le_of_ble_eq_true rfl) (fun v hv => by
    simp only [List.mem_cons, List.not_mem_nil, or_false] at hv
    rcases hv with rfl | rfl | rfl
    · exact Or.inr (Or.inr hX)
    · exact hr32 _ (by simp)
    · exact hr32 _ (by simp)
    )
  have hgv : GoodIn bk_W (wsV RL 7 (bk_R 11) (bk_m 141).1 (bk_wsm 141)) := bk_gV (bk_lw_W (x := (13, 7, 141)) (List.elem_iff.mp (by decide +kernel))) (bk_i_W (List.elem_iff.mp (by decide +kernel))) (bk_s_W (μ := 141) (Or.inl (List.elem_iff.mp (by decide +kernel)))) (bk_ini_W (c := 11) (List.elem_iff.mp (by decide +kernel))) (bk_wsm_in (by decide))
  show W p l e _ s m _ below meth c H locs 0 0 _ (F0 m 5 lsr ([.int (Int32.ofInt x), .int (Int32.ofInt y)].reverse ++ .ref (bk_ad ba b0 aK 11 0) :: [.int 0, .ref (bk_ad ba b0 aK 86 0)]))
  rw [a11]
  refine bk_vcall (vx_runV (C := bk_R 11) (b := ba.1 + bk_off ba 11 0) (As := [.int (Int32.ofInt x), .int (Int32.ofInt y)]) (rest := [.int 0, .ref (bk_ad ba b0 aK 86 0)]) (Ts := bk_W) (own := RL) (nL := 5) ⟨hx, hb, hml, hown, hts⟩ hT (cwV 2 hts hgv rfl rfl rfl (by decide +kernel) ⟨by show d + 1 + 10 + 1 ≤ d + 2 + 10; omega, by show 8 + ((bk_m 141).2.2.1 + 11) + 100 * (d + 1 + 10) ≤ 100 * (d + 2 + 10); rw [show (bk_m 141).2.2.1 = 4 from rfl]; omega⟩)
    ⟨bk_Pc_blind, hrecv, fun U hU hW => ⟨by rw [← a11]; rfl, hPicU U hU hW⟩⟩ rfl rfl hL.1 rfl (lv_room (Nat.le_of_ble_eq_true rfl)) d5 ⟨Nat.le_refl _, Nat.le_refl _⟩) hS (fun r M' H1 locs1 hQ hrk hM' h13' hP1 hS1 => ?_) (fun M' H1 locs1 q ce hQ hM' h13' hP1 hS1 hce hcv hcl => ?_)
  · have k2 : ∀ M2 : bk_M, Q 0 M2 → bk_X p l e _ s m _ below meth c ba b0 aK cA D sc 5 1 6 _ 0 17 (bk_args 5 [bk_c 11 0, bk_i x, bk_i y, bk_c 86 0]) [] M2 := fun M2 hq => bk_all (bk_sound l ba b0 aK cA D sc 0) (bk_tx_all l ba b0 aK cA D sc) C0 hZ ⟨by show 0 + 11 ≤ d + 2 + 10; omega, by show 100 * (0 + 11) ≤ 100 * (d + 2 + 10); omega⟩ ⟨Nat.le_refl _, Nat.le_refl _⟩ _ _ ck_h_field.2 _ _ _ _ ⟨rfl, hq⟩
    have k1 : bk_X p l e _ s m _ below meth c ba b0 aK cA D sc 5 1 6 _ 0 8 (bk_args 5 [bk_c 11 0, bk_i x, bk_i y, bk_c 86 0]) [bk_i r, bk_i 0, bk_c 86 0] M' := bk_all (bk_sound l ba b0 aK cA D sc 0) (bk_tx_all l ba b0 aK cA D sc) C0 hZ ⟨by show 0 + 11 ≤ d + 2 + 10; omega, by show 100 * (0 + 11) ≤ 100 * (d + 2 + 10); omega⟩ ⟨Nat.le_refl _, Nat.le_refl _⟩ _ _ ck_h_field.1 _ _ _ _ ⟨⟨by decide, by decide⟩, fun M2 hM2 => k2 M2 (hQ.1 rfl M2 hM2)⟩
    exact k1 (fun v hv => by
      simp only [List.mem_cons, List.not_mem_nil, or_false] at hv
      rcases hv with rfl | rfl | rfl
      · exact hrk
      · exact ⟨by decide, by decide⟩
      · exact Or.inr (Or.inr hO)) hlv hn hM' h13' H1 locs1 1 6 lsr hP1 hS1 (Nat.le_refl _) (Nat.le_refl _) hL
  · refine vx_catch hown [] ⟨0, 10, 13, 13⟩ [] htab (fun z hz => nomatch hz) (by decide) (by decide) (hts _ (bk_lwd 0 rfl)) (va_Nw.use rfl h5.2.2.2.2.2.2.2.2.2) hce hcv hcl ?_
    refine lv_astore (lv' := _) hx hb d13 hL (by decide) rfl (fun ls hl => ?_)
    refine lv_iconst (v := 1) hx hb d15 (by decide) ?_
    exact W.iret hx hb (B.returns.trans rfl) (fun t ht _ => ⟨1, M', ⟨rfl, hQ.2 rfl⟩, ⟨by decide, by decide⟩, hM', h13', rfl, by rw [ht]; exact hP1, hS1.F ht⟩) hS1.2.2 d16
theorem d_h_duel : decode cL_duel 0 = .ok (.aload_n 2, 1) ∧ decode cL_duel 1 = .ok (.iconst 0, 1) ∧ decode cL_duel 2 = .ok (.aload_n 0, 1) ∧ decode cL_duel 3 = .ok (.iload_n 1, 1) ∧ decode cL_duel 4 = .ok (.invokevirtual 15, 3) ∧ decode cL_duel 12 = .ok (.astore_n 3, 1) ∧ decode cL_duel 13 = .ok (.iconst 1, 1) ∧ decode cL_duel 14 = .ok (.ireturn, 1) := by decide +kernel
theorem ck_h_duel : bk_chk 13 (some .int) 4 cL_duel 7 [.i2l, .lastore, .goto 15] = true ∧ bk_chk 13 (some .int) 4 cL_duel 15 [.sipush 0, .ireturn] = true := by decide +kernel
theorem bk_h_duel {l : Launch} (hl : l.stackTraces = false) (ba : bk_B) (b0 : Nat) (aK : Nat → Nat) (cA : Nat → ClassId) (D : va_G) (sc : Nat → Int → Int) {d : Nat} {x : Int} {M : bk_M} {Q : Int → bk_M → Prop} (hX : (11, 0) ∈ ba.2) (hO : (86, 0) ∈ ba.2) (hr32 : ∀ z ∈ [x], bk_r32 z)
    (h : bk_C (d + 1) 1 142 [bk_c 11 0, bk_i x] M (fun t r M' => (t = 0 → ∀ M2, M2 = bk_up M' 86 0 0 r → Q 0 M2) ∧ (t = 1 → Q 1 M'))) :
    Met l yL_duel (Cond.codeWith yL_duel cL_duel 4 (some .int) [(0, 9, 12, 13)] :: bk_W) (bk_rm (d + 2) 1) (bk_Pc ba b0 aK cA D sc [bk_c 11 0, bk_i x, bk_c 86 0] M) (bk_Qc (some .int) ba cA D sc (fun t r M' => t = 0 ∧ Q r M')) 1 6 (bk_A ba) := by
  refine va_MetW (cc := cL_duel) (maxL := 4) (ret := some .int) (by decide +kernel) rfl ?_
  intro p e s m args below meth c s₁ B hml hv
  obtain ⟨rfl, hPic⟩ := hv
  have hPic0 := hPic
  obtain ⟨h1, h2, h3, h4, h5, h6⟩ := hPic0
  have hts0 := atoms_spec (ws := (Cond.codeWith yL_duel cL_duel 4 (some .int) [(0, 9, 12, 13)] :: bk_W)) B.pre
  have hts : ∀ w ∈ bk_W, w.before _ s = true := fun w hw => hts0 w (List.mem_cons_of_mem _ hw)
  have hown : s.vm.findClass (bk_R 13) = some m.cls := findClass_of_methodNamed B.named
  have htab : c.exceptionTable.toList = tableOf [(0, 9, 12, 13)] := vx_table (x := yL_field) B (hts0 _ List.mem_cons_self)
  have C0 : bk_Cx p (headSpec (Cond.codeWith yL_duel cL_duel 4 (some .int) [(0, 9, 12, 13)] :: bk_W) (bk_rm (d + 2) 1)).room s m ([bk_c 11 0, bk_i x, bk_c 86 0].map (bk_rv ba b0 aK)).toArray c cL_duel 13 4 ba b0 aK cA D sc := ⟨B.exec, B.bytes, hml, hown, hts, h2, h5, by show 1 ≤ d + 2 + 10; omega, by show 100 ≤ 100 * (d + 2 + 10); omega, h6⟩
  have hlocks := B.notSynchronized
  have hx := B.exec
  have hb := B.bytes
  refine bk_start (mc := 1) (ms := 6) (b := 1) (Nat.le_of_ble_eq_true rfl) ?_ hPic ⟨Nat.le_refl _, Nat.le_refl _⟩ ?_
  · intro v hv
    simp only [List.mem_cons, List.not_mem_nil, or_false] at hv
    rcases hv with rfl | rfl | rfl
    · exact Or.inr (Or.inr hX)
    · exact hr32 _ (by simp)
    · exact Or.inr (Or.inr hO)
  have hZ : bk_Zs p l e (headSpec (Cond.codeWith yL_duel cL_duel 4 (some .int) [(0, 9, 12, 13)] :: bk_W) (bk_rm (d + 2) 1)).room s m ([bk_c 11 0, bk_i x, bk_c 86 0].map (bk_rv ba b0 aK)).toArray below meth c cL_duel (some .int) ba cA D sc 4 1 6 (fun t r M' => t = 0 ∧ Q r M') (MQ below (bk_Qc (some .int) ba cA D sc (fun t r M' => t = 0 ∧ Q r M')) ([bk_c 11 0, bk_i x, bk_c 86 0].map (bk_rv ba b0 aK)).toArray s 1 6 (bk_A ba)) := by
    intro r M' hM' h13' H locs cells slots pc lsr hP hS hc hsl
    refine ⟨fun hrk hQ => ⟨fun _ hd => W.widen (k := 1) (n := 6) hc hsl (W.iret hx hb (B.returns.trans rfl) (fun t ht _ => ⟨r, M', hQ, hrk, hM', h13', rfl, by rw [ht]; exact hP, hS.F ht⟩) hS.2.2 hd), (fun z => nomatch z), (fun z => nomatch z), (fun z => nomatch z)⟩, fun hQ => absurd hQ.1 (by decide)⟩
  obtain ⟨d0, d1, d2, d3, d4, d12, d13, d14⟩ := d_h_duel
  intro hs hlv hn hM h13 H locs cells slots lsr hP hS hc hsl hL
  obtain rfl : cells = 0 := by omega
  obtain rfl : slots = 0 := by omega
  have hX13 : (11 : Nat) < 13 := by decide
  have a11 : bk_ad ba b0 aK 11 0 = ba.1 + bk_off ba 11 0 := bk_ad_lay h6.2 hX
  refine lv_aload_n hx hb d0 rfl (bk_at hL (n := 2) (v := bk_c 86 0) rfl (by simp [bk_x])) ?_
  refine lv_iconst (v := 0) hx hb d1 (by decide) ?_
  refine lv_aload_n hx hb d2 rfl (bk_at hL (n := 0) (v := bk_c 11 0) rfl (by simp [bk_x])) ?_
  refine lv_iload_n hx hb d3 rfl (bk_at hL (n := 1) (v := bk_i x) rfl (by simp [bk_x])) ?_
  have eW := bk_ws_at (ba := ba) (cA := cA) (M := M) hX
  rw [bk_en_o hX13] at eW
  have hrecv := va_recv h2 hP (bk_cl 11 hX13) eW
  have hPicU : ∀ U : State, U.heap = H → s.WarmedH U.vm → bk_Pic ba b0 aK cA D sc M U := by
    intro U hU hW
    refine ⟨by rw [hU]; exact hP, va_K.moved hW.alike h2, hM, h13, ?_, ?_⟩
    · rw [hU]; exact bk_St.warm hW (bk_St.kept h5 hS.1 hS.2.1)
    · exact ⟨by have := h6.1; have := hS.1; rw [hU]; omega, h6.2⟩
  have hT := bk_thr hl ba b0 aK cA D sc (μ := 142) (by decide) rfl h (Nat.le_of_ble_eq_true rfl) (fun v hv => by
    simp only [List.mem_cons, List.not_mem_nil, or_false] at hv
    rcases hv with rfl | rfl
    · exact Or.inr (Or.inr hX)
    · exact hr32 _ (by simp)
    )
  have hgv : GoodIn bk_W (wsV RL 15 (bk_R 11) (bk_m 142).1 (bk_wsm 142)) := bk_gV (bk_lw_W (x := (13, 15, 142)) (List.elem_iff.mp (by decide +kernel))) (bk_i_W (List.elem_iff.mp (by decide +kernel))) (bk_s_W (μ := 142) (Or.inl (List.elem_iff.mp (by decide +kernel)))) (bk_ini_W (c := 11) (List.elem_iff.mp (by decide +kernel))) (bk_wsm_in (by decide))
  show W p l e _ s m _ below meth c H locs 0 0 _ (F0 m 4 lsr ([.int (Int32.ofInt x)].reverse ++ .ref (bk_ad ba b0 aK 11 0) :: [.int 0, .ref (bk_ad ba b0 aK 86 0)]))
  rw [a11]
  refine bk_vcall (vx_runV (C := bk_R 11) (b := ba.1 + bk_off ba 11 0) (As := [.int (Int32.ofInt x)]) (rest := [.int 0, .ref (bk_ad ba b0 aK 86 0)]) (Ts := bk_W) (own := RL) (nL := 4) ⟨hx, hb, hml, hown, hts⟩ hT (cwV 1 hts hgv rfl rfl rfl (by decide +kernel) ⟨by show d + 1 + 10 + 1 ≤ d + 2 + 10; omega, by show 8 + ((bk_m 142).2.2.1 + 11) + 100 * (d + 1 + 10) ≤ 100 * (d + 2 + 10); rw [show (bk_m 142).2.2.1 = 2 from rfl]; omega⟩)
    ⟨bk_Pc_blind, hrecv, fun U hU hW => ⟨by rw [← a11]; rfl, hPicU U hU hW⟩⟩ rfl rfl hL.1 rfl (lv_room (Nat.le_of_ble_eq_true rfl)) d4 ⟨Nat.le_refl _, Nat.le_refl _⟩) hS (fun r M' H1 locs1 hQ hrk hM' h13' hP1 hS1 => ?_) (fun M' H1 locs1 q ce hQ hM' h13' hP1 hS1 hce hcv hcl => ?_)
  · have k2 : ∀ M2 : bk_M, Q 0 M2 → bk_X p l e _ s m _ below meth c ba b0 aK cA D sc 4 1 6 _ 0 15 (bk_args 4 [bk_c 11 0, bk_i x, bk_c 86 0]) [] M2 := fun M2 hq => bk_all (bk_sound l ba b0 aK cA D sc 0) (bk_tx_all l ba b0 aK cA D sc) C0 hZ ⟨by show 0 + 11 ≤ d + 2 + 10; omega, by show 100 * (0 + 11) ≤ 100 * (d + 2 + 10); omega⟩ ⟨Nat.le_refl _, Nat.le_refl _⟩ _ _ ck_h_duel.2 _ _ _ _ ⟨rfl, hq⟩
    have k1 : bk_X p l e _ s m _ below meth c ba b0 aK cA D sc 4 1 6 _ 0 7 (bk_args 4 [bk_c 11 0, bk_i x, bk_c 86 0]) [bk_i r, bk_i 0, bk_c 86 0] M' := bk_all (bk_sound l ba b0 aK cA D sc 0) (bk_tx_all l ba b0 aK cA D sc) C0 hZ ⟨by show 0 + 11 ≤ d + 2 + 10; omega, by show 100 * (0 + 11) ≤ 100 * (d + 2 + 10); omega⟩ ⟨Nat.le_refl _, Nat.le_refl _⟩ _ _ ck_h_duel.1 _ _ _ _ ⟨⟨by decide, by decide⟩, fun M2 hM2 => k2 M2 (hQ.1 rfl M2 hM2)⟩
    exact k1 (fun v hv => by
      simp only [List.mem_cons, List.not_mem_nil, or_false] at hv
      rcases hv with rfl | rfl | rfl
      · exact hrk
      · exact ⟨by decide, by decide⟩
      · exact Or.inr (Or.inr hO)) hlv hn hM' h13' H1 locs1 1 6 lsr hP1 hS1 (Nat.le_refl _) (Nat.le_refl _) hL
  · refine vx_catch hown [] ⟨0, 9, 12, 13⟩ [] htab (fun z hz => nomatch hz) (by decide) (by decide) (hts _ (bk_lwd 0 rfl)) (va_Nw.use rfl h5.2.2.2.2.2.2.2.2.2) hce hcv hcl ?_
    refine lv_astore_n (lv' := _) hx hb d12 rfl hL (by decide) rfl (fun ls hl => ?_)
    refine lv_iconst (v := 1) hx hb d13 (by decide) ?_
    exact W.iret hx hb (B.returns.trans rfl) (fun t ht _ => ⟨1, M', ⟨rfl, hQ.2 rfl⟩, ⟨by decide, by decide⟩, hM', h13', rfl, by rw [ht]; exact hP1, hS1.F ht⟩) hS1.2.2 d14
