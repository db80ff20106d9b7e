/-! The law, on the machine: a case of its switch. -/
def bkQh (k : Nat) (as : List bk_V) (r : Int) (M : bk_M) : Prop :=
  (r = 0 ∧ bk_C 60 0 k (bk_c 12 0 :: as) M (fun t2 r2 M3 => t2 = 0 ∧ M3 12 0 0 = 0 ∧ M3 86 0 0 = r2 ∧ bkInv M3)) ∨ (r = 1 ∧ bk_C 60 0 k (bk_c 12 0 :: as) M (fun t2 _ M3 => t2 = 0 ∧ M3 12 0 0 = 1 ∧ bkInv M3))
theorem bk_r_ist {C : bk_Ca} {T : bk_T} {Q : bk_Q} {is : List Instr} {b n : Nat} {x : Int} {ls st : List bk_V} {M : bk_M} (h : bk_run C T Q is b (bk_set n (.inl x) ls) st M) : bk_run C T Q (.istore n :: is) b ls (.inl x :: st) M := h
theorem bk_r_ald {C : bk_Ca} {T : bk_T} {Q : bk_Q} {is : List Instr} {b n k j : Nat} {ls st : List bk_V} {M : bk_M} (hn : bk_nth n ls = some (bk_c k j)) (hk : Nat.beq k 15 = false) (h : bk_run C T Q is b ls (bk_c k j :: st) M) : bk_run C T Q (.aload n :: is) b ls st M := by
  show (match bk_nth n ls with
    | some (.inr (.inr (k, i))) => bif Nat.beq k 15 then False else bk_run C T Q is b ls (.inr (.inr (k, i)) :: st) M
    | _ => False)
  rw [hn]
  show (bif Nat.beq k 15 then False else bk_run C T Q is b ls (bk_c k j :: st) M)
  rw [hk]
  exact h
section LAW
variable {p : Program} {l : Launch} {e : Env} {R : Room} {s : State} {m : MethodId} {args : Array Value} {below : List Frame} {meth : Method} {c : Code} {cc : ByteArray} {own : Nat}
variable {ba : bk_B} {b0 : Nat} {aK : Nat → Nat} {cA : Nat → ClassId} {D : va_G} {sc : Nat → Int → Int} {nL mc ms : Nat} {Z : State → Prop}
theorem bk_X_sc {b pc : Nat} {ls st : List bk_V} {M : bk_M} (h : M 13 = sc → bk_X p l e R s m args below meth c ba b0 aK cA D sc nL mc ms Z b pc ls st M) : bk_X p l e R s m args below meth c ba b0 aK cA D sc nL mc ms Z b pc ls st M := fun hs hl hn hM h13 => h h13 hs hl hn hM h13
/-- behind a call that may have made an exception -/
theorem bk_call1 {H : Heap} {locs : List Loc} {cells slots pc : Nat} {lsr : Array Slot} {st0 rest : List Value} {rt : Option FieldType} {a : Array Value} {Q' : bk_Q}
    (hr : va_Run p l e R s m args below meth c H locs cells slots 1 6 (F0 m pc lsr st0) rest (bk_Qc rt ba cA D sc Q' a) (bk_A ba)) (hS : va_S (bk_A ba) s.heap H locs)
    (kk : ∀ (r : Int) (M' : bk_M) (H1 : Heap) (locs1 : List Loc), Q' 0 r M' → bk_rok rt r → bk_okm ba M' → M' 13 = sc → va_P D vwCl (bk_ws ba cA M') H1 → va_S (bk_A ba) s.heap H1 locs1 →
      W p l e R s m args below meth c H1 locs1 (cells + 1) (slots + 6) Z (F0 m (pc + 3) lsr ((bk_rval rt r).toList ++ rest))) : W p l e R s m args below meth c H locs cells slots Z (F0 m pc lsr st0) := by
  intro T hT X
  obtain ⟨v, st₀, t, T', L, h0, X', hL, e1, e2, ⟨r, M', q1, q2, q3, q4, q5, q6, hz, hk⟩, stp⟩ := hr T hT X
  cases q5
  rw [h0] at hz hk
  obtain ⟨t2, a1, b1⟩ := kk r M' T'.heap (locs ++ L) q1 q2 q3 q4 (by rw [e1]; exact q6)
    ⟨Nat.le_trans hS.1 (by rw [e1]; exact hz), fun q h1 h2 => by rw [e1, hk q (Nat.lt_of_lt_of_le h1 hS.1) h2]; exact hS.2.1 q h1 h2, fun q hq => by
      rcases List.mem_append.mp hq with h | h
      · exact hS.2.2 q h
      · exact hL q h⟩ T' rfl X'
  exact ⟨t2, stp t2 a1, b1⟩
/-- the law calls one of its own two methods -/
theorem bk_s_help (C0 : bk_Cx p R s m args c cc own nL ba b0 aK cA D sc) (hRd : 80 ≤ R.frames ∧ 8000 ≤ R.locals) (hmc : mc ≤ R.cells ∧ ms ≤ R.slots) {y : MethodName} {cc2 : ByteArray} {maxL idx pc b : Nat} {hh : List (Nat × Nat × Nat × Nat)} {as ls : List bk_V} {M : bk_M} {Q' : bk_Q}
    (hM : Met l y (Cond.codeWith y cc2 maxL (some .int) hh :: bk_W) (bk_rm 61 1) (bk_Pc ba b0 aK cA D sc as M) (bk_Qc (some .int) ba cA D sc Q') 1 6 (bk_A ba))
    (w1 : Cond.methodLink (bk_R own) idx y ∈ bk_W) (w2 : Cond.static y ∈ bk_W) (w3 : Cond.initialized y.cls ∈ bk_W) (w4 : Cond.codeWith y cc2 maxL (some .int) hh ∈ bk_W)
    (hd9 : y.cls ≠ "java/lang/invoke/MethodHandle" ∧ y.cls ≠ "java/lang/invoke/VarHandle" ∧ (parseMethodDescriptor y.desc).map (fun d => d.parameters.length) = some as.length) (hm9 : maxL ≤ 50)
    (hd : decode cc pc = .ok (.invokestatic idx, 3)) (kk : ∀ r M', Q' 0 r M' → bk_X p l e R s m args below meth c ba b0 aK cA D sc nL mc ms Z b (pc + 3) ls [bk_i r] M') :
    bk_X p l e R s m args below meth c ba b0 aK cA D sc nL mc ms Z (b + 1) pc ls as.reverse M := by
  obtain ⟨hx, hb, hml, hown, hts, hK, hSt, hR⟩ := C0
  intro hs hl hn hM' h13 H locs cells slots lsr hP hS hc hsl hL
  have hPic : ∀ U : State, U.heap = H → s.WarmedH U.vm → bk_Pic ba b0 aK cA D sc M U := by
    intro U hU hW
    refine ⟨by rw [hU]; exact hP, va_K.moved hW.alike hK, hM', h13, ?_, ?_⟩
    · rw [hU]; exact bk_St.warm hW (bk_St.kept hSt hS.1 hS.2.1)
    · exact ⟨by have := hR.2.2.1; have := hS.1; rw [hU]; omega, hR.2.2.2⟩
  rw [List.map_reverse]
  refine bk_call1 (vx_runSW (As := as.map (bk_rv ba b0 aK)) (rest := []) ⟨hx, hb, hml, hown, hts⟩ hM (vx_cwSW as.length hts (bk_gS w1 w2 w3 (fun w hw => (List.mem_cons.mp hw).elim (fun z => z ▸ w4) id)) rfl rfl rfl hd9 ⟨by show 61 + 10 + 1 ≤ R.frames; omega, by show 8 + (maxL + 11) + 100 * (61 + 10) ≤ R.locals; omega⟩)
    ⟨bk_Pc_blind, fun U hU hW => ⟨rfl, hPic U hU hW⟩⟩ rfl (List.length_map ..) hL.1 (by rw [List.append_nil]) (lv_room (Nat.le_of_ble_eq_true rfl)) hd ⟨by omega, by omega⟩) hS (fun r M1 H1 locs1 q1 q2 q3 q4 q5 q6 => ?_)
  exact kk r M1 q1 (fun v hv => by
    rw [List.mem_singleton] at hv
    rw [hv]; exact q2) hl hn q3 q4 H1 locs1 (cells + 1) (slots + 6) lsr q5 q6 (by omega) (by omega) hL
variable {b : Nat} {i : Int} {u v : bk_V} {M : bk_M}
/-- a case that can't throw -/
theorem bk_case (C0 : bk_Cx p R s m args c code 13 7 ba b0 aK cA D sc) (hZ : bk_Zs p l e R s m args below meth c code (some .boolean) ba cA D sc 7 mc ms (fun t r _ => t = 0 ∧ r = 1) Z) (hRd : 80 ≤ R.frames ∧ 8000 ≤ R.locals) (hmc : mc ≤ R.cells ∧ ms ≤ R.slots)
    {k1 k2 pA pB e1 e2 : Nat} {js : List Int}
    (ckA : bk_chk 13 (some .boolean) 7 code pA (.aload 1 :: bkArgs js [.invokestatic e1, .goto (pB : Int)]) = true) (ckB : bk_chk 13 (some .boolean) 7 code pB (.aload 2 :: bkArgs js [.invokestatic e2, .if_icmp .eq 1588, .sipush 0, .freturn]) = true)
    (hE1 : bkEn2 e1 k1 11 js.length) (hE2 : bkEn2 e2 k2 12 js.length) (hj : ∀ j ∈ js, 1 ≤ j ∧ j ≤ 5)
    (h0 : 0 ≤ i) (h1 : i + 6 ≤ sc 1 0) (h2 : sc 1 0 ≤ 2147483647) (hI : bkInv M)
    (kk : ∀ M2, bkInv M2 → bk_X p l e R s m args below meth c ba b0 aK cA D sc 7 mc ms Z b 1588 (bkLs i u v) [] M2) (hT : bkStp k1 k2 (bkVals (sc 0) i js)) : bk_X p l e R s m args below meth c ba b0 aK cA D sc 7 mc ms Z b pA (bkLs i u v) [] M := by
  have hRd' : 60 + 11 ≤ R.frames ∧ 100 * (60 + 11) ≤ R.locals := by omega
  refine bk_X_sc fun h13 => ?_
  refine bk_all (bk_sound l ba b0 aK cA D sc 60) (bk_tx_all l ba b0 aK cA D sc) C0 hZ hRd' hmc _ _ ckA _ _ _ _ ?_
  show bk_run _ _ _ (bkArgs js [.invokestatic e1, .goto (pB : Int)]) b (bkLs i u v) [bk_c 11 0] M
  refine bk_args_r h0 (by rw [h13]; exact h1) (by rw [h13]; exact h2) js _ hj ?_
  refine bk_callr (rest := []) hE1 (by decide) ?_
  rw [h13]
  refine bk_use (hT 0 M hI) (fun r M1 hM1 => ⟨rfl, ?_⟩)
  show bk_X p l e R s m args below meth c ba b0 aK cA D sc 7 mc ms Z b pB (bkLs i u v) [bk_i r] M1
  refine bk_X_sc fun h13' => ?_
  refine bk_all (bk_sound l ba b0 aK cA D sc 60) (bk_tx_all l ba b0 aK cA D sc) C0 hZ hRd' hmc _ _ ckB _ _ _ _ ?_
  show bk_run _ _ _ (bkArgs js [.invokestatic e2, .if_icmp .eq 1588, .sipush 0, .freturn]) b (bkLs i u v) [bk_c 12 0, bk_i r] M1
  refine bk_args_r h0 (by rw [h13']; exact h1) (by rw [h13']; exact h2) js _ hj ?_
  refine bk_callr (rest := [bk_i r]) hE2 (Nat.le_of_ble_eq_true rfl) ?_
  rw [h13']
  exact bk_use hM1 (fun r2 M2 hM2 => ⟨rfl, fun _ => kk M2 hM2.2, fun z => absurd hM2.1 z⟩)
/-- a case that may throw -/
theorem bk_caseT (C0 : bk_Cx p R s m args c code 13 7 ba b0 aK cA D sc) (hZ : bk_Zs p l e R s m args below meth c code (some .boolean) ba cA D sc 7 mc ms (fun t r _ => t = 0 ∧ r = 1) Z) (hRd : 80 ≤ R.frames ∧ 8000 ≤ R.locals) (hmc : mc ≤ R.cells ∧ ms ≤ R.slots)
    {k2 pA pH pC pE pF e2 : Nat} {js : List Int} {y : MethodName} {cc2 : ByteArray} {maxL idx : Nat} {hh : List (Nat × Nat × Nat × Nat)}
    (ckA : bk_chk 13 (some .boolean) 7 code pA (.aload 1 :: bkArgs js [.aload 3, .goto (pH : Int)]) = true) (ckB : bk_chk 13 (some .boolean) 7 code (pH + 3) (.istore 5 :: .aload 2 :: bkArgs js [.invokestatic e2, .goto (pC : Int)]) = true)
    (ckC : bk_chk 13 (some .boolean) 7 code pC [.istore 6, .aload 2, .invokestatic (1 + 4 + 64 * 146 + 32768 * 13 + 524288), .iload 5, .if_icmp .eq (pE : Int), .sipush 0, .freturn] = true)
    (ckE : bk_chk 13 (some .boolean) 7 code pE [.iload 5, .ifCond .ne (pF : Int), .aload 3, .sipush 0, .laload, .iload 6, .i2l, .lcmp, .ifCond .eq (pF : Int), .sipush 0, .freturn] = true) (ckF : bk_chk 13 (some .boolean) 7 code pF [.goto 1588] = true)
    (hE2 : bkEn2 e2 k2 12 js.length) (hj : ∀ j ∈ js, 1 ≤ j ∧ j ≤ 5)
    (w1 : Cond.methodLink (bk_R 13) idx y ∈ bk_W) (w2 : Cond.static y ∈ bk_W) (w3 : Cond.initialized y.cls ∈ bk_W) (w4 : Cond.codeWith y cc2 maxL (some .int) hh ∈ bk_W)
    (hd9 : y.cls ≠ "java/lang/invoke/MethodHandle" ∧ y.cls ≠ "java/lang/invoke/VarHandle" ∧ (parseMethodDescriptor y.desc).map (fun d => d.parameters.length) = some (js.length + 2)) (hm9 : maxL ≤ 50)
    (hd : decode code pH = .ok (.invokestatic idx, 3))
    (h0 : 0 ≤ i) (h1 : i + 6 ≤ sc 1 0) (h2 : sc 1 0 ≤ 2147483647) (hI : bkInv M)
    (hM : ∀ (hr : ∀ z ∈ bkVals (sc 0) i js, bk_okv ba z), Met l y (Cond.codeWith y cc2 maxL (some .int) hh :: bk_W) (bk_rm 61 1) (bk_Pc ba b0 aK cA D sc (bk_c 11 0 :: (bkVals (sc 0) i js ++ [bk_c 86 0])) M) (bk_Qc (some .int) ba cA D sc (fun t r M' => t = 0 ∧ bkQh k2 (bkVals (sc 0) i js) r M')) 1 6 (bk_A ba))
    (kk : ∀ (u v : bk_V) (M2 : bk_M), bkInv M2 → bk_X p l e R s m args below meth c ba b0 aK cA D sc 7 mc ms Z b 1588 (bkLs i u v) [] M2) : bk_X p l e R s m args below meth c ba b0 aK cA D sc 7 mc ms Z (b + 1) pA (bkLs i u v) [] M := by
  have hRd' : 60 + 11 ≤ R.frames ∧ 100 * (60 + 11) ≤ R.locals := by omega
  refine bk_X_sc fun h13 => ?_
  refine bk_all (bk_sound l ba b0 aK cA D sc 60) (bk_tx_all l ba b0 aK cA D sc) C0 hZ hRd' hmc _ _ ckA _ _ _ _ ?_
  show bk_run _ _ _ (bkArgs js [.aload 3, .goto (pH : Int)]) (b + 1) (bkLs i u v) [bk_c 11 0] M
  refine bk_args_r h0 (by rw [h13]; exact h1) (by rw [h13]; exact h2) js _ hj ?_
  rw [bkPsh_eq, h13]
  show bk_X p l e R s m args below meth c ba b0 aK cA D sc 7 mc ms Z (b + 1) pH (bkLs i u v) (bk_c 86 0 :: ((bkVals (sc 0) i js).reverse ++ [bk_c 11 0])) M
  rw [show (bk_c 86 0 :: ((bkVals (sc 0) i js).reverse ++ [bk_c 11 0])) = (bk_c 11 0 :: (bkVals (sc 0) i js ++ [bk_c 86 0])).reverse by simp]
  intro hs
  have hr : ∀ z ∈ bkVals (sc 0) i js, bk_okv ba z := fun z hz => hs z (by simp [hz])
  refine bk_s_help C0 hRd hmc (hM hr) w1 w2 w3 w4 (by rw [show (bk_c 11 0 :: (bkVals (sc 0) i js ++ [bk_c 86 0])).length = js.length + 2 by simp [bkVals]]; exact hd9) hm9 hd (fun r M1 hQ => ?_) hs
  refine bk_X_sc fun h13' => ?_
  have rest : ∀ r2 M3, bkInv M3 → M3 12 0 0 = r → (r = 0 → M3 86 0 0 = r2) → bk_X p l e R s m args below meth c ba b0 aK cA D sc 7 mc ms Z b pC (bkLs i (bk_i r) v) [bk_i r2] M3 := fun r2 M3 g1 g2 g3 => by
    have k1 : bk_X p l e R s m args below meth c ba b0 aK cA D sc 7 mc ms Z b pF (bkLs i (bk_i r) (bk_i r2)) [] M3 := bk_all (bk_sound l ba b0 aK cA D sc 60) (bk_tx_all l ba b0 aK cA D sc) C0 hZ hRd' hmc _ _ ckF _ _ _ _ (kk (bk_i r) (bk_i r2) M3 g1)
    have k2' : bk_X p l e R s m args below meth c ba b0 aK cA D sc 7 mc ms Z b pE (bkLs i (bk_i r) (bk_i r2)) [] M3 := bk_all (bk_sound l ba b0 aK cA D sc 60) (bk_tx_all l ba b0 aK cA D sc) C0 hZ hRd' hmc _ _ ckE _ _ _ _
      ⟨fun _ => k1, fun z => ⟨⟨by decide, by decide⟩, fun _ => k1, fun z2 => absurd (by
        have h9 : r = 0 := Classical.not_not.mp z
        show bk_lcmp (M3 86 0 0) r2 = 0
        rw [g3 h9]
        unfold bk_lcmp
        rw [if_neg (by omega), if_pos rfl]) z2⟩⟩
    refine bk_all (bk_sound l ba b0 aK cA D sc 60) (bk_tx_all l ba b0 aK cA D sc) C0 hZ hRd' hmc _ _ ckC _ _ _ _ ?_
    have hset : bk_set 6 (bk_i r2) (bkLs i (bk_i r) v) = bkLs i (bk_i r) (bk_i r2) := by rcases v with z | z | z <;> rfl
    refine bk_r_ist ?_
    rw [hset]
    refine bk_r_ald (n := 2) (k := 12) (j := 0) rfl rfl ?_
    refine bk_callr (e := 1 + 4 + 64 * 146 + 32768 * 13 + 524288) (is := [.iload 5, .if_icmp .eq (pE : Int), .sipush 0, .freturn]) (ls := bkLs i (bk_i r) (bk_i r2)) (F := sc 0) (i := i) (js := []) (c := 146) (k := 12) (rest := []) (by decide) (by decide) ?_
    refine (E_146 (d := 59) M3).mpr ⟨rfl, fun _ => k2', fun z => absurd g2 z⟩
  refine bk_all (bk_sound l ba b0 aK cA D sc 60) (bk_tx_all l ba b0 aK cA D sc) C0 hZ hRd' hmc _ _ ckB _ _ _ _ ?_
  show bk_run _ _ _ (bkArgs js [.invokestatic e2, .goto (pC : Int)]) b (bkLs i (bk_i r) v) [bk_c 12 0] M1
  refine bk_args_r h0 (by rw [h13']; exact h1) (by rw [h13']; exact h2) js _ hj ?_
  refine bk_callr (rest := []) hE2 (by decide) ?_
  rw [h13']
  rcases hQ.2 with ⟨hr0, hC⟩ | ⟨hr1, hC⟩
  · exact bk_use hC (fun r2 M3 g => ⟨rfl, rest r2 M3 g.2.2 (by rw [g.1, hr0]) (fun _ => g.2.1)⟩)
  · exact bk_use hC (fun r2 M3 g => ⟨rfl, rest r2 M3 g.2 (by rw [g.1, hr1]) (fun z => by omega)⟩)
end LAW
