/-- what a method gives back -/
def bk_rval (rt : Option FieldType) (r : Int) : Option Value := match rt with
  | none => none
  | some .long => some (.long (Int64.ofInt r))
  | _ => some (.int (Int32.ofInt r))
def bk_rok (rt : Option FieldType) (r : Int) : Prop := match rt with
  | none => True
  | some .long => bk_r64 r
  | _ => bk_r32 r
/-- a method's end: the answer, and the memory behind it -/
def bk_Qc (rt : Option FieldType) (ba : bk_B) (cA : Nat → ClassId) (D : va_G) (sc : Nat → Int → Int) (Q : bk_Q) : Array Value → State → Outcome → State → Prop := fun _ st o t =>
  ∃ (r : Int) (M : bk_M), Q 0 r M ∧ bk_rok rt r ∧ bk_okm ba M ∧ M 13 = sc ∧ o = .returned (bk_rval rt r) ∧ va_P D vwCl (bk_ws ba cA M) t.heap ∧ va_F (bk_A ba) st t
/-- .. by a throw -/
def bk_XC (ba : bk_B) (cA : Nat → ClassId) (D : va_G) (sc : Nat → Int → Int) (Q : bk_Q) : String → State → State → Prop := fun E st t =>
  E = "java/util/NoSuchElementException" ∧ ∃ (M : bk_M), Q 1 0 M ∧ bk_okm ba M ∧ M 13 = sc ∧ va_P D vwCl (bk_ws ba cA M) t.heap ∧ va_F (bk_A ba) st t
/-- a method's start -/
def bk_Pic (ba : bk_B) (b0 : Nat) (aK : Nat → Nat) (cA : Nat → ClassId) (D : va_G) (sc : Nat → Int → Int) (M : bk_M) (U : State) : Prop :=
  va_P D vwCl (bk_ws ba cA M) U.heap ∧ va_K D vwCl (bk_tys cA) U ∧ bk_okm ba M ∧ M 13 = sc ∧ bk_St ba b0 aK sc U U.heap ∧ U.heap.size ≥ ba.1 ∧ bk_Lay ba
def bk_Pc (ba : bk_B) (b0 : Nat) (aK : Nat → Nat) (cA : Nat → ClassId) (D : va_G) (sc : Nat → Int → Int) (as : List bk_V) (M : bk_M) : Array Value → State → Prop := fun v U =>
  v = (as.map (bk_rv ba b0 aK)).toArray ∧ bk_Pic ba b0 aK cA D sc M U
theorem bk_St.same {ba : bk_B} {b0 : Nat} {aK : Nat → Nat} {sc : Nat → Int → Int} {u U : State} {H : Heap} (hv : u.vm = U.vm) (h : bk_St ba b0 aK sc u H) : bk_St ba b0 aK sc U H := by
  have ha : u.vm.Alike U.vm := hv ▸ Vm.Alike.refl u.vm
  obtain ⟨⟨h1, h2, h3⟩, h4, h5, ⟨aV, h6⟩, h7, h8, h9, hA, hB, hC⟩ := h
  exact ⟨⟨va_X.moved ha h1, h2, h3⟩, fun x hx => va_Nw.same rfl hv (h4 x hx), fun i hi => vk_R.same hv.symm (h5 i hi), ⟨aV, vk_S.moved ha h6⟩, vx_Zq.moved ha h7, vx_Zq.moved ha h8, va_Z.moved ha h9, va_Zq.moved ha hA, fun x hx => va_Nw.same rfl hv (hB x hx), va_Nw.same rfl hv hC⟩
theorem bk_St.warm {ba : bk_B} {b0 : Nat} {aK : Nat → Nat} {sc : Nat → Int → Int} {s U : State} {H : Heap} (hW : s.WarmedH U.vm) (h : bk_St ba b0 aK sc s H) : bk_St ba b0 aK sc U H := by
  have ha : s.vm.Alike U.vm := hW.alike
  obtain ⟨⟨h1, h2, h3⟩, h4, h5, ⟨aV, h6⟩, h7, h8, h9, hA, hB, hC⟩ := h
  exact ⟨⟨va_X.moved ha h1, h2, h3⟩, fun x hx => va_Nw.warmM hW (h4 x hx), fun i hi => vk_R.warm hW (h5 i hi), ⟨aV, vk_S.moved ha h6⟩, vx_Zq.moved ha h7, vx_Zq.moved ha h8, va_Z.moved ha h9, va_Zq.moved ha hA, fun x hx => va_Nw.warmD hW (hB x hx), va_Nw.warmC hW hC⟩
theorem bk_St.kept {ba : bk_B} {b0 : Nat} {aK : Nat → Nat} {sc : Nat → Int → Int} {U : State} {H H1 : Heap} (h : bk_St ba b0 aK sc U H) (hz : H.size ≤ H1.size) (hq : ∀ a : Nat, a < H.size → ¬ bk_A ba a → H1[a]? = H[a]?) : bk_St ba b0 aK sc U H1 := by
  obtain ⟨⟨h1, h2, h3⟩, h4, h5, ⟨aV, h6⟩, h7, h8, h9, hA, hB, hC⟩ := h
  exact ⟨⟨va_X.kept h1 (hq b0 h2 (fun q => by have := q.1; omega)), by omega, h3⟩, h4, h5, ⟨aV, vk_S.kept h6 hq⟩, vx_Zq.kept h7 hq, vx_Zq.kept h8 hq, va_Z.kept h9 hq, va_Zq.kept hA hq, hB, hC⟩
theorem bk_Pc_blind {ba : bk_B} {b0 : Nat} {aK : Nat → Nat} {cA : Nat → ClassId} {D : va_G} {sc : Nat → Int → Int} {as : List bk_V} {M : bk_M} : FrameBlind (bk_Pc ba b0 aK cA D sc as M) := by
  rintro a U g mk ⟨h0, h1, h2, h3, h4, h5, h6⟩
  exact ⟨h0, h1, va_K.moved (u := U) (U := U.calling g mk a) (Vm.Alike.refl U.vm) h2, h3, h4, bk_St.same (u := U) (U := U.calling g mk a) rfl h5, h6⟩
section RUN
variable {p : Program} {l : Launch} {e : Env} {R : Room} {s : State} {m : MethodId} {args : Array Value} {below : List Frame} {meth : Method} {c : Code} {cc : ByteArray} {own : Nat}
variable {ba : bk_B} {b0 : Nat} {aK : Nat → Nat} {cA : Nat → ClassId} {D : va_G} {sc : Nat → Int → Int} {nL mc ms : Nat} {Z : State → Prop}
variable {Ca : bk_Ca} {Q : bk_Q} {K : bk_K} {b pc : Nat} {ls st : List bk_V} {M : bk_M}
theorem bk_s_copy (C0 : bk_Cx p R s m args c cc own nL ba b0 aK cA D sc) {kx : Nat} (hpl : (own, kx) ∈ bk_pl0) (hd : decode cc pc = .ok (.invokestatic kx, 3)) (h : bk_op Ca (bk_X p l e R s m args below meth c ba b0 aK cA D sc nL mc ms Z) Q (.invokevirtual 0) K b ls st M) (hk : ∀ b ls st M, K b ls st M → bk_X p l e R s m args below meth c ba b0 aK cA D sc nL mc ms Z b (pc + 3) ls st M) : bk_X p l e R s m args below meth c ba b0 aK cA D sc nL mc ms Z b pc ls st M := by
  obtain ⟨hx, hb, hml, hown, hts, hK, hSt, hR⟩ := C0
  simp only [bk_op] at h
  split at h
  · rename_i len dp dk di sp sk si st' _
    intro hs hl hn hM h13 H locs cells slots lsr hP hS hc hsl hL
    obtain ⟨⟨g1, g2, g3, g4, g5⟩, h2⟩ := h
    have hts2 : ∀ w, w ∈ bk_W → w.before args s = true := hts
    have hlen : bk_r32 len := hs (.inl len) (by simp)
    have hdp : bk_r32 dp := hs (.inl dp) (by simp)
    have hsp : bk_r32 sp := hs (.inl sp) (by simp)
    have hs' : ∀ w ∈ st', bk_okv ba w := fun w hw => hs w (by simp [hw])
    have hcat := bk_cats (ba := ba) (b0 := b0) (aK := aK) st'
    by_cases hcond : (Nat.beq (bk_so sk) (bk_so dk) && Nat.ble (bk_so sk) 1 && Nat.ble st'.length 4 && Nat.ble 16 sk && Nat.ble 16 dk) = true
    · rw [hcond] at h2
      simp only [cond_true] at h2
      simp only [Bool.and_eq_true] at hcond
      obtain ⟨⟨⟨⟨c1, c2⟩, c3⟩, c4⟩, c5⟩ := hcond
      have hso := nb_beqT c1
      have c2 := Nat.le_of_ble_eq_true c2
      have c3 := Nat.le_of_ble_eq_true c3
      have h16s := Nat.le_of_ble_eq_true c4
      have h16d := Nat.le_of_ble_eq_true c5
      have hqs := bk_arr2 (hs (.inr (.inr (sk, si))) (by simp)) h16s
      have hqd := bk_arr2 (hs (.inr (.inr (dk, di))) (by simp)) h16d
      show W p l e R s m args below meth c H locs cells slots Z (F0 m pc lsr (.int (Int32.ofInt len) :: .int (Int32.ofInt dp) :: .ref (bk_ad ba b0 aK dk di) :: .int (Int32.ofInt sp) :: .ref (bk_ad ba b0 aK sk si) :: st'.map (bk_rv ba b0 aK)))
      rw [bk_ad_lay hR.2.2.2 hqs, bk_ad_lay hR.2.2.2 hqd]
      rcases (show bk_so sk = 0 ∨ bk_so sk = 1 by omega) with hs0 | hs0
      · have eS := bk_ws_at (ba := ba) (cA := cA) (M := M) hqs
        have eD := bk_ws_at (ba := ba) (cA := cA) (M := M) hqd
        have hsod : bk_so dk = 0 := by rw [← hso, hs0]
        rw [bk_en_i h16s hs0] at eS
        rw [bk_en_i h16d hsod] at eD
        refine va_copyi hx hb (hml.trans hL.1.symm) hown (hts2 _ (bk_wl (f := fun q => .methodLink (bk_R q.1) q.2 arraycopyName) bk_p_l.1 hpl rfl)) (hts2 _ (bk_w1 bk_p_sys.2.2.2.1 rfl)) (hts2 _ (bk_w1 bk_p_sys.2.2.1 rfl)) (hts2 _ (bk_w1 bk_p_sys.1 rfl)) hK hP bk_ws_D hS (bk_off ba sk si) (bk_off ba dk di) 0 0 eS eD (ty := .int) rfl rfl rfl (n := Int32.ofInt len) (by rw [nb_z, nb_lt hsp nb_r0]; omega) (by rw [nb_z, nb_lt hdp nb_r0]; omega) (by rw [nb_z, nb_lt hlen nb_r0]; omega) (by rw [nb_clamp hsp, nb_clamp hlen]; omega) (by rw [nb_clamp hdp, nb_clamp hlen]; omega) (fun _ _ => rfl) hR.1 (by rw [show nativeFrameWords "java/lang/System" "arraycopy" 5 = 7 from rfl]; omega) hd (fun H1 locs1 hP1 hD1 hS1 => ?_)
        rw [nb_clamp hsp, nb_clamp hdp, nb_clamp hlen, bk_cpyI (F := Int32.ofInt) g2 g4 g1, ← bk_en_i (ba := ba) (cA := cA) (M := bk_cpy M sk si sp dk di dp len) h16d hsod, bk_ws_set hR.2.2.2 hqd (fun k' i' j' hne => bk_cpy_ne hne)] at hP1
        exact hk _ _ _ _ (h2 _ rfl) hs' hl hn (bk_okm_c hM hqs h16d h16s hso g2 g3) ((show bk_cpy M sk si sp dk di dp len 13 = M 13 by funext i' j'; exact bk_cpy_ne (fun q => by have := congrArg Prod.fst q; simp at this; omega)).trans h13) H1 locs1 cells slots lsr hP1 hS1 hc hsl hL
      · have eS := bk_ws_at (ba := ba) (cA := cA) (M := M) hqs
        have eD := bk_ws_at (ba := ba) (cA := cA) (M := M) hqd
        have hsod : bk_so dk = 1 := by rw [← hso, hs0]
        rw [bk_en_l h16s hs0] at eS
        rw [bk_en_l h16d hsod] at eD
        refine va_copyl hx hb (hml.trans hL.1.symm) hown (hts2 _ (bk_wl (f := fun q => .methodLink (bk_R q.1) q.2 arraycopyName) bk_p_l.1 hpl rfl)) (hts2 _ (bk_w1 bk_p_sys.2.2.2.1 rfl)) (hts2 _ (bk_w1 bk_p_sys.2.2.1 rfl)) (hts2 _ (bk_w1 bk_p_sys.1 rfl)) hK hP bk_ws_D hS (bk_off ba sk si) (bk_off ba dk di) 1 1 eS eD (ty := .long) rfl rfl rfl (n := Int32.ofInt len) (by rw [nb_z, nb_lt hsp nb_r0]; omega) (by rw [nb_z, nb_lt hdp nb_r0]; omega) (by rw [nb_z, nb_lt hlen nb_r0]; omega) (by rw [nb_clamp hsp, nb_clamp hlen]; omega) (by rw [nb_clamp hdp, nb_clamp hlen]; omega) (fun _ _ => rfl) hR.1 (by rw [show nativeFrameWords "java/lang/System" "arraycopy" 5 = 7 from rfl]; omega) hd (fun H1 locs1 hP1 hD1 hS1 => ?_)
        rw [nb_clamp hsp, nb_clamp hdp, nb_clamp hlen, bk_cpyL (F := Int64.ofInt) g2 g4 g1, ← bk_en_l (ba := ba) (cA := cA) (M := bk_cpy M sk si sp dk di dp len) h16d hsod, bk_ws_set hR.2.2.2 hqd (fun k' i' j' hne => bk_cpy_ne hne)] at hP1
        exact hk _ _ _ _ (h2 _ rfl) hs' hl hn (bk_okm_c hM hqs h16d h16s hso g2 g3) ((show bk_cpy M sk si sp dk di dp len 13 = M 13 by funext i' j'; exact bk_cpy_ne (fun q => by have := congrArg Prod.fst q; simp at this; omega)).trans h13) H1 locs1 cells slots lsr hP1 hS1 hc hsl hL
    · rw [Bool.eq_false_iff.mpr hcond] at h2
      exact h2.elim
  all_goals first | exact h.elim | (exfalso; omega)
/-- how a method ends, on the machine -/
def bk_Zs (p : Program) (l : Launch) (e : Env) (R : Room) (s : State) (m : MethodId) (args : Array Value) (below : List Frame) (meth : Method) (c : Code) (cc : ByteArray) (rt : Option FieldType) (ba : bk_B) (cA : Nat → ClassId) (D : va_G) (sc : Nat → Int → Int) (nL mc ms : Nat) (Q : bk_Q) (Z : State → Prop) : Prop :=
  ∀ (r : Int) (M : bk_M), bk_okm ba M → M 13 = sc → ∀ (H : Heap) (locs : List Loc) (cells slots pc : Nat) (lsr : Array Slot), va_P D vwCl (bk_ws ba cA M) H → va_S (bk_A ba) s.heap H locs → cells ≤ mc → slots ≤ ms →
    (bk_rok rt r → Q 0 r M →
      (rt = some .int → decode cc pc = .ok (.ireturn, 1) → W p l e R s m args below meth c H locs cells slots Z (F0 m pc lsr [.int (Int32.ofInt r)])) ∧
      (rt = some .boolean → r = 0 ∨ r = 1 → decode cc pc = .ok (.ireturn, 1) → W p l e R s m args below meth c H locs cells slots Z (F0 m pc lsr [.int (Int32.ofInt r)])) ∧
      (rt = some .long → decode cc pc = .ok (.lreturn, 1) → W p l e R s m args below meth c H locs cells slots Z (F0 m pc lsr [.long (Int64.ofInt r)])) ∧
      (rt = none → decode cc pc = .ok (.return_, 1) → W p l e R s m args below meth c H locs cells slots Z (F0 m pc lsr []))) ∧
    (Q 1 0 M → lsr.size = nL → cells + 1 ≤ mc → slots + 6 ≤ ms → decode cc pc = .ok (.new 133, 3) → decode cc (pc + 3) = .ok (.dup, 1) → decode cc (pc + 4) = .ok (.invokespecial 135, 3) → decode cc (pc + 7) = .ok (.athrow, 1) → W p l e R s m args below meth c H locs cells slots Z (F0 m pc lsr []))
theorem bk_s_ireturn {rt : Option FieldType} (hZ : bk_Zs p l e R s m args below meth c cc rt ba cA D sc nL mc ms Q Z) (hrt : rt = some .int) (hd : decode cc pc = .ok (.ireturn, 1)) (h : bk_op Ca (bk_X p l e R s m args below meth c ba b0 aK cA D sc nL mc ms Z) Q (.ireturn) K b ls st M) : bk_X p l e R s m args below meth c ba b0 aK cA D sc nL mc ms Z b pc ls st M := by
  simp only [bk_op] at h
  split at h
  · rename_i x
    intro hs hl hn hM h13 H locs cells slots lsr hP hS hc hsl hL
    subst hrt
    exact ((hZ x M hM h13 H locs cells slots pc lsr hP hS (by omega) (by omega)).1 (hs (.inl x) (by simp)) h).1 rfl hd
  · exact h.elim
theorem bk_s_freturn {rt : Option FieldType} (hZ : bk_Zs p l e R s m args below meth c cc rt ba cA D sc nL mc ms Q Z) (hrt : rt = some .boolean) (hd : decode cc pc = .ok (.ireturn, 1)) (h : bk_op Ca (bk_X p l e R s m args below meth c ba b0 aK cA D sc nL mc ms Z) Q (.freturn) K b ls st M) : bk_X p l e R s m args below meth c ba b0 aK cA D sc nL mc ms Z b pc ls st M := by
  simp only [bk_op] at h
  split at h
  · rename_i x
    intro hs hl hn hM h13 H locs cells slots lsr hP hS hc hsl hL
    subst hrt
    exact ((hZ x M hM h13 H locs cells slots pc lsr hP hS (by omega) (by omega)).1 (hs (.inl x) (by simp)) h.2).2.1 rfl h.1 hd
  · exact h.elim
theorem bk_s_lreturn {rt : Option FieldType} (hZ : bk_Zs p l e R s m args below meth c cc rt ba cA D sc nL mc ms Q Z) (hrt : rt = some .long) (hd : decode cc pc = .ok (.lreturn, 1)) (h : bk_op Ca (bk_X p l e R s m args below meth c ba b0 aK cA D sc nL mc ms Z) Q (.lreturn) K b ls st M) : bk_X p l e R s m args below meth c ba b0 aK cA D sc nL mc ms Z b pc ls st M := by
  simp only [bk_op] at h
  split at h
  · rename_i x
    intro hs hl hn hM h13 H locs cells slots lsr hP hS hc hsl hL
    subst hrt
    exact ((hZ x M hM h13 H locs cells slots pc lsr hP hS (by omega) (by omega)).1 (hs (.inr (.inl x)) (by simp)) h).2.2.1 rfl hd
  · exact h.elim
theorem bk_s_return_ {rt : Option FieldType} (hZ : bk_Zs p l e R s m args below meth c cc rt ba cA D sc nL mc ms Q Z) (hrt : rt = none) (hd : decode cc pc = .ok (.return_, 1)) (h : bk_op Ca (bk_X p l e R s m args below meth c ba b0 aK cA D sc nL mc ms Z) Q (.return_) K b ls st M) : bk_X p l e R s m args below meth c ba b0 aK cA D sc nL mc ms Z b pc ls st M := by
  simp only [bk_op] at h
  split at h
  · intro hs hl hn hM h13 H locs cells slots lsr hP hS hc hsl hL
    subst hrt
    exact ((hZ 0 M hM h13 H locs cells slots pc lsr hP hS (by omega) (by omega)).1 trivial h).2.2.2 rfl hd
  · exact h.elim
theorem bk_s_athrow {rt : Option FieldType} (hZ : bk_Zs p l e R s m args below meth c cc rt ba cA D sc nL mc ms Q Z) (hd : decode cc pc = .ok (.new 133, 3) ∧ decode cc (pc + 3) = .ok (.dup, 1) ∧ decode cc (pc + 4) = .ok (.invokespecial 135, 3) ∧ decode cc (pc + 7) = .ok (.athrow, 1)) (h : bk_op Ca (bk_X p l e R s m args below meth c ba b0 aK cA D sc nL mc ms Z) Q (.athrow) K b ls st M) : bk_X p l e R s m args below meth c ba b0 aK cA D sc nL mc ms Z b pc ls st M := by
  simp only [bk_op] at h
  split at h
  · intro hs hl hn hM h13 H locs cells slots lsr hP hS hc hsl hL
    exact (hZ 0 M hM h13 H locs cells slots pc lsr hP hS (by omega) (by omega)).2 h hL.1 (by omega) (by omega) hd.1 hd.2.1 hd.2.2.1 hd.2.2.2
  · exact h.elim
end RUN
