theorem bk_sw_at {x d : Int} {F : Int → Prop} : ∀ {os : List Int} {lo : Int}, bk_sw x F d lo os → ∀ (n : Nat) (t : Int), os[n]? = some t → x = lo + n → F t
  | [], _, _, n, t, h, _ => by simp at h
  | w :: os, lo, h, 0, t, h1, h2 => by
    simp at h1
    subst h1
    exact h.1 (by omega)
  | w :: os, lo, h, n + 1, t, h1, h2 => bk_sw_at (h.2 (by omega)) n t (by simpa using h1) (by push_cast at h2; omega)
theorem bk_sw_out {x d : Int} {F : Int → Prop} : ∀ {os : List Int} {lo : Int}, bk_sw x F d lo os → x < lo ∨ lo + os.length - 1 < x → F d
  | [], _, h, _ => h
  | w :: os, lo, h, q => bk_sw_out (h.2 (by simp at q; omega)) (by simp at q; omega)
theorem bk_lsw_at {x : Int} {F : Int → Prop} {d pc d' : Int} (hd : pc + d' = d) : ∀ {qs ps : List (Int × Int)}, qs.map (fun q => (q.1, pc + q.2)) = ps → bk_lsw x F d ps → ∃ t, pc + Op.lookupswitch.offset qs d' x = t ∧ F t ∧ (t = d ∨ t ∈ ps.map (·.2))
  | [], ps, h, h2 => by
    subst h
    exact ⟨d, hd, h2, Or.inl rfl⟩
  | (a, w) :: qs, ps, h, h2 => by
    subst h
    rw [Op.lookupswitch.offset_cons]
    by_cases e : a = x
    · rw [if_pos e]
      exact ⟨pc + w, rfl, h2.1 e.symm, Or.inr (by simp)⟩
    · rw [if_neg e]
      obtain ⟨t, t1, t2, t3⟩ := bk_lsw_at hd rfl (h2.2 (fun z => e z.symm))
      exact ⟨t, t1, t2, t3.elim Or.inl (fun z => Or.inr (by simp at z ⊢; exact Or.inr z))⟩
set_option maxRecDepth 20000 in
theorem bk_p_sys : bk_sub [.initialized "java/lang/System"] tables_1 = true ∧ bk_sub [.initialized "java/lang/Math"] tables_1 = true ∧ bk_sub [.static arraycopyName] tables_1 = true ∧ bk_sub [.native arraycopyName] tables_1 = true ∧ bk_sub [.static Lib.Math.min.name] tables_1 = true ∧ bk_sub [.static Lib.Math.max.name] tables_1 = true ∧ bk_sub [.static Lib.Math.abs.name] tables_1 = true := by decide +kernel
set_option maxRecDepth 20000 in
theorem bk_p_min : bk_sub [.code Lib.Math.min.name Lib.Math.min.code 2 (some .int)] tables_1 = true := by decide +kernel
set_option maxRecDepth 20000 in
theorem bk_p_max : bk_sub [.code Lib.Math.max.name Lib.Math.max.code 2 (some .int)] tables_1 = true := by decide +kernel
set_option maxRecDepth 20000 in
theorem bk_p_abs : bk_sub [.code Lib.Math.abs.name Lib.Math.abs.code 1 (some .int)] tables_1 = true := by decide +kernel
set_option maxRecDepth 20000 in
theorem bk_p_l : bk_sub (bk_pl0.map fun q => .methodLink (bk_R q.1) q.2 arraycopyName) tables_1 = true ∧ bk_sub (bk_pl1.map fun q => .methodLink (bk_R q.1) q.2 Lib.Math.min.name) tables_1 = true ∧ bk_sub (bk_pl2.map fun q => .methodLink (bk_R q.1) q.2 Lib.Math.max.name) tables_1 = true ∧ bk_sub (bk_pl3.map fun q => .methodLink (bk_R q.1) q.2 Lib.Math.abs.name) tables_1 = true := by decide +kernel
theorem bk_w1 {w : Cond} (h : bk_sub [w] tables_1 = true) (hg : goodWord w = true) : w ∈ bk_W := bk_W_of (bk_sub_mem h _ List.mem_cons_self) hg
theorem bk_wl {f : Nat × Nat → Cond} {L : List (Nat × Nat)} (h : bk_sub (L.map f) tables_1 = true) {q : Nat × Nat} (hq : q ∈ L) (hg : goodWord (f q) = true) : f q ∈ bk_W := bk_W_of (bk_sub_mem h _ (List.mem_map.mpr ⟨q, hq, rfl⟩)) hg
theorem bk_cats {ba : bk_B} {b0 : Nat} {aK : Nat → Nat} : ∀ (st : List bk_V), ((st.map (bk_rv ba b0 aK)).map fun v => v.category).sum ≤ 2 * st.length
  | [] => Nat.zero_le _
  | v :: st => by
    have h := bk_cats (ba := ba) (b0 := b0) (aK := aK) st
    have h2 := lv_cat (bk_rv ba b0 aK v)
    simp only [List.map_cons, List.sum_cons, List.length_cons]
    omega
theorem bk_cpyI {F : Int → Int32} {M : bk_M} {sk si dk di : Nat} {sp dp n : Int} (h1 : 0 ≤ sp) (h2 : 0 ≤ dp) (h3 : 0 ≤ n) : va_cpy (fun j : Nat => F (M sk si j)) (fun j : Nat => F (M dk di j)) sp.toNat dp.toNat n.toNat = fun j : Nat => F (bk_cpy M sk si sp dk di dp n dk di j) := by
  funext j
  unfold va_cpy bk_cpy
  by_cases e : dp.toNat ≤ j ∧ j < dp.toNat + n.toNat
  · rw [if_pos e, if_pos ⟨rfl, rfl, by omega, by omega⟩]
    have e2 : ((sp.toNat + (j - dp.toNat) : Nat) : Int) = sp + ((j : Int) - dp) := by omega
    show F (M sk si ((sp.toNat + (j - dp.toNat) : Nat) : Int)) = _
    rw [e2]
  · rw [if_neg e, if_neg (by rintro ⟨-, -, a, b⟩; omega)]
theorem bk_cpyL {F : Int → Int64} {M : bk_M} {sk si dk di : Nat} {sp dp n : Int} (h1 : 0 ≤ sp) (h2 : 0 ≤ dp) (h3 : 0 ≤ n) : va_cpy (fun j : Nat => F (M sk si j)) (fun j : Nat => F (M dk di j)) sp.toNat dp.toNat n.toNat = fun j : Nat => F (bk_cpy M sk si sp dk di dp n dk di j) := by
  funext j
  unfold va_cpy bk_cpy
  by_cases e : dp.toNat ≤ j ∧ j < dp.toNat + n.toNat
  · rw [if_pos e, if_pos ⟨rfl, rfl, by omega, by omega⟩]
    have e2 : ((sp.toNat + (j - dp.toNat) : Nat) : Int) = sp + ((j : Int) - dp) := by omega
    show F (M sk si ((sp.toNat + (j - dp.toNat) : Nat) : Int)) = _
    rw [e2]
  · rw [if_neg e, if_neg (by rintro ⟨-, -, a, b⟩; omega)]
theorem bk_cpy_ne {M : bk_M} {sk si dk di : Nat} {sp dp n : Int} {k i : Nat} {j : Int} (h : (k, i) ≠ (dk, di)) : bk_cpy M sk si sp dk di dp n k i j = M k i j := by
  unfold bk_cpy
  rw [if_neg]
  rintro ⟨a, b, -⟩
  exact h (by rw [a, b])
theorem bk_okm_c {ba : bk_B} {M : bk_M} (h : bk_okm ba M) {sk si dk di : Nat} {sp dp n : Int} (hs : (sk, si) ∈ ba.2) (hk : 16 ≤ dk) (hk2 : 16 ≤ sk) (hso : bk_so sk = bk_so dk) (h1 : 0 ≤ sp) (h3 : sp + n ≤ bk_sz sk) : bk_okm ba (bk_cpy M sk si sp dk di dp n) := by
  refine ⟨fun k' i' j' q1 q2 q3 => ?_, fun k' i' j' q1 q2 q3 q4 => ?_, ?_⟩
  · rw [bk_cpy_ne (fun q => by have := congrArg Prod.fst q; simp at this; omega)]
    exact h.1 k' i' j' q1 q2 q3
  · unfold bk_cpy
    by_cases e : k' = dk ∧ i' = di ∧ dp ≤ j' ∧ j' < dp + n
    · rw [if_pos e]
      obtain ⟨rfl, rfl, e3, e4⟩ := e
      have := h.2.1 sk si (sp + (j' - dp)) hs (by omega) (by omega) (by omega)
      rw [hso] at this
      exact this
    · rw [if_neg e]; exact h.2.1 k' i' j' q1 q2 q3 q4
  · have : bk_cpy M sk si sp dk di dp n 13 = M 13 := by
      funext i' j'
      exact bk_cpy_ne (fun q => by have := congrArg Prod.fst q; simp at this; omega)
    rw [this]; exact h.2.2
section CALLS
variable {p : Program} {l : Launch} {e : Env} {R : Room} {s : State} {m : MethodId} {args : Array Value} {below : List Frame} {meth : Method} {c : Code} {cc : ByteArray} {own : Nat}
variable {ba : bk_B} {b0 : Nat} {aK : Nat → Nat} {cA : Nat → ClassId} {D : va_G} {sc : Nat → Int → Int} {nL mc ms : Nat} {Z : State → Prop}
variable {Ca : bk_Ca} {Q : bk_Q} {K : bk_K} {b pc : Nat} {ls st : List bk_V} {M : bk_M}
theorem bk_s_tableswitch (C0 : bk_Cx p R s m args c cc own nL ba b0 aK cA D sc) {d lo hi d2 : Int} {ts offs : Array Int} {len : Nat} (hd0 : (pc : Int) + d2 = d) (hd1 : 0 ≤ d) (hoffs : offs.toList.map (fun t => (pc : Int) + t) = ts.toList) (hpos : ∀ t ∈ ts.toList, (0 : Int) ≤ t) (hhi : hi = lo + ts.toList.length - 1) (hd : decode cc pc = .ok (.tableswitch d2 lo hi offs, len)) (h : bk_op Ca (bk_X p l e R s m args below meth c ba b0 aK cA D sc nL mc ms Z) Q (.tableswitch d lo hi ts) K b ls st M) (hk : ∀ b ls st M, K b ls st M → bk_X p l e R s m args below meth c ba b0 aK cA D sc nL mc ms Z b (pc + len) ls st M) : bk_X p l e R s m args below meth c ba b0 aK cA D sc nL mc ms Z b pc ls st M := by
  obtain ⟨hx, hb, hml, hown, hts, hK, hSt, hR⟩ := C0
  simp only [bk_op] at h
  split at h
  · rename_i x st'
    intro hs hl hn hM h13 H locs cells slots lsr hP hS hc hsl hL
    have hx0 : bk_r32 x := hs (.inl x) (by simp)
    have hs' : ∀ w ∈ st', bk_okv ba w := fun w hw => hs w (by simp [hw])
    by_cases hin : x < lo ∨ hi < x
    · exact lv_tableOut hx hb hd (tgt := d.toNat) (by rw [nb_i hx0]; exact hin) (by omega) (bk_sw_out h (by rw [hhi] at hin; exact hin) hs' hl hn hM h13 H locs cells slots lsr hP hS hc hsl hL)
    · have hin1 : ¬ x < lo := fun q => hin (Or.inl q)
      have hin2 : ¬ hi < x := fun q => hin (Or.inr q)
      have hlen : (x - lo).toNat < ts.toList.length := by omega
      obtain ⟨o1, e1⟩ : ∃ o1, ts.toList[(x - lo).toNat]? = some o1 := ⟨_, List.getElem?_eq_getElem hlen⟩
      have e2 := e1
      rw [← hoffs, List.getElem?_map] at e2
      obtain ⟨off, g1, g2⟩ := Option.map_eq_some_iff.mp e2
      have g3 := hpos _ (List.mem_of_getElem? e1)
      refine lv_tableIn hx hb hd (tgt := o1.toNat) (off := off) (by rw [nb_i hx0]; exact hin1) (by rw [nb_i hx0]; exact hin2) (by rw [nb_i hx0, ← Array.getElem?_toList]; exact g1) (by omega) ?_
      exact bk_sw_at h _ _ e1 (by omega) hs' hl hn hM h13 H locs cells slots lsr hP hS hc hsl hL
  · exact h.elim
theorem bk_s_lookupswitch (C0 : bk_Cx p R s m args c cc own nL ba b0 aK cA D sc) {d d2 : Int} {ps qs : Array (Int × Int)} {len : Nat} (hd0 : (pc : Int) + d2 = d) (hd1 : 0 ≤ d) (hqs : qs.toList.map (fun q => (q.1, (pc : Int) + q.2)) = ps.toList) (hpos : ∀ t ∈ ps.toList, (0 : Int) ≤ t.2) (hsort : (qs.toList.zip (qs.toList.drop 1)).all (fun (a, next) => a.1 < next.1) = true) (hd : decode cc pc = .ok (.lookupswitch d2 qs, len)) (h : bk_op Ca (bk_X p l e R s m args below meth c ba b0 aK cA D sc nL mc ms Z) Q (.lookupswitch d ps) K b ls st M) (hk : ∀ b ls st M, K b ls st M → bk_X p l e R s m args below meth c ba b0 aK cA D sc nL mc ms Z b (pc + len) ls st M) : bk_X p l e R s m args below meth c ba b0 aK cA D sc nL mc ms Z b pc ls st M := by
  obtain ⟨hx, hb, hml, hown, hts, hK, hSt, hR⟩ := C0
  simp only [bk_op] at h
  split at h
  · rename_i x st'
    intro hs hl hn hM h13 H locs cells slots lsr hP hS hc hsl hL
    have hx0 : bk_r32 x := hs (.inl x) (by simp)
    have hs' : ∀ w ∈ st', bk_okv ba w := fun w hw => hs w (by simp [hw])
    obtain ⟨t, t1, t2, t3⟩ := bk_lsw_at hd0 hqs h
    have ht : 0 ≤ t := by
      rcases t3 with rfl | t3
      · exact hd1
      · obtain ⟨q, q1, q2⟩ := List.mem_map.mp t3
        rw [← q2]; exact hpos q q1
    exact lv_lookup hx hb hd (tgt := t.toNat) (off := Op.lookupswitch.offset qs.toList d2 x) hsort (by rw [nb_i hx0]) (by omega) (t2 hs' hl hn hM h13 H locs cells slots lsr hP hS hc hsl hL)
  · exact h.elim
theorem bk_s_min (C0 : bk_Cx p R s m args c cc own nL ba b0 aK cA D sc) {k : Nat} (hpl : (own, k) ∈ bk_pl1) (hmc : mc ≤ R.cells ∧ ms ≤ R.slots) (hd : decode cc pc = .ok (.invokestatic k, 3)) (h : bk_op Ca (bk_X p l e R s m args below meth c ba b0 aK cA D sc nL mc ms Z) Q (.invokevirtual 1) K b ls st M) (hk : ∀ b ls st M, K b ls st M → bk_X p l e R s m args below meth c ba b0 aK cA D sc nL mc ms Z b (pc + 3) ls st M) : bk_X p l e R s m args below meth c ba b0 aK cA D sc nL mc ms Z b pc ls st M := by
  obtain ⟨hx, hb, hml, hown, hts, hK, hSt, hR⟩ := C0
  revert h
  cases st with
  | nil => intro h; exact h.elim
  | cons v1 st1 =>
  rcases v1 with y | v1
  rotate_left
  · intro h; exact h.elim
  cases st1 with
  | nil => intro h; exact h.elim
  | cons v2 st' =>
  rcases v2 with x | v2
  rotate_left
  · intro h; exact h.elim
  intro h
  by_cases hle : st'.length ≤ 4
  · have h : K b ls (.inl (if x ≤ y then x else y) :: st') M := by
      have h : (bif Nat.ble st'.length 4 then _ else False) := h
      rw [Nat.ble_eq_true_of_le hle] at h
      exact h
    intro hs hl hn hM h13 H locs cells slots lsr hP hS hc hsl hL
    have hy : bk_r32 y := hs (.inl y) (by simp)
    have hx0 : bk_r32 x := hs (.inl x) (by simp)
    have hs' : ∀ w ∈ st', bk_okv ba w := fun w hw => hs w (by simp [hw])
    have hv : (if Int32.ofInt y < Int32.ofInt x then Int32.ofInt y else Int32.ofInt x) = Int32.ofInt (if x ≤ y then x else y) := by
      by_cases q : y < x
      · rw [if_pos ((nb_lt hy hx0).mpr q), if_neg (by omega)]
      · rw [if_neg (fun z => q ((nb_lt hy hx0).mp z)), if_pos (by omega)]
    have hrg : bk_r32 (if x ≤ y then x else y) := by
      by_cases q : x ≤ y
      · rw [if_pos q]; exact hx0
      · rw [if_neg q]; exact hy
    have hcat := bk_cats (ba := ba) (b0 := b0) (aK := aK) st'
    have hts2 : ∀ w, w ∈ bk_W → w.before args s = true := hts
    refine va_mmin hx hb (hml.trans hL.1.symm) hown (hts2 _ (bk_wl (f := fun q => .methodLink (bk_R q.1) q.2 Lib.Math.min.name) bk_p_l.2.1 hpl rfl)) (hts2 _ (bk_w1 bk_p_sys.2.2.2.2.1 rfl)) (hts2 _ (bk_w1 bk_p_sys.2.1 rfl)) (hts2 _ (bk_w1 bk_p_min rfl)) hR.1 (by omega) (by omega) (by omega) hd ?_
    rw [hv]
    exact hk _ _ _ _ h (bk_ocons hrg hs') hl hn hM h13 H locs cells slots lsr hP hS hc hsl hL
  · have h : (bif Nat.ble st'.length 4 then _ else False) := h
    rw [Bool.eq_false_iff.mpr (fun q => hle (Nat.le_of_ble_eq_true q))] at h
    exact h.elim
theorem bk_s_max (C0 : bk_Cx p R s m args c cc own nL ba b0 aK cA D sc) {k : Nat} (hpl : (own, k) ∈ bk_pl2) (hmc : mc ≤ R.cells ∧ ms ≤ R.slots) (hd : decode cc pc = .ok (.invokestatic k, 3)) (h : bk_op Ca (bk_X p l e R s m args below meth c ba b0 aK cA D sc nL mc ms Z) Q (.invokevirtual 2) K b ls st M) (hk : ∀ b ls st M, K b ls st M → bk_X p l e R s m args below meth c ba b0 aK cA D sc nL mc ms Z b (pc + 3) ls st M) : bk_X p l e R s m args below meth c ba b0 aK cA D sc nL mc ms Z b pc ls st M := by
  obtain ⟨hx, hb, hml, hown, hts, hK, hSt, hR⟩ := C0
  revert h
  cases st with
  | nil => intro h; exact h.elim
  | cons v1 st1 =>
  rcases v1 with y | v1
  rotate_left
  · intro h; exact h.elim
  cases st1 with
  | nil => intro h; exact h.elim
  | cons v2 st' =>
  rcases v2 with x | v2
  rotate_left
  · intro h; exact h.elim
  intro h
  by_cases hle : st'.length ≤ 4
  · have h : K b ls (.inl (if y ≤ x then x else y) :: st') M := by
      have h : (bif Nat.ble st'.length 4 then _ else False) := h
      rw [Nat.ble_eq_true_of_le hle] at h
      exact h
    intro hs hl hn hM h13 H locs cells slots lsr hP hS hc hsl hL
    have hy : bk_r32 y := hs (.inl y) (by simp)
    have hx0 : bk_r32 x := hs (.inl x) (by simp)
    have hs' : ∀ w ∈ st', bk_okv ba w := fun w hw => hs w (by simp [hw])
    have hv : (if Int32.ofInt x < Int32.ofInt y then Int32.ofInt y else Int32.ofInt x) = Int32.ofInt (if y ≤ x then x else y) := by
      by_cases q : x < y
      · rw [if_pos ((nb_lt hx0 hy).mpr q), if_neg (by omega)]
      · rw [if_neg (fun z => q ((nb_lt hx0 hy).mp z)), if_pos (by omega)]
    have hrg : bk_r32 (if y ≤ x then x else y) := by
      by_cases q : y ≤ x
      · rw [if_pos q]; exact hx0
      · rw [if_neg q]; exact hy
    have hcat := bk_cats (ba := ba) (b0 := b0) (aK := aK) st'
    have hts2 : ∀ w, w ∈ bk_W → w.before args s = true := hts
    refine va_mmax hx hb (hml.trans hL.1.symm) hown (hts2 _ (bk_wl (f := fun q => .methodLink (bk_R q.1) q.2 Lib.Math.max.name) bk_p_l.2.2.1 hpl rfl)) (hts2 _ (bk_w1 bk_p_sys.2.2.2.2.2.1 rfl)) (hts2 _ (bk_w1 bk_p_sys.2.1 rfl)) (hts2 _ (bk_w1 bk_p_max rfl)) hR.1 (by omega) (by omega) (by omega) hd ?_
    rw [hv]
    exact hk _ _ _ _ h (bk_ocons hrg hs') hl hn hM h13 H locs cells slots lsr hP hS hc hsl hL
  · have h : (bif Nat.ble st'.length 4 then _ else False) := h
    rw [Bool.eq_false_iff.mpr (fun q => hle (Nat.le_of_ble_eq_true q))] at h
    exact h.elim
theorem bk_s_abs (C0 : bk_Cx p R s m args c cc own nL ba b0 aK cA D sc) {k : Nat} (hpl : (own, k) ∈ bk_pl3) (hmc : mc ≤ R.cells ∧ ms ≤ R.slots) (hd : decode cc pc = .ok (.invokestatic k, 3)) (h : bk_op Ca (bk_X p l e R s m args below meth c ba b0 aK cA D sc nL mc ms Z) Q (.invokevirtual 3) K b ls st M) (hk : ∀ b ls st M, K b ls st M → bk_X p l e R s m args below meth c ba b0 aK cA D sc nL mc ms Z b (pc + 3) ls st M) : bk_X p l e R s m args below meth c ba b0 aK cA D sc nL mc ms Z b pc ls st M := by
  obtain ⟨hx, hb, hml, hown, hts, hK, hSt, hR⟩ := C0
  revert h
  cases st with
  | nil => intro h; exact h.elim
  | cons v2 st' =>
  rcases v2 with x | v2
  rotate_left
  · intro h; exact h.elim
  intro h
  by_cases hle : st'.length ≤ 4
  · have h : bk_r32 (-x) ∧ K b ls (.inl (if x < 0 then -x else x) :: st') M := by
      have h : bk_r32 (-x) ∧ (bif Nat.ble st'.length 4 then _ else False) := h
      rw [Nat.ble_eq_true_of_le hle] at h
      exact h
    intro hs hl hn hM h13 H locs cells slots lsr hP hS hc hsl hL
    have hx0 : bk_r32 x := hs (.inl x) (by simp)
    have hs' : ∀ w ∈ st', bk_okv ba w := fun w hw => hs w (by simp [hw])
    have hv : (if 0 ≤ Int32.ofInt x then Int32.ofInt x else 0 - Int32.ofInt x) = Int32.ofInt (if x < 0 then -x else x) := by
      by_cases q : x < 0
      · rw [if_neg (fun z => by rw [nb_z, nb_le nb_r0 hx0] at z; omega), if_pos q, Int32.ofInt_neg, Int32.zero_sub]
      · rw [if_pos (by rw [nb_z, nb_le nb_r0 hx0]; omega), if_neg q]
    have hrg : bk_r32 (if x < 0 then -x else x) := by
      by_cases q : x < 0
      · rw [if_pos q]; exact h.1
      · rw [if_neg q]; exact hx0
    have hcat := bk_cats (ba := ba) (b0 := b0) (aK := aK) st'
    have hts2 : ∀ w, w ∈ bk_W → w.before args s = true := hts
    refine va_mabs hx hb (hml.trans hL.1.symm) hown (hts2 _ (bk_wl (f := fun q => .methodLink (bk_R q.1) q.2 Lib.Math.abs.name) bk_p_l.2.2.2 hpl rfl)) (hts2 _ (bk_w1 bk_p_sys.2.2.2.2.2.2 rfl)) (hts2 _ (bk_w1 bk_p_sys.2.1 rfl)) (hts2 _ (bk_w1 bk_p_abs rfl)) hR.1 (by omega) (by omega) (by omega) hd ?_
    rw [hv]
    exact hk _ _ _ _ h.2 (bk_ocons hrg hs') hl hn hM h13 H locs cells slots lsr hP hS hc hsl hL
  · have h : bk_r32 (-x) ∧ (bif Nat.ble st'.length 4 then _ else False) := h
    rw [Bool.eq_false_iff.mpr (fun q => hle (Nat.le_of_ble_eq_true q))] at h
    exact h.2.elim
end CALLS
