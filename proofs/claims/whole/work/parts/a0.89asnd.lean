def bk_rm (d b : Nat) : Room := { frames := d + 10, cells := b, slots := 6 * b, locals := 100 * (d + 10) }
theorem bk_me_len : bk_me.length = 287 := by decide +kernel
theorem bk_m_in {μ : Nat} (h : μ < 287) : bk_m μ ∈ bk_me := by
  have h2 : μ < bk_me.length := by rw [bk_me_len]; exact h
  unfold bk_m
  rw [List.getD_eq_getElem?_getD, List.getElem?_eq_getElem h2]
  exact List.getElem_mem h2
theorem bk_in_mem {w : Cond} {P : List bk_Me} {T : List Cond} (hf : T.filter bk_isC = P.map bk_mw) {x : bk_Me} (hx : x ∈ P) (hw : w = bk_mw x) : w ∈ T := by
  have h1 : w ∈ P.map bk_mw := List.mem_map.mpr ⟨x, hx, hw.symm⟩
  rw [← hf] at h1
  exact (List.mem_filter.mp h1).1
theorem bk_mw_t {x : bk_Me} (h : x ∈ bk_me) : bk_mw x ∈ tables_1 := by
  have h := bk_me_T h
  unfold bk_meT at h
  simp only [List.mem_append] at h
  unfold tables_1
  rcases h with ((((((h | h) | h) | h) | h) | h) | h) | h
  · exact List.mem_append_left _ (bk_in_mem bk_me1_in h rfl)
  · exact List.mem_append_right _ (List.mem_append_right _ (List.mem_append_left _ (bk_in_mem bk_me3_in h rfl)))
  · exact List.mem_append_right _ (List.mem_append_right _ (List.mem_append_right _ (List.mem_append_left _ (bk_in_mem bk_me4_in h rfl))))
  · exact List.mem_append_right _ (List.mem_append_right _ (List.mem_append_right _ (List.mem_append_right _ (List.mem_append_left _ (bk_in_mem bk_me5_in h rfl)))))
  · exact List.mem_append_right _ (List.mem_append_right _ (List.mem_append_right _ (List.mem_append_right _ (List.mem_append_right _ (List.mem_append_left _ (bk_in_mem bk_me6_in h rfl))))))
  · exact List.mem_append_right _ (List.mem_append_right _ (List.mem_append_right _ (List.mem_append_right _ (List.mem_append_right _ (List.mem_append_right _ (List.mem_append_left _ (bk_in_mem bk_me7_in h rfl)))))))
  · exact List.mem_append_right _ (List.mem_append_right _ (List.mem_append_right _ (List.mem_append_right _ (List.mem_append_right _ (List.mem_append_right _ (List.mem_append_right _ (List.mem_append_left _ (bk_in_mem bk_me8_in h rfl))))))))
  · exact List.mem_append_right _ (List.mem_append_right _ (List.mem_append_right _ (List.mem_append_right _ (List.mem_append_right _ (List.mem_append_right _ (List.mem_append_right _ (List.mem_append_right _ (bk_in_mem bk_me9_in h rfl))))))))
theorem bk_mw_W {μ : Nat} (h : μ < 287) : bk_mw (bk_m μ) ∈ bk_W := bk_W_of (bk_mw_t (bk_m_in h)) rfl
theorem bk_W_good {w : Cond} (h : w ∈ bk_W) : (w.onTables && w.keeps) = true ∨ ∃ ty, w = .arrayClass ty := good_of_word (List.mem_filter.mp h).2
theorem bk_good {ws : List Cond} (h : ∀ w ∈ ws, w ∈ bk_W) : GoodIn bk_W ws := fun w hw => ⟨h w hw, bk_W_good (h w hw)⟩
/-- a method's words: its own code, and the tables' -/
def bk_wsm (μ : Nat) : List Cond := bk_mw (bk_m μ) :: bk_W
theorem bk_wsm_in {μ : Nat} (h : μ < 287) : ∀ w ∈ bk_wsm μ, w ∈ bk_W := fun w hw => (List.mem_cons.mp hw).elim (fun q => q ▸ bk_mw_W h) fun q => q
set_option maxRecDepth 20000 in
theorem bk_me_ok : ∀ x ∈ bk_me, x.1.cls = bk_R x.2.2.2.2.2.1 ∧ plainName x.1.cls = true ∧ (x.1.cls ≠ "java/lang/invoke/MethodHandle" ∧ x.1.cls ≠ "java/lang/invoke/VarHandle") ∧ (parseMethodDescriptor x.1.desc).map (fun d => d.parameters.length) = some (x.2.2.2.2.2.2 - (if x.2.2.2.2.1 = true then 0 else 1)) ∧ x.2.2.1 ≤ 50 ∧ x.2.2.2.2.2.1 ∈ bk_ini ∧ (x.2.2.2.2.1 = false → 1 ≤ x.2.2.2.2.2.2 ∧ x.2.2.2.2.2.1 < 13) := by decide +kernel
theorem bk_ini_W {c : Nat} (h : c ∈ bk_ini) : Cond.initialized (bk_R c) ∈ bk_W := bk_W_of (bk_sub_mem bk_ini_in _ (List.mem_map.mpr ⟨c, h, rfl⟩)) rfl
theorem bk_lw_W {x : Nat × Nat × Nat} (h : x ∈ bk_ml) : bk_lw x ∈ bk_W := bk_W_of (bk_sub_mem bk_ml_in _ (List.mem_map.mpr ⟨x, h, rfl⟩)) rfl
theorem bk_i_W {μ : Nat} (h : μ ∈ bk_iT) : Cond.instanceMethod (bk_m μ).1 ∈ bk_W := bk_W_of (bk_sub_mem bk_iT_in _ (List.mem_map.mpr ⟨μ, h, rfl⟩)) rfl
theorem bk_t_W {μ : Nat} (h : μ ∈ bk_tT) : Cond.static (bk_m μ).1 ∈ bk_W := bk_W_of (bk_sub_mem bk_tT_in _ (List.mem_map.mpr ⟨μ, h, rfl⟩)) rfl
theorem bk_s_W {μ : Nat} (h : μ ∈ bk_sT ∨ μ ∈ bk_sP) : bk_ms (bk_m μ) ∈ bk_W := by
  rcases h with h | h
  · exact bk_W_of (bk_sub_mem bk_sT_in _ (List.mem_map.mpr ⟨μ, h, rfl⟩)) rfl
  · exact bk_W_of2 (bk_sub_mem bk_sP_in _ (List.mem_map.mpr ⟨μ, h, rfl⟩)) rfl
theorem bk_rt_ok : ∀ x ∈ bk_me, x.2.2.2.1 = none ∨ x.2.2.2.1 = some .int ∨ x.2.2.2.1 = some .boolean ∨ x.2.2.2.1 = some .long := by decide +kernel
theorem bk_aux100 {d x : Nat} (h : x ≤ 50) : 8 + (x + 11) + 100 * (d + 10) ≤ 100 * (d + 11) := by omega
section SNDC
variable {p : Program} {l : Launch} {e : Env} {R : Room} {s : State} {m : MethodId} {args : Array Value} {below : List Frame} {meth : Method} {c : Code} {cc : ByteArray} {own : Nat}
variable {ba : bk_B} {b0 : Nat} {aK : Nat → Nat} {cA : Nat → ClassId} {D : va_G} {sc : Nat → Int → Int} {nL mc ms : Nat} {Z : State → Prop}
variable {Q : bk_Q} {K : bk_K} {b pc : Nat} {ls st : List bk_V} {M : bk_M}
/-- behind a call -/
theorem bk_call {H : Heap} {locs : List Loc} {cells slots : Nat} {lsr : Array Slot} {st0 rest : List Value} {rt : Option FieldType} {a : Array Value} {Q' : bk_Q}
    (hr : va_Run p l e R s m args below meth c H locs cells slots 0 0 (F0 m pc lsr st0) rest (bk_Qc rt ba cA D sc Q' a) (bk_A ba)) (hS : va_S (bk_A ba) s.heap H locs)
    (kk : ∀ (r : Int) (M' : bk_M) (H1 : Heap) (locs1 : List Loc), Q' 0 r M' → bk_rok rt r → bk_okm ba M' → M' 13 = sc → va_P D vwCl (bk_ws ba cA M') H1 → va_S (bk_A ba) s.heap H1 locs1 →
      W p l e R s m args below meth c H1 locs1 cells slots Z (F0 m (pc + 3) lsr ((bk_rval rt r).toList ++ rest))) : W p l e R s m args below meth c H locs cells slots Z (F0 m pc lsr st0) := by
  intro T hT X
  obtain ⟨v, st₀, t, T', L, h0, X', hL, e1, e2, ⟨r, M', q1, q2, q3, q4, q5, q6, hz, hk⟩, stp⟩ := hr T hT X
  cases q5
  rw [h0] at hz hk
  obtain ⟨t2, a1, b1⟩ := kk r M' T'.heap (locs ++ L) q1 q2 q3 q4 (by rw [e1]; exact q6)
    ⟨Nat.le_trans hS.1 (by rw [e1]; exact hz), fun q h1 h2 => by rw [e1, hk q (Nat.lt_of_lt_of_le h1 hS.1) h2]; exact hS.2.1 q h1 h2, fun q hq => by
      rcases List.mem_append.mp hq with h | h
      · exact hS.2.2 q h
      · exact hL q h⟩ T' rfl X'
  exact ⟨t2, stp t2 a1, b1⟩
/-- the contracts of all methods, so deep -/
def bk_S (l : Launch) (ba : bk_B) (b0 : Nat) (aK : Nat → Nat) (cA : Nat → ClassId) (D : va_G) (sc : Nat → Int → Int) (d : Nat) : Prop :=
  ∀ (μ : Nat) (as : List bk_V) (M : bk_M) (Q : bk_Q), μ < 287 → bk_C d 0 μ as M Q → bk_wd as ≤ (bk_m μ).2.2.1 → (∀ v ∈ as, bk_okv ba v) → bk_okm ba M → M 13 = sc →
    Met l (bk_m μ).1 (bk_wsm μ) (bk_rm d 0) (bk_Pc ba b0 aK cA D sc as M) (bk_Qc (bk_m μ).2.2.2.1 ba cA D sc Q) 0 0 (bk_A ba)
theorem bk_push_rv {rt : Option FieldType} {r : Int} {n : Nat} {st : List bk_V} (h : n = (match rt with | none => 0 | some .int => 1 | some .boolean => 1 | some .long => 2 | _ => 3)) (hn : n < 3) :
    (bk_rval rt r).toList ++ st.map (bk_rv ba b0 aK) = (bk_push n r st).map (bk_rv ba b0 aK) ∧ (bk_rok rt r → (∀ v ∈ st, bk_okv ba v) → ∀ v ∈ bk_push n r st, bk_okv ba v) := by
  cases rt with
  | none => subst h; exact ⟨rfl, fun _ h => h⟩
  | some ty =>
    cases ty <;> simp only at h <;> first
    | omega
    | (subst h; exact ⟨rfl, fun h1 h2 => bk_ocons h1 h2⟩)
/-- a call of a method of the class or the reference -/
theorem bk_s_call {d : Nat} (hI : bk_S l ba b0 aK cA D sc d) {n : Nat} {r : Instr} {rt0 : Option FieldType} {nL0 : Nat} (C0 : bk_Cx p R s m args c cc own nL ba b0 aK cA D sc) (hRd : d + 11 ≤ R.frames ∧ 100 * (d + 11) ≤ R.locals) (hmc : mc ≤ R.cells ∧ ms ≤ R.slots)
    (hck : bk_ck own rt0 nL0 pc r 3 (.invokestatic n) = true) (hd : decode cc pc = .ok (r, 3)) (h : bk_op (bk_C d) (bk_X p l e R s m args below meth c ba b0 aK cA D sc nL mc ms Z) Q (.invokestatic n) K b ls st M) (hk : ∀ b ls st M, K b ls st M → bk_X p l e R s m args below meth c ba b0 aK cA D sc nL mc ms Z b (pc + 3) ls st M) : bk_X p l e R s m args below meth c ba b0 aK cA D sc nL mc ms Z b pc ls st M := by
  have C1 := C0
  obtain ⟨hx, hb, hml, hown, hts, hK, hSt, hR⟩ := C0
  simp only [bk_op] at h
  split at h
  · rename_i as st' htk
    obtain ⟨l0, hl1, hl2, hl3⟩ := bk_take_eq _ _ _ _ _ htk
    simp only [List.append_nil] at hl2
    by_cases hcond : (Nat.ble st'.length 4 && bk_rcv (n / 32768 % 16) as && Nat.beq (bk_wd as) (n / 524288)) = true
    rotate_left
    · rw [Bool.eq_false_iff.mpr hcond] at h
      exact h.elim
    rw [hcond] at h
    simp only [cond_true] at h
    rw [Bool.and_eq_true, Bool.and_eq_true] at hcond
    have hle := Nat.le_of_ble_eq_true hcond.1.1
    have hrc := hcond.1.2
    have hwd := nb_beqT hcond.2
    simp only [bk_ck, Bool.and_eq_true, decide_eq_true_eq] at hck
    obtain ⟨⟨-, k1, k0, k2, k3, k4⟩, hck2⟩ := hck
    generalize hμ : n / 64 % 512 = μ at *
    have hμ1 : μ < 287 := by rw [← bk_me_len]; exact k2
    obtain ⟨m1, m2, m3, m4, m5, m6, m7⟩ := bk_me_ok _ (bk_m_in hμ1)
    intro hs hl hn hM h13 H locs cells slots lsr hP hS hc hsl hL
    have hst : st.map (bk_rv ba b0 aK) = (as.map (bk_rv ba b0 aK)).reverse ++ st'.map (bk_rv ba b0 aK) := by rw [hl1, hl2, List.map_append, ← List.map_reverse, List.reverse_reverse]
    have has : ∀ v ∈ as, bk_okv ba v := fun v hv => hs v (by rw [hl1]; exact List.mem_append_left _ (by rw [hl2] at hv; exact List.mem_reverse.mp hv))
    have hs' : ∀ w ∈ st', bk_okv ba w := fun w hw => hs w (by rw [hl1]; exact List.mem_append_right _ hw)
    have hasl : as.length = (bk_m μ).2.2.2.2.2.2 := by rw [hl2, List.length_reverse, hl3, k3]
    have hM1 := hI μ as M _ hμ1 h (by rw [hwd]; exact k0) has hM h13
    have hcat := bk_cats (ba := ba) (b0 := b0) (aK := aK) st'
    have hn3 : n % 4 < 3 := by
      have h5 : n % 4 < 4 := Nat.mod_lt _ (by omega)
      have h6 : n % 4 ≠ 3 := by
        intro q
        rw [q] at k4
        have h7 := bk_rt_ok _ (bk_m_in hμ1)
        rcases h7 with z | z | z | z <;> rw [z] at k4 <;> simp at k4
      omega
    have hpush := fun r => bk_push_rv (ba := ba) (b0 := b0) (aK := aK) (r := r) (st := st') k4 hn3
    have hroom : (bk_rm d 0).frames + 1 ≤ R.frames ∧ 8 + ((bk_m μ).2.2.1 + 11) + (bk_rm d 0).locals ≤ R.locals := by
      exact ⟨hRd.1, Nat.le_trans (bk_aux100 m5) hRd.2⟩
    have hini : Cond.initialized (bk_m μ).1.cls ∈ bk_W := by rw [m1]; exact bk_ini_W m6
    have go : ∀ {a : Array Value} {st0 : List Value}, va_Run p l e R s m args below meth c H locs cells slots 0 0 (F0 m pc lsr st0) (st'.map (bk_rv ba b0 aK)) (bk_Qc (bk_m μ).2.2.2.1 ba cA D sc (fun t r M' => t = 0 ∧ K b ls (bk_push (n % 4) r st') M') a) (bk_A ba) → W p l e R s m args below meth c H locs cells slots Z (F0 m pc lsr st0) := by
      intro a st0 hr
      refine bk_call hr hS (fun r M' H1 locs1 q1 q2 q3 q4 q5 q6 => ?_)
      rw [(hpush r).1]
      exact hk _ _ _ _ q1.2 ((hpush r).2 q2 hs') hl hn q3 q4 H1 locs1 cells slots lsr q5 q6 hc hsl hL
    have hPic : ∀ U : State, U.heap = H → s.WarmedH U.vm → bk_Pic ba b0 aK cA D sc M U := by
      intro U hU hW
      refine ⟨by rw [hU]; exact hP, va_K.moved hW.alike hK, hM, h13, ?_, ?_⟩
      · rw [hU]; exact bk_St.warm hW (bk_St.kept hSt hS.1 hS.2.1)
      · exact ⟨by have := hR.2.2.1; have := hS.1; rw [hU]; omega, hR.2.2.2⟩
    rw [hst]
    have hF : CallFix p m c cc nL s args bk_W (bk_R own) := ⟨hx, hb, hml, hown, hts⟩
    cases r <;> simp only [Bool.false_eq_true, decide_eq_true_eq] at hck2
    case invokestatic k =>
      obtain ⟨s1, s2, s3⟩ := hck2
      rw [if_pos s1] at m4
      rcases s3 with s3 | s3
      · refine go (va_runS (As := as.map (bk_rv ba b0 aK)) hF hM1 (va_cwS _ hts (bk_good fun w hw => ?_) rfl rfl rfl ⟨m3.1, m3.2, m4⟩ hroom) ⟨bk_Pc_blind, fun U hU hW => ⟨rfl, hPic U hU hW⟩⟩ rfl (by rw [List.length_map, hasl]; omega) hL.1 rfl (lv_room (by omega)) hd ⟨by omega, by omega⟩)
        unfold va_wsS at hw
        rcases List.mem_append.mp hw with hw | hw
        · simp only [List.mem_cons, List.not_mem_nil, or_false] at hw
          rcases hw with rfl | rfl | rfl
          · exact bk_lw_W s3
          · exact bk_t_W s2
          · exact hini
        · exact bk_wsm_in hμ1 w hw
      · refine go (va_runSN (As := as.map (bk_rv ba b0 aK)) (host := "BanksDealt") hF hM1 ⟨va_cnB _ hts (bk_good (bk_wsm_in hμ1)) rfl rfl rfl (hSt.2.1 _ s3) (hts _ hini) ⟨m3.1, m3.2, m4⟩ hroom, hts _ (bk_t_W s2), trivial⟩ ⟨bk_Pc_blind, fun U hU hW => ⟨rfl, hPic U hU hW⟩⟩ rfl (by rw [List.length_map, hasl]; omega) hL.1 rfl (lv_room (by omega)) hd ⟨by omega, by omega⟩)
    case invokevirtual k =>
      obtain ⟨s1, s2, s3, s4⟩ := hck2
      rw [if_neg (by rw [s1]; decide)] at m4
      obtain ⟨m8, m9⟩ := m7 s1
      rw [if_neg (by rw [s1]; decide)] at k1
      rw [k1] at hrc
      cases as with
      | nil => rw [← hasl] at m8; exact absurd m8 (by decide)
      | cons v0 as' =>
        rcases v0 with z | z | ⟨k0, i0⟩
        · cases hrc
        · cases hrc
        · have hk0 : k0 = (bk_m μ).2.2.2.2.2.1 := nb_beqT hrc
          have hk13 : k0 < 13 := by rw [hk0]; exact m9
          have hq := bk_obj (has (.inr (.inr (k0, i0))) (by simp)) hk13
          have eW := bk_ws_at (ba := ba) (cA := cA) (M := M) hq
          rw [bk_en_o hk13] at eW
          have hrecv := va_recv hK hP (bk_cl k0 hk13) eW
          rw [List.map_cons, List.reverse_cons, List.append_assoc]
          show W p l e R s m args below meth c H locs cells slots Z (F0 m pc lsr ((as'.map (bk_rv ba b0 aK)).reverse ++ (.ref (bk_ad ba b0 aK k0 i0) :: st'.map (bk_rv ba b0 aK))))
          rw [bk_ad_lay hR.2.2.2 hq]
          have hcls : (bk_m μ).1.cls = bk_R k0 := by rw [m1, hk0]
          refine go (va_runV (C := bk_R k0) (b := ba.1 + bk_off ba k0 i0) (As := as'.map (bk_rv ba b0 aK)) hF hM1 (cwV _ hts (bk_good fun w hw => ?_) rfl rfl rfl ⟨hcls, m3.1, m3.2, m4⟩ hroom) ⟨bk_Pc_blind, hrecv, fun U hU hW => ⟨by rw [List.map_cons]; exact congrArg (fun z => (Value.ref z :: as'.map (bk_rv ba b0 aK)).toArray) (bk_ad_lay hR.2.2.2 hq).symm, hPic U hU hW⟩⟩ rfl (by rw [List.length_map]; simp only [List.length_cons] at hasl; omega) hL.1 rfl (lv_room (by omega)) hd ⟨by omega, by omega⟩)
          unfold wsV at hw
          rcases List.mem_append.mp hw with hw | hw
          · simp only [List.mem_cons, List.not_mem_nil, or_false] at hw
            rcases hw with rfl | rfl | rfl | rfl
            · exact bk_lw_W s4
            · exact bk_i_W s2
            · have := bk_s_W s3; unfold bk_ms at this; rw [hcls] at this; exact this
            · rw [← hcls]; exact hini
          · exact bk_wsm_in hμ1 w hw
  · exact h.elim
end SNDC
