/-- what is asked of the texts' length and charAt -/
def bk_Tx (l : Launch) (ba : bk_B) (b0 : Nat) (aK : Nat → Nat) (cA : Nat → ClassId) (D : va_G) (sc : Nat → Int → Int) : Prop := ∀ (p : Program) (e : Env) (R : Room) (s : State) (m : MethodId) (args : Array Value) (below : List Frame) (meth : Method) (c : Code) (cc : ByteArray) (own nL mc ms : Nat) (Z : State → Prop) (Ca : bk_Ca) (Q : bk_Q) (K : bk_K) (b pc : Nat) (ls st : List bk_V) (M : bk_M) (j k : Nat),
  bk_Cx p R s m args c cc own nL ba b0 aK cA D sc → 10 ≤ R.frames → 1000 ≤ R.locals → mc ≤ R.cells ∧ ms ≤ R.slots → (j = 4 ∧ (own, k) ∈ bk_pl4 ∨ j = 5 ∧ (own, k) ∈ bk_pl5) → decode cc pc = .ok (.invokevirtual k, 3) → bk_op Ca (bk_X p l e R s m args below meth c ba b0 aK cA D sc nL mc ms Z) Q (.invokevirtual j) K b ls st M → (∀ b ls st M, K b ls st M → bk_X p l e R s m args below meth c ba b0 aK cA D sc nL mc ms Z b (pc + 3) ls st M) → bk_X p l e R s m args below meth c ba b0 aK cA D sc nL mc ms Z b pc ls st M
section FIN
variable {p : Program} {l : Launch} {e : Env} {R : Room} {s : State} {m : MethodId} {args : Array Value} {below : List Frame} {meth : Method} {c : Code} {cc : ByteArray} {own : Nat}
variable {ba : bk_B} {b0 : Nat} {aK : Nat → Nat} {cA : Nat → ClassId} {D : va_G} {sc : Nat → Int → Int} {nL mc ms : Nat} {Z : State → Prop}
variable {Q : bk_Q}
/-- one instruction of a table -/
theorem bk_one {d : Nat} (hI : bk_S l ba b0 aK cA D sc d) (hTx : bk_Tx l ba b0 aK cA D sc) {rt : Option FieldType} (C0 : bk_Cx p R s m args c cc own nL ba b0 aK cA D sc) (hZ : bk_Zs p l e R s m args below meth c cc rt ba cA D sc nL mc ms Q Z) (hRd : d + 11 ≤ R.frames ∧ 100 * (d + 11) ≤ R.locals) (hmc : mc ≤ R.cells ∧ ms ≤ R.slots)
    {i r : Instr} {len pc b : Nat} {ls st : List bk_V} {M : bk_M} {K : bk_K} (hck : bk_ck own rt nL pc r len i = true) (hd : decode cc pc = .ok (r, len)) (h : bk_op (bk_C d) (bk_X p l e R s m args below meth c ba b0 aK cA D sc nL mc ms Z) Q i K b ls st M) (hk : ∀ b ls st M, K b ls st M → bk_X p l e R s m args below meth c ba b0 aK cA D sc nL mc ms Z b (pc + len) ls st M) : bk_X p l e R s m args below meth c ba b0 aK cA D sc nL mc ms Z b pc ls st M := by
  cases i
  case iadd =>
    simp only [bk_ck, decide_eq_true_eq] at hck
    obtain ⟨rfl, rfl⟩ := hck
    exact bk_s_iadd C0 hd h hk
  case isub =>
    simp only [bk_ck, decide_eq_true_eq] at hck
    obtain ⟨rfl, rfl⟩ := hck
    exact bk_s_isub C0 hd h hk
  case imul =>
    simp only [bk_ck, decide_eq_true_eq] at hck
    obtain ⟨rfl, rfl⟩ := hck
    exact bk_s_imul C0 hd h hk
  case dadd =>
    simp only [bk_ck, decide_eq_true_eq] at hck
    obtain ⟨rfl, rfl⟩ := hck
    exact bk_s_dadd C0 hd h hk
  case dmul =>
    simp only [bk_ck, decide_eq_true_eq] at hck
    obtain ⟨rfl, rfl⟩ := hck
    exact bk_s_dmul C0 hd h hk
  case dsub =>
    simp only [bk_ck, decide_eq_true_eq] at hck
    obtain ⟨rfl, rfl⟩ := hck
    exact bk_s_dsub C0 hd h hk
  case fadd =>
    simp only [bk_ck, decide_eq_true_eq] at hck
    obtain ⟨rfl, rfl⟩ := hck
    exact bk_s_fadd C0 hd h hk
  case fmul =>
    simp only [bk_ck, decide_eq_true_eq] at hck
    obtain ⟨rfl, rfl⟩ := hck
    exact bk_s_fmul C0 hd h hk
  case idiv =>
    simp only [bk_ck, decide_eq_true_eq] at hck
    obtain ⟨rfl, rfl⟩ := hck
    exact bk_s_idiv C0 hd h hk
  case irem =>
    simp only [bk_ck, decide_eq_true_eq] at hck
    obtain ⟨rfl, rfl⟩ := hck
    exact bk_s_irem C0 hd h hk
  case ineg =>
    simp only [bk_ck, decide_eq_true_eq] at hck
    obtain ⟨rfl, rfl⟩ := hck
    exact bk_s_ineg C0 hd h hk
  case ishl =>
    simp only [bk_ck, decide_eq_true_eq] at hck
    obtain ⟨rfl, rfl⟩ := hck
    exact bk_s_ishl C0 hd h hk
  case ishr =>
    simp only [bk_ck, decide_eq_true_eq] at hck
    obtain ⟨rfl, rfl⟩ := hck
    exact bk_s_ishr C0 hd h hk
  case iushr =>
    simp only [bk_ck, decide_eq_true_eq] at hck
    obtain ⟨rfl, rfl⟩ := hck
    exact bk_s_iushr C0 hd h hk
  case iand =>
    simp only [bk_ck, decide_eq_true_eq] at hck
    obtain ⟨rfl, rfl⟩ := hck
    exact bk_s_iand C0 hd h hk
  case ior =>
    simp only [bk_ck, decide_eq_true_eq] at hck
    obtain ⟨rfl, rfl⟩ := hck
    exact bk_s_ior C0 hd h hk
  case ixor =>
    simp only [bk_ck, decide_eq_true_eq] at hck
    obtain ⟨rfl, rfl⟩ := hck
    exact bk_s_ixor C0 hd h hk
  case ladd =>
    simp only [bk_ck, decide_eq_true_eq] at hck
    obtain ⟨rfl, rfl⟩ := hck
    exact bk_s_ladd C0 hd h hk
  case lsub =>
    simp only [bk_ck, decide_eq_true_eq] at hck
    obtain ⟨rfl, rfl⟩ := hck
    exact bk_s_lsub C0 hd h hk
  case lmul =>
    simp only [bk_ck, decide_eq_true_eq] at hck
    obtain ⟨rfl, rfl⟩ := hck
    exact bk_s_lmul C0 hd h hk
  case ldiv =>
    simp only [bk_ck, decide_eq_true_eq] at hck
    obtain ⟨rfl, rfl⟩ := hck
    exact bk_s_ldiv C0 hd h hk
  case lrem =>
    simp only [bk_ck, decide_eq_true_eq] at hck
    obtain ⟨rfl, rfl⟩ := hck
    exact bk_s_lrem C0 hd h hk
  case lshl =>
    simp only [bk_ck, decide_eq_true_eq] at hck
    obtain ⟨rfl, rfl⟩ := hck
    exact bk_s_lshl C0 hd h hk
  case lshr =>
    simp only [bk_ck, decide_eq_true_eq] at hck
    obtain ⟨rfl, rfl⟩ := hck
    exact bk_s_lshr C0 hd h hk
  case land =>
    simp only [bk_ck, decide_eq_true_eq] at hck
    obtain ⟨rfl, rfl⟩ := hck
    exact bk_s_land C0 hd h hk
  case lor =>
    simp only [bk_ck, decide_eq_true_eq] at hck
    obtain ⟨rfl, rfl⟩ := hck
    exact bk_s_lor C0 hd h hk
  case lcmp =>
    simp only [bk_ck, decide_eq_true_eq] at hck
    obtain ⟨rfl, rfl⟩ := hck
    exact bk_s_lcmp C0 hd h hk
  case i2l =>
    simp only [bk_ck, decide_eq_true_eq] at hck
    obtain ⟨rfl, rfl⟩ := hck
    exact bk_s_i2l C0 hd h hk
  case l2i =>
    simp only [bk_ck, decide_eq_true_eq] at hck
    obtain ⟨rfl, rfl⟩ := hck
    exact bk_s_l2i C0 hd h hk
  case dup =>
    simp only [bk_ck, decide_eq_true_eq] at hck
    obtain ⟨rfl, rfl⟩ := hck
    exact bk_s_dup C0 hd h hk
  case dup2 =>
    simp only [bk_ck, decide_eq_true_eq] at hck
    obtain ⟨rfl, rfl⟩ := hck
    exact bk_s_dup2 C0 hd h hk
  case pop =>
    simp only [bk_ck, decide_eq_true_eq] at hck
    obtain ⟨rfl, rfl⟩ := hck
    exact bk_s_pop C0 hd h hk
  case iaload =>
    simp only [bk_ck, decide_eq_true_eq] at hck
    obtain ⟨rfl, rfl⟩ := hck
    exact bk_s_iaload C0 hd h hk
  case laload =>
    simp only [bk_ck, decide_eq_true_eq] at hck
    obtain ⟨rfl, rfl⟩ := hck
    exact bk_s_laload C0 hd h hk
  case baload =>
    simp only [bk_ck, decide_eq_true_eq] at hck
    obtain ⟨rfl, rfl⟩ := hck
    exact bk_s_baload C0 hd h hk
  case aaload =>
    simp only [bk_ck, decide_eq_true_eq] at hck
    obtain ⟨rfl, rfl⟩ := hck
    exact bk_s_aaload C0 hd h hk
  case iastore =>
    simp only [bk_ck, decide_eq_true_eq] at hck
    obtain ⟨rfl, rfl⟩ := hck
    exact bk_s_iastore C0 hd h hk
  case lastore =>
    simp only [bk_ck, decide_eq_true_eq] at hck
    obtain ⟨rfl, rfl⟩ := hck
    exact bk_s_lastore C0 hd h hk
  case bastore =>
    simp only [bk_ck, decide_eq_true_eq] at hck
    obtain ⟨rfl, rfl⟩ := hck
    exact bk_s_bastore C0 hd h hk
  case arraylength =>
    simp only [bk_ck, decide_eq_true_eq] at hck
    obtain ⟨rfl, rfl⟩ := hck
    exact bk_s_arraylength C0 hd h hk
  case saload =>
    simp only [bk_ck, decide_eq_true_eq] at hck
    obtain ⟨rfl, rfl⟩ := hck
    exact bk_s_saload C0 hd h hk
  case swap =>
    simp only [bk_ck, decide_eq_true_eq] at hck
    obtain ⟨rfl, rfl⟩ := hck
    exact bk_s_swap C0 hd h hk
  case ireturn =>
    simp only [bk_ck, decide_eq_true_eq] at hck
    obtain ⟨rfl, rfl, q⟩ := hck
    exact bk_s_ireturn hZ q hd h
  case freturn =>
    simp only [bk_ck, decide_eq_true_eq] at hck
    obtain ⟨rfl, rfl, q⟩ := hck
    exact bk_s_freturn hZ q hd h
  case lreturn =>
    simp only [bk_ck, decide_eq_true_eq] at hck
    obtain ⟨rfl, rfl, q⟩ := hck
    exact bk_s_lreturn hZ q hd h
  case return_ =>
    simp only [bk_ck, decide_eq_true_eq] at hck
    obtain ⟨rfl, rfl, q⟩ := hck
    exact bk_s_return_ hZ q hd h
  case iload n =>
    simp only [bk_ck] at hck
    split at hck
    · simp only [decide_eq_true_eq] at hck
      obtain ⟨rfl, rfl⟩ := hck
      exact bk_s_iload C0 hd h hk
    · simp only [decide_eq_true_eq] at hck
      obtain ⟨q, rfl⟩ := hck
      exact bk_s_iload_n C0 q hd h hk
    · cases hck
  case lload n =>
    simp only [bk_ck] at hck
    split at hck
    · simp only [decide_eq_true_eq] at hck
      obtain ⟨rfl, rfl⟩ := hck
      exact bk_s_lload C0 hd h hk
    · simp only [decide_eq_true_eq] at hck
      obtain ⟨q, rfl⟩ := hck
      exact bk_s_lload_n C0 q hd h hk
    · cases hck
  case aload n =>
    simp only [bk_ck] at hck
    split at hck
    · simp only [decide_eq_true_eq] at hck
      obtain ⟨rfl, rfl⟩ := hck
      exact bk_s_aload C0 hd h hk
    · simp only [decide_eq_true_eq] at hck
      obtain ⟨q, rfl⟩ := hck
      exact bk_s_aload_n C0 q hd h hk
    · cases hck
  case istore n =>
    simp only [bk_ck] at hck
    split at hck
    · simp only [decide_eq_true_eq] at hck
      obtain ⟨rfl, rfl, q2⟩ := hck
      exact bk_s_istore C0 q2 hd h hk
    · simp only [decide_eq_true_eq] at hck
      obtain ⟨q, rfl, q2⟩ := hck
      exact bk_s_istore_n C0 q q2 hd h hk
    · cases hck
  case lstore n =>
    simp only [bk_ck] at hck
    split at hck
    · simp only [decide_eq_true_eq] at hck
      obtain ⟨rfl, rfl, q2⟩ := hck
      exact bk_s_lstore C0 q2 hd h hk
    · simp only [decide_eq_true_eq] at hck
      obtain ⟨q, rfl, q2⟩ := hck
      exact bk_s_lstore_n C0 q q2 hd h hk
    · cases hck
  case astore n =>
    simp only [bk_ck] at hck
    split at hck
    · simp only [decide_eq_true_eq] at hck
      obtain ⟨rfl, rfl, q2⟩ := hck
      exact bk_s_astore C0 q2 hd h hk
    · simp only [decide_eq_true_eq] at hck
      obtain ⟨q, rfl, q2⟩ := hck
      exact bk_s_astore_n C0 q q2 hd h hk
    · cases hck
  case sipush v =>
    simp only [bk_ck] at hck
    split at hck
    · simp only [decide_eq_true_eq] at hck
      obtain ⟨rfl, rfl, q⟩ := hck
      exact bk_s_sipush C0 q hd h hk
    · simp only [decide_eq_true_eq] at hck
      obtain ⟨rfl, rfl, q⟩ := hck
      exact bk_s_bipush C0 q hd h hk
    · simp only [decide_eq_true_eq] at hck
      obtain ⟨rfl, rfl, q⟩ := hck
      exact bk_s_iconst C0 q hd h hk
    · simp only [decide_eq_true_eq] at hck
      obtain ⟨q1, rfl, q⟩ := hck
      exact bk_s_ldc C0 q (C0.2.2.2.2.1 _ (bk_kw_in q1)) hd h hk
    · simp only [decide_eq_true_eq] at hck
      obtain ⟨q1, rfl, q⟩ := hck
      exact bk_s_ldcw C0 q (C0.2.2.2.2.1 _ (bk_kw_in q1)) hd h hk
    · cases hck
  case bipush v =>
    simp only [bk_ck] at hck
    split at hck
    · simp only [decide_eq_true_eq] at hck
      obtain ⟨q, rfl⟩ := hck
      exact bk_s_lconst C0 q hd h hk
    · simp only [decide_eq_true_eq] at hck
      obtain ⟨q1, rfl, q⟩ := hck
      exact bk_s_ldc2 C0 q (C0.2.2.2.2.1 _ (bk_kW_in q1)) hd h hk
    · cases hck
  case ldc k =>
    simp only [bk_ck] at hck
    split at hck
    · simp only [decide_eq_true_eq] at hck
      obtain ⟨q1, rfl, q⟩ := hck
      have hk4 : k < 4 := (List.getElem?_eq_some_iff.mp q).1
      refine bk_s_ldcs C0 q1 hk4 ?_ hd h hk
      match k, hk4, q with
      | 0, _, q => exact Option.some.inj q
      | 1, _, q => exact Option.some.inj q
      | 2, _, q => exact Option.some.inj q
      | 3, _, q => exact Option.some.inj q
    · cases hck
  case iinc n v =>
    by_cases hn0 : n < nL
    · simp only [bk_ck] at hck
      split at hck
      · simp only [decide_eq_true_eq] at hck
        obtain ⟨rfl, rfl, rfl, q⟩ := hck
        exact bk_s_iinc C0 hn0 hd h hk
      · cases hck
    · intro hs hl hn
      simp only [bk_op] at h
      rw [bk_nth_eq, List.getElem?_eq_none (by omega)] at h
      exact h.elim
  case getfield f =>
    simp only [bk_ck] at hck
    split at hck
    · simp only [decide_eq_true_eq] at hck
      obtain ⟨q, rfl⟩ := hck
      exact bk_s_getfield C0 q hd h hk
    · cases hck
  case putfield f =>
    simp only [bk_ck] at hck
    split at hck
    · simp only [decide_eq_true_eq] at hck
      obtain ⟨q, rfl, q2⟩ := hck
      exact bk_s_putfield C0 q q2 hd h hk
    · cases hck
  case if_icmp cm t =>
    simp only [bk_ck] at hck
    split at hck
    · simp only [decide_eq_true_eq] at hck
      obtain ⟨rfl, q1, q2, rfl⟩ := hck
      exact bk_s_if_icmp C0 q1 q2 hd h hk
    · cases hck
  case ifCond cm t =>
    simp only [bk_ck] at hck
    split at hck
    · simp only [decide_eq_true_eq] at hck
      obtain ⟨rfl, q1, q2, rfl⟩ := hck
      exact bk_s_ifCond C0 q1 q2 hd h hk
    · cases hck
  case tableswitch d lo hi ts =>
    simp only [bk_ck] at hck
    split at hck
    · simp only [decide_eq_true_eq] at hck
      obtain ⟨q1, q2, rfl, rfl, q3, q4, q5⟩ := hck
      exact bk_s_tableswitch C0 q1 q2 q3 q4 q5 hd h hk
    · cases hck
  case lookupswitch d ps =>
    simp only [bk_ck] at hck
    split at hck
    · simp only [Bool.and_eq_true, decide_eq_true_eq] at hck
      obtain ⟨⟨q1, q2, q3, q4⟩, q5⟩ := hck
      exact bk_s_lookupswitch C0 q1 q2 q3 q4 q5 hd h hk
    · cases hck
  case invokestatic n =>
    have h3 : len = 3 := by
      have q := hck
      simp only [bk_ck, Bool.and_eq_true, decide_eq_true_eq] at q
      exact q.1.1
    subst h3
    exact bk_s_call hI C0 hRd hmc hck hd h hk
  case invokevirtual n =>
    simp only [bk_ck, Bool.and_eq_true, decide_eq_true_eq] at hck
    obtain ⟨rfl, hck⟩ := hck
    split at hck
    · simp only [decide_eq_true_eq] at hck
      rw [hck.2] at hd
      exact bk_s_copy C0 hck.1 hd h hk
    · simp only [decide_eq_true_eq] at hck
      rw [hck.2] at hd
      exact bk_s_min C0 hck.1 hmc hd h hk
    · simp only [decide_eq_true_eq] at hck
      rw [hck.2] at hd
      exact bk_s_max C0 hck.1 hmc hd h hk
    · simp only [decide_eq_true_eq] at hck
      rw [hck.2] at hd
      exact bk_s_abs C0 hck.1 hmc hd h hk
    · simp only [decide_eq_true_eq] at hck
      rw [hck.2] at hd
      exact hTx p e R s m args below meth c cc own nL mc ms Z _ Q K b pc ls st M 4 _ C0 (by omega) (by omega) hmc (Or.inl ⟨rfl, hck.1⟩) hd h hk
    · simp only [decide_eq_true_eq] at hck
      rw [hck.2] at hd
      exact hTx p e R s m args below meth c cc own nL mc ms Z _ Q K b pc ls st M 5 _ C0 (by omega) (by omega) hmc (Or.inr ⟨rfl, hck.1⟩) hd h hk
    · cases hck
  all_goals cases hck
/-- a stretch of a table -/
theorem bk_all {d : Nat} (hI : bk_S l ba b0 aK cA D sc d) (hTx : bk_Tx l ba b0 aK cA D sc) {rt : Option FieldType} (C0 : bk_Cx p R s m args c cc own nL ba b0 aK cA D sc) (hZ : bk_Zs p l e R s m args below meth c cc rt ba cA D sc nL mc ms Q Z) (hRd : d + 11 ≤ R.frames ∧ 100 * (d + 11) ≤ R.locals) (hmc : mc ≤ R.cells ∧ ms ≤ R.slots) :
    ∀ (is : List Instr) (pc : Nat), bk_chk own rt nL cc pc is = true → ∀ (b : Nat) (ls st : List bk_V) (M : bk_M), bk_run (bk_C d) (bk_X p l e R s m args below meth c ba b0 aK cA D sc nL mc ms Z) Q is b ls st M → bk_X p l e R s m args below meth c ba b0 aK cA D sc nL mc ms Z b pc ls st M := by
  intro is
  induction is with
  | nil => intro pc _ b ls st M h; exact h.elim
  | cons i is ih =>
    intro pc hch b ls st M h
    have h : bk_op (bk_C d) (bk_X p l e R s m args below meth c ba b0 aK cA D sc nL mc ms Z) Q i (bk_run (bk_C d) (bk_X p l e R s m args below meth c ba b0 aK cA D sc nL mc ms Z) Q is) b ls st M := h
    unfold bk_chk at hch
    split at hch
    · rename_i t h0
      rw [Bool.or_eq_true] at hch
      by_cases e0 : (pc : Int) = t
      · have h : bk_X p l e R s m args below meth c ba b0 aK cA D sc nL mc ms Z b t.toNat ls st M := h
        rw [show t.toNat = pc by omega] at h
        exact h
      · rcases hch with q | q
        · exact absurd (of_decide_eq_true q) e0
        · split at q
          · rename_i off hdec
            have q := of_decide_eq_true q
            exact bk_s_goto (Ca := bk_C d) (Q := Q) (K := fun _ _ _ _ => False) C0 q.1 q.2 hdec h (fun _ _ _ _ z => z.elim)
          · cases q
    · have q := of_decide_eq_true hch
      exact bk_s_athrow hZ q.2 h
    · split at hch
      · rename_i r len hdec
        rw [Bool.and_eq_true] at hch
        exact bk_one hI hTx C0 hZ hRd hmc hch.1 hdec h (ih _ hch.2)
      · cases hch
theorem bk_lk_mem : ∀ {P : bk_P} {k : Nat}, bk_lk k P = [] ∨ (k, bk_lk k P) ∈ P
  | [], _ => Or.inl rfl
  | (k2, is) :: P, k => by
    unfold bk_lk
    cases hb : Nat.beq k2 k with
    | true => right; rw [nb_beqT hb]; exact List.mem_cons_self
    | false => exact (bk_lk_mem (P := P) (k := k)).elim Or.inl (fun z => Or.inr (List.mem_cons_of_mem _ z))
/-- a method, from its entry -/
theorem bk_walk {d : Nat} (hI : bk_S l ba b0 aK cA D sc d) (hTx : bk_Tx l ba b0 aK cA D sc) {rt : Option FieldType} (C0 : bk_Cx p R s m args c cc own nL ba b0 aK cA D sc) (hZ : bk_Zs p l e R s m args below meth c cc rt ba cA D sc nL mc ms Q Z) (hRd : d + 11 ≤ R.frames ∧ 100 * (d + 11) ≤ R.locals) (hmc : mc ≤ R.cells ∧ ms ≤ R.slots)
    {P : bk_P} (hP : P.all (fun q => bk_chk own rt nL cc q.1 q.2) = true) {b k : Nat} {ls st : List bk_V} {M : bk_M} (h : bk_wp (bk_C d) P Q b k ls st M) : bk_X p l e R s m args below meth c ba b0 aK cA D sc nL mc ms Z b k ls st M := by
  refine h _ (fun b k ls st M hr => ?_)
  rcases bk_lk_mem (P := P) (k := k) with q | q
  · rw [q] at hr; exact hr.elim
  · exact bk_all hI hTx C0 hZ hRd hmc _ _ (List.all_eq_true.mp hP _ q) b ls st M hr
/-- the entry's locals -/
theorem bk_entry {ba : bk_B} {b0 : Nat} {aK : Nat → Nat} : ∀ (n i : Nat) (as : List bk_V), ∀ q ∈ bk_al ba b0 aK (bk_args n as), (i + q.1, q.2) ∈ lv_args i (as.map (bk_rv ba b0 aK))
  | 0, i, as, q, h => by simp [bk_args, bk_al] at h
  | n + 1, i, [], q, h => by
    obtain ⟨v, h1, h2, h3⟩ := bk_al_mem.mp h
    have key : ∀ (n j : Nat) (v : bk_V), (bk_args n [])[j]? = some v → v = bk_x := by
      intro n
      induction n with
      | zero => intro j v h; simp [bk_args] at h
      | succ n ih =>
        intro j v h
        cases j with
        | zero => simp [bk_args] at h; exact h.symm
        | succ j => exact ih j v (by simpa [bk_args] using h)
    exact absurd (key _ _ _ h1) h2
  | 1, i, w :: as, q, h => by
    obtain ⟨v, h1, h2, h3⟩ := bk_al_mem.mp h
    have h1 : ([w] : List bk_V)[q.1]? = some v := h1
    match hq : q.1, h1 with
    | 0, h1 =>
      simp at h1
      subst h1
      rw [List.map_cons]
      unfold lv_args
      rw [h3]
      exact List.mem_cons_self
    | j + 1, h1 => simp at h1
  | n + 2, i, w :: as, q, h => by
    obtain ⟨v, h1, h2, h3⟩ := bk_al_mem.mp h
    rcases w with z | z | z
    · have h1 : ((.inl z : bk_V) :: bk_args (n + 1) as)[q.1]? = some v := h1
      rw [List.map_cons]
      unfold lv_args
      match hq : q.1, h1 with
      | 0, h1 =>
        simp at h1
        subst h1
        rw [h3]
        exact List.mem_cons_self
      | j + 1, h1 =>
        have h4 := bk_entry (ba := ba) (b0 := b0) (aK := aK) (n + 1) (i + 1) as (j, q.2) (bk_al_mem.mpr ⟨v, by simpa using h1, h2, h3⟩)
        rw [show i + (j + 1) = i + 1 + j by omega]
        exact List.mem_cons_of_mem _ h4
    · have h1 : ((.inr (.inl z) : bk_V) :: bk_x :: bk_args n as)[q.1]? = some v := h1
      rw [List.map_cons]
      unfold lv_args
      match hq : q.1, h1 with
      | 0, h1 =>
        simp at h1
        subst h1
        rw [h3]
        exact List.mem_cons_self
      | 1, h1 => simp at h1; exact absurd h1.symm h2
      | j + 2, h1 =>
        have h4 := bk_entry (ba := ba) (b0 := b0) (aK := aK) n (i + 2) as (j, q.2) (bk_al_mem.mpr ⟨v, by simpa using h1, h2, h3⟩)
        rw [show i + (j + 2) = i + 2 + j by omega]
        exact List.mem_cons_of_mem _ h4
    · have h1 : ((.inr (.inr z) : bk_V) :: bk_args (n + 1) as)[q.1]? = some v := h1
      rw [List.map_cons]
      unfold lv_args
      match hq : q.1, h1 with
      | 0, h1 =>
        simp at h1
        subst h1
        rw [h3]
        exact List.mem_cons_self
      | j + 1, h1 =>
        have h4 := bk_entry (ba := ba) (b0 := b0) (aK := aK) (n + 1) (i + 1) as (j, q.2) (bk_al_mem.mpr ⟨v, by simpa using h1, h2, h3⟩)
        rw [show i + (j + 1) = i + 1 + j by omega]
        exact List.mem_cons_of_mem _ h4
theorem bk_args_len : ∀ (n : Nat) (as : List bk_V), (bk_args n as).length = n
  | 0, _ => rfl
  | n + 1, [] => by
    show (bk_args n []).length + 1 = n + 1
    rw [bk_args_len n []]
  | 1, _ :: _ => rfl
  | n + 2, w :: as => by
    rcases w with z | z | z
    · show (bk_args (n + 1) as).length + 1 = n + 2
      rw [bk_args_len (n + 1) as]
    · show (bk_args n as).length + 1 + 1 = n + 2
      rw [bk_args_len n as]
    · show (bk_args (n + 1) as).length + 1 = n + 2
      rw [bk_args_len (n + 1) as]
theorem bk_args_mem : ∀ (n : Nat) (as : List bk_V) (v : bk_V), v ∈ bk_args n as → v ≠ bk_x → v ∈ as
  | 0, _, v, h, _ => by simp [bk_args] at h
  | n + 1, [], v, h, hx => by
    have h : v ∈ bk_x :: bk_args n [] := h
    exact (List.mem_cons.mp h).elim (fun q => absurd q hx) (fun q => bk_args_mem n [] v q hx)
  | 1, w :: as, v, h, _ => by
    have h : v ∈ [w] := h
    rw [List.mem_singleton.mp h]
    exact List.mem_cons_self
  | n + 2, w :: as, v, h, hx => by
    rcases w with z | z | z
    · have h : v ∈ (.inl z : bk_V) :: bk_args (n + 1) as := h
      exact (List.mem_cons.mp h).elim (fun q => q ▸ List.mem_cons_self) (fun q => List.mem_cons_of_mem _ (bk_args_mem (n + 1) as v q hx))
    · have h : v ∈ (.inr (.inl z) : bk_V) :: bk_x :: bk_args n as := h
      exact (List.mem_cons.mp h).elim (fun q => q ▸ List.mem_cons_self) (fun q => (List.mem_cons.mp q).elim (fun q => absurd q hx) (fun q => List.mem_cons_of_mem _ (bk_args_mem n as v q hx)))
    · have h : v ∈ (.inr (.inr z) : bk_V) :: bk_args (n + 1) as := h
      exact (List.mem_cons.mp h).elim (fun q => q ▸ List.mem_cons_self) (fun q => List.mem_cons_of_mem _ (bk_args_mem (n + 1) as v q hx))
end FIN
