/-- the tables' words that hold at every method -/
def bk_W : List Cond := lw_tbl.filter goodWord
/-- the texts of the constants, their places, and their bytes -/
def bk_tx : Nat → Nat × String
  | 0 => (39, " is left")
  | 1 => (41, " is right")
  | 2 => (43, " is wet")
  | _ => (49, " at ")
/-- the exception's class, and the constructors above it that its own one reaches -/
def bk_nse : String := "java/util/NoSuchElementException"
def bk_dl : List MethodName := [⟨"java/lang/RuntimeException", "<init>", "()V"⟩, ⟨"java/lang/Exception", "<init>", "()V"⟩, ⟨"java/lang/Throwable", "<init>", "()V"⟩]
/-- what stands beside the cells and is never written: the script, the texts, links between nest mates, what a throw needs -/
def bk_St (ba : bk_B) (b0 : Nat) (aK : Nat → Nat) (sc : Nat → Int → Int) (U : State) (H : Heap) : Prop :=
  (va_X b0 (sc 1 0).toNat (fun j => Int32.ofInt (sc 0 j)) U H ∧ b0 < H.size ∧ b0 < ba.1) ∧ (∀ e ∈ bk_nl, va_Nw (bk_nw e) U) ∧
  (∀ i, i < 4 → vk_R RX2 (bk_tx i).1 (bk_tx i).2 (aK i) U) ∧
  (∃ aV : Nat → Nat, vk_S 4 ((List.range 4).map fun i => (bk_txt i).length) ((List.range 4).map fun i => (bk_txt i).map Int32.ofInt) aK aV (bk_A ba) U H) ∧
  vx_Zq Bundle.tN "UNASSIGNED_STACK" Bundle.steD (bk_A ba) U H ∧ vx_Zq Bundle.tN "SUPPRESSED_SENTINEL" Bundle.listD (bk_A ba) U H ∧ va_Z "java/lang/String" "COMPACT_STRINGS" "Z" (.int 1) (bk_A ba) U H ∧ va_Zq "jdk/internal/util/Preconditions" "SIOOBE_FORMATTER" "Ljava/util/function/BiFunction;" (bk_A ba) U H ∧ ((∀ x ∈ bk_dl, va_Nw (.declares x) U) ∧ va_Nw (.castable bk_nse bk_nse) U)
/-- what holds of the method that runs -/
def bk_Cx (p : Program) (R : Room) (s : State) (m : MethodId) (args : Array Value) (c : Code) (cc : ByteArray) (own : Nat) (nL : Nat) (ba : bk_B) (b0 : Nat) (aK : Nat → Nat) (cA : Nat → ClassId) (D : va_G) (sc : Nat → Int → Int) : Prop :=
  p.tables.exec = Jvm.exec ∧ c.code = cc ∧ c.maxLocals = nL ∧ s.vm.findClass (bk_R own) = some m.cls ∧ (∀ w ∈ bk_W, w.before args s = true) ∧ va_K D vwCl (bk_tys cA) s ∧ bk_St ba b0 aK sc s s.heap ∧ (1 ≤ R.frames ∧ 100 ≤ R.locals ∧ s.heap.size ≥ ba.1 ∧ bk_Lay ba)
/-- what holds at a label, on the machine -/
def bk_X (p : Program) (l : Launch) (e : Env) (R : Room) (s : State) (m : MethodId) (args : Array Value) (below : List Frame) (meth : Method) (c : Code) (ba : bk_B) (b0 : Nat) (aK : Nat → Nat) (cA : Nat → ClassId) (D : va_G) (sc : Nat → Int → Int) (nL mc ms : Nat) (Z : State → Prop) : bk_T := fun b pc ls st M =>
  (∀ v ∈ st, bk_okv ba v) → (∀ v ∈ ls, v ≠ bk_x → bk_okv ba v) → ls.length = nL → bk_okm ba M → M 13 = sc →
  ∀ (H : Heap) (locs : List Loc) (cells slots : Nat) (lsr : Array Slot), va_P D vwCl (bk_ws ba cA M) H → va_S (bk_A ba) s.heap H locs → cells + b ≤ mc → slots + 6 * b ≤ ms → lv_has lsr nL (bk_al ba b0 aK ls) →
  W p l e R s m args below meth c H locs cells slots Z (F0 m pc lsr (st.map (bk_rv ba b0 aK)))
theorem bk_ocons {ba : bk_B} {v : bk_V} {st : List bk_V} (h1 : bk_okv ba v) (h2 : ∀ w ∈ st, bk_okv ba w) : ∀ w ∈ v :: st, bk_okv ba w := fun w hw => (List.mem_cons.mp hw).elim (fun q => q ▸ h1) (h2 w)
section SND
variable {p : Program} {l : Launch} {e : Env} {R : Room} {s : State} {m : MethodId} {args : Array Value} {below : List Frame} {meth : Method} {c : Code} {cc : ByteArray} {own : Nat}
variable {ba : bk_B} {b0 : Nat} {aK : Nat → Nat} {cA : Nat → ClassId} {D : va_G} {sc : Nat → Int → Int} {nL mc ms : Nat} {Z : State → Prop}
variable {Ca : bk_Ca} {Q : bk_Q} {K : bk_K} {b pc : Nat} {ls st : List bk_V} {M : bk_M}
theorem bk_s_iadd (C0 : bk_Cx p R s m args c cc own nL ba b0 aK cA D sc) (hd : decode cc pc = .ok (.iadd, 1)) (h : bk_op Ca (bk_X p l e R s m args below meth c ba b0 aK cA D sc nL mc ms Z) Q (.iadd) K b ls st M) (hk : ∀ b ls st M, K b ls st M → bk_X p l e R s m args below meth c ba b0 aK cA D sc nL mc ms Z b (pc + 1) ls st M) : bk_X p l e R s m args below meth c ba b0 aK cA D sc nL mc ms Z b pc ls st M := by
  obtain ⟨hx, hb, hml, hown, hts, hK, hSt, hR⟩ := C0
  simp only [bk_op] at h
  split at h
  · rename_i y x st'
    intro hs hl hn hM h13 H locs cells slots lsr hP hS hc hsl hL
    have hy : bk_r32 y := hs (.inl y) (by simp)
    have hx0 : bk_r32 x := hs (.inl x) (by simp)
    have hs' : ∀ w ∈ st', bk_okv ba w := fun w hw => hs w (by simp [hw])
    refine lv_iadd hx hb hd ?_
    rw [← Int32.ofInt_add]
    exact hk _ _ _ _ h.2 (bk_ocons h.1 hs') hl hn hM h13 H locs cells slots lsr hP hS hc hsl hL
  · exact h.elim
theorem bk_s_isub (C0 : bk_Cx p R s m args c cc own nL ba b0 aK cA D sc) (hd : decode cc pc = .ok (.isub, 1)) (h : bk_op Ca (bk_X p l e R s m args below meth c ba b0 aK cA D sc nL mc ms Z) Q (.isub) K b ls st M) (hk : ∀ b ls st M, K b ls st M → bk_X p l e R s m args below meth c ba b0 aK cA D sc nL mc ms Z b (pc + 1) ls st M) : bk_X p l e R s m args below meth c ba b0 aK cA D sc nL mc ms Z b pc ls st M := by
  obtain ⟨hx, hb, hml, hown, hts, hK, hSt, hR⟩ := C0
  simp only [bk_op] at h
  split at h
  · rename_i y x st'
    intro hs hl hn hM h13 H locs cells slots lsr hP hS hc hsl hL
    have hy : bk_r32 y := hs (.inl y) (by simp)
    have hx0 : bk_r32 x := hs (.inl x) (by simp)
    have hs' : ∀ w ∈ st', bk_okv ba w := fun w hw => hs w (by simp [hw])
    refine lv_isub hx hb hd ?_
    rw [← Int32.ofInt_sub]
    exact hk _ _ _ _ h.2 (bk_ocons h.1 hs') hl hn hM h13 H locs cells slots lsr hP hS hc hsl hL
  · exact h.elim
theorem bk_s_imul (C0 : bk_Cx p R s m args c cc own nL ba b0 aK cA D sc) (hd : decode cc pc = .ok (.imul, 1)) (h : bk_op Ca (bk_X p l e R s m args below meth c ba b0 aK cA D sc nL mc ms Z) Q (.imul) K b ls st M) (hk : ∀ b ls st M, K b ls st M → bk_X p l e R s m args below meth c ba b0 aK cA D sc nL mc ms Z b (pc + 1) ls st M) : bk_X p l e R s m args below meth c ba b0 aK cA D sc nL mc ms Z b pc ls st M := by
  obtain ⟨hx, hb, hml, hown, hts, hK, hSt, hR⟩ := C0
  simp only [bk_op] at h
  split at h
  · rename_i y x st'
    intro hs hl hn hM h13 H locs cells slots lsr hP hS hc hsl hL
    have hy : bk_r32 y := hs (.inl y) (by simp)
    have hx0 : bk_r32 x := hs (.inl x) (by simp)
    have hs' : ∀ w ∈ st', bk_okv ba w := fun w hw => hs w (by simp [hw])
    refine lv_imul hx hb hd ?_
    rw [← Int32.ofInt_mul]
    exact hk _ _ _ _ h.2 (bk_ocons h.1 hs') hl hn hM h13 H locs cells slots lsr hP hS hc hsl hL
  · exact h.elim
theorem bk_s_dadd (C0 : bk_Cx p R s m args c cc own nL ba b0 aK cA D sc) (hd : decode cc pc = .ok (.iadd, 1)) (h : bk_op Ca (bk_X p l e R s m args below meth c ba b0 aK cA D sc nL mc ms Z) Q (.dadd) K b ls st M) (hk : ∀ b ls st M, K b ls st M → bk_X p l e R s m args below meth c ba b0 aK cA D sc nL mc ms Z b (pc + 1) ls st M) : bk_X p l e R s m args below meth c ba b0 aK cA D sc nL mc ms Z b pc ls st M := by
  obtain ⟨hx, hb, hml, hown, hts, hK, hSt, hR⟩ := C0
  simp only [bk_op] at h
  split at h
  · rename_i y x st'
    intro hs hl hn hM h13 H locs cells slots lsr hP hS hc hsl hL
    have hy : bk_r32 y := hs (.inl y) (by simp)
    have hx0 : bk_r32 x := hs (.inl x) (by simp)
    have hs' : ∀ w ∈ st', bk_okv ba w := fun w hw => hs w (by simp [hw])
    refine lv_iadd hx hb hd ?_
    rw [← Int32.ofInt_add, ← nb_w32]
    exact hk _ _ _ _ h (bk_ocons (nb_w32_r _) hs') hl hn hM h13 H locs cells slots lsr hP hS hc hsl hL
  · exact h.elim
theorem bk_s_dmul (C0 : bk_Cx p R s m args c cc own nL ba b0 aK cA D sc) (hd : decode cc pc = .ok (.imul, 1)) (h : bk_op Ca (bk_X p l e R s m args below meth c ba b0 aK cA D sc nL mc ms Z) Q (.dmul) K b ls st M) (hk : ∀ b ls st M, K b ls st M → bk_X p l e R s m args below meth c ba b0 aK cA D sc nL mc ms Z b (pc + 1) ls st M) : bk_X p l e R s m args below meth c ba b0 aK cA D sc nL mc ms Z b pc ls st M := by
  obtain ⟨hx, hb, hml, hown, hts, hK, hSt, hR⟩ := C0
  simp only [bk_op] at h
  split at h
  · rename_i y x st'
    intro hs hl hn hM h13 H locs cells slots lsr hP hS hc hsl hL
    have hy : bk_r32 y := hs (.inl y) (by simp)
    have hx0 : bk_r32 x := hs (.inl x) (by simp)
    have hs' : ∀ w ∈ st', bk_okv ba w := fun w hw => hs w (by simp [hw])
    refine lv_imul hx hb hd ?_
    rw [← Int32.ofInt_mul, ← nb_w32]
    exact hk _ _ _ _ h (bk_ocons (nb_w32_r _) hs') hl hn hM h13 H locs cells slots lsr hP hS hc hsl hL
  · exact h.elim
theorem bk_s_dsub (C0 : bk_Cx p R s m args c cc own nL ba b0 aK cA D sc) (hd : decode cc pc = .ok (.isub, 1)) (h : bk_op Ca (bk_X p l e R s m args below meth c ba b0 aK cA D sc nL mc ms Z) Q (.dsub) K b ls st M) (hk : ∀ b ls st M, K b ls st M → bk_X p l e R s m args below meth c ba b0 aK cA D sc nL mc ms Z b (pc + 1) ls st M) : bk_X p l e R s m args below meth c ba b0 aK cA D sc nL mc ms Z b pc ls st M := by
  obtain ⟨hx, hb, hml, hown, hts, hK, hSt, hR⟩ := C0
  simp only [bk_op] at h
  split at h
  · rename_i y x st'
    intro hs hl hn hM h13 H locs cells slots lsr hP hS hc hsl hL
    have hy : bk_r32 y := hs (.inl y) (by simp)
    have hx0 : bk_r32 x := hs (.inl x) (by simp)
    have hs' : ∀ w ∈ st', bk_okv ba w := fun w hw => hs w (by simp [hw])
    refine lv_isub hx hb hd ?_
    rw [← Int32.ofInt_sub, ← nb_w32]
    exact hk _ _ _ _ h (bk_ocons (nb_w32_r _) hs') hl hn hM h13 H locs cells slots lsr hP hS hc hsl hL
  · exact h.elim
theorem bk_s_fadd (C0 : bk_Cx p R s m args c cc own nL ba b0 aK cA D sc) (hd : decode cc pc = .ok (.ladd, 1)) (h : bk_op Ca (bk_X p l e R s m args below meth c ba b0 aK cA D sc nL mc ms Z) Q (.fadd) K b ls st M) (hk : ∀ b ls st M, K b ls st M → bk_X p l e R s m args below meth c ba b0 aK cA D sc nL mc ms Z b (pc + 1) ls st M) : bk_X p l e R s m args below meth c ba b0 aK cA D sc nL mc ms Z b pc ls st M := by
  obtain ⟨hx, hb, hml, hown, hts, hK, hSt, hR⟩ := C0
  simp only [bk_op] at h
  split at h
  · rename_i y x st'
    intro hs hl hn hM h13 H locs cells slots lsr hP hS hc hsl hL
    have hy : bk_r64 y := hs (.inr (.inl y)) (by simp)
    have hx0 : bk_r64 x := hs (.inr (.inl x)) (by simp)
    have hs' : ∀ w ∈ st', bk_okv ba w := fun w hw => hs w (by simp [hw])
    refine lv_ladd hx hb hd ?_
    rw [← Int64.ofInt_add, ← nl_w64]
    exact hk _ _ _ _ h (bk_ocons (nl_w64_r _) hs') hl hn hM h13 H locs cells slots lsr hP hS hc hsl hL
  · exact h.elim
theorem bk_s_fmul (C0 : bk_Cx p R s m args c cc own nL ba b0 aK cA D sc) (hd : decode cc pc = .ok (.lshl, 1)) (h : bk_op Ca (bk_X p l e R s m args below meth c ba b0 aK cA D sc nL mc ms Z) Q (.fmul) K b ls st M) (hk : ∀ b ls st M, K b ls st M → bk_X p l e R s m args below meth c ba b0 aK cA D sc nL mc ms Z b (pc + 1) ls st M) : bk_X p l e R s m args below meth c ba b0 aK cA D sc nL mc ms Z b pc ls st M := by
  obtain ⟨hx, hb, hml, hown, hts, hK, hSt, hR⟩ := C0
  simp only [bk_op] at h
  split at h
  · rename_i y x st'
    intro hs hl hn hM h13 H locs cells slots lsr hP hS hc hsl hL
    have hy : bk_r32 y := hs (.inl y) (by simp)
    have hx0 : bk_r64 x := hs (.inr (.inl x)) (by simp)
    have hs' : ∀ w ∈ st', bk_okv ba w := fun w hw => hs w (by simp [hw])
    refine lv_lshl hx hb hd ((nl_shl h.1.1 h.1.2).trans (nl_w64 _).symm) ?_
    exact hk _ _ _ _ h.2 (bk_ocons (nl_w64_r _) hs') hl hn hM h13 H locs cells slots lsr hP hS hc hsl hL
  · exact h.elim
theorem bk_s_idiv (C0 : bk_Cx p R s m args c cc own nL ba b0 aK cA D sc) (hd : decode cc pc = .ok (.idiv, 1)) (h : bk_op Ca (bk_X p l e R s m args below meth c ba b0 aK cA D sc nL mc ms Z) Q (.idiv) K b ls st M) (hk : ∀ b ls st M, K b ls st M → bk_X p l e R s m args below meth c ba b0 aK cA D sc nL mc ms Z b (pc + 1) ls st M) : bk_X p l e R s m args below meth c ba b0 aK cA D sc nL mc ms Z b pc ls st M := by
  obtain ⟨hx, hb, hml, hown, hts, hK, hSt, hR⟩ := C0
  simp only [bk_op] at h
  split at h
  · rename_i y x st'
    intro hs hl hn hM h13 H locs cells slots lsr hP hS hc hsl hL
    have hy : bk_r32 y := hs (.inl y) (by simp)
    have hx0 : bk_r32 x := hs (.inl x) (by simp)
    have hs' : ∀ w ∈ st', bk_okv ba w := fun w hw => hs w (by simp [hw])
    refine lv_idiv hx hb hd (fun q => by rw [nb_z, nb_eq hy nb_r0] at q; omega) ?_
    rw [nb_div hx0 hy h.1.1 h.1.2]
    exact hk _ _ _ _ h.2 (bk_ocons (nb_div_r hx0 h.1.1 h.1.2) hs') hl hn hM h13 H locs cells slots lsr hP hS hc hsl hL
  · exact h.elim
theorem bk_s_irem (C0 : bk_Cx p R s m args c cc own nL ba b0 aK cA D sc) (hd : decode cc pc = .ok (.irem, 1)) (h : bk_op Ca (bk_X p l e R s m args below meth c ba b0 aK cA D sc nL mc ms Z) Q (.irem) K b ls st M) (hk : ∀ b ls st M, K b ls st M → bk_X p l e R s m args below meth c ba b0 aK cA D sc nL mc ms Z b (pc + 1) ls st M) : bk_X p l e R s m args below meth c ba b0 aK cA D sc nL mc ms Z b pc ls st M := by
  obtain ⟨hx, hb, hml, hown, hts, hK, hSt, hR⟩ := C0
  simp only [bk_op] at h
  split at h
  · rename_i y x st'
    intro hs hl hn hM h13 H locs cells slots lsr hP hS hc hsl hL
    have hy : bk_r32 y := hs (.inl y) (by simp)
    have hx0 : bk_r32 x := hs (.inl x) (by simp)
    have hs' : ∀ w ∈ st', bk_okv ba w := fun w hw => hs w (by simp [hw])
    refine lv_irem hx hb hd (fun q => by rw [nb_z, nb_eq hy nb_r0] at q; omega) ?_
    rw [nb_rem hx0 hy h.1.1 h.1.2]
    exact hk _ _ _ _ h.2 (bk_ocons (nb_rem_r hy h.1.2) hs') hl hn hM h13 H locs cells slots lsr hP hS hc hsl hL
  · exact h.elim
theorem bk_s_ishl (C0 : bk_Cx p R s m args c cc own nL ba b0 aK cA D sc) (hd : decode cc pc = .ok (.ishl, 1)) (h : bk_op Ca (bk_X p l e R s m args below meth c ba b0 aK cA D sc nL mc ms Z) Q (.ishl) K b ls st M) (hk : ∀ b ls st M, K b ls st M → bk_X p l e R s m args below meth c ba b0 aK cA D sc nL mc ms Z b (pc + 1) ls st M) : bk_X p l e R s m args below meth c ba b0 aK cA D sc nL mc ms Z b pc ls st M := by
  obtain ⟨hx, hb, hml, hown, hts, hK, hSt, hR⟩ := C0
  simp only [bk_op] at h
  split at h
  · rename_i y x st'
    intro hs hl hn hM h13 H locs cells slots lsr hP hS hc hsl hL
    have hy : bk_r32 y := hs (.inl y) (by simp)
    have hx0 : bk_r32 x := hs (.inl x) (by simp)
    have hs' : ∀ w ∈ st', bk_okv ba w := fun w hw => hs w (by simp [hw])
    refine lv_ishl hx hb hd ?_
    rw [nb_shl h.1.1 h.1.2.1]
    exact hk _ _ _ _ h.2 (bk_ocons h.1.2.2 hs') hl hn hM h13 H locs cells slots lsr hP hS hc hsl hL
  · exact h.elim
theorem bk_s_ishr (C0 : bk_Cx p R s m args c cc own nL ba b0 aK cA D sc) (hd : decode cc pc = .ok (.ishr, 1)) (h : bk_op Ca (bk_X p l e R s m args below meth c ba b0 aK cA D sc nL mc ms Z) Q (.ishr) K b ls st M) (hk : ∀ b ls st M, K b ls st M → bk_X p l e R s m args below meth c ba b0 aK cA D sc nL mc ms Z b (pc + 1) ls st M) : bk_X p l e R s m args below meth c ba b0 aK cA D sc nL mc ms Z b pc ls st M := by
  obtain ⟨hx, hb, hml, hown, hts, hK, hSt, hR⟩ := C0
  simp only [bk_op] at h
  split at h
  · rename_i y x st'
    intro hs hl hn hM h13 H locs cells slots lsr hP hS hc hsl hL
    have hy : bk_r32 y := hs (.inl y) (by simp)
    have hx0 : bk_r32 x := hs (.inl x) (by simp)
    have hs' : ∀ w ∈ st', bk_okv ba w := fun w hw => hs w (by simp [hw])
    refine lv_ishr hx hb hd ?_
    rw [nb_shr hx0 h.1.1 h.1.2]
    exact hk _ _ _ _ h.2 (bk_ocons (nb_shr_r hx0) hs') hl hn hM h13 H locs cells slots lsr hP hS hc hsl hL
  · exact h.elim
theorem bk_s_iushr (C0 : bk_Cx p R s m args c cc own nL ba b0 aK cA D sc) (hd : decode cc pc = .ok (.iushr, 1)) (h : bk_op Ca (bk_X p l e R s m args below meth c ba b0 aK cA D sc nL mc ms Z) Q (.iushr) K b ls st M) (hk : ∀ b ls st M, K b ls st M → bk_X p l e R s m args below meth c ba b0 aK cA D sc nL mc ms Z b (pc + 1) ls st M) : bk_X p l e R s m args below meth c ba b0 aK cA D sc nL mc ms Z b pc ls st M := by
  obtain ⟨hx, hb, hml, hown, hts, hK, hSt, hR⟩ := C0
  simp only [bk_op] at h
  split at h
  · rename_i y x st'
    intro hs hl hn hM h13 H locs cells slots lsr hP hS hc hsl hL
    have hy : bk_r32 y := hs (.inl y) (by simp)
    have hx0 : bk_r32 x := hs (.inl x) (by simp)
    have hs' : ∀ w ∈ st', bk_okv ba w := fun w hw => hs w (by simp [hw])
    refine lv_iushr hx hb hd (nb_ushr h.1.1 h.1.2) ?_
    exact hk _ _ _ _ h.2 (bk_ocons (nb_ushr_r hx0 h.1.1 h.1.2) hs') hl hn hM h13 H locs cells slots lsr hP hS hc hsl hL
  · exact h.elim
theorem bk_s_iand (C0 : bk_Cx p R s m args c cc own nL ba b0 aK cA D sc) (hd : decode cc pc = .ok (.iand, 1)) (h : bk_op Ca (bk_X p l e R s m args below meth c ba b0 aK cA D sc nL mc ms Z) Q (.iand) K b ls st M) (hk : ∀ b ls st M, K b ls st M → bk_X p l e R s m args below meth c ba b0 aK cA D sc nL mc ms Z b (pc + 1) ls st M) : bk_X p l e R s m args below meth c ba b0 aK cA D sc nL mc ms Z b pc ls st M := by
  obtain ⟨hx, hb, hml, hown, hts, hK, hSt, hR⟩ := C0
  simp only [bk_op] at h
  split at h
  · rename_i y x st'
    intro hs hl hn hM h13 H locs cells slots lsr hP hS hc hsl hL
    have hy : bk_r32 y := hs (.inl y) (by simp)
    have hx0 : bk_r32 x := hs (.inl x) (by simp)
    have hs' : ∀ w ∈ st', bk_okv ba w := fun w hw => hs w (by simp [hw])
    refine lv_iand hx hb hd ?_
    rw [nb_and]
    exact hk _ _ _ _ h (bk_ocons (nb_bvr _) hs') hl hn hM h13 H locs cells slots lsr hP hS hc hsl hL
  · exact h.elim
theorem bk_s_ior (C0 : bk_Cx p R s m args c cc own nL ba b0 aK cA D sc) (hd : decode cc pc = .ok (.ior, 1)) (h : bk_op Ca (bk_X p l e R s m args below meth c ba b0 aK cA D sc nL mc ms Z) Q (.ior) K b ls st M) (hk : ∀ b ls st M, K b ls st M → bk_X p l e R s m args below meth c ba b0 aK cA D sc nL mc ms Z b (pc + 1) ls st M) : bk_X p l e R s m args below meth c ba b0 aK cA D sc nL mc ms Z b pc ls st M := by
  obtain ⟨hx, hb, hml, hown, hts, hK, hSt, hR⟩ := C0
  simp only [bk_op] at h
  split at h
  · rename_i y x st'
    intro hs hl hn hM h13 H locs cells slots lsr hP hS hc hsl hL
    have hy : bk_r32 y := hs (.inl y) (by simp)
    have hx0 : bk_r32 x := hs (.inl x) (by simp)
    have hs' : ∀ w ∈ st', bk_okv ba w := fun w hw => hs w (by simp [hw])
    refine lv_ior hx hb hd ?_
    rw [nb_or]
    exact hk _ _ _ _ h (bk_ocons (nb_bvr _) hs') hl hn hM h13 H locs cells slots lsr hP hS hc hsl hL
  · exact h.elim
theorem bk_s_ixor (C0 : bk_Cx p R s m args c cc own nL ba b0 aK cA D sc) (hd : decode cc pc = .ok (.ixor, 1)) (h : bk_op Ca (bk_X p l e R s m args below meth c ba b0 aK cA D sc nL mc ms Z) Q (.ixor) K b ls st M) (hk : ∀ b ls st M, K b ls st M → bk_X p l e R s m args below meth c ba b0 aK cA D sc nL mc ms Z b (pc + 1) ls st M) : bk_X p l e R s m args below meth c ba b0 aK cA D sc nL mc ms Z b pc ls st M := by
  obtain ⟨hx, hb, hml, hown, hts, hK, hSt, hR⟩ := C0
  simp only [bk_op] at h
  split at h
  · rename_i y x st'
    intro hs hl hn hM h13 H locs cells slots lsr hP hS hc hsl hL
    have hy : bk_r32 y := hs (.inl y) (by simp)
    have hx0 : bk_r32 x := hs (.inl x) (by simp)
    have hs' : ∀ w ∈ st', bk_okv ba w := fun w hw => hs w (by simp [hw])
    refine lv_ixor hx hb hd ?_
    rw [nb_xor]
    exact hk _ _ _ _ h (bk_ocons (nb_bvr _) hs') hl hn hM h13 H locs cells slots lsr hP hS hc hsl hL
  · exact h.elim
theorem bk_s_ladd (C0 : bk_Cx p R s m args c cc own nL ba b0 aK cA D sc) (hd : decode cc pc = .ok (.ladd, 1)) (h : bk_op Ca (bk_X p l e R s m args below meth c ba b0 aK cA D sc nL mc ms Z) Q (.ladd) K b ls st M) (hk : ∀ b ls st M, K b ls st M → bk_X p l e R s m args below meth c ba b0 aK cA D sc nL mc ms Z b (pc + 1) ls st M) : bk_X p l e R s m args below meth c ba b0 aK cA D sc nL mc ms Z b pc ls st M := by
  obtain ⟨hx, hb, hml, hown, hts, hK, hSt, hR⟩ := C0
  simp only [bk_op] at h
  split at h
  · rename_i y x st'
    intro hs hl hn hM h13 H locs cells slots lsr hP hS hc hsl hL
    have hy : bk_r64 y := hs (.inr (.inl y)) (by simp)
    have hx0 : bk_r64 x := hs (.inr (.inl x)) (by simp)
    have hs' : ∀ w ∈ st', bk_okv ba w := fun w hw => hs w (by simp [hw])
    refine lv_ladd hx hb hd ?_
    rw [← Int64.ofInt_add]
    exact hk _ _ _ _ h.2 (bk_ocons h.1 hs') hl hn hM h13 H locs cells slots lsr hP hS hc hsl hL
  · exact h.elim
theorem bk_s_lsub (C0 : bk_Cx p R s m args c cc own nL ba b0 aK cA D sc) (hd : decode cc pc = .ok (.lsub, 1)) (h : bk_op Ca (bk_X p l e R s m args below meth c ba b0 aK cA D sc nL mc ms Z) Q (.lsub) K b ls st M) (hk : ∀ b ls st M, K b ls st M → bk_X p l e R s m args below meth c ba b0 aK cA D sc nL mc ms Z b (pc + 1) ls st M) : bk_X p l e R s m args below meth c ba b0 aK cA D sc nL mc ms Z b pc ls st M := by
  obtain ⟨hx, hb, hml, hown, hts, hK, hSt, hR⟩ := C0
  simp only [bk_op] at h
  split at h
  · rename_i y x st'
    intro hs hl hn hM h13 H locs cells slots lsr hP hS hc hsl hL
    have hy : bk_r64 y := hs (.inr (.inl y)) (by simp)
    have hx0 : bk_r64 x := hs (.inr (.inl x)) (by simp)
    have hs' : ∀ w ∈ st', bk_okv ba w := fun w hw => hs w (by simp [hw])
    refine lv_lsub hx hb hd ?_
    rw [← Int64.ofInt_sub]
    exact hk _ _ _ _ h.2 (bk_ocons h.1 hs') hl hn hM h13 H locs cells slots lsr hP hS hc hsl hL
  · exact h.elim
theorem bk_s_lmul (C0 : bk_Cx p R s m args c cc own nL ba b0 aK cA D sc) (hd : decode cc pc = .ok (.lmul, 1)) (h : bk_op Ca (bk_X p l e R s m args below meth c ba b0 aK cA D sc nL mc ms Z) Q (.lmul) K b ls st M) (hk : ∀ b ls st M, K b ls st M → bk_X p l e R s m args below meth c ba b0 aK cA D sc nL mc ms Z b (pc + 1) ls st M) : bk_X p l e R s m args below meth c ba b0 aK cA D sc nL mc ms Z b pc ls st M := by
  obtain ⟨hx, hb, hml, hown, hts, hK, hSt, hR⟩ := C0
  simp only [bk_op] at h
  split at h
  · rename_i y x st'
    intro hs hl hn hM h13 H locs cells slots lsr hP hS hc hsl hL
    have hy : bk_r64 y := hs (.inr (.inl y)) (by simp)
    have hx0 : bk_r64 x := hs (.inr (.inl x)) (by simp)
    have hs' : ∀ w ∈ st', bk_okv ba w := fun w hw => hs w (by simp [hw])
    refine lv_lmul hx hb hd ?_
    rw [← Int64.ofInt_mul]
    exact hk _ _ _ _ h.2 (bk_ocons h.1 hs') hl hn hM h13 H locs cells slots lsr hP hS hc hsl hL
  · exact h.elim
theorem bk_s_ldiv (C0 : bk_Cx p R s m args c cc own nL ba b0 aK cA D sc) (hd : decode cc pc = .ok (.ldiv, 1)) (h : bk_op Ca (bk_X p l e R s m args below meth c ba b0 aK cA D sc nL mc ms Z) Q (.ldiv) K b ls st M) (hk : ∀ b ls st M, K b ls st M → bk_X p l e R s m args below meth c ba b0 aK cA D sc nL mc ms Z b (pc + 1) ls st M) : bk_X p l e R s m args below meth c ba b0 aK cA D sc nL mc ms Z b pc ls st M := by
  obtain ⟨hx, hb, hml, hown, hts, hK, hSt, hR⟩ := C0
  simp only [bk_op] at h
  split at h
  · rename_i y x st'
    intro hs hl hn hM h13 H locs cells slots lsr hP hS hc hsl hL
    have hy : bk_r64 y := hs (.inr (.inl y)) (by simp)
    have hx0 : bk_r64 x := hs (.inr (.inl x)) (by simp)
    have hs' : ∀ w ∈ st', bk_okv ba w := fun w hw => hs w (by simp [hw])
    refine lv_ldiv hx hb hd (fun q => by have z := congrArg Int64.toInt q; rw [nb_l hy] at z; have z : y = 0 := z; omega) ?_
    rw [nl_div hx0 hy h.1.1 h.1.2]
    exact hk _ _ _ _ h.2 (bk_ocons (nl_div_r hx0 h.1.1 h.1.2) hs') hl hn hM h13 H locs cells slots lsr hP hS hc hsl hL
  · exact h.elim
theorem bk_s_lrem (C0 : bk_Cx p R s m args c cc own nL ba b0 aK cA D sc) (hd : decode cc pc = .ok (.lrem, 1)) (h : bk_op Ca (bk_X p l e R s m args below meth c ba b0 aK cA D sc nL mc ms Z) Q (.lrem) K b ls st M) (hk : ∀ b ls st M, K b ls st M → bk_X p l e R s m args below meth c ba b0 aK cA D sc nL mc ms Z b (pc + 1) ls st M) : bk_X p l e R s m args below meth c ba b0 aK cA D sc nL mc ms Z b pc ls st M := by
  obtain ⟨hx, hb, hml, hown, hts, hK, hSt, hR⟩ := C0
  simp only [bk_op] at h
  split at h
  · rename_i y x st'
    intro hs hl hn hM h13 H locs cells slots lsr hP hS hc hsl hL
    have hy : bk_r64 y := hs (.inr (.inl y)) (by simp)
    have hx0 : bk_r64 x := hs (.inr (.inl x)) (by simp)
    have hs' : ∀ w ∈ st', bk_okv ba w := fun w hw => hs w (by simp [hw])
    refine lv_lrem hx hb hd (fun q => by have z := congrArg Int64.toInt q; rw [nb_l hy] at z; have z : y = 0 := z; omega) ?_
    rw [nl_rem hx0 hy h.1.1 h.1.2]
    exact hk _ _ _ _ h.2 (bk_ocons (nl_rem_r hy h.1.2) hs') hl hn hM h13 H locs cells slots lsr hP hS hc hsl hL
  · exact h.elim
theorem bk_s_lshl (C0 : bk_Cx p R s m args c cc own nL ba b0 aK cA D sc) (hd : decode cc pc = .ok (.lshl, 1)) (h : bk_op Ca (bk_X p l e R s m args below meth c ba b0 aK cA D sc nL mc ms Z) Q (.lshl) K b ls st M) (hk : ∀ b ls st M, K b ls st M → bk_X p l e R s m args below meth c ba b0 aK cA D sc nL mc ms Z b (pc + 1) ls st M) : bk_X p l e R s m args below meth c ba b0 aK cA D sc nL mc ms Z b pc ls st M := by
  obtain ⟨hx, hb, hml, hown, hts, hK, hSt, hR⟩ := C0
  simp only [bk_op] at h
  split at h
  · rename_i y x st'
    intro hs hl hn hM h13 H locs cells slots lsr hP hS hc hsl hL
    have hy : bk_r32 y := hs (.inl y) (by simp)
    have hx0 : bk_r64 x := hs (.inr (.inl x)) (by simp)
    have hs' : ∀ w ∈ st', bk_okv ba w := fun w hw => hs w (by simp [hw])
    refine lv_lshl hx hb hd (nl_shl h.1.1 h.1.2.1) ?_
    exact hk _ _ _ _ h.2 (bk_ocons h.1.2.2 hs') hl hn hM h13 H locs cells slots lsr hP hS hc hsl hL
  · exact h.elim
theorem bk_s_lshr (C0 : bk_Cx p R s m args c cc own nL ba b0 aK cA D sc) (hd : decode cc pc = .ok (.lshr, 1)) (h : bk_op Ca (bk_X p l e R s m args below meth c ba b0 aK cA D sc nL mc ms Z) Q (.lshr) K b ls st M) (hk : ∀ b ls st M, K b ls st M → bk_X p l e R s m args below meth c ba b0 aK cA D sc nL mc ms Z b (pc + 1) ls st M) : bk_X p l e R s m args below meth c ba b0 aK cA D sc nL mc ms Z b pc ls st M := by
  obtain ⟨hx, hb, hml, hown, hts, hK, hSt, hR⟩ := C0
  simp only [bk_op] at h
  split at h
  · rename_i y x st'
    intro hs hl hn hM h13 H locs cells slots lsr hP hS hc hsl hL
    have hy : bk_r32 y := hs (.inl y) (by simp)
    have hx0 : bk_r64 x := hs (.inr (.inl x)) (by simp)
    have hs' : ∀ w ∈ st', bk_okv ba w := fun w hw => hs w (by simp [hw])
    refine lv_lshr hx hb hd (nl_shr hx0 h.1.1 h.1.2) ?_
    exact hk _ _ _ _ h.2 (bk_ocons (nl_shr_r hx0) hs') hl hn hM h13 H locs cells slots lsr hP hS hc hsl hL
  · exact h.elim
theorem bk_s_land (C0 : bk_Cx p R s m args c cc own nL ba b0 aK cA D sc) (hd : decode cc pc = .ok (.land, 1)) (h : bk_op Ca (bk_X p l e R s m args below meth c ba b0 aK cA D sc nL mc ms Z) Q (.land) K b ls st M) (hk : ∀ b ls st M, K b ls st M → bk_X p l e R s m args below meth c ba b0 aK cA D sc nL mc ms Z b (pc + 1) ls st M) : bk_X p l e R s m args below meth c ba b0 aK cA D sc nL mc ms Z b pc ls st M := by
  obtain ⟨hx, hb, hml, hown, hts, hK, hSt, hR⟩ := C0
  simp only [bk_op] at h
  split at h
  · rename_i y x st'
    intro hs hl hn hM h13 H locs cells slots lsr hP hS hc hsl hL
    have hy : bk_r64 y := hs (.inr (.inl y)) (by simp)
    have hx0 : bk_r64 x := hs (.inr (.inl x)) (by simp)
    have hs' : ∀ w ∈ st', bk_okv ba w := fun w hw => hs w (by simp [hw])
    refine lv_land hx hb hd ?_
    rw [nl_and]
    exact hk _ _ _ _ h (bk_ocons (nl_bvr _) hs') hl hn hM h13 H locs cells slots lsr hP hS hc hsl hL
  · exact h.elim
theorem bk_s_lor (C0 : bk_Cx p R s m args c cc own nL ba b0 aK cA D sc) (hd : decode cc pc = .ok (.lor, 1)) (h : bk_op Ca (bk_X p l e R s m args below meth c ba b0 aK cA D sc nL mc ms Z) Q (.lor) K b ls st M) (hk : ∀ b ls st M, K b ls st M → bk_X p l e R s m args below meth c ba b0 aK cA D sc nL mc ms Z b (pc + 1) ls st M) : bk_X p l e R s m args below meth c ba b0 aK cA D sc nL mc ms Z b pc ls st M := by
  obtain ⟨hx, hb, hml, hown, hts, hK, hSt, hR⟩ := C0
  simp only [bk_op] at h
  split at h
  · rename_i y x st'
    intro hs hl hn hM h13 H locs cells slots lsr hP hS hc hsl hL
    have hy : bk_r64 y := hs (.inr (.inl y)) (by simp)
    have hx0 : bk_r64 x := hs (.inr (.inl x)) (by simp)
    have hs' : ∀ w ∈ st', bk_okv ba w := fun w hw => hs w (by simp [hw])
    refine lv_lor hx hb hd ?_
    rw [nl_or]
    exact hk _ _ _ _ h (bk_ocons (nl_bvr _) hs') hl hn hM h13 H locs cells slots lsr hP hS hc hsl hL
  · exact h.elim
theorem bk_s_lcmp (C0 : bk_Cx p R s m args c cc own nL ba b0 aK cA D sc) (hd : decode cc pc = .ok (.lcmp, 1)) (h : bk_op Ca (bk_X p l e R s m args below meth c ba b0 aK cA D sc nL mc ms Z) Q (.lcmp) K b ls st M) (hk : ∀ b ls st M, K b ls st M → bk_X p l e R s m args below meth c ba b0 aK cA D sc nL mc ms Z b (pc + 1) ls st M) : bk_X p l e R s m args below meth c ba b0 aK cA D sc nL mc ms Z b pc ls st M := by
  obtain ⟨hx, hb, hml, hown, hts, hK, hSt, hR⟩ := C0
  simp only [bk_op] at h
  split at h
  · rename_i y x st'
    intro hs hl hn hM h13 H locs cells slots lsr hP hS hc hsl hL
    have hy : bk_r64 y := hs (.inr (.inl y)) (by simp)
    have hx0 : bk_r64 x := hs (.inr (.inl x)) (by simp)
    have hs' : ∀ w ∈ st', bk_okv ba w := fun w hw => hs w (by simp [hw])
    refine W.lcmp hx hb hd ?_
    rw [nl_lcmp hx0 hy]
    exact hk _ _ _ _ h (bk_ocons (nl_lcmp_r x y) hs') hl hn hM h13 H locs cells slots lsr hP hS hc hsl hL
  · exact h.elim
theorem bk_s_ineg (C0 : bk_Cx p R s m args c cc own nL ba b0 aK cA D sc) (hd : decode cc pc = .ok (.ineg, 1)) (h : bk_op Ca (bk_X p l e R s m args below meth c ba b0 aK cA D sc nL mc ms Z) Q (.ineg) K b ls st M) (hk : ∀ b ls st M, K b ls st M → bk_X p l e R s m args below meth c ba b0 aK cA D sc nL mc ms Z b (pc + 1) ls st M) : bk_X p l e R s m args below meth c ba b0 aK cA D sc nL mc ms Z b pc ls st M := by
  obtain ⟨hx, hb, hml, hown, hts, hK, hSt, hR⟩ := C0
  simp only [bk_op] at h
  split at h
  · rename_i x st'
    intro hs hl hn hM h13 H locs cells slots lsr hP hS hc hsl hL
    have hx0 : bk_r32 x := hs (.inl x) (by simp)
    have hs' : ∀ w ∈ st', bk_okv ba w := fun w hw => hs w (by simp [hw])
    refine lv_ineg hx hb hd ?_
    rw [← Int32.ofInt_neg]
    exact hk _ _ _ _ h.2 (bk_ocons h.1 hs') hl hn hM h13 H locs cells slots lsr hP hS hc hsl hL
  · exact h.elim
theorem bk_s_i2l (C0 : bk_Cx p R s m args c cc own nL ba b0 aK cA D sc) (hd : decode cc pc = .ok (.i2l, 1)) (h : bk_op Ca (bk_X p l e R s m args below meth c ba b0 aK cA D sc nL mc ms Z) Q (.i2l) K b ls st M) (hk : ∀ b ls st M, K b ls st M → bk_X p l e R s m args below meth c ba b0 aK cA D sc nL mc ms Z b (pc + 1) ls st M) : bk_X p l e R s m args below meth c ba b0 aK cA D sc nL mc ms Z b pc ls st M := by
  obtain ⟨hx, hb, hml, hown, hts, hK, hSt, hR⟩ := C0
  simp only [bk_op] at h
  split at h
  · rename_i x st'
    intro hs hl hn hM h13 H locs cells slots lsr hP hS hc hsl hL
    have hx0 : bk_r32 x := hs (.inl x) (by simp)
    have hs' : ∀ w ∈ st', bk_okv ba w := fun w hw => hs w (by simp [hw])
    refine lv_i2l hx hb hd (nb_i2l hx0) ?_
    exact hk _ _ _ _ h (bk_ocons (show bk_r64 x by unfold bk_r32 at hx0; unfold bk_r64; omega) hs') hl hn hM h13 H locs cells slots lsr hP hS hc hsl hL
  · exact h.elim
theorem bk_s_l2i (C0 : bk_Cx p R s m args c cc own nL ba b0 aK cA D sc) (hd : decode cc pc = .ok (.l2i, 1)) (h : bk_op Ca (bk_X p l e R s m args below meth c ba b0 aK cA D sc nL mc ms Z) Q (.l2i) K b ls st M) (hk : ∀ b ls st M, K b ls st M → bk_X p l e R s m args below meth c ba b0 aK cA D sc nL mc ms Z b (pc + 1) ls st M) : bk_X p l e R s m args below meth c ba b0 aK cA D sc nL mc ms Z b pc ls st M := by
  obtain ⟨hx, hb, hml, hown, hts, hK, hSt, hR⟩ := C0
  simp only [bk_op] at h
  split at h
  · rename_i x st'
    intro hs hl hn hM h13 H locs cells slots lsr hP hS hc hsl hL
    have hx0 : bk_r64 x := hs (.inr (.inl x)) (by simp)
    have hs' : ∀ w ∈ st', bk_okv ba w := fun w hw => hs w (by simp [hw])
    refine lv_l2i hx hb hd Int64.toInt32_ofInt ?_
    exact hk _ _ _ _ h.2 (bk_ocons h.1 hs') hl hn hM h13 H locs cells slots lsr hP hS hc hsl hL
  · exact h.elim
theorem bk_s_sipush (C0 : bk_Cx p R s m args c cc own nL ba b0 aK cA D sc) {v : Int} (hv : -32768 ≤ v ∧ v ≤ 32767) (hd : decode cc pc = .ok (.sipush v, 3)) (h : bk_op Ca (bk_X p l e R s m args below meth c ba b0 aK cA D sc nL mc ms Z) Q (.sipush v) K b ls st M) (hk : ∀ b ls st M, K b ls st M → bk_X p l e R s m args below meth c ba b0 aK cA D sc nL mc ms Z b (pc + 3) ls st M) : bk_X p l e R s m args below meth c ba b0 aK cA D sc nL mc ms Z b pc ls st M := by
  obtain ⟨hx, hb, hml, hown, hts, hK, hSt, hR⟩ := C0
  simp only [bk_op] at h
  intro hs hl hn hM h13 H locs cells slots lsr hP hS hc hsl hL
  refine lv_sipush hx hb hd (nb_16 hv.1 hv.2) ?_
  exact hk _ _ _ _ h (bk_ocons (show bk_r32 v by unfold bk_r32; omega) hs) hl hn hM h13 H locs cells slots lsr hP hS hc hsl hL
theorem bk_s_bipush (C0 : bk_Cx p R s m args c cc own nL ba b0 aK cA D sc) {v : Int} (hv : -128 ≤ v ∧ v ≤ 127) (hd : decode cc pc = .ok (.bipush v, 2)) (h : bk_op Ca (bk_X p l e R s m args below meth c ba b0 aK cA D sc nL mc ms Z) Q (.sipush v) K b ls st M) (hk : ∀ b ls st M, K b ls st M → bk_X p l e R s m args below meth c ba b0 aK cA D sc nL mc ms Z b (pc + 2) ls st M) : bk_X p l e R s m args below meth c ba b0 aK cA D sc nL mc ms Z b pc ls st M := by
  obtain ⟨hx, hb, hml, hown, hts, hK, hSt, hR⟩ := C0
  simp only [bk_op] at h
  intro hs hl hn hM h13 H locs cells slots lsr hP hS hc hsl hL
  refine lv_bipush hx hb hd (nb_8 hv.1 hv.2) ?_
  exact hk _ _ _ _ h (bk_ocons (show bk_r32 v by unfold bk_r32; omega) hs) hl hn hM h13 H locs cells slots lsr hP hS hc hsl hL
theorem bk_s_iconst (C0 : bk_Cx p R s m args c cc own nL ba b0 aK cA D sc) {v : Int} (hv : -1 ≤ v ∧ v ≤ 5) (hd : decode cc pc = .ok (.iconst v, 1)) (h : bk_op Ca (bk_X p l e R s m args below meth c ba b0 aK cA D sc nL mc ms Z) Q (.sipush v) K b ls st M) (hk : ∀ b ls st M, K b ls st M → bk_X p l e R s m args below meth c ba b0 aK cA D sc nL mc ms Z b (pc + 1) ls st M) : bk_X p l e R s m args below meth c ba b0 aK cA D sc nL mc ms Z b pc ls st M := by
  obtain ⟨hx, hb, hml, hown, hts, hK, hSt, hR⟩ := C0
  simp only [bk_op] at h
  intro hs hl hn hM h13 H locs cells slots lsr hP hS hc hsl hL
  refine lv_iconst hx hb hd rfl ?_
  exact hk _ _ _ _ h (bk_ocons (show bk_r32 v by unfold bk_r32; omega) hs) hl hn hM h13 H locs cells slots lsr hP hS hc hsl hL
theorem bk_s_ldc (C0 : bk_Cx p R s m args c cc own nL ba b0 aK cA D sc) {v : Int} {n : Nat} (hv : bk_r32 v) (hw : (Cond.constant (bk_R own) n (Int32.ofInt v)).before args s = true) (hd : decode cc pc = .ok (.ldc n, 2)) (h : bk_op Ca (bk_X p l e R s m args below meth c ba b0 aK cA D sc nL mc ms Z) Q (.sipush v) K b ls st M) (hk : ∀ b ls st M, K b ls st M → bk_X p l e R s m args below meth c ba b0 aK cA D sc nL mc ms Z b (pc + 2) ls st M) : bk_X p l e R s m args below meth c ba b0 aK cA D sc nL mc ms Z b pc ls st M := by
  obtain ⟨hx, hb, hml, hown, hts, hK, hSt, hR⟩ := C0
  simp only [bk_op] at h
  intro hs hl hn hM h13 H locs cells slots lsr hP hS hc hsl hL
  refine lv_ldc hx hb hown hw hd ?_
  exact hk _ _ _ _ h (bk_ocons hv hs) hl hn hM h13 H locs cells slots lsr hP hS hc hsl hL
theorem bk_s_ldcw (C0 : bk_Cx p R s m args c cc own nL ba b0 aK cA D sc) {v : Int} {n : Nat} (hv : bk_r32 v) (hw : (Cond.constant (bk_R own) n (Int32.ofInt v)).before args s = true) (hd : decode cc pc = .ok (.ldc_w n, 3)) (h : bk_op Ca (bk_X p l e R s m args below meth c ba b0 aK cA D sc nL mc ms Z) Q (.sipush v) K b ls st M) (hk : ∀ b ls st M, K b ls st M → bk_X p l e R s m args below meth c ba b0 aK cA D sc nL mc ms Z b (pc + 3) ls st M) : bk_X p l e R s m args below meth c ba b0 aK cA D sc nL mc ms Z b pc ls st M := by
  obtain ⟨hx, hb, hml, hown, hts, hK, hSt, hR⟩ := C0
  simp only [bk_op] at h
  intro hs hl hn hM h13 H locs cells slots lsr hP hS hc hsl hL
  refine lv_ldcw hx hb hown hw hd ?_
  exact hk _ _ _ _ h (bk_ocons hv hs) hl hn hM h13 H locs cells slots lsr hP hS hc hsl hL
theorem bk_s_lconst (C0 : bk_Cx p R s m args c cc own nL ba b0 aK cA D sc) {v : Int} {n : Fin 2} (hv : ((n : Nat) : Int) = v) (hd : decode cc pc = .ok (.lconst n, 1)) (h : bk_op Ca (bk_X p l e R s m args below meth c ba b0 aK cA D sc nL mc ms Z) Q (.bipush v) K b ls st M) (hk : ∀ b ls st M, K b ls st M → bk_X p l e R s m args below meth c ba b0 aK cA D sc nL mc ms Z b (pc + 1) ls st M) : bk_X p l e R s m args below meth c ba b0 aK cA D sc nL mc ms Z b pc ls st M := by
  obtain ⟨hx, hb, hml, hown, hts, hK, hSt, hR⟩ := C0
  simp only [bk_op] at h
  intro hs hl hn hM h13 H locs cells slots lsr hP hS hc hsl hL
  refine lv_lconst (v := Int64.ofInt v) hx hb hd (by rw [← hv]; exact nl_fin n) ?_
  exact hk _ _ _ _ h (bk_ocons (show bk_r64 v by unfold bk_r64; omega) hs) hl hn hM h13 H locs cells slots lsr hP hS hc hsl hL
theorem bk_s_ldc2 (C0 : bk_Cx p R s m args c cc own nL ba b0 aK cA D sc) {v : Int} {n : Nat} (hv : bk_r64 v) (hw : (Cond.constantLong (bk_R own) n (Int64.ofInt v)).before args s = true) (hd : decode cc pc = .ok (.ldc2_w n, 3)) (h : bk_op Ca (bk_X p l e R s m args below meth c ba b0 aK cA D sc nL mc ms Z) Q (.bipush v) K b ls st M) (hk : ∀ b ls st M, K b ls st M → bk_X p l e R s m args below meth c ba b0 aK cA D sc nL mc ms Z b (pc + 3) ls st M) : bk_X p l e R s m args below meth c ba b0 aK cA D sc nL mc ms Z b pc ls st M := by
  obtain ⟨hx, hb, hml, hown, hts, hK, hSt, hR⟩ := C0
  simp only [bk_op] at h
  intro hs hl hn hM h13 H locs cells slots lsr hP hS hc hsl hL
  refine lv_ldc2 hx hb hown hw hd ?_
  exact hk _ _ _ _ h (bk_ocons hv hs) hl hn hM h13 H locs cells slots lsr hP hS hc hsl hL
theorem bk_s_ldcs (C0 : bk_Cx p R s m args c cc own nL ba b0 aK cA D sc) {k n : Nat} (ho : own = 2) (hv : k < 4) (hn0 : (bk_tx k).1 = n) (hd : decode cc pc = .ok (.ldc n, 2)) (h : bk_op Ca (bk_X p l e R s m args below meth c ba b0 aK cA D sc nL mc ms Z) Q (.ldc k) K b ls st M) (hk : ∀ b ls st M, K b ls st M → bk_X p l e R s m args below meth c ba b0 aK cA D sc nL mc ms Z b (pc + 2) ls st M) : bk_X p l e R s m args below meth c ba b0 aK cA D sc nL mc ms Z b pc ls st M := by
  obtain ⟨hx, hb, hml, hown, hts, hK, hSt, hR⟩ := C0
  simp only [bk_op] at h
  intro hs hl hn hM h13 H locs cells slots lsr hP hS hc hsl hL
  refine va_ldcS hx hb (own := RX2) (tx := (bk_tx k).2) (by rw [ho] at hown; exact hown) (by have := hSt.2.2.1 k hv; rw [hn0] at this; exact this) hd ?_
  exact hk _ _ _ _ h (bk_ocons (show bk_okv ba (.inr (.inr (14, k))) from Or.inr (Or.inl ⟨rfl, hv⟩)) hs) hl hn hM h13 H locs cells slots lsr hP hS hc hsl hL
theorem bk_s_iload (C0 : bk_Cx p R s m args c cc own nL ba b0 aK cA D sc) {n : Nat} (hd : decode cc pc = .ok (.iload n, 2)) (h : bk_op Ca (bk_X p l e R s m args below meth c ba b0 aK cA D sc nL mc ms Z) Q (.iload n) K b ls st M) (hk : ∀ b ls st M, K b ls st M → bk_X p l e R s m args below meth c ba b0 aK cA D sc nL mc ms Z b (pc + 2) ls st M) : bk_X p l e R s m args below meth c ba b0 aK cA D sc nL mc ms Z b pc ls st M := by
  obtain ⟨hx, hb, hml, hown, hts, hK, hSt, hR⟩ := C0
  simp only [bk_op] at h
  split at h
  · rename_i x hv
    intro hs hl hn hM h13 H locs cells slots lsr hP hS hc hsl hL
    refine lv_iload hx hb hd (bk_at hL hv (by intro q; cases q)) ?_
    exact hk _ _ _ _ h (bk_ocons (hl _ (List.mem_of_getElem? (by rw [← bk_nth_eq]; exact hv)) (by intro q; cases q)) hs) hl hn hM h13 H locs cells slots lsr hP hS hc hsl hL
  · exact h.elim
theorem bk_s_iload_n (C0 : bk_Cx p R s m args c cc own nL ba b0 aK cA D sc) {n : Nat} {k : Fin 4} (hk0 : (k : Nat) = n) (hd : decode cc pc = .ok (.iload_n k, 1)) (h : bk_op Ca (bk_X p l e R s m args below meth c ba b0 aK cA D sc nL mc ms Z) Q (.iload n) K b ls st M) (hk : ∀ b ls st M, K b ls st M → bk_X p l e R s m args below meth c ba b0 aK cA D sc nL mc ms Z b (pc + 1) ls st M) : bk_X p l e R s m args below meth c ba b0 aK cA D sc nL mc ms Z b pc ls st M := by
  obtain ⟨hx, hb, hml, hown, hts, hK, hSt, hR⟩ := C0
  simp only [bk_op] at h
  split at h
  · rename_i x hv
    intro hs hl hn hM h13 H locs cells slots lsr hP hS hc hsl hL
    refine lv_iload_n hx hb hd hk0 (bk_at hL hv (by intro q; cases q)) ?_
    exact hk _ _ _ _ h (bk_ocons (hl _ (List.mem_of_getElem? (by rw [← bk_nth_eq]; exact hv)) (by intro q; cases q)) hs) hl hn hM h13 H locs cells slots lsr hP hS hc hsl hL
  · exact h.elim
theorem bk_s_lload (C0 : bk_Cx p R s m args c cc own nL ba b0 aK cA D sc) {n : Nat} (hd : decode cc pc = .ok (.lload n, 2)) (h : bk_op Ca (bk_X p l e R s m args below meth c ba b0 aK cA D sc nL mc ms Z) Q (.lload n) K b ls st M) (hk : ∀ b ls st M, K b ls st M → bk_X p l e R s m args below meth c ba b0 aK cA D sc nL mc ms Z b (pc + 2) ls st M) : bk_X p l e R s m args below meth c ba b0 aK cA D sc nL mc ms Z b pc ls st M := by
  obtain ⟨hx, hb, hml, hown, hts, hK, hSt, hR⟩ := C0
  simp only [bk_op] at h
  split at h
  · rename_i x hv
    intro hs hl hn hM h13 H locs cells slots lsr hP hS hc hsl hL
    refine lv_lload hx hb hd (bk_at hL hv (by intro q; cases q)) ?_
    exact hk _ _ _ _ h (bk_ocons (hl _ (List.mem_of_getElem? (by rw [← bk_nth_eq]; exact hv)) (by intro q; cases q)) hs) hl hn hM h13 H locs cells slots lsr hP hS hc hsl hL
  · exact h.elim
theorem bk_s_lload_n (C0 : bk_Cx p R s m args c cc own nL ba b0 aK cA D sc) {n : Nat} {k : Fin 4} (hk0 : (k : Nat) = n) (hd : decode cc pc = .ok (.lload_n k, 1)) (h : bk_op Ca (bk_X p l e R s m args below meth c ba b0 aK cA D sc nL mc ms Z) Q (.lload n) K b ls st M) (hk : ∀ b ls st M, K b ls st M → bk_X p l e R s m args below meth c ba b0 aK cA D sc nL mc ms Z b (pc + 1) ls st M) : bk_X p l e R s m args below meth c ba b0 aK cA D sc nL mc ms Z b pc ls st M := by
  obtain ⟨hx, hb, hml, hown, hts, hK, hSt, hR⟩ := C0
  simp only [bk_op] at h
  split at h
  · rename_i x hv
    intro hs hl hn hM h13 H locs cells slots lsr hP hS hc hsl hL
    refine lv_lload_n hx hb hd hk0 (bk_at hL hv (by intro q; cases q)) ?_
    exact hk _ _ _ _ h (bk_ocons (hl _ (List.mem_of_getElem? (by rw [← bk_nth_eq]; exact hv)) (by intro q; cases q)) hs) hl hn hM h13 H locs cells slots lsr hP hS hc hsl hL
  · exact h.elim
theorem bk_s_aload (C0 : bk_Cx p R s m args c cc own nL ba b0 aK cA D sc) {n : Nat} (hd : decode cc pc = .ok (.aload n, 2)) (h : bk_op Ca (bk_X p l e R s m args below meth c ba b0 aK cA D sc nL mc ms Z) Q (.aload n) K b ls st M) (hk : ∀ b ls st M, K b ls st M → bk_X p l e R s m args below meth c ba b0 aK cA D sc nL mc ms Z b (pc + 2) ls st M) : bk_X p l e R s m args below meth c ba b0 aK cA D sc nL mc ms Z b pc ls st M := by
  obtain ⟨hx, hb, hml, hown, hts, hK, hSt, hR⟩ := C0
  simp only [bk_op] at h
  split at h
  · rename_i kk ii hv
    have hne : kk ≠ 15 := by
      intro q
      rw [q] at h
      exact h
    have h : K b ls (.inr (.inr (kk, ii)) :: st) M := by
      rw [nb_beq hne] at h
      exact h
    have hnx : (.inr (.inr (kk, ii)) : bk_V) ≠ bk_x := by
      intro q
      have q : ((kk, ii) : Nat × Nat) = (15, 0) := Sum.inr.inj (Sum.inr.inj q)
      exact hne (congrArg Prod.fst q)
    intro hs hl hn hM h13 H locs cells slots lsr hP hS hc hsl hL
    refine lv_aload hx hb hd (bk_at hL hv hnx) ?_
    exact hk _ _ _ _ h (bk_ocons (hl _ (List.mem_of_getElem? (by rw [← bk_nth_eq]; exact hv)) hnx) hs) hl hn hM h13 H locs cells slots lsr hP hS hc hsl hL
  · exact h.elim
theorem bk_s_aload_n (C0 : bk_Cx p R s m args c cc own nL ba b0 aK cA D sc) {n : Nat} {k : Fin 4} (hk0 : (k : Nat) = n) (hd : decode cc pc = .ok (.aload_n k, 1)) (h : bk_op Ca (bk_X p l e R s m args below meth c ba b0 aK cA D sc nL mc ms Z) Q (.aload n) K b ls st M) (hk : ∀ b ls st M, K b ls st M → bk_X p l e R s m args below meth c ba b0 aK cA D sc nL mc ms Z b (pc + 1) ls st M) : bk_X p l e R s m args below meth c ba b0 aK cA D sc nL mc ms Z b pc ls st M := by
  obtain ⟨hx, hb, hml, hown, hts, hK, hSt, hR⟩ := C0
  simp only [bk_op] at h
  split at h
  · rename_i kk ii hv
    have hne : kk ≠ 15 := by
      intro q
      rw [q] at h
      exact h
    have h : K b ls (.inr (.inr (kk, ii)) :: st) M := by
      rw [nb_beq hne] at h
      exact h
    have hnx : (.inr (.inr (kk, ii)) : bk_V) ≠ bk_x := by
      intro q
      have q : ((kk, ii) : Nat × Nat) = (15, 0) := Sum.inr.inj (Sum.inr.inj q)
      exact hne (congrArg Prod.fst q)
    intro hs hl hn hM h13 H locs cells slots lsr hP hS hc hsl hL
    refine lv_aload_n hx hb hd hk0 (bk_at hL hv hnx) ?_
    exact hk _ _ _ _ h (bk_ocons (hl _ (List.mem_of_getElem? (by rw [← bk_nth_eq]; exact hv)) hnx) hs) hl hn hM h13 H locs cells slots lsr hP hS hc hsl hL
  · exact h.elim
theorem bk_s_istore (C0 : bk_Cx p R s m args c cc own nL ba b0 aK cA D sc) {n : Nat} (hn0 : n < nL) (hd : decode cc pc = .ok (.istore n, 2)) (h : bk_op Ca (bk_X p l e R s m args below meth c ba b0 aK cA D sc nL mc ms Z) Q (.istore n) K b ls st M) (hk : ∀ b ls st M, K b ls st M → bk_X p l e R s m args below meth c ba b0 aK cA D sc nL mc ms Z b (pc + 2) ls st M) : bk_X p l e R s m args below meth c ba b0 aK cA D sc nL mc ms Z b pc ls st M := by
  obtain ⟨hx, hb, hml, hown, hts, hK, hSt, hR⟩ := C0
  simp only [bk_op] at h
  split at h
  · rename_i x st'
    intro hs hl hn hM h13 H locs cells slots lsr hP hS hc hsl hL
    have hv0 : bk_okv ba (.inl x) := hs (.inl x) (by simp)
    have hs' : ∀ w ∈ st', bk_okv ba w := fun w hw => hs w (by simp [hw])
    refine lv_istore hx hb hd hL hn0 rfl (fun ls' hL' => ?_)
    exact hk _ _ _ _ h hs' (bk_set_mem (fun _ => hv0) hl) (by rw [bk_set_len]; exact hn) hM h13 H locs cells slots ls' hP hS hc hsl (bk_store1 (by intro z q; cases q) hL')
  · exact h.elim
theorem bk_s_istore_n (C0 : bk_Cx p R s m args c cc own nL ba b0 aK cA D sc) {n : Nat} {k : Fin 4} (hk0 : (k : Nat) = n) (hn0 : n < nL) (hd : decode cc pc = .ok (.istore_n k, 1)) (h : bk_op Ca (bk_X p l e R s m args below meth c ba b0 aK cA D sc nL mc ms Z) Q (.istore n) K b ls st M) (hk : ∀ b ls st M, K b ls st M → bk_X p l e R s m args below meth c ba b0 aK cA D sc nL mc ms Z b (pc + 1) ls st M) : bk_X p l e R s m args below meth c ba b0 aK cA D sc nL mc ms Z b pc ls st M := by
  obtain ⟨hx, hb, hml, hown, hts, hK, hSt, hR⟩ := C0
  simp only [bk_op] at h
  split at h
  · rename_i x st'
    intro hs hl hn hM h13 H locs cells slots lsr hP hS hc hsl hL
    have hv0 : bk_okv ba (.inl x) := hs (.inl x) (by simp)
    have hs' : ∀ w ∈ st', bk_okv ba w := fun w hw => hs w (by simp [hw])
    refine lv_istore_n hx hb hd hk0 hL hn0 rfl (fun ls' hL' => ?_)
    exact hk _ _ _ _ h hs' (bk_set_mem (fun _ => hv0) hl) (by rw [bk_set_len]; exact hn) hM h13 H locs cells slots ls' hP hS hc hsl (bk_store1 (by intro z q; cases q) hL')
  · exact h.elim
theorem bk_s_lstore (C0 : bk_Cx p R s m args c cc own nL ba b0 aK cA D sc) {n : Nat} (hn0 : n + 1 < nL) (hd : decode cc pc = .ok (.lstore n, 2)) (h : bk_op Ca (bk_X p l e R s m args below meth c ba b0 aK cA D sc nL mc ms Z) Q (.lstore n) K b ls st M) (hk : ∀ b ls st M, K b ls st M → bk_X p l e R s m args below meth c ba b0 aK cA D sc nL mc ms Z b (pc + 2) ls st M) : bk_X p l e R s m args below meth c ba b0 aK cA D sc nL mc ms Z b pc ls st M := by
  obtain ⟨hx, hb, hml, hown, hts, hK, hSt, hR⟩ := C0
  simp only [bk_op] at h
  split at h
  · rename_i x st'
    intro hs hl hn hM h13 H locs cells slots lsr hP hS hc hsl hL
    have hv0 : bk_okv ba (.inr (.inl x)) := hs (.inr (.inl x)) (by simp)
    have hs' : ∀ w ∈ st', bk_okv ba w := fun w hw => hs w (by simp [hw])
    refine lv_lstore hx hb hd hL hn0 rfl (fun ls' hL' => ?_)
    exact hk _ _ _ _ h hs' (bk_set_mem (fun _ => hv0) hl) (by rw [bk_set_len]; exact hn) hM h13 H locs cells slots ls' hP hS hc hsl (bk_store2 hL')
  · exact h.elim
theorem bk_s_lstore_n (C0 : bk_Cx p R s m args c cc own nL ba b0 aK cA D sc) {n : Nat} {k : Fin 4} (hk0 : (k : Nat) = n) (hn0 : n + 1 < nL) (hd : decode cc pc = .ok (.lstore_n k, 1)) (h : bk_op Ca (bk_X p l e R s m args below meth c ba b0 aK cA D sc nL mc ms Z) Q (.lstore n) K b ls st M) (hk : ∀ b ls st M, K b ls st M → bk_X p l e R s m args below meth c ba b0 aK cA D sc nL mc ms Z b (pc + 1) ls st M) : bk_X p l e R s m args below meth c ba b0 aK cA D sc nL mc ms Z b pc ls st M := by
  obtain ⟨hx, hb, hml, hown, hts, hK, hSt, hR⟩ := C0
  simp only [bk_op] at h
  split at h
  · rename_i x st'
    intro hs hl hn hM h13 H locs cells slots lsr hP hS hc hsl hL
    have hv0 : bk_okv ba (.inr (.inl x)) := hs (.inr (.inl x)) (by simp)
    have hs' : ∀ w ∈ st', bk_okv ba w := fun w hw => hs w (by simp [hw])
    refine lv_lstore_n hx hb hd hk0 hL hn0 rfl (fun ls' hL' => ?_)
    exact hk _ _ _ _ h hs' (bk_set_mem (fun _ => hv0) hl) (by rw [bk_set_len]; exact hn) hM h13 H locs cells slots ls' hP hS hc hsl (bk_store2 hL')
  · exact h.elim
theorem bk_s_astore (C0 : bk_Cx p R s m args c cc own nL ba b0 aK cA D sc) {n : Nat} (hn0 : n < nL) (hd : decode cc pc = .ok (.astore n, 2)) (h : bk_op Ca (bk_X p l e R s m args below meth c ba b0 aK cA D sc nL mc ms Z) Q (.astore n) K b ls st M) (hk : ∀ b ls st M, K b ls st M → bk_X p l e R s m args below meth c ba b0 aK cA D sc nL mc ms Z b (pc + 2) ls st M) : bk_X p l e R s m args below meth c ba b0 aK cA D sc nL mc ms Z b pc ls st M := by
  obtain ⟨hx, hb, hml, hown, hts, hK, hSt, hR⟩ := C0
  simp only [bk_op] at h
  split at h
  · rename_i x st'
    intro hs hl hn hM h13 H locs cells slots lsr hP hS hc hsl hL
    have hv0 : bk_okv ba (.inr (.inr x)) := hs (.inr (.inr x)) (by simp)
    have hs' : ∀ w ∈ st', bk_okv ba w := fun w hw => hs w (by simp [hw])
    refine lv_astore hx hb hd hL hn0 rfl (fun ls' hL' => ?_)
    exact hk _ _ _ _ h hs' (bk_set_mem (fun _ => hv0) hl) (by rw [bk_set_len]; exact hn) hM h13 H locs cells slots ls' hP hS hc hsl (bk_store1 (by intro z q; cases q) hL')
  · exact h.elim
theorem bk_s_astore_n (C0 : bk_Cx p R s m args c cc own nL ba b0 aK cA D sc) {n : Nat} {k : Fin 4} (hk0 : (k : Nat) = n) (hn0 : n < nL) (hd : decode cc pc = .ok (.astore_n k, 1)) (h : bk_op Ca (bk_X p l e R s m args below meth c ba b0 aK cA D sc nL mc ms Z) Q (.astore n) K b ls st M) (hk : ∀ b ls st M, K b ls st M → bk_X p l e R s m args below meth c ba b0 aK cA D sc nL mc ms Z b (pc + 1) ls st M) : bk_X p l e R s m args below meth c ba b0 aK cA D sc nL mc ms Z b pc ls st M := by
  obtain ⟨hx, hb, hml, hown, hts, hK, hSt, hR⟩ := C0
  simp only [bk_op] at h
  split at h
  · rename_i x st'
    intro hs hl hn hM h13 H locs cells slots lsr hP hS hc hsl hL
    have hv0 : bk_okv ba (.inr (.inr x)) := hs (.inr (.inr x)) (by simp)
    have hs' : ∀ w ∈ st', bk_okv ba w := fun w hw => hs w (by simp [hw])
    refine lv_astore_n hx hb hd hk0 hL hn0 rfl (fun ls' hL' => ?_)
    exact hk _ _ _ _ h hs' (bk_set_mem (fun _ => hv0) hl) (by rw [bk_set_len]; exact hn) hM h13 H locs cells slots ls' hP hS hc hsl (bk_store1 (by intro z q; cases q) hL')
  · exact h.elim
theorem bk_s_iinc (C0 : bk_Cx p R s m args c cc own nL ba b0 aK cA D sc) {n : Nat} {v : Int} (hn0 : n < nL) (hd : decode cc pc = .ok (.iinc n v, 3)) (h : bk_op Ca (bk_X p l e R s m args below meth c ba b0 aK cA D sc nL mc ms Z) Q (.iinc n v) K b ls st M) (hk : ∀ b ls st M, K b ls st M → bk_X p l e R s m args below meth c ba b0 aK cA D sc nL mc ms Z b (pc + 3) ls st M) : bk_X p l e R s m args below meth c ba b0 aK cA D sc nL mc ms Z b pc ls st M := by
  obtain ⟨hx, hb, hml, hown, hts, hK, hSt, hR⟩ := C0
  simp only [bk_op] at h
  split at h
  · rename_i x hv
    intro hs hl hn hM h13 H locs cells slots lsr hP hS hc hsl hL
    obtain ⟨q0, hq0⟩ := List.getElem?_of_mem (bk_al_mem.mpr ⟨.inl x, by rw [← bk_nth_eq]; exact hv, (by intro q; cases q), rfl⟩ : (n, bk_rv ba b0 aK (.inl x)) ∈ bk_al ba b0 aK ls)
    refine lv_iinc hx hb hd hL hq0 (Int32.ofInt_add x v).symm hn0 rfl (fun ls' hL' => ?_)
    exact hk _ _ _ _ h.2 hs (bk_set_mem (fun _ => h.1) hl) (by rw [bk_set_len]; exact hn) hM h13 H locs cells slots ls' hP hS hc hsl (bk_store1 (by intro z q; cases q) hL')
  · exact h.elim
theorem bk_s_dup (C0 : bk_Cx p R s m args c cc own nL ba b0 aK cA D sc) (hd : decode cc pc = .ok (.dup, 1)) (h : bk_op Ca (bk_X p l e R s m args below meth c ba b0 aK cA D sc nL mc ms Z) Q (.dup) K b ls st M) (hk : ∀ b ls st M, K b ls st M → bk_X p l e R s m args below meth c ba b0 aK cA D sc nL mc ms Z b (pc + 1) ls st M) : bk_X p l e R s m args below meth c ba b0 aK cA D sc nL mc ms Z b pc ls st M := by
  obtain ⟨hx, hb, hml, hown, hts, hK, hSt, hR⟩ := C0
  simp only [bk_op] at h
  split at h
  · rename_i x st'
    intro hs hl hn hM h13 H locs cells slots lsr hP hS hc hsl hL
    refine lv_dup hx hb hd rfl ?_
    exact hk _ _ _ _ h (bk_ocons (hs _ (by simp)) hs) hl hn hM h13 H locs cells slots lsr hP hS hc hsl hL
  · rename_i x st'
    intro hs hl hn hM h13 H locs cells slots lsr hP hS hc hsl hL
    refine lv_dup hx hb hd rfl ?_
    exact hk _ _ _ _ h (bk_ocons (hs _ (by simp)) hs) hl hn hM h13 H locs cells slots lsr hP hS hc hsl hL
  · exact h.elim
theorem bk_s_dup2 (C0 : bk_Cx p R s m args c cc own nL ba b0 aK cA D sc) (hd : decode cc pc = .ok (.dup2, 1)) (h : bk_op Ca (bk_X p l e R s m args below meth c ba b0 aK cA D sc nL mc ms Z) Q (.dup2) K b ls st M) (hk : ∀ b ls st M, K b ls st M → bk_X p l e R s m args below meth c ba b0 aK cA D sc nL mc ms Z b (pc + 1) ls st M) : bk_X p l e R s m args below meth c ba b0 aK cA D sc nL mc ms Z b pc ls st M := by
  obtain ⟨hx, hb, hml, hown, hts, hK, hSt, hR⟩ := C0
  simp only [bk_op] at h
  split at h
  · rename_i y x st'
    intro hs hl hn hM h13 H locs cells slots lsr hP hS hc hsl hL
    refine lv_dup2_11 hx hb hd rfl rfl ?_
    exact hk _ _ _ _ h (bk_ocons (hs _ (by simp)) (bk_ocons (hs _ (by simp)) hs)) hl hn hM h13 H locs cells slots lsr hP hS hc hsl hL
  · exact h.elim
theorem bk_s_pop (C0 : bk_Cx p R s m args c cc own nL ba b0 aK cA D sc) (hd : decode cc pc = .ok (.pop, 1)) (h : bk_op Ca (bk_X p l e R s m args below meth c ba b0 aK cA D sc nL mc ms Z) Q (.pop) K b ls st M) (hk : ∀ b ls st M, K b ls st M → bk_X p l e R s m args below meth c ba b0 aK cA D sc nL mc ms Z b (pc + 1) ls st M) : bk_X p l e R s m args below meth c ba b0 aK cA D sc nL mc ms Z b pc ls st M := by
  obtain ⟨hx, hb, hml, hown, hts, hK, hSt, hR⟩ := C0
  simp only [bk_op] at h
  split at h
  · rename_i x st'
    intro hs hl hn hM h13 H locs cells slots lsr hP hS hc hsl hL
    refine lv_pop hx hb hd rfl ?_
    exact hk _ _ _ _ h (fun w hw => hs w (by simp [hw])) hl hn hM h13 H locs cells slots lsr hP hS hc hsl hL
  · exact h.elim
theorem bk_s_if_icmp (C0 : bk_Cx p R s m args c cc own nL ba b0 aK cA D sc) {cm : Jvm.ClassFile.Cond} {t off : Int} (ht0 : (pc : Int) + off = t) (ht1 : 0 ≤ t) (hd : decode cc pc = .ok (.if_icmp cm off, 3)) (h : bk_op Ca (bk_X p l e R s m args below meth c ba b0 aK cA D sc nL mc ms Z) Q (.if_icmp cm t) K b ls st M) (hk : ∀ b ls st M, K b ls st M → bk_X p l e R s m args below meth c ba b0 aK cA D sc nL mc ms Z b (pc + 3) ls st M) : bk_X p l e R s m args below meth c ba b0 aK cA D sc nL mc ms Z b pc ls st M := by
  obtain ⟨hx, hb, hml, hown, hts, hK, hSt, hR⟩ := C0
  simp only [bk_op] at h
  split at h
  · rename_i y x st'
    intro hs hl hn hM h13 H locs cells slots lsr hP hS hc hsl hL
    have hy : bk_r32 y := hs (.inl y) (by simp)
    have hx0 : bk_r32 x := hs (.inl x) (by simp)
    have hs' : ∀ w ∈ st', bk_okv ba w := fun w hw => hs w (by simp [hw])
    have ht : (pc : Int) + off = (t.toNat : Int) := by omega
    cases cm
    case eq =>
      refine lv_icmp_eq hx hb hd ht (fun q => ?_) (fun q => ?_)
      · exact h.1 (by rw [nb_eq hx0 hy] at q; exact q) hs' hl hn hM h13 H locs cells slots lsr hP hS hc hsl hL
      · exact hk _ _ _ _ (h.2 (by rw [nb_eq hx0 hy] at q; exact q)) hs' hl hn hM h13 H locs cells slots lsr hP hS hc hsl hL
    case ne =>
      refine lv_icmp_ne hx hb hd ht (fun q => ?_) (fun q => ?_)
      · exact h.1 (by rw [nb_eq hx0 hy] at q; exact q) hs' hl hn hM h13 H locs cells slots lsr hP hS hc hsl hL
      · exact hk _ _ _ _ (h.2 (by rw [nb_eq hx0 hy] at q; exact fun z => z q)) hs' hl hn hM h13 H locs cells slots lsr hP hS hc hsl hL
    case lt =>
      refine lv_icmp_lt hx hb hd ht (fun q => ?_) (fun q => ?_)
      · exact h.1 (by rw [nb_lt hx0 hy] at q; exact q) hs' hl hn hM h13 H locs cells slots lsr hP hS hc hsl hL
      · exact hk _ _ _ _ (h.2 (by rw [nb_lt hx0 hy] at q; exact q)) hs' hl hn hM h13 H locs cells slots lsr hP hS hc hsl hL
    case ge =>
      refine lv_icmp_ge hx hb hd ht (fun q => ?_) (fun q => ?_)
      · exact h.1 (by rw [nb_le hy hx0] at q; exact q) hs' hl hn hM h13 H locs cells slots lsr hP hS hc hsl hL
      · exact hk _ _ _ _ (h.2 (by rw [nb_le hy hx0] at q; exact q)) hs' hl hn hM h13 H locs cells slots lsr hP hS hc hsl hL
    case gt =>
      refine lv_icmp_gt hx hb hd ht (fun q => ?_) (fun q => ?_)
      · exact h.1 (by rw [nb_lt hy hx0] at q; exact q) hs' hl hn hM h13 H locs cells slots lsr hP hS hc hsl hL
      · exact hk _ _ _ _ (h.2 (by rw [nb_lt hy hx0] at q; exact q)) hs' hl hn hM h13 H locs cells slots lsr hP hS hc hsl hL
    case le =>
      refine lv_icmp_le hx hb hd ht (fun q => ?_) (fun q => ?_)
      · exact h.1 (by rw [nb_le hx0 hy] at q; exact q) hs' hl hn hM h13 H locs cells slots lsr hP hS hc hsl hL
      · exact hk _ _ _ _ (h.2 (by rw [nb_le hx0 hy] at q; exact q)) hs' hl hn hM h13 H locs cells slots lsr hP hS hc hsl hL
  · exact h.elim
theorem bk_s_ifCond (C0 : bk_Cx p R s m args c cc own nL ba b0 aK cA D sc) {cm : Jvm.ClassFile.Cond} {t off : Int} (ht0 : (pc : Int) + off = t) (ht1 : 0 ≤ t) (hd : decode cc pc = .ok (.ifCond cm off, 3)) (h : bk_op Ca (bk_X p l e R s m args below meth c ba b0 aK cA D sc nL mc ms Z) Q (.ifCond cm t) K b ls st M) (hk : ∀ b ls st M, K b ls st M → bk_X p l e R s m args below meth c ba b0 aK cA D sc nL mc ms Z b (pc + 3) ls st M) : bk_X p l e R s m args below meth c ba b0 aK cA D sc nL mc ms Z b pc ls st M := by
  obtain ⟨hx, hb, hml, hown, hts, hK, hSt, hR⟩ := C0
  simp only [bk_op] at h
  split at h
  · rename_i x st'
    intro hs hl hn hM h13 H locs cells slots lsr hP hS hc hsl hL
    have hx0 : bk_r32 x := hs (.inl x) (by simp)
    have hs' : ∀ w ∈ st', bk_okv ba w := fun w hw => hs w (by simp [hw])
    have ht : (pc : Int) + off = (t.toNat : Int) := by omega
    cases cm
    case eq =>
      refine lv_if_eq hx hb hd ht (fun q => ?_) (fun q => ?_)
      · exact h.1 (by rw [nb_z] at q; rw [nb_eq hx0 nb_r0] at q; exact q) hs' hl hn hM h13 H locs cells slots lsr hP hS hc hsl hL
      · exact hk _ _ _ _ (h.2 (by rw [nb_z] at q; rw [nb_eq hx0 nb_r0] at q; exact q)) hs' hl hn hM h13 H locs cells slots lsr hP hS hc hsl hL
    case ne =>
      refine lv_if_ne hx hb hd ht (fun q => ?_) (fun q => ?_)
      · exact h.1 (by rw [nb_z] at q; rw [nb_eq hx0 nb_r0] at q; exact q) hs' hl hn hM h13 H locs cells slots lsr hP hS hc hsl hL
      · exact hk _ _ _ _ (h.2 (by rw [nb_z] at q; rw [nb_eq hx0 nb_r0] at q; exact fun z => z q)) hs' hl hn hM h13 H locs cells slots lsr hP hS hc hsl hL
    case lt =>
      refine lv_if_lt hx hb hd ht (fun q => ?_) (fun q => ?_)
      · exact h.1 (by rw [nb_z] at q; rw [nb_lt hx0 nb_r0] at q; exact q) hs' hl hn hM h13 H locs cells slots lsr hP hS hc hsl hL
      · exact hk _ _ _ _ (h.2 (by rw [nb_z] at q; rw [nb_lt hx0 nb_r0] at q; exact q)) hs' hl hn hM h13 H locs cells slots lsr hP hS hc hsl hL
    case ge =>
      refine lv_if_ge hx hb hd ht (fun q => ?_) (fun q => ?_)
      · exact h.1 (by rw [nb_z] at q; rw [nb_le nb_r0 hx0] at q; exact q) hs' hl hn hM h13 H locs cells slots lsr hP hS hc hsl hL
      · exact hk _ _ _ _ (h.2 (by rw [nb_z] at q; rw [nb_le nb_r0 hx0] at q; exact q)) hs' hl hn hM h13 H locs cells slots lsr hP hS hc hsl hL
    case gt =>
      refine lv_if_gt hx hb hd ht (fun q => ?_) (fun q => ?_)
      · exact h.1 (by rw [nb_z] at q; rw [nb_lt nb_r0 hx0] at q; exact q) hs' hl hn hM h13 H locs cells slots lsr hP hS hc hsl hL
      · exact hk _ _ _ _ (h.2 (by rw [nb_z] at q; rw [nb_lt nb_r0 hx0] at q; exact q)) hs' hl hn hM h13 H locs cells slots lsr hP hS hc hsl hL
    case le =>
      refine lv_if_le hx hb hd ht (fun q => ?_) (fun q => ?_)
      · exact h.1 (by rw [nb_z] at q; rw [nb_le hx0 nb_r0] at q; exact q) hs' hl hn hM h13 H locs cells slots lsr hP hS hc hsl hL
      · exact hk _ _ _ _ (h.2 (by rw [nb_z] at q; rw [nb_le hx0 nb_r0] at q; exact q)) hs' hl hn hM h13 H locs cells slots lsr hP hS hc hsl hL
  · exact h.elim
theorem bk_s_goto (C0 : bk_Cx p R s m args c cc own nL ba b0 aK cA D sc) {t off : Int} (ht0 : (pc : Int) + off = t) (ht1 : 0 ≤ t) (hd : decode cc pc = .ok (.goto off, 3)) (h : bk_op Ca (bk_X p l e R s m args below meth c ba b0 aK cA D sc nL mc ms Z) Q (.goto t) K b ls st M) (hk : ∀ b ls st M, K b ls st M → bk_X p l e R s m args below meth c ba b0 aK cA D sc nL mc ms Z b (pc + 3) ls st M) : bk_X p l e R s m args below meth c ba b0 aK cA D sc nL mc ms Z b pc ls st M := by
  obtain ⟨hx, hb, hml, hown, hts, hK, hSt, hR⟩ := C0
  simp only [bk_op] at h
  intro hs hl hn hM h13 H locs cells slots lsr hP hS hc hsl hL
  refine lv_goto hx hb hd (tgt := t.toNat) (by omega) ?_
  exact h hs hl hn hM h13 H locs cells slots lsr hP hS hc hsl hL
end SND
