theorem bk_getf_mono {f : Nat} {M : bk_M} {k i : Nat} {st : List bk_V} {K K' : List bk_V → Prop} (hK : ∀ st, K st → K' st) : bk_getf f M k i st K → bk_getf f M k i st K' := by
  unfold bk_getf
  cases Nat.beq k (f / 64 % 16) with
  | false => exact fun h => h
  | true => simp only [cond_true]; split <;> exact hK _
theorem bk_putf_mono {f : Nat} {M : bk_M} {k i : Nat} {v : bk_V} {K K' : bk_M → Prop} (hK : ∀ M, K M → K' M) : bk_putf f M k i v K → bk_putf f M k i v K' := by
  unfold bk_putf
  cases Nat.beq k (f / 64 % 16) with
  | false => exact fun h => h
  | true =>
    simp only [cond_true]
    split
    · exact fun h M' e => hK _ (h M' e)
    · exact fun h M' e => hK _ (h M' e)
    · rename_i k2 i2 _
      cases Nat.beq k2 (f / 8192 % 128) with
      | false => exact fun h => h
      | true => exact fun h M' e => hK _ (h M' e)
    · exact fun h => ⟨h.1, fun M' e => hK _ (h.2 M' e)⟩
    · exact fun h => h
theorem bk_op_mono {C : bk_Ca} (hC : ∀ b μ as M (Q Q' : bk_Q), (∀ t r M, Q t r M → Q' t r M) → C b μ as M Q → C b μ as M Q')
    {T T' : bk_T} (hT : ∀ b l ls st M, T b l ls st M → T' b l ls st M) {Q Q' : bk_Q} (hQ : ∀ t r M, Q t r M → Q' t r M) {K K' : bk_K} (hK : ∀ b ls st M, K b ls st M → K' b ls st M)
    (i : Instr) (b : Nat) (ls st : List bk_V) (M : bk_M) (h : bk_op C T Q i K b ls st M) : bk_op C T' Q' i K' b ls st M := by
  have hsw : ∀ (x : Int) (F G : Int → Prop) (hFG : ∀ l, F l → G l) (d : Int) (os : List Int) (lo : Int), bk_sw x F d lo os → bk_sw x G d lo os := by
    intro x F G hFG d os
    induction os with
    | nil => intro lo h; exact hFG d h
    | cons o os ih => intro lo h; exact ⟨fun e => hFG _ (h.1 e), fun e => ih _ (h.2 e)⟩
  have hlsw : ∀ (x : Int) (F G : Int → Prop) (hFG : ∀ l, F l → G l) (d : Int) (os : List (Int × Int)), bk_lsw x F d os → bk_lsw x G d os := by
    intro x F G hFG d os
    induction os with
    | nil => exact hFG d
    | cons o os ih => intro h; exact ⟨fun e => hFG _ (h.1 e), fun e => ih (h.2 e)⟩
  cases i
  case getfield f =>
    revert h; simp only [bk_op]; split
    · exact bk_getf_mono fun st => hK _ _ _ _
    · exact fun h => h
  case putfield f =>
    revert h; simp only [bk_op]; split
    · exact bk_putf_mono fun M => hK _ _ _ _
    · exact fun h => h
  case iaload =>
    revert h; simp only [bk_op]; split
    · rename_i j k i st
      refine fun h => ⟨h.1, ?_⟩
      have h := h.2
      revert h
      cases Nat.beq (bk_so k) 0 with
      | false => exact fun h => h
      | true => exact hK _ _ _ _
    · exact fun h => h
  case laload =>
    revert h; simp only [bk_op]; split
    · rename_i j k i st
      refine fun h => ⟨h.1, ?_⟩
      have h := h.2
      revert h
      cases Nat.beq (bk_so k) 1 with
      | false => exact fun h => h
      | true => exact hK _ _ _ _
    · exact fun h => h
  case baload =>
    revert h; simp only [bk_op]; split
    · rename_i j k i st
      refine fun h => ⟨h.1, ?_⟩
      have h := h.2
      revert h
      cases Nat.beq (bk_so k) 2 with
      | false => exact fun h => h
      | true => exact hK _ _ _ _
    · exact fun h => h
  case aaload =>
    revert h; simp only [bk_op]; split
    · rename_i j k _ st
      refine fun h => ⟨h.1, ?_⟩
      have h := h.2
      revert h
      cases Nat.beq (bk_so k) 3 with
      | false => exact fun h => h
      | true => exact hK _ _ _ _
    · exact fun h => h
  case iastore =>
    revert h; simp only [bk_op]; split
    · rename_i z j k i st
      refine fun h => ⟨h.1, ?_⟩
      have h := h.2
      revert h
      cases Nat.beq (bk_so k) 0 with
      | false => exact fun h => h
      | true => exact fun h M' e => hK _ _ _ _ (h M' e)
    · exact fun h => h
  case lastore =>
    revert h; simp only [bk_op]; split
    · rename_i z j k i st
      refine fun h => ⟨h.1, ?_⟩
      have h := h.2
      revert h
      cases Nat.beq (bk_so k) 1 with
      | false => exact fun h => h
      | true => exact fun h M' e => hK _ _ _ _ (h M' e)
    · exact fun h => h
  case bastore =>
    revert h; simp only [bk_op]; split
    · rename_i z j k i st
      refine fun h => ⟨h.1, ?_⟩
      have h := h.2
      revert h
      cases Nat.beq (bk_so k) 2 with
      | false => exact fun h => h
      | true => exact fun h => ⟨h.1, fun M' e => hK _ _ _ _ (h.2 M' e)⟩
    · exact fun h => h
  case saload =>
    revert h; simp only [bk_op]; split
    · rename_i j k i st
      cases Nat.beq k 13 with
      | false => exact fun h => h
      | true => exact fun h => ⟨h.1, hK _ _ _ _ h.2⟩
    · exact fun h => h
  case arraylength =>
    revert h; simp only [bk_op]; split
    · rename_i k i st
      cases Nat.ble 16 k with
      | false => exact fun h => h
      | true => exact hK _ _ _ _
    · exact fun h => h
  case swap =>
    revert h; simp only [bk_op]; split
    · rename_i k i st
      cases Nat.beq k 13 with
      | false => exact fun h => h
      | true => exact hK _ _ _ _
    · exact fun h => h
  case invokevirtual n =>
    revert h; simp only [bk_op]; split
    · rename_i len dp dk di sp sk si st
      refine fun h => ⟨h.1, ?_⟩
      have h := h.2
      revert h
      cases (Nat.beq (bk_so sk) (bk_so dk) && Nat.ble (bk_so sk) 1 && Nat.ble st.length 4 && Nat.ble 16 sk && Nat.ble 16 dk) with
      | false => exact fun h => h
      | true => exact fun h M' e => hK _ _ _ _ (h M' e)
    · rename_i y x st
      cases Nat.ble st.length 4 with
      | false => exact fun h => h
      | true => exact hK _ _ _ _
    · rename_i y x st
      cases Nat.ble st.length 4 with
      | false => exact fun h => h
      | true => exact hK _ _ _ _
    · rename_i x st
      cases Nat.ble st.length 4 with
      | false => exact fun h => h
      | true => exact fun h => ⟨h.1, hK _ _ _ _ h.2⟩
    · rename_i k i st
      cases (Nat.beq k 14 && Nat.ble st.length 4) with
      | false => exact fun h => h
      | true => exact hK _ _ _ _
    · rename_i j k i st
      cases (Nat.beq k 14 && Nat.ble st.length 4) with
      | false => exact fun h => h
      | true => exact fun h => ⟨h.1, hK _ _ _ _ h.2⟩
    · exact fun h => h
  case invokestatic n =>
    revert h; simp only [bk_op]; split
    · rename_i as st _
      cases (Nat.ble st.length 4 && bk_rcv (n / 32768 % 16) as && Nat.beq (bk_wd as) (n / 524288)) with
      | false => exact fun h => h
      | true => exact hC _ _ _ _ _ _ (fun t r M e => ⟨e.1, hK _ _ _ _ e.2⟩)
    · exact fun h => h
  case invokeinterface n h' =>
    revert h; simp only [bk_op]; split
    · rename_i as st _
      cases (Nat.ble st.length 4 && bk_rcv (n / 32768 % 16) as && Nat.beq (bk_wd as) (n / 524288)) with
      | false => exact fun h => h
      | true => exact hC _ _ _ _ _ _ (fun t r M e => ⟨fun q => hK _ _ _ _ (e.1 q), fun q => hT _ _ _ _ _ (e.2 q)⟩)
    · exact fun h => h
  case aload n =>
    revert h; simp only [bk_op]; split
    · rename_i k i _
      cases Nat.beq k 15 with
      | false => exact hK _ _ _ _
      | true => exact fun h => h
    · exact fun h => h
  case athrow =>
    revert h; simp only [bk_op]; split
    · exact hQ _ _ _
    · exact fun h => h
  all_goals
    revert h; simp only [bk_op]; (try split) <;>
    first
    | exact fun h => h
    | exact hK _ _ _ _
    | exact hT _ _ _ _ _
    | exact hQ _ _ _
    | exact fun h => ⟨h.1, hQ _ _ _ h.2⟩
    | exact fun h => ⟨h.1, hK _ _ _ _ h.2⟩
    | exact fun h => ⟨fun e => hT _ _ _ _ _ (h.1 e), fun e => hK _ _ _ _ (h.2 e)⟩
    | exact hsw _ _ _ (fun l => hT _ _ _ _ _) _ _ _
    | exact hlsw _ _ _ (fun l => hT _ _ _ _ _) _ _
    | exact hC _ _ _ _ _ _ (fun t r M e => ⟨e.1, hK _ _ _ _ e.2⟩)
    | exact hC _ _ _ _ _ _ (fun t r M e => ⟨fun q => hK _ _ _ _ (e.1 q), fun q => hT _ _ _ _ _ (e.2 q)⟩)
theorem bk_run_mono {C : bk_Ca} (hC : ∀ b μ as M (Q Q' : bk_Q), (∀ t r M, Q t r M → Q' t r M) → C b μ as M Q → C b μ as M Q')
    {T T' : bk_T} (hT : ∀ b l ls st M, T b l ls st M → T' b l ls st M) {Q Q' : bk_Q} (hQ : ∀ t r M, Q t r M → Q' t r M)
    (is : List Instr) : ∀ (b : Nat) (ls st : List bk_V) (M : bk_M), bk_run C T Q is b ls st M → bk_run C T' Q' is b ls st M := by
  induction is with
  | nil => intro b ls st M h; exact h
  | cons i is ih => intro b ls st M h; exact bk_op_mono hC hT hQ ih i b ls st M h
theorem bk_wp_mono {C : bk_Ca} (hC : ∀ b μ as M (Q Q' : bk_Q), (∀ t r M, Q t r M → Q' t r M) → C b μ as M Q → C b μ as M Q')
    {P : bk_P} {Q Q' : bk_Q} (hQ : ∀ t r M, Q t r M → Q' t r M) {b l : Nat} {ls st : List bk_V} {M : bk_M} (h : bk_wp C P Q b l ls st M) : bk_wp C P Q' b l ls st M :=
  fun X hX => h X fun b l ls st M q => hX b l ls st M (bk_run_mono hC (fun _ _ _ _ _ h => h) hQ _ b ls st M q)
theorem bk_wp_fold {C : bk_Ca} (hC : ∀ b μ as M (Q Q' : bk_Q), (∀ t r M, Q t r M → Q' t r M) → C b μ as M Q → C b μ as M Q')
    {P : bk_P} {Q : bk_Q} {b l : Nat} {ls st : List bk_V} {M : bk_M} (h : bk_run C (bk_wp C P Q) Q (bk_lk l P) b ls st M) : bk_wp C P Q b l ls st M :=
  fun X hX => hX b l ls st M (bk_run_mono hC (fun _ _ _ _ _ q => q X hX) (fun _ _ _ h => h) _ b ls st M h)
theorem bk_go_wp {C : bk_Ca} (hC : ∀ b μ as M (Q Q' : bk_Q), (∀ t r M, Q t r M → Q' t r M) → C b μ as M Q → C b μ as M Q')
    {P : bk_P} {Q : bk_Q} {S : List Nat} (n : Nat) : ∀ {b l : Nat} {ls st : List bk_V} {M : bk_M}, bk_go C P Q S n b l ls st M → bk_wp C P Q b l ls st M := by
  induction n with
  | zero => intro b l ls st M h; exact h
  | succ n ih =>
    intro b l ls st M h
    unfold bk_go at h
    cases hs : S.elem l with
    | true => rw [hs] at h; exact h
    | false => rw [hs] at h; exact bk_wp_fold hC (bk_run_mono hC (fun _ _ _ _ _ q => ih q) (fun _ _ _ h => h) _ b ls st M h)
