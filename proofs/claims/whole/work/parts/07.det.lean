/-! What a method does is one thing: two ends of it hold together, and it has one. So a contract is an equivalence. -/
theorem bk_sw_and {x : Int} {F G H : Int → Prop} (h : ∀ l, F l → G l → H l) (d : Int) : ∀ (os : List Int) (lo : Int), bk_sw x F d lo os → bk_sw x G d lo os → bk_sw x H d lo os
  | [], _, h1, h2 => h _ h1 h2
  | _ :: os, lo, h1, h2 => ⟨fun e => h _ (h1.1 e) (h2.1 e), fun e => bk_sw_and h d os (lo + 1) (h1.2 e) (h2.2 e)⟩
theorem bk_lsw_and {x : Int} {F G H : Int → Prop} (h : ∀ l, F l → G l → H l) (d : Int) : ∀ (os : List (Int × Int)), bk_lsw x F d os → bk_lsw x G d os → bk_lsw x H d os
  | [], h1, h2 => h _ h1 h2
  | _ :: os, h1, h2 => ⟨fun e => h _ (h1.1 e) (h2.1 e), fun e => bk_lsw_and h d os (h1.2 e) (h2.2 e)⟩
theorem bk_getf_and {f : Nat} {M : bk_M} {k i : Nat} {st : List bk_V} {K1 K2 K : List bk_V → Prop} (hK : ∀ st, K1 st → K2 st → K st) : bk_getf f M k i st K1 → bk_getf f M k i st K2 → bk_getf f M k i st K := by
  unfold bk_getf
  cases Nat.beq k (f / 64 % 16) with
  | false => exact fun h _ => h
  | true => simp only [cond_true]; split <;> exact hK _
theorem bk_putf_and {f : Nat} {M : bk_M} {k i : Nat} {v : bk_V} {K1 K2 K : bk_M → Prop} (hK : ∀ M, K1 M → K2 M → K M) : bk_putf f M k i v K1 → bk_putf f M k i v K2 → bk_putf f M k i v K := by
  unfold bk_putf
  cases Nat.beq k (f / 64 % 16) with
  | false => exact fun h _ => h
  | true =>
    simp only [cond_true]
    split
    · exact fun h g M' e => hK _ (h M' e) (g M' e)
    · exact fun h g M' e => hK _ (h M' e) (g M' e)
    · rename_i k2 i2 _
      cases Nat.beq k2 (f / 8192 % 128) with
      | false => exact fun h _ => h
      | true => exact fun h g M' e => hK _ (h M' e) (g M' e)
    · exact fun h g => ⟨h.1, fun M' e => hK _ (h.2 M' e) (g.2 M' e)⟩
    · exact fun h _ => h
theorem bk_op_and {C : bk_Ca} (hC : ∀ b μ as M (Q Q' : bk_Q), (∀ t r M, Q t r M → Q' t r M) → C b μ as M Q → C b μ as M Q') (hA : ∀ b μ as M (Q Q' : bk_Q), C b μ as M Q → C b μ as M Q' → C b μ as M (fun t r M => Q t r M ∧ Q' t r M))
    {T1 T2 T : bk_T} (hT : ∀ b l ls st M, T1 b l ls st M → T2 b l ls st M → T b l ls st M) {Q1 Q2 Q : bk_Q} (hQ : ∀ t r M, Q1 t r M → Q2 t r M → Q t r M) {K1 K2 K : bk_K} (hK : ∀ b ls st M, K1 b ls st M → K2 b ls st M → K b ls st M)
    (i : Instr) (b : Nat) (ls st : List bk_V) (M : bk_M) (h : bk_op C T1 Q1 i K1 b ls st M) (g : bk_op C T2 Q2 i K2 b ls st M) : bk_op C T Q i K b ls st M := by
  revert h g
  cases i
  case getfield f =>
    simp only [bk_op]; split
    · exact bk_getf_and fun st => hK _ _ _ _
    · exact fun h _ => h
  case putfield f =>
    simp only [bk_op]; split
    · exact bk_putf_and fun M => hK _ _ _ _
    · exact fun h _ => h
  case invokevirtual n =>
    simp only [bk_op]; split
    · rename_i len dp dk di sp sk si st
      refine fun h g => ⟨h.1, ?_⟩
      have h := h.2
      have g := g.2
      revert h g
      cases (Nat.beq (bk_so sk) (bk_so dk) && Nat.ble (bk_so sk) 1 && Nat.ble st.length 4 && Nat.ble 16 sk && Nat.ble 16 dk) with
      | false => exact fun h _ => h
      | true => exact fun h g M' e => hK _ _ _ _ (h M' e) (g M' e)
    · rename_i y x st
      cases Nat.ble st.length 4 with
      | false => exact fun h _ => h
      | true => exact hK _ _ _ _
    · rename_i y x st
      cases Nat.ble st.length 4 with
      | false => exact fun h _ => h
      | true => exact hK _ _ _ _
    · rename_i x st
      cases Nat.ble st.length 4 with
      | false => exact fun h _ => h
      | true => exact fun h g => ⟨h.1, hK _ _ _ _ h.2 g.2⟩
    · rename_i k i st
      cases (Nat.beq k 14 && Nat.ble st.length 4) with
      | false => exact fun h _ => h
      | true => exact hK _ _ _ _
    · rename_i j k i st
      cases (Nat.beq k 14 && Nat.ble st.length 4) with
      | false => exact fun h _ => h
      | true => exact fun h g => ⟨h.1, hK _ _ _ _ h.2 g.2⟩
    · exact fun h _ => h
  case invokestatic n =>
    simp only [bk_op]; split
    · rename_i as st _
      cases (Nat.ble st.length 4 && bk_rcv (n / 32768 % 16) as && Nat.beq (bk_wd as) (n / 524288)) with
      | false => exact fun h _ => h
      | true => exact fun h g => hC _ _ _ _ _ _ (fun t r M e => ⟨e.1.1, hK _ _ _ _ e.1.2 e.2.2⟩) (hA _ _ _ _ _ _ h g)
    · exact fun h _ => h
  case invokeinterface n h' =>
    simp only [bk_op]; split
    · rename_i as st _
      cases (Nat.ble st.length 4 && bk_rcv (n / 32768 % 16) as && Nat.beq (bk_wd as) (n / 524288)) with
      | false => exact fun h _ => h
      | true => exact fun h g => hC _ _ _ _ _ _ (fun t r M e => ⟨fun q => hK _ _ _ _ (e.1.1 q) (e.2.1 q), fun q => hT _ _ _ _ _ (e.1.2 q) (e.2.2 q)⟩) (hA _ _ _ _ _ _ h g)
    · exact fun h _ => h
  case aload n =>
    simp only [bk_op]; split
    · rename_i k i _
      cases Nat.beq k 15 with
      | false => exact hK _ _ _ _
      | true => exact fun h _ => h
    · exact fun h _ => h
  case athrow =>
    simp only [bk_op]; split
    · exact hQ _ _ _
    · exact fun h _ => h
  case saload =>
    simp only [bk_op]; split
    · rename_i j k i st
      cases Nat.beq k 13 with
      | false => exact fun h _ => h
      | true => exact fun h g => ⟨h.1, hK _ _ _ _ h.2 g.2⟩
    · exact fun h _ => h
  case swap =>
    simp only [bk_op]; split
    · rename_i k i st
      cases Nat.beq k 13 with
      | false => exact fun h _ => h
      | true => exact hK _ _ _ _
    · exact fun h _ => h
  case arraylength =>
    simp only [bk_op]; split
    · rename_i k i st
      cases Nat.ble 16 k with
      | false => exact fun h _ => h
      | true => exact hK _ _ _ _
    · exact fun h _ => h
  case iaload =>
    simp only [bk_op]; split
    · rename_i j k i st
      refine fun h g => ⟨h.1, ?_⟩
      have h := h.2
      have g := g.2
      revert h g
      cases Nat.beq (bk_so k) 0 with
      | false => exact fun h _ => h
      | true => exact hK _ _ _ _
    · exact fun h _ => h
  case laload =>
    simp only [bk_op]; split
    · rename_i j k i st
      refine fun h g => ⟨h.1, ?_⟩
      have h := h.2
      have g := g.2
      revert h g
      cases Nat.beq (bk_so k) 1 with
      | false => exact fun h _ => h
      | true => exact hK _ _ _ _
    · exact fun h _ => h
  case baload =>
    simp only [bk_op]; split
    · rename_i j k i st
      refine fun h g => ⟨h.1, ?_⟩
      have h := h.2
      have g := g.2
      revert h g
      cases Nat.beq (bk_so k) 2 with
      | false => exact fun h _ => h
      | true => exact hK _ _ _ _
    · exact fun h _ => h
  case aaload =>
    simp only [bk_op]; split
    · rename_i j k _ st
      refine fun h g => ⟨h.1, ?_⟩
      have h := h.2
      have g := g.2
      revert h g
      cases Nat.beq (bk_so k) 3 with
      | false => exact fun h _ => h
      | true => exact hK _ _ _ _
    · exact fun h _ => h
  case iastore =>
    simp only [bk_op]; split
    · rename_i z j k i st
      refine fun h g => ⟨h.1, ?_⟩
      have h := h.2
      have g := g.2
      revert h g
      cases Nat.beq (bk_so k) 0 with
      | false => exact fun h _ => h
      | true => exact fun h g M' e => hK _ _ _ _ (h M' e) (g M' e)
    · exact fun h _ => h
  case lastore =>
    simp only [bk_op]; split
    · rename_i z j k i st
      refine fun h g => ⟨h.1, ?_⟩
      have h := h.2
      have g := g.2
      revert h g
      cases Nat.beq (bk_so k) 1 with
      | false => exact fun h _ => h
      | true => exact fun h g M' e => hK _ _ _ _ (h M' e) (g M' e)
    · exact fun h _ => h
  case bastore =>
    simp only [bk_op]; split
    · rename_i z j k i st
      refine fun h g => ⟨h.1, ?_⟩
      have h := h.2
      have g := g.2
      revert h g
      cases Nat.beq (bk_so k) 2 with
      | false => exact fun h _ => h
      | true => exact fun h g => ⟨h.1, fun M' e => hK _ _ _ _ (h.2 M' e) (g.2 M' e)⟩
    · exact fun h _ => h
  all_goals
    simp only [bk_op]; (try split) <;>
    first
    | exact fun h _ => h
    | exact hK _ _ _ _
    | exact hT _ _ _ _ _
    | exact hQ _ _ _
    | exact fun h g => ⟨h.1, hQ _ _ _ h.2 g.2⟩
    | exact fun h g => ⟨h.1, hK _ _ _ _ h.2 g.2⟩
    | exact fun h g => ⟨fun e => hT _ _ _ _ _ (h.1 e) (g.1 e), fun e => hK _ _ _ _ (h.2 e) (g.2 e)⟩
    | exact bk_sw_and (fun l => hT _ _ _ _ _) _ _ _
    | exact bk_lsw_and (fun l => hT _ _ _ _ _) _ _
theorem bk_run_and {C : bk_Ca} (hC : ∀ b μ as M (Q Q' : bk_Q), (∀ t r M, Q t r M → Q' t r M) → C b μ as M Q → C b μ as M Q') (hA : ∀ b μ as M (Q Q' : bk_Q), C b μ as M Q → C b μ as M Q' → C b μ as M (fun t r M => Q t r M ∧ Q' t r M))
    {T1 T2 T : bk_T} (hT : ∀ b l ls st M, T1 b l ls st M → T2 b l ls st M → T b l ls st M) {Q1 Q2 Q : bk_Q} (hQ : ∀ t r M, Q1 t r M → Q2 t r M → Q t r M) (is : List Instr) :
    ∀ (b : Nat) (ls st : List bk_V) (M : bk_M), bk_run C T1 Q1 is b ls st M → bk_run C T2 Q2 is b ls st M → bk_run C T Q is b ls st M := by
  induction is with
  | nil => intro b ls st M h _; exact h
  | cons i is ih => intro b ls st M h g; exact bk_op_and hC hA hT hQ ih i b ls st M h g
theorem bk_C_and : ∀ (d : Nat) (b μ : Nat) (as : List bk_V) (M : bk_M) (Q Q' : bk_Q), bk_C d b μ as M Q → bk_C d b μ as M Q' → bk_C d b μ as M (fun t r M => Q t r M ∧ Q' t r M)
  | 0, _, _, _, _, _, _, h, _ => h
  | d + 1, b, μ, as, M, Q, Q', h, g => by
    have key := h (fun b l ls st M => bk_wp (bk_C d) (bk_prog μ).1 Q' b l ls st M → bk_wp (bk_C d) (bk_prog μ).1 (fun t r M => Q t r M ∧ Q' t r M) b l ls st M) (fun b l ls st M h1 g1 =>
      bk_wp_fold (bk_C_mono d) (bk_run_and (bk_C_mono d) (bk_C_and d) (T2 := bk_wp (bk_C d) (bk_prog μ).1 Q') (fun _ _ _ _ _ a b => a b) (fun _ _ _ a b => ⟨a, b⟩) _ b ls st M h1 (bk_wp_unf g1)))
    exact key g
theorem bk_sw_no {x : Int} {F : Int → Prop} (h : ∀ l, ¬ F l) (d : Int) : ∀ (os : List Int) (lo : Int), ¬ bk_sw x F d lo os
  | [], _, h1 => h _ h1
  | _ :: os, lo, h1 => by
    by_cases e : x = lo
    · exact h _ (h1.1 e)
    · exact bk_sw_no h d os (lo + 1) (h1.2 e)
theorem bk_lsw_no {x : Int} {F : Int → Prop} (h : ∀ l, ¬ F l) (d : Int) : ∀ (os : List (Int × Int)), ¬ bk_lsw x F d os
  | [], h1 => h _ h1
  | (k, _) :: os, h1 => by
    by_cases e : x = k
    · exact h _ (h1.1 e)
    · exact bk_lsw_no h d os (h1.2 e)
theorem bk_getf_no {f : Nat} {M : bk_M} {k i : Nat} {st : List bk_V} {K : List bk_V → Prop} (hK : ∀ st, ¬ K st) : ¬ bk_getf f M k i st K := by
  unfold bk_getf
  cases Nat.beq k (f / 64 % 16) with
  | false => exact fun h => h
  | true => simp only [cond_true]; split <;> exact hK _
theorem bk_putf_no {f : Nat} {M : bk_M} {k i : Nat} {v : bk_V} {K : bk_M → Prop} (hK : ∀ M, ¬ K M) : ¬ bk_putf f M k i v K := by
  unfold bk_putf
  cases Nat.beq k (f / 64 % 16) with
  | false => exact fun h => h
  | true =>
    simp only [cond_true]
    split
    · exact fun h => hK _ (h _ rfl)
    · exact fun h => hK _ (h _ rfl)
    · rename_i k2 i2 _
      cases Nat.beq k2 (f / 8192 % 128) with
      | false => exact fun h => h
      | true => exact fun h => hK _ (h _ rfl)
    · exact fun h => hK _ (h.2 _ rfl)
    · exact fun h => h
theorem bk_op_no {C : bk_Ca} (hC : ∀ b μ as M (Q : bk_Q), (∀ t r M, ¬ Q t r M) → ¬ C b μ as M Q)
    {T : bk_T} (hT : ∀ b l ls st M, ¬ T b l ls st M) {Q : bk_Q} (hQ : ∀ t r M, ¬ Q t r M) {K : bk_K} (hK : ∀ b ls st M, ¬ K b ls st M)
    (i : Instr) (b : Nat) (ls st : List bk_V) (M : bk_M) : ¬ bk_op C T Q i K b ls st M := by
  cases i
  case getfield f =>
    simp only [bk_op]; split
    · exact bk_getf_no fun st => hK _ _ _ _
    · exact fun h => h
  case putfield f =>
    simp only [bk_op]; split
    · exact bk_putf_no fun M => hK _ _ _ _
    · exact fun h => h
  case invokevirtual n =>
    simp only [bk_op]; split
    · rename_i len dp dk di sp sk si st
      intro h
      have h := h.2
      revert h
      cases (Nat.beq (bk_so sk) (bk_so dk) && Nat.ble (bk_so sk) 1 && Nat.ble st.length 4 && Nat.ble 16 sk && Nat.ble 16 dk) with
      | false => exact fun h => h
      | true => exact fun h => hK _ _ _ _ (h _ rfl)
    · rename_i y x st
      cases Nat.ble st.length 4 with
      | false => exact fun h => h
      | true => exact hK _ _ _ _
    · rename_i y x st
      cases Nat.ble st.length 4 with
      | false => exact fun h => h
      | true => exact hK _ _ _ _
    · rename_i x st
      cases Nat.ble st.length 4 with
      | false => exact fun h => h.2
      | true => exact fun h => hK _ _ _ _ h.2
    · rename_i k i st
      cases (Nat.beq k 14 && Nat.ble st.length 4) with
      | false => exact fun h => h
      | true => exact hK _ _ _ _
    · rename_i j k i st
      cases (Nat.beq k 14 && Nat.ble st.length 4) with
      | false => exact fun h => h
      | true => exact fun h => hK _ _ _ _ h.2
    · exact fun h => h
  case invokestatic n =>
    simp only [bk_op]; split
    · rename_i as st _
      cases (Nat.ble st.length 4 && bk_rcv (n / 32768 % 16) as && Nat.beq (bk_wd as) (n / 524288)) with
      | false => exact fun h => h
      | true => exact hC _ _ _ _ _ (fun t r M e => hK _ _ _ _ e.2)
    · exact fun h => h
  case invokeinterface n h' =>
    simp only [bk_op]; split
    · rename_i as st _
      cases (Nat.ble st.length 4 && bk_rcv (n / 32768 % 16) as && Nat.beq (bk_wd as) (n / 524288)) with
      | false => exact fun h => h
      | true => exact hC _ _ _ _ _ (fun t r M e => by
        by_cases q : t = 0
        · exact hK _ _ _ _ (e.1 q)
        · exact hT _ _ _ _ _ (e.2 q))
    · exact fun h => h
  case aload n =>
    simp only [bk_op]; split
    · rename_i k i _
      cases Nat.beq k 15 with
      | false => exact hK _ _ _ _
      | true => exact fun h => h
    · exact fun h => h
  case athrow =>
    simp only [bk_op]; split
    · exact hQ _ _ _
    · exact fun h => h
  case saload =>
    simp only [bk_op]; split
    · rename_i j k i st
      cases Nat.beq k 13 with
      | false => exact fun h => h
      | true => exact fun h => hK _ _ _ _ h.2
    · exact fun h => h
  case swap =>
    simp only [bk_op]; split
    · rename_i k i st
      cases Nat.beq k 13 with
      | false => exact fun h => h
      | true => exact hK _ _ _ _
    · exact fun h => h
  case arraylength =>
    simp only [bk_op]; split
    · rename_i k i st
      cases Nat.ble 16 k with
      | false => exact fun h => h
      | true => exact hK _ _ _ _
    · exact fun h => h
  case iaload =>
    simp only [bk_op]; split
    · rename_i j k i st
      intro h
      have h := h.2
      revert h
      cases Nat.beq (bk_so k) 0 with
      | false => exact fun h => h
      | true => exact hK _ _ _ _
    · exact fun h => h
  case laload =>
    simp only [bk_op]; split
    · rename_i j k i st
      intro h
      have h := h.2
      revert h
      cases Nat.beq (bk_so k) 1 with
      | false => exact fun h => h
      | true => exact hK _ _ _ _
    · exact fun h => h
  case baload =>
    simp only [bk_op]; split
    · rename_i j k i st
      intro h
      have h := h.2
      revert h
      cases Nat.beq (bk_so k) 2 with
      | false => exact fun h => h
      | true => exact hK _ _ _ _
    · exact fun h => h
  case aaload =>
    simp only [bk_op]; split
    · rename_i j k _ st
      intro h
      have h := h.2
      revert h
      cases Nat.beq (bk_so k) 3 with
      | false => exact fun h => h
      | true => exact hK _ _ _ _
    · exact fun h => h
  case iastore =>
    simp only [bk_op]; split
    · rename_i z j k i st
      intro h
      have h := h.2
      revert h
      cases Nat.beq (bk_so k) 0 with
      | false => exact fun h => h
      | true => exact fun h => hK _ _ _ _ (h _ rfl)
    · exact fun h => h
  case lastore =>
    simp only [bk_op]; split
    · rename_i z j k i st
      intro h
      have h := h.2
      revert h
      cases Nat.beq (bk_so k) 1 with
      | false => exact fun h => h
      | true => exact fun h => hK _ _ _ _ (h _ rfl)
    · exact fun h => h
  case bastore =>
    simp only [bk_op]; split
    · rename_i z j k i st
      intro h
      have h := h.2
      revert h
      cases Nat.beq (bk_so k) 2 with
      | false => exact fun h => h
      | true => exact fun h => hK _ _ _ _ (h.2 _ rfl)
    · exact fun h => h
  all_goals
    simp only [bk_op]; (try split) <;>
    first
    | exact fun h => h
    | exact hK _ _ _ _
    | exact hT _ _ _ _ _
    | exact hQ _ _ _
    | exact fun h => hQ _ _ _ h.2
    | exact fun h => hK _ _ _ _ h.2
    | exact fun h => (Classical.em _).elim (fun e => hT _ _ _ _ _ (h.1 e)) (fun e => hK _ _ _ _ (h.2 e))
    | exact bk_sw_no (fun l => hT _ _ _ _ _) _ _ _
    | exact bk_lsw_no (fun l => hT _ _ _ _ _) _ _
theorem bk_run_no {C : bk_Ca} (hC : ∀ b μ as M (Q : bk_Q), (∀ t r M, ¬ Q t r M) → ¬ C b μ as M Q)
    {T : bk_T} (hT : ∀ b l ls st M, ¬ T b l ls st M) {Q : bk_Q} (hQ : ∀ t r M, ¬ Q t r M) (is : List Instr) : ∀ (b : Nat) (ls st : List bk_V) (M : bk_M), ¬ bk_run C T Q is b ls st M := by
  induction is with
  | nil => intro b ls st M h; exact h
  | cons i is ih => intro b ls st M; exact bk_op_no hC hT hQ ih i b ls st M
theorem bk_C_no : ∀ (d : Nat) (b μ : Nat) (as : List bk_V) (M : bk_M) (Q : bk_Q), (∀ t r M, ¬ Q t r M) → ¬ bk_C d b μ as M Q
  | 0, _, _, _, _, _, _ => fun h => h
  | d + 1, b, μ, as, M, Q, hQ => fun h => h (fun _ _ _ _ _ => False) (fun b l ls st M q => bk_run_no (bk_C_no d) (fun _ _ _ _ _ z => z) hQ _ b ls st M q)
/-- a contract is an equivalence -/
theorem bk_det {d b μ : Nat} {as : List bk_V} {M M' : bk_M} {t : Nat} {r : Int} (h : ∀ Q : bk_Q, Q t r M' → bk_C d b μ as M Q) (Q : bk_Q) : bk_C d b μ as M Q ↔ Q t r M' := by
  refine ⟨fun g => ?_, h Q⟩
  refine Classical.byContradiction fun n => ?_
  have h1 := bk_C_and d b μ as M Q (fun t2 r2 M2 => t2 = t ∧ r2 = r ∧ M2 = M') g (h _ ⟨rfl, rfl, rfl⟩)
  refine bk_C_no d b μ as M _ ?_ h1
  rintro t2 r2 M2 ⟨z, rfl, rfl, rfl⟩
  exact n z
