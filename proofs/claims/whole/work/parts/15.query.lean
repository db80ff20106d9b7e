/-! The queries: the class and the reference answer alike, and leave what is now. -/
theorem bk_up58 {M : bk_M} : bk_up M 12 0 0 0 58 0 = M 58 0 := by
  funext j
  exact bk_up_k (by decide)
/-- both answer r; the class leaves the memory, the reference sets its mark only -/
def bkBoth (d c m : Nat) (as : List bk_V) (M : bk_M) : Prop := ∃ r, (∀ Q, bk_C d 0 c (bk_c 11 0 :: as) M Q ↔ Q 0 r M) ∧ (∀ Q, bk_C d 0 m (bk_c 12 0 :: as) M Q ↔ Q 0 r (bk_up M 12 0 0 0))
theorem S43 {d p : Nat} {Q : bk_Q} {x y : Int} {M : bk_M} (h : bkNow M p) : bk_C (d + 2) 0 43 [bk_c 11 0, bk_i x, bk_i y] M Q ↔ Q 0 (if 0 ≤ x ∧ x < M 58 0 2 ∧ 0 ≤ y ∧ y < M 58 0 3 then bkSide x (M 58 0 (121 + y)) else -1) M := by
  obtain ⟨hp, hP, ⟨b1, b2, b3, b4, -⟩, ⟨-, -, -, c4, -⟩⟩ := bkNow_e h
  obtain ⟨a1, a2, -⟩ := id hP
  rw [E_43, hp, S20 hP, b3, b4]
  by_cases hc : 0 ≤ x ∧ x < M 58 0 2 ∧ 0 ≤ y ∧ y < M 58 0 3
  · rw [if_pos hc, if_pos hc, hp, S41 (.inl rfl) (by omega) (by omega), bkBank_side (by omega) (by omega), c4 y (by omega) (by omega)]
    grind
  · rw [if_neg hc, if_neg hc]
    grind
theorem S200 {d : Nat} {Q : bk_Q} {x y : Int} {M : bk_M} (h : bkMd (M 58 0)) : bk_C (d + 3) 0 200 [bk_c 12 0, bk_i x, bk_i y] M Q ↔ Q 0 (if 0 ≤ x ∧ x < M 58 0 2 ∧ 0 ≤ y ∧ y < M 58 0 3 then bkSide x (M 58 0 (121 + y)) else -1) (bk_up M 12 0 0 0) := by
  obtain ⟨h0, h1, -⟩ := id h
  rw [E_200]
  simp only [forall_eq]
  rw [S156 (by rw [bk_up58]; exact h0) (by rw [bk_up58]; exact h1), bk_up58]
  by_cases hc : 0 ≤ x ∧ x < M 58 0 2 ∧ 0 ≤ y ∧ y < M 58 0 3
  · rw [if_pos hc, if_pos hc, S195 (by omega) (by omega), bk_up58]
    grind
  · rw [if_neg hc, if_neg hc]
    grind
theorem C7 {d p : Nat} {x y : Int} {M : bk_M} (h : bkNow M p) : bkBoth (d + 3) 43 200 [bk_i x, bk_i y] M :=
  ⟨_, fun _ => S43 (d := d + 1) h, fun _ => S200 (bkNow_md h)⟩
def bkMill (N : Int → Int) (m a : Int) : Int := if 0 ≤ m ∧ m < N 1 then (if a = 0 then N (127 + m) else if a = 1 then N (130 + m) else if a = 2 then bkSide (N (127 + m)) (N (121 + N (130 + m))) else if a = 3 then N (133 + m) else -1) else -1
theorem S40 {d p : Nat} {Q : bk_Q} {m a : Int} {M : bk_M} (h : bkNow M p) : bk_C (d + 2) 0 40 [bk_c 11 0, bk_i m, bk_i a] M Q ↔ Q 0 (bkMill (M 58 0) m a) M := by
  have hN := bkNow_md h
  obtain ⟨n1, n2, n3, n4, n5, n6, n7, n8, n9, n10, n11, -⟩ := hN
  obtain ⟨hp, hP, ⟨b1, b2, b3, b4, -⟩, ⟨-, -, -, c4, c5, -⟩⟩ := bkNow_e h
  rw [E_40, hp]
  unfold bkMill
  by_cases hc : 0 ≤ m ∧ m < M 58 0 1
  · have q1 := c5 m hc.1 (by omega)
    have q2 := n11 m hc.1 hc.2
    have q3 := c4 (M 58 0 (130 + m)) (by omega) (by omega)
    rw [S41 (.inl rfl) (by omega) (by omega), q1.1, bkBank_side (by omega) (by omega), q3, if_pos hc, b2, q1.2.2.2.2]
    rw [show (6 * M 58 0 (130 + m) + M 58 0 (127 + m)) % 6 = M 58 0 (127 + m) by omega, show (6 * M 58 0 (130 + m) + M 58 0 (127 + m)) / 6 = M 58 0 (130 + m) by omega]
    grind
  · rw [if_neg hc]
    grind
theorem S197 {d : Nat} {Q : bk_Q} {m a : Int} {M : bk_M} (h : bkMd (M 58 0)) : bk_C (d + 3) 0 197 [bk_c 12 0, bk_i m, bk_i a] M Q ↔ Q 0 (bkMill (M 58 0) m a) (bk_up M 12 0 0 0) := by
  obtain ⟨n1, n2, n3, n4, n5, n6, n7, n8, n9, n10, n11, -⟩ := id h
  rw [E_197]
  simp only [forall_eq]
  rw [S198 (by rw [bk_up58]; exact h), bk_up58]
  unfold bkMill
  by_cases hc : 0 ≤ m ∧ m < M 58 0 1
  · have q2 := n11 m hc.1 hc.2
    rw [if_pos hc, if_pos hc, S195 (by omega) (by omega), bk_up58]
    unfold bk_r32
    grind
  · rw [if_neg hc, if_neg hc]
    grind
theorem C4 {d p : Nat} {m a : Int} {M : bk_M} (h : bkNow M p) : bkBoth (d + 3) 40 197 [bk_i m, bk_i a] M :=
  ⟨_, fun _ => S40 (d := d + 1) h, fun _ => S197 (bkNow_md h)⟩
