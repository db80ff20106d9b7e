/-! A plain of the class and a row of the reference: the same plain. K, o: which row, from where. -/
def bkHd (M : bk_M) (i K : Nat) (o : Int) : Prop :=
  M 5 i 6 = M K 0 o ∧ M 5 i 11 = M K 0 (o + 1) ∧ M 5 i 0 = M K 0 (o + 2) ∧ M 5 i 1 = M K 0 (o + 3) ∧ M 5 i 2 = M K 0 (o + 4) ∧ M 5 i 3 = M K 0 (o + 5) ∧
  (∀ f, 0 ≤ f → f < M 5 i 6 → M 30 i f = 6 * M K 0 (o + 52 + f) + M K 0 (o + 42 + f) ∧ M 31 i f = M K 0 (o + 62 + f) ∧ 0 ≤ M K 0 (o + 42 + f) ∧ M K 0 (o + 42 + f) < 6 ∧ 0 ≤ M K 0 (o + 52 + f))
def bkSo (M : bk_M) (i K : Nat) (o : Int) : Prop :=
  M 5 i 17 = M K 0 o ∧ (∀ s, 0 ≤ s → s < 2 → M 37 i s = M K 0 (o + 1 + s) ∧ M 38 i s = M K 0 (o + 3 + s)) ∧ (∀ c, 0 ≤ c → c < 36 → M 28 i c = M K 0 (o + 5 + c)) ∧
  (∀ y, 0 ≤ y → y < M 5 i 1 → M 29 i y = M K 0 (o + 41 + y)) ∧
  (∀ m, 0 ≤ m → m < M 5 i 11 → M 34 i m = 6 * M K 0 (o + 50 + m) + M K 0 (o + 47 + m) ∧ 0 ≤ M K 0 (o + 47 + m) ∧ M K 0 (o + 47 + m) < 6 ∧ 0 ≤ M K 0 (o + 50 + m) ∧ M 35 i m = M K 0 (o + 53 + m)) ∧
  (∀ f, 0 ≤ f → f < 10 → M K 0 (o + 56 + f) = if f < M 5 i 6 then M 32 i f else 0) ∧
  M K 0 (o + 114) = (if M 5 i 17 < 8 then M 5 i 17 else 8) ∧
  (∀ k y, 1 ≤ k → k ≤ 8 → k ≤ M 5 i 17 → 0 ≤ y → y < M 5 i 1 → M 39 i (6 * ((M 5 i 17 - k) % 8) + y) = M K 0 (o + 66 + 6 * (k - 1) + y))
/-- the plain that is now -/
def bkNow (M : bk_M) (p : Nat) : Prop := (M 11 0 1).toNat = p ∧ bkPl M p ∧ bkHd M p 58 0 ∧ bkSo M p 58 80
theorem bkNow_e {M : bk_M} {p : Nat} (h : bkNow M p) : (M 11 0 1).toNat = p ∧ bkPl M p ∧
    (M 5 p 6 = M 58 0 0 ∧ M 5 p 11 = M 58 0 1 ∧ M 5 p 0 = M 58 0 2 ∧ M 5 p 1 = M 58 0 3 ∧ M 5 p 2 = M 58 0 4 ∧ M 5 p 3 = M 58 0 5 ∧
      (∀ f, 0 ≤ f → f < M 5 p 6 → M 30 p f = 6 * M 58 0 (52 + f) + M 58 0 (42 + f) ∧ M 31 p f = M 58 0 (62 + f) ∧ 0 ≤ M 58 0 (42 + f) ∧ M 58 0 (42 + f) < 6 ∧ 0 ≤ M 58 0 (52 + f))) ∧
    (M 5 p 17 = M 58 0 80 ∧ (∀ s, 0 ≤ s → s < 2 → M 37 p s = M 58 0 (81 + s) ∧ M 38 p s = M 58 0 (83 + s)) ∧ (∀ c, 0 ≤ c → c < 36 → M 28 p c = M 58 0 (85 + c)) ∧
      (∀ y, 0 ≤ y → y < M 5 p 1 → M 29 p y = M 58 0 (121 + y)) ∧
      (∀ m, 0 ≤ m → m < M 5 p 11 → M 34 p m = 6 * M 58 0 (130 + m) + M 58 0 (127 + m) ∧ 0 ≤ M 58 0 (127 + m) ∧ M 58 0 (127 + m) < 6 ∧ 0 ≤ M 58 0 (130 + m) ∧ M 35 p m = M 58 0 (133 + m)) ∧
      (∀ f, 0 ≤ f → f < 10 → M 58 0 (136 + f) = if f < M 5 p 6 then M 32 p f else 0) ∧
      M 58 0 194 = (if M 5 p 17 < 8 then M 5 p 17 else 8) ∧
      (∀ k y, 1 ≤ k → k ≤ 8 → k ≤ M 5 p 17 → 0 ≤ y → y < M 5 p 1 → M 39 p (6 * ((M 5 p 17 - k) % 8) + y) = M 58 0 (146 + 6 * (k - 1) + y))) := by
  obtain ⟨h1, h2, h3, h4⟩ := h
  unfold bkHd at h3
  unfold bkSo at h4
  simp only [Int.zero_add, Int.reduceAdd] at h3 h4
  exact ⟨h1, h2, h3, h4⟩
theorem bk_up_ne {M : bk_M} {k i k' i' : Nat} {j v j' : Int} (h : (k', i') ≠ (k, i)) : bk_up M k i j v k' i' j' = M k' i' j' := by
  unfold bk_up
  rw [if_neg]
  rintro ⟨a, b, -⟩
  exact h (by rw [a, b])
theorem bk_up_k {M : bk_M} {k i k' i' : Nat} {j v j' : Int} (h : k' ≠ k) : bk_up M k i j v k' i' j' = M k' i' j' := by
  unfold bk_up
  rw [if_neg (fun q => h q.1)]
theorem bk_up_s {M : bk_M} {k i i' : Nat} {j v j' : Int} (h : j' ≠ j) : bk_up M k i j v k i' j' = M k i' j' := by
  unfold bk_up
  rw [if_neg (fun q => h q.2.2)]
theorem bk_up_i {M : bk_M} {k i i' : Nat} {j v j' : Int} (h : i' ≠ i) : bk_up M k i j v k i' j' = M k i' j' := by
  unfold bk_up
  rw [if_neg (fun q => h q.2.1)]
theorem bk_up_e {M : bk_M} {k i : Nat} {j v : Int} : bk_up M k i j v k i j = v := by
  unfold bk_up
  rw [if_pos ⟨rfl, rfl, rfl⟩]
theorem S20 {d i : Nat} {Q : bk_Q} {x y : Int} {M : bk_M} (hP : bkPl M i) : bk_C (d + 1) 0 20 [bk_c 5 i, bk_i x, bk_i y] M Q ↔ Q 0 (if 0 ≤ x ∧ x < M 5 i 0 ∧ 0 ≤ y ∧ y < M 5 i 1 then 6 * y + x else -1) M := by
  obtain ⟨h0, h1, -⟩ := hP
  rw [E_20]
  simp only [bk_r32]
  grind
theorem S157 {d : Nat} {Q : bk_Q} {v a b : Int} {M : bk_M} : bk_C (d + 1) 0 157 [bk_i v, bk_i a, bk_i b] M Q ↔ Q 0 (if a ≤ v ∧ v ≤ b then 1 else 0) M := by
  rw [E_157]
  grind
theorem S156 {d : Nat} {Q : bk_Q} {x y : Int} {M : bk_M} (h0 : 3 ≤ M 58 0 2 ∧ M 58 0 2 ≤ 6) (h1 : 2 ≤ M 58 0 3 ∧ M 58 0 3 ≤ 6) : bk_C (d + 2) 0 156 [bk_c 12 0, bk_i x, bk_i y] M Q ↔ Q 0 (if 0 ≤ x ∧ x < M 58 0 2 ∧ 0 ≤ y ∧ y < M 58 0 3 then 1 else 0) M := by
  simp only [E_156, S157, bk_r32]
  grind
theorem C6 {d p : Nat} {x y : Int} {M : bk_M} (h : bkNow M p) {Q : bk_Q} (hQ : ∀ r, Q 0 r (bk_up M 12 0 0 0)) : bk_C (d + 3) 0 42 [bk_c 11 0, bk_i x, bk_i y] M (fun t r M1 => t = 0 ∧ bk_C (d + 3) 0 199 [bk_c 12 0, bk_i x, bk_i y] M1 (fun t2 r2 M2 => t2 = 0 ∧ r = r2 ∧ Q 0 r M2)) := by
  obtain ⟨hp, hP, ⟨b1, b2, b3, b4, -⟩, ⟨-, -, c3, -⟩⟩ := bkNow_e h
  have hw := hP.1
  have hh := hP.2.1
  rw [b3] at hw
  rw [b4] at hh
  have e156 := fun (Q : bk_Q) => @S156 d Q x y (bk_up M 12 0 0 0) (by simpa only [bk_up_k (show (58 : Nat) ≠ 12 by decide)] using hw) (by simpa only [bk_up_k (show (58 : Nat) ≠ 12 by decide)] using hh)
  simp only [E_42, hp, S20 hP, E_199, forall_eq, e156, b3, b4, bk_up_k (show (58 : Nat) ≠ 12 by decide), bk_r32]
  by_cases hc : 0 ≤ x ∧ x < M 58 0 2 ∧ 0 ≤ y ∧ y < M 58 0 3
  · have e := c3 (6 * y + x) (by omega) (by omega)
    simp only [if_pos hc, e]
    repeat' (first | exact rfl | exact trivial | exact hQ _ | omega | apply And.intro | intro _ | (congr 1; omega))
  · simp only [if_neg hc]
    grind
theorem C8 {d p : Nat} {y : Int} {M : bk_M} (h : bkNow M p) {Q : bk_Q} (hQ : ∀ r, Q 0 r (bk_up M 12 0 0 0)) : bk_C (d + 3) 0 44 [bk_c 11 0, bk_i y] M (fun t r M1 => t = 0 ∧ bk_C (d + 3) 0 201 [bk_c 12 0, bk_i y] M1 (fun t2 r2 M2 => t2 = 0 ∧ r = r2 ∧ Q 0 r M2)) := by
  obtain ⟨hp, ⟨a1, a2, a3, -⟩, ⟨b1, b2, b3, b4, -⟩, ⟨-, -, -, c4, -⟩⟩ := bkNow_e h
  simp only [E_44, E_45, E_201, E_202, E_157, hp, forall_eq]
  simp [bk_up_k, bk_r32, hQ]
  grind
