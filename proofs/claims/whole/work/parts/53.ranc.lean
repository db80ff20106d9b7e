/-! ran: the class reads the pairs, and counts beds. -/
theorem LG_95_30 {d : Nat} {Q : bk_Q} (i2 : Nat) (x3 : Int) (v4 : bk_V) (v5 : bk_V) (v6 : bk_V) (v7 : bk_V) (M : bk_M) : bk_wp (bk_C d) P_95 Q 0 30 [bk_c 1 0, bk_c 10 0, bk_c 5 i2, bk_i x3, v4, v5, v6, v7] [] M ↔ (((6 : Int) ≤ x3 → bk_wp (bk_C d) P_95 Q 0 63 [bk_c 1 0, bk_c 10 0, bk_c 5 i2, bk_i (0 : Int), v4, v5, v6, v7] [] M) ∧ (¬ ((6 : Int) ≤ x3) → ((0 : Int) ≤ x3 ∧ x3 < (6 : Int)) ∧ ∀ M1 : bk_M, M1 = bk_up M 22 0 x3 (0 : Int) → bk_r32 ((M1 5 i2 (0 : Int)) - (1 : Int)) ∧ ((0 : Int) ≤ x3 ∧ x3 < (6 : Int)) ∧ ∀ M2 : bk_M, M2 = bk_up M1 23 0 x3 ((M1 5 i2 (0 : Int)) - (1 : Int)) → bk_r32 (x3 + (1 : Int)) ∧ bk_wp (bk_C d) P_95 Q 0 30 [bk_c 1 0, bk_c 10 0, bk_c 5 i2, bk_i (x3 + (1 : Int)), v4, v5, v6, v7] [] M2)) := bk_iff [30, 63, 106, 165] 40
theorem LG_95_63 {d : Nat} {Q : bk_Q} (i2 : Nat) (x3 : Int) (v4 : bk_V) (v5 : bk_V) (v6 : bk_V) (v7 : bk_V) (M : bk_M) : bk_wp (bk_C d) P_95 Q 0 63 [bk_c 1 0, bk_c 10 0, bk_c 5 i2, bk_i x3, v4, v5, v6, v7] [] M ↔ bk_r32 (x3 + (1 : Int)) ∧ ((M 10 0 (1 : Int) ≤ x3 + (1 : Int) → ((1 : Int) = 0 ∨ (1 : Int) = 1) ∧ Q 0 (1 : Int) M) ∧ (¬ (M 10 0 (1 : Int) ≤ x3 + (1 : Int)) → ((0 : Int) ≤ x3 ∧ x3 < (940 : Int)) ∧ bk_r32 (x3 + (1 : Int)) ∧ ((0 : Int) ≤ x3 + (1 : Int) ∧ x3 + (1 : Int) < (940 : Int)) ∧ ((M 5 i2 (6 : Int) ≤ M 53 0 x3 → bk_wp (bk_C d) P_95 Q 0 106 [bk_c 1 0, bk_c 10 0, bk_c 5 i2, bk_i x3, bk_i (M 53 0 x3), bk_i (M 53 0 (x3 + (1 : Int))), v6, v7] [] M) ∧ (¬ (M 5 i2 (6 : Int) ≤ M 53 0 x3) → ((M 53 0 (x3 + (1 : Int)) ≤ (2 : Int) → ((0 : Int) ≤ M 53 0 x3 ∧ M 53 0 x3 < (10 : Int)) ∧ ((0 : Int) ≤ M 30 i2 (M 53 0 x3) ∧ (0 : Int) < (6 : Int)) ∧ ((0 : Int) ≤ M 53 0 x3 ∧ M 53 0 x3 < (10 : Int)) ∧ ((0 : Int) ≤ M 30 i2 (M 53 0 x3) ∧ (0 : Int) < (6 : Int)) ∧ ((M 53 0 (x3 + (1 : Int)) = (1 : Int) → ((M 53 0 (x3 + (1 : Int)) = (0 : Int) → bk_r32 (x3 + (2 : Int)) ∧ bk_wp (bk_C d) P_95 Q 0 63 [bk_c 1 0, bk_c 10 0, bk_c 5 i2, bk_i (x3 + (2 : Int)), bk_i (M 53 0 x3), bk_i (M 53 0 (x3 + (1 : Int))), bk_i ((M 30 i2 (M 53 0 x3)) % (6 : Int)), bk_i ((M 30 i2 (M 53 0 x3)) / (6 : Int))] [] M) ∧ (¬ (M 53 0 (x3 + (1 : Int)) = (0 : Int)) → ((0 : Int) ≤ (M 30 i2 (M 53 0 x3)) / (6 : Int) ∧ (M 30 i2 (M 53 0 x3)) / (6 : Int) < (6 : Int)) ∧ ((M 53 0 (x3 + (1 : Int)) ≠ (1 : Int) → ((0 : Int) ≤ (M 30 i2 (M 53 0 x3)) / (6 : Int) ∧ (M 30 i2 (M 53 0 x3)) / (6 : Int) < (6 : Int)) ∧ ∀ M1 : bk_M, M1 = bk_up M 23 0 ((M 30 i2 (M 53 0 x3)) / (6 : Int)) (if M 23 0 ((M 30 i2 (M 53 0 x3)) / (6 : Int)) ≤ (M 30 i2 (M 53 0 x3)) % (6 : Int) then M 23 0 ((M 30 i2 (M 53 0 x3)) / (6 : Int)) else (M 30 i2 (M 53 0 x3)) % (6 : Int)) → bk_r32 (x3 + (2 : Int)) ∧ bk_wp (bk_C d) P_95 Q 0 63 [bk_c 1 0, bk_c 10 0, bk_c 5 i2, bk_i (x3 + (2 : Int)), bk_i (M 53 0 x3), bk_i (M 53 0 (x3 + (1 : Int))), bk_i ((M 30 i2 (M 53 0 x3)) % (6 : Int)), bk_i ((M 30 i2 (M 53 0 x3)) / (6 : Int))] [] M1) ∧ (¬ (M 53 0 (x3 + (1 : Int)) ≠ (1 : Int)) → bk_r32 (((M 30 i2 (M 53 0 x3)) % (6 : Int)) - (1 : Int)) ∧ ((0 : Int) ≤ (M 30 i2 (M 53 0 x3)) / (6 : Int) ∧ (M 30 i2 (M 53 0 x3)) / (6 : Int) < (6 : Int)) ∧ ∀ M2 : bk_M, M2 = bk_up M 23 0 ((M 30 i2 (M 53 0 x3)) / (6 : Int)) (if M 23 0 ((M 30 i2 (M 53 0 x3)) / (6 : Int)) ≤ ((M 30 i2 (M 53 0 x3)) % (6 : Int)) - (1 : Int) then M 23 0 ((M 30 i2 (M 53 0 x3)) / (6 : Int)) else ((M 30 i2 (M 53 0 x3)) % (6 : Int)) - (1 : Int)) → bk_r32 (x3 + (2 : Int)) ∧ bk_wp (bk_C d) P_95 Q 0 63 [bk_c 1 0, bk_c 10 0, bk_c 5 i2, bk_i (x3 + (2 : Int)), bk_i (M 53 0 x3), bk_i (M 53 0 (x3 + (1 : Int))), bk_i ((M 30 i2 (M 53 0 x3)) % (6 : Int)), bk_i ((M 30 i2 (M 53 0 x3)) / (6 : Int))] [] M2))))) ∧ (¬ (M 53 0 (x3 + (1 : Int)) = (1 : Int)) → ((0 : Int) ≤ (M 30 i2 (M 53 0 x3)) / (6 : Int) ∧ (M 30 i2 (M 53 0 x3)) / (6 : Int) < (6 : Int)) ∧ ((M 53 0 (x3 + (1 : Int)) ≠ (0 : Int) → bk_wp (bk_C d) P_95 Q 0 165 [bk_c 1 0, bk_c 10 0, bk_c 5 i2, bk_i x3, bk_i (M 53 0 x3), bk_i (M 53 0 (x3 + (1 : Int))), bk_i ((M 30 i2 (M 53 0 x3)) % (6 : Int)), bk_i ((M 30 i2 (M 53 0 x3)) / (6 : Int))] [bk_i ((M 30 i2 (M 53 0 x3)) % (6 : Int)), bk_i (M 22 0 ((M 30 i2 (M 53 0 x3)) / (6 : Int))), bk_i ((M 30 i2 (M 53 0 x3)) / (6 : Int)), bk_c 22 0] M) ∧ (¬ (M 53 0 (x3 + (1 : Int)) ≠ (0 : Int)) → bk_r32 (((M 30 i2 (M 53 0 x3)) % (6 : Int)) + (1 : Int)) ∧ bk_wp (bk_C d) P_95 Q 0 165 [bk_c 1 0, bk_c 10 0, bk_c 5 i2, bk_i x3, bk_i (M 53 0 x3), bk_i (M 53 0 (x3 + (1 : Int))), bk_i ((M 30 i2 (M 53 0 x3)) % (6 : Int)), bk_i ((M 30 i2 (M 53 0 x3)) / (6 : Int))] [bk_i (((M 30 i2 (M 53 0 x3)) % (6 : Int)) + (1 : Int)), bk_i (M 22 0 ((M 30 i2 (M 53 0 x3)) / (6 : Int))), bk_i ((M 30 i2 (M 53 0 x3)) / (6 : Int)), bk_c 22 0] M))))) ∧ (¬ (M 53 0 (x3 + (1 : Int)) ≤ (2 : Int)) → bk_wp (bk_C d) P_95 Q 0 106 [bk_c 1 0, bk_c 10 0, bk_c 5 i2, bk_i x3, bk_i (M 53 0 x3), bk_i (M 53 0 (x3 + (1 : Int))), v6, v7] [] M)))))) := bk_iff [30, 63, 106, 165] 40
theorem LG_95_106 {d : Nat} {Q : bk_Q} (i2 : Nat) (x3 : Int) (x4 : Int) (x5 : Int) (v6 : bk_V) (v7 : bk_V) (M : bk_M) : bk_wp (bk_C d) P_95 Q 0 106 [bk_c 1 0, bk_c 10 0, bk_c 5 i2, bk_i x3, bk_i x4, bk_i x5, v6, v7] [] M ↔ ((0 : Int) = 0 ∨ (0 : Int) = 1) ∧ Q 0 (0 : Int) M := bk_iff [30, 63, 106, 165] 40
def bkFitI (N T : Int → Int) (k : Nat) (A B : Int → Int) : Prop := ∀ y x, 0 ≤ y → y < 6 → 0 ≤ x → x < N 2 → (A y ≤ x ∧ x ≤ B y ↔ bkFit N T y x k = true)
theorem bkFit_s (N T : Int → Int) (y x : Int) (k : Nat) : bkFit N T y x (k + 1) = true ↔ bkFit N T y x k = true ∧ (N (52 + T (2 * k)) = y → bkSide (N (42 + T (2 * k))) x = T (2 * k + 1)) := by
  show (bkFit N T y x k && (decide (N (52 + T (2 * k)) ≠ y) || decide (bkSide (N (42 + T (2 * k))) x = T (2 * k + 1)))) = true ↔ _
  rw [Bool.and_eq_true, Bool.or_eq_true, decide_eq_true_eq, decide_eq_true_eq]
  refine ⟨fun h => ⟨h.1, fun e => h.2.elim (fun q => absurd e q) fun q => q⟩, fun h => ⟨h.1, ?_⟩⟩
  by_cases e : N (52 + T (2 * k)) = y
  · exact .inr (h.2 e)
  · exact .inl e
theorem bkSide_0 {x b : Int} : bkSide x b = 0 ↔ x + 1 ≤ b := by unfold bkSide; (repeat' split) <;> omega
theorem bkSide_1 {x b : Int} : bkSide x b = 1 ↔ b ≤ x - 1 := by unfold bkSide; (repeat' split) <;> omega
theorem bkSide_2 {x b : Int} : bkSide x b = 2 ↔ b = x := by unfold bkSide; (repeat' split) <;> omega
/-- one pair narrows -/
theorem bkFitI_s {N T : Int → Int} {k : Nat} {A B A' B' : Int → Int} (h : bkFitI N T k A B) {w x0 : Int} (hw : T (2 * k + 1) = w) (hx0 : N (42 + T (2 * k)) = x0)
    (hA : ∀ y, A' y = if y = N (52 + T (2 * k)) ∧ w ≠ 1 then (if (if w = 0 then x0 + 1 else x0) ≤ A y then A y else (if w = 0 then x0 + 1 else x0)) else A y)
    (hB : ∀ y, B' y = if y = N (52 + T (2 * k)) ∧ w ≠ 0 then (if B y ≤ (if w = 1 then x0 - 1 else x0) then B y else (if w = 1 then x0 - 1 else x0)) else B y) (hw2 : w = 0 ∨ w = 1 ∨ w = 2) : bkFitI N T (k + 1) A' B' := by
  intro y x h0 h1 h2 h3
  rw [bkFit_s, ← h y x h0 h1 h2 h3, hA y, hB y, hw, hx0]
  rcases hw2 with rfl | rfl | rfl
  · rw [bkSide_0]; (repeat' split) <;> omega
  · rw [bkSide_1]; (repeat' split) <;> omega
  · rw [bkSide_2]; (repeat' split) <;> omega
def bkA95 (k a : Nat) : Prop := (k = 22 ∨ k = 23) ∧ a = 0
theorem S95 {d p : Nat} {M : bk_M} {N T : Int → Int} {c : Int} (hR : bkRel M p N) (hc : M 10 0 1 = c) (hT : ∀ j, 0 ≤ j → j < c → M 53 0 j = T j ∧ 0 ≤ T j) :
    bk_C (d + 1) 0 95 [bk_c 1 0, bk_c 10 0, bk_c 5 p] M (fun t r M' => t = 0 ∧ bkFr bkA95 M M' ∧ ((bkRanOk N T c ∧ r = 1 ∧ bkFitI N T (c / 2).toNat (M' 22 0) (M' 23 0)) ∨ (¬ bkRanOk N T c ∧ r = 0))) := by
  have hN := bkRel_md hR
  obtain ⟨n1, n2, n3, n4, n5, n6, n7, n8, n9, n10, -⟩ := id hN
  obtain ⟨b1, b2, b3, b4, b5, b6, b7⟩ := hR.2.1
  rw [E_95, hc]
  refine ⟨fun z => ⟨.inl rfl, rfl, bkFr_refl _ _, .inr ⟨fun w => absurd w.2.1 (by omega), rfl⟩⟩, fun z1 => ⟨fun z => ⟨.inl rfl, rfl, bkFr_refl _ _, .inr ⟨fun w => absurd w.2.2.1 (by omega), rfl⟩⟩, fun z2 => ⟨by omega, fun z3 => ?_, fun z => ⟨.inl rfl, rfl, bkFr_refl _ _, .inr ⟨fun w => z w.1, rfl⟩⟩⟩⟩⟩
  -- the pairs
  have pairs : ∀ M1 : bk_M, bkFr bkA95 M M1 → bkFitI N T 0 (M1 22 0) (M1 23 0) → ∀ v4 v5 v6 v7, bk_wp (bk_C d) P_95 (fun t r M' => t = 0 ∧ bkFr bkA95 M M' ∧ ((bkRanOk N T c ∧ r = 1 ∧ bkFitI N T (c / 2).toNat (M' 22 0) (M' 23 0)) ∨ (¬ bkRanOk N T c ∧ r = 0))) 0 63 [bk_c 1 0, bk_c 10 0, bk_c 5 p, bk_i 0, v4, v5, v6, v7] [] M1 := by
    intro M1 F1 I1
    have key := bk_loopS (W := fun i M2 => ∀ v4 v5 v6 v7, bk_wp (bk_C d) P_95 (fun t r M' => t = 0 ∧ bkFr bkA95 M M' ∧ ((bkRanOk N T c ∧ r = 1 ∧ bkFitI N T (c / 2).toNat (M' 22 0) (M' 23 0)) ∨ (¬ bkRanOk N T c ∧ r = 0))) 0 63 [bk_c 1 0, bk_c 10 0, bk_c 5 p, bk_i (2 * i), v4, v5, v6, v7] [] M2) (s := 0) (n := c / 2)
      (fun i M2 => bkFr bkA95 M M2 ∧ bkPrs N T i.toNat = true ∧ bkFitI N T i.toNat (M2 22 0) (M2 23 0)) (by omega) ?_ ?_ (M := M1) ⟨F1, rfl, I1⟩
    · exact key
    · rintro i M2 h0 h1 ⟨F, hp, I⟩ ih v4 v5 v6 v7
      have ei : (2 * ((i.toNat : Nat) : Int)) = 2 * i := by omega
      have e5 : M2 5 p = M 5 p := F 5 p (by unfold bkA95; omega)
      have e30 : M2 30 p = M 30 p := F 30 p (by unfold bkA95; omega)
      have e10 : M2 10 0 1 = c := by rw [F 10 0 (by unfold bkA95; omega), hc]
      have t0 := hT (2 * i) (by omega) (by omega)
      have t1 := hT (2 * i + 1) (by omega) (by omega)
      have e53 : M2 53 0 = M 53 0 := F 53 0 (by unfold bkA95; omega)
      have nopair : ¬ (T (2 * i) < N 0 ∧ T (2 * i + 1) ≤ 2) → ∀ a4 a5 v6 v7, bk_wp (bk_C d) P_95 (fun t r M' => t = 0 ∧ bkFr bkA95 M M' ∧ ((bkRanOk N T c ∧ r = 1 ∧ bkFitI N T (c / 2).toNat (M' 22 0) (M' 23 0)) ∨ (¬ bkRanOk N T c ∧ r = 0))) 0 106 [bk_c 1 0, bk_c 10 0, bk_c 5 p, bk_i (2 * i), bk_i a4, bk_i a5, v6, v7] [] M2 := fun hno a4 a5 v6 v7 => by
        rw [LG_95_106]
        refine ⟨.inl rfl, rfl, F, .inr ⟨fun ok => ?_, rfl⟩⟩
        rw [← ei] at hno
        have := bkPrs_no hno (n := (c / 2).toNat) (by omega)
        rw [ok.2.2.2] at this
        exact absurd this (by decide)
      rw [LG_95_63, e10, e53, t0.1, t1.1, e5, b1, e30]
      unfold bk_r32
      refine ⟨by omega, fun z => absurd z (by omega), fun _ => ⟨by omega, by omega, by omega, fun z => nopair (fun q => absurd q.1 (by omega)) _ _ _ _, fun z => ⟨fun zw => ?_, fun z => nopair (fun q => z q.2) _ _ _ _⟩⟩⟩
      have hfn : T (2 * i) < N 0 := by omega
      have q := b7 (T (2 * i)) t0.2 (by omega)
      have q2 := n10 (T (2 * i)) t0.2 hfn
      have ex : M 30 p (T (2 * i)) % 6 = N (42 + T (2 * i)) := by omega
      have ey : M 30 p (T (2 * i)) / 6 = N (52 + T (2 * i)) := by omega
      have hp2 : bkPrs N T (i + 1).toNat = true := by
        rw [show (i + 1).toNat = i.toNat + 1 by omega]
        show (bkPrs N T i.toNat && decide (T (2 * ((i.toNat : Nat) : Int)) < N 0 ∧ T (2 * ((i.toNat : Nat) : Int) + 1) ≤ 2)) = true
        rw [hp, ei, Bool.true_and, decide_eq_true_eq]
        exact ⟨hfn, zw⟩
      rw [ex, ey]
      have step : ∀ (M4 : bk_M) v4 v5 v6 v7, bkFr bkA95 M M4 → (∀ y, M4 22 0 y = if y = N (52 + T (2 * i)) ∧ T (2 * i + 1) ≠ 1 then (if (if T (2 * i + 1) = 0 then N (42 + T (2 * i)) + 1 else N (42 + T (2 * i))) ≤ M2 22 0 y then M2 22 0 y else (if T (2 * i + 1) = 0 then N (42 + T (2 * i)) + 1 else N (42 + T (2 * i)))) else M2 22 0 y) → (∀ y, M4 23 0 y = if y = N (52 + T (2 * i)) ∧ T (2 * i + 1) ≠ 0 then (if M2 23 0 y ≤ (if T (2 * i + 1) = 1 then N (42 + T (2 * i)) - 1 else N (42 + T (2 * i))) then M2 23 0 y else (if T (2 * i + 1) = 1 then N (42 + T (2 * i)) - 1 else N (42 + T (2 * i)))) else M2 23 0 y) → bk_wp (bk_C d) P_95 (fun t r M' => t = 0 ∧ bkFr bkA95 M M' ∧ ((bkRanOk N T c ∧ r = 1 ∧ bkFitI N T (c / 2).toNat (M' 22 0) (M' 23 0)) ∨ (¬ bkRanOk N T c ∧ r = 0))) 0 63 [bk_c 1 0, bk_c 10 0, bk_c 5 p, bk_i (2 * i + 2), v4, v5, v6, v7] [] M4 := by
        intro M4 v4 v5 v6 v7 F4 hA hB
        rw [show 2 * i + 2 = 2 * (i + 1) by omega]
        refine ih M4 ⟨F4, hp2, ?_⟩ _ _ _ _
        rw [show (i + 1).toNat = i.toNat + 1 by omega]
        have := bkFitI_s (A' := M4 22 0) (B' := M4 23 0) I (w := T (2 * i + 1)) (x0 := N (42 + T (2 * i))) (by rw [ei]) (by rw [ei]) (by rw [ei]; exact hA) (by rw [ei]; exact hB) (by omega)
        exact this
      refine ⟨by omega, by omega, by omega, by omega, fun w1 => ⟨fun w => absurd w (by omega), fun w0 => ⟨by omega, fun w => absurd w1 w, fun _ => ⟨by omega, by omega, ?_⟩⟩⟩, fun w1 => ⟨by omega, fun w0 => ?_, fun w0 => ⟨by omega, ?_⟩⟩⟩
      · intro M4 hM4
        refine ⟨by omega, step M4 _ _ _ _ (by rw [hM4]; exact bkFr_up F (by unfold bkA95; omega)) (fun y => ?_) (fun y => ?_)⟩
        · rw [hM4, bk_up_f (by decide), if_neg (fun q => q.2 w1)]
        · rw [hM4, bk_up_w, if_pos w1]
          by_cases e : y = N (52 + T (2 * i))
          · subst e; simp [w0, w1]
          · rw [if_neg e, if_neg (fun q => e q.1)]
      · rw [L_95_165]
        refine ⟨by omega, ?_⟩
        intro M3 hM3
        refine ⟨fun w => absurd w w0, fun _ => ⟨by omega, fun _ => ⟨by omega, ?_⟩, fun w => absurd w1 w⟩⟩
        intro M4 hM4
        refine ⟨by unfold bk_r32; omega, step M4 _ _ _ _ (by rw [hM4, hM3]; exact bkFr_up (bkFr_up F (by unfold bkA95; omega)) (by unfold bkA95; omega)) (fun y => ?_) (fun y => ?_)⟩
        · rw [hM4, bk_up_f (by decide), hM3, bk_up_w, if_neg w0]
          by_cases e : y = N (52 + T (2 * i))
          · subst e; simp [w0, w1]
          · rw [if_neg e, if_neg (fun q => e q.1)]
        · rw [hM4, bk_up_w, hM3, bk_up_f (by decide), if_neg w1]
          by_cases e : y = N (52 + T (2 * i))
          · subst e; simp [w0, w1]
          · rw [if_neg e, if_neg (fun q => e q.1)]
      · have w0 := Decidable.not_not.1 w0
        rw [L_95_165]
        refine ⟨by omega, ?_⟩
        intro M3 hM3
        refine ⟨fun _ => ⟨by unfold bk_r32; omega, step M3 _ _ _ _ (by rw [hM3]; exact bkFr_up F (by unfold bkA95; omega)) (fun y => ?_) (fun y => ?_)⟩, fun w => absurd w0 w⟩
        · rw [hM3, bk_up_w, if_pos w0]
          by_cases e : y = N (52 + T (2 * i))
          · subst e; simp [w0, w1]
          · rw [if_neg e, if_neg (fun q => e q.1)]
        · rw [hM3, bk_up_f (by decide), if_neg (fun q => q.2 w0)]
    · rintro M2 ⟨F, hp, I⟩ v4 v5 v6 v7
      have e10 : M2 10 0 1 = c := by rw [F 10 0 (by unfold bkA95; omega), hc]
      rw [LG_95_63, e10]
      unfold bk_r32
      exact ⟨by omega, fun _ => ⟨.inr rfl, rfl, F, .inl ⟨⟨z3, by omega, by omega, hp⟩, rfl, I⟩⟩, fun z => absurd (by omega) z⟩
  have key := bk_loopS (W := fun y M1 => ∀ v4 v5 v6 v7, bk_wp (bk_C d) P_95 (fun t r M' => t = 0 ∧ bkFr bkA95 M M' ∧ ((bkRanOk N T c ∧ r = 1 ∧ bkFitI N T (c / 2).toNat (M' 22 0) (M' 23 0)) ∨ (¬ bkRanOk N T c ∧ r = 0))) 0 30 [bk_c 1 0, bk_c 10 0, bk_c 5 p, bk_i y, v4, v5, v6, v7] [] M1) (s := 0) (n := 6)
    (fun y M1 => bkFr bkA95 M M1 ∧ ∀ z, 0 ≤ z → z < y → M1 22 0 z = 0 ∧ M1 23 0 z = N 2 - 1) (by omega) ?_ ?_ (M := M) ⟨bkFr_refl _ _, fun z q1 q2 => absurd q1 (by omega)⟩
  · exact key _ _ _ _
  · rintro y M1 h0 h1 ⟨F, U⟩ ih v4 v5 v6 v7
    have e5 : M1 5 p = M 5 p := F 5 p (by unfold bkA95; omega)
    rw [LG_95_30]
    refine ⟨fun z => absurd z (by omega), fun _ => ⟨by omega, ?_⟩⟩
    intro M2 hM2
    have e5' : M2 5 p 0 = N 2 := by rw [hM2, bk_up_f (by decide), e5, b3]
    rw [e5']
    refine ⟨by unfold bk_r32; omega, by omega, ?_⟩
    intro M3 hM3
    refine ⟨by unfold bk_r32; omega, ih M3 ⟨by rw [hM3, hM2]; exact bkFr_up (bkFr_up F (by unfold bkA95; omega)) (by unfold bkA95; omega), fun z q1 q2 => ?_⟩ _ _ _ _⟩
    by_cases e : z = y
    · rw [e, hM3, bk_up_e, bk_up_f (by decide), hM2, bk_up_e]; exact ⟨rfl, rfl⟩
    · rw [hM3, bk_up_s e, bk_up_f (by decide), hM2, bk_up_s e, bk_up_f (by decide)]; exact U z q1 (by omega)
  · rintro M1 ⟨F, U⟩ v4 v5 v6 v7
    rw [LG_95_30]
    refine ⟨fun _ => pairs M1 F (fun y x q1 q2 q3 q4 => ?_) _ _ _ _, fun z => absurd (Int.le_refl _) z⟩
    rw [(U y q1 q2).1, (U y q1 q2).2]
    exact ⟨fun _ => rfl, fun _ => ⟨q3, by omega⟩⟩
