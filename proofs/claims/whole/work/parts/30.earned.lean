/-! Both earn alike. -/
theorem bkEarn_eq {M : bk_M} {p : Nat} (h : bkNow M p) (s : Int) : bkEarnC M p s = bkEarn (M 58 0) s := by
  obtain ⟨n1, n2, n3, n4, n5, n6, n7, n8, n9, n10, n11, n12, -⟩ := bkNow_md h
  obtain ⟨hp, hP, ⟨b1, b2, b3, b4, b5, b6, b7⟩, ⟨c1, c2, c3, c4, c5, -⟩⟩ := bkNow_e h
  have e1 : bkWorC M p s = bkWor (M 58 0) s := by
    unfold bkWorC bkWor
    rw [← b1]
    exact bkWorth_congr fun k hk => ⟨bkIs_Ws h s k hk, (b7 k (by omega) (by omega)).2.1⟩
  have e2 : bkSum (bkMilC M p s) (M 5 p 11).toNat = bkSum (bkMil (M 58 0) s) (M 58 0 1).toNat := by
    rw [b2]
    refine bkSum_congr fun k hk => ?_
    have q1 := c5 k (by omega) (by omega)
    have q2 := n11 k (by omega) (by omega)
    unfold bkMilC bkMil
    rw [q1.1, bkBank_side (by omega) (by omega), c4 _ (by omega) (by omega)]
  unfold bkEarnC bkEarn
  rw [e1, e2]
def bkEarnedN (M : bk_M) : bk_M := bk_up (bk_up M 58 0 81 (bkMost (M 58 0 81 + bkEarn (M 58 0) 0))) 58 0 82 (bkMost (M 58 0 82 + bkEarn (M 58 0) 1))
theorem bkNow_earned {M : bk_M} {p : Nat} (h : bkNow M p) : bkNow (bkEarnedN (bkEarned M p)) p := by
  obtain ⟨n1, n2, n3, n4, n5, n6, n7, n8, n9, n10, n11, n12, -⟩ := bkNow_md h
  obtain ⟨hp, hP, ⟨b1, b2, b3, b4, b5, b6, b7⟩, ⟨c1, c2, c3, c4, c5, -⟩⟩ := bkNow_e h
  have o : ∀ k i, k ≠ 58 → k ≠ 37 → bkEarnedN (bkEarned M p) k i = M k i := fun k i e1 e2 => by
    unfold bkEarnedN bkEarned
    rw [bk_up_f e1, bk_up_f e1, bk_up_f e2, bk_up_f e2]
  have o37 : bkEarnedN (bkEarned M p) 37 p = bkEarned M p 37 p := by
    unfold bkEarnedN
    rw [bk_up_f (by decide), bk_up_f (by decide)]
  have e58 : bkEarned M p 58 0 = M 58 0 := by
    unfold bkEarned
    rw [bk_up_f (by decide), bk_up_f (by decide)]
  have gN : ∀ c, c ≠ 81 → c ≠ 82 → bkEarnedN (bkEarned M p) 58 0 c = M 58 0 c := fun c z1 z2 => by
    unfold bkEarnedN
    rw [bk_up_s z2, bk_up_s z1, e58]
  have g81 : bkEarnedN (bkEarned M p) 58 0 81 = bkMost (M 58 0 81 + bkEarn (M 58 0) 0) := by
    unfold bkEarnedN
    rw [bk_up_s (by decide), bk_up_e, e58]
  have g82 : bkEarnedN (bkEarned M p) 58 0 82 = bkMost (M 58 0 82 + bkEarn (M 58 0) 1) := by
    unfold bkEarnedN
    rw [bk_up_e, e58]
  have k0 : bkEarned M p 37 p 0 = bkMost (M 58 0 81 + bkEarn (M 58 0) 0) := by
    unfold bkEarned
    rw [bk_up_s (by decide), bk_up_e, bkEarn_eq h, (c2 0 (by omega) (by omega)).1]
    rfl
  have k1 : bkEarned M p 37 p 1 = bkMost (M 58 0 82 + bkEarn (M 58 0) 1) := by
    unfold bkEarned
    rw [bk_up_e, bkEarn_eq h, (c2 1 (by omega) (by omega)).1]
    rfl
  have r0 := bkEarnC_b hP 0
  have r1 := bkEarnC_b hP 1
  rw [bkEarn_eq h] at r0 r1
  have m0 := n12 0 (by omega) (by omega)
  have m1 := n12 1 (by omega) (by omega)
  refine bkNow_work h (by rw [o 11 0 (by decide) (by decide)]) (o 5 p (by decide) (by decide)) (o 29 p (by decide) (by decide)) (o 30 p (by decide) (by decide)) (o 31 p (by decide) (by decide)) (o 32 p (by decide) (by decide)) (o 34 p (by decide) (by decide)) (o 35 p (by decide) (by decide)) (o 39 p (by decide) (by decide)) (fun q hq => gN q (by omega) (by omega)) (fun q hq => gN q (by omega) (by omega)) (fun t h0 h1 => ?_) (fun c h0 h1 => ?_)
  · rw [o37, o 38 p (by decide) (by decide), gN (83 + t) (by omega) (by omega)]
    have ht : t = 0 ∨ t = 1 := by omega
    rcases ht with rfl | rfl
    · rw [k0]
      exact ⟨g81.symm, (c2 0 (by omega) (by omega)).2, bkMost_b (Int.add_nonneg m0.1 r0)⟩
    · rw [k1]
      exact ⟨g82.symm, (c2 1 (by omega) (by omega)).2, bkMost_b (Int.add_nonneg m1.1 r1)⟩
  · rw [o 28 p (by decide) (by decide), gN _ (by omega) (by omega)]
    exact ⟨c3 c h0 h1, by rw [c3 c h0 h1]; exact n8 c h0 h1⟩
