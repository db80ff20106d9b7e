/-! What is now stays alike after a roll. -/
theorem bkNow_rolled {M : bk_M} {p : Nat} {m x y : Int} (h : bkNow M p) (hp3 : p < 3) (hm : 0 ≤ m ∧ m < M 58 0 1) (hx : 0 ≤ x ∧ x < M 58 0 2) (hy : 0 ≤ y ∧ y < M 58 0 3) :
    bkNow (bkLivR (bkSnap (bk_up (bkRol (bkKeep M p) p m (6 * y + x)) 12 0 0 0)) m x y) p := by
  obtain ⟨n1, n2, n3, n4, n5, n6, n7, n8, n9, n10, n11, n12, -⟩ := bkNow_md h
  obtain ⟨hp, hP, ⟨b1, b2, b3, b4, -⟩, ⟨c1, c2, c3, c4, c5, -⟩⟩ := bkNow_e h
  have hK : ∀ k c, k ≠ 3 → bkKeep M p k p c = M k p c := fun k c hk => bkKeep_o hk (.inl hp3)
  have hK0 : ∀ k a c, k ≠ 3 → k ≠ 5 → (k < 28 ∨ 39 < k) → bkKeep M p k a c = M k a c := fun k a c hk h5 h6 => bkKeep_o hk (.inr ⟨h5, h6⟩)
  have o : ∀ k a c, k ≠ 58 → k ≠ 61 → k ≠ 12 → bkLivR (bkSnap (bk_up (bkRol (bkKeep M p) p m (6 * y + x)) 12 0 0 0)) m x y k a c = bkRol (bkKeep M p) p m (6 * y + x) k a c := fun k a c e1 e2 e3 => by
    rw [bkLivR_o e1, bkSnap_o e2 (fun z => e3 z.1), bk_up_k e3]
  have f : ∀ k, k ≠ 58 → k ≠ 61 → k ≠ 12 → k ≠ 34 → k ≠ 35 → k ≠ 3 → bkLivR (bkSnap (bk_up (bkRol (bkKeep M p) p m (6 * y + x)) 12 0 0 0)) m x y k p = M k p := fun k e1 e2 e3 e4 e5 e7 => by
    funext c
    rw [o k p c e1 e2 e3, bkRol_o ⟨e4, e5⟩, hK k c e7]
  have g : ∀ c, bkSnap (bk_up (bkRol (bkKeep M p) p m (6 * y + x)) 12 0 0 0) 58 0 c = M 58 0 c := fun c => by
    rw [bkSnap_o (by decide) (by omega), bk_up_k (by decide), bkRol_o (by decide), hK0 58 0 c (by decide) (by decide) (by decide)]
  have gN : ∀ c, bkLivR (bkSnap (bk_up (bkRol (bkKeep M p) p m (6 * y + x)) 12 0 0 0)) m x y 58 0 c = if c = 133 + m then bk_w32 (M 58 0 c + 1) else if c = 130 + m then y else if c = 127 + m then x else M 58 0 c := fun c => by
    unfold bkLivR
    by_cases z1 : c = 133 + m
    · subst z1; rw [bk_up_e, g, if_pos rfl]
    · rw [bk_up_s z1, if_neg z1]
      by_cases z2 : c = 130 + m
      · subst z2; rw [bk_up_e, if_pos rfl]
      · rw [bk_up_s z2, if_neg z2]
        by_cases z3 : c = 127 + m
        · subst z3; rw [bk_up_e, if_pos rfl]
        · rw [bk_up_s z3, if_neg z3, g]
  refine bkNow_roll h ?_ (f 5 (by decide) (by decide) (by decide) (by decide) (by decide) (by decide)) (f 28 (by decide) (by decide) (by decide) (by decide) (by decide) (by decide)) (f 29 (by decide) (by decide) (by decide) (by decide) (by decide) (by decide)) (f 30 (by decide) (by decide) (by decide) (by decide) (by decide) (by decide)) (f 31 (by decide) (by decide) (by decide) (by decide) (by decide) (by decide)) (f 32 (by decide) (by decide) (by decide) (by decide) (by decide) (by decide)) (f 37 (by decide) (by decide) (by decide) (by decide) (by decide) (by decide)) (f 38 (by decide) (by decide) (by decide) (by decide) (by decide) (by decide)) (f 39 (by decide) (by decide) (by decide) (by decide) (by decide) (by decide)) (fun q hq => ?_) (fun q hq => ?_) (fun t h0 h1 => ?_)
  · rw [o 11 0 1 (by decide) (by decide) (by decide), bkRol_o (by decide), hK0 11 0 1 (by decide) (by decide) (by decide)]
  · rw [gN, if_neg (by omega), if_neg (by omega), if_neg (by omega)]
  · rw [gN, if_neg (by omega), if_neg (by omega), if_neg (by omega)]
  · have q1 := c5 t h0 (by omega)
    have q2 := n11 t h0 h1
    rw [o 34 p t (by decide) (by decide) (by decide), o 35 p t (by decide) (by decide) (by decide), gN, gN, gN]
    rw [if_neg (show ¬ 130 + t = 133 + m by omega), if_neg (show ¬ 127 + t = 133 + m by omega), if_neg (show ¬ 127 + t = 130 + m by omega)]
    rw [if_neg (show ¬ 133 + t = 130 + m by omega), if_neg (show ¬ 133 + t = 127 + m by omega), if_neg (show ¬ 130 + t = 127 + m by omega)]
    unfold bkRol
    rw [bk_up_k (show (34 : Nat) ≠ 35 by decide)]
    by_cases e : t = m
    · subst e
      rw [bk_up_e, bk_up_e, if_pos rfl, if_pos rfl, if_pos rfl, hK 35 t (by decide), q1.2.2.2.2]
      exact ⟨rfl, hx.1, hx.2, hy.1, hy.2, rfl⟩
    · rw [bk_up_s e, bk_up_s e, bk_up_k (by decide), if_neg (show ¬ 133 + t = 133 + m by omega), if_neg (show ¬ 130 + t = 130 + m by omega), if_neg (show ¬ 127 + t = 127 + m by omega), hK 34 t (by decide), hK 35 t (by decide), q1.2.2.2.2]
      exact ⟨q1.1, q2.1, q2.2.1, q2.2.2.1, q2.2.2.2, rfl⟩
