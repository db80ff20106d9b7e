/-! A BOOK is lived: a line purely, and as the class does it. -/
theorem S56r {d p : Nat} {Q : bk_Q} {w s x y : Int} {M : bk_M} {N : Int → Int} (h : bkRel M p N) (hw : w = 0 ∨ w = 1) (hs : 0 ≤ s ∧ s ≤ 1) (hx : 0 ≤ x ∧ x < N 2) (hy : 0 ≤ y ∧ y < N 3) : bk_C (d + 2) 0 56 [bk_c 5 p, bk_i s, bk_i (6 * y + x), bk_i (if w = 0 then -1 else 1)] M Q ↔ Q 0 (bkWhyW N w s x y) M := by
  refine bk_det (fun Q hQ => ?_) Q
  obtain ⟨n1, n2, n3, n4, n5, n6, n7, n8, n9, n10, n11, n12, -⟩ := bkRel_md h
  obtain ⟨hP, ⟨b1, b2, b3, b4, -⟩, ⟨c1, c2, c3, c4, -⟩⟩ := h
  have e01 : ¬ (1 : Int) = 0 := by decide
  have q1 := (c2 s hs.1 (by omega)).1
  have q2 := c3 (6 * y + x) (by omega) (by omega)
  have q3 := n8 (6 * y + x) (by omega) (by omega)
  have q4 := n12 s hs.1 (by omega)
  rw [← Int.add_assoc] at q2 q3
  unfold bkWhyW at hQ
  rw [E_56, S41 (.inl rfl) (by omega) (by omega), bkBank_side (by omega) (by omega), c4 y (by omega) (by omega), q1, q2]
  unfold bk_r32
  generalize N (85 + 6 * y + x) = v at *
  generalize bkSide x (N (121 + y)) = b at *
  refine ⟨by omega, fun z => ⟨rfl, by omega, fun z2 => ⟨by omega, ?_, fun z3 => ?_, fun z3 => ⟨fun z4 => ?_, fun z4 => ?_⟩⟩, fun z2 => ?_⟩, fun z => ?_⟩
  · split <;> omega
  · rw [if_neg (by omega), if_neg z2] at hQ
    rcases hw with rfl | rfl
    · rw [if_pos rfl] at z3 hQ
      rwa [if_pos (by omega)] at hQ
    · rw [if_neg e01] at z3
      omega
  · rw [if_neg (by omega), if_neg z2] at hQ
    rcases hw with rfl | rfl
    · rw [if_pos rfl] at z3 z4 hQ
      rwa [if_neg (by omega)] at hQ
    · rw [if_neg e01] at z3 z4 hQ
      rwa [if_neg (by omega)] at hQ
  · rw [if_neg (by omega), if_neg z2] at hQ
    rcases hw with rfl | rfl
    · rw [if_pos rfl] at z3 z4 hQ
      omega
    · rw [if_neg e01] at z3 z4 hQ
      rwa [if_pos (by omega)] at hQ
  · rwa [if_neg (by omega), if_pos (by omega)] at hQ
  · rwa [if_pos (by omega)] at hQ
theorem S62r {d p : Nat} {Q : bk_Q} {m x y : Int} {M : bk_M} {N : Int → Int} (h : bkRel M p N) (hm : 0 ≤ m ∧ m < N 1) (hx : 0 ≤ x ∧ x < N 2) (hy : 0 ≤ y ∧ y < N 3) : bk_C (d + 2) 0 62 [bk_c 5 p, bk_i m, bk_i (6 * y + x)] M Q ↔ Q 0 (bkWhyR N m x y) M := by
  refine bk_det (fun Q hQ => ?_) Q
  obtain ⟨n1, n2, n3, n4, n5, n6, n7, n8, n9, n10, n11, -⟩ := bkRel_md h
  obtain ⟨hP, ⟨b1, b2, b3, b4, -⟩, ⟨-, -, -, c4, c5, -⟩⟩ := h
  have q1 := c5 m hm.1 (by omega)
  have q2 := n11 m hm.1 hm.2
  have q3 := c4 (N (130 + m)) (by omega) (by omega)
  rw [E_62, S41 (.inl rfl) (by omega) (by omega), q1.1, bkBank_side (by omega) (by omega), q3]
  rw [show (6 * N (130 + m) + N (127 + m)) % 6 = N (127 + m) by omega, show (6 * N (130 + m) + N (127 + m)) / 6 = N (130 + m) by omega]
  rw [show (6 * y + x) % 6 = x by omega, show (6 * y + x) / 6 = y by omega, bkAbs_n, bkAbs_n]
  unfold bkWhyR at hQ
  have a1 := bkAbs_b (a := N (127 + m) - x) (c := 6) (by omega) (by omega)
  have a2 := bkAbs_b (a := N (130 + m) - y) (c := 6) (by omega) (by omega)
  generalize bkAbs (N (127 + m) - x) = u at *
  generalize bkAbs (N (130 + m) - y) = v at *
  unfold bk_r32
  refine ⟨by omega, by omega, by omega, by omega, by omega, by omega, by omega, by omega, by omega, by omega, by omega, fun z => ⟨by omega, rfl, fun z2 => ?_, fun z2 => ?_⟩, fun z => ?_⟩
  · rwa [if_pos z, if_neg z2] at hQ
  · rwa [if_pos z, if_pos (Decidable.not_not.1 z2)] at hQ
  · rwa [if_neg z] at hQ
def bkLwN (N : Int → Int) (w s x y : Int) : Int → Int := fun c => if c = 85 + 6 * y + x then N c + (if w = 0 then -1 else 1) else if c = 83 + s then bk_w32 (N c + 1) else if c = 81 + s then N c - 1 else N c
def bkRlN (N : Int → Int) (m x y : Int) : Int → Int := fun c => if c = 133 + m then bk_w32 (N c + 1) else if c = 130 + m then y else if c = 127 + m then x else N c
theorem bkLivW_rw {M : bk_M} {w s x y : Int} : bkLivW M w s x y = bkRw M (bkLwN (M 58 0) w s x y) := by
  funext k a c
  unfold bkRw
  by_cases z : k = 58 ∧ a = 0
  · rw [if_pos z]
    obtain ⟨rfl, rfl⟩ := z
    unfold bkLivW bkLwN
    rw [bk_up_w, bk_up_w, bk_up_w]
    by_cases z1 : c = 85 + 6 * y + x
    · rw [if_pos z1, if_pos z1, z1]
    · rw [if_neg z1, if_neg z1]
      by_cases z2 : c = 83 + s
      · rw [if_pos z2, if_pos z2, z2]
      · rw [if_neg z2, if_neg z2]
        by_cases z3 : c = 81 + s
        · rw [if_pos z3, if_pos z3, z3]
        · rw [if_neg z3, if_neg z3]
  · rw [if_neg z]
    unfold bkLivW bk_up
    rw [if_neg (fun w => z ⟨w.1, w.2.1⟩), if_neg (fun w => z ⟨w.1, w.2.1⟩), if_neg (fun w => z ⟨w.1, w.2.1⟩)]
theorem bkLivR_rw {M : bk_M} {m x y : Int} : bkLivR M m x y = bkRw M (bkRlN (M 58 0) m x y) := by
  funext k a c
  unfold bkRw
  by_cases z : k = 58 ∧ a = 0
  · rw [if_pos z]
    obtain ⟨rfl, rfl⟩ := z
    unfold bkLivR bkRlN
    rw [bk_up_w, bk_up_w, bk_up_w]
    by_cases z1 : c = 133 + m
    · rw [if_pos z1, if_pos z1, z1]
    · rw [if_neg z1, if_neg z1]
  · rw [if_neg z]
    unfold bkLivR bk_up
    rw [if_neg (fun w => z ⟨w.1, w.2.1⟩), if_neg (fun w => z ⟨w.1, w.2.1⟩), if_neg (fun w => z ⟨w.1, w.2.1⟩)]
theorem bkRel_wrk {M : bk_M} {p : Nat} {N : Int → Int} {w s x y : Int} (h : bkRel M p N) (hw : w = 0 ∨ w = 1) (hs : 0 ≤ s ∧ s ≤ 1) (hx : 0 ≤ x ∧ x < N 2) (hy : 0 ≤ y ∧ y < N 3) (h0 : bkWhyW N w s x y = 0) : bkRel (bkWrk M p s (6 * y + x) (if w = 0 then -1 else 1)) p (bkLwN N w s x y) := by
  obtain ⟨n1, n2, n3, n4, n5, n6, n7, n8, n9, n10, n11, n12, -⟩ := bkRel_md h
  obtain ⟨hP, -, ⟨c1, c2, c3, c4, -⟩⟩ := id h
  have kk : N (81 + s) ≠ 0 ∧ N (85 + 6 * y + x) ≠ (if w = 0 then 0 else 9) := by
    unfold bkWhyW at h0
    by_cases z1 : N (81 + s) = 0
    · rw [if_pos z1] at h0; omega
    rw [if_neg z1] at h0
    by_cases z2 : bkSide x (N (121 + y)) = 1 - s
    · rw [if_pos z2] at h0; omega
    rw [if_neg z2] at h0
    refine ⟨z1, fun z3 => ?_⟩
    rw [if_pos z3] at h0; omega
  have gN : ∀ c, bkLwN N w s x y c = if c = 85 + 6 * y + x then N c + (if w = 0 then -1 else 1) else if c = 83 + s then bk_w32 (N c + 1) else if c = 81 + s then N c - 1 else N c := fun c => rfl
  have f : ∀ k, k ≠ 58 → k ≠ 11 → k ≠ 28 → k ≠ 37 → k ≠ 38 → bkW (bkWrk M p s (6 * y + x) (if w = 0 then -1 else 1)) p (bkLwN N w s x y) k p = bkW M p N k p := fun k e1 e2 e3 e4 e5 => by
    rw [bkW_o e1 e2, bkW_o e1 e2]
    funext c
    rw [bkWrk_o ⟨e3, e4, e5⟩]
  rw [bkRel_now] at h ⊢
  refine bkNow_work h (by unfold bkW; rw [if_neg (by decide), if_pos (by decide), if_neg (by decide), if_pos (by decide)]) (f 5 (by decide) (by decide) (by decide) (by decide) (by decide)) (f 29 (by decide) (by decide) (by decide) (by decide) (by decide)) (f 30 (by decide) (by decide) (by decide) (by decide) (by decide)) (f 31 (by decide) (by decide) (by decide) (by decide) (by decide)) (f 32 (by decide) (by decide) (by decide) (by decide) (by decide)) (f 34 (by decide) (by decide) (by decide) (by decide) (by decide)) (f 35 (by decide) (by decide) (by decide) (by decide) (by decide)) (f 39 (by decide) (by decide) (by decide) (by decide) (by decide)) (fun q hq => ?_) (fun q hq => ?_) (fun t h0 h1 => ?_) (fun c h0 h1 => ?_)
  · rw [bkW_58, bkW_58, gN, if_neg (by omega), if_neg (by omega), if_neg (by omega)]
  · rw [bkW_58, bkW_58, gN, if_neg (by omega), if_neg (by omega), if_neg (by omega)]
  · have q1 := c2 t h0 h1
    have q2 := n12 t h0 h1
    rw [bkW_58, bkW_o (by decide) (by decide), bkW_o (by decide) (by decide), gN, gN]
    rw [if_neg (show ¬ 81 + t = 85 + 6 * y + x by omega), if_neg (show ¬ 81 + t = 83 + s by omega), if_neg (show ¬ 83 + t = 85 + 6 * y + x by omega)]
    unfold bkWrk
    rw [bk_up_k (show (37 : Nat) ≠ 38 by decide)]
    by_cases e : t = s
    · subst e
      rw [bk_up_e, bk_up_e, if_pos rfl, if_pos rfl, q1.1, q1.2]
      exact ⟨rfl, rfl, by omega, by omega⟩
    · rw [bk_up_s e, bk_up_s e, bk_up_k (by decide), bk_up_k (by decide), bk_up_k (by decide), if_neg (by omega), if_neg (by omega), if_neg (by omega), q1.1, q1.2]
      exact ⟨rfl, rfl, q2⟩
  · have q1 := c3 c h0 h1
    have q2 := n8 c h0 h1
    rw [bkW_58, bkW_o (by decide) (by decide), gN]
    rw [if_neg (show ¬ 85 + c = 83 + s by omega), if_neg (show ¬ 85 + c = 81 + s by omega)]
    unfold bkWrk
    rw [bk_up_k (show (28 : Nat) ≠ 38 by decide), bk_up_k (show (28 : Nat) ≠ 37 by decide)]
    by_cases e : c = 6 * y + x
    · rw [e] at q1 q2 ⊢
      rw [bk_up_e, if_pos (show 85 + (6 * y + x) = 85 + 6 * y + x by omega), q1]
      have ek := kk.2
      rw [show 85 + 6 * y + x = 85 + (6 * y + x) by omega] at ek
      rcases hw with rfl | rfl
      · rw [if_pos rfl] at ek ⊢; omega
      · rw [if_neg (by decide)] at ek ⊢; omega
    · rw [bk_up_s e, if_neg (by omega), q1]
      exact ⟨rfl, q2⟩
theorem bkRel_rol {M : bk_M} {p : Nat} {N : Int → Int} {m x y : Int} (h : bkRel M p N) (hm : 0 ≤ m ∧ m < N 1) (hx : 0 ≤ x ∧ x < N 2) (hy : 0 ≤ y ∧ y < N 3) : bkRel (bkRol M p m (6 * y + x)) p (bkRlN N m x y) := by
  obtain ⟨n1, n2, n3, n4, n5, n6, n7, n8, n9, n10, n11, n12, -⟩ := bkRel_md h
  obtain ⟨hP, ⟨b1, b2, -⟩, ⟨c1, c2, c3, c4, c5, -⟩⟩ := id h
  have gN : ∀ c, bkRlN N m x y c = if c = 133 + m then bk_w32 (N c + 1) else if c = 130 + m then y else if c = 127 + m then x else N c := fun c => rfl
  have f : ∀ k, k ≠ 58 → k ≠ 11 → k ≠ 34 → k ≠ 35 → bkW (bkRol M p m (6 * y + x)) p (bkRlN N m x y) k p = bkW M p N k p := fun k e1 e2 e3 e4 => by
    rw [bkW_o e1 e2, bkW_o e1 e2]
    funext c
    rw [bkRol_o ⟨e3, e4⟩]
  rw [bkRel_now] at h ⊢
  refine bkNow_roll h (by unfold bkW; rw [if_neg (by decide), if_pos (by decide), if_neg (by decide), if_pos (by decide)]) (f 5 (by decide) (by decide) (by decide) (by decide)) (f 28 (by decide) (by decide) (by decide) (by decide)) (f 29 (by decide) (by decide) (by decide) (by decide)) (f 30 (by decide) (by decide) (by decide) (by decide)) (f 31 (by decide) (by decide) (by decide) (by decide)) (f 32 (by decide) (by decide) (by decide) (by decide)) (f 37 (by decide) (by decide) (by decide) (by decide)) (f 38 (by decide) (by decide) (by decide) (by decide)) (f 39 (by decide) (by decide) (by decide) (by decide)) (fun q hq => ?_) (fun q hq => ?_) (fun t h0 h1 => ?_)
  · rw [bkW_58, bkW_58, gN, if_neg (by omega), if_neg (by omega), if_neg (by omega)]
  · rw [bkW_58, bkW_58, gN, if_neg (by omega), if_neg (by omega), if_neg (by omega)]
  · rw [bkW_58] at h1
    have q1 := c5 t h0 (by omega)
    have q2 := n11 t h0 h1
    rw [bkW_58, bkW_58, bkW_o (by decide) (by decide), bkW_o (by decide) (by decide), gN, gN, gN]
    rw [if_neg (show ¬ 130 + t = 133 + m by omega), if_neg (show ¬ 127 + t = 133 + m by omega), if_neg (show ¬ 127 + t = 130 + m by omega)]
    rw [if_neg (show ¬ 133 + t = 130 + m by omega), if_neg (show ¬ 133 + t = 127 + m by omega), if_neg (show ¬ 130 + t = 127 + m by omega)]
    unfold bkRol
    rw [bk_up_k (show (34 : Nat) ≠ 35 by decide)]
    by_cases e : t = m
    · subst e
      rw [bk_up_e, bk_up_e, if_pos rfl, if_pos rfl, if_pos rfl, q1.2.2.2.2]
      exact ⟨rfl, hx.1, hx.2, hy.1, hy.2, rfl⟩
    · rw [bk_up_s e, bk_up_s e, bk_up_k (by decide), if_neg (show ¬ 133 + t = 133 + m by omega), if_neg (show ¬ 130 + t = 130 + m by omega), if_neg (show ¬ 127 + t = 127 + m by omega), q1.2.2.2.2]
      exact ⟨q1.1, q2.1, q2.2.1, q2.2.2.1, q2.2.2.2, rfl⟩
/-- line j is lived: why it can't be, what is so then -/
def bkGo (N S : Int → Int) (j : Int) : Int × (Int → Int) :=
  if S (4 * j) = 3 then (if N 80 + S (4 * j + 1) ≤ 400 then (0, bkYrN N (S (4 * j + 2)) (S (4 * j + 1)).toNat) else (31, N))
  else if 0 ≤ S (4 * j + 2) ∧ S (4 * j + 2) < N 2 ∧ 0 ≤ S (4 * j + 3) ∧ S (4 * j + 3) < N 3 then
    (if S (4 * j) = 4 then (if bkWhyR N (S (4 * j + 1)) (S (4 * j + 2)) (S (4 * j + 3)) = 0 then (0, bkRlN N (S (4 * j + 1)) (S (4 * j + 2)) (S (4 * j + 3))) else (40 + bkWhyR N (S (4 * j + 1)) (S (4 * j + 2)) (S (4 * j + 3)), N))
      else (if bkWhyW N (S (4 * j)) (S (4 * j + 1)) (S (4 * j + 2)) (S (4 * j + 3)) = 0 then (0, bkLwN N (S (4 * j)) (S (4 * j + 1)) (S (4 * j + 2)) (S (4 * j + 3))) else (10 * S (4 * j) + bkWhyW N (S (4 * j)) (S (4 * j + 1)) (S (4 * j + 2)) (S (4 * j + 3)), N)))
  else (10 * S (4 * j) + 9, N)
/-- the lines from j on: why one can't be, which, what is so then -/
def bkLvs (S : Int → Int) (n : Int) : Nat → Int → (Int → Int) → Int × Int × (Int → Int)
  | 0, j, N => (0, j, N)
  | k + 1, j, N => if n ≤ j then (0, j, N) else if (bkGo N S j).1 = 0 then bkLvs S n k (j + 1) (bkGo N S j).2 else ((bkGo N S j).1, j, (bkGo N S j).2)
theorem bkLvs_s {S : Int → Int} {n : Int} {k : Nat} {j : Int} {N : Int → Int} : bkLvs S n (k + 1) j N = if n ≤ j then (0, j, N) else if (bkGo N S j).1 = 0 then bkLvs S n k (j + 1) (bkGo N S j).2 else ((bkGo N S j).1, j, (bkGo N S j).2) := rfl
theorem bkWhyW_b (N : Int → Int) (w s x y : Int) : 0 ≤ bkWhyW N w s x y ∧ bkWhyW N w s x y ≤ 3 := by
  unfold bkWhyW
  (repeat' split) <;> omega
theorem bkWhyR_b (N : Int → Int) (m x y : Int) : 0 ≤ bkWhyR N m x y ∧ bkWhyR N m x y ≤ 2 := by
  unfold bkWhyR
  (repeat' split) <;> omega
