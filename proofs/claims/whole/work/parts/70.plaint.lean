/-! A PLAIN text, purely: what its lines keep, and the whole text. -/
theorem bkTn_lt {T : Int → Int} {c L i : Int} (hc : i ≤ c) (h1 : bkTk T c L i ≠ 0) (h2 : bkTk T c L i ≠ 1) : i < bkTn T c L i := by
  obtain ⟨q1, q2, -, -⟩ := bkEd_ok (fun j => bkBl (T j)) _ i rfl hc
  obtain ⟨r1, r2, -, r4⟩ := bkEd_ok (fun j => bkAl (T j)) _ (bkTp T c i) rfl q2
  change i ≤ bkTp T c i at q1
  change bkTp T c i ≤ c at q2
  change bkTp T c i ≤ bkTe T c (bkTp T c i) at r1
  change c ≤ bkTe T c (bkTp T c i) ∨ bkAl (T (bkTe T c (bkTp T c i))) = false at r4
  unfold bkTk at h1 h2
  unfold bkTn
  by_cases w1 : L ≤ bkTp T c i ∧ L < c
  · rw [if_pos w1] at h2; exact absurd rfl h2
  · rw [if_neg w1] at h1 h2
    by_cases w2 : c ≤ bkTp T c i
    · rw [if_pos w2] at h1; exact absurd rfl h1
    · rw [if_neg (by omega)]
      by_cases w3 : bkAl (T (bkTp T c i)) = true
      · rw [if_pos w3]
        by_cases e : bkTe T c (bkTp T c i) = bkTp T c i
        · rw [e, w3] at r4
          rcases r4 with r4 | r4
          · exact absurd r4 w2
          · cases r4
        · omega
      · rw [if_neg w3]; omega
/-- what a line keeps -/
def bkLk (c i : Int) (O : (Int × Int) ⊕ (Int × (Int → Int))) : Prop := ∀ j S, O = .inr (j, S) → i ≤ j ∧ j ≤ c ∧ bkSv S
theorem bkLk_l {c i : Int} {e : Int × Int} : bkLk c i (.inl e) := fun j S w => (by cases w)
theorem bkLk_r {c i j : Int} {S : Int → Int} (h : i ≤ j ∧ j ≤ c) (hS : bkSv S) : bkLk c i (.inr (j, S)) := fun j S w => (by cases w; exact ⟨h.1, h.2, hS⟩)
theorem bkLk_size {T : Int → Int} {c L i q : Int} {S : Int → Int} (h : i ≤ c) (hS : bkSv S) : bkLk c i (bkLSize T c L S i q) := by
  have hn := @bkTn_b T c L i h
  have hn2 := @bkTn_b T c L (bkTn T c L i) hn.2
  unfold bkLSize
  by_cases z : S 170 = 1 ∨ S 120 = 1
  · rw [if_pos z]; exact bkLk_l
  · rw [if_neg z]
    rcases e : bkNu T c L 3 6 i with x | v
    · exact bkLk_l
    · dsimp only
      rcases e' : bkNu T c L 2 6 (bkTn T c L i) with x | w
      · exact bkLk_l
      · have b := bkNu_r e
        have b' := bkNu_r e'
        obtain ⟨s1, s2, s3, s4, s5, s6, s7, s8, s9, s10, s11, s12⟩ := hS
        have z0 := s7 170 (by omega) (by omega)
        have z2 := s8 (by omega)
        refine bkLk_r (by omega) ?_
        have P : ∀ j, j ≠ 2 → j ≠ 3 → j ≠ 120 → bkPut (bkPut (bkPut S 120 1) 2 v) 3 w j = S j := fun j w1 w2 w3 => by rw [bkPut_o w2, bkPut_o w1, bkPut_o w3]
        have E2 : bkPut (bkPut (bkPut S 120 1) 2 v) 3 w 2 = v := by rw [bkPut_o (by decide), bkPut_e]
        have E3 : bkPut (bkPut (bkPut S 120 1) 2 v) 3 w 3 = w := bkPut_e
        have E120 : bkPut (bkPut (bkPut S 120 1) 2 v) 3 w 120 = 1 := by rw [bkPut_o (by decide), bkPut_o (by decide), bkPut_e]
        generalize bkPut (bkPut (bkPut S 120 1) 2 v) 3 w = S' at *
        unfold bkSv
        rw [E2, E3, P 0 (by omega) (by omega) (by omega), P 1 (by omega) (by omega) (by omega), P 4 (by omega) (by omega) (by omega), P 5 (by omega) (by omega) (by omega), P 170 (by omega) (by omega) (by omega), P 78 (by omega) (by omega) (by omega), P 79 (by omega) (by omega) (by omega)]
        refine ⟨by omega, by omega, s3, s4, by omega, s6, fun k k0 k1 => ?_, s8, fun k k0 k1 => by rw [P (6 + k) (by omega) (by omega) (by omega)]; exact s9 k k0 k1, fun f f0 f1 => by omega, fun f f0 f1 => by omega, s12⟩
        by_cases w : k = 120
        · rw [w, E120]; omega
        · rw [P k (by omega) (by omega) w]; exact s7 k k0 k1
theorem bkLk_cell {T : Int → Int} {c L i : Int} {S : Int → Int} {f : Int → Int → (Int × Int) ⊕ (Int × (Int → Int))} (hf : ∀ x y, 0 ≤ x → x < S 2 → 0 ≤ y → y < S 3 → bkLk c i (f x y)) : bkLk c i (bkCell T c L S i f) := by
  unfold bkCell
  rcases e : bkNu T c L 0 (S 2 - 1) i with x | x
  · exact bkLk_l
  · dsimp only
    rcases e' : bkNu T c L 0 (S 3 - 1) (bkTn T c L i) with y | y
    · exact bkLk_l
    · have b := bkNu_r e
      have b' := bkNu_r e'
      exact hf x y (by omega) (by omega) (by omega) (by omega)
theorem bkLk_up {c i i' : Int} {O : (Int × Int) ⊕ (Int × (Int → Int))} (h : bkLk c i O) (hi : i' ≤ i) : bkLk c i' O := fun j S e => by
  obtain ⟨q1, q2, q3⟩ := h j S e
  exact ⟨by omega, q2, q3⟩
theorem bkLk_land {T : Int → Int} {c L i : Int} {S : Int → Int} (h : i ≤ c) (hS : bkSv S) : bkLk c i (bkLLand T c L S i) := by
  have hn := @bkTn_b T c L i h
  have hn2 := @bkTn_b T c L (bkTn T c L i) hn.2
  have hn3 := @bkTn_b T c L (bkTn T c L (bkTn T c L i)) hn2.2
  unfold bkLLand
  refine bkLk_cell fun x y x0 x1 y0 y1 => ?_
  obtain ⟨s1, s2, s3, s4, s5, s6, s7, s8, s9, s10, s11, s12⟩ := hS
  by_cases z : S (130 + (6 * y + x)) = 1
  · rw [if_pos z]; exact bkLk_l
  · rw [if_neg z]
    rcases e : bkNu T c L 0 9 (bkTn T c L (bkTn T c L i)) with v | v
    · exact bkLk_l
    · have b := bkNu_r e
      refine bkLk_r (by omega) ?_
      obtain ⟨k, hk⟩ : ∃ k : Int, 6 * y + x = k := ⟨_, rfl⟩
      rw [hk]
      have P : ∀ j, j ≠ 6 + k → j ≠ 130 + k → j ≠ 170 → bkPut (bkPut (bkPut S 170 1) (130 + k) 1) (6 + k) v j = S j := fun j w1 w2 w3 => by rw [bkPut_o w1, bkPut_o w2, bkPut_o w3]
      have E1 : bkPut (bkPut (bkPut S 170 1) (130 + k) 1) (6 + k) v (6 + k) = v := bkPut_e
      have E2 : bkPut (bkPut (bkPut S 170 1) (130 + k) 1) (6 + k) v (130 + k) = 1 := by rw [bkPut_o (by omega), bkPut_e]
      have E3 : bkPut (bkPut (bkPut S 170 1) (130 + k) 1) (6 + k) v 170 = 1 := by rw [bkPut_o (by omega), bkPut_o (by omega), bkPut_e]
      generalize bkPut (bkPut (bkPut S 170 1) (130 + k) 1) (6 + k) v = S' at *
      have N : ∀ j, (0 ≤ j ∧ j < 6) ∨ (42 ≤ j ∧ j < 130) ∨ 200 ≤ j → S' j = S j := fun j w => P j (by omega) (by omega) (by omega)
      unfold bkSv
      rw [N 0 (by omega), N 1 (by omega), N 2 (by omega), N 3 (by omega), N 4 (by omega), N 5 (by omega), N 78 (by omega), N 79 (by omega), E3]
      refine ⟨s1, s2, s3, s4, s5, s6, fun j j0 j1 => ?_, fun w => by omega, fun j j0 j1 => ?_, fun f f0 f1 => by rw [N (42 + f) (by omega), N (52 + f) (by omega), N (62 + f) (by omega), N (200 + f) (by omega)]; exact s10 f f0 f1, fun m m0 m1 => by rw [N (72 + m) (by omega), N (75 + m) (by omega), N (210 + m) (by omega)]; exact s11 m m0 m1, s12⟩
      · by_cases w : j = 130 + k
        · rw [w, E2]; omega
        · by_cases w2 : j = 170
          · rw [w2, E3]; omega
          · rw [P j (by omega) w w2]; exact s7 j j0 j1
      · by_cases w : j = k
        · rw [w, E1]; omega
        · rw [P (6 + j) (by omega) (by omega) (by omega)]; exact s9 j j0 j1
theorem bkLk_source {T : Int → Int} {c L i q : Int} {S : Int → Int} (h : i ≤ c) (hS : bkSv S) : bkLk c i (bkLSource T c L S i q) := by
  have hn := @bkTn_b T c L i h
  unfold bkLSource bkLOne
  by_cases z : S 121 = 1
  · rw [if_pos z]; exact bkLk_l
  · rw [if_neg z]
    rcases e : bkNu T c L 0 (S 2 - 1) i with v | v
    · exact bkLk_l
    · have b := bkNu_r e
      refine bkLk_r (by omega) ?_
      obtain ⟨s1, s2, s3, s4, s5, s6, s7, s8, s9, s10, s11, s12⟩ := hS
      have P : ∀ j, j ≠ 4 → j ≠ 121 → j ≠ 170 → bkPut (bkPut (bkPut S 170 1) 121 1) 4 v j = S j := fun j w1 w2 w3 => by rw [bkPut_o w1, bkPut_o w2, bkPut_o w3]
      have E1 : bkPut (bkPut (bkPut S 170 1) 121 1) 4 v 4 = v := bkPut_e
      have E2 : bkPut (bkPut (bkPut S 170 1) 121 1) 4 v 121 = 1 := by rw [bkPut_o (by omega), bkPut_e]
      have E3 : bkPut (bkPut (bkPut S 170 1) 121 1) 4 v 170 = 1 := by rw [bkPut_o (by omega), bkPut_o (by omega), bkPut_e]
      generalize bkPut (bkPut (bkPut S 170 1) 121 1) 4 v = S' at *
      unfold bkSv
      rw [E1, E3, P 0 (by omega) (by omega) (by omega), P 1 (by omega) (by omega) (by omega), P 2 (by omega) (by omega) (by omega), P 3 (by omega) (by omega) (by omega), P 5 (by omega) (by omega) (by omega), P 78 (by omega) (by omega) (by omega), P 79 (by omega) (by omega) (by omega)]
      refine ⟨s1, s2, s3, s4, by omega, s6, fun j j0 j1 => ?_, fun w => by omega, fun k k0 k1 => by rw [P (6 + k) (by omega) (by omega) (by omega)]; exact s9 k k0 k1, fun f f0 f1 => by rw [P (42 + f) (by omega) (by omega) (by omega), P (52 + f) (by omega) (by omega) (by omega), P (62 + f) (by omega) (by omega) (by omega), P (200 + f) (by omega) (by omega) (by omega)]; exact s10 f f0 f1, fun m m0 m1 => by rw [P (72 + m) (by omega) (by omega) (by omega), P (75 + m) (by omega) (by omega) (by omega), P (210 + m) (by omega) (by omega) (by omega)]; exact s11 m m0 m1, s12⟩
      by_cases w : j = 121
      · rw [w, E2]; omega
      · by_cases w2 : j = 170
        · rw [w2, E3]; omega
        · rw [P j (by omega) w w2]; exact s7 j j0 j1
theorem bkLk_one {T : Int → Int} {c L i q o k hi : Int} {S : Int → Int} (h : i ≤ c) (hS : bkSv S) (ho : 120 ≤ o ∧ o < 130) (hk : (k = 5 ∧ hi ≤ 5) ∨ ((k = 78 ∨ k = 79) ∧ hi ≤ 99)) : bkLk c i (bkLOne T c L S i q o k hi S) := by
  have hn := @bkTn_b T c L i h
  unfold bkLOne
  by_cases z : S o = 1
  · rw [if_pos z]; exact bkLk_l
  · rw [if_neg z]
    rcases e : bkNu T c L 0 hi i with v | v
    · exact bkLk_l
    · have b := bkNu_r e
      refine bkLk_r (by omega) ?_
      obtain ⟨s1, s2, s3, s4, s5, s6, s7, s8, s9, s10, s11, s12⟩ := hS
      have P : ∀ j, j ≠ k → j ≠ o → bkPut (bkPut S o 1) k v j = S j := fun j w1 w2 => by rw [bkPut_o w1, bkPut_o w2]
      have E1 : bkPut (bkPut S o 1) k v k = v := bkPut_e
      have E2 : bkPut (bkPut S o 1) k v o = 1 := by rw [bkPut_o (by omega), bkPut_e]
      generalize bkPut (bkPut S o 1) k v = S' at *
      unfold bkSv
      rw [P 0 (by omega) (by omega), P 1 (by omega) (by omega), P 2 (by omega) (by omega), P 3 (by omega) (by omega), P 4 (by omega) (by omega), P 170 (by omega) (by omega)]
      refine ⟨s1, s2, s3, s4, s5, ?_, fun j j0 j1 => ?_, s8, fun k k0 k1 => by rw [P (6 + k) (by omega) (by omega)]; exact s9 k k0 k1, fun f f0 f1 => by rw [P (42 + f) (by omega) (by omega), P (52 + f) (by omega) (by omega), P (62 + f) (by omega) (by omega), P (200 + f) (by omega) (by omega)]; exact s10 f f0 f1, fun m m0 m1 => by rw [P (72 + m) (by omega) (by omega), P (75 + m) (by omega) (by omega), P (210 + m) (by omega) (by omega)]; exact s11 m m0 m1, ?_⟩
      · by_cases w : k = 5
        · rw [← w, E1]; omega
        · rw [P 5 (by omega) (by omega)]; exact s6
      · by_cases w : j = o
        · rw [w, E2]; omega
        · rw [P j (by omega) w]; exact s7 j j0 j1
      · by_cases w : k = 78
        · rw [← w, E1, P 79 (by omega) (by omega)]; omega
        · by_cases w2 : k = 79
          · rw [← w2, E1, P 78 (by omega) (by omega)]; omega
          · rw [P 78 (by omega) (by omega), P 79 (by omega) (by omega)]; exact s12
theorem bkLk_name {T : Int → Int} {c L i : Int} {S : Int → Int} {f : Int → (Int × Int) ⊕ (Int × (Int → Int))} (hf : bkNv (bkTw 32 T c i) → bkLk c i (f (bkTw 32 T c i))) : bkLk c i (bkLName T c L S i f) := by
  unfold bkLName
  by_cases w : bkIsW T c L i (-1) = true
  · rw [if_pos w]
    by_cases w2 : bkKnown S (bkTw 32 T c i) = true
    · rw [if_pos w2]; exact bkLk_l
    · rw [if_neg w2]
      unfold bkIsW at w
      rw [decide_eq_true_eq] at w
      exact hf (bkTk_s w.1)
  · rw [if_neg w]; exact bkLk_l
