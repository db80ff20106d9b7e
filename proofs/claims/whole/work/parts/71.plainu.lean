theorem bkLk_field {T : Int → Int} {c L i q : Int} {S : Int → Int} (h : i ≤ c) (hS : bkSv S) : bkLk c i (bkLField T c L S i q) := by
  have hn := @bkTn_b T c L i h
  have hn2 := @bkTn_b T c L (bkTn T c L i) hn.2
  have hn3 := @bkTn_b T c L (bkTn T c L (bkTn T c L i)) hn2.2
  have hn4 := @bkTn_b T c L (bkTn T c L (bkTn T c L (bkTn T c L i))) hn3.2
  unfold bkLField
  by_cases z : 10 ≤ S 0
  · rw [if_pos z]; exact bkLk_l
  · rw [if_neg z]
    refine bkLk_name fun hk => bkLk_up (bkLk_cell fun x y x0 x1 y0 y1 => ?_) hn.1
    obtain ⟨s1, s2, s3, s4, s5, s6, s7, s8, s9, s10, s11, s12⟩ := hS
    by_cases z2 : bkTaken S x y (S 0).toNat = true
    · rw [if_pos z2]; exact bkLk_l
    · rw [if_neg z2]
      rcases e : bkNu T c L 1 20 (bkTn T c L (bkTn T c L (bkTn T c L i))) with v | v
      · exact bkLk_l
      · have b := bkNu_r e
        refine bkLk_r (by omega) ?_
        generalize bkTw 32 T c i = k at *
        have P : ∀ j, j ≠ 0 → j ≠ 42 + S 0 → j ≠ 52 + S 0 → j ≠ 62 + S 0 → j ≠ 170 → j ≠ 200 + S 0 → bkPut (bkPut (bkPut (bkPut (bkPut (bkPut S (200 + S 0) k) 170 1) (42 + S 0) x) (52 + S 0) y) (62 + S 0) v) 0 (S 0 + 1) j = S j := fun j q1 q2 q3 q4 q5 q6 => by rw [bkPut_o q1, bkPut_o q4, bkPut_o q3, bkPut_o q2, bkPut_o q5, bkPut_o q6]
        have E0 : bkPut (bkPut (bkPut (bkPut (bkPut (bkPut S (200 + S 0) k) 170 1) (42 + S 0) x) (52 + S 0) y) (62 + S 0) v) 0 (S 0 + 1) 0 = S 0 + 1 := bkPut_e
        have E42 : bkPut (bkPut (bkPut (bkPut (bkPut (bkPut S (200 + S 0) k) 170 1) (42 + S 0) x) (52 + S 0) y) (62 + S 0) v) 0 (S 0 + 1) (42 + S 0) = x := by rw [bkPut_o (by omega), bkPut_o (by omega), bkPut_o (by omega), bkPut_e]
        have E52 : bkPut (bkPut (bkPut (bkPut (bkPut (bkPut S (200 + S 0) k) 170 1) (42 + S 0) x) (52 + S 0) y) (62 + S 0) v) 0 (S 0 + 1) (52 + S 0) = y := by rw [bkPut_o (by omega), bkPut_o (by omega), bkPut_e]
        have E62 : bkPut (bkPut (bkPut (bkPut (bkPut (bkPut S (200 + S 0) k) 170 1) (42 + S 0) x) (52 + S 0) y) (62 + S 0) v) 0 (S 0 + 1) (62 + S 0) = v := by rw [bkPut_o (by omega), bkPut_e]
        have E170 : bkPut (bkPut (bkPut (bkPut (bkPut (bkPut S (200 + S 0) k) 170 1) (42 + S 0) x) (52 + S 0) y) (62 + S 0) v) 0 (S 0 + 1) 170 = 1 := by rw [bkPut_o (by omega), bkPut_o (by omega), bkPut_o (by omega), bkPut_o (by omega), bkPut_e]
        have E200 : bkPut (bkPut (bkPut (bkPut (bkPut (bkPut S (200 + S 0) k) 170 1) (42 + S 0) x) (52 + S 0) y) (62 + S 0) v) 0 (S 0 + 1) (200 + S 0) = k := by rw [bkPut_o (by omega), bkPut_o (by omega), bkPut_o (by omega), bkPut_o (by omega), bkPut_o (by omega), bkPut_e]
        generalize bkPut (bkPut (bkPut (bkPut (bkPut (bkPut S (200 + S 0) k) 170 1) (42 + S 0) x) (52 + S 0) y) (62 + S 0) v) 0 (S 0 + 1) = S' at *
        have N : ∀ j, (0 ≤ j ∧ j < 42 ∧ j ≠ 0) ∨ (72 ≤ j ∧ j < 170) ∨ 210 ≤ j → S' j = S j := fun j q => P j (by omega) (by omega) (by omega) (by omega) (by omega) (by omega)
        unfold bkSv
        rw [E0, N 1 (by omega), N 2 (by omega), N 3 (by omega), N 4 (by omega), N 5 (by omega), N 78 (by omega), N 79 (by omega), E170]
        refine ⟨s1, s2, by omega, s4, s5, s6, fun j j0 j1 => ?_, fun w => by omega, fun j j0 j1 => by rw [N (6 + j) (by omega)]; exact s9 j j0 j1, fun f f0 f1 => ?_, fun m m0 m1 => by rw [N (72 + m) (by omega), N (75 + m) (by omega), N (210 + m) (by omega)]; exact s11 m m0 m1, s12⟩
        · by_cases w : j = 170
          · rw [w, E170]; omega
          · rw [N j (by omega)]; exact s7 j j0 j1
        · by_cases w : f = S 0
          · rw [w, E42, E52, E62, E200]; exact ⟨x0, x1, y0, y1, by omega, by omega, hk⟩
          · rw [P (42 + f) (by omega) (by omega) (by omega) (by omega) (by omega) (by omega), P (52 + f) (by omega) (by omega) (by omega) (by omega) (by omega) (by omega), P (62 + f) (by omega) (by omega) (by omega) (by omega) (by omega) (by omega), P (200 + f) (by omega) (by omega) (by omega) (by omega) (by omega) (by omega)]
            exact s10 f f0 (by omega)
theorem bkLk_mill {T : Int → Int} {c L i q : Int} {S : Int → Int} (h : i ≤ c) (hS : bkSv S) : bkLk c i (bkLMill T c L S i q) := by
  have hn := @bkTn_b T c L i h
  have hn2 := @bkTn_b T c L (bkTn T c L i) hn.2
  have hn3 := @bkTn_b T c L (bkTn T c L (bkTn T c L i)) hn2.2
  unfold bkLMill
  by_cases z : 3 ≤ S 1
  · rw [if_pos z]; exact bkLk_l
  · rw [if_neg z]
    refine bkLk_name fun hk => bkLk_up (bkLk_cell fun x y x0 x1 y0 y1 => ?_) hn.1
    obtain ⟨s1, s2, s3, s4, s5, s6, s7, s8, s9, s10, s11, s12⟩ := hS
    refine bkLk_r (by omega) ?_
    generalize bkTw 32 T c i = k at *
    have P : ∀ j, j ≠ 1 → j ≠ 72 + S 1 → j ≠ 75 + S 1 → j ≠ 170 → j ≠ 210 + S 1 → bkPut (bkPut (bkPut (bkPut (bkPut S (210 + S 1) k) 170 1) (72 + S 1) x) (75 + S 1) y) 1 (S 1 + 1) j = S j := fun j q1 q2 q3 q5 q6 => by rw [bkPut_o q1, bkPut_o q3, bkPut_o q2, bkPut_o q5, bkPut_o q6]
    have E1 : bkPut (bkPut (bkPut (bkPut (bkPut S (210 + S 1) k) 170 1) (72 + S 1) x) (75 + S 1) y) 1 (S 1 + 1) 1 = S 1 + 1 := bkPut_e
    have E72 : bkPut (bkPut (bkPut (bkPut (bkPut S (210 + S 1) k) 170 1) (72 + S 1) x) (75 + S 1) y) 1 (S 1 + 1) (72 + S 1) = x := by rw [bkPut_o (by omega), bkPut_o (by omega), bkPut_e]
    have E75 : bkPut (bkPut (bkPut (bkPut (bkPut S (210 + S 1) k) 170 1) (72 + S 1) x) (75 + S 1) y) 1 (S 1 + 1) (75 + S 1) = y := by rw [bkPut_o (by omega), bkPut_e]
    have E170 : bkPut (bkPut (bkPut (bkPut (bkPut S (210 + S 1) k) 170 1) (72 + S 1) x) (75 + S 1) y) 1 (S 1 + 1) 170 = 1 := by rw [bkPut_o (by omega), bkPut_o (by omega), bkPut_o (by omega), bkPut_e]
    have E210 : bkPut (bkPut (bkPut (bkPut (bkPut S (210 + S 1) k) 170 1) (72 + S 1) x) (75 + S 1) y) 1 (S 1 + 1) (210 + S 1) = k := by rw [bkPut_o (by omega), bkPut_o (by omega), bkPut_o (by omega), bkPut_o (by omega), bkPut_e]
    generalize bkPut (bkPut (bkPut (bkPut (bkPut S (210 + S 1) k) 170 1) (72 + S 1) x) (75 + S 1) y) 1 (S 1 + 1) = S' at *
    have N : ∀ j, (0 ≤ j ∧ j < 72 ∧ j ≠ 1) ∨ (78 ≤ j ∧ j < 170) ∨ (200 ≤ j ∧ j < 210) → S' j = S j := fun j q => P j (by omega) (by omega) (by omega) (by omega) (by omega)
    unfold bkSv
    rw [E1, N 0 (by omega), N 2 (by omega), N 3 (by omega), N 4 (by omega), N 5 (by omega), N 78 (by omega), N 79 (by omega), E170]
    refine ⟨s1, s2, s3, by omega, s5, s6, fun j j0 j1 => ?_, fun w => by omega, fun j j0 j1 => by rw [N (6 + j) (by omega)]; exact s9 j j0 j1, fun f f0 f1 => by rw [N (42 + f) (by omega), N (52 + f) (by omega), N (62 + f) (by omega), N (200 + f) (by omega)]; exact s10 f f0 f1, fun m m0 m1 => ?_, s12⟩
    · by_cases w : j = 170
      · rw [w, E170]; omega
      · rw [N j (by omega)]; exact s7 j j0 j1
    · by_cases w : m = S 1
      · rw [w, E72, E75, E210]; exact ⟨x0, x1, y0, y1, hk⟩
      · rw [P (72 + m) (by omega) (by omega) (by omega) (by omega) (by omega), P (75 + m) (by omega) (by omega) (by omega) (by omega) (by omega), P (210 + m) (by omega) (by omega) (by omega) (by omega) (by omega)]
        exact s11 m m0 (by omega)
theorem bkIsW_n {T : Int → Int} {c L i w : Int} (h : i ≤ c) (hw : bkIsW T c L i w = true) : i < bkTn T c L i := by
  unfold bkIsW at hw
  rw [decide_eq_true_eq] at hw
  exact bkTn_lt h (by omega) (by omega)
/-- a line goes on, and keeps what holds -/
theorem bkLk_line {T : Int → Int} {c L i : Int} {S : Int → Int} (h : i ≤ c) (hS : bkSv S) : bkLk c (i + 1) (bkLine T c L S i) := by
  have hn := @bkTn_b T c L i h
  unfold bkLine
  by_cases z : bkIsW T c L i 0 = true
  · rw [if_pos z]; exact bkLk_up (bkLk_size hn.2 hS) (bkIsW_n h z)
  rw [if_neg z]
  by_cases z : bkIsW T c L i 1 = true
  · rw [if_pos z]; exact bkLk_up (bkLk_land hn.2 hS) (bkIsW_n h z)
  rw [if_neg z]
  by_cases z : bkIsW T c L i 2 = true
  · rw [if_pos z]; exact bkLk_up (bkLk_source hn.2 hS) (bkIsW_n h z)
  rw [if_neg z]
  by_cases z : bkIsW T c L i 3 = true
  · rw [if_pos z]; exact bkLk_up (bkLk_field hn.2 hS) (bkIsW_n h z)
  rw [if_neg z]
  by_cases z : bkIsW T c L i 4 = true
  · rw [if_pos z]; exact bkLk_up (bkLk_mill hn.2 hS) (bkIsW_n h z)
  rw [if_neg z]
  by_cases z : bkIsW T c L i 5 = true
  · rw [if_pos z]
    have hn2 := @bkTn_b T c L (bkTn T c L i) hn.2
    refine bkLk_up ?_ (bkIsW_n h z)
    unfold bkLPurse
    by_cases w : bkIsW T c L (bkTn T c L i) 6 = true
    · rw [if_pos w]; exact bkLk_up (bkLk_one hn2.2 hS (by omega) (by omega)) hn2.1
    · rw [if_neg w]
      by_cases w : bkIsW T c L (bkTn T c L i) 7 = true
      · rw [if_pos w]; exact bkLk_up (bkLk_one hn2.2 hS (by omega) (by omega)) hn2.1
      · rw [if_neg w]; exact bkLk_l
  rw [if_neg z]
  by_cases z : bkIsW T c L i 8 = true
  · rw [if_pos z]; unfold bkLIce; exact bkLk_up (bkLk_one hn.2 hS (by omega) (by omega)) (bkIsW_n h z)
  rw [if_neg z]; exact bkLk_l
/-- the whole text: what is wrong and where, or how many lines and what they say -/
def bkTx (T : Int → Int) (c L : Int) : Nat → Int → (Int → Int) → Int → (Int × Int) ⊕ (Int × (Int → Int))
  | 0, _, _, _ => .inl (0, 0)
  | k + 1, n, S, i => if bkTk T c L i = 0 then .inr (n, S) else match bkLine T c L S i with
    | .inl e => .inl e
    | .inr (j, S') => if bkTk T c L j = 59 then bkTx T c L k (n + 1) S' (bkTn T c L j) else .inl (1, bkTf T c L j)
def bkS0 : Int → Int := fun j => if j = 2 then 5 else if j = 3 then 5 else if j = 5 then 2 else if 6 ≤ j ∧ j < 42 then 5 else if j = 78 then 9 else if j = 79 then 9 else 0
theorem bkS0_v : bkSv bkS0 := by
  have z : ∀ j, j ≠ 2 → j ≠ 3 → j ≠ 5 → ¬ (6 ≤ j ∧ j < 42) → j ≠ 78 → j ≠ 79 → bkS0 j = 0 := fun j q1 q2 q3 q4 q5 q6 => by
    unfold bkS0; rw [if_neg q1, if_neg q2, if_neg q3, if_neg q4, if_neg q5, if_neg q6]
  have h : ∀ k, 0 ≤ k → k < 36 → bkS0 (6 + k) = 5 := fun k k0 k1 => by
    unfold bkS0; rw [if_neg (by omega), if_neg (by omega), if_neg (by omega), if_pos (by omega)]
  unfold bkSv
  rw [show bkS0 2 = 5 from rfl, show bkS0 3 = 5 from rfl, show bkS0 5 = 2 from rfl, show bkS0 78 = 9 from rfl, show bkS0 79 = 9 from rfl, z 0 (by omega) (by omega) (by omega) (by omega) (by omega) (by omega), z 1 (by omega) (by omega) (by omega) (by omega) (by omega) (by omega), z 4 (by omega) (by omega) (by omega) (by omega) (by omega) (by omega)]
  exact ⟨by omega, by omega, by omega, by omega, by omega, by omega, fun k k0 k1 => .inl (z k (by omega) (by omega) (by omega) (by omega) (by omega) (by omega)), fun _ => ⟨rfl, rfl, rfl⟩, fun k k0 k1 => by rw [h k k0 k1]; omega, fun f f0 f1 => by omega, fun m m0 m1 => by omega, by omega⟩
