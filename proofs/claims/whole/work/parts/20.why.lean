/-! Why a side may not work, and a mill not roll. -/
def bkWhyW (N : Int → Int) (w s x y : Int) : Int := if N (81 + s) = 0 then 1 else if bkSide x (N (121 + y)) = 1 - s then 2 else if N (85 + 6 * y + x) = (if w = 0 then 0 else 9) then 3 else 0
theorem S56 {d p : Nat} {Q : bk_Q} {w s x y : Int} {M : bk_M} (h : bkNow M p) (hw : w = 0 ∨ w = 1) (hs : 0 ≤ s ∧ s ≤ 1) (hx : 0 ≤ x ∧ x < M 58 0 2) (hy : 0 ≤ y ∧ y < M 58 0 3) : bk_C (d + 2) 0 56 [bk_c 5 p, bk_i s, bk_i (6 * y + x), bk_i (if w = 0 then -1 else 1)] M Q ↔ Q 0 (bkWhyW (M 58 0) w s x y) M := by
  refine bk_det (fun Q hQ => ?_) Q
  obtain ⟨n1, n2, n3, n4, n5, n6, n7, n8, n9, n10, n11, n12, -⟩ := bkNow_md h
  obtain ⟨hp, hP, ⟨b1, b2, b3, b4, -⟩, ⟨c1, c2, c3, c4, -⟩⟩ := bkNow_e h
  have e01 : ¬ (1 : Int) = 0 := by decide
  have q1 := (c2 s hs.1 (by omega)).1
  have q2 := c3 (6 * y + x) (by omega) (by omega)
  have q3 := n8 (6 * y + x) (by omega) (by omega)
  have q4 := n12 s hs.1 (by omega)
  rw [← Int.add_assoc] at q2 q3
  unfold bkWhyW at hQ
  rw [E_56, S41 (.inl rfl) (by omega) (by omega), bkBank_side (by omega) (by omega), c4 y (by omega) (by omega), q1, q2]
  unfold bk_r32
  generalize M 58 0 (85 + 6 * y + x) = v at *
  generalize bkSide x (M 58 0 (121 + y)) = b at *
  refine ⟨by omega, fun z => ⟨rfl, by omega, fun z2 => ⟨by omega, ?_, fun z3 => ?_, fun z3 => ⟨fun z4 => ?_, fun z4 => ?_⟩⟩, fun z2 => ?_⟩, fun z => ?_⟩
  · split <;> omega
  · rw [if_neg (by omega), if_neg z2] at hQ
    rcases hw with rfl | rfl
    · rw [if_pos rfl] at z3 hQ
      rwa [if_pos (by omega)] at hQ
    · rw [if_neg e01] at z3
      omega
  · rw [if_neg (by omega), if_neg z2] at hQ
    rcases hw with rfl | rfl
    · rw [if_pos rfl] at z3 z4 hQ
      rwa [if_neg (by omega)] at hQ
    · rw [if_neg e01] at z3 z4 hQ
      rwa [if_neg (by omega)] at hQ
  · rw [if_neg (by omega), if_neg z2] at hQ
    rcases hw with rfl | rfl
    · rw [if_pos rfl] at z3 z4 hQ
      omega
    · rw [if_neg e01] at z3 z4 hQ
      rwa [if_pos (by omega)] at hQ
  · rwa [if_neg (by omega), if_pos (by omega)] at hQ
  · rwa [if_pos (by omega)] at hQ
theorem S212 {d : Nat} {Q : bk_Q} {w s x y : Int} {M : bk_M} (h : bkMd (M 58 0)) (hs : 0 ≤ s ∧ s ≤ 1) (hx : 0 ≤ x ∧ x < M 58 0 2) (hy : 0 ≤ y ∧ y < M 58 0 3) : bk_C (d + 3) 0 212 [bk_c 12 0, bk_i w, bk_i s, bk_i x, bk_i y] M Q ↔ Q 0 (if bkSide x (M 58 0 (121 + y)) = 1 - s then 0 else if M 58 0 (85 + 6 * y + x) = (if w = 0 then 0 else 9) then 0 else 1) M := by
  refine bk_det (fun Q hQ => ?_) Q
  obtain ⟨n1, n2, -⟩ := h
  rw [E_212, S195 (by omega) (by omega)]
  unfold bk_r32
  refine ⟨rfl, by omega, fun z => ⟨.inl rfl, ?_⟩, fun z => ⟨by omega, by omega, by omega, by omega, fun z2 => ⟨fun z3 => ⟨.inl rfl, ?_⟩, fun z3 => ⟨.inr rfl, ?_⟩⟩, fun z2 => ⟨fun z3 => ⟨.inl rfl, ?_⟩, fun z3 => ⟨.inr rfl, ?_⟩⟩⟩⟩
  · rwa [if_pos z] at hQ
  · rwa [if_neg z, if_neg z2, if_pos z3] at hQ
  · rwa [if_neg z, if_neg z2, if_neg z3] at hQ
  · rwa [if_neg z, if_pos (Decidable.not_not.1 z2), if_pos z3] at hQ
  · rwa [if_neg z, if_pos (Decidable.not_not.1 z2), if_neg z3] at hQ
theorem S210w {d : Nat} {Q : bk_Q} {w s x y : Int} {M : bk_M} (h : bkMd (M 58 0)) (hw : w = 0 ∨ w = 1) (hs : 0 ≤ s ∧ s ≤ 1) (hx : 0 ≤ x ∧ x < M 58 0 2) (hy : 0 ≤ y ∧ y < M 58 0 3) : bk_C (d + 4) 0 210 [bk_c 12 0, bk_i w, bk_i s, bk_i x, bk_i y] M Q ↔ Q 0 (bkWhyW (M 58 0) w s x y) M := by
  refine bk_det (fun Q hQ => ?_) Q
  obtain ⟨n1, n2, -⟩ := id h
  unfold bkWhyW at hQ
  rw [E_210, S195 (by omega) (by omega), S212 h hs hx hy]
  unfold bk_r32
  refine ⟨fun _ => ⟨by omega, by omega, fun z => ⟨rfl, by omega, fun z2 => ⟨rfl, fun z3 => ?_, fun z3 => ?_⟩, fun z2 => ?_⟩, fun z => ?_⟩, fun z => absurd z (by omega)⟩
  · rw [if_neg z, if_neg z2] at hQ
    rw [if_neg z2] at z3
    by_cases z4 : M 58 0 (85 + 6 * y + x) = (if w = 0 then 0 else 9)
    · rwa [if_pos z4] at hQ
    · rw [if_neg z4] at z3; omega
  · rw [if_neg z, if_neg z2] at hQ
    rw [if_neg z2] at z3
    by_cases z4 : M 58 0 (85 + 6 * y + x) = (if w = 0 then 0 else 9)
    · rw [if_pos z4] at z3; omega
    · rwa [if_neg z4] at hQ
  · rwa [if_neg z, if_pos (Decidable.not_not.1 z2)] at hQ
  · rwa [if_pos (Decidable.not_not.1 z)] at hQ
def bkAbs (a : Int) : Int := if 0 ≤ a then a else -a
def bkWhyR (N : Int → Int) (m x y : Int) : Int := if bkAbs (N (127 + m) - x) + bkAbs (N (130 + m) - y) = 1 then (if bkSide (N (127 + m)) (N (121 + N (130 + m))) = 2 then 2 else 0) else 1
theorem S211 {d : Nat} {Q : bk_Q} {a : Int} {M : bk_M} (h : -2147483647 ≤ a) : bk_C (d + 1) 0 211 [bk_i a] M Q ↔ Q 0 (bkAbs a) M := by
  refine bk_det (fun Q hQ => ?_) Q
  unfold bkAbs at hQ
  rw [E_211]
  unfold bk_r32
  refine ⟨fun z => ?_, fun z => ⟨by omega, ?_⟩⟩
  · rwa [if_pos z] at hQ
  · rwa [if_neg z] at hQ
theorem bkAbs_n (a : Int) : (if a < 0 then -a else a) = bkAbs a := by
  unfold bkAbs
  by_cases z : a < 0
  · rw [if_pos z, if_neg (by omega)]
  · rw [if_neg z, if_pos (by omega)]
theorem bkAbs_b {a c : Int} (h : -c ≤ a) (h2 : a ≤ c) : 0 ≤ bkAbs a ∧ bkAbs a ≤ c := by
  unfold bkAbs
  split <;> omega
theorem S62 {d p : Nat} {Q : bk_Q} {m x y : Int} {M : bk_M} (h : bkNow M p) (hm : 0 ≤ m ∧ m < M 58 0 1) (hx : 0 ≤ x ∧ x < M 58 0 2) (hy : 0 ≤ y ∧ y < M 58 0 3) : bk_C (d + 2) 0 62 [bk_c 5 p, bk_i m, bk_i (6 * y + x)] M Q ↔ Q 0 (bkWhyR (M 58 0) m x y) M := by
  refine bk_det (fun Q hQ => ?_) Q
  obtain ⟨n1, n2, n3, n4, n5, n6, n7, n8, n9, n10, n11, -⟩ := bkNow_md h
  obtain ⟨hp, hP, ⟨b1, b2, b3, b4, -⟩, ⟨-, -, -, c4, c5, -⟩⟩ := bkNow_e h
  have q1 := c5 m hm.1 (by omega)
  have q2 := n11 m hm.1 hm.2
  have q3 := c4 (M 58 0 (130 + m)) (by omega) (by omega)
  rw [E_62, S41 (.inl rfl) (by omega) (by omega), q1.1, bkBank_side (by omega) (by omega), q3]
  rw [show (6 * M 58 0 (130 + m) + M 58 0 (127 + m)) % 6 = M 58 0 (127 + m) by omega, show (6 * M 58 0 (130 + m) + M 58 0 (127 + m)) / 6 = M 58 0 (130 + m) by omega]
  rw [show (6 * y + x) % 6 = x by omega, show (6 * y + x) / 6 = y by omega, bkAbs_n, bkAbs_n]
  unfold bkWhyR at hQ
  have a1 := bkAbs_b (a := M 58 0 (127 + m) - x) (c := 6) (by omega) (by omega)
  have a2 := bkAbs_b (a := M 58 0 (130 + m) - y) (c := 6) (by omega) (by omega)
  generalize bkAbs (M 58 0 (127 + m) - x) = u at *
  generalize bkAbs (M 58 0 (130 + m) - y) = v at *
  unfold bk_r32
  refine ⟨by omega, by omega, by omega, by omega, by omega, by omega, by omega, by omega, by omega, by omega, by omega, fun z => ⟨by omega, rfl, fun z2 => ?_, fun z2 => ?_⟩, fun z => ?_⟩
  · rwa [if_pos z, if_neg z2] at hQ
  · rwa [if_pos z, if_pos (Decidable.not_not.1 z2)] at hQ
  · rwa [if_neg z] at hQ
theorem S210r {d : Nat} {Q : bk_Q} {m x y : Int} {M : bk_M} (h : bkMd (M 58 0)) (hm : 0 ≤ m ∧ m < M 58 0 1) (hx : 0 ≤ x ∧ x < M 58 0 2) (hy : 0 ≤ y ∧ y < M 58 0 3) : bk_C (d + 4) 0 210 [bk_c 12 0, bk_i 4, bk_i m, bk_i x, bk_i y] M Q ↔ Q 0 (bkWhyR (M 58 0) m x y) M := by
  refine bk_det (fun Q hQ => ?_) Q
  obtain ⟨n1, n2, n3, n4, n5, n6, n7, n8, n9, n10, n11, -⟩ := id h
  have q2 := n11 m hm.1 hm.2
  rw [E_210, S211 (by omega), S211 (by omega), S195 (x := M 58 0 (127 + m)) (y := M 58 0 (130 + m)) (by omega) (by omega)]
  unfold bkWhyR at hQ
  have a1 := bkAbs_b (a := M 58 0 (127 + m) - x) (c := 6) (by omega) (by omega)
  have a2 := bkAbs_b (a := M 58 0 (130 + m) - y) (c := 6) (by omega) (by omega)
  generalize bkAbs (M 58 0 (127 + m) - x) = u at *
  generalize bkAbs (M 58 0 (130 + m) - y) = v at *
  unfold bk_r32
  refine ⟨fun z => absurd rfl z, fun _ => ⟨by omega, by omega, by omega, rfl, by omega, by omega, by omega, rfl, by omega, fun z => ⟨by omega, by omega, by omega, by omega, rfl, fun z2 => ?_, fun z2 => ?_⟩, fun z => ?_⟩⟩
  · rwa [if_pos z, if_neg z2] at hQ
  · rwa [if_pos z, if_pos (Decidable.not_not.1 z2)] at hQ
  · rwa [if_neg z] at hQ
