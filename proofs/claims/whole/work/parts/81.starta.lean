theorem bkSR_a {S : Int → Int} {j : Int} (h : j < 80) : bkSR S j = S j := by unfold bkSR; rw [if_pos h]
theorem bkSR_c {S : Int → Int} {s : Int} (h : 0 ≤ s ∧ s < 2) : bkSR S (81 + s) = S (78 + s) := by unfold bkSR; rw [if_neg (by omega), if_pos (by omega), show 81 + s - 3 = 78 + s by omega]
theorem bkSR_h {S : Int → Int} {c : Int} (h : 0 ≤ c ∧ c < 36) : bkSR S (85 + c) = S (6 + c) := by unfold bkSR; rw [if_neg (by omega), if_neg (by omega), if_pos (by omega), show 85 + c - 79 = 6 + c by omega]
theorem bkSR_m {S : Int → Int} {m : Int} (h : 0 ≤ m ∧ m < 6) : bkSR S (127 + m) = S (72 + m) := by unfold bkSR; rw [if_neg (by omega), if_neg (by omega), if_neg (by omega), if_pos (by omega), show 127 + m - 55 = 72 + m by omega]
theorem bkSR_z {S : Int → Int} {j : Int} (h : j = 80 ∨ (83 ≤ j ∧ j < 85) ∨ (121 ≤ j ∧ j < 127) ∨ 133 ≤ j) : bkSR S j = 0 := by unfold bkSR; rw [if_neg (by omega), if_neg (by omega), if_neg (by omega), if_neg (by omega)]
theorem bkSR_md {N S : Int → Int} (hS : bkSv S) (v : ∀ j, 0 ≤ j → j < 437 → N j = bkSR S j) : bkMd N := by
  obtain ⟨s1, s2, s3, s4, s5, s6, s7, s8, s9, s10, s11, s12⟩ := hS
  have a : ∀ j, 0 ≤ j → j < 80 → N j = S j := fun j j0 j1 => by rw [v j j0 (by omega), bkSR_a j1]
  have z : ∀ j, j = 80 ∨ (121 ≤ j ∧ j < 127) ∨ (133 ≤ j ∧ j < 437) → N j = 0 := fun j q => by rw [v j (by omega) (by omega), bkSR_z (by omega)]
  unfold bkMd
  rw [a 0 (by omega) (by omega), a 1 (by omega) (by omega), a 2 (by omega) (by omega), a 3 (by omega) (by omega), a 4 (by omega) (by omega), a 5 (by omega) (by omega), z 80 (by omega), z 194 (by omega)]
  refine ⟨s1, s2, s5, s6, s3, s4, by omega, fun c c0 c1 => ?_, fun y y0 y1 => ?_, fun f f0 f1 => ?_, fun m m0 m1 => ?_, fun s q0 q1 => ?_, fun f f0 f1 _ => z _ (by omega), rfl⟩
  · rw [v (85 + c) (by omega) (by omega), bkSR_h (by omega)]; exact s9 c c0 c1
  · rw [z (121 + y) (by omega)]; omega
  · have := s10 f f0 f1
    rw [a (42 + f) (by omega) (by omega), a (52 + f) (by omega) (by omega), a (62 + f) (by omega) (by omega), z (136 + f) (by omega)]
    omega
  · have := s11 m m0 m1
    rw [v (127 + m) (by omega) (by omega), v (130 + m) (by omega) (by omega), bkSR_m (by omega), show (130 : Int) + m = 127 + (3 + m) by omega, bkSR_m (by omega), show (72 : Int) + (3 + m) = 75 + m by omega]
    omega
  · rw [v (81 + s) (by omega) (by omega), bkSR_c (by omega)]
    by_cases e : s = 0
    · rw [e, show (78 : Int) + 0 = 78 from rfl]; omega
    · rw [show s = 1 by omega, show (78 : Int) + 1 = 79 from rfl]; omega
/-- the reference's start of a plain -/
theorem S151c {d : Nat} {M : bk_M} {S : Int → Int} (hS : ∀ j, 0 ≤ j → j < 80 → M 58 0 j = S j) (hv : bkSv S) : bk_C (d + 6) 0 151 [bk_c 12 0] M (fun t r M' => t = 0 ∧ bkFr (fun k a => (k = 58 ∨ k = 69 ∨ k = 70 ∨ k = 71) ∧ a = 0) M M' ∧ (∀ j, 0 ≤ j → j < 437 → ¬ (121 ≤ j ∧ j < 127) → M' 58 0 j = bkSR S j) ∧ (∀ y, 0 ≤ y → y < S 3 → M' 58 0 (121 + y) = bkBd (fun c => S (6 + c)) (S 2) (S 3) (S 4) y) ∧ ∀ c, 0 ≤ c → c < 36 → M' 69 0 c = 0) := by
  refine S151a hS (fun M1 f1 v1 => S152.2 ⟨rfl, ?_⟩)
  generalize e2 : (bkFill M1 69 0 0 36 fun _ => 0) = M2
  have f2 : bkFr (fun k a => k = 69 ∧ a = 0) M1 M2 := fun k a w => by rw [← e2]; exact bkFill_o w
  have i2 : ∀ c, 0 ≤ c → c < 36 → M2 69 0 c = 0 := fun c c0 c1 => by
    rw [← e2]; unfold bkFill; rw [if_pos ⟨rfl, rfl, c0, by omega⟩]
  have r2 : M2 58 0 = M1 58 0 := f2 58 0 (by omega)
  have hN : bkMd (M2 58 0) := by rw [r2]; exact bkSR_md hv v1
  have a : ∀ j, 0 ≤ j → j < 80 → M2 58 0 j = S j := fun j j0 j1 => by rw [r2, v1 j j0 (by omega), bkSR_a j1]
  have g : ∀ c, 0 ≤ c → c < 36 → bkGd M2 c = S (6 + c) := fun c c0 c1 => by
    unfold bkGd
    rw [i2 c c0 c1, r2, v1 (85 + c) (by omega) (by omega), bkSR_h (by omega), Int.add_zero]
  obtain ⟨s1, s2, s3, s4, s5, s6, s7, s8, s9, s10, s11, s12⟩ := hv
  have hg : bkGr (bkGd M2) (M2 58 0 2) (M2 58 0 3) := fun y x y0 y1 x0 x1 => by
    rw [a 2 (by omega) (by omega)] at x1
    rw [a 3 (by omega) (by omega)] at y1
    rw [g _ (by omega) (by omega)]
    have := s9 (6 * y + x) (by omega) (by omega)
    omega
  refine bk_use (S153 hN hg) (fun r M5 hM5 => ⟨rfl, ?_⟩)
  obtain ⟨f5, -, b5⟩ := hM5
  rw [a 2 (by omega) (by omega), a 3 (by omega) (by omega), a 4 (by omega) (by omega)] at b5
  have r5 : M5 58 0 = M1 58 0 := by rw [f5 58 0 (by unfold bkA153; omega), r2]
  have F5 : bkFr (fun k a => (k = 58 ∨ k = 69 ∨ k = 70 ∨ k = 71) ∧ a = 0) M M5 := fun k a' w => by
    rw [f5 k a' (by unfold bkA153; omega), f2 k a' (by omega), f1 k a' (by omega)]
  refine bk_loopS (W := fun k M' => bk_wp (bk_C (d + 5)) P_151 _ 0 147 [bk_c 12 0, bk_i k] [] M') (s := 0) (n := 6) (fun k M' => bkFr (fun k a => (k = 58 ∨ k = 69 ∨ k = 70 ∨ k = 71) ∧ a = 0) M M' ∧ M' 69 0 = M5 69 0 ∧ M' 71 0 = M5 71 0 ∧ (∀ j, ¬ (121 ≤ j ∧ j < 127) → M' 58 0 j = M5 58 0 j) ∧ ∀ y, 0 ≤ y → y < k → M' 58 0 (121 + y) = M5 71 0 y) (by omega) (fun k M' k0 k1 hI nx => ?_) (fun M' hI => ?_) ⟨F5, rfl, rfl, fun _ _ => rfl, fun y _ _ => by omega⟩
  · obtain ⟨j1, j2, j3, j4, j5⟩ := hI
    rw [L_151_147]
    refine ⟨fun w => absurd w (by omega), fun _ => ⟨by unfold bk_r32; omega, by omega, by omega, fun M8 e8 => ⟨by unfold bk_r32; omega, nx M8 ⟨by rw [e8]; exact bkFr_up j1 ⟨.inl rfl, rfl⟩, by rw [e8, bk_up_f (by decide), j2], by rw [e8, bk_up_f (by decide), j3], fun j q => by rw [e8, bk_up_s (by omega), j4 j q], fun y y0 y1 => ?_⟩⟩⟩⟩
    rw [e8, bk_up_w, j3]
    by_cases w : y = k
    · rw [if_pos (by omega), w]
    · rw [if_neg (by omega)]; exact j5 y y0 (by omega)
  · obtain ⟨j1, j2, j3, j4, j5⟩ := hI
    rw [L_151_147]
    refine ⟨fun _ => ⟨rfl, j1, fun j q0 q1 q2 => by rw [j4 j q2, r5]; exact v1 j q0 q1, fun y y0 y1 => ?_, fun c c0 c1 => by rw [j2, f5 69 0 (by unfold bkA153; omega)]; exact i2 c c0 c1⟩, fun w => absurd (by omega) w⟩
    rw [j5 y y0 (by omega), b5 y y0 y1]
    have := bkBd_eq (f := bkGd M2) (g := fun c => S (6 + c)) (W := S 2) (H := S 3) (S := S 4) (by omega) (by omega) (fun y x y0 y1 x0 x1 => g _ (by omega) (by omega)) y.toNat (by omega)
    rwa [Int.toNat_of_nonneg y0] at this
