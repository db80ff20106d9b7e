theorem S32c {d p : Nat} {M : bk_M} {S : Int → Int} (hP : bkRdP M p S) (hS : bkSv S) : bk_C (d + 4) 0 32 [bk_c 8 0, bk_c 5 p] M (fun t r M' => t = 0 ∧ bkFr (fun k a => ((k = 8 ∨ k = 45 ∨ k = 46 ∨ k = 47 ∨ k = 48) ∧ a = 0) ∨ (k = 29 ∧ a = p)) M M' ∧ (∀ j, j ≠ 2 → M' 8 0 j = M 8 0 j) ∧ ∀ y, 0 ≤ y → y < S 3 → M' 29 p y = bkBd (fun c => S (6 + c)) (S 2) (S 3) (S 4) y ∧ 0 ≤ bkBd (fun c => S (6 + c)) (S 2) (S 3) (S 4) y ∧ bkBd (fun c => S (6 + c)) (S 2) (S 3) (S 4) y < S 2) := by
  have pl := bkRdP_pl hP hS
  obtain ⟨⟨p1, p2, p3, p4, p5, p6, p7⟩, P2, -⟩ := hP
  obtain ⟨s1, s2, s3, s4, s5, s6, s7, s8, s9, -⟩ := hS
  rw [E_32, E_33, E_34]
  refine ⟨by omega, fun M1 e1 => ⟨rfl, ?_⟩⟩
  have f1 : ∀ k a, ¬ (k = 45 ∧ a = 0) → M1 k a = M k a := fun k a w => by rw [e1, bk_cpy_o w]
  have g1 : ∀ c, 0 ≤ c → c < 36 → M1 45 0 c = S (6 + c) := fun c c0 c1 => by
    rw [e1, bk_cpy_at, if_pos (by omega), show (0 : Int) + (c - 0) = c by omega]; exact P2 c c0 c1
  have pl1 : bkPl M1 p := by
    unfold bkPl at *
    rw [f1 5 p (by omega), f1 28 p (by omega), f1 29 p (by omega), f1 30 p (by omega), f1 31 p (by omega), f1 32 p (by omega), f1 34 p (by omega), f1 37 p (by omega)]
    exact pl
  have q1 : M1 5 p = M 5 p := f1 5 p (by omega)
  have hg : bkGr (M1 45 0) (M1 5 p 0) (M1 5 p 1) := fun y x y0 y1 x0 x1 => by
    rw [q1, p1] at x1
    rw [q1, p2] at y1
    rw [g1 _ (by omega) (by omega)]
    have := s9 (6 * y + x) (by omega) (by omega)
    omega
  have hgS : bkGr (fun c => S (6 + c)) (S 2) (S 3) := fun y x y0 y1 x0 x1 => by
    have := s9 (6 * y + x) (by omega) (by omega)
    dsimp only
    omega
  refine bk_use (S35 pl1 hg) (fun r M5 hM5 => ⟨rfl, rfl, ?_⟩)
  obtain ⟨f5, o5, -, b5⟩ := hM5
  rw [q1, p1, p2, p3] at b5
  refine ⟨by omega, fun M4 e4 => ⟨rfl, fun k a w => ?_, fun j q => ?_, fun y y0 y1 => ?_⟩⟩
  · rw [e4, bk_cpy_o (by omega), f5 k a (by unfold bkA35; omega), f1 k a (by omega)]
  · rw [e4, bk_cpy_o (by omega), o5 j q, f1 8 0 (by omega)]
  · have hb := bkBd_r (g := fun c => S (6 + c)) (W := S 2) (H := S 3) (S := S 4) hgS (by omega) (by omega) s5 y0 y1
    have := bkBd_eq (f := M1 45 0) (g := fun c => S (6 + c)) (W := S 2) (H := S 3) (S := S 4) (by omega) (by omega) (fun y x y0 y1 x0 x1 => g1 _ (by omega) (by omega)) y.toNat (by omega)
    rw [Int.toNat_of_nonneg y0] at this
    refine ⟨?_, hb.1, hb.2.1⟩
    rw [e4, bk_cpy_at, if_pos (by omega), show (0 : Int) + (y - 0) = y by omega, b5 y y0 y1, this]
