/-! The class's start of a plain. -/
theorem bkRdP_pl {M : bk_M} {p : Nat} {S : Int → Int} (hP : bkRdP M p S) (hS : bkSv S) : bkPl M p := by
  obtain ⟨⟨p1, p2, p3, p4, p5, p6, p7⟩, P2, P3, ⟨P41, P42, P43, P44⟩, P5, P6⟩ := hP
  obtain ⟨s1, s2, s3, s4, s5, s6, s7, s8, s9, s10, s11, s12⟩ := hS
  unfold bkPl
  rw [p1, p2, p3, p4, p5, p6, p7]
  refine ⟨s1, s2, s5, s6, s3, s4, by omega, fun c c0 c1 => by rw [P2 c c0 c1]; exact s9 c c0 c1, fun y y0 y1 => by rw [P3 y y0 (by omega)]; omega, fun f f0 f1 => ?_, fun m m0 m1 => ?_, fun s q0 q1 => ?_⟩
  · have a := P5 f f0 f1
    have b := s10 f f0 f1
    rw [a.1, a.2.1, a.2.2.1]
    omega
  · have a := P6 m m0 m1
    have b := s11 m m0 m1
    rw [a.1]
    omega
  · by_cases e : s = 0
    · rw [e, P41]; omega
    · rw [show s = 1 by omega, P42]; omega
/-- a plain just read, its beds told, is its row -/
theorem bkRdP_rel {M : bk_M} {p : Nat} {N S B : Int → Int} (hP : bkRdP M p S) (hS : bkSv S) {M' : bk_M} (f : ∀ k, k ≠ 29 → k = 5 ∨ (28 ≤ k ∧ k ≤ 39) → M' k p = M k p) (hB : ∀ y, 0 ≤ y → y < S 3 → M' 29 p y = B y ∧ 0 ≤ B y ∧ B y < S 2) (hN : ∀ j, 0 ≤ j → j < 437 → ¬ (121 ≤ j ∧ j < 127) → N j = bkSR S j) (hNB : ∀ y, 0 ≤ y → y < S 3 → N (121 + y) = B y) : bkRel M' p N := by
  have pl := bkRdP_pl hP hS
  obtain ⟨⟨p1, p2, p3, p4, p5, p6, p7⟩, P2, P3, ⟨P41, P42, P43, P44⟩, P5, P6⟩ := hP
  obtain ⟨s1, s2, s3, s4, s5, s6, s7, s8, s9, s10, s11, s12⟩ := hS
  have a : ∀ j, 0 ≤ j → j < 80 → N j = S j := fun j j0 j1 => by rw [hN j j0 (by omega) (by omega), bkSR_a j1]
  have z : ∀ j, j = 80 ∨ (83 ≤ j ∧ j < 85) ∨ (133 ≤ j ∧ j < 437) → N j = 0 := fun j q => by rw [hN j (by omega) (by omega) (by omega), bkSR_z (by omega)]
  unfold bkRel
  refine ⟨?_, ⟨?_, ?_, ?_, ?_, ?_, ?_, ?_⟩, ?_, ?_, ?_, ?_, ?_, ?_, ?_, ?_⟩
  · unfold bkPl at *
    rw [f 5 (by decide) (by omega), f 28 (by decide) (by omega), f 30 (by decide) (by omega), f 31 (by decide) (by omega), f 32 (by decide) (by omega), f 34 (by decide) (by omega), f 37 (by decide) (by omega)]
    obtain ⟨l1, l2, l3, l4, l5, l6, l7, l8, l9, l10⟩ := pl
    exact ⟨l1, l2, l3, l4, l5, l6, l7, l8, fun y y0 y1 => by rw [p2] at y1; have := hB y y0 y1; rw [this.1, p1]; omega, l10⟩
  · rw [f 5 (by decide) (by omega), p5, a 0 (by omega) (by omega)]
  · rw [f 5 (by decide) (by omega), p6, a 1 (by omega) (by omega)]
  · rw [f 5 (by decide) (by omega), p1, a 2 (by omega) (by omega)]
  · rw [f 5 (by decide) (by omega), p2, a 3 (by omega) (by omega)]
  · rw [f 5 (by decide) (by omega), p3, a 4 (by omega) (by omega)]
  · rw [f 5 (by decide) (by omega), p4, a 5 (by omega) (by omega)]
  · rw [f 5 (by decide) (by omega), p5]
    intro g g0 g1
    have q := P5 g g0 g1
    have b := s10 g g0 g1
    rw [f 30 (by decide) (by omega), f 31 (by decide) (by omega), a (52 + g) (by omega) (by omega), a (42 + g) (by omega) (by omega), a (62 + g) (by omega) (by omega)]
    exact ⟨q.1, q.2.1, by omega, by omega, by omega⟩
  · rw [f 5 (by decide) (by omega), p7, z 80 (by omega)]
  · intro s q0 q1
    rw [f 37 (by decide) (by omega), f 38 (by decide) (by omega), hN (81 + s) (by omega) (by omega) (by omega), bkSR_c (by omega), z (83 + s) (by omega)]
    by_cases e : s = 0
    · rw [e]; exact ⟨P41, P43⟩
    · rw [show s = 1 by omega]; exact ⟨P42, P44⟩
  · intro c c0 c1
    rw [f 28 (by decide) (by omega), hN (85 + c) (by omega) (by omega) (by omega), bkSR_h (by omega)]; exact P2 c c0 c1
  · rw [f 5 (by decide) (by omega), p2]
    intro y y0 y1
    rw [hNB y y0 y1]; exact (hB y y0 y1).1
  · rw [f 5 (by decide) (by omega), p6]
    intro m m0 m1
    have q := P6 m m0 m1
    have b := s11 m m0 m1
    rw [f 34 (by decide) (by omega), f 35 (by decide) (by omega), hN (127 + m) (by omega) (by omega) (by omega), hN (130 + m) (by omega) (by omega) (by omega), bkSR_m (by omega), show (130 : Int) + m = 127 + (3 + m) by omega, bkSR_m (by omega), show (72 : Int) + (3 + m) = 75 + m by omega, z (133 + m) (by omega)]
    exact ⟨q.1, by omega, by omega, by omega, q.2.1⟩
  · rw [f 5 (by decide) (by omega), p5, f 32 (by decide) (by omega)]
    intro g g0 g1
    rw [z (136 + g) (by omega)]
    by_cases w : g < S 0
    · rw [if_pos w, (P5 g g0 w).2.2.1]
    · rw [if_neg w]
  · rw [f 5 (by decide) (by omega), p7, z 194 (by omega)]; rfl
  · rw [f 5 (by decide) (by omega), p7]
    intro k y k0 k1 k2
    omega
