theorem bkSum_s (g : Int → Int) {k : Int} (h : 0 ≤ k) : bkSum g (k + 1).toNat = bkSum g k.toNat + g k := by
  rw [show (k + 1).toNat = k.toNat + 1 by omega, bkSum, Int.toNat_of_nonneg h]
/-- a loop that counts from 0 to n -/
theorem bk_for {W : Int → Prop} {n : Int} (hn : 0 ≤ n) (hs : ∀ k, 0 ≤ k → k < n → W (k + 1) → W k) (he : W n) : W 0 := by
  have key : ∀ (j : Nat), ∀ k : Int, 0 ≤ k → k + j = n → W k := by
    intro j
    induction j with
    | zero => intro k _ e; rw [show k = n by omega]; exact he
    | succ j ih => intro k h0 e; exact hs k h0 (by omega) (ih (k + 1) (by omega) (by omega))
  exact key n.toNat 0 (by omega) (by omega)
/-- a loop that adds g -/
theorem bk_forS {W : Int → Int → Prop} {g : Int → Int} {c n : Int} (hn : 0 ≤ n) (hb : ∀ k, 0 ≤ k → k < n → 0 ≤ g k ∧ g k ≤ c) (hs : ∀ k acc, 0 ≤ k → k < n → 0 ≤ acc → acc ≤ k * c → W (acc + g k) (k + 1) → W acc k) (he : W (bkSum g n.toNat) n) : W 0 0 := by
  refine bk_for (W := fun k => W (bkSum g k.toNat) k) hn (fun k h0 h1 h => ?_) he
  have h2 := bkSum_le (g := g) (c := c) (n := k.toNat) (fun q hq => hb q (by omega) (by omega))
  rw [Int.toNat_of_nonneg h0] at h2
  refine hs k _ h0 h1 h2.1 h2.2 ?_
  rw [← bkSum_s g h0]
  exact h
theorem S51 {d i : Nat} {Q : bk_Q} {M : bk_M} (hP : bkPl M i) : bk_C (d + 1) 0 51 [bk_c 5 i] M Q ↔ Q 0 (bkSum (fun y => M 28 i (6 * y + M 29 i y)) (M 5 i 1).toNat) M := by
  obtain ⟨h1, h2, -, -, -, -, -, h3, h4, -⟩ := hP
  refine bk_det (fun Q hQ => ?_) Q
  rw [E_51]
  refine bk_forS (W := fun x y => bk_wp (bk_C d) P_51 Q 0 4 [bk_c 5 i, bk_i x, bk_i y] [] M) (g := fun y => M 28 i (6 * y + M 29 i y)) (c := 9) (n := M 5 i 1) (by omega) (fun k h0 h1 => ?_) (fun k acc h0 h1 p2 p3 h => ?_) ?_
  · have := h4 k h0 h1; exact h3 _ (by omega) (by omega)
  · have q1 := h4 k h0 h1
    have q2 := h3 (6 * k + M 29 i k) (by omega) (by omega)
    rw [L_51_4]
    grind [bk_r32]
  · rw [L_51_4]; exact ⟨fun _ => hQ, fun q => absurd (Int.le_refl _) q⟩
theorem S52 {d i : Nat} {Q : bk_Q} {M : bk_M} (hP : bkPl M i) : bk_C (d + 1) 0 52 [bk_c 5 i] M Q ↔ Q 0 (bkSum (fun y => if M 29 i (y + 1) = M 29 i y then 0 else 1) (M 5 i 1 - 1).toNat) M := by
  obtain ⟨h1, h2, -, -, -, -, -, h3, h4, -⟩ := hP
  refine bk_det (fun Q hQ => ?_) Q
  rw [E_52]
  refine bk_forS (W := fun x y => bk_wp (bk_C d) P_52 Q 0 4 [bk_c 5 i, bk_i x, bk_i (y + 1)] [] M) (g := fun y => if M 29 i (y + 1) = M 29 i y then 0 else 1) (c := 1) (n := M 5 i 1 - 1) (by omega) (fun k h0 h1 => ?_) (fun k acc h0 h1 h2 h3 h => ?_) ?_
  · by_cases q : M 29 i (k + 1) = M 29 i k <;> simp [q]
  · rw [L_52_4]
    grind [bk_r32]
  · rw [L_52_4]; exact ⟨fun _ => hQ, fun q => absurd (by omega) q⟩
theorem S53 {d i : Nat} {Q : bk_Q} {M : bk_M} (hP : bkPl M i) : bk_C (d + 1) 0 53 [bk_c 5 i] M Q ↔ Q 0 (bkSum (M 32 i) (M 5 i 6).toNat) M := by
  obtain ⟨-, -, -, -, h1, -, h2, -, -, h3, -⟩ := hP
  refine bk_det (fun Q hQ => ?_) Q
  rw [E_53]
  refine bk_forS (W := fun x y => bk_wp (bk_C d) P_53 Q 0 4 [bk_c 5 i, bk_i x, bk_i y] [] M) (g := M 32 i) (c := 400) (n := M 5 i 6) (by omega) (fun k h0 h1 => ?_) (fun k acc h0 h1 h2 h4 h => ?_) ?_
  · have := h3 k h0 h1; omega
  · have q1 := h3 k h0 h1
    rw [L_53_4]
    grind [bk_r32]
  · rw [L_53_4]; exact ⟨fun _ => hQ, fun q => absurd (Int.le_refl _) q⟩
