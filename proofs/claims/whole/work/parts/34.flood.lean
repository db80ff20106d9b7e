/-! The class's spring: draws, the bed is taken, both earn. -/
theorem LG_65_2 {d : Nat} {Q : bk_Q} (i0 : Nat) (i1 : Nat) (x2 : Int) (v3 : bk_V) (v4 : bk_V) (M : bk_M) : bk_wp (bk_C d) P_65 Q 0 2 [bk_c 8 i0, bk_c 5 i1, bk_i x2, v3, v4] [] M ↔ ((M 5 i1 (1 : Int) ≤ x2 → bk_C d 0 35 [bk_c 8 i0, bk_c 5 i1] M (fun t3 r1 M2 => t3 = 0 ∧ bk_C d 0 67 [bk_c 5 i1, bk_c 46 i0] M2 (fun t6 r4 M5 => t6 = 0 ∧ bk_C d 0 68 [bk_c 5 i1] M5 (fun t9 r7 M8 => t9 = 0 ∧ Q 0 r4 M8)))) ∧ (¬ (M 5 i1 (1 : Int) ≤ x2) → bk_wp (bk_C d) P_65 Q 0 12 [bk_c 8 i0, bk_c 5 i1, bk_i x2, bk_i (0 : Int), v4] [] M)) := bk_iff [2, 12] 40
theorem LG_65_12 {d : Nat} {Q : bk_Q} (i0 : Nat) (i1 : Nat) (x2 : Int) (x3 : Int) (v4 : bk_V) (M : bk_M) : bk_wp (bk_C d) P_65 Q 0 12 [bk_c 8 i0, bk_c 5 i1, bk_i x2, bk_i x3, v4] [] M ↔ ((M 5 i1 (0 : Int) ≤ x3 → bk_r32 (x2 + (1 : Int)) ∧ bk_wp (bk_C d) P_65 Q 0 2 [bk_c 8 i0, bk_c 5 i1, bk_i (x2 + (1 : Int)), bk_i x3, v4] [] M) ∧ (¬ (M 5 i1 (0 : Int) ≤ x3) → bk_r32 ((6 : Int) * x2) ∧ bk_r32 (((6 : Int) * x2) + x3) ∧ ((0 : Int) ≤ ((6 : Int) * x2) + x3 ∧ ((6 : Int) * x2) + x3 < (36 : Int)) ∧ bk_r32 ((M 5 i1 (3 : Int)) + (1 : Int)) ∧ bk_C d 0 66 [bk_c 8 i0, bk_i ((M 5 i1 (3 : Int)) + (1 : Int))] M (fun t3 r1 M2 => t3 = 0 ∧ bk_r32 ((M 28 i1 (((6 : Int) * x2) + x3)) + r1) ∧ ((0 : Int) ≤ ((6 : Int) * x2) + x3 ∧ ((6 : Int) * x2) + x3 < (36 : Int)) ∧ ∀ M4 : bk_M, M4 = bk_up M2 45 i0 (((6 : Int) * x2) + x3) ((M 28 i1 (((6 : Int) * x2) + x3)) + r1) → bk_r32 (x3 + (1 : Int)) ∧ bk_wp (bk_C d) P_65 Q 0 12 [bk_c 8 i0, bk_c 5 i1, bk_i x2, bk_i (x3 + (1 : Int)), bk_i (((6 : Int) * x2) + x3)] [] M4))) := bk_iff [2, 12] 40
theorem L65_12 {d i p : Nat} {Q : bk_Q} {y s : Int} {M M1 : bk_M} {N : Int → Int} (hR : bkRel M p N) (hy : 0 ≤ y ∧ y < N 3) (hs : M 8 i 3 = s)
    (hF : bkFr (fun k a => (k = 8 ∨ k = 45) ∧ a = i) M M1) (h8 : ∀ j, j ≠ 3 → M1 8 i j = M 8 i j) (h83 : M1 8 i 3 = bkSd (N 2 * y).toNat s) (hG : ∀ z x, 0 ≤ z → z < y → 0 ≤ x → x < N 2 → M1 45 i (6 * z + x) = bkGs N s (6 * z + x))
    (hQ : ∀ M2 v3 v4, bkFr (fun k a => (k = 8 ∨ k = 45) ∧ a = i) M M2 → (∀ j, j ≠ 3 → M2 8 i j = M 8 i j) → M2 8 i 3 = bkSd (N 2 * (y + 1)).toNat s → (∀ z x, 0 ≤ z → z < y + 1 → 0 ≤ x → x < N 2 → M2 45 i (6 * z + x) = bkGs N s (6 * z + x)) → bk_wp (bk_C (d + 1)) P_65 Q 0 2 [bk_c 8 i, bk_c 5 p, bk_i (y + 1), v3, v4] [] M2) (v4 : bk_V) :
    bk_wp (bk_C (d + 1)) P_65 Q 0 12 [bk_c 8 i, bk_c 5 p, bk_i y, bk_i 0, v4] [] M1 := by
  have hN := bkRel_md hR
  obtain ⟨n1, n2, n3, n4, n5, n6, n7, n8, -⟩ := id hN
  obtain ⟨hP, ⟨b1, b2, b3, b4, b5, b6, b7⟩, ⟨c1, c2, c3, -⟩⟩ := hR
  have key := bk_loopS (W := fun x M2 => ∀ v4, bk_wp (bk_C (d + 1)) P_65 Q 0 12 [bk_c 8 i, bk_c 5 p, bk_i y, bk_i x, v4] [] M2) (s := 0) (n := N 2)
    (fun x M2 => bkFr (fun k a => (k = 8 ∨ k = 45) ∧ a = i) M M2 ∧ (∀ j, j ≠ 3 → M2 8 i j = M 8 i j) ∧ M2 8 i 3 = bkSd (N 2 * y + x).toNat s ∧ (∀ z x, 0 ≤ z → z < y → 0 ≤ x → x < N 2 → M2 45 i (6 * z + x) = bkGs N s (6 * z + x)) ∧ (∀ u, 0 ≤ u → u < x → M2 45 i (6 * y + u) = bkGs N s (6 * y + u))) (by omega) ?_ ?_ (M := M1) ⟨hF, h8, by rw [Int.add_zero]; exact h83, hG, fun u z1 z2 => absurd z1 (by omega)⟩
  · exact key v4
  · rintro x M2 h0 h1 ⟨F, e8, e83, G, U⟩ ih v4
    have g5 : M2 5 p = M 5 p := F 5 p (by omega)
    have g28 : M2 28 p = M 28 p := F 28 p (by omega)
    have hw : 0 ≤ N 2 * y := Int.mul_nonneg (by omega) (by omega)
    have hib := bkIce_b n4 s (6 * y + x)
    have hia := bkIce_at N s (y := y) h0 (by omega)
    have hh := n8 (6 * y + x) (by omega) (by omega)
    have hsd := bkSd_s (N 2 * y + x) s (by omega)
    rw [LG_65_12, g5, g28, b3, b6, S66 (by omega), e83, ← hsd, ← hia]
    unfold bk_r32
    refine ⟨fun z => absurd z (by omega), fun _ => ⟨by omega, by omega, by omega, by omega, rfl, by rw [c3 _ (by omega) (by omega)]; omega, by omega, ?_⟩⟩
    intro M4 hM4
    have r8 : ∀ j, M4 8 i j = if j = 3 then bkSd (N 2 * y + x + 1).toNat s else M2 8 i j := fun j => by rw [hM4, bk_up_f (by decide), bk_up_w]
    have r45 : ∀ j, M4 45 i j = if j = 6 * y + x then bkGs N s (6 * y + x) else M2 45 i j := fun j => by
      rw [hM4, bk_up_w, bk_up_f (by decide), c3 _ (by omega) (by omega)]
      rfl
    refine ⟨by omega, ih M4 ⟨?_, fun j hj => ?_, ?_, fun z u w1 w2 w3 w4 => ?_, fun u z1 z2 => ?_⟩ _⟩
    · rw [hM4]; exact bkFr_up (bkFr_up F ⟨.inl rfl, rfl⟩) ⟨.inr rfl, rfl⟩
    · rw [r8, if_neg hj]; exact e8 j hj
    · rw [r8, if_pos rfl, Int.add_assoc]
    · rw [r45, if_neg (by omega)]; exact G z u w1 w2 w3 w4
    · rw [r45]
      by_cases e : u = x
      · rw [if_pos (by omega), e]
      · rw [if_neg (by omega)]; exact U u z1 (by omega)
  · rintro M2 ⟨F, e8, e83, G, U⟩ v4
    have g5 : M2 5 p = M 5 p := F 5 p (by omega)
    rw [LG_65_12, g5, b3]
    unfold bk_r32
    refine ⟨fun _ => ⟨by omega, hQ M2 _ _ F e8 (by rw [e83, Int.mul_add, Int.mul_one]) fun z x w1 w2 w3 w4 => ?_⟩, fun z => absurd (Int.le_refl _) z⟩
    by_cases e : z = y
    · rw [e]; exact U x w3 w4
    · exact G z x w1 (by omega) w3 w4
def bkA67 (p : Nat) (k a : Nat) : Prop := (k = 5 ∨ k = 29 ∨ k = 32 ∨ k = 39) ∧ a = p
theorem bk_cpy_o {M : bk_M} {sk si dk di : Nat} {sp dp n : Int} {k a : Nat} (h : ¬ (k = dk ∧ a = di)) : bk_cpy M sk si sp dk di dp n k a = M k a := by
  funext j
  unfold bk_cpy
  rw [if_neg (fun w => h ⟨w.1, w.2.1⟩)]
theorem bk_cpy_at {M : bk_M} {sk si dk di : Nat} {sp dp n j : Int} : bk_cpy M sk si sp dk di dp n dk di j = if dp ≤ j ∧ j < dp + n then M sk si (sp + (j - dp)) else M dk di j := by
  unfold bk_cpy
  by_cases z : dp ≤ j ∧ j < dp + n
  · rw [if_pos ⟨rfl, rfl, z⟩, if_pos z]
  · rw [if_neg (fun w => z w.2.2), if_neg z]
theorem bkFr_cpy {A : Nat → Nat → Prop} {M M' : bk_M} {sk si dk di : Nat} {sp dp n : Int} (h : bkFr A M M') (hk : A dk di) : bkFr A M (bk_cpy M' sk si sp dk di dp n) := fun k' a' z => by
  rw [← h k' a' z]
  exact bk_cpy_o (fun w => z (by rw [w.1, w.2]; exact hk))
theorem bkRel_take {M M' : bk_M} {p : Nat} {N b : Int → Int} (h : bkRel M p N) (h4 : N 80 < 400) (hb : ∀ y, 0 ≤ y → y < N 3 → 0 ≤ b y ∧ b y < N 2) (hF : bkFr (bkA67 p) M M')
    (e5 : ∀ j, M' 5 p j = if j = 17 then M 5 p 17 + 1 else M 5 p j) (e29 : ∀ y, 0 ≤ y → y < N 3 → M' 29 p y = b y) (e32 : ∀ f, 0 ≤ f → f < N 0 → M' 32 p f = M 32 p f + bkCh N b f)
    (e39 : ∀ j, M' 39 p j = if 6 * (M 5 p 17 % 8) ≤ j ∧ j < 6 * (M 5 p 17 % 8) + 6 then M 29 p (j - 6 * (M 5 p 17 % 8)) else M 39 p j) : bkRel M' p (bkTake N b) := by
  have hN := bkRel_md h
  obtain ⟨n1, n2, n3, n4, n5, n6, n7, n8, n9, n10, n11, n12, n13, n14⟩ := hN
  obtain ⟨⟨a1, a2, a3, a4, a5, a6, a7, a8, a9, a10, a11, a12⟩, ⟨b1, b2, b3, b4, b5, b6, b7⟩, ⟨c1, c2, c3, c4, c5, c6, c7, c8⟩⟩ := h
  have f : ∀ k, k ≠ 5 → k ≠ 29 → k ≠ 32 → k ≠ 39 → M' k p = M k p := fun k q1 q2 q3 q4 => hF k p (by unfold bkA67; omega)
  have f28 := f 28 (by decide) (by decide) (by decide) (by decide)
  have f30 := f 30 (by decide) (by decide) (by decide) (by decide)
  have f31 := f 31 (by decide) (by decide) (by decide) (by decide)
  have f34 := f 34 (by decide) (by decide) (by decide) (by decide)
  have f35 := f 35 (by decide) (by decide) (by decide) (by decide)
  have f37 := f 37 (by decide) (by decide) (by decide) (by decide)
  have f38 := f 38 (by decide) (by decide) (by decide) (by decide)
  have t : ∀ j, (j < 80 ∨ (81 ≤ j ∧ j < 121) ∨ (127 ≤ j ∧ j < 136) ∨ 195 ≤ j) → bkTake N b j = N j := fun j hj => bkTake_lo (by omega) (by omega) hj (by omega) (by omega)
  have k0 : M' 5 p 0 = M 5 p 0 := by rw [e5, if_neg (by decide)]
  have k1 : M' 5 p 1 = M 5 p 1 := by rw [e5, if_neg (by decide)]
  have k2 : M' 5 p 2 = M 5 p 2 := by rw [e5, if_neg (by decide)]
  have k3 : M' 5 p 3 = M 5 p 3 := by rw [e5, if_neg (by decide)]
  have k6 : M' 5 p 6 = M 5 p 6 := by rw [e5, if_neg (by decide)]
  have k11 : M' 5 p 11 = M 5 p 11 := by rw [e5, if_neg (by decide)]
  have k17 : M' 5 p 17 = M 5 p 17 + 1 := by rw [e5, if_pos rfl]
  have hl : N 194 ≤ 8 ∧ N 194 ≤ N 80 := by
    rw [n14]; split <;> omega
  refine ⟨⟨by omega, by omega, by omega, by omega, by omega, by omega, by omega, ?_, fun y h0 h1 => ?_, fun g h0 h1 => ?_, fun m h0 h1 => ?_, ?_⟩, ⟨by rw [t _ (by omega)]; omega, by rw [t _ (by omega)]; omega, by rw [t _ (by omega)]; omega, by rw [t _ (by omega)]; omega, by rw [t _ (by omega)]; omega, by rw [t _ (by omega)]; omega, fun g h0 h1 => ?_⟩, ⟨by rw [bkTake_80]; omega, fun s h0 h1 => ?_, fun c h0 h1 => ?_, fun y h0 h1 => ?_, fun m h0 h1 => ?_, fun g h0 h1 => ?_, ?_, fun k y h0 h1 h2 h3 h5 => ?_⟩⟩
  · rw [f28]; exact a8
  · rw [e29 y h0 (by omega), k0, b3]; exact hb y h0 (by omega)
  · have q := a10 g h0 (by omega)
    have q2 := bkCh_b N b g
    rw [f30, f31, k0, k1, k17, e32 g h0 (by omega)]
    omega
  · rw [f34, k0, k1]; exact a11 m h0 (by omega)
  · rw [f37]; exact a12
  · rw [f30, f31, t _ (by omega), t _ (by omega), t _ (by omega)]
    exact b7 g h0 (by omega)
  · rw [f37, f38, t _ (by omega), t _ (by omega)]; exact c2 s h0 h1
  · rw [f28, t _ (by omega)]; exact c3 c h0 h1
  · rw [e29 y h0 (by omega), bkTake_bed h0 (by omega)]
  · rw [f34, f35, t _ (by omega), t _ (by omega), t _ (by omega)]; exact c5 m h0 (by omega)
  · rw [bkTake_ch (by omega) (by omega) h0 h1, k6, b1]
    have := c6 g h0 h1
    by_cases z : g < N 0
    · rw [if_pos z, if_pos z, e32 g h0 z, this, if_pos (by omega)]
    · rw [if_neg z, if_neg z, this, if_neg (by omega)]
  · rw [bkTake_194 (by omega) (by omega), k17, c1]
    have q14 := n14
    split at q14 <;> split <;> split <;> omega
  · rw [k17, e39]
    by_cases z : k = 1
    · subst z
      rw [show (M 5 p 17 + 1 - 1) % 8 = M 5 p 17 % 8 by omega, if_pos (by omega), show 6 * (M 5 p 17 % 8) + y - 6 * (M 5 p 17 % 8) = y by omega, c4 y h3 (by omega), show 146 + 6 * ((1 : Int) - 1) + y = 146 + y by omega, bkTake_p0 (by omega) (by omega) h3 (by omega)]
    · have := c8 (k - 1) y (by omega) (by omega) (by omega) h3 (by omega)
      rw [if_neg (by omega), show M 5 p 17 + 1 - k = M 5 p 17 - (k - 1) by omega, this, show 146 + 6 * (k - 1) + y = 146 + (6 * (k - 1) + y) by omega, bkTake_p (by omega) (by omega) (by omega) (by omega)]
      congr 1
      omega
theorem S67 {d i p : Nat} {M : bk_M} {N b : Int → Int} (hR : bkRel M p N) (h4 : N 80 < 400) (h46 : ∀ y, 0 ≤ y → y < N 3 → M 46 i y = b y) (hb : ∀ y, 0 ≤ y → y < N 3 → 0 ≤ b y ∧ b y < N 2) :
    bk_C (d + 2) 0 67 [bk_c 5 p, bk_c 46 i] M (fun t r M' => t = 0 ∧ bkFr (bkA67 p) M M' ∧ bkRel M' p (bkTake N b) ∧ r = bkSum (bkCh N b) (N 0).toNat) := by
  have hN := bkRel_md hR
  obtain ⟨n1, n2, n3, n4, n5, n6, n7, n8, n9, n10, n11, n12, n13, n14⟩ := hN
  obtain ⟨⟨a1, a2, a3, a4, a5, a6, a7, a8, a9, a10, a11, a12⟩, ⟨b1, b2, b3, b4, b5, b6, b7⟩, ⟨c1, c2, c3, c4, c5, c6, c7, c8⟩⟩ := id hR
  rw [E_67]
  have key := bk_loopS (W := fun f M1 => bk_wp (bk_C (d + 1)) P_67 (fun t r M' => t = 0 ∧ bkFr (bkA67 p) M M' ∧ bkRel M' p (bkTake N b) ∧ r = bkSum (bkCh N b) (N 0).toNat) 0 4 [bk_c 5 p, bk_c 46 i, bk_i (bkSum (bkCh N b) f.toNat), bk_i f] [] M1) (s := 0) (n := N 0)
    (fun f M1 => bkFr (fun k a => k = 32 ∧ a = p) M M1 ∧ (∀ g, 0 ≤ g → g < f → M1 32 p g = M 32 p g + bkCh N b g) ∧ ∀ g, f ≤ g → M1 32 p g = M 32 p g) (by omega) ?_ ?_ (M := M) ⟨bkFr_refl _ _, fun g z1 z2 => absurd z1 (by omega), fun g _ => rfl⟩
  · exact key
  · rintro f M1 h0 h1 ⟨F, E, U⟩ ih
    have g5 : M1 5 p = M 5 p := F 5 p (by omega)
    have g30 : M1 30 p = M 30 p := F 30 p (by omega)
    have g29 : M1 29 p = M 29 p := F 29 p (by omega)
    have g46 : M1 46 i = M 46 i := F 46 i (by omega)
    have q := b7 f h0 (by omega)
    have q2 := n10 f h0 h1
    have q3 := a10 f h0 (by omega)
    have hs := bkSum_s (bkCh N b) h0
    have hcb := bkSum_le (g := bkCh N b) (c := 1) (n := f.toNat) (fun k _ => bkCh_b N b k)
    have ew : bkBank (M 29 p) (6 * N (52 + f) + N (42 + f)) = bkWho N f := by
      rw [bkBank_side (by omega) (by omega), c4 _ (by omega) (by omega)]
      rfl
    have ew2 : bkBank (M 46 i) (6 * N (52 + f) + N (42 + f)) = bkSide (N (42 + f)) (b (N (52 + f))) := by
      rw [bkBank_side (by omega) (by omega), h46 _ (by omega) (by omega)]
    rw [L_67_4, g5, b1, g30, q.1, S41 (.inr rfl) (by omega) (by omega), g30, q.1, S41 (.inl rfl) (by omega) (by omega), g29, g46, ew, ew2, U f (Int.le_refl _)]
    unfold bk_r32
    refine ⟨fun z => absurd z (by omega), fun _ => ⟨by omega, rfl, by omega, rfl, fun z => ⟨by omega, ?_⟩, fun z => ⟨by omega, by omega, by omega, ?_⟩⟩⟩
    · have ec : bkCh N b f = 0 := if_pos z
      rw [ec, Int.add_zero] at hs
      rw [← hs]
      refine ih M1 ⟨F, fun g z1 z2 => ?_, fun g z1 => U g (by omega)⟩
      by_cases e : g = f
      · rw [e, ec, U f (Int.le_refl _), Int.add_zero]
      · exact E g z1 (by omega)
    · have ec : bkCh N b f = 1 := if_neg z
      rw [ec] at hs
      intro M2 hM2
      rw [← hs]
      have r32 : ∀ g, M2 32 p g = if g = f then M 32 p f + 1 else M1 32 p g := fun g => by rw [hM2, bk_up_w]
      refine ⟨by omega, by omega, ih M2 ⟨by rw [hM2]; exact bkFr_up F ⟨rfl, rfl⟩, fun g z1 z2 => ?_, fun g z1 => ?_⟩⟩
      · rw [r32]
        by_cases e : g = f
        · rw [if_pos e, e, ec]
        · rw [if_neg e]; exact E g z1 (by omega)
      · rw [r32, if_neg (by omega)]; exact U g (by omega)
  · rintro M1 ⟨F, E, U⟩
    have g5 : M1 5 p = M 5 p := F 5 p (by omega)
    have g29 : M1 29 p = M 29 p := F 29 p (by omega)
    have g39 : M1 39 p = M 39 p := F 39 p (by omega)
    have g46 : M1 46 i = M 46 i := F 46 i (by omega)
    rw [L_67_4, g5, b1]
    unfold bk_r32
    refine ⟨fun _ => ⟨by omega, by omega, by omega, ?_⟩, fun z => absurd (Int.le_refl _) z⟩
    intro M2 hM2
    refine ⟨by omega, ?_⟩
    intro M3 hM3
    have g5' : M3 5 p = M 5 p := by rw [hM3, bk_cpy_o (by omega), hM2, bk_cpy_o (by omega), g5]
    rw [g5']
    refine ⟨by omega, ?_⟩
    intro M4 hM4
    have F4 : bkFr (bkA67 p) M M4 := by
      rw [hM4, hM3, hM2]
      exact bkFr_up (bkFr_cpy (bkFr_cpy (bkFr_mono F fun k a w => by unfold bkA67; omega) (by unfold bkA67; omega)) (by unfold bkA67; omega)) (by unfold bkA67; omega)
    refine ⟨rfl, F4, bkRel_take hR h4 hb F4 (fun j => by rw [hM4, bk_up_w, g5']) (fun y z1 z2 => ?_) (fun g z1 z2 => ?_) (fun j => ?_), rfl⟩
    · rw [hM4, bk_up_f (by decide), hM3, bk_cpy_at, if_pos (by omega), hM2, bk_cpy_o (by omega), g46, ← h46 y z1 z2]
      congr 1
      omega
    · rw [hM4, bk_up_f (by decide), hM3, bk_cpy_o (by omega), hM2, bk_cpy_o (by omega), E g z1 z2]
    · rw [hM4, bk_up_f (by decide), hM3, bk_cpy_o (by omega), hM2, bk_cpy_at, g29, g39, Int.mul_comm _ 6]
      by_cases z : 6 * (M 5 p 17 % 8) ≤ j ∧ j < 6 * (M 5 p 17 % 8) + 6
      · rw [if_pos z, if_pos z, Int.zero_add]
      · rw [if_neg z, if_neg z]
def bkA65 (i p : Nat) (k a : Nat) : Prop := ((k = 8 ∨ k = 45 ∨ k = 46 ∨ k = 47 ∨ k = 48) ∧ a = i) ∨ ((k = 5 ∨ k = 29 ∨ k = 32 ∨ k = 37 ∨ k = 39) ∧ a = p)
theorem bkEarned_fr {M : bk_M} {p : Nat} : bkFr (fun k a => k = 37 ∧ a = p) M (bkEarned M p) := by
  unfold bkEarned
  exact bkFr_up (bkFr_up (bkFr_refl _ _) ⟨rfl, rfl⟩) ⟨rfl, rfl⟩
theorem S65 {d i p : Nat} {s : Int} {M : bk_M} {N : Int → Int} (hR : bkRel M p N) (h4 : N 80 < 400) (hs : M 8 i 3 = s) :
    bk_C (d + 4) 0 65 [bk_c 8 i, bk_c 5 p] M (fun t r M' => t = 0 ∧ bkFr (bkA65 i p) M M' ∧ bkRel M' p (bkSpr N s) ∧ r = bkSprC N s ∧ M' 8 i 3 = bkSd (N 2 * N 3).toNat s) := by
  have hN := bkRel_md hR
  obtain ⟨n1, n2, n3, n4, n5, n6, n7, n8, n9, -⟩ := id hN
  obtain ⟨b1, b2, b3, b4, b5, b6, b7⟩ := hR.2.1
  rw [E_65]
  have key := bk_loopS (W := fun y M1 => ∀ v3 v4, bk_wp (bk_C (d + 3)) P_65 (fun t r M' => t = 0 ∧ bkFr (bkA65 i p) M M' ∧ bkRel M' p (bkSpr N s) ∧ r = bkSprC N s ∧ M' 8 i 3 = bkSd (N 2 * N 3).toNat s) 0 2 [bk_c 8 i, bk_c 5 p, bk_i y, v3, v4] [] M1) (s := 0) (n := N 3)
    (fun y M1 => bkFr (fun k a => (k = 8 ∨ k = 45) ∧ a = i) M M1 ∧ (∀ j, j ≠ 3 → M1 8 i j = M 8 i j) ∧ M1 8 i 3 = bkSd (N 2 * y).toNat s ∧ ∀ z x, 0 ≤ z → z < y → 0 ≤ x → x < N 2 → M1 45 i (6 * z + x) = bkGs N s (6 * z + x)) (by omega) ?_ ?_ (M := M) ⟨bkFr_refl _ _, fun j _ => rfl, by rw [Int.mul_zero, hs]; rfl, fun z x z1 z2 => absurd z1 (by omega)⟩
  · exact key _ _
  · rintro y M1 h0 h1 ⟨F, e8, e83, G⟩ ih v3 v4
    have g5 : M1 5 p = M 5 p := F 5 p (by omega)
    rw [LG_65_2, g5, b4]
    exact ⟨fun z => absurd z (by omega), fun _ => L65_12 hR ⟨h0, h1⟩ hs F e8 e83 G (fun M2 v3 v4 F2 e2 e3 G2 => ih M2 ⟨F2, e2, e3, G2⟩ v3 v4) v4⟩
  · rintro M1 ⟨F, e8, e83, G⟩ v3 v4
    have g5 : M1 5 p = M 5 p := F 5 p (by omega)
    have R1 : bkRel M1 p N := bkRel_fr hR fun k hk => F k p (by omega)
    rw [LG_65_2, g5, b4]
    refine ⟨fun _ => ?_, fun z => absurd (Int.le_refl _) z⟩
    have hgr : bkGr (M1 45 i) (M1 5 p 0) (M1 5 p 1) := by
      rw [g5, b3, b4]
      intro z x z1 z2 z3 z4
      rw [G z x z1 z2 z3 z4]
      exact bkGs_b hN s z x z1 z2 z3 z4
    refine bk_use (P := fun _ M' => bkRan M1 i p M') (S35 (d := d + 1) R1.1 hgr) ?_
    rintro r M2 ⟨F2, o8, -, B⟩
    rw [g5, b3, b4, b5] at B
    have hB : ∀ y, 0 ≤ y → y < N 3 → M2 46 i y = bkBs N s y := fun y z1 z2 => by
      rw [B y z1 z2]
      have e := bkBd_eq (f := M1 45 i) (g := bkGs N s) (W := N 2) (H := N 3) (S := N 4) (by omega) (by omega) G y.toNat (by omega)
      rw [Int.toNat_of_nonneg z1] at e
      exact e
    have R2 : bkRel M2 p N := bkRel_fr R1 fun k hk => F2 k p (by unfold bkA35; omega)
    have hbr : ∀ y, 0 ≤ y → y < N 3 → 0 ≤ bkBs N s y ∧ bkBs N s y < N 2 := fun y z1 z2 => by
      have := bkBd_r (bkGs_b hN s) (S := N 4) (y := y) (by omega) (by omega) (by omega) z1 z2
      exact ⟨this.1, this.2.1⟩
    refine ⟨rfl, bk_use (S67 (d := d + 1) R2 h4 hB hbr) ?_⟩
    rintro r M3 ⟨F3, R3, hr⟩
    have R4 := bkRel_earned R3
    rw [S68 R3.1]
    refine ⟨rfl, rfl, rfl, ?_, R4, hr, ?_⟩
    · refine bkFr_trans (bkFr_trans (bkFr_trans (bkFr_mono F fun k a w => ?_) (bkFr_mono F2 fun k a w => ?_)) (bkFr_mono F3 fun k a w => ?_)) (bkFr_mono bkEarned_fr fun k a w => ?_)
      · unfold bkA65; omega
      · unfold bkA35 at w; unfold bkA65; omega
      · unfold bkA67 at w; unfold bkA65; omega
      · unfold bkA65; omega
    · rw [bkEarned_fr 8 i (by omega), F3 8 i (by unfold bkA67; omega), o8 3 (by decide), e83]
