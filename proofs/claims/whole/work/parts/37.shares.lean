/-! Seeds tried on a copy: the class's trial, the reference's row laid aside. -/
theorem bkRel_copy {M : bk_M} {i j : Nat} {N : Int → Int} (h : bkRel M j N) : bkRel (bkCopy M i j) i N := by
  have f : ∀ p : Int, (p = 0 ∨ p = 1 ∨ p = 2 ∨ p = 3 ∨ p = 6 ∨ p = 11 ∨ p = 17) → bkCopy M i j 5 i p = M 5 j p := fun p hp => bkCopy_f hp
  have a : ∀ (k : Nat) (p : Int), 28 ≤ k ∧ k ≤ 39 → 0 ≤ p → p < bkLenP k → bkCopy M i j k i p = M k j p := fun k p hk h0 h1 => bkCopy_a hk h0 h1
  obtain ⟨⟨a1, a2, a3, a4, a5, a6, a7, a8, a9, a10, a11, a12⟩, ⟨b1, b2, b3, b4, b5, b6, b7⟩, ⟨c1, c2, c3, c4, c5, c6, c7, c8⟩⟩ := h
  unfold bkRel bkPl
  rw [f 0 (by omega), f 1 (by omega), f 2 (by omega), f 3 (by omega), f 6 (by omega), f 11 (by omega), f 17 (by omega)]
  refine ⟨⟨a1, a2, a3, a4, a5, a6, a7, fun c h0 h1 => ?_, fun y h0 h1 => ?_, fun g h0 h1 => ?_, fun m h0 h1 => ?_, fun s h0 h1 => ?_⟩, ⟨b1, b2, b3, b4, b5, b6, fun g h0 h1 => ?_⟩, ⟨c1, fun s h0 h1 => ?_, fun c h0 h1 => ?_, fun y h0 h1 => ?_, fun m h0 h1 => ?_, fun g h0 h1 => ?_, c7, fun k y h0 h1 h2 h3 h4 => ?_⟩⟩
  · rw [a 28 c (by decide) h0 h1]; exact a8 c h0 h1
  · rw [a 29 y (by decide) h0 (by show y < 6; omega)]; exact a9 y h0 h1
  · rw [a 30 g (by decide) h0 (by show g < 10; omega), a 31 g (by decide) h0 (by show g < 10; omega), a 32 g (by decide) h0 (by show g < 10; omega)]; exact a10 g h0 h1
  · rw [a 34 m (by decide) h0 (by show m < 3; omega)]; exact a11 m h0 h1
  · rw [a 37 s (by decide) h0 h1]; exact a12 s h0 h1
  · rw [a 30 g (by decide) h0 (by show g < 10; omega), a 31 g (by decide) h0 (by show g < 10; omega)]; exact b7 g h0 h1
  · rw [a 37 s (by decide) h0 h1, a 38 s (by decide) h0 h1]; exact c2 s h0 h1
  · rw [a 28 c (by decide) h0 h1]; exact c3 c h0 h1
  · rw [a 29 y (by decide) h0 (by show y < 6; omega)]; exact c4 y h0 h1
  · rw [a 34 m (by decide) h0 (by show m < 3; omega), a 35 m (by decide) h0 (by show m < 3; omega)]; exact c5 m h0 h1
  · rw [c6 g h0 h1]
    by_cases z : g < M 5 j 6
    · rw [if_pos z, if_pos z, a 32 g (by decide) h0 h1]
    · rw [if_neg z, if_neg z]
  · rw [a 39 _ (by decide) (by omega) (by show _ < 48; omega)]; exact c8 k y h0 h1 h2 h3 h4
def bkACopy (i : Nat) (k a : Nat) : Prop := (k = 5 ∨ (28 ≤ k ∧ k ≤ 39)) ∧ a = i
theorem bkCopy_fr (M : bk_M) (i j : Nat) : bkFr (bkACopy i) M (bkCopy M i j) := fun k a z => by
  funext c
  unfold bkACopy at z
  exact bkCopy_o (by omega)
theorem bkW32_r (z : Int) : -2147483648 ≤ bk_w32 z ∧ bk_w32 z ≤ 2147483647 := by
  unfold bk_w32
  have h1 := Int.le_bmod (x := z) (m := 4294967296) (by decide)
  have h2 := Int.bmod_lt (x := z) (m := 4294967296) (by decide)
  omega
/-- worth behind each of k years, with one seed; with n seeds -/
def bkShY (N : Int → Int) (x s : Int) : Nat → Int → Int
  | 0, a => a
  | k + 1, a => bk_w32 (bkShY N x s k a + bkWor (bkYrN N x (k + 1)) s)
def bkShO (N : Int → Int) (x s m : Int) : Nat → Int
  | 0 => 0
  | i + 1 => bkShY N (bk_w32 (x + i)) s (bkCm N m).toNat (bkShO N x s m i)
def bkShr (N : Int → Int) (s m n x : Int) : Int := if 0 ≤ s ∧ s ≤ 1 ∧ 1 ≤ m ∧ m ≤ 10 ∧ 1 ≤ n ∧ n ≤ 30 then bkShO N x s m n.toNat else -1
theorem S92 {d : Nat} {Q : bk_Q} {m n : Int} {M : bk_M} : bk_C (d + 1) 0 92 [bk_i m, bk_i n] M Q ↔ Q 0 (if 1 ≤ m ∧ m ≤ 10 ∧ 1 ≤ n ∧ n ≤ 30 then 1 else 0) M := by
  rw [E_92]
  grind
theorem bkYrX_0 (N : Int → Int) (x : Int) : bkYrX N x 0 = x := by
  unfold bkYrX
  rw [Nat.zero_mul]
  rfl
theorem bkYrN_1 (N : Int → Int) (x : Int) : bkYrN N x 1 = bkSpr N x := by
  show bkSpr N (bkYrX N x 0) = _
  rw [bkYrX_0]
/-- what a try on the trial changes -/
def bkATry (k a : Nat) : Prop := ((k = 8 ∨ k = 45 ∨ k = 46 ∨ k = 47 ∨ k = 48) ∧ a = 0) ∨ ((k = 5 ∨ (28 ≤ k ∧ k ≤ 39)) ∧ a = 2)
theorem LG_91_23 {d : Nat} {Q : bk_Q} (x1 : Int) (x2 : Int) (x3 : Int) (x4 : Int) (x5 : Int) (x6 : Int) (v7 : bk_V) (M : bk_M) : bk_wp (bk_C d) P_91 Q 0 23 [bk_c 11 0, bk_i x1, bk_i x2, bk_i x3, bk_i x4, bk_i x5, bk_i x6, v7] [] M ↔ ((x3 ≤ x6 → Q 0 x5 M) ∧ (¬ (x3 ≤ x6) → bk_C d 0 58 [bk_c 5 2, bk_c 5 ((M 11 0 (1 : Int)).toNat)] M (fun t3 r1 M2 => t3 = 0 ∧ ∀ M4 : bk_M, M4 = bk_up M2 8 0 (3 : Int) (bk_w32 (x4 + x6)) → bk_wp (bk_C d) P_91 Q 0 55 [bk_c 11 0, bk_i x1, bk_i x2, bk_i x3, bk_i x4, bk_i x5, bk_i x6, bk_i (0 : Int)] [] M4))) := bk_iff [23, 55] 40
theorem LG_243_46 {d : Nat} {Q : bk_Q} (x1 : Int) (x2 : Int) (x3 : Int) (x4 : Int) (x5 : Int) (x6 : Int) (v7 : bk_V) (M : bk_M) : bk_wp (bk_C d) P_243 Q 0 46 [bk_c 12 0, bk_i x1, bk_i x2, bk_i x3, bk_i x4, bk_i x5, bk_i x6, v7] [] M ↔ ((x3 ≤ x6 → Q 0 x5 M) ∧ (¬ (x3 ≤ x6) → ∀ M1 : bk_M, M1 = bk_up M 12 0 (30 : Int) (bk_w32 (x4 + x6)) → bk_wp (bk_C d) P_243 Q 0 64 [bk_c 12 0, bk_i x1, bk_i x2, bk_i x3, bk_i x4, bk_i x5, bk_i x6, bk_i (0 : Int)] [] M1)) := bk_iff [46, 64] 40
theorem L91_55 {d : Nat} {Q : bk_Q} {s m n x a i : Int} {M : bk_M} {N : Int → Int} (hR : bkRel M 2 N) (hm : 1 ≤ m ∧ m ≤ 10) (hi : 0 ≤ i ∧ i < 30) (h8 : M 8 0 3 = x) :
    ∀ b : Int, (∀ M' v7, bkFr bkATry M M' → bk_wp (bk_C (d + 6)) P_91 Q 0 23 [bk_c 11 0, bk_i s, bk_i m, bk_i n, bk_i a, bk_i (bkShY N x s (bkCm N m).toNat b), bk_i (i + 1), v7] [] M') → bk_wp (bk_C (d + 6)) P_91 Q 0 55 [bk_c 11 0, bk_i s, bk_i m, bk_i n, bk_i a, bk_i b, bk_i i, bk_i 0] [] M := by
  intro b hQ
  have hN := bkRel_md hR
  have n7 := hN.2.2.2.2.2.2.1
  have hc : 0 ≤ bkCm N m ∧ bkCm N m ≤ m ∧ bkCm N m ≤ 400 - N 80 ∧ (bkCm N m = m ∨ bkCm N m = 400 - N 80) := by unfold bkCm; split <;> omega
  refine bk_loopS (W := fun k M1 => bk_wp (bk_C (d + 6)) P_91 Q 0 55 [bk_c 11 0, bk_i s, bk_i m, bk_i n, bk_i a, bk_i (bkShY N x s k.toNat b), bk_i i, bk_i k] [] M1) (s := 0) (n := bkCm N m)
    (fun k M1 => bkFr bkATry M M1 ∧ bkRel M1 2 (bkYrN N x k.toNat) ∧ M1 8 0 3 = bkYrX N x k.toNat) (by omega) ?_ ?_ (M := M) ⟨bkFr_refl _ _, hR, ?_⟩
  · rintro k M1 h0 h1 ⟨F, R, e⟩ ih
    obtain ⟨i1, i2, i3⟩ := bkYrN_b hN x k.toNat (by omega)
    have c1 : bkCm (bkYrN N x k.toNat) 1 = 1 := by unfold bkCm; rw [if_pos (by omega)]
    rw [L_91_55]
    unfold bk_r32
    refine ⟨fun z => absurd z (by omega), fun _ => ?_⟩
    refine bk_use (S70 (d := d + 1) R (by omega) e) ?_
    rintro r M2 ⟨F2, R2, hr, e2⟩
    rw [c1] at R2 hr e2
    rw [show (1 : Int).toNat = 1 by rfl] at R2 e2
    rw [bkYrN_1] at R2
    have R3 : bkRel M2 2 (bkYrN N x (k.toNat + 1)) := R2
    refine ⟨rfl, fun z => absurd hr z, fun _ => ?_⟩
    rw [S49r R3]
    refine ⟨rfl, by omega, ?_⟩
    have ih := ih M2 ⟨bkFr_trans F (bkFr_mono F2 fun k a w => ?_), ?_, ?_⟩
    · rw [show (k + 1).toNat = k.toNat + 1 by omega] at ih
      exact ih
    · unfold bkA65 at w; unfold bkATry; omega
    · rw [show (k + 1).toNat = k.toNat + 1 by omega]; exact R3
    · rw [show (k + 1).toNat = k.toNat + 1 by omega, ← bkYrX_s, e2]
      unfold bkYrX
      rw [i3 2 (by omega), i3 3 (by omega), Nat.one_mul]
  · rintro M1 ⟨F, R, e⟩
    obtain ⟨i1, i2, i3⟩ := bkYrN_b hN x (bkCm N m).toNat (by omega)
    rw [L_91_55]
    unfold bk_r32
    refine ⟨fun _ => ⟨by omega, hQ M1 _ F⟩, fun z => ?_⟩
    have c1 : bkCm (bkYrN N x (bkCm N m).toNat) 1 = 0 := by unfold bkCm at *; rw [if_neg (by omega)]; omega
    refine bk_use (S70 (d := d + 1) R (by omega) e) ?_
    rintro r M2 ⟨F2, R2, hr, e2⟩
    rw [c1] at hr
    refine ⟨rfl, fun _ => ⟨by omega, hQ M2 _ (bkFr_trans F (bkFr_mono F2 fun k a w => ?_))⟩, fun w => absurd (by omega) w⟩
    unfold bkA65 at w; unfold bkATry; omega
  · rw [h8]; unfold bkYrX; rw [show (0 : Int).toNat = 0 by rfl, Nat.zero_mul]; rfl
theorem S91 {d p : Nat} {s m n x : Int} {M : bk_M} {N : Int → Int} (hR : bkRel M p N) (hp : (M 11 0 1).toNat = p) (hp2 : p < 2) :
    bk_C (d + 7) 0 91 [bk_c 11 0, bk_i s, bk_i m, bk_i n, bk_i x] M (fun t r M' => t = 0 ∧ bkFr bkATry M M' ∧ r = bkShr N s m n x) := by
  rw [E_91, S47]
  by_cases hs : 0 ≤ s ∧ s ≤ 1
  · rw [if_pos hs, S92]
    refine ⟨rfl, fun z => absurd z (by decide), fun _ => ⟨rfl, fun z => ?_, fun z => ?_⟩⟩
    · by_cases hm : 1 ≤ m ∧ m ≤ 10 ∧ 1 ≤ n ∧ n ≤ 30
      · have hr : bkShr N s m n x = bkShO N x s m n.toNat := if_pos ⟨hs.1, hs.2, hm⟩
        rw [hr]
        have key := bk_loopS (W := fun i M1 => ∀ v7, bk_wp (bk_C (d + 6)) P_91 (fun t r M' => t = 0 ∧ bkFr bkATry M M' ∧ r = bkShO N x s m n.toNat) 0 23 [bk_c 11 0, bk_i s, bk_i m, bk_i n, bk_i x, bk_i (bkShO N x s m i.toNat), bk_i i, v7] [] M1) (s := 0) (n := n)
          (fun i M1 => bkFr bkATry M M1) (by omega) ?_ ?_ (M := M) (bkFr_refl _ _)
        · exact key _
        · rintro i M1 h0 h1 F ih v7
          have e11 : M1 11 0 = M 11 0 := F 11 0 (by unfold bkATry; omega)
          have R1 : bkRel M1 p N := bkRel_fr hR fun k hk => F k p (by unfold bkATry; omega)
          rw [LG_91_23, e11, hp, S58 (by omega)]
          refine ⟨fun w => absurd w (by omega), fun _ => ⟨rfl, ?_⟩⟩
          intro M4 hM4
          have F4 : bkFr bkATry M M4 := by
            rw [hM4]
            refine bkFr_up (bkFr_trans F (bkFr_mono (bkCopy_fr _ _ _) fun k a w => ?_)) (by unfold bkATry; omega)
            unfold bkACopy at w; unfold bkATry; omega
          have R4 : bkRel M4 2 N := by
            refine bkRel_fr (bkRel_copy (i := 2) R1) fun k hk => ?_
            rw [hM4, bk_up_f (by omega)]
          refine L91_55 (d := d) R4 (by omega) (by omega) (x := bk_w32 (x + i)) (by rw [hM4, bk_up_e]) _ ?_
          · intro M' v7 F'
            have ih := ih M' (bkFr_trans F4 F') v7
            rw [show (i + 1).toNat = i.toNat + 1 by omega] at ih
            have e : bkShO N x s m (i.toNat + 1) = bkShY N (bk_w32 (x + i)) s (bkCm N m).toNat (bkShO N x s m i.toNat) := by
              show bkShY N (bk_w32 (x + (i.toNat : Nat))) s _ _ = _
              rw [Int.toNat_of_nonneg h0]
            rw [e] at ih
            exact ih
        · rintro M1 F v7
          rw [LG_91_23]
          exact ⟨fun _ => ⟨rfl, F, rfl⟩, fun w => absurd (Int.le_refl _) w⟩
      · rw [if_neg hm] at z
        exact absurd rfl z
    · have hm : ¬ (1 ≤ m ∧ m ≤ 10 ∧ 1 ≤ n ∧ n ≤ 30) := fun hm => by rw [if_pos hm] at z; exact z (by decide)
      exact ⟨rfl, bkFr_refl _ _, (if_neg (fun w => hm w.2.2)).symm⟩
  · rw [if_neg hs]
    exact ⟨rfl, fun _ => ⟨rfl, bkFr_refl _ _, (if_neg (fun w => hs ⟨w.1, w.2.1⟩)).symm⟩, fun z => absurd rfl z⟩
