/-! Springs one behind the other. -/
theorem bkWho_b (N : Int → Int) (f : Int) : 0 ≤ bkWho N f ∧ bkWho N f ≤ 2 := by
  unfold bkWho bkSide
  (repeat' split) <;> omega
theorem bkMd_take {N b : Int → Int} (h : bkMd N) (h4 : N 80 < 400) (hb : ∀ y, 0 ≤ y → y < N 3 → 0 ≤ b y ∧ b y < N 2) : bkMd (bkTake N b) := by
  obtain ⟨n1, n2, n3, n4, n5, n6, n7, n8, n9, n10, n11, n12, n13, n14⟩ := h
  have t : ∀ j, (j < 80 ∨ (81 ≤ j ∧ j < 121) ∨ (127 ≤ j ∧ j < 136) ∨ 195 ≤ j) → bkTake N b j = N j := fun j hj => bkTake_lo (by omega) (by omega) hj (by omega) (by omega)
  unfold bkMd
  rw [t 0 (by omega), t 1 (by omega), t 2 (by omega), t 3 (by omega), t 4 (by omega), t 5 (by omega), bkTake_80, bkTake_194 (by omega) (by omega)]
  refine ⟨n1, n2, n3, n4, n5, n6, by omega, fun c h0 h1 => ?_, fun y h0 h1 => ?_, fun f h0 h1 => ?_, fun m h0 h1 => ?_, fun s h0 h1 => ?_, fun f h0 h1 h2 => ?_, ?_⟩
  · rw [t _ (by omega)]; exact n8 c h0 h1
  · rw [bkTake_bed h0 h1]; exact hb y h0 h1
  · have := n10 f h0 h1
    have := bkCh_b N b f
    rw [t _ (by omega), t _ (by omega), t _ (by omega), bkTake_ch (by omega) (by omega) h0 (by omega), if_pos h1]
    omega
  · rw [t _ (by omega), t _ (by omega)]; exact n11 m h0 h1
  · rw [t _ (by omega)]; exact n12 s h0 h1
  · rw [bkTake_ch (by omega) (by omega) h0 h1, if_neg (by omega)]; exact n13 f h0 h1 h2
  · split at n14 <;> split <;> split <;> omega
theorem bkEarn_b {N : Int → Int} (h : bkMw N) (s : Int) : 0 ≤ bkEarn N s := by
  have := bkWor_bw h s
  have := bkSum_le (g := bkMil N s) (c := 2) (n := (N 1).toNat) (fun k hk => by unfold bkMil; split <;> omega)
  unfold bkEarn
  omega
theorem bkEarnR_o {N : Int → Int} {j : Int} (h : j ≠ 81) (h2 : j ≠ 82) : bkEarnR N j = N j := by
  unfold bkEarnR
  rw [if_neg h, if_neg h2]
theorem bkMd_earn {N : Int → Int} (h : bkMd N) : bkMd (bkEarnR N) := by
  have hw := bkMd_w h
  obtain ⟨n1, n2, n3, n4, n5, n6, n7, n8, n9, n10, n11, n12, n13, n14⟩ := h
  have t : ∀ j, j ≠ 81 → j ≠ 82 → bkEarnR N j = N j := fun j h1 h2 => bkEarnR_o h1 h2
  unfold bkMd
  rw [t 0 (by omega) (by omega), t 1 (by omega) (by omega), t 2 (by omega) (by omega), t 3 (by omega) (by omega), t 4 (by omega) (by omega), t 5 (by omega) (by omega), t 80 (by omega) (by omega), t 194 (by omega) (by omega)]
  refine ⟨n1, n2, n3, n4, n5, n6, n7, fun c h0 h1 => ?_, fun y h0 h1 => ?_, fun f h0 h1 => ?_, fun m h0 h1 => ?_, fun s h0 h1 => ?_, fun f h0 h1 h2 => ?_, n14⟩
  · rw [t _ (by omega) (by omega)]; exact n8 c h0 h1
  · rw [t _ (by omega) (by omega)]; exact n9 y h0 h1
  · rw [t _ (by omega) (by omega), t _ (by omega) (by omega), t _ (by omega) (by omega), t _ (by omega) (by omega)]; exact n10 f h0 h1
  · rw [t _ (by omega) (by omega), t _ (by omega) (by omega)]; exact n11 m h0 h1
  · have e0 := n12 0 (by omega) (by omega)
    have e1 := n12 1 (by omega) (by omega)
    have w0 := bkEarn_b hw 0
    have w1 := bkEarn_b hw 1
    have hs : s = 0 ∨ s = 1 := by omega
    unfold bkEarnR
    rcases hs with rfl | rfl
    · rw [if_pos (by decide)]; exact bkMost_b (Int.add_nonneg e0.1 w0)
    · rw [if_neg (by decide), if_pos (by decide)]; exact bkMost_b (Int.add_nonneg e1.1 w1)
  · rw [t _ (by omega) (by omega)]; exact n13 f h0 h1 h2
theorem bkBs_b {N : Int → Int} (h : bkMd N) (x : Int) : ∀ y, 0 ≤ y → y < N 3 → 0 ≤ bkBs N x y ∧ bkBs N x y < N 2 := fun y z1 z2 => by
  have hg := bkGs_b h x
  obtain ⟨n1, n2, n3, -⟩ := h
  have := bkBd_r hg (S := N 4) (y := y) (by omega) (by omega) (by omega) z1 z2
  exact ⟨this.1, this.2.1⟩
theorem bkMd_spr {N : Int → Int} (h : bkMd N) (h4 : N 80 < 400) (x : Int) : bkMd (bkSpr N x) := bkMd_earn (bkMd_take h h4 (bkBs_b h x))
theorem bkSpr_lo {N : Int → Int} (h : bkMd N) (x : Int) {j : Int} (hj : j < 80 ∨ 195 ≤ j) : bkSpr N x j = N j := by
  obtain ⟨n1, n2, n3, n4, n5, -⟩ := h
  unfold bkSpr
  rw [bkEarnR_o (by omega) (by omega), bkTake_lo (by omega) (by omega) (by omega) (by omega) (by omega)]
theorem bkSpr_80 {N : Int → Int} (x : Int) : bkSpr N x 80 = N 80 + 1 := by
  unfold bkSpr
  rw [bkEarnR_o (by omega) (by omega), bkTake_80]
theorem bkSd_add (a : Nat) (x : Int) : ∀ b : Nat, bkSd (b + a) x = bkSd b (bkSd a x)
  | 0 => by rw [Nat.zero_add]; rfl
  | b + 1 => by
    rw [show b + 1 + a = (b + a) + 1 by omega]
    show bkSeed (bkSd (b + a) x) = bkSeed (bkSd b (bkSd a x))
    rw [bkSd_add a x b]
/-- the seed, the row behind n springs -/
def bkYrX (N : Int → Int) (x : Int) (n : Nat) : Int := bkSd (n * (N 2 * N 3).toNat) x
def bkYrN (N : Int → Int) (x : Int) : Nat → Int → Int
  | 0 => N
  | n + 1 => bkSpr (bkYrN N x n) (bkYrX N x n)
theorem bkYrX_s (N : Int → Int) (x : Int) (n : Nat) : bkSd (N 2 * N 3).toNat (bkYrX N x n) = bkYrX N x (n + 1) := by
  unfold bkYrX
  rw [← bkSd_add, show (n + 1) * (N 2 * N 3).toNat = (N 2 * N 3).toNat + n * (N 2 * N 3).toNat by rw [Nat.add_mul, Nat.one_mul, Nat.add_comm]]
theorem bkYrN_b {N : Int → Int} (h : bkMd N) (x : Int) : ∀ n : Nat, N 80 + n ≤ 400 → bkMd (bkYrN N x n) ∧ bkYrN N x n 80 = N 80 + n ∧ ∀ j, (j < 80 ∨ 195 ≤ j) → bkYrN N x n j = N j
  | 0, _ => ⟨h, (Int.add_zero _).symm, fun _ _ => rfl⟩
  | n + 1, hn => by
    obtain ⟨i1, i2, i3⟩ := bkYrN_b h x n (by omega)
    refine ⟨bkMd_spr i1 (by omega) _, ?_, fun j hj => ?_⟩
    · show bkSpr (bkYrN N x n) _ 80 = _
      rw [bkSpr_80, i2]; omega
    · show bkSpr (bkYrN N x n) _ j = _
      rw [bkSpr_lo i1 _ hj, i3 j hj]
/-- how many springs come of n -/
def bkCm (N : Int → Int) (n : Int) : Int := if n ≤ 400 - N 80 then n else 400 - N 80
theorem S70 {d i p : Nat} {s n : Int} {M : bk_M} {N : Int → Int} (hR : bkRel M p N) (hn : 0 ≤ n ∧ n ≤ 100) (hs : M 8 i 3 = s) :
    bk_C (d + 5) 0 70 [bk_c 8 i, bk_c 5 p, bk_i n] M (fun t r M' => t = 0 ∧ bkFr (bkA65 i p) M M' ∧ bkRel M' p (bkYrN N s (bkCm N n).toNat) ∧ r = bkCm N n ∧ M' 8 i 3 = bkYrX N s (bkCm N n).toNat) := by
  have hN := bkRel_md hR
  have n7 := hN.2.2.2.2.2.2.1
  have hc : 0 ≤ bkCm N n ∧ bkCm N n ≤ n ∧ bkCm N n ≤ 400 - N 80 ∧ (bkCm N n = n ∨ bkCm N n = 400 - N 80) := by unfold bkCm; split <;> omega
  rw [E_70]
  refine bk_loopS (W := fun k M1 => bk_wp (bk_C (d + 4)) P_70 (fun t r M' => t = 0 ∧ bkFr (bkA65 i p) M M' ∧ bkRel M' p (bkYrN N s (bkCm N n).toNat) ∧ r = bkCm N n ∧ M' 8 i 3 = bkYrX N s (bkCm N n).toNat) 0 5 [bk_c 8 i, bk_c 5 p, bk_i n, bk_i k, bk_i k] [] M1) (s := 0) (n := bkCm N n)
    (fun k M1 => bkFr (bkA65 i p) M M1 ∧ bkRel M1 p (bkYrN N s k.toNat) ∧ M1 8 i 3 = bkYrX N s k.toNat) (by omega) ?_ ?_ (M := M) ⟨bkFr_refl _ _, hR, ?_⟩
  · rintro k M1 h0 h1 ⟨F, R, e⟩ ih
    obtain ⟨i1, i2, i3⟩ := bkYrN_b hN s k.toNat (by omega)
    have g := R.2.2.1
    rw [L_70_5]
    unfold bk_r32
    refine ⟨fun z => absurd z (by omega), fun _ => ⟨fun z => absurd z (by omega), fun _ => ?_⟩⟩
    refine bk_use (S65 (d := d) R (by omega) e) ?_
    rintro r M2 ⟨F2, R2, -, e2⟩
    refine ⟨rfl, by omega, by omega, ih M2 ⟨bkFr_trans F F2, ?_, ?_⟩⟩
    · rw [show (k + 1).toNat = k.toNat + 1 by omega]; exact R2
    · rw [show (k + 1).toNat = k.toNat + 1 by omega, ← bkYrX_s, e2, i3 2 (by omega), i3 3 (by omega)]
  · rintro M1 ⟨F, R, e⟩
    obtain ⟨i1, i2, i3⟩ := bkYrN_b hN s (bkCm N n).toNat (by omega)
    have g := R.2.2.1
    rw [L_70_5]
    exact ⟨fun _ => ⟨rfl, F, R, rfl, e⟩, fun z => ⟨fun _ => ⟨rfl, F, R, rfl, e⟩, fun w => absurd w (by omega)⟩⟩
  · rw [hs]; unfold bkYrX; rw [show (0 : Int).toNat = 0 by rfl, Nat.zero_mul]; rfl
theorem S225 {d : Nat} {s n : Int} {M : bk_M} (hN : bkMd (M 58 0)) (hn : 0 ≤ n ∧ n ≤ 100) (hi : ∀ c, 0 ≤ c → c < 36 → M 69 0 c = 0) :
    bk_C (d + 7) 0 225 [bk_c 12 0, bk_i n, bk_i s] M (fun t r M' => t = 0 ∧ bkFr bkA219 M M' ∧ M' 58 0 = bkYrN (M 58 0) s (bkCm (M 58 0) n).toNat ∧ r = bkCm (M 58 0) n ∧ (∀ j, j ≠ 30 → M' 12 0 j = M 12 0 j) ∧ ∀ c, 0 ≤ c → c < 36 → M' 69 0 c = 0) := by
  have n7 := hN.2.2.2.2.2.2.1
  have hc : 0 ≤ bkCm (M 58 0) n ∧ bkCm (M 58 0) n ≤ n ∧ bkCm (M 58 0) n ≤ 400 - M 58 0 80 := by unfold bkCm; split <;> omega
  rw [E_225]
  intro M1 hM1
  have e58 : M1 58 0 = M 58 0 := by rw [hM1, bk_up_f (by decide)]
  rw [e58]
  unfold bk_r32
  refine ⟨by omega, by omega, ?_⟩
  rw [S158]
  refine ⟨rfl, ?_⟩
  have ec : (if n ≤ 400 - M 58 0 80 then n else 400 - M 58 0 80) = bkCm (M 58 0) n := rfl
  rw [ec]
  refine bk_loopS (W := fun k M2 => bk_wp (bk_C (d + 6)) P_225 (fun t r M' => t = 0 ∧ bkFr bkA219 M M' ∧ M' 58 0 = bkYrN (M 58 0) s (bkCm (M 58 0) n).toNat ∧ r = bkCm (M 58 0) n ∧ (∀ j, j ≠ 30 → M' 12 0 j = M 12 0 j) ∧ ∀ c, 0 ≤ c → c < 36 → M' 69 0 c = 0) 0 24 [bk_c 12 0, bk_i n, bk_i s, bk_i (bkCm (M 58 0) n), bk_i k] [] M2) (s := 0) (n := bkCm (M 58 0) n)
    (fun k M2 => bkFr bkA219 M M2 ∧ M2 58 0 = bkYrN (M 58 0) s k.toNat ∧ (∀ j, j ≠ 30 → M2 12 0 j = M 12 0 j) ∧ M2 12 0 30 = bkYrX (M 58 0) s k.toNat ∧ ∀ c, 0 ≤ c → c < 36 → M2 69 0 c = 0) (by omega) ?_ ?_ (M := M1) ⟨?_, e58, ?_, ?_, ?_⟩
  · rintro k M2 h0 h1 ⟨F, R, e12, e30, I⟩ ih
    obtain ⟨i1, i2, i3⟩ := bkYrN_b hN s k.toNat (by omega)
    rw [L_225_24]
    unfold bk_r32
    refine ⟨fun z => absurd z (by omega), fun _ => ?_⟩
    refine bk_use (S219 (d := d) (by rw [R]; exact i1) (by rw [R]; omega) e30) ?_
    rintro r M3 ⟨F2, R2, -, f12, f30, I2⟩
    refine ⟨rfl, by omega, ih M3 ⟨bkFr_trans F F2, ?_, fun j hj => by rw [f12 j hj, e12 j hj], ?_, I2⟩⟩
    · rw [show (k + 1).toNat = k.toNat + 1 by omega, R2, R]; rfl
    · rw [show (k + 1).toNat = k.toNat + 1 by omega, ← bkYrX_s, f30, R, i3 2 (by omega), i3 3 (by omega)]
  · rintro M2 ⟨F, R, e12, e30, I⟩
    rw [L_225_24]
    exact ⟨fun _ => ⟨rfl, F, R, rfl, e12, I⟩, fun z => absurd (Int.le_refl _) z⟩
  · rw [hM1]; exact bkFr_up (bkFr_refl _ _) (by unfold bkA219; omega)
  · intro j hj; rw [hM1, bk_up_s hj]
  · rw [hM1, bk_up_e]; unfold bkYrX; rw [show (0 : Int).toNat = 0 by rfl, Nat.zero_mul]; rfl
  · intro c h0 h1; rw [hM1, bk_up_f (by decide)]; exact hi c h0 h1
/-! The reference lays aside, and takes back. -/
theorem S244 {d : Nat} {Q : bk_Q} {M : bk_M} : bk_C (d + 1) 0 244 [bk_c 12 0] M Q ↔ Q 0 0 (bkFill M 62 0 0 115 fun c => M 58 0 (80 + c)) := by
  refine bk_det (fun Q hQ => ?_) Q
  rw [E_244]
  have := bk_for (W := fun c => bk_wp (bk_C d) P_244 Q 0 2 [bk_c 12 0, bk_i c] [] (bkFill M 62 0 0 c fun c => M 58 0 (80 + c))) (n := 115) (by omega) (fun c h0 h1 ih => ?_) ?_
  · rwa [bkFill_0] at this
  · rw [L_244_2]
    rw [bkFill_s _ _ _ _ _ h0, Int.zero_add] at ih
    unfold bk_r32
    refine ⟨fun z => absurd z (by omega), fun _ => ⟨by omega, by omega, by omega, ?_⟩⟩
    intro M1 hM1
    rw [hM1, bkFill_o (by omega)]
    exact ⟨by omega, ih⟩
  · rw [L_244_2]
    exact ⟨fun _ => hQ, fun z => absurd (Int.le_refl _) z⟩
theorem S245 {d : Nat} {Q : bk_Q} {M : bk_M} : bk_C (d + 1) 0 245 [bk_c 12 0] M Q ↔ Q 0 0 (bkRw M fun j => if 80 ≤ j ∧ j < 195 then M 62 0 (j - 80) else M 58 0 j) := by
  refine bk_det (fun Q hQ => ?_) Q
  rw [E_245]
  have := bk_for (W := fun c => bk_wp (bk_C d) P_245 Q 0 2 [bk_c 12 0, bk_i c] [] (bkRw M fun j => if 80 ≤ j ∧ j < 80 + c then M 62 0 (j - 80) else M 58 0 j)) (n := 115) (by omega) (fun c h0 h1 ih => ?_) ?_
  · rw [show (fun j => if 80 ≤ j ∧ j < 80 + 0 then M 62 0 (j - 80) else M 58 0 j) = M 58 0 by funext j; rw [if_neg (by omega)], bkRw_self] at this
    exact this
  · rw [L_245_2]
    unfold bk_r32
    refine ⟨fun z => absurd z (by omega), fun _ => ⟨by omega, by omega, by omega, ?_⟩⟩
    intro M1 hM1
    rw [hM1, bkRw_up, bkRw_o (by decide)]
    refine ⟨by omega, ?_⟩
    refine Eq.mp ?_ ih
    congr 2
    funext j
    by_cases e : j = 80 + c
    · rw [if_pos (by omega), if_pos e, show j - 80 = c by omega]
    · rw [if_neg e]
      (repeat' split) <;> first | rfl | (exfalso; omega) | (congr 1; omega) | omega
  · rw [L_245_2]
    exact ⟨fun _ => hQ, fun z => absurd (Int.le_refl _) z⟩
theorem bkFld_rel {M : bk_M} {p : Nat} {N : Int → Int} (h : bkRel M p N) (s : Int) : bkWorth (M 31 p) (bkIs M p 29 p s) (M 5 p 6).toNat = bkWor N s ∧ bkBits (bkIs M p 29 p s) (M 5 p 6).toNat = bkFld N s := by
  have h2 := bkRel_now.1 h
  have e : bkIs (bkW M p N) p 29 p s = bkIs M p 29 p s := by
    unfold bkIs
    rw [bkW_o (by decide) (by decide), bkW_o (by decide) (by decide)]
  have w := bkIs_Ws h2 s
  rw [e, bkW_o (by decide) (by decide), bkW_58] at w
  have b := h.2.1
  unfold bkWor bkFld
  rw [← b.1]
  exact ⟨bkWorth_congr fun k hk => ⟨w k hk, (b.2.2.2.2.2.2 k (by omega) (by omega)).2.1⟩, bkBits_congr w⟩
theorem S49r {d p : Nat} {Q : bk_Q} {s : Int} {M : bk_M} {N : Int → Int} (h : bkRel M p N) : bk_C (d + 2) 0 49 [bk_c 5 p, bk_c 29 p, bk_i s] M Q ↔ Q 0 (bkWor N s) M := by
  rw [S49 (.inl rfl) h.1, (bkFld_rel h s).1]
theorem S48r {d p : Nat} {Q : bk_Q} {s : Int} {M : bk_M} {N : Int → Int} (h : bkRel M p N) : bk_C (d + 2) 0 48 [bk_c 5 p, bk_c 29 p, bk_i s] M Q ↔ Q 0 (bkFld N s) M := by
  rw [S48 (.inl rfl) h.1, (bkFld_rel h s).2]
