theorem S45 {d p : Nat} {Q : bk_Q} {y : Int} {M : bk_M} (h : bkNow M p) : bk_C (d + 1) 0 45 [bk_c 11 0, bk_i y] M Q ↔ Q 0 (if 0 ≤ y ∧ y < M 58 0 3 then 1 else 0) M := by
  obtain ⟨hp, hP, ⟨b1, b2, b3, b4, b5, b6, b7⟩, -⟩ := bkNow_e h
  rw [E_45, hp, b4]
  grind
def bkAgo (N : Int → Int) (k y : Int) : Int := if 1 ≤ k ∧ k ≤ N 194 ∧ 0 ≤ y ∧ y < N 3 then N (146 + 6 * (k - 1) + y) else -1
theorem S90 {d p : Nat} {Q : bk_Q} {k y : Int} {M : bk_M} (h : bkNow M p) : bk_C (d + 2) 0 90 [bk_c 11 0, bk_i k, bk_i y] M Q ↔ Q 0 (bkAgo (M 58 0) k y) M := by
  refine bk_det (fun Q hQ => ?_) Q
  obtain ⟨n1, n2, n3, n4, n5, n6, n7, n8, n9, n10, n11, n12, n13, n14⟩ := bkNow_md h
  obtain ⟨hp, hP, ⟨b1, b2, b3, b4, b5, b6, b7⟩, ⟨c1, c2, c3, c4, c5, c6, c7, c8⟩⟩ := bkNow_e h
  have e8 := c8 k y
  rw [b4, c1] at e8
  rw [E_90, S45 h, hp, c1]
  unfold bkAgo at hQ
  have hl : M 58 0 194 ≤ 8 ∧ M 58 0 194 ≤ M 58 0 80 ∧ (k ≤ 8 → k ≤ M 58 0 80 → k ≤ M 58 0 194) := by
    by_cases z : M 58 0 80 < 8
    · rw [if_pos z] at n14; omega
    · rw [if_neg z] at n14; omega
  by_cases hc : 1 ≤ k ∧ k ≤ M 58 0 194 ∧ 0 ≤ y ∧ y < M 58 0 3
  · rw [if_pos hc, ← e8 (by omega) (by omega) (by omega) (by omega) (by omega)] at hQ
    unfold bk_r32
    rw [if_pos (by omega)]
    refine ⟨fun z => absurd z (by omega), fun _ => ⟨fun z => absurd z (by omega), fun _ => ⟨fun z => absurd z (by omega), fun _ => ⟨rfl, fun _ => ⟨by omega, by omega, by omega, by omega, by omega, ?_⟩, fun z => absurd (by decide) z⟩⟩⟩⟩
    rw [Int.mul_comm _ 6]
    exact hQ
  · rw [if_neg hc] at hQ
    refine ⟨fun _ => hQ, fun z1 => ⟨fun _ => hQ, fun z2 => ⟨fun _ => hQ, fun z3 => ⟨rfl, fun z4 => absurd ?_ z4, fun _ => hQ⟩⟩⟩⟩
    rw [if_neg (by omega)]
theorem S226 {d : Nat} {Q : bk_Q} {k y : Int} {M : bk_M} (h : bkMd (M 58 0)) : bk_C (d + 3) 0 226 [bk_c 12 0, bk_i k, bk_i y] M Q ↔ Q 0 (bkAgo (M 58 0) k y) (bk_up M 12 0 0 0) := by
  refine bk_det (fun Q hQ => ?_) Q
  have e : bk_up M 12 0 0 0 58 0 = M 58 0 := bk_upk (by decide)
  rw [← e] at h hQ
  rw [E_226]
  simp only [forall_eq]
  generalize bk_up M 12 0 0 0 = M1 at *
  clear e
  obtain ⟨n1, n2, n3, n4, n5, n6, n7, n8, n9, n10, n11, n12, n13, n14⟩ := id h
  rw [S157, S202 h]
  unfold bkAgo at hQ
  have hl : M1 58 0 194 ≤ 8 := by
    by_cases z : M1 58 0 80 < 8
    · rw [if_pos z] at n14; omega
    · rw [if_neg z] at n14; omega
  by_cases hc : 1 ≤ k ∧ k ≤ M1 58 0 194 ∧ 0 ≤ y ∧ y < M1 58 0 3
  · rw [if_pos hc] at hQ
    unfold bk_r32
    rw [if_pos (by omega), if_pos (by omega)]
    exact ⟨by omega, rfl, fun z => absurd z (by decide), fun _ => ⟨rfl, fun z => absurd z (by decide), fun _ => ⟨by omega, by omega, by omega, by omega, by omega, hQ⟩⟩⟩
  · rw [if_neg hc] at hQ
    refine ⟨by omega, rfl, fun _ => hQ, fun z1 => ⟨rfl, fun _ => hQ, fun z2 => ?_⟩⟩
    exfalso
    apply hc
    by_cases q1 : 1 ≤ k ∧ k ≤ M1 58 0 194
    · by_cases q2 : 0 ≤ y ∧ y < M1 58 0 3
      · omega
      · exact absurd (if_neg q2) z2
    · exact absurd (if_neg q1) z1
theorem C28 {d p : Nat} {k y : Int} {M : bk_M} (h : bkNow M p) : bkBoth (d + 3) 90 226 [bk_i k, bk_i y] M :=
  ⟨_, fun _ => S90 (d := d + 1) h, fun _ => S226 (bkNow_md h)⟩
/-- the richest of a bank, the first of them -/
def bkBest (N : Int → Int) (s : Int) : Nat → Int
  | 0 => -1
  | n + 1 => if bkWho N n = s ∧ (bkBest N s n = -1 ∨ N (62 + bkBest N s n) < N (62 + n)) then n else bkBest N s n
theorem bkBest_b (N : Int → Int) (s : Int) : ∀ n : Nat, bkBest N s n = -1 ∨ (0 ≤ bkBest N s n ∧ bkBest N s n < n)
  | 0 => .inl rfl
  | n + 1 => by
    have := bkBest_b N s n
    unfold bkBest
    split <;> omega
theorem bkBest_s (N : Int → Int) (s : Int) {f : Int} (h : 0 ≤ f) : bkBest N s (f + 1).toNat = if bkWho N f = s ∧ (bkBest N s f.toNat = -1 ∨ N (62 + bkBest N s f.toNat) < N (62 + f)) then f else bkBest N s f.toNat := by
  rw [show (f + 1).toNat = f.toNat + 1 by omega]
  have e : ((f.toNat : Nat) : Int) = f := by omega
  show (if bkWho N (f.toNat : Nat) = s ∧ (bkBest N s f.toNat = -1 ∨ N (62 + bkBest N s f.toNat) < N (62 + (f.toNat : Nat))) then ((f.toNat : Nat) : Int) else bkBest N s f.toNat) = _
  rw [e]
def bkRich (N : Int → Int) (s : Int) : Int := if 0 ≤ s ∧ s ≤ 1 then bkBest N s (N 0).toNat else -1
theorem S252 {d : Nat} {Q : bk_Q} {s : Int} {M : bk_M} (h : bkMd (M 58 0)) : bk_C (d + 4) 0 252 [bk_c 12 0, bk_i s] M Q ↔ Q 0 (bkRich (M 58 0) s) (bk_up M 12 0 0 0) := by
  refine bk_det (fun Q hQ => ?_) Q
  have e : bk_up M 12 0 0 0 58 0 = M 58 0 := bk_upk (by decide)
  rw [← e] at h hQ
  rw [E_252]
  simp only [forall_eq]
  generalize bk_up M 12 0 0 0 = M1 at *
  clear e
  obtain ⟨n1, n2, n3, n4, n5, n6, n7, n8, n9, n10, n11, n12, n13, n14⟩ := id h
  rw [S157]
  unfold bkRich at hQ
  by_cases hc : 0 ≤ s ∧ s ≤ 1
  · rw [if_pos hc] at hQ
    rw [if_pos hc]
    refine ⟨rfl, fun _ => ?_, fun z => absurd (by decide) z⟩
    refine bk_for (W := fun f => bk_wp (bk_C (d + 3)) P_252 Q 0 20 [bk_c 12 0, bk_i s, bk_i (bkBest (M1 58 0) s f.toNat), bk_i f] [] M1) (n := M1 58 0 0) n5.1 (fun f h0 h1 ih => ?_) ?_
    · have hb := bkBest_b (M1 58 0) s f.toNat
      rw [bkBest_s _ _ h0] at ih
      rw [L_252_20, S194 h h0 h1]
      unfold bk_r32
      refine ⟨by omega, fun z => absurd z (by omega), fun _ => ⟨rfl, fun q => ⟨by omega, ?_⟩, fun q => ⟨fun q2 => ⟨by omega, ?_⟩, fun q2 => ⟨by omega, by omega, by omega, by omega, fun q3 => ⟨by omega, ?_⟩, fun q3 => ⟨by omega, ?_⟩⟩⟩⟩⟩
      · rwa [if_neg (fun w => q w.1)] at ih
      · rwa [if_pos ⟨Decidable.not_not.1 q, .inl q2⟩] at ih
      · rwa [if_neg (fun w => w.2.elim q2 (fun w => absurd w (by omega)))] at ih
      · rwa [if_pos ⟨Decidable.not_not.1 q, .inr (by omega)⟩] at ih
    · rw [L_252_20]
      exact ⟨by omega, fun _ => hQ, fun z => absurd (Int.le_refl _) z⟩
  · rw [if_neg hc] at hQ
    rw [if_neg hc]
    exact ⟨rfl, fun z => absurd rfl z, fun _ => hQ⟩
theorem S104 {d p : Nat} {Q : bk_Q} {s : Int} {M : bk_M} (h : bkNow M p) : bk_C (d + 2) 0 104 [bk_c 11 0, bk_i s] M Q ↔ Q 0 (bkRich (M 58 0) s) M := by
  refine bk_det (fun Q hQ => ?_) Q
  obtain ⟨n1, n2, n3, n4, n5, n6, n7, n8, n9, n10, n11, n12, n13, n14⟩ := bkNow_md h
  obtain ⟨hp, hP, ⟨b1, b2, b3, b4, b5, b6, b7⟩, ⟨c1, c2, c3, c4, c5, c6, c7, c8⟩⟩ := bkNow_e h
  rw [E_104, S47]
  unfold bkRich at hQ
  by_cases hc : 0 ≤ s ∧ s ≤ 1
  · rw [if_pos hc] at hQ
    rw [if_pos hc]
    refine ⟨rfl, fun _ => ?_, fun z => absurd (by decide) z⟩
    refine bk_for (W := fun f => bk_wp (bk_C (d + 1)) P_104 Q 0 16 [bk_c 11 0, bk_i s, bk_i (bkBest (M 58 0) s f.toNat), bk_i (if bkBest (M 58 0) s f.toNat = -1 then 0 else M 58 0 (62 + bkBest (M 58 0) s f.toNat)), bk_i f] [] M) (n := M 58 0 0) n5.1 (fun f h0 h1 ih => ?_) ?_
    · have hb := bkBest_b (M 58 0) s f.toNat
      have q := b7 f h0 (by omega)
      have q2 := n10 f h0 h1
      have q3 := c4 (M 58 0 (52 + f)) (by omega) (by omega)
      simp only [bkBest_s _ _ h0] at ih
      rw [L_104_16, hp, b1, S41 (.inl rfl) (by omega) (by omega), q.1, q.2.1, bkBank_side (by omega) (by omega), q3]
      unfold bk_r32
      show _ ∧ _
      have ew : bkSide (M 58 0 (42 + f)) (M 58 0 (121 + M 58 0 (52 + f))) = bkWho (M 58 0) f := rfl
      rw [ew]
      generalize bkBest (M 58 0) s f.toNat = b at *
      refine ⟨fun z => absurd z (by omega), fun _ => ⟨by omega, fun z => ⟨by omega, ?_⟩, fun z => ⟨by omega, rfl, fun z2 => ⟨by omega, ?_⟩, fun z2 => ⟨by omega, by omega, ?_⟩⟩⟩⟩
      · have hb1 : ¬ b = -1 := fun w => by rw [if_pos w] at z; omega
        rw [if_neg hb1] at z
        have hn : ¬ (bkWho (M 58 0) f = s ∧ (b = -1 ∨ M 58 0 (62 + b) < M 58 0 (62 + f))) := fun w => w.2.elim hb1 (fun w => absurd w (by omega))
        rwa [if_neg hn] at ih
      · have hn : ¬ (bkWho (M 58 0) f = s ∧ (b = -1 ∨ M 58 0 (62 + b) < M 58 0 (62 + f))) := fun w => z2 w.1
        rwa [if_neg hn] at ih
      · have hn : bkWho (M 58 0) f = s ∧ (b = -1 ∨ M 58 0 (62 + b) < M 58 0 (62 + f)) := ⟨Decidable.not_not.1 z2, by
          by_cases w : b = -1
          · exact .inl w
          · rw [if_neg w] at z; exact .inr (by omega)⟩
        rw [if_pos hn, if_neg (by omega)] at ih
        rw [hp, q.2.1]
        exact ih
    · rw [L_104_16, hp, b1]
      exact ⟨fun _ => hQ, fun z => absurd (Int.le_refl _) z⟩
  · rw [if_neg hc] at hQ
    rw [if_neg hc]
    exact ⟨rfl, fun z => absurd rfl z, fun _ => hQ⟩
theorem C34 {d p : Nat} {s : Int} {M : bk_M} (h : bkNow M p) : bkBoth (d + 4) 104 252 [bk_i s] M :=
  ⟨_, fun _ => S104 (d := d + 2) h, fun _ => S252 (bkNow_md h)⟩
