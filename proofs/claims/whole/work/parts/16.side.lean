/-! What the sides and the whole plain answer. -/
theorem S205w {d : Nat} {Q : bk_Q} {set : Int} {M : bk_M} (hw : ∀ f, 0 ≤ f → f < 10 → set / 2 ^ f.toNat % 2 = 1 → 0 ≤ M 58 0 (62 + f) ∧ M 58 0 (62 + f) ≤ 20) : bk_C (d + 2) 0 205 [bk_c 12 0, bk_i set] M Q ↔ Q 0 (bkWorth (fun f => M 58 0 (62 + f)) (fun f => decide (set / 2 ^ f.toNat % 2 = 1)) 10) M := by
  refine bk_det (fun Q hQ => ?_) Q
  rw [E_205]
  refine bk_forS (W := fun a f => bk_wp (bk_C (d + 1)) P_205 Q 0 4 [bk_c 12 0, bk_i set, bk_i a, bk_i f] [] M) (g := fun f => if decide (set / 2 ^ f.toNat % 2 = 1) = true then M 58 0 (62 + f) else 0) (c := 20) (n := 10) (by omega) (fun f h0 h1 => ?_) (fun f a h0 h1 h2 h3 h => ?_) ?_
  · have := hw f h0 h1
    show 0 ≤ (if decide (set / 2 ^ f.toNat % 2 = 1) = true then M 58 0 (62 + f) else 0) ∧ (if decide (set / 2 ^ f.toNat % 2 = 1) = true then M 58 0 (62 + f) else 0) ≤ 20
    by_cases q : set / 2 ^ f.toNat % 2 = 1
    · simp only [q, decide_true, if_true]; exact this q
    · simp only [q, decide_false, Bool.false_eq_true, if_false]; omega
  · rw [L_205_4, E_206, bk_and1]
    unfold bk_r32
    by_cases q : set / 2 ^ f.toNat % 2 = 1
    · have hw := hw f h0 h1 q
      simp only [q, decide_true, if_true] at h
      refine ⟨fun z => absurd z (by omega), fun _ => ⟨by omega, fun z => absurd q z, fun _ => ⟨Or.inr rfl, rfl, fun z => absurd z (by decide), fun _ => ⟨by omega, by omega, by omega, by omega, h⟩⟩⟩⟩
    · simp only [q, decide_false, Bool.false_eq_true, if_false, Int.add_zero] at h
      refine ⟨fun z => absurd z (by omega), fun _ => ⟨by omega, fun _ => ⟨Or.inl rfl, rfl, fun _ => ⟨by omega, h⟩, fun z => absurd rfl z⟩, fun z => absurd q z⟩⟩
  · rw [L_205_4]
    exact ⟨fun _ => hQ, fun q => absurd (Int.le_refl _) q⟩
theorem bkSum_ext {g : Int → Int} {n : Nat} : ∀ m : Nat, n ≤ m → (∀ k : Nat, n ≤ k → k < m → g k = 0) → bkSum g m = bkSum g n
  | 0, h, _ => by rw [show n = 0 by omega]
  | m + 1, h, q => by
    by_cases e : n = m + 1
    · rw [e]
    · have ih := bkSum_ext m (by omega) fun k h0 h1 => q k h0 (by omega)
      show bkSum g m + g m = _
      rw [ih, q m (by omega) (by omega), Int.add_zero]
def bkFld (N : Int → Int) (s : Int) : Int := bkBits (bkWs N s) (N 0).toNat
def bkWor (N : Int → Int) (s : Int) : Int := bkWorth (fun f => N (62 + f)) (bkWs N s) (N 0).toNat
theorem S205s {d : Nat} {Q : bk_Q} {s : Int} {M : bk_M} (hN : bkMd (M 58 0)) : bk_C (d + 2) 0 205 [bk_c 12 0, bk_i (bkFld (M 58 0) s)] M Q ↔ Q 0 (bkWor (M 58 0) s) M := by
  obtain ⟨n1, n2, n3, n4, n5, n6, n7, n8, n9, n10, n11, -⟩ := id hN
  have hb := fun f : Nat => bkBits_get (p := bkWs (M 58 0) s) f (M 58 0 0).toNat
  rw [S205w fun f h0 h1 h2 => ?_]
  · have e : bkWorth (fun f => M 58 0 (62 + f)) (fun f => decide (bkFld (M 58 0) s / 2 ^ f.toNat % 2 = 1)) 10 = bkWor (M 58 0) s := by
      unfold bkWor
      refine (bkSum_ext (n := (M 58 0 0).toNat) 10 (by omega) fun k h0 h1 => ?_).trans (bkWorth_congr fun k hk => ⟨?_, rfl⟩)
      · have := hb k
        rw [if_neg (by omega)] at this
        unfold bkFld
        simp only [Int.toNat_natCast, this]
        rfl
      · have := hb k
        unfold bkFld
        simp only [Int.toNat_natCast, this]
        by_cases z : bkWs (M 58 0) s k = true
        · rw [if_pos ⟨hk, z⟩, z]; rfl
        · rw [if_neg (fun q => z q.2)]; simp [z]
    rw [e]
  · have q := hb f.toNat
    unfold bkFld at h2
    rw [h2] at q
    have : f.toNat < (M 58 0 0).toNat := by
      by_cases z : f.toNat < (M 58 0 0).toNat
      · exact z
      · rw [if_neg (fun w => z w.1)] at q; omega
    have := n10 f h0 (by omega)
    omega
theorem bkIs_Ws {M : bk_M} {p : Nat} (h : bkNow M p) (s : Int) : ∀ k : Nat, k < (M 5 p 6).toNat → bkIs M p 29 p s k = bkWs (M 58 0) s k := by
  intro k hk
  obtain ⟨n1, n2, n3, n4, n5, n6, n7, n8, n9, n10, n11, -⟩ := bkNow_md h
  obtain ⟨hp, hP, ⟨b1, b2, b3, b4, b5, b6, b7⟩, ⟨-, -, -, c4, c5, -⟩⟩ := bkNow_e h
  have q := b7 k (by omega) (by omega)
  have q2 := n10 k (by omega) (by omega)
  unfold bkIs bkWs bkWho
  rw [q.1, bkBank_side (by omega) (by omega), c4 _ (by omega) (by omega)]
theorem S48n {d p : Nat} {Q : bk_Q} {s : Int} {M : bk_M} (h : bkNow M p) : bk_C (d + 2) 0 48 [bk_c 5 p, bk_c 29 p, bk_i s] M Q ↔ Q 0 (bkFld (M 58 0) s) M := by
  rw [S48 (.inl rfl) h.2.1, bkBits_congr (bkIs_Ws h s), (bkNow_e h).2.2.1.1]
  rfl
theorem S49n {d p : Nat} {Q : bk_Q} {s : Int} {M : bk_M} (h : bkNow M p) : bk_C (d + 2) 0 49 [bk_c 5 p, bk_c 29 p, bk_i s] M Q ↔ Q 0 (bkWor (M 58 0) s) M := by
  have b := (bkNow_e h).2.2.1
  have e : bkWorth (M 31 p) (bkIs M p 29 p s) (M 5 p 6).toNat = bkWor (M 58 0) s := by
    unfold bkWor
    rw [← b.1]
    exact bkWorth_congr fun k hk => ⟨bkIs_Ws h s k hk, (b.2.2.2.2.2.2 k (by omega) (by omega)).2.1⟩
  rw [S49 (.inl rfl) h.2.1, e]
theorem S47 {d : Nat} {Q : bk_Q} {s : Int} {M : bk_M} : bk_C (d + 1) 0 47 [bk_i s] M Q ↔ Q 0 (if 0 ≤ s ∧ s ≤ 1 then 1 else 0) M := by
  rw [E_47]; grind
def bkSid (N : Int → Int) (s a : Int) : Int := if 0 ≤ s ∧ s ≤ 1 then (if a = 0 then N (81 + s) else if a = 1 then bkFld N s else if a = 2 then bkWor N s else if a = 3 then N (83 + s) else -1) else -1
theorem S46 {d p : Nat} {Q : bk_Q} {s a : Int} {M : bk_M} (h : bkNow M p) : bk_C (d + 3) 0 46 [bk_c 11 0, bk_i s, bk_i a] M Q ↔ Q 0 (bkSid (M 58 0) s a) M := by
  obtain ⟨hp, hP, -, ⟨c1, c2, -⟩⟩ := bkNow_e h
  rw [E_46, S47, hp, S48n h, S49n h]
  unfold bkSid
  by_cases hc : 0 ≤ s ∧ s ≤ 1
  · have := c2 s hc.1 (by omega)
    rw [if_pos hc, if_pos hc, this.1, this.2]
    grind
  · rw [if_neg hc, if_neg hc]
    grind
theorem S203 {d : Nat} {Q : bk_Q} {s a : Int} {M : bk_M} (h : bkMd (M 58 0)) : bk_C (d + 5) 0 203 [bk_c 12 0, bk_i s, bk_i a] M Q ↔ Q 0 (bkSid (M 58 0) s a) (bk_up M 12 0 0 0) := by
  rw [E_203]
  simp only [forall_eq]
  have e : bk_up M 12 0 0 0 58 0 = M 58 0 := bk_up58
  rw [S157, S204 (by rw [e]; exact h), S204 (by rw [e]; exact h)]
  have e2 := fun Q : bk_Q => @S205s (d + 2) Q s _ (show bkMd (bk_up M 12 0 0 0 58 0) by rw [e]; exact h)
  unfold bkFld at e2
  rw [e2, e]
  unfold bkSid bk_r32 bkFld
  by_cases hc : 0 ≤ s ∧ s ≤ 1
  · rw [if_pos hc, if_pos hc]
    grind
  · rw [if_neg hc, if_neg hc]
    grind
theorem C10 {d p : Nat} {s a : Int} {M : bk_M} (h : bkNow M p) : bkBoth (d + 5) 46 203 [bk_i s, bk_i a] M :=
  ⟨_, fun _ => S46 (d := d + 2) h, fun _ => S203 (bkNow_md h)⟩
