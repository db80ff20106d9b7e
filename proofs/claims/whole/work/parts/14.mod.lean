/-! The reference's row of numbers N = M 58 0: what is read off it. -/
def bkMd (N : Int → Int) : Prop :=
  (3 ≤ N 2 ∧ N 2 ≤ 6) ∧ (2 ≤ N 3 ∧ N 3 ≤ 6) ∧ (0 ≤ N 4 ∧ N 4 < N 2) ∧ (0 ≤ N 5 ∧ N 5 ≤ 5) ∧ (0 ≤ N 0 ∧ N 0 ≤ 10) ∧ (0 ≤ N 1 ∧ N 1 ≤ 3) ∧ (0 ≤ N 80 ∧ N 80 ≤ 400) ∧
  (∀ c, 0 ≤ c → c < 36 → 0 ≤ N (85 + c) ∧ N (85 + c) ≤ 9) ∧ (∀ y, 0 ≤ y → y < N 3 → 0 ≤ N (121 + y) ∧ N (121 + y) < N 2) ∧
  (∀ f, 0 ≤ f → f < N 0 → 0 ≤ N (42 + f) ∧ N (42 + f) < N 2 ∧ 0 ≤ N (52 + f) ∧ N (52 + f) < N 3 ∧ 1 ≤ N (62 + f) ∧ N (62 + f) ≤ 20 ∧ 0 ≤ N (136 + f) ∧ N (136 + f) ≤ N 80) ∧
  (∀ m, 0 ≤ m → m < N 1 → 0 ≤ N (127 + m) ∧ N (127 + m) < N 2 ∧ 0 ≤ N (130 + m) ∧ N (130 + m) < N 3) ∧
  (∀ s, 0 ≤ s → s < 2 → 0 ≤ N (81 + s) ∧ N (81 + s) ≤ 999) ∧ (∀ f, 0 ≤ f → f < 10 → N 0 ≤ f → N (136 + f) = 0) ∧ N 194 = (if N 80 < 8 then N 80 else 8)
theorem bkNow_md {M : bk_M} {p : Nat} (h : bkNow M p) : bkMd (M 58 0) := by
  obtain ⟨-, ⟨a1, a2, a3, a4, a5, a6, a7, a8, a9, a10, a11, a12⟩, ⟨b1, b2, b3, b4, b5, b6, b7⟩, ⟨c1, c2, c3, c4, c5, c6, c7, c8⟩⟩ := bkNow_e h
  refine ⟨by omega, by omega, by omega, by omega, by omega, by omega, by omega, fun c h0 h1 => ?_, fun y h0 h1 => ?_, fun f h0 h1 => ?_, fun m h0 h1 => ?_, fun s h0 h1 => ?_, fun f h0 h1 h2 => ?_, ?_⟩
  · rw [← c3 c h0 h1]; exact a8 c h0 h1
  · rw [← c4 y h0 (by omega), ← b3]; exact a9 y h0 (by omega)
  · have q1 := b7 f h0 (by omega)
    have q2 := a10 f h0 (by omega)
    have q3 := c6 f h0 (by omega)
    rw [if_pos (by omega)] at q3
    omega
  · have q1 := c5 m h0 (by omega)
    have q2 := a11 m h0 (by omega)
    omega
  · rw [← (c2 s h0 h1).1]; exact a12 s h0 h1
  · rw [c6 f h0 h1, if_neg (by omega)]
  · rw [c7, c1]
def bkSide (x b : Int) : Int := if x < b then 0 else if b < x then 1 else 2
theorem bkBank_side {co : Int → Int} {x y : Int} (h0 : 0 ≤ x) (h1 : x < 6) : bkBank co (6 * y + x) = bkSide x (co y) := by
  unfold bkBank bkSide
  rw [show (6 * y + x) % 6 = x by omega, show (6 * y + x) / 6 = y by omega]
  grind
def bkWho (N : Int → Int) (f : Int) : Int := bkSide (N (42 + f)) (N (121 + N (52 + f)))
theorem S196 {d : Nat} {Q : bk_Q} {x b : Int} {M : bk_M} : bk_C (d + 1) 0 196 [bk_i x, bk_i b] M Q ↔ Q 0 (bkSide x b) M := by
  rw [E_196]; unfold bkSide; grind
theorem S195 {d : Nat} {Q : bk_Q} {x y : Int} {M : bk_M} (h0 : 0 ≤ y) (h1 : y < 6) : bk_C (d + 2) 0 195 [bk_c 12 0, bk_i x, bk_i y] M Q ↔ Q 0 (bkSide x (M 58 0 (121 + y))) M := by
  rw [E_195, S196]; unfold bk_r32
  exact ⟨fun h => h.2.2.2, fun h => ⟨by omega, by omega, rfl, h⟩⟩
theorem S194 {d : Nat} {Q : bk_Q} {f : Int} {M : bk_M} (hN : bkMd (M 58 0)) (h0 : 0 ≤ f) (h1 : f < M 58 0 0) : bk_C (d + 3) 0 194 [bk_c 12 0, bk_i f] M Q ↔ Q 0 (bkWho (M 58 0) f) M := by
  obtain ⟨a1, a2, a3, a4, a5, a6, a7, a8, a9, a10, -⟩ := hN
  have := a10 f h0 h1
  rw [E_194, S195 (by omega) (by omega)]; unfold bk_r32
  exact ⟨fun h => h.2.2.2.2.2, fun h => ⟨by omega, by omega, by omega, by omega, rfl, h⟩⟩
theorem S192 {d : Nat} {Q : bk_Q} {f : Int} {M : bk_M} (hN : bkMd (M 58 0)) : bk_C (d + 2) 0 192 [bk_c 12 0, bk_i f] M Q ↔ Q 0 (if 0 ≤ f ∧ f < M 58 0 0 then 1 else 0) M := by
  have := hN.2.2.2.2.1
  simp only [E_192, S157, bk_r32]; grind
theorem S198 {d : Nat} {Q : bk_Q} {f : Int} {M : bk_M} (hN : bkMd (M 58 0)) : bk_C (d + 2) 0 198 [bk_c 12 0, bk_i f] M Q ↔ Q 0 (if 0 ≤ f ∧ f < M 58 0 1 then 1 else 0) M := by
  have := hN.2.2.2.2.2.1
  simp only [E_198, S157, bk_r32]; grind
theorem S202 {d : Nat} {Q : bk_Q} {f : Int} {M : bk_M} (hN : bkMd (M 58 0)) : bk_C (d + 2) 0 202 [bk_c 12 0, bk_i f] M Q ↔ Q 0 (if 0 ≤ f ∧ f < M 58 0 3 then 1 else 0) M := by
  have := hN.2.1
  simp only [E_202, S157, bk_r32]; grind
def bkWs (N : Int → Int) (s : Int) : Int → Bool := fun f => decide (bkWho N f = s)
theorem S204 {d : Nat} {Q : bk_Q} {s : Int} {M : bk_M} (hN : bkMd (M 58 0)) : bk_C (d + 4) 0 204 [bk_c 12 0, bk_i s] M Q ↔ Q 0 (bkBits (bkWs (M 58 0) s) (M 58 0 0).toNat) M := by
  have hf := hN.2.2.2.2.1
  refine bk_det (fun Q hQ => ?_) Q
  rw [E_204]
  refine bk_for (W := fun f => bk_wp (bk_C (d + 3)) P_204 Q 0 4 [bk_c 12 0, bk_i s, bk_i (bkBits (bkWs (M 58 0) s) f.toNat), bk_i f] [] M) (n := M 58 0 0) hf.1 (fun f h0 h1 ih => ?_) ?_
  · rw [L_204_4, S194 hN h0 h1]
    rw [show (f + 1).toNat = f.toNat + 1 by omega, bkBits_succ] at ih
    have hb := bkBits_lt (bkWs (M 58 0) s) f.toNat
    have hp : (2 : Int) ^ f.toNat ≤ 1024 := by
      have key : ∀ f : Nat, f < 10 → (2 : Int) ^ f ≤ 1024 := by decide
      exact key f.toNat (by omega)
    have hp0 : (0 : Int) < 2 ^ f.toNat := Int.pow_pos (by omega)
    have e3 : ((f.toNat : Nat) : Int) = f := by omega
    refine ⟨by omega, fun q => absurd q (by omega), fun _ => ⟨rfl, fun q => ?_, fun q => ?_⟩⟩
    · rw [if_neg (by simpa [bkWs, e3] using q), Int.add_zero] at ih
      exact ⟨by unfold bk_r32; omega, ih⟩
    · rw [if_pos (by simpa [bkWs, e3] using q)] at ih
      rw [Int.one_mul, bkBits_or (by omega)]
      exact ⟨⟨by omega, by omega, by unfold bk_r32; omega⟩, by unfold bk_r32; omega, ih⟩
  · rw [L_204_4]
    exact ⟨by omega, fun _ => hQ, fun q => absurd (Int.le_refl _) q⟩
theorem S205 {d : Nat} {Q : bk_Q} {set : Int} {M : bk_M} (hw : ∀ f, 0 ≤ f → f < 10 → 0 ≤ M 58 0 (62 + f) ∧ M 58 0 (62 + f) ≤ 20) : bk_C (d + 2) 0 205 [bk_c 12 0, bk_i set] M Q ↔ Q 0 (bkWorth (fun f => M 58 0 (62 + f)) (fun f => decide (set / 2 ^ f.toNat % 2 = 1)) 10) M := by
  refine bk_det (fun Q hQ => ?_) Q
  rw [E_205]
  refine bk_forS (W := fun a f => bk_wp (bk_C (d + 1)) P_205 Q 0 4 [bk_c 12 0, bk_i set, bk_i a, bk_i f] [] M) (g := fun f => if decide (set / 2 ^ f.toNat % 2 = 1) = true then M 58 0 (62 + f) else 0) (c := 20) (n := 10) (by omega) (fun f h0 h1 => ?_) (fun f a h0 h1 h2 h3 h => ?_) ?_
  · have := hw f h0 h1
    show 0 ≤ (if decide (set / 2 ^ f.toNat % 2 = 1) = true then M 58 0 (62 + f) else 0) ∧ (if decide (set / 2 ^ f.toNat % 2 = 1) = true then M 58 0 (62 + f) else 0) ≤ 20
    split <;> omega
  · have hw := hw f h0 h1
    rw [L_205_4, E_206, bk_and1]
    unfold bk_r32
    by_cases q : set / 2 ^ f.toNat % 2 = 1
    · simp only [q, decide_true, if_true] at h
      refine ⟨fun z => absurd z (by omega), fun _ => ⟨by omega, fun z => absurd q z, fun _ => ⟨Or.inr rfl, rfl, fun z => absurd z (by decide), fun _ => ⟨by omega, by omega, by omega, by omega, h⟩⟩⟩⟩
    · simp only [q, decide_false, Bool.false_eq_true, if_false, Int.add_zero] at h
      refine ⟨fun z => absurd z (by omega), fun _ => ⟨by omega, fun _ => ⟨Or.inl rfl, rfl, fun _ => ⟨by omega, h⟩, fun z => absurd rfl z⟩, fun z => absurd q z⟩⟩
  · rw [L_205_4]
    exact ⟨fun _ => hQ, fun q => absurd (Int.le_refl _) q⟩
