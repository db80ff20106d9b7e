/-! What a side earns (the reference). -/
def bkMil (N : Int → Int) (s : Int) : Int → Int := fun m => if bkSide (N (127 + m)) (N (121 + N (130 + m))) = s then 2 else 0
def bkEarn (N : Int → Int) (s : Int) : Int := bkWor N s / 4 + bkSum (bkMil N s) (N 1).toNat
def bkMost (v : Int) : Int := if 999 ≤ v then 999 else v
theorem S158 {d : Nat} {Q : bk_Q} {a b : Int} {M : bk_M} : bk_C (d + 1) 0 158 [bk_i a, bk_i b] M Q ↔ Q 0 (if a ≤ b then a else b) M := by
  rw [E_158]
  grind
theorem bkWor_b {N : Int → Int} (h : bkMd N) (s : Int) : 0 ≤ bkWor N s ∧ bkWor N s ≤ 200 := by
  obtain ⟨n1, n2, n3, n4, n5, n6, n7, n8, n9, n10, n11, -⟩ := id h
  have := bkWorth_le (w := fun f => N (62 + f)) (p := bkWs N s) (n := (N 0).toNat) (fun k hk => by have := n10 k (by omega) (by omega); show 0 ≤ N (62 + k) ∧ _; omega)
  unfold bkWor
  omega
theorem S223 {d : Nat} {Q : bk_Q} {s : Int} {M : bk_M} (h : bkMd (M 58 0)) (hs : 0 ≤ s ∧ s ≤ 1) : bk_C (d + 5) 0 223 [bk_c 12 0, bk_i s] M Q ↔ Q 0 0 (bk_up M 58 0 (81 + s) (bkMost (M 58 0 (81 + s) + bkEarn (M 58 0) s))) := by
  refine bk_det (fun Q hQ => ?_) Q
  obtain ⟨n1, n2, n3, n4, n5, n6, n7, n8, n9, n10, n11, n12, -⟩ := id h
  have hb := bkWor_b h s
  have hc := n12 s hs.1 (by omega)
  have e := fun Q : bk_Q => @S205s (d + 2) Q s M h
  unfold bkFld at e
  rw [E_223, S204 h, e]
  refine ⟨rfl, rfl, by omega, ?_⟩
  have key : ∀ W : Int → Int → Prop, (∀ k acc, 0 ≤ k → k < M 58 0 1 → 0 ≤ acc → acc ≤ k * 2 → W (acc + bkMil (M 58 0) s k) (k + 1) → W acc k) → W (bkSum (bkMil (M 58 0) s) (M 58 0 1).toNat) (M 58 0 1) → W 0 0 := fun W hs he =>
    bk_forS (W := W) (g := bkMil (M 58 0) s) (c := 2) (n := M 58 0 1) n6.1 (fun k h0 h1 => by unfold bkMil; split <;> omega) hs he
  have := key (fun acc k => bk_wp (bk_C (d + 4)) P_223 Q 0 14 [bk_c 12 0, bk_i s, bk_i (bkWor (M 58 0) s / 4 + acc), bk_i k] [] M) (fun k acc h0 h1 p2 p3 ih => ?_) ?_
  · rwa [Int.add_zero] at this
  · have q2 := n11 k h0 h1
    rw [← Int.add_assoc] at ih
    rw [L_223_14, S195 (by omega) (by omega)]
    unfold bk_r32
    unfold bkMil at ih
    refine ⟨by omega, fun z => absurd z (by omega), fun _ => ⟨by omega, by omega, by omega, by omega, rfl, fun z => ⟨by omega, ?_⟩, fun z => ⟨by omega, by omega, ?_⟩⟩⟩
    · rwa [if_neg z, Int.add_zero] at ih
    · rwa [if_pos (Decidable.not_not.1 z)] at ih
  · have hb2 : 0 ≤ bkSum (bkMil (M 58 0) s) (M 58 0 1).toNat ∧ bkSum (bkMil (M 58 0) s) (M 58 0 1).toNat ≤ 6 := by
      have := bkSum_le (g := bkMil (M 58 0) s) (c := 2) (n := (M 58 0 1).toNat) (fun k hk => by unfold bkMil; split <;> omega)
      omega
    rw [L_223_14, S158]
    unfold bk_r32
    refine ⟨by omega, fun _ => ⟨by omega, by omega, by omega, by omega, rfl, by omega, ?_⟩, fun z => absurd (Int.le_refl _) z⟩
    unfold bkMost bkEarn at hQ
    intro M4 hM
    rw [hM]
    exact hQ
