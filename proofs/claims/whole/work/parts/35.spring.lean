/-! The reference's spring. -/
def bkRw (M : bk_M) (N : Int → Int) : bk_M := fun k a j => if k = 58 ∧ a = 0 then N j else M k a j
theorem bkRw_58 {M : bk_M} {N : Int → Int} : bkRw M N 58 0 = N := by
  funext j
  unfold bkRw
  rw [if_pos ⟨rfl, rfl⟩]
theorem bkRw_o {M : bk_M} {N : Int → Int} {k a : Nat} (h : ¬ (k = 58 ∧ a = 0)) : bkRw M N k a = M k a := by
  funext j
  unfold bkRw
  rw [if_neg h]
theorem bkRw_self (M : bk_M) : bkRw M (M 58 0) = M := by
  funext k a j
  unfold bkRw
  by_cases z : k = 58 ∧ a = 0
  · rw [if_pos z, z.1, z.2]
  · rw [if_neg z]
theorem bkRw_up {M : bk_M} {N : Int → Int} {j v : Int} : bk_up (bkRw M N) 58 0 j v = bkRw M (fun c => if c = j then v else N c) := by
  funext k a c
  unfold bk_up bkRw
  by_cases z : k = 58 ∧ a = 0
  · rw [if_pos z]
    by_cases e : c = j
    · rw [if_pos ⟨z.1, z.2, e⟩, if_pos z]; exact (if_pos e).symm
    · rw [if_neg (fun w => e w.2.2), if_pos z]; exact (if_neg e).symm
  · rw [if_neg (fun w => z ⟨w.1, w.2.1⟩), if_neg z, if_neg z]
def bkMw (N : Int → Int) : Prop :=
  (3 ≤ N 2 ∧ N 2 ≤ 6) ∧ (2 ≤ N 3 ∧ N 3 ≤ 6) ∧ (0 ≤ N 0 ∧ N 0 ≤ 10) ∧ (0 ≤ N 1 ∧ N 1 ≤ 3) ∧ (∀ f, 0 ≤ f → f < N 0 → 0 ≤ N (42 + f) ∧ N (42 + f) < 6 ∧ 0 ≤ N (52 + f) ∧ N (52 + f) < N 3 ∧ 1 ≤ N (62 + f) ∧ N (62 + f) ≤ 20) ∧
  (∀ m, 0 ≤ m → m < N 1 → 0 ≤ N (127 + m) ∧ N (127 + m) < 6 ∧ 0 ≤ N (130 + m) ∧ N (130 + m) < 6) ∧ ∀ s, 0 ≤ s → s < 2 → 0 ≤ N (81 + s) ∧ N (81 + s) ≤ 999
theorem bkMd_w {N : Int → Int} (h : bkMd N) : bkMw N := by
  obtain ⟨n1, n2, n3, n4, n5, n6, n7, n8, n9, n10, n11, n12, -⟩ := h
  exact ⟨n1, n2, n5, n6, fun f h0 h1 => by have := n10 f h0 h1; omega, fun m h0 h1 => by have := n11 m h0 h1; omega, n12⟩
theorem S194w {d : Nat} {Q : bk_Q} {f : Int} {M : bk_M} (hN : bkMw (M 58 0)) (h0 : 0 ≤ f) (h1 : f < M 58 0 0) : bk_C (d + 3) 0 194 [bk_c 12 0, bk_i f] M Q ↔ Q 0 (bkWho (M 58 0) f) M := by
  obtain ⟨a1, a2, a3, a4, a5, -⟩ := hN
  have := a5 f h0 h1
  rw [E_194, S195 (by omega) (by omega)]; unfold bk_r32
  exact ⟨fun h => h.2.2.2.2.2, fun h => ⟨by omega, by omega, by omega, by omega, rfl, h⟩⟩
theorem S204w {d : Nat} {Q : bk_Q} {s : Int} {M : bk_M} (hN : bkMw (M 58 0)) : bk_C (d + 4) 0 204 [bk_c 12 0, bk_i s] M Q ↔ Q 0 (bkBits (bkWs (M 58 0) s) (M 58 0 0).toNat) M := by
  have hf := hN.2.2.1
  refine bk_det (fun Q hQ => ?_) Q
  rw [E_204]
  refine bk_for (W := fun f => bk_wp (bk_C (d + 3)) P_204 Q 0 4 [bk_c 12 0, bk_i s, bk_i (bkBits (bkWs (M 58 0) s) f.toNat), bk_i f] [] M) (n := M 58 0 0) hf.1 (fun f h0 h1 ih => ?_) ?_
  · rw [L_204_4, S194w hN h0 h1]
    rw [show (f + 1).toNat = f.toNat + 1 by omega, bkBits_succ] at ih
    have hb := bkBits_lt (bkWs (M 58 0) s) f.toNat
    have hp : (2 : Int) ^ f.toNat ≤ 1024 := by
      have key : ∀ f : Nat, f < 10 → (2 : Int) ^ f ≤ 1024 := by decide
      exact key f.toNat (by omega)
    have hp0 : (0 : Int) < 2 ^ f.toNat := Int.pow_pos (by omega)
    have e3 : ((f.toNat : Nat) : Int) = f := by omega
    refine ⟨by omega, fun q => absurd q (by omega), fun _ => ⟨rfl, fun q => ?_, fun q => ?_⟩⟩
    · rw [if_neg (by simpa [bkWs, e3] using q), Int.add_zero] at ih
      exact ⟨by unfold bk_r32; omega, ih⟩
    · rw [if_pos (by simpa [bkWs, e3] using q)] at ih
      rw [Int.one_mul, bkBits_or (by omega)]
      exact ⟨⟨by omega, by omega, by unfold bk_r32; omega⟩, by unfold bk_r32; omega, ih⟩
  · rw [L_204_4]
    exact ⟨by omega, fun _ => hQ, fun q => absurd (Int.le_refl _) q⟩
theorem S205b {d : Nat} {Q : bk_Q} {M : bk_M} (p : Int → Bool) (hN : bkMw (M 58 0)) : bk_C (d + 2) 0 205 [bk_c 12 0, bk_i (bkBits p (M 58 0 0).toNat)] M Q ↔ Q 0 (bkWorth (fun f => M 58 0 (62 + f)) p (M 58 0 0).toNat) M := by
  obtain ⟨n1, n2, n3, n4, n5, -⟩ := id hN
  have hb := fun f : Nat => bkBits_get (p := p) f (M 58 0 0).toNat
  rw [S205w fun f h0 h1 h2 => ?_]
  · have e : bkWorth (fun f => M 58 0 (62 + f)) (fun f => decide (bkBits p (M 58 0 0).toNat / 2 ^ f.toNat % 2 = 1)) 10 = bkWorth (fun f => M 58 0 (62 + f)) p (M 58 0 0).toNat := by
      refine (bkSum_ext (n := (M 58 0 0).toNat) 10 (by omega) fun k h0 h1 => ?_).trans (bkWorth_congr fun k hk => ⟨?_, rfl⟩)
      · have := hb k
        rw [if_neg (by omega)] at this
        simp only [Int.toNat_natCast, this]
        rfl
      · have := hb k
        simp only [Int.toNat_natCast, this]
        by_cases z : p k = true
        · rw [if_pos ⟨hk, z⟩, z]; rfl
        · rw [if_neg (fun q => z q.2)]; simp [z]
    rw [e]
  · have q := hb f.toNat
    rw [h2] at q
    have : f.toNat < (M 58 0 0).toNat := by
      by_cases z : f.toNat < (M 58 0 0).toNat
      · exact z
      · rw [if_neg (fun w => z w.1)] at q; omega
    have := n5 f h0 (by omega)
    omega
theorem bkWor_bw {N : Int → Int} (h : bkMw N) (s : Int) : 0 ≤ bkWor N s ∧ bkWor N s ≤ 200 := by
  obtain ⟨n1, n2, n3, n4, n5, -⟩ := id h
  have := bkWorth_le (w := fun f => N (62 + f)) (p := bkWs N s) (n := (N 0).toNat) (fun k hk => by have := n5 k (by omega) (by omega); show 0 ≤ N (62 + k) ∧ _; omega)
  unfold bkWor
  omega
theorem S223w {d : Nat} {Q : bk_Q} {s : Int} {M : bk_M} (h : bkMw (M 58 0)) (hs : 0 ≤ s ∧ s ≤ 1) : bk_C (d + 5) 0 223 [bk_c 12 0, bk_i s] M Q ↔ Q 0 0 (bk_up M 58 0 (81 + s) (bkMost (M 58 0 (81 + s) + bkEarn (M 58 0) s))) := by
  refine bk_det (fun Q hQ => ?_) Q
  obtain ⟨n1, n2, n5, n6, n10, n11, n12⟩ := id h
  have hb := bkWor_bw h s
  have hc := n12 s hs.1 (by omega)
  rw [E_223, S204w h, S205b (d := d + 2) (bkWs (M 58 0) s) h]
  refine ⟨rfl, rfl, by show 0 ≤ bkWor (M 58 0) s ∧ _; omega, ?_⟩
  have key : ∀ W : Int → Int → Prop, (∀ k acc, 0 ≤ k → k < M 58 0 1 → 0 ≤ acc → acc ≤ k * 2 → W (acc + bkMil (M 58 0) s k) (k + 1) → W acc k) → W (bkSum (bkMil (M 58 0) s) (M 58 0 1).toNat) (M 58 0 1) → W 0 0 := fun W hs he =>
    bk_forS (W := W) (g := bkMil (M 58 0) s) (c := 2) (n := M 58 0 1) n6.1 (fun k h0 h1 => by unfold bkMil; split <;> omega) hs he
  have := key (fun acc k => bk_wp (bk_C (d + 4)) P_223 Q 0 14 [bk_c 12 0, bk_i s, bk_i (bkWor (M 58 0) s / 4 + acc), bk_i k] [] M) (fun k acc h0 h1 p2 p3 ih => ?_) ?_
  · rwa [Int.add_zero] at this
  · have q2 := n11 k h0 h1
    rw [← Int.add_assoc] at ih
    rw [L_223_14, S195 (by omega) (by omega)]
    unfold bk_r32
    unfold bkMil at ih
    refine ⟨by omega, fun z => absurd z (by omega), fun _ => ⟨by omega, by omega, by omega, by omega, rfl, fun z => ⟨by omega, ?_⟩, fun z => ⟨by omega, by omega, ?_⟩⟩⟩
    · rwa [if_neg z, Int.add_zero] at ih
    · rwa [if_pos (Decidable.not_not.1 z)] at ih
  · have hb2 : 0 ≤ bkSum (bkMil (M 58 0) s) (M 58 0 1).toNat ∧ bkSum (bkMil (M 58 0) s) (M 58 0 1).toNat ≤ 6 := by
      have := bkSum_le (g := bkMil (M 58 0) s) (c := 2) (n := (M 58 0 1).toNat) (fun k hk => by unfold bkMil; split <;> omega)
      omega
    rw [L_223_14, S158]
    unfold bk_r32
    refine ⟨by omega, fun _ => ⟨by omega, by omega, by omega, by omega, rfl, by omega, ?_⟩, fun z => absurd (Int.le_refl _) z⟩
    unfold bkMost bkEarn at hQ
    intro M4 hM
    rw [hM]
    exact hQ
/-! The ice goes; the beds that were are kept. -/
theorem S152 {d : Nat} {Q : bk_Q} {M : bk_M} : bk_C (d + 1) 0 152 [bk_c 12 0] M Q ↔ Q 0 0 (bkFill M 69 0 0 36 fun _ => 0) := by
  refine bk_det (fun Q hQ => ?_) Q
  rw [E_152]
  have := bk_for (W := fun c => bk_wp (bk_C d) P_152 Q 0 2 [bk_c 12 0, bk_i c] [] (bkFill M 69 0 0 c fun _ => 0)) (n := 36) (by omega) (fun c h0 h1 ih => ?_) ?_
  · rwa [bkFill_0] at this
  · rw [L_152_2]
    rw [bkFill_s _ _ _ _ _ h0, Int.zero_add] at ih
    unfold bk_r32
    refine ⟨fun z => absurd z (by omega), fun _ => ⟨by omega, ?_⟩⟩
    intro M1 hM1
    rw [hM1]
    exact ⟨by omega, ih⟩
  · rw [L_152_2]
    exact ⟨fun _ => hQ, fun z => absurd (Int.le_refl _) z⟩
def bkKp (N : Int → Int) : Int → Int := fun j => if 146 ≤ j ∧ j < 152 then N (j - 25) else if 152 ≤ j ∧ j < 194 then N (j - 6) else if j = 194 then (if N 194 < 8 then N 194 + 1 else N 194) else N j
theorem S221 {d : Nat} {Q : bk_Q} {M : bk_M} (h : 0 ≤ M 58 0 194 ∧ M 58 0 194 ≤ 8) : bk_C (d + 1) 0 221 [bk_c 12 0] M Q ↔ Q 0 0 (bkRw M (bkKp (M 58 0))) := by
  refine bk_det (fun Q hQ => ?_) Q
  rw [E_221]
  have step2 : bk_wp (bk_C d) P_221 Q 0 40 [bk_c 12 0, bk_i 0] [] (bkRw M fun j => if 151 < j ∧ j < 194 then M 58 0 (j - 6) else M 58 0 j) := by
    have key := bk_for (W := fun y => bk_wp (bk_C d) P_221 Q 0 40 [bk_c 12 0, bk_i y] [] (bkRw M fun j => if 146 ≤ j ∧ j < 146 + y then M 58 0 (j - 25) else if 151 < j ∧ j < 194 then M 58 0 (j - 6) else M 58 0 j)) (n := 6) (by omega) (fun y h0 h1 ih => ?_) ?_
    · refine Eq.mp ?_ key
      congr 2
      funext j
      rw [if_neg (by omega)]
    · rw [L_221_40]
      refine ⟨fun z => absurd z (by omega), fun _ => ⟨by unfold bk_r32; omega, by unfold bk_r32; omega, by omega, by omega, ?_⟩⟩
      intro M2 hM2
      refine ⟨by unfold bk_r32; omega, ?_⟩
      rw [hM2, bkRw_up, bkRw_58]
      refine Eq.mp ?_ ih
      congr 2
      funext j
      by_cases e : j = 146 + y
      · rw [if_pos e, if_pos (by omega), if_neg (by omega), if_neg (by omega), show j - 25 = 121 + y by omega]
      · rw [if_neg e]
        by_cases e2 : 146 ≤ j ∧ j < 146 + y
        · rw [if_pos e2, if_pos (by omega)]
        · rw [if_neg e2, if_neg (by omega)]
    · have e194 : (if 146 ≤ (194 : Int) ∧ (194 : Int) < 146 + 6 then M 58 0 (194 - 25) else if 151 < (194 : Int) ∧ (194 : Int) < 194 then M 58 0 (194 - 6) else M 58 0 194) = M 58 0 194 := by rw [if_neg (by decide), if_neg (by decide)]
      rw [L_221_40, bkRw_58, e194]
      refine ⟨fun _ => ⟨by omega, fun z => ?_, fun z => ⟨by omega, by unfold bk_r32; omega, by omega, ?_⟩⟩, fun z => absurd (Int.le_refl _) z⟩
      · refine Eq.mp (congrArg (Q 0 0) ?_) hQ
        congr 1
        funext j
        unfold bkKp
        (repeat' split) <;> first | rfl | (exfalso; omega) | (congr 1; omega) | omega
      · intro M1 hM1
        rw [hM1, bkRw_up]
        refine Eq.mp (congrArg (Q 0 0) ?_) hQ
        congr 1
        funext j
        unfold bkKp
        (repeat' split) <;> first | rfl | (exfalso; omega) | (congr 1; omega) | omega
  have key := bk_for (W := fun k => bk_wp (bk_C d) P_221 Q 0 3 [bk_c 12 0, bk_i (47 - k)] [] (bkRw M fun j => if 193 - k < j ∧ j < 194 then M 58 0 (j - 6) else M 58 0 j)) (n := 42) (by omega) (fun k h0 h1 ih => ?_) ?_
  · refine Eq.mp ?_ key
    congr 1
    rw [show (fun j => if 193 - 0 < j ∧ j < 194 then M 58 0 (j - 6) else M 58 0 j) = M 58 0 by funext j; rw [if_neg (by omega)], bkRw_self]
  · rw [L_221_3]
    refine ⟨fun z => absurd z (by omega), fun _ => ⟨by unfold bk_r32; omega, by unfold bk_r32; omega, by unfold bk_r32; omega, by omega, by omega, ?_⟩⟩
    intro M1 hM1
    refine ⟨by unfold bk_r32; omega, ?_⟩
    rw [hM1, bkRw_up, bkRw_58]
    refine Eq.mp ?_ ih
    rw [show 47 - k + -1 = 47 - (k + 1) by omega]
    congr 2
    funext j
    by_cases e : j = 146 + (47 - k)
    · rw [if_pos e, if_pos (by omega), if_neg (by omega), show j - 6 = 146 + (47 - k) - 6 by omega]
    · rw [if_neg e]
      by_cases e2 : 193 - k < j ∧ j < 194
      · rw [if_pos e2, if_pos (by omega)]
      · rw [if_neg e2, if_neg (by omega)]
  · rw [L_221_3]
    refine ⟨fun _ => ?_, fun z => absurd (by omega) z⟩
    exact step2
theorem LG_219_2 {d : Nat} {Q : bk_Q} (x1 : Int) (v2 : bk_V) (M : bk_M) : bk_wp (bk_C d) P_219 Q 0 2 [bk_c 12 0, bk_i x1, v2] [] M ↔ ((0 : Int) ≤ (3 : Int) ∧ (3 : Int) < (437 : Int)) ∧ ((M 58 0 (3 : Int) ≤ x1 → bk_C d 0 153 [bk_c 12 0] M (fun t3 r1 M2 => t3 = 0 ∧ bk_C d 0 152 [bk_c 12 0] M2 (fun t6 r4 M5 => t6 = 0 ∧ bk_C d 0 221 [bk_c 12 0] M5 (fun t9 r7 M8 => t9 = 0 ∧ bk_wp (bk_C d) P_219 Q 0 76 [bk_c 12 0, bk_i (0 : Int), bk_i (0 : Int)] [] M8)))) ∧ (¬ (M 58 0 (3 : Int) ≤ x1) → bk_wp (bk_C d) P_219 Q 0 14 [bk_c 12 0, bk_i x1, bk_i (0 : Int)] [] M)) := bk_iff [2, 14, 76, 127] 40
theorem LG_219_14 {d : Nat} {Q : bk_Q} (x1 : Int) (x2 : Int) (M : bk_M) : bk_wp (bk_C d) P_219 Q 0 14 [bk_c 12 0, bk_i x1, bk_i x2] [] M ↔ ((0 : Int) ≤ (2 : Int) ∧ (2 : Int) < (437 : Int)) ∧ ((M 58 0 (2 : Int) ≤ x2 → bk_r32 (x1 + (1 : Int)) ∧ bk_wp (bk_C d) P_219 Q 0 2 [bk_c 12 0, bk_i (x1 + (1 : Int)), bk_i x2] [] M) ∧ (¬ (M 58 0 (2 : Int) ≤ x2) → bk_r32 ((6 : Int) * x1) ∧ bk_r32 (((6 : Int) * x1) + x2) ∧ ((0 : Int) ≤ (5 : Int) ∧ (5 : Int) < (437 : Int)) ∧ bk_r32 ((M 58 0 (5 : Int)) + (1 : Int)) ∧ bk_C d 0 220 [bk_c 12 0, bk_i ((M 58 0 (5 : Int)) + (1 : Int))] M (fun t3 r1 M2 => t3 = 0 ∧ ((0 : Int) ≤ ((6 : Int) * x1) + x2 ∧ ((6 : Int) * x1) + x2 < (36 : Int)) ∧ ∀ M4 : bk_M, M4 = bk_up M2 69 0 (((6 : Int) * x1) + x2) r1 → bk_r32 (x2 + (1 : Int)) ∧ bk_wp (bk_C d) P_219 Q 0 14 [bk_c 12 0, bk_i x1, bk_i (x2 + (1 : Int))] [] M4))) := bk_iff [2, 14, 76, 127] 40
theorem bkRw_rw {M : bk_M} {N N' : Int → Int} : bkRw (bkRw M N) N' = bkRw M N' := by
  funext k a j
  unfold bkRw
  by_cases z : k = 58 ∧ a = 0
  · rw [if_pos z, if_pos z]
  · rw [if_neg z, if_neg z, if_neg z]
theorem S222 {d : Nat} {Q : bk_Q} {f : Int} {M : bk_M} (hN : bkMw (M 58 0)) (h0 : 0 ≤ f) (h1 : f < M 58 0 0) : bk_C (d + 2) 0 222 [bk_c 12 0, bk_i f] M Q ↔ Q 0 (bkSide (M 58 0 (42 + f)) (M 71 0 (M 58 0 (52 + f)))) M := by
  obtain ⟨a1, a2, a3, a4, a5, -⟩ := hN
  have := a5 f h0 h1
  rw [E_222, S196]; unfold bk_r32
  exact ⟨fun h => h.2.2.2.2.2.2, fun h => ⟨by omega, by omega, by omega, by omega, by omega, rfl, h⟩⟩
theorem bkEarn_congr {N N' : Int → Int} (hN : bkMw N) (h : ∀ j, j ≠ 80 → j ≠ 81 → j ≠ 82 → N' j = N j) (s : Int) : bkEarn N' s = bkEarn N s := by
  obtain ⟨n1, n2, n3, n4, n5, n6, -⟩ := hN
  unfold bkEarn
  have e0 : N' 0 = N 0 := h 0 (by decide) (by decide) (by decide)
  have e1 : N' 1 = N 1 := h 1 (by decide) (by decide) (by decide)
  have w : bkWor N' s = bkWor N s := by
    unfold bkWor
    rw [e0]
    refine bkWorth_congr fun k hk => ?_
    have q := n5 k (by omega) (by omega)
    refine ⟨?_, h _ (by omega) (by omega) (by omega)⟩
    unfold bkWs bkWho
    rw [h (42 + k) (by omega) (by omega) (by omega), h (52 + k) (by omega) (by omega) (by omega), h (121 + N (52 + k)) (by omega) (by omega) (by omega)]
  rw [w, e1]
  congr 1
  refine bkSum_congr fun k hk => ?_
  have q := n6 k (by omega) (by omega)
  unfold bkMil
  rw [h (127 + k) (by omega) (by omega) (by omega), h (130 + k) (by omega) (by omega) (by omega), h (121 + N (130 + k)) (by omega) (by omega) (by omega)]
def bkA219 (k a : Nat) : Prop := (k = 12 ∨ k = 58 ∨ k = 69 ∨ k = 70 ∨ k = 71) ∧ a = 0
/-- the row while fields change, and while the bed is taken -/
def bkMid (N b : Int → Int) (y f : Int) : Int → Int := fun j => if 121 ≤ j ∧ j < 121 + y then b (j - 121) else if 136 ≤ j ∧ j < 136 + f then bkKp N j + bkCh N b (j - 136) else bkKp N j
theorem bkMid_lo {N b : Int → Int} {y f j : Int} (h : j < 121 ∨ (127 ≤ j ∧ j < 136)) (hy : y ≤ 6) : bkMid N b y f j = N j := by
  unfold bkMid bkKp
  rw [if_neg (by omega), if_neg (by omega), if_neg (by omega), if_neg (by omega), if_neg (by omega)]
theorem bkMid_w {N b : Int → Int} {y f : Int} (hN : bkMd N) (hy : y ≤ 6) : bkMw (bkMid N b y f) := by
  have hw := bkMd_w hN
  obtain ⟨n1, n2, n3, n4, n5, n6, n7⟩ := hw
  unfold bkMw
  rw [bkMid_lo (by omega) hy, bkMid_lo (by omega) hy, bkMid_lo (by omega) hy, bkMid_lo (by omega) hy]
  refine ⟨n1, n2, n3, n4, fun g h0 h1 => ?_, fun m h0 h1 => ?_, fun s h0 h1 => ?_⟩
  · rw [bkMid_lo (by omega) hy, bkMid_lo (by omega) hy, bkMid_lo (by omega) hy]; exact n5 g h0 h1
  · rw [bkMid_lo (by omega) hy, bkMid_lo (by omega) hy]; exact n6 m h0 h1
  · rw [bkMid_lo (by omega) hy]; exact n7 s h0 h1
theorem L219_127 {d : Nat} {Q : bk_Q} {N b : Int → Int} {x1 : Int} {M : bk_M} (hN : bkMd N) (h4 : N 80 < 400) (hb : ∀ y, 0 ≤ y → y < N 3 → M 71 0 y = b y)
    (hQ : Q 0 x1 (bkRw M (bkEarnR (bkTake N b)))) : bk_wp (bk_C (d + 5)) P_219 Q 0 127 [bk_c 12 0, bk_i x1, bk_i 0] [] (bkRw M (bkMid N b 0 (N 0))) := by
  obtain ⟨n1, n2, n3, n4, n5, n6, n7, n8, n9, n10, n11, n12, n13, n14⟩ := id hN
  refine bk_for (W := fun y => bk_wp (bk_C (d + 5)) P_219 Q 0 127 [bk_c 12 0, bk_i x1, bk_i y] [] (bkRw M (bkMid N b y (N 0)))) (n := N 3) (by omega) (fun y h0 h1 ih => ?_) ?_
  · rw [L_219_127, bkRw_58, bkMid_lo (by omega) (by omega)]
    refine ⟨by omega, fun z => absurd z (by omega), fun _ => ⟨by unfold bk_r32; omega, by omega, by omega, ?_⟩⟩
    intro M8 hM8
    refine ⟨by unfold bk_r32; omega, ?_⟩
    rw [hM8, bkRw_up, bkRw_o (by decide), hb y h0 h1]
    refine Eq.mp ?_ ih
    congr 2
    funext j
    unfold bkMid
    by_cases e : j = 121 + y
    · rw [if_pos e, if_pos (by omega), show j - 121 = y by omega]
    · rw [if_neg e]
      by_cases e2 : 121 ≤ j ∧ j < 121 + y
      · rw [if_pos e2, if_pos (by omega)]
      · rw [if_neg e2, if_neg (by omega)]
  · have hw : bkMw (bkMid N b (N 3) (N 0)) := bkMid_w hN (by omega)
    have hT : ∀ j, j ≠ 80 → bkTake N b j = bkMid N b (N 3) (N 0) j := fun j hj => by
      unfold bkTake bkMid bkKp
      rw [if_neg hj]
      by_cases e1 : 121 ≤ j ∧ j < 121 + N 3
      · rw [if_pos e1, if_pos e1]
      · rw [if_neg e1, if_neg e1]
        by_cases e2 : 136 ≤ j ∧ j < 136 + N 0
        · rw [if_pos e2, if_pos e2, if_neg (by omega), if_neg (by omega), if_neg (by omega)]
        · rw [if_neg e2, if_neg e2]
    have hE : ∀ s, bkEarn (bkTake N b) s = bkEarn (bkMid N b (N 3) (N 0)) s := fun s => bkEarn_congr hw (fun j q _ _ => hT j q) s
    rw [L_219_127, bkRw_58, bkMid_lo (j := 3) (by omega) (by omega)]
    refine ⟨by omega, fun _ => ?_, fun z => absurd (Int.le_refl _) z⟩
    rw [S223w (by rw [bkRw_58]; exact hw) (by decide), bkRw_58, bkRw_up]
    have hw2 : bkMw (fun c => if c = 81 + 0 then bkMost (bkMid N b (N 3) (N 0) (81 + 0) + bkEarn (bkMid N b (N 3) (N 0)) 0) else bkMid N b (N 3) (N 0) c) := by
      obtain ⟨w1, w2, w3, w4, w5, w6, w7⟩ := id hw
      unfold bkMw
      dsimp only
      rw [if_neg (by decide), if_neg (by decide), if_neg (by decide), if_neg (by decide)]
      refine ⟨w1, w2, w3, w4, fun g h0 h1 => ?_, fun m h0 h1 => ?_, fun s h0 h1 => ?_⟩
      · rw [if_neg (by omega), if_neg (by omega), if_neg (by omega)]; exact w5 g h0 h1
      · rw [if_neg (by omega), if_neg (by omega)]; exact w6 m h0 h1
      · by_cases e : s = 0
        · subst e
          rw [if_pos rfl]
          refine bkMost_b ?_
          have := w7 0 (by omega) (by omega)
          have := bkWor_bw hw 0
          have := bkSum_le (g := bkMil (bkMid N b (N 3) (N 0)) 0) (c := 2) (n := (bkMid N b (N 3) (N 0) 1).toNat) (fun k hk => by unfold bkMil; split <;> omega)
          unfold bkEarn
          omega
        · rw [if_neg (by omega)]; exact w7 s h0 h1
    refine ⟨rfl, ?_⟩
    rw [S223w (by rw [bkRw_58]; exact hw2) (by decide), bkRw_58, bkRw_up]
    refine ⟨rfl, by omega, ?_⟩
    rw [bkRw_58, if_neg (by decide), if_neg (by decide), bkMid_lo (j := 80) (by omega) (by omega)]
    refine ⟨by unfold bk_r32; omega, by omega, ?_⟩
    intro M7 hM7
    rw [hM7, bkRw_up]
    refine Eq.mp (congrArg (Q 0 x1) ?_) hQ
    congr 1
    funext j
    unfold bkEarnR
    rw [hE 0, hE 1, hT 81 (by decide), hT 82 (by decide)]
    by_cases e80 : j = 80
    · subst e80
      rw [if_neg (by decide), if_neg (by decide), if_pos rfl, bkTake_80]
    · rw [if_neg e80]
      by_cases e82 : j = 82
      · subst e82
        rw [if_neg (by decide), if_pos rfl, if_pos (by decide), if_neg (by decide)]
        rw [show (81 : Int) + 1 = 82 by rfl]
        congr 2
        refine (bkEarn_congr hw (fun j q1 q2 q3 => ?_) 1).symm
        rw [if_neg (by omega)]
      · rw [if_neg (show ¬ j = 81 + 1 by omega), if_neg e82]
        by_cases e81 : j = 81
        · subst e81
          rw [if_pos rfl, if_pos (by decide)]
          rfl
        · rw [if_neg e81, if_neg (by omega), hT j e80]
theorem L219_76 {d : Nat} {Q : bk_Q} {N b : Int → Int} {M : bk_M} (hN : bkMd N) (h4 : N 80 < 400) (hb : ∀ y, 0 ≤ y → y < N 3 → M 71 0 y = b y)
    (hQ : Q 0 (bkSum (bkCh N b) (N 0).toNat) (bkRw M (bkEarnR (bkTake N b)))) : bk_wp (bk_C (d + 5)) P_219 Q 0 76 [bk_c 12 0, bk_i 0, bk_i 0] [] (bkRw M (bkKp N)) := by
  obtain ⟨n1, n2, n3, n4, n5, n6, n7, n8, n9, n10, n11, n12, n13, n14⟩ := id hN
  have key := bk_for (W := fun f => bk_wp (bk_C (d + 5)) P_219 Q 0 76 [bk_c 12 0, bk_i (bkSum (bkCh N b) f.toNat), bk_i f] [] (bkRw M (bkMid N b 0 f))) (n := N 0) (by omega) (fun f h0 h1 ih => ?_) ?_
  · refine Eq.mp ?_ key
    congr 2
    funext j
    unfold bkMid
    rw [if_neg (by omega), if_neg (by omega)]
  · have hw : bkMw (bkMid N b 0 f) := bkMid_w hN (by omega)
    have q := n10 f h0 h1
    have hs := bkSum_s (bkCh N b) h0
    have hcb := bkSum_le (g := bkCh N b) (c := 1) (n := f.toNat) (fun k _ => bkCh_b N b k)
    have hcf := bkCh_b N b f
    have m0 : bkMid N b 0 f 0 = N 0 := bkMid_lo (by omega) (by omega)
    have ew : bkWho (bkMid N b 0 f) f = bkWho N f := by
      unfold bkWho
      rw [bkMid_lo (j := 42 + f) (by omega) (by omega), bkMid_lo (j := 52 + f) (by omega) (by omega)]
      congr 1
      unfold bkMid bkKp
      rw [if_neg (by omega), if_neg (by omega), if_neg (by omega), if_neg (by omega), if_neg (by omega)]
    have e136 : bkMid N b 0 f (136 + f) = N (136 + f) := by
      unfold bkMid bkKp
      rw [if_neg (by omega), if_neg (by omega), if_neg (by omega), if_neg (by omega), if_neg (by omega)]
    rw [L_219_76, bkRw_58, m0, S194w (by rw [bkRw_58]; exact hw) h0 (by rw [bkRw_58, m0]; exact h1), bkRw_58, ew]
    refine ⟨by omega, fun z => absurd z (by omega), fun _ => ⟨rfl, ?_⟩⟩
    rw [S222 (by rw [bkRw_58]; exact hw) h0 (by rw [bkRw_58, m0]; exact h1), bkRw_58, bkMid_lo (j := 42 + f) (by omega) (by omega), bkMid_lo (j := 52 + f) (by omega) (by omega), bkRw_o (by decide), hb _ (by omega) (by omega), e136]
    refine ⟨rfl, fun z => ?_, fun z => ?_⟩
    · have ec : bkCh N b f = 1 := if_neg (fun w => z w.symm)
      refine ⟨by unfold bk_r32; omega, by omega, by unfold bk_r32; omega, by omega, ?_⟩
      intro M7 hM7
      refine ⟨by unfold bk_r32; omega, by unfold bk_r32; omega, ?_⟩
      rw [ec] at hs
      rw [← hs, hM7, bkRw_up]
      refine Eq.mp ?_ ih
      congr 2
      funext j
      by_cases e : j = 136 + f
      · rw [if_pos e, e]
        unfold bkMid bkKp
        rw [if_neg (by omega), if_pos (by omega), if_neg (by omega), if_neg (by omega), if_neg (by omega), show 136 + f - 136 = f by omega, ec]
      · rw [if_neg e]
        unfold bkMid
        (repeat' split) <;> first | rfl | (exfalso; omega) | (congr 1; omega) | omega
    · have ec : bkCh N b f = 0 := if_pos (Decidable.not_not.1 z).symm
      rw [ec, Int.add_zero] at hs
      refine ⟨by unfold bk_r32; omega, ?_⟩
      rw [← hs]
      refine Eq.mp ?_ ih
      congr 2
      funext j
      unfold bkMid
      by_cases e : j = 136 + f
      · have e2 : bkCh N b (j - 136) = 0 := by rw [e, show 136 + f - 136 = f by omega, ec]
        rw [e2]
        (repeat' split) <;> first | rfl | (exfalso; omega) | (congr 1; omega) | omega
      · (repeat' split) <;> first | rfl | (exfalso; omega) | (congr 1; omega) | omega
  · rw [L_219_76, bkRw_58, bkMid_lo (by omega) (by omega)]
    exact ⟨by omega, fun _ => L219_127 hN h4 hb hQ, fun z => absurd (Int.le_refl _) z⟩
theorem L219_14 {d : Nat} {Q : bk_Q} {y s : Int} {M M1 : bk_M} (hN : bkMd (M 58 0)) (hy : 0 ≤ y ∧ y < M 58 0 3)
    (hF : bkFr (fun k a => (k = 12 ∨ k = 69) ∧ a = 0) M M1) (h12 : ∀ j, j ≠ 30 → M1 12 0 j = M 12 0 j) (h30 : M1 12 0 30 = bkSd (M 58 0 2 * y).toNat s) (hG : ∀ z x, 0 ≤ z → z < y → 0 ≤ x → x < M 58 0 2 → M1 69 0 (6 * z + x) = bkIce (M 58 0) s (6 * z + x))
    (hQ : ∀ M2 v2, bkFr (fun k a => (k = 12 ∨ k = 69) ∧ a = 0) M M2 → (∀ j, j ≠ 30 → M2 12 0 j = M 12 0 j) → M2 12 0 30 = bkSd (M 58 0 2 * (y + 1)).toNat s → (∀ z x, 0 ≤ z → z < y + 1 → 0 ≤ x → x < M 58 0 2 → M2 69 0 (6 * z + x) = bkIce (M 58 0) s (6 * z + x)) → bk_wp (bk_C (d + 5)) P_219 Q 0 2 [bk_c 12 0, bk_i (y + 1), v2] [] M2) :
    bk_wp (bk_C (d + 5)) P_219 Q 0 14 [bk_c 12 0, bk_i y, bk_i 0] [] M1 := by
  obtain ⟨n1, n2, n3, n4, n5, n6, n7, n8, -⟩ := id hN
  refine bk_loopS (W := fun x M2 => bk_wp (bk_C (d + 5)) P_219 Q 0 14 [bk_c 12 0, bk_i y, bk_i x] [] M2) (s := 0) (n := M 58 0 2)
    (fun x M2 => bkFr (fun k a => (k = 12 ∨ k = 69) ∧ a = 0) M M2 ∧ (∀ j, j ≠ 30 → M2 12 0 j = M 12 0 j) ∧ M2 12 0 30 = bkSd (M 58 0 2 * y + x).toNat s ∧ (∀ z x, 0 ≤ z → z < y → 0 ≤ x → x < M 58 0 2 → M2 69 0 (6 * z + x) = bkIce (M 58 0) s (6 * z + x)) ∧ (∀ u, 0 ≤ u → u < x → M2 69 0 (6 * y + u) = bkIce (M 58 0) s (6 * y + u))) (by omega) ?_ ?_ (M := M1) ⟨hF, h12, by rw [Int.add_zero]; exact h30, hG, fun u z1 z2 => absurd z1 (by omega)⟩
  · rintro x M2 h0 h1 ⟨F, e12, e30, G, U⟩ ih
    have g58 : M2 58 0 = M 58 0 := F 58 0 (by omega)
    have hw : 0 ≤ M 58 0 2 * y := Int.mul_nonneg (by omega) (by omega)
    have hia := bkIce_at (M 58 0) s (y := y) h0 (by omega)
    have hsd := bkSd_s (M 58 0 2 * y + x) s (by omega)
    rw [L_219_14, g58, S220 (by omega), e30, ← hsd, ← hia]
    unfold bk_r32
    refine ⟨by omega, fun z => absurd z (by omega), fun _ => ⟨by omega, by omega, by omega, by omega, rfl, by omega, ?_⟩⟩
    intro M4 hM4
    have r12 : ∀ j, M4 12 0 j = if j = 30 then bkSd (M 58 0 2 * y + x + 1).toNat s else M2 12 0 j := fun j => by rw [hM4, bk_up_f (by decide), bk_up_w]
    have r69 : ∀ j, M4 69 0 j = if j = 6 * y + x then bkIce (M 58 0) s (6 * y + x) else M2 69 0 j := fun j => by rw [hM4, bk_up_w, bk_up_f (by decide)]
    refine ⟨by omega, ih M4 ⟨?_, fun j hj => ?_, ?_, fun z u w1 w2 w3 w4 => ?_, fun u z1 z2 => ?_⟩⟩
    · rw [hM4]; exact bkFr_up (bkFr_up F ⟨.inl rfl, rfl⟩) ⟨.inr rfl, rfl⟩
    · rw [r12, if_neg hj]; exact e12 j hj
    · rw [r12, if_pos rfl, Int.add_assoc]
    · rw [r69, if_neg (by omega)]; exact G z u w1 w2 w3 w4
    · rw [r69]
      by_cases e : u = x
      · rw [if_pos (by omega), e]
      · rw [if_neg (by omega)]; exact U u z1 (by omega)
  · rintro M2 ⟨F, e12, e30, G, U⟩
    have g58 : M2 58 0 = M 58 0 := F 58 0 (by omega)
    rw [L_219_14, g58]
    unfold bk_r32
    refine ⟨by omega, fun _ => ⟨by omega, hQ M2 _ F e12 (by rw [e30, Int.mul_add, Int.mul_one]) fun z x w1 w2 w3 w4 => ?_⟩, fun z => absurd (Int.le_refl _) z⟩
    by_cases e : z = y
    · rw [e]; exact U x w3 w4
    · exact G z x w1 (by omega) w3 w4
theorem bkRw_fr {A : Nat → Nat → Prop} {M M' : bk_M} {N : Int → Int} (h : bkFr A M M') (hA : A 58 0) : bkFr A M (bkRw M' N) := fun k a z => by
  rw [bkRw_o (fun w => z (by rw [w.1, w.2]; exact hA))]
  exact h k a z
theorem bkFill_o {M : bk_M} {k a k' a' : Nat} {s n : Int} {f : Int → Int} (h : ¬ (k' = k ∧ a' = a)) : bkFill M k a s n f k' a' = M k' a' := by
  funext c
  unfold bkFill
  rw [if_neg (fun w => h ⟨w.1, w.2.1⟩)]
theorem S219 {d : Nat} {s : Int} {M : bk_M} (hN : bkMd (M 58 0)) (h4 : M 58 0 80 < 400) (hs : M 12 0 30 = s) :
    bk_C (d + 6) 0 219 [bk_c 12 0] M (fun t r M' => t = 0 ∧ bkFr bkA219 M M' ∧ M' 58 0 = bkSpr (M 58 0) s ∧ r = bkSprC (M 58 0) s ∧ (∀ j, j ≠ 30 → M' 12 0 j = M 12 0 j) ∧ M' 12 0 30 = bkSd (M 58 0 2 * M 58 0 3).toNat s ∧ ∀ c, 0 ≤ c → c < 36 → M' 69 0 c = 0) := by
  obtain ⟨n1, n2, n3, n4, n5, n6, n7, n8, n9, n10, n11, n12, n13, n14⟩ := id hN
  rw [E_219]
  have key := bk_loopS (W := fun y M1 => ∀ v2, bk_wp (bk_C (d + 5)) P_219 (fun t r M' => t = 0 ∧ bkFr bkA219 M M' ∧ M' 58 0 = bkSpr (M 58 0) s ∧ r = bkSprC (M 58 0) s ∧ (∀ j, j ≠ 30 → M' 12 0 j = M 12 0 j) ∧ M' 12 0 30 = bkSd (M 58 0 2 * M 58 0 3).toNat s ∧ ∀ c, 0 ≤ c → c < 36 → M' 69 0 c = 0) 0 2 [bk_c 12 0, bk_i y, v2] [] M1) (s := 0) (n := M 58 0 3)
    (fun y M1 => bkFr (fun k a => (k = 12 ∨ k = 69) ∧ a = 0) M M1 ∧ (∀ j, j ≠ 30 → M1 12 0 j = M 12 0 j) ∧ M1 12 0 30 = bkSd (M 58 0 2 * y).toNat s ∧ ∀ z x, 0 ≤ z → z < y → 0 ≤ x → x < M 58 0 2 → M1 69 0 (6 * z + x) = bkIce (M 58 0) s (6 * z + x)) (by omega) ?_ ?_ (M := M) ⟨bkFr_refl _ _, fun j _ => rfl, by rw [Int.mul_zero, hs]; rfl, fun z x z1 z2 => absurd z1 (by omega)⟩
  · exact key _
  · rintro y M1 h0 h1 ⟨F, e12, e30, G⟩ ih v2
    have g58 : M1 58 0 = M 58 0 := F 58 0 (by omega)
    rw [LG_219_2, g58]
    exact ⟨by omega, fun z => absurd z (by omega), fun _ => L219_14 hN ⟨h0, h1⟩ F e12 e30 G (fun M2 v2 F2 e2 e3 G2 => ih M2 ⟨F2, e2, e3, G2⟩ v2)⟩
  · rintro M1 ⟨F, e12, e30, G⟩ v2
    have g58 : M1 58 0 = M 58 0 := F 58 0 (by omega)
    have egd : ∀ y x, 0 ≤ y → y < M 58 0 3 → 0 ≤ x → x < M 58 0 2 → bkGd M1 (6 * y + x) = bkGs (M 58 0) s (6 * y + x) := fun y x z1 z2 z3 z4 => by
      unfold bkGd bkGs
      rw [g58, G y x z1 z2 z3 z4]
    rw [LG_219_2, g58]
    refine ⟨by omega, fun _ => ?_, fun z => absurd (Int.le_refl _) z⟩
    have hgr : bkGr (bkGd M1) (M1 58 0 2) (M1 58 0 3) := by
      rw [g58]
      intro z x z1 z2 z3 z4
      rw [egd z x z1 z2 z3 z4]
      exact bkGs_b hN s z x z1 z2 z3 z4
    refine bk_use (P := bkLaid M1) (S153 (d := d) (by rw [g58]; exact hN) hgr) ?_
    rintro r M2 ⟨F2, -, B⟩
    rw [g58] at B
    have hB : ∀ y, 0 ≤ y → y < M 58 0 3 → M2 71 0 y = bkBs (M 58 0) s y := fun y z1 z2 => by
      rw [B y z1 z2]
      have e := bkBd_eq (f := bkGd M1) (g := bkGs (M 58 0) s) (W := M 58 0 2) (H := M 58 0 3) (S := M 58 0 4) (by omega) (by omega) egd y.toNat (by omega)
      rw [Int.toNat_of_nonneg z1] at e
      exact e
    have g58' : M2 58 0 = M 58 0 := by rw [F2 58 0 (by unfold bkA153; omega), g58]
    rw [S152]
    refine ⟨rfl, rfl, ?_⟩
    have hl : M 58 0 194 ≤ 8 ∧ 0 ≤ M 58 0 194 := by
      rw [n14]; split <;> omega
    have g58f : bkFill M2 69 0 0 36 (fun _ => 0) 58 0 = M 58 0 := by rw [bkFill_o (by omega), g58']
    rw [S221 (by rw [g58f]; omega), g58f]
    refine ⟨rfl, L219_76 hN h4 (b := bkBs (M 58 0) s) (fun y z1 z2 => by rw [bkFill_o (by omega)]; exact hB y z1 z2) ?_⟩
    have F3 : bkFr bkA219 M (bkFill M2 69 0 0 36 fun _ => 0) := fun k a z => by
      unfold bkA219 at z
      rw [bkFill_o (by omega), F2 k a (by unfold bkA153; omega), F k a (by omega)]
    refine ⟨rfl, bkRw_fr F3 (by unfold bkA219; omega), bkRw_58, rfl, fun j hj => ?_, ?_, fun c z1 z2 => ?_⟩
    · rw [bkRw_o (by decide), bkFill_o (by omega), F2 12 0 (by unfold bkA153; omega)]; exact e12 j hj
    · rw [bkRw_o (by decide), bkFill_o (by omega), F2 12 0 (by unfold bkA153; omega), e30]
    · rw [bkRw_o (by decide)]
      unfold bkFill
      rw [if_pos (by omega)]
