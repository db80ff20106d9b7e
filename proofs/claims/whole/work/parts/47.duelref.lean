/-! The reference's duel. -/
theorem LG_234_64 {d : Nat} {Q : bk_Q} (x1 : Int) (x2 : Int) (x3 : Int) (v4 : bk_V) (M : bk_M) : bk_wp (bk_C d) P_234 Q 0 64 [bk_c 12 0, bk_i x1, bk_i x2, bk_i x3, v4] [] M ↔ (((72 : Int) ≤ x3 → Q 0 x2 M) ∧ (¬ ((72 : Int) ≤ x3) → bk_C d 0 237 [bk_c 12 0, bk_i x3, bk_i x1] M (fun t3 r1 M2 => t3 = 0 ∧ ((r1 ≠ (0 : Int) → ((0 : Int) ≤ x3 ∧ (0 : Int) < (36 : Int)) ∧ bk_r32 ((85 : Int) + (x3 % (36 : Int))) ∧ ((0 : Int) ≤ (85 : Int) + (x3 % (36 : Int)) ∧ (85 : Int) + (x3 % (36 : Int)) < (437 : Int)) ∧ bk_C d 0 238 [bk_i x3] M2 (fun t6 r4 M5 => t6 = 0 ∧ bk_r32 ((M2 58 0 ((85 : Int) + (x3 % (36 : Int)))) + r4) ∧ ((0 : Int) ≤ (85 : Int) + (x3 % (36 : Int)) ∧ (85 : Int) + (x3 % (36 : Int)) < (437 : Int)) ∧ ∀ M7 : bk_M, M7 = bk_up M5 58 0 ((85 : Int) + (x3 % (36 : Int))) ((M2 58 0 ((85 : Int) + (x3 % (36 : Int)))) + r4) → bk_C d 0 235 [bk_c 12 0, bk_i x1] M7 (fun t10 r8 M9 => t10 = 0 ∧ ((0 : Int) ≤ x3 ∧ (0 : Int) < (36 : Int)) ∧ bk_r32 ((85 : Int) + (x3 % (36 : Int))) ∧ ((0 : Int) ≤ (85 : Int) + (x3 % (36 : Int)) ∧ (85 : Int) + (x3 % (36 : Int)) < (437 : Int)) ∧ bk_C d 0 238 [bk_i x3] M9 (fun t13 r11 M12 => t13 = 0 ∧ bk_r32 ((M9 58 0 ((85 : Int) + (x3 % (36 : Int)))) - r11) ∧ ((0 : Int) ≤ (85 : Int) + (x3 % (36 : Int)) ∧ (85 : Int) + (x3 % (36 : Int)) < (437 : Int)) ∧ ∀ M14 : bk_M, M14 = bk_up M12 58 0 ((85 : Int) + (x3 % (36 : Int))) ((M9 58 0 ((85 : Int) + (x3 % (36 : Int)))) - r11) → ((x2 < r8 → ((0 : Int) ≤ (0 : Int) ∧ (0 : Int) < (2 : Int)) ∧ ∀ M15 : bk_M, M15 = bk_up M14 74 0 (0 : Int) x3 → ((0 : Int) ≤ (1 : Int) ∧ (1 : Int) < (2 : Int)) ∧ ∀ M16 : bk_M, M16 = bk_up M15 74 0 (1 : Int) (M15 12 0 (36 : Int)) → bk_r32 (x3 + (1 : Int)) ∧ bk_wp (bk_C d) P_234 Q 0 64 [bk_c 12 0, bk_i x1, bk_i r8, bk_i (x3 + (1 : Int)), bk_i r8] [] M16) ∧ (¬ (x2 < r8) → bk_r32 (x3 + (1 : Int)) ∧ bk_wp (bk_C d) P_234 Q 0 64 [bk_c 12 0, bk_i x1, bk_i x2, bk_i (x3 + (1 : Int)), bk_i r8] [] M14)))))) ∧ (¬ (r1 ≠ (0 : Int)) → bk_r32 (x3 + (1 : Int)) ∧ bk_wp (bk_C d) P_234 Q 0 64 [bk_c 12 0, bk_i x1, bk_i x2, bk_i (x3 + (1 : Int)), v4] [] M2))))) := bk_iff [64] 40
theorem LG_235_28 {d : Nat} {Q : bk_Q} (x1 : Int) (x2 : Int) (x3 : Int) (v4 : bk_V) (M : bk_M) : bk_wp (bk_C d) P_235 Q 0 28 [bk_c 12 0, bk_i x1, bk_i x2, bk_i x3, v4] [] M ↔ (((72 : Int) ≤ x3 → Q 0 x2 M) ∧ (¬ ((72 : Int) ≤ x3) → bk_r32 ((1 : Int) - x1) ∧ bk_C d 0 237 [bk_c 12 0, bk_i x3, bk_i ((1 : Int) - x1)] M (fun t3 r1 M2 => t3 = 0 ∧ ((r1 ≠ (0 : Int) → ((0 : Int) ≤ x3 ∧ (0 : Int) < (36 : Int)) ∧ bk_r32 ((85 : Int) + (x3 % (36 : Int))) ∧ ((0 : Int) ≤ (85 : Int) + (x3 % (36 : Int)) ∧ (85 : Int) + (x3 % (36 : Int)) < (437 : Int)) ∧ bk_C d 0 238 [bk_i x3] M2 (fun t6 r4 M5 => t6 = 0 ∧ bk_r32 ((M2 58 0 ((85 : Int) + (x3 % (36 : Int)))) + r4) ∧ ((0 : Int) ≤ (85 : Int) + (x3 % (36 : Int)) ∧ (85 : Int) + (x3 % (36 : Int)) < (437 : Int)) ∧ ∀ M7 : bk_M, M7 = bk_up M5 58 0 ((85 : Int) + (x3 % (36 : Int))) ((M2 58 0 ((85 : Int) + (x3 % (36 : Int)))) + r4) → bk_C d 0 236 [bk_c 12 0, bk_i x1] M7 (fun t10 r8 M9 => t10 = 0 ∧ ((0 : Int) ≤ x3 ∧ (0 : Int) < (36 : Int)) ∧ bk_r32 ((85 : Int) + (x3 % (36 : Int))) ∧ ((0 : Int) ≤ (85 : Int) + (x3 % (36 : Int)) ∧ (85 : Int) + (x3 % (36 : Int)) < (437 : Int)) ∧ bk_C d 0 238 [bk_i x3] M9 (fun t13 r11 M12 => t13 = 0 ∧ bk_r32 ((M9 58 0 ((85 : Int) + (x3 % (36 : Int)))) - r11) ∧ ((0 : Int) ≤ (85 : Int) + (x3 % (36 : Int)) ∧ (85 : Int) + (x3 % (36 : Int)) < (437 : Int)) ∧ ∀ M14 : bk_M, M14 = bk_up M12 58 0 ((85 : Int) + (x3 % (36 : Int))) ((M9 58 0 ((85 : Int) + (x3 % (36 : Int)))) - r11) → ((r8 < x2 → ∀ M15 : bk_M, M15 = bk_up M14 12 0 (36 : Int) x3 → bk_r32 (x3 + (1 : Int)) ∧ bk_wp (bk_C d) P_235 Q 0 28 [bk_c 12 0, bk_i x1, bk_i r8, bk_i (x3 + (1 : Int)), bk_i r8] [] M15) ∧ (¬ (r8 < x2) → bk_r32 (x3 + (1 : Int)) ∧ bk_wp (bk_C d) P_235 Q 0 28 [bk_c 12 0, bk_i x1, bk_i x2, bk_i (x3 + (1 : Int)), bk_i r8] [] M14)))))) ∧ (¬ (r1 ≠ (0 : Int)) → bk_r32 (x3 + (1 : Int)) ∧ bk_wp (bk_C d) P_235 Q 0 28 [bk_c 12 0, bk_i x1, bk_i x2, bk_i (x3 + (1 : Int)), v4] [] M2))))) := bk_iff [28] 40
theorem bkValR {N : Int → Int} (h : N 0 ≤ 10) (L : List Int) (b : Int → Int) (s : Int) : bkWorB (bkRL N L) b s = bkWorB N b s := by
  have e0 : bkRL N L 0 = N 0 := bkRL_o (by omega)
  unfold bkWorB
  rw [e0]
  refine bkWorth_congr fun k hk => ?_
  unfold bkWsB
  rw [bkRL_o (j := 42 + k) (by omega), bkRL_o (j := 52 + k) (by omega), bkRL_o (j := 62 + k) (by omega)]
  exact ⟨rfl, rfl⟩
theorem S205v {d : Nat} {Q : bk_Q} {b : Int → Int} {s : Int} {M : bk_M} (hN : bkMw (M 58 0)) : bk_C (d + 2) 0 205 [bk_c 12 0, bk_i (bkFldB (M 58 0) b s)] M Q ↔ Q 0 (bkWorB (M 58 0) b s) M :=
  S205b (bkWsB (M 58 0) b s) hN
theorem S236 {d : Nat} {s : Int} {M : bk_M} {N : Int → Int} {L : List Int} (hN : bkMd N) (hL : bkLeg N L) (h58 : M 58 0 = bkRL N L) (hI : ∀ c, 0 ≤ c → c < 36 → M 69 0 c = 0) (hs : 0 ≤ s ∧ s ≤ 1) :
    bk_C (d + 6) 0 236 [bk_c 12 0, bk_i s] M (fun t r M' => t = 0 ∧ bkFr bkA153 M M' ∧ r = bkEdge N L s) := by
  have hNL := bkMd_RL hN hL
  rw [E_236]
  refine bk_use (S153z (d := d) (by rw [h58]; exact hNL) hI) ?_
  rintro r M2 ⟨F, -, B⟩
  have e58 : M2 58 0 = bkRL N L := by rw [F 58 0 (by unfold bkA153; omega), h58]
  rw [h58] at B
  have hw : bkMw (M2 58 0) := by rw [e58]; exact bkMd_w hNL
  have v : ∀ q, bkWorB (M2 58 0) (M2 71 0) q = bkVal N L q := fun q => by
    rw [e58, bkWorB_congr hNL B q, bkValR hN.2.2.2.2.1.2]
    rfl
  have v0 := bkVal_b hN L s
  have v1 := bkVal_b hN L (1 - s)
  rw [S230 (d := d + 2) hw]
  refine ⟨rfl, rfl, ?_⟩
  rw [S205v (d := d + 3) hw, v]
  refine ⟨rfl, by unfold bk_r32; omega, ?_⟩
  rw [S230 (d := d + 2) hw]
  refine ⟨rfl, ?_⟩
  rw [S205v (d := d + 3) hw, v]
  refine ⟨rfl, by unfold bk_r32; omega, rfl, F, rfl⟩
theorem S238 {d : Nat} {Q : bk_Q} {w : Int} {M : bk_M} : bk_C (d + 1) 0 238 [bk_i w] M Q ↔ Q 0 (bkWk w) M := by
  rw [E_238]
  unfold bkWk
  grind
theorem S237 {d : Nat} {Q : bk_Q} {s w : Int} {M : bk_M} (hN : bkMd (M 58 0)) (hs : 0 ≤ s ∧ s ≤ 1) (hw : 0 ≤ w ∧ w < 72) : bk_C (d + 4) 0 237 [bk_c 12 0, bk_i w, bk_i s] M Q ↔ Q 0 (if bkMay (M 58 0) s w = true then 1 else 0) M := by
  refine bk_det (fun Q hQ => ?_) Q
  obtain ⟨n1, n2, n3, n4, n5, n6, n7, n8, -⟩ := id hN
  have hh := n8 (w % 36) (by omega) (by omega)
  unfold bkMay at hQ
  simp only [decide_eq_true_eq] at hQ
  rw [E_237, S156 n1 n2]
  by_cases hc : 0 ≤ w % 36 % 6 ∧ w % 36 % 6 < M 58 0 2 ∧ 0 ≤ w % 36 / 6 ∧ w % 36 / 6 < M 58 0 3
  · rw [if_pos hc, S212 hN hs ⟨hc.1, hc.2.1⟩ ⟨hc.2.2.1, hc.2.2.2⟩, show 85 + 6 * (w % 36 / 6) + w % 36 % 6 = 85 + w % 36 by omega]
    refine ⟨by omega, by omega, by omega, rfl, fun z => absurd z (by decide), fun _ => ⟨by omega, by omega, by omega, rfl, fun z => ⟨.inl rfl, ?_⟩, fun z => ⟨.inr rfl, ?_⟩⟩⟩
    · by_cases e1 : bkSide (w % 36 % 6) (M 58 0 (121 + w % 36 / 6)) = 1 - s
      · rwa [if_neg (fun q => q.2.2.1 e1)] at hQ
      · rw [if_neg e1] at z
        by_cases e2 : M 58 0 (85 + w % 36) = (if w / 36 = 0 then 0 else 9)
        · rw [if_neg (fun q => ?_)] at hQ
          · exact hQ
          · have := q.2.2.2
            by_cases e3 : w < 36
            · rw [if_pos e3] at this; rw [if_pos (by omega)] at e2; omega
            · rw [if_neg e3] at this; rw [if_neg (by omega)] at e2; omega
        · rw [if_neg e2] at z; exact absurd z (by decide)
    · by_cases e1 : bkSide (w % 36 % 6) (M 58 0 (121 + w % 36 / 6)) = 1 - s
      · rw [if_pos e1] at z; exact absurd rfl z
      · rw [if_neg e1] at z
        by_cases e2 : M 58 0 (85 + w % 36) = (if w / 36 = 0 then 0 else 9)
        · rw [if_pos e2] at z; exact absurd rfl z
        · rw [if_pos] at hQ
          · exact hQ
          · refine ⟨hc.2.1, hc.2.2.2, e1, ?_⟩
            by_cases e3 : w < 36
            · rw [if_pos e3]; rw [if_pos (by omega)] at e2; omega
            · rw [if_neg e3]; rw [if_neg (by omega)] at e2; omega
  · rw [if_neg hc]
    rw [if_neg (fun q => hc ⟨by omega, q.1, by omega, q.2.1⟩)] at hQ
    exact ⟨by omega, by omega, by omega, rfl, fun _ => ⟨.inl rfl, hQ⟩, fun z => absurd rfl z⟩
def bkA235 (k a : Nat) : Prop := (k = 12 ∨ k = 58 ∨ k = 70 ∨ k = 71) ∧ a = 0
theorem bkRow_up {M : bk_M} {N : Int → Int} {L : List Int} {w : Int} (h58 : M 58 0 = bkRL N L) : bk_up M 58 0 (85 + w % 36) (M 58 0 (85 + w % 36) + bkWk w) 58 0 = bkRL N (L ++ [w]) := by
  refine bk_up_row h58 ?_
  rw [h58, ← bkRL_up (by omega)]
theorem bkRow_dn {M : bk_M} {N : Int → Int} {L : List Int} {w : Int} (h58 : M 58 0 = bkRL N (L ++ [w])) : bk_up M 58 0 (85 + w % 36) (M 58 0 (85 + w % 36) - bkWk w) 58 0 = bkRL N L := by
  refine bk_up_row h58 ?_
  rw [h58, bkRL_dn (by omega)]
theorem S235 {d : Nat} {s : Int} {M : bk_M} {N : Int → Int} {L : List Int} (hN : bkMd N) (hL : bkLeg N L) (h58 : M 58 0 = bkRL N L) (hI : ∀ c, 0 ≤ c → c < 36 → M 69 0 c = 0) (hs : 0 ≤ s ∧ s ≤ 1) :
    bk_C (d + 7) 0 235 [bk_c 12 0, bk_i s] M (fun t r M' => t = 0 ∧ bkFr bkA235 M M' ∧ (∀ j, j ≠ 36 → M' 12 0 j = M 12 0 j) ∧ M' 58 0 = bkRL N L ∧ r = (bkAns N L s).1 ∧ M' 12 0 36 = (bkAns N L s).2) := by
  have hNL := bkMd_RL hN hL
  rw [E_235]
  refine bk_use (S236 (d := d) hN hL h58 hI hs) ?_
  rintro r M2 ⟨F2, rfl⟩
  refine ⟨rfl, ?_⟩
  intro M4 hM4
  have F4 : bkFr bkA235 M M4 := by rw [hM4]; exact bkFr_up (bkFr_mono F2 fun k a w => by unfold bkA153 at w; unfold bkA235; omega) (by unfold bkA235; omega)
  have e58 : M4 58 0 = bkRL N L := by rw [hM4, bk_up_f (by decide), F2 58 0 (by unfold bkA153; omega), h58]
  have e12 : ∀ j, j ≠ 36 → M4 12 0 j = M 12 0 j := fun j hj => by rw [hM4, bk_up_s hj, F2 12 0 (by unfold bkA153; omega)]
  have e36 : M4 12 0 36 = -2 := by rw [hM4, bk_up_e]
  have e82 : M4 58 0 (82 - s) = N (82 - s) := by rw [e58, bkRL_o (by omega)]
  rw [e82]
  unfold bk_r32
  refine ⟨by omega, by omega, fun z => ?_, fun z => ?_⟩
  · have ea : bkAns N L s = bkAnP N L s bkAny 72 := if_neg z
    rw [ea]
    have key := bk_loopS (W := fun n M5 => ∀ v4, bk_wp (bk_C (d + 6)) P_235 (fun t r M' => t = 0 ∧ bkFr bkA235 M M' ∧ (∀ j, j ≠ 36 → M' 12 0 j = M 12 0 j) ∧ M' 58 0 = bkRL N L ∧ r = (bkAnP N L s bkAny 72).1 ∧ M' 12 0 36 = (bkAnP N L s bkAny 72).2) 0 28 [bk_c 12 0, bk_i s, bk_i (bkAnP N L s bkAny n.toNat).1, bk_i n, v4] [] M5) (s := 0) (n := 72)
      (fun n M5 => bkFr bkA235 M M5 ∧ (∀ j, j ≠ 36 → M5 12 0 j = M 12 0 j) ∧ M5 58 0 = bkRL N L ∧ M5 12 0 36 = (bkAnP N L s bkAny n.toNat).2) (by omega) ?_ ?_ (M := M4) ⟨F4, e12, e58, e36⟩
    · exact key _
    · rintro n M5 h0 h1 ⟨F5, k12, k58, k36⟩ ih v4
      have en : ((n.toNat : Nat) : Int) = n := by omega
      have hstep : bkAnP N L s bkAny (n + 1).toNat = if bkMay (bkRL N L) (1 - s) n = true ∧ bkEdge N (L ++ [n]) s < (bkAnP N L s bkAny n.toNat).1 then (bkEdge N (L ++ [n]) s, n) else bkAnP N L s bkAny n.toNat := by
        rw [show (n + 1).toNat = n.toNat + 1 by omega]
        show (if bkAny (n.toNat : Nat) = true ∧ bkMay (bkRL N L) (1 - s) (n.toNat : Nat) = true ∧ bkEdge N (L ++ [((n.toNat : Nat) : Int)]) s < (bkAnP N L s bkAny n.toNat).1 then (bkEdge N (L ++ [((n.toNat : Nat) : Int)]) s, ((n.toNat : Nat) : Int)) else bkAnP N L s bkAny n.toNat) = _
        rw [en]
        by_cases w : bkMay (bkRL N L) (1 - s) n = true ∧ bkEdge N (L ++ [n]) s < (bkAnP N L s bkAny n.toNat).1
        · rw [if_pos w, if_pos ⟨rfl, w⟩]
        · rw [if_neg w, if_neg (fun q => w q.2)]
      rw [LG_235_28, S237 (by rw [k58]; exact hNL) (by omega) ⟨h0, h1⟩, k58]
      unfold bk_r32
      refine ⟨fun z => absurd z (by omega), fun _ => ⟨by omega, rfl, fun z3 => ?_, fun z3 => ⟨by omega, ?_⟩⟩⟩
      · have hyes : bkMay (bkRL N L) (1 - s) n = true := Classical.byContradiction fun w => z3 (if_neg w)
        have hL1 : bkLeg N (L ++ [n]) := bkLeg_snoc hL hyes ⟨h0, h1⟩
        have h1c := hL (n % 36) (by omega) (by omega)
        have h2c := hL1 (n % 36) (by omega) (by omega)
        have eat : bkRL N L (85 + n % 36) = N (85 + n % 36) + bkDl L (n % 36) := bkRL_c (by omega) (by omega)
        have eat2 : bkRL N (L ++ [n]) (85 + n % 36) = N (85 + n % 36) + bkDl (L ++ [n]) (n % 36) := bkRL_c (by omega) (by omega)
        have hwk : -1 ≤ bkWk n ∧ bkWk n ≤ 1 := by unfold bkWk; split <;> omega
        rw [S238]
        refine ⟨by omega, by omega, by omega, rfl, by rw [eat]; omega, by omega, ?_⟩
        intro M7 hM7
        rw [← k58] at hM7
        have e758 : M7 58 0 = bkRL N (L ++ [n]) := by rw [hM7]; exact bkRow_up k58
        have F7 : bkFr bkA235 M M7 := by rw [hM7]; exact bkFr_up F5 (by unfold bkA235; omega)
        refine bk_use (S236 (d := d) hN hL1 e758 (fun c q1 q2 => by rw [F7 69 0 (by unfold bkA235; omega)]; exact hI c q1 q2) hs) ?_
        rintro r M9 ⟨F9, rfl⟩
        have e958 : M9 58 0 = bkRL N (L ++ [n]) := by rw [F9 58 0 (by unfold bkA153; omega), e758]
        rw [S238]
        refine ⟨rfl, by omega, by omega, by omega, rfl, by rw [e958, eat2]; omega, by omega, ?_⟩
        intro M14 hM14
        have F14 : bkFr bkA235 M M14 := by rw [hM14]; exact bkFr_up (bkFr_trans F7 (bkFr_mono F9 fun k a w => by unfold bkA153 at w; unfold bkA235; omega)) (by unfold bkA235; omega)
        have e1458 : M14 58 0 = bkRL N L := by rw [hM14]; exact bkRow_dn e958
        have e1412 : M14 12 0 = M5 12 0 := by rw [hM14, bk_up_f (by decide), F9 12 0 (by unfold bkA153; omega), hM7, bk_up_f (by decide)]
        refine ⟨fun z4 => ?_, fun z4 => ⟨by omega, ?_⟩⟩
        · intro M15 hM15
          rw [if_pos ⟨hyes, z4⟩] at hstep
          have ih := ih M15 ⟨by rw [hM15]; exact bkFr_up F14 (by unfold bkA235; omega), fun j hj => by rw [hM15, bk_up_s hj, e1412]; exact k12 j hj, by rw [hM15, bk_up_f (by decide)]; exact e1458, by rw [hstep, hM15, bk_up_e]⟩ (bk_i (bkEdge N (L ++ [n]) s))
          rw [hstep] at ih
          exact ⟨by omega, ih⟩
        · rw [if_neg (fun w => z4 w.2)] at hstep
          have ih := ih M14 ⟨F14, fun j hj => by rw [e1412]; exact k12 j hj, e1458, by rw [hstep, e1412]; exact k36⟩ (bk_i (bkEdge N (L ++ [n]) s))
          rw [hstep] at ih
          exact ih
      · have hno : ¬ (bkMay (bkRL N L) (1 - s) n = true) := fun w => z3 (by rw [if_pos w]; decide)
        rw [if_neg (fun w => hno w.1)] at hstep
        have ih := ih M5 ⟨F5, k12, k58, by rw [hstep]; exact k36⟩ v4
        rw [hstep] at ih
        exact ih
    · rintro M5 ⟨F5, k12, k58, k36⟩ v4
      rw [LG_235_28]
      exact ⟨fun _ => ⟨rfl, F5, k12, k58, rfl, k36⟩, fun z => absurd (Int.le_refl _) z⟩
  · have ea : bkAns N L s = (bkEdge N L s, -2) := if_pos (Decidable.not_not.1 z)
    rw [ea]
    exact ⟨rfl, F4, e12, e58, rfl, e36⟩
theorem S234 {d : Nat} {s : Int} {M : bk_M} (hN : bkMd (M 58 0)) (hI : ∀ c, 0 ≤ c → c < 36 → M 69 0 c = 0) (hs : 0 ≤ s ∧ s ≤ 1) :
    bk_C (d + 8) 0 234 [bk_c 12 0, bk_i s] M (fun t r M' => t = 0 ∧ bkFr (fun k a => bkA235 k a ∨ (k = 74 ∧ a = 0)) M M' ∧ M' 58 0 = M 58 0 ∧ (∀ j, j ≠ 0 → j ≠ 35 → j ≠ 36 → M' 12 0 j = M 12 0 j) ∧ M' 12 0 0 = 0 ∧ M' 12 0 35 = 1 ∧ r = (bkDu (M 58 0) s).1 ∧ M' 74 0 0 = (bkDu (M 58 0) s).2.1 ∧ M' 74 0 1 = (bkDu (M 58 0) s).2.2) := by
  rw [E_234]
  intro M1 hM1
  have e158 : M1 58 0 = M 58 0 := by rw [hM1, bk_up_f (by decide)]
  have e112 : ∀ j, j ≠ 0 → M1 12 0 j = M 12 0 j := fun j hj => by rw [hM1, bk_up_s hj]
  have e10 : M1 12 0 0 = 0 := by rw [hM1, bk_up_e]
  have F1 : bkFr (fun k a => bkA235 k a ∨ (k = 74 ∧ a = 0)) M M1 := by rw [hM1]; exact bkFr_up (bkFr_refl _ _) (by unfold bkA235; omega)
  generalize hNN : M 58 0 = N at *
  rw [S157, if_pos hs]
  refine ⟨rfl, fun _ => ?_, fun z => absurd (by decide) z⟩
  refine bk_use (S235 (d := d) hN (bkLeg_nil hN) (M := M1) (by rw [bkRL_nil]; exact e158) (fun c q1 q2 => by rw [F1 69 0 (by unfold bkA235; omega)]; exact hI c q1 q2) hs) ?_
  rintro r M6 ⟨F6, k6, k658, rfl, k636⟩
  rw [bkRL_nil] at k658
  refine ⟨rfl, by omega, ?_⟩
  intro M8 hM8
  refine ⟨by omega, ?_⟩
  intro M9 hM9
  refine ⟨.inr rfl, ?_⟩
  intro M10 hM10
  have e836 : M8 12 0 36 = (bkAns N [] s).2 := by rw [hM8, bk_up_f (by decide), k636]
  rw [e836] at hM9
  have F10 : bkFr (fun k a => bkA235 k a ∨ (k = 74 ∧ a = 0)) M M10 := by
    rw [hM10, hM9, hM8]
    exact bkFr_up (bkFr_up (bkFr_up (bkFr_trans F1 (bkFr_mono F6 fun k a w => .inl w)) (.inr ⟨rfl, rfl⟩)) (.inr ⟨rfl, rfl⟩)) (by unfold bkA235; omega)
  have q58 : M10 58 0 = N := by rw [hM10, bk_up_f (by decide), hM9, bk_up_f (by decide), hM8, bk_up_f (by decide), k658]
  have q12 : ∀ j, j ≠ 0 → j ≠ 35 → j ≠ 36 → M10 12 0 j = M 12 0 j := fun j w0 w1 w2 => by
    rw [hM10, bk_up_s w1, hM9, bk_up_f (by decide), hM8, bk_up_f (by decide), k6 j w2, e112 j w0]
  have q0 : M10 12 0 0 = 0 := by rw [hM10, bk_up_s (by decide), hM9, bk_up_f (by decide), hM8, bk_up_f (by decide), k6 0 (by decide), e10]
  have q35 : M10 12 0 35 = 1 := by rw [hM10, bk_up_e]
  have q740 : M10 74 0 0 = (bkDuP N s bkAny 0).2.1 := by rw [hM10, bk_up_f (by decide), hM9, bk_up_s (by decide), hM8, bk_up_e]; rfl
  have q741 : M10 74 0 1 = (bkDuP N s bkAny 0).2.2 := by rw [hM10, bk_up_f (by decide), hM9, bk_up_e]; rfl
  rw [q58]
  refine ⟨by unfold bk_r32; omega, by omega, fun z => ?_, fun z => ?_⟩
  · have ea : bkDu N s = bkDuP N s bkAny 72 := if_neg z
    rw [ea]
    have key := bk_loopS (W := fun n M5 => ∀ v4, bk_wp (bk_C (d + 7)) P_234 (fun t r M' => t = 0 ∧ bkFr (fun k a => bkA235 k a ∨ (k = 74 ∧ a = 0)) M M' ∧ M' 58 0 = N ∧ (∀ j, j ≠ 0 → j ≠ 35 → j ≠ 36 → M' 12 0 j = M 12 0 j) ∧ M' 12 0 0 = 0 ∧ M' 12 0 35 = 1 ∧ r = (bkDuP N s bkAny 72).1 ∧ M' 74 0 0 = (bkDuP N s bkAny 72).2.1 ∧ M' 74 0 1 = (bkDuP N s bkAny 72).2.2) 0 64 [bk_c 12 0, bk_i s, bk_i (bkDuP N s bkAny n.toNat).1, bk_i n, v4] [] M5) (s := 0) (n := 72)
      (fun n M5 => bkFr (fun k a => bkA235 k a ∨ (k = 74 ∧ a = 0)) M M5 ∧ M5 58 0 = N ∧ (∀ j, j ≠ 0 → j ≠ 35 → j ≠ 36 → M5 12 0 j = M 12 0 j) ∧ M5 12 0 0 = 0 ∧ M5 12 0 35 = 1 ∧ M5 74 0 0 = (bkDuP N s bkAny n.toNat).2.1 ∧ M5 74 0 1 = (bkDuP N s bkAny n.toNat).2.2) (by omega) ?_ ?_ (M := M10) ⟨F10, q58, q12, q0, q35, q740, q741⟩
    · exact key _
    · rintro n M5 h0 h1 ⟨F5, k58, k12, k0, k35, k740, k741⟩ ih v4
      have en : ((n.toNat : Nat) : Int) = n := by omega
      have hstep : bkDuP N s bkAny (n + 1).toNat = if bkMay N s n = true ∧ (bkDuP N s bkAny n.toNat).1 < (bkAns N [n] s).1 then ((bkAns N [n] s).1, n, (bkAns N [n] s).2) else bkDuP N s bkAny n.toNat := by
        rw [show (n + 1).toNat = n.toNat + 1 by omega]
        show (if bkAny (n.toNat : Nat) = true ∧ bkMay N s (n.toNat : Nat) = true ∧ (bkDuP N s bkAny n.toNat).1 < (bkAns N [((n.toNat : Nat) : Int)] s).1 then ((bkAns N [((n.toNat : Nat) : Int)] s).1, ((n.toNat : Nat) : Int), (bkAns N [((n.toNat : Nat) : Int)] s).2) else bkDuP N s bkAny n.toNat) = _
        rw [en]
        by_cases w : bkMay N s n = true ∧ (bkDuP N s bkAny n.toNat).1 < (bkAns N [n] s).1
        · rw [if_pos w, if_pos ⟨rfl, w⟩]
        · rw [if_neg w, if_neg (fun q => w q.2)]
      have k58L : M5 58 0 = bkRL N [] := by rw [bkRL_nil]; exact k58
      rw [LG_234_64, S237 (by rw [k58]; exact hN) hs ⟨h0, h1⟩, k58]
      unfold bk_r32
      refine ⟨fun z => absurd z (by omega), fun _ => ⟨rfl, fun z3 => ?_, fun z3 => ⟨by omega, ?_⟩⟩⟩
      · have hyes : bkMay N s n = true := Classical.byContradiction fun w => z3 (if_neg w)
        have hL1 : bkLeg N ([] ++ [n]) := bkLeg_snoc (s := s) (bkLeg_nil hN) (by rw [bkRL_nil]; exact hyes) ⟨h0, h1⟩
        have h1c := hN.2.2.2.2.2.2.2.1 (n % 36) (by omega) (by omega)
        have h2c := hL1 (n % 36) (by omega) (by omega)
        have eat2 : bkRL N ([] ++ [n]) (85 + n % 36) = N (85 + n % 36) + bkDl ([] ++ [n]) (n % 36) := bkRL_c (by omega) (by omega)
        have hwk : -1 ≤ bkWk n ∧ bkWk n ≤ 1 := by unfold bkWk; split <;> omega
        rw [S238]
        refine ⟨by omega, by omega, by omega, rfl, by omega, by omega, ?_⟩
        intro M7 hM7
        rw [← k58] at hM7
        have e758 : M7 58 0 = bkRL N ([] ++ [n]) := by rw [hM7]; exact bkRow_up k58L
        have F7 : bkFr (fun k a => bkA235 k a ∨ (k = 74 ∧ a = 0)) M M7 := by rw [hM7]; exact bkFr_up F5 (by unfold bkA235; omega)
        refine bk_use (S235 (d := d) hN hL1 e758 (fun c q1 q2 => by rw [F7 69 0 (by unfold bkA235; omega)]; exact hI c q1 q2) hs) ?_
        rintro r M9 ⟨F9, k9, k958, rfl, k936⟩
        have hl : ([] ++ [n] : List Int) = [n] := rfl
        rw [S238]
        refine ⟨rfl, by omega, by omega, by omega, rfl, by rw [k958, eat2]; omega, by omega, ?_⟩
        intro M14 hM14
        have F14 : bkFr (fun k a => bkA235 k a ∨ (k = 74 ∧ a = 0)) M M14 := by rw [hM14]; exact bkFr_up (bkFr_trans F7 (bkFr_mono F9 fun k a w => .inl w)) (by unfold bkA235; omega)
        have e1458 : M14 58 0 = N := by rw [hM14, bkRow_dn k958, bkRL_nil]
        have e1412 : ∀ j, j ≠ 36 → M14 12 0 j = M5 12 0 j := fun j hj => by rw [hM14, bk_up_f (by decide), k9 j hj, hM7, bk_up_f (by decide)]
        have e1436 : M14 12 0 36 = (bkAns N [n] s).2 := by rw [hM14, bk_up_f (by decide), k936, hl]
        have e1474 : M14 74 0 = M5 74 0 := by rw [hM14, bk_up_f (by decide), F9 74 0 (by unfold bkA235; omega), hM7, bk_up_f (by decide)]
        rw [hl]
        refine ⟨fun z4 => ⟨by omega, ?_⟩, fun z4 => ⟨by omega, ?_⟩⟩
        · rw [if_pos ⟨hyes, z4⟩] at hstep
          intro M15 hM15
          refine ⟨by omega, ?_⟩
          intro M16 hM16
          have e1536 : M15 12 0 36 = (bkAns N [n] s).2 := by rw [hM15, bk_up_f (by decide)]; exact e1436
          rw [e1536] at hM16
          have ih := ih M16 ⟨by rw [hM16, hM15]; exact bkFr_up (bkFr_up F14 (.inr ⟨rfl, rfl⟩)) (.inr ⟨rfl, rfl⟩), by rw [hM16, bk_up_f (by decide), hM15, bk_up_f (by decide)]; exact e1458, fun j w0 w1 w2 => by rw [hM16, bk_up_f (by decide), hM15, bk_up_f (by decide), e1412 j w2]; exact k12 j w0 w1 w2, by rw [hM16, bk_up_f (by decide), hM15, bk_up_f (by decide), e1412 0 (by decide)]; exact k0, by rw [hM16, bk_up_f (by decide), hM15, bk_up_f (by decide), e1412 35 (by decide)]; exact k35, by rw [hstep, hM16, bk_up_s (by decide), hM15, bk_up_e], by rw [hstep, hM16, bk_up_e]⟩ (bk_i (bkAns N [n] s).1)
          rw [hstep] at ih
          exact ⟨by omega, ih⟩
        · rw [if_neg (fun w => z4 w.2)] at hstep
          have ih := ih M14 ⟨F14, e1458, fun j w0 w1 w2 => by rw [e1412 j w2]; exact k12 j w0 w1 w2, by rw [e1412 0 (by decide)]; exact k0, by rw [e1412 35 (by decide)]; exact k35, by rw [hstep, e1474]; exact k740, by rw [hstep, e1474]; exact k741⟩ (bk_i (bkAns N [n] s).1)
          rw [hstep] at ih
          exact ih
      · have hno : ¬ (bkMay N s n = true) := fun w => z3 (by rw [if_pos w]; decide)
        rw [if_neg (fun w => hno w.1)] at hstep
        have ih := ih M5 ⟨F5, k58, k12, k0, k35, by rw [hstep]; exact k740, by rw [hstep]; exact k741⟩ v4
        rw [hstep] at ih
        exact ih
    · rintro M5 ⟨F5, k58, k12, k0, k35, k740, k741⟩ v4
      rw [LG_234_64]
      exact ⟨fun _ => ⟨rfl, F5, k58, k12, k0, k35, rfl, k740, k741⟩, fun z => absurd (Int.le_refl _) z⟩
  · have ea : bkDu N s = bkDuP N s bkAny 0 := if_pos (Decidable.not_not.1 z)
    rw [ea]
    exact ⟨rfl, F10, (by first | exact q58 | rfl), q12, q0, q35, rfl, q740, q741⟩
theorem S234n {d : Nat} {s : Int} {M : bk_M} (hs : ¬ (0 ≤ s ∧ s ≤ 1)) :
    bk_C (d + 8) 0 234 [bk_c 12 0, bk_i s] M (fun t r M' => t = 0 ∧ bkFr (fun k a => k = 12 ∧ a = 0) M M' ∧ (∀ j, j ≠ 0 → M' 12 0 j = M 12 0 j) ∧ M' 12 0 0 = 1) := by
  rw [E_234]
  intro M1 hM1
  rw [S157, if_neg hs, E_193]
  refine ⟨rfl, fun z => absurd rfl z, fun _ => ?_⟩
  intro M2 hM2
  refine ⟨rfl, rfl, by rw [hM2, hM1]; exact bkFr_up (bkFr_up (bkFr_refl _ _) ⟨rfl, rfl⟩) ⟨rfl, rfl⟩, fun j hj => by rw [hM2, bk_up_s hj, hM1, bk_up_s hj], by rw [hM2, bk_up_e]⟩
