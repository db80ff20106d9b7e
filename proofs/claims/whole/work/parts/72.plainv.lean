/-! The class reads a PLAIN. -/
def bkPa (p : Nat) (k a : Nat) : Prop := (k = 5 ∨ (28 ≤ k ∧ k ≤ 39)) ∧ a = p
theorem S0c {d p : Nat} {M : bk_M} : bk_C (d + 1) 0 0 [bk_c 5 p] M (fun t r M' => t = 0 ∧ bkFr (bkPa p) M M' ∧ bkRdP M' p bkS0) := by
  have z : ∀ j, j ≠ 2 → j ≠ 3 → j ≠ 5 → ¬ (6 ≤ j ∧ j < 42) → j ≠ 78 → j ≠ 79 → bkS0 j = 0 := fun j q1 q2 q3 q4 q5 q6 => by
    unfold bkS0; rw [if_neg q1, if_neg q2, if_neg q3, if_neg q4, if_neg q5, if_neg q6]
  have hh : ∀ k, 0 ≤ k → k < 36 → bkS0 (6 + k) = 5 := fun k k0 k1 => by
    unfold bkS0; rw [if_neg (by omega), if_neg (by omega), if_neg (by omega), if_pos (by omega)]
  rw [E_0]
  intro M1 e1 M2 e2 M3 e3 M4 e4 M5 e5 M6 e6 M7 e7
  have A5 : bkPa p 5 p := ⟨.inl rfl, rfl⟩
  have f7 : bkFr (bkPa p) M M7 := by rw [e7, e6, e5, e4, e3, e2, e1]; exact bkFr_up (bkFr_up (bkFr_up (bkFr_up (bkFr_up (bkFr_up (bkFr_up (bkFr_refl _ _) A5) A5) A5) A5) A5) A5) A5
  have g : M7 5 p 0 = 5 ∧ M7 5 p 1 = 5 ∧ M7 5 p 2 = 0 ∧ M7 5 p 3 = 2 ∧ M7 5 p 6 = 0 ∧ M7 5 p 11 = 0 ∧ M7 5 p 17 = 0 := by
    rw [e7, e6, e5, e4, e3, e2, e1]
    refine ⟨?_, ?_, ?_, ?_, ?_, ?_, ?_⟩
    · rw [bk_up_s (by decide), bk_up_s (by decide), bk_up_s (by decide), bk_up_s (by decide), bk_up_s (by decide), bk_up_s (by decide), bk_up_e]
    · rw [bk_up_s (by decide), bk_up_s (by decide), bk_up_s (by decide), bk_up_s (by decide), bk_up_s (by decide), bk_up_e]
    · rw [bk_up_s (by decide), bk_up_s (by decide), bk_up_s (by decide), bk_up_s (by decide), bk_up_e]
    · rw [bk_up_s (by decide), bk_up_s (by decide), bk_up_s (by decide), bk_up_e]
    · rw [bk_up_s (by decide), bk_up_s (by decide), bk_up_e]
    · rw [bk_up_s (by decide), bk_up_e]
    · rw [bk_up_e]
  refine bk_loopS (W := fun k M' => bk_wp (bk_C d) P_0 _ 0 37 [bk_c 5 p, bk_i k] [] M') (s := 0) (n := 36) (fun k M' => bkFr (bkPa p) M M' ∧ M' 5 p = M7 5 p ∧ ∀ j, 0 ≤ j → j < k → M' 28 p j = 5) (by omega) (fun k M' k0 k1 hI nx => ?_) (fun M' hI => ?_) ⟨f7, rfl, fun j _ _ => by omega⟩
  · obtain ⟨i1, i2, i3⟩ := hI
    rw [L_0_37]
    refine ⟨fun w => absurd w (by omega), fun _ => ⟨by omega, fun M8 e8 => ⟨by unfold bk_r32; omega, nx M8 ⟨by rw [e8]; exact bkFr_up i1 ⟨.inr (by omega), rfl⟩, by rw [e8, bk_up_f (by decide), i2], fun j j0 j1 => ?_⟩⟩⟩⟩
    rw [e8, bk_up_w]
    by_cases w : j = k
    · rw [if_pos w]
    · rw [if_neg w]; exact i3 j j0 (by omega)
  · obtain ⟨i1, i2, i3⟩ := hI
    rw [L_0_37]
    refine ⟨fun _ => ?_, fun w => absurd (by omega) w⟩
    refine bk_loopS (W := fun k M' => bk_wp (bk_C d) P_0 _ 0 58 [bk_c 5 p, bk_i k] [] M') (s := 0) (n := 6) (fun k M' => bkFr (bkPa p) M M' ∧ M' 5 p = M7 5 p ∧ (∀ j, 0 ≤ j → j < 36 → M' 28 p j = 5) ∧ ∀ j, 0 ≤ j → j < k → M' 29 p j = 0) (by omega) (fun k M' k0 k1 hI nx => ?_) (fun M' hI => ?_) ⟨i1, i2, i3, fun j _ _ => by omega⟩
    · obtain ⟨i1, i2, i3, i4⟩ := hI
      rw [L_0_58]
      refine ⟨fun w => absurd w (by omega), fun _ => ⟨by omega, fun M8 e8 => ⟨by unfold bk_r32; omega, nx M8 ⟨by rw [e8]; exact bkFr_up i1 ⟨.inr (by omega), rfl⟩, by rw [e8, bk_up_f (by decide), i2], by rw [e8, bk_up_f (by decide)]; exact i3, fun j j0 j1 => ?_⟩⟩⟩⟩
      rw [e8, bk_up_w]
      by_cases w : j = k
      · rw [if_pos w]
      · rw [if_neg w]; exact i4 j j0 (by omega)
    · obtain ⟨i1, i2, i3, i4⟩ := hI
      rw [L_0_58]
      refine ⟨fun _ => ?_, fun w => absurd (by omega) w⟩
      refine bk_loopS (W := fun k M' => bk_wp (bk_C d) P_0 _ 0 79 [bk_c 5 p, bk_i k] [] M') (s := 0) (n := 2) (fun k M' => bkFr (bkPa p) M M' ∧ M' 5 p = M7 5 p ∧ (∀ j, 0 ≤ j → j < 36 → M' 28 p j = 5) ∧ (∀ j, 0 ≤ j → j < 6 → M' 29 p j = 0) ∧ ∀ j, 0 ≤ j → j < k → M' 37 p j = 9 ∧ M' 38 p j = 0) (by omega) (fun k M' k0 k1 hI nx => ?_) (fun M' hI => ?_) ⟨i1, i2, i3, i4, fun j _ _ => by omega⟩
      · obtain ⟨i1, i2, i3, i4, i5⟩ := hI
        rw [L_0_79]
        refine ⟨fun w => absurd w (by omega), fun _ => ⟨by omega, fun M8 e8 => ⟨by omega, fun M9 e9 => ⟨by unfold bk_r32; omega, nx M9 ⟨by rw [e9, e8]; exact bkFr_up (bkFr_up i1 ⟨.inr (by omega), rfl⟩) ⟨.inr (by omega), rfl⟩, by rw [e9, e8, bk_up_f (by decide), bk_up_f (by decide), i2], by rw [e9, e8, bk_up_f (by decide), bk_up_f (by decide)]; exact i3, by rw [e9, e8, bk_up_f (by decide), bk_up_f (by decide)]; exact i4, fun j j0 j1 => ?_⟩⟩⟩⟩⟩
        have h37 : M9 37 p j = if j = k then 9 else M' 37 p j := by rw [e9, bk_up_f (by decide), e8, bk_up_w]
        have h38 : M9 38 p j = if j = k then 0 else M' 38 p j := by rw [e9, bk_up_w, e8, bk_up_f (by decide)]
        rw [h37, h38]
        by_cases w : j = k
        · rw [if_pos w, if_pos w]; exact ⟨rfl, rfl⟩
        · rw [if_neg w, if_neg w]; exact i5 j j0 (by omega)
      · obtain ⟨i1, i2, i3, i4, i5⟩ := hI
        rw [L_0_79]
        refine ⟨fun _ => ⟨rfl, i1, ?_⟩, fun w => absurd (by omega) w⟩
        have q0 := i5 0 (by omega) (by omega)
        have q1 := i5 1 (by omega) (by omega)
        unfold bkRdP
        rw [i2, show bkS0 2 = 5 from rfl, show bkS0 3 = 5 from rfl, show bkS0 5 = 2 from rfl, show bkS0 78 = 9 from rfl, show bkS0 79 = 9 from rfl, z 0 (by omega) (by omega) (by omega) (by omega) (by omega) (by omega), z 1 (by omega) (by omega) (by omega) (by omega) (by omega) (by omega), z 4 (by omega) (by omega) (by omega) (by omega) (by omega) (by omega)]
        exact ⟨g, fun k k0 k1 => by rw [hh k k0 k1]; exact i3 k k0 k1, i4, ⟨q0.1, q1.1, q0.2, q1.2⟩, fun f f0 f1 => by omega, fun m m0 m1 => by omega⟩
theorem bkTx_s {T : Int → Int} {c L : Int} {k : Nat} {n i : Int} {S : Int → Int} : bkTx T c L (k + 1) n S i = if bkTk T c L i = 0 then .inr (n, S) else match bkLine T c L S i with
    | .inl e => .inl e
    | .inr (j, S') => if bkTk T c L j = 59 then bkTx T c L k (n + 1) S' (bkTn T c L j) else .inl (1, bkTf T c L j) := rfl
/-- the class's plain reader -/
theorem S5c {d p : Nat} {M : bk_M} {T : Int → Int} {c : Int} (hT : M 53 0 = T) (hc : M 10 0 1 = c) (hc2 : 0 ≤ c ∧ c ≤ 940) (hw : ∀ w : Nat, w < 25 → M 54 0 w = bkWt w) : bk_C (d + 7) 0 5 [bk_c 6 0, bk_c 10 0, bk_c 5 p] M (fun t r M' => t = 0 ∧ bkFr (bkCa p) M M' ∧ (∀ j, j ≠ 2 → j ≠ 3 → j ≠ 4 → j ≠ 5 → j ≠ 6 → j ≠ 7 → j ≠ 9 → j ≠ 10 → j ≠ 11 → M' 10 0 j = M 10 0 j) ∧ (∀ w q, bkTx T c 900 900 0 bkS0 0 = .inl (w, q) → r = -1 ∧ M' 10 0 6 = w ∧ M' 10 0 7 = q) ∧ (∀ n S, bkTx T c 900 900 0 bkS0 0 = .inr (n, S) → r = n ∧ M' 10 0 6 = 0 ∧ M' 10 0 7 = M' 10 0 7 ∧ bkRdP M' p S ∧ bkSv S)) := by
  rw [E_5]
  refine bk_use S0c (fun r M2 hM2 => ⟨rfl, fun M4 e4 M5 e5 M6 e6 => ⟨.inl rfl, fun M7 e7 => ?_⟩⟩)
  obtain ⟨f2, hP2⟩ := hM2
  have A6 : bkCa p 6 0 := .inr (.inl ⟨rfl, rfl⟩)
  have f7 : bkFr (bkCa p) M M7 := by
    rw [e7, e6, e5, e4]
    exact bkFr_up (bkFr_up (bkFr_up (bkFr_up (bkFr_mono f2 fun k a w => .inr (.inr w)) A6) A6) A6) A6
  have u : ∀ k a, k ≠ 6 → M7 k a = M2 k a := fun k a w => by rw [e7, e6, e5, e4, bk_up_f w, bk_up_f w, bk_up_f w, bk_up_f w]
  have t7 : M7 53 0 = T := (f7 53 0 (by unfold bkCa; omega)).trans hT
  have m10 : M7 10 0 = M 10 0 := by rw [u 10 0 (by decide), f2 10 0 (by unfold bkPa; omega)]
  have R7 : bkRdR M7 bkS0 := by
    have z : ∀ j, j ≠ 2 → j ≠ 3 → j ≠ 5 → ¬ (6 ≤ j ∧ j < 42) → j ≠ 78 → j ≠ 79 → bkS0 j = 0 := fun j q1 q2 q3 q4 q5 q6 => by
      unfold bkS0; rw [if_neg q1, if_neg q2, if_neg q3, if_neg q4, if_neg q5, if_neg q6]
    have z2 : ∀ j, 80 ≤ j → bkS0 j = 0 := fun j q => z j (by omega) (by omega) (by omega) (by omega) (by omega) (by omega)
    have b0 : M7 6 0 0 = 0 := by rw [e7, e6, e5, e4, bk_up_s (by decide), bk_up_s (by decide), bk_up_s (by decide), bk_up_e]
    have b1 : M7 6 0 1 = 0 := by rw [e7, e6, e5, bk_up_s (by decide), bk_up_s (by decide), bk_up_e]
    have b2 : M7 6 0 2 = 0 := by rw [e7, e6, bk_up_s (by decide), bk_up_e]
    have b3 : M7 6 0 3 = 0 := by rw [e7, bk_up_e]
    unfold bkRdR
    rw [b0, b1, b2, b3, z2 120 (by omega), z2 121 (by omega), z2 122 (by omega), z2 123 (by omega), z2 124 (by omega), z2 170 (by omega)]
    exact ⟨by omega, by omega, .inl rfl, by omega, 0, by decide, rfl, fun k hk => by rw [z2 (130 + k) (by omega), Nat.zero_testBit, if_neg (by decide)]⟩
  have P7 : bkRdP M7 p bkS0 := bkRdP_e hP2 fun k hk => u k p (by omega)
  refine bk_use (S6c (by rw [m10, hc]; exact hc2) (fun w hw' => by rw [f7 54 0 (by unfold bkCa; omega)]; exact hw w hw')) (fun r M9 hM9 => ⟨rfl, ?_⟩)
  obtain ⟨f9, o9, C9, K9, z6, z7⟩ := hM9
  rw [t7, m10, hc] at C9 K9
  have F9 : bkFr (bkCa p) M M9 := bkFr_trans f7 (bkFr_mono f9 fun k a w => .inl w)
  have O9 : ∀ j, j ≠ 2 → j ≠ 3 → j ≠ 4 → j ≠ 5 → j ≠ 6 → j ≠ 7 → j ≠ 9 → j ≠ 10 → j ≠ 11 → M9 10 0 j = M 10 0 j := fun j q1 q2 q3 q4 q5 q6 q7 q8 q9 => by rw [o9 j q1 q2 q3 q4 q5 q6 q7 q8 q9, m10]
  have R9 : bkRdC M9 p bkS0 := ⟨bkRdP_e P7 fun k hk => f9 k p (by omega), bkRdR_e R7 (f9 6 0 (by omega))⟩
  generalize hO : bkTx T c 900 900 0 bkS0 0 = O
  have key : ∀ (k n : Nat) (S : Int → Int) (i : Int) (M' : bk_M), k + n = 900 → 2 * (n : Int) ≤ i → i ≤ c → bkSv S → bkRdC M' p S → bkCt M' T c 900 → bkCk M' T c 900 i → M' 10 0 6 = 0 → bkFr (bkCa p) M M' → (∀ j, j ≠ 2 → j ≠ 3 → j ≠ 4 → j ≠ 5 → j ≠ 6 → j ≠ 7 → j ≠ 9 → j ≠ 10 → j ≠ 11 → M' 10 0 j = M 10 0 j) → bkTx T c 900 k n S i = O → bk_wp (bk_C (d + 6)) P_5 (fun t r M' => t = 0 ∧ bkFr (bkCa p) M M' ∧ (∀ j, j ≠ 2 → j ≠ 3 → j ≠ 4 → j ≠ 5 → j ≠ 6 → j ≠ 7 → j ≠ 9 → j ≠ 10 → j ≠ 11 → M' 10 0 j = M 10 0 j) ∧ (∀ w q, O = .inl (w, q) → r = -1 ∧ M' 10 0 6 = w ∧ M' 10 0 7 = q) ∧ (∀ n S, O = .inr (n, S) → r = n ∧ M' 10 0 6 = 0 ∧ M' 10 0 7 = M' 10 0 7 ∧ bkRdP M' p S ∧ bkSv S)) 0 33 [bk_c 6 0, bk_c 10 0, bk_c 5 p, bk_i n] [] M' := by
    intro k
    induction k with
    | zero => intro n S i M' hn h2 hi; omega
    | succ k ih =>
      intro n S i M' hn h2 hi hS hR hC hK h6 hF ho hO
      rw [bkTx_s] at hO
      rw [L_5_33, hK.1]
      refine ⟨fun w => absurd w (by omega), fun _ => ⟨fun z => ?_, fun z => ?_⟩⟩
      · rw [if_neg z] at hO
        refine bk_use (S13c hC hK (by omega) hS hR) (fun r M2 hM2 => ?_)
        obtain ⟨g1, g2, g3⟩ := hM2
        have F2 := bkFr_trans hF g1.1
        have O2 : ∀ j, j ≠ 2 → j ≠ 3 → j ≠ 4 → j ≠ 5 → j ≠ 6 → j ≠ 7 → j ≠ 9 → j ≠ 10 → j ≠ 11 → M2 10 0 j = M 10 0 j := fun j q1 q2 q3 q4 q5 q6 q7 q8 q9 => by rw [g1.2 j q1 q2 q3 q4 q5 q6 q8 q9, ho j q1 q2 q3 q4 q5 q6 q7 q8 q9]
        rcases eL : bkLine T c 900 S i with ⟨w, q⟩ | ⟨j, S'⟩
        · rw [eL] at hO
          obtain ⟨a1, a2, a3⟩ := g2 w q eL
          refine ⟨rfl, fun _ => ⟨rfl, F2, O2, fun w' q' e' => ?_, fun n' S' e' => ?_⟩, fun w => absurd a1 w⟩
          · rw [← hO] at e'; cases e'; exact ⟨rfl, a2, a3⟩
          · rw [← hO] at e'; cases e'
        · rw [eL] at hO
          obtain ⟨a1, a2, a3, a4⟩ := g3 j S' eL
          obtain ⟨b1, b2, b3⟩ := bkLk_line hi hS j S' eL
          have C2 := bkCt_p hC g1
          have hnj := @bkTn_b T c 900 j b2
          refine ⟨rfl, fun w => absurd w (by omega), fun _ => bk_use (S30c C2 a2 (by omega)) (fun r4 M5 hM5 => ?_)⟩
          obtain ⟨f5, K5, q1, q2⟩ := hM5
          have F5 := bkFr_trans F2 (bkFr_mono f5.1 fun k a w => .inl w)
          have O5 : ∀ j, j ≠ 2 → j ≠ 3 → j ≠ 4 → j ≠ 5 → j ≠ 6 → j ≠ 7 → j ≠ 9 → j ≠ 10 → j ≠ 11 → M5 10 0 j = M 10 0 j := fun j q1 q2 q3 q4 q5 q6 q7 q8 q9 => by rw [f5.2 j q1 q2 q3 q4 q5 q6 q8 q9, O2 j q1 q2 q3 q4 q5 q6 q7 q8 q9]
          refine ⟨rfl, fun w => ?_, fun w => ?_⟩
          · have w : bkTk T c 900 j = 59 := by
              by_cases e : bkTk T c 900 j = 59
              · exact e
              · exact absurd (q2 e).1 w
            have hlt := @bkTn_lt T c 900 j b2 (by omega) (by omega)
            refine bk_use (S7c (bkCt_f C2 f5) K5.2.1 (by omega)) (fun r8 M8 hM8 => ?_)
            obtain ⟨f8, e68, K8⟩ := hM8
            refine ⟨rfl, by unfold bk_r32; omega, ?_⟩
            have := ih (n + 1) S' (bkTn T c 900 j) M8 (by omega) (by omega) (by omega) b3 (bkRdC_f (bkRdC_f a4 f5) f8) (bkCt_f (bkCt_f C2 f5) f8) K8 (by rw [e68, (q1 w).2, a3, h6]) (bkFr_trans F5 (bkFr_mono f8.1 fun k a w => .inl w)) (fun j q1 q2 q3 q4 q5 q6 q7 q8 q9 => by rw [f8.2 j q1 q2 q3 q4 q5 q6 q8 q9, O5 j q1 q2 q3 q4 q5 q6 q7 q8 q9]) (by rw [← hO]; dsimp only; rw [if_pos w]; rfl)
            rwa [show ((n + 1 : Nat) : Int) = n + 1 by omega] at this
          · have w : bkTk T c 900 j ≠ 59 := fun e => by rw [(q1 e).1] at w; exact absurd (by decide) w
            dsimp only at hO
            rw [if_neg w] at hO
            obtain ⟨c1, c2, c3⟩ := q2 w
            refine ⟨rfl, F5, O5, fun w' q' e' => ?_, fun n' S' e' => ?_⟩
            · rw [← hO] at e'; cases e'; exact ⟨rfl, c2, c3⟩
            · rw [← hO] at e'; cases e'
      · rw [if_pos (by omega)] at hO
        refine ⟨rfl, hF, ho, fun w' q' e' => ?_, fun n' S' e' => ?_⟩
        · rw [← hO] at e'; cases e'
        · rw [← hO] at e'; cases e'; exact ⟨rfl, h6, rfl, hR.1, hS⟩
  exact key 900 0 bkS0 0 M9 rfl (by omega) (by omega) bkS0_v R9 C9 K9 z6 F9 O9 hO
