/-! The class takes a step: the token at its place. -/
def bkTkC (M M' : bk_M) : Prop := bkFr (fun k a => k = 10 ∧ a = 0) M M' ∧ (∀ j, j ≠ 2 → j ≠ 3 → j ≠ 4 → j ≠ 5 → j ≠ 10 → j ≠ 11 → M' 10 0 j = M 10 0 j) ∧ M' 10 0 2 = bkTk (M 53 0) (M 10 0 1) (M 10 0 9) (M 10 0 10) ∧ M' 10 0 10 = bkTn (M 53 0) (M 10 0 1) (M 10 0 9) (M 10 0 10) ∧ M' 10 0 11 = bkTf (M 53 0) (M 10 0 1) (M 10 0 9) (M 10 0 10) ∧ (bkTk (M 53 0) (M 10 0 1) (M 10 0 9) (M 10 0 10) = 2 → M' 10 0 3 = bkTw 32 (M 53 0) (M 10 0 1) (M 10 0 10) ∧ M' 10 0 4 = bkIx (M 54 0) (bkTw 32 (M 53 0) (M 10 0 1) (M 10 0 10)) 25) ∧ (bkTk (M 53 0) (M 10 0 1) (M 10 0 9) (M 10 0 10) = 3 → M' 10 0 5 = bkTv (M 53 0) (M 10 0 1) (M 10 0 10))
theorem bkRk_b {T : Int → Int} {p : Int} {n : Nat} : bkRk T p n = 1 ∨ bkRk T p n = 2 ∨ bkRk T p n = 3 := by unfold bkRk; (repeat' split) <;> omega
theorem S7 {d : Nat} {M : bk_M} (h0 : 0 ≤ M 10 0 10) (h1 : M 10 0 10 ≤ M 10 0 1) (h2 : M 10 0 1 ≤ 940) : bk_C (d + 2) 0 7 [bk_c 10 0] M (fun t r M' => t = 0 ∧ bkTkC M M') := by
  rw [E_7]
  generalize hQ : (fun (t : Nat) (r : Int) (M' : bk_M) => t = 0 ∧ bkTkC M M') = Q
  unfold bkTkC at hQ
  generalize hc : M 10 0 1 = c at *
  generalize hL : M 10 0 9 = L at *
  generalize hi : M 10 0 10 = i at *
  have fin : ∀ p, i ≤ p → p ≤ c → (∀ j, i ≤ j → j < p → bkBl (M 53 0 j) = true) → (c ≤ p ∨ bkBl (M 53 0 p) = false) → bk_wp (bk_C (d + 1)) P_7 Q 0 41 [bk_c 10 0, bk_i p] [] M := by
    intro p p0 p1 pb pe
    have ep : bkTp (M 53 0) c i = p := bkEd_eq p0 (.inl p1) pb pe
    have g0 : bkTf (M 53 0) c L i = if L ≤ p ∧ L < c then L else p := by unfold bkTf; rw [ep]
    have g1 : bkTk (M 53 0) c L i = if L ≤ p ∧ L < c then 1 else if c ≤ p then 0 else if bkAl (M 53 0 p) = true then bkRk (M 53 0) p (bkTl (M 53 0) c p) else if bkZn (M 53 0 p) = true then M 53 0 p else 1 := by unfold bkTk; rw [ep]
    have g2 : bkTn (M 53 0) c L i = if (L ≤ p ∧ L < c) ∨ c ≤ p then p else if bkAl (M 53 0 p) = true then bkTe (M 53 0) c p else p + 1 := by unfold bkTn; rw [ep]
    have g3 : bkTw 32 (M 53 0) c i = bkKy 32 (M 53 0) p (bkTl (M 53 0) c p) := by unfold bkTw; rw [ep]
    have g4 : bkTv (M 53 0) c i = bkVl (M 53 0) p (bkTl (M 53 0) c p) := by unfold bkTv; rw [ep]
    rw [g0, g1, g2, g3, g4] at hQ
    rw [L_7_41]
    intro M1 e1 M2 e2
    have fr : bkFr (fun k a => k = 10 ∧ a = 0) M M2 := by rw [e2, e1]; exact bkFr_up (bkFr_up (bkFr_refl _ _) ⟨rfl, rfl⟩) ⟨rfl, rfl⟩
    have T2 : M2 53 0 = M 53 0 := fr 53 0 (by omega)
    have W2 : M2 54 0 = M 54 0 := fr 54 0 (by omega)
    have o : ∀ j, j ≠ 10 → j ≠ 11 → M2 10 0 j = M 10 0 j := fun j q1 q2 => by rw [e2, e1, bk_up_s q2, bk_up_s q1]
    have o10 : M2 10 0 10 = p := by rw [e2, bk_up_s (by decide), e1, bk_up_e]
    have o11 : M2 10 0 11 = p := by rw [e2, bk_up_e]
    have c2 : M2 10 0 1 = c := by rw [o 1 (by decide) (by decide), hc]
    have L2 : M2 10 0 9 = L := by rw [o 9 (by decide) (by decide), hL]
    have body : ¬ (L ≤ p ∧ L < c) → ((p < M2 10 0 (1 : Int) → ((0 : Int) ≤ p ∧ p < (940 : Int)) ∧ bk_C (d + 1) 0 8 [bk_i (M2 53 0 p)] M2 (fun t5 r3 M4 => t5 = 0 ∧ ((r3 ≠ (0 : Int) → bk_C (d + 1) 0 10 [bk_c 10 0] M4 (fun t8 r6 M7 => t8 = 0 ∧ ((M7 10 0 (2 : Int) ≠ (2 : Int) → ∀ M9 : bk_M, M9 = bk_up M7 10 0 (4 : Int) (-1 : Int) → Q 0 0 M9) ∧ (¬ (M7 10 0 (2 : Int) ≠ (2 : Int)) → bk_C (d + 1) 0 11 [bk_c 54 0, bk_i (25 : Int), bk_l (M7 10 0 (3 : Int))] M7 (fun t12 r10 M11 => t12 = 0 ∧ ∀ M13 : bk_M, M13 = bk_up M11 10 0 (4 : Int) r10 → Q 0 0 M13))))) ∧ (¬ (r3 ≠ (0 : Int)) → ((0 : Int) ≤ p ∧ p < (940 : Int)) ∧ bk_C (d + 1) 0 9 [bk_i (M4 53 0 p)] M4 (fun t16 r14 M15 => t16 = 0 ∧ ((r14 = (0 : Int) → bk_r32 (p + (1 : Int)) ∧ ∀ M17 : bk_M, M17 = bk_up M15 10 0 (10 : Int) (p + (1 : Int)) → ((0 : Int) ≤ p ∧ p < (940 : Int)) ∧ bk_C (d + 1) 0 12 [bk_i (M17 53 0 p)] M17 (fun t20 r18 M19 => t20 = 0 ∧ ((r18 = (0 : Int) → ∀ M21 : bk_M, M21 = bk_up M19 10 0 (2 : Int) (1 : Int) → Q 0 0 M21) ∧ (¬ (r18 = (0 : Int)) → ((0 : Int) ≤ p ∧ p < (940 : Int)) ∧ ∀ M22 : bk_M, M22 = bk_up M19 10 0 (2 : Int) (M19 53 0 p) → Q 0 0 M22)))) ∧ (¬ (r14 = (0 : Int)) → bk_C (d + 1) 0 10 [bk_c 10 0] M15 (fun t25 r23 M24 => t25 = 0 ∧ ((M24 10 0 (2 : Int) ≠ (2 : Int) → ∀ M26 : bk_M, M26 = bk_up M24 10 0 (4 : Int) (-1 : Int) → Q 0 0 M26) ∧ (¬ (M24 10 0 (2 : Int) ≠ (2 : Int)) → bk_C (d + 1) 0 11 [bk_c 54 0, bk_i (25 : Int), bk_l (M24 10 0 (3 : Int))] M24 (fun t29 r27 M28 => t29 = 0 ∧ ∀ M30 : bk_M, M30 = bk_up M28 10 0 (4 : Int) r27 → Q 0 0 M30))))))))))) ∧ (¬ (p < M2 10 0 (1 : Int)) → ∀ M31 : bk_M, M31 = bk_up M2 10 0 (2 : Int) (0 : Int) → Q 0 0 M31)) := by
      intro hb
      have hb2 : ¬ ((L ≤ p ∧ L < c) ∨ c ≤ p) ↔ p < c := by omega
      rw [if_neg hb, if_neg hb] at hQ
      have run : p < c → bkAl (M 53 0 p) = true → bk_C (d + 1) 0 10 [bk_c 10 0] M2 (fun t8 r6 M7 => t8 = 0 ∧ ((M7 10 0 2 ≠ 2 → ∀ M9 : bk_M, M9 = bk_up M7 10 0 4 (-1) → Q 0 0 M9) ∧ (¬ (M7 10 0 2 ≠ 2) → bk_C (d + 1) 0 11 [bk_c 54 0, bk_i 25, bk_l (M7 10 0 3)] M7 (fun t12 r10 M11 => t12 = 0 ∧ ∀ M13 : bk_M, M13 = bk_up M11 10 0 4 r10 → Q 0 0 M13)))) := fun hp g => by
        rw [if_neg (show ¬ c ≤ p by omega), if_neg (show ¬ ((L ≤ p ∧ L < c) ∨ c ≤ p) by omega), if_pos g, if_pos g] at hQ
        refine bk_use (S10 c2 o11 (by omega) p1 h2) (fun r M7 hM7 => ?_)
        rw [T2] at hM7
        obtain ⟨f7, k1, k2, k3, k4, k5⟩ := hM7
        have fr7 := bkFr_trans fr f7
        have ob : ∀ j, j ≠ 2 → j ≠ 3 → j ≠ 4 → j ≠ 5 → j ≠ 10 → j ≠ 11 → M7 10 0 j = M 10 0 j := fun j q1 q2 q3 q4 q5 q6 => by rw [k1 j q1 q2 q4 q5, o j q5 q6]
        have o7 : M7 10 0 11 = p := by rw [k1 11 (by decide) (by decide) (by decide) (by decide), o11]
        refine ⟨rfl, fun z M9 e9 => ?_, fun z => S11w.2 ⟨rfl, fun M13 e13 => ?_⟩⟩
        · rw [← hQ]
          refine ⟨rfl, by rw [e9]; exact bkFr_up fr7 ⟨rfl, rfl⟩, fun j q1 q2 q3 q4 q5 q6 => by rw [e9, bk_up_s q3, ob j q1 q2 q3 q4 q5 q6], by rw [e9, bk_up_s (by decide), k3], by rw [e9, bk_up_s (by decide), k2], by rw [e9, bk_up_s (by decide), o7], fun w => absurd (k3.trans w) z, fun w => by rw [e9, bk_up_s (by decide), k5 w]⟩
        · have w2 : bkRk (M 53 0) p (bkTl (M 53 0) c p) = 2 := by omega
          have k4 := k4 w2
          rw [show M7 54 0 = M 54 0 from (f7 54 0 (by omega)).trans W2, k4] at e13
          rw [← hQ]
          refine ⟨rfl, by rw [e13]; exact bkFr_up fr7 ⟨rfl, rfl⟩, fun j q1 q2 q3 q4 q5 q6 => by rw [e13, bk_up_s q3, ob j q1 q2 q3 q4 q5 q6], by rw [e13, bk_up_s (by decide), k3], by rw [e13, bk_up_s (by decide), k2], by rw [e13, bk_up_s (by decide), o7], fun _ => ⟨by rw [e13, bk_up_s (by decide), k4], by rw [e13, bk_up_e]⟩, fun w => by rw [w2] at w; exact absurd w (by decide)⟩
      refine ⟨fun z => ⟨by omega, S8.2 ⟨rfl, fun w => run (by omega) ?_, fun w => ⟨by omega, S9.2 ⟨rfl, fun w2 => ⟨by unfold bk_r32; omega, fun M17 e17 => ⟨by omega, S12.2 ⟨rfl, fun w3 M21 e21 => ?_, fun w3 => ⟨by omega, fun M22 e22 => ?_⟩⟩⟩⟩, fun w2 => run (by omega) ?_⟩⟩⟩⟩, fun z M60 e60 => ?_⟩
      · rw [T2] at w; unfold bkAl; rw [show bkSm (M 53 0 p) = true by by_cases q : bkSm (M 53 0 p) = true; (exact q); (rw [if_neg q] at w; exact absurd rfl w), Bool.true_or]
      · have a1 : bkAl (M 53 0 p) = false := by
          rw [T2] at w w2
          unfold bkAl
          rw [show bkSm (M 53 0 p) = false by by_cases q : bkSm (M 53 0 p) = true; (rw [if_pos q] at w; omega); (simpa using q), show bkDg (M 53 0 p) = false by by_cases q : bkDg (M 53 0 p) = true; (rw [if_pos q] at w2; omega); (simpa using q)]; rfl
        have T17 : M17 53 0 = M 53 0 := by rw [e17, bk_up_f (by decide), T2]
        have a2 : ¬ bkZn (M 53 0 p) = true := fun q => by rw [T17, if_pos q] at w3; omega
        rw [if_neg (show ¬ c ≤ p by omega), if_neg (show ¬ ((L ≤ p ∧ L < c) ∨ c ≤ p) by omega), if_neg (show ¬ bkAl (M 53 0 p) = true by rw [a1]; decide), if_neg (show ¬ bkAl (M 53 0 p) = true by rw [a1]; decide), if_neg a2] at hQ
        rw [← hQ, e21, e17]
        refine ⟨rfl, bkFr_up (bkFr_up fr ⟨rfl, rfl⟩) ⟨rfl, rfl⟩, fun j q1 q2 q3 q4 q5 q6 => by rw [bk_up_s q1, bk_up_s q5, o j q5 q6], bk_up_e, by rw [bk_up_s (by decide), bk_up_e], by rw [bk_up_s (by decide), bk_up_s (by decide), o11], fun w => absurd w (by decide), fun w => absurd w (by decide)⟩
      · have a1 : bkAl (M 53 0 p) = false := by
          rw [T2] at w w2
          unfold bkAl
          rw [show bkSm (M 53 0 p) = false by by_cases q : bkSm (M 53 0 p) = true; (rw [if_pos q] at w; omega); (simpa using q), show bkDg (M 53 0 p) = false by by_cases q : bkDg (M 53 0 p) = true; (rw [if_pos q] at w2; omega); (simpa using q)]; rfl
        have T17 : M17 53 0 = M 53 0 := by rw [e17, bk_up_f (by decide), T2]
        have a2 : bkZn (M 53 0 p) = true := by
          by_cases q : bkZn (M 53 0 p) = true
          · exact q
          · rw [T17, if_neg q] at w3; exact absurd rfl w3
        rw [T17] at e22
        have a3 : M 53 0 p ≠ 2 ∧ M 53 0 p ≠ 3 := by unfold bkZn at a2; rw [decide_eq_true_eq] at a2; omega
        rw [if_neg (show ¬ c ≤ p by omega), if_neg (show ¬ ((L ≤ p ∧ L < c) ∨ c ≤ p) by omega), if_neg (show ¬ bkAl (M 53 0 p) = true by rw [a1]; decide), if_neg (show ¬ bkAl (M 53 0 p) = true by rw [a1]; decide), if_pos a2] at hQ
        rw [← hQ, e22, e17]
        refine ⟨rfl, bkFr_up (bkFr_up fr ⟨rfl, rfl⟩) ⟨rfl, rfl⟩, fun j q1 q2 q3 q4 q5 q6 => by rw [bk_up_s q1, bk_up_s q5, o j q5 q6], bk_up_e, by rw [bk_up_s (by decide), bk_up_e], by rw [bk_up_s (by decide), bk_up_s (by decide), o11], fun w => absurd w a3.1, fun w => absurd w a3.2⟩
      · rw [T2] at w2; unfold bkAl; rw [show bkDg (M 53 0 p) = true by by_cases q : bkDg (M 53 0 p) = true; (exact q); (rw [if_neg q] at w2; exact absurd rfl w2), Bool.or_true]
      · rw [c2] at z
        rw [if_pos (show c ≤ p by omega), if_pos (show (L ≤ p ∧ L < c) ∨ c ≤ p by omega)] at hQ
        rw [← hQ, e60]
        refine ⟨rfl, bkFr_up fr ⟨rfl, rfl⟩, fun j q1 q2 q3 q4 q5 q6 => by rw [bk_up_s q1, o j q5 q6], bk_up_e, by rw [bk_up_s (by decide), o10], by rw [bk_up_s (by decide), o11], fun w => absurd w (by decide), fun w => absurd w (by decide)⟩
    refine ⟨fun z => body (by omega), fun z => ⟨fun z2 => body (by omega), fun z2 M61 e61 M62 e62 => ?_⟩⟩
    rw [c2, L2] at *
    rw [if_pos (show L ≤ p ∧ L < c by omega), if_pos (show L ≤ p ∧ L < c by omega), if_pos (show (L ≤ p ∧ L < c) ∨ c ≤ p by omega)] at hQ
    rw [← hQ, e62, e61]
    exact ⟨rfl, bkFr_up (bkFr_up fr ⟨rfl, rfl⟩) ⟨rfl, rfl⟩, fun j q1 q2 q3 q4 q5 q6 => by rw [bk_up_s q1, bk_up_s q6, o j q5 q6], bk_up_e, by rw [bk_up_s (by decide), bk_up_s (by decide), o10], by rw [bk_up_s (by decide), bk_up_e], fun w => absurd w (by decide), fun w => absurd w (by decide)⟩
  have key : ∀ (m n : Nat), i + n + m = c → (∀ j, i ≤ j → j < i + n → bkBl (M 53 0 j) = true) → bk_wp (bk_C (d + 1)) P_7 Q 0 5 [bk_c 10 0, bk_i (i + n)] [] M := by
    intro m
    induction m with
    | zero =>
      intro n hn hb
      rw [L_7_5, hc]
      exact ⟨fun _ => fin _ (by omega) (by omega) hb (.inl (by omega)), fun z => absurd (by omega) z⟩
    | succ m ih =>
      intro n hn hb
      have go : bkBl (M 53 0 (i + n)) = true → bk_wp (bk_C (d + 1)) P_7 Q 0 35 [bk_c 10 0, bk_i (i + n)] [] M := fun q => by
        rw [L_7_35]
        refine ⟨by unfold bk_r32; omega, ?_⟩
        have := ih (n + 1) (by omega) (fun j q1 q2 => by
          by_cases e : j = i + n
          · rw [e]; exact q
          · exact hb j q1 (by omega))
        rwa [show ((n + 1 : Nat) : Int) = n + 1 by omega, show i + ((n : Int) + 1) = i + n + 1 by omega] at this
      rw [L_7_5, hc]
      refine ⟨fun z => absurd z (by omega), fun _ => ⟨by omega, fun z => go (by rw [z]; rfl), fun z => ⟨by omega, fun z2 => fin _ (by omega) (by omega) hb (.inr ?_), fun z2 => go (by rw [show M 53 0 (i + n) = 10 by omega]; rfl)⟩⟩⟩
      unfold bkBl
      rw [decide_eq_false z, decide_eq_false z2]; rfl
  have := key (c - i).toNat 0 (by omega) (fun j _ _ => by omega)
  rwa [show i + ((0 : Nat) : Int) = i by omega] at this
