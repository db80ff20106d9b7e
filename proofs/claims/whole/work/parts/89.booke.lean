/-! The class reads a BOOK's text. -/
theorem S112c {d p : Nat} {M : bk_M} {T S0 : Int → Int} {c : Int} (hT : M 53 0 = T) (hc : M 10 0 1 = c) (hc2 : 0 ≤ c ∧ c ≤ 940) (hw : ∀ w : Nat, w < 25 → M 54 0 w = bkWt w) (hm : 0 ≤ M 5 p 11 ∧ M 5 p 11 ≤ 3) : bk_C (d + 7) 0 112 [bk_c 0 0, bk_c 10 0, bk_c 5 p] M (fun t r M' => t = 0 ∧ bkFr bkBa M M' ∧ (∀ j, j ≠ 2 → j ≠ 3 → j ≠ 4 → j ≠ 5 → j ≠ 6 → j ≠ 7 → j ≠ 9 → j ≠ 10 → j ≠ 11 → M' 10 0 j = M 10 0 j) ∧ (∀ w q, bkBTx (M 36 p) (M 5 p 11).toNat T c 400 41 0 S0 0 = .inl (w, q) → r = 0 ∧ M' 10 0 6 = w ∧ M' 10 0 7 = q) ∧ (∀ n S, bkBTx (M 36 p) (M 5 p 11).toNat T c 400 41 0 S0 0 = .inr (n, S) → r = 1 ∧ M' 10 0 6 = 0 ∧ M' 0 0 1 = n ∧ bkBc M' S n)) := by
  rw [E_112]
  intro M1 e1
  have f1 : bkFr bkBa M M1 := by rw [e1]; exact bkFr_up (bkFr_refl _ _) ⟨.inr (.inl rfl), rfl⟩
  have u1 : ∀ k a, k ≠ 0 → M1 k a = M k a := fun k a w => by rw [e1, bk_up_f w]
  refine bk_use (S6c (by rw [u1 10 0 (by decide), hc]; exact hc2) (fun w hw' => by rw [u1 54 0 (by decide)]; exact hw w hw')) (fun r M3 hM3 => ⟨rfl, ?_⟩)
  obtain ⟨f3, o3, C3, K3, z6, z7⟩ := hM3
  rw [u1 53 0 (by decide), u1 10 0 (by decide), hT, hc] at C3 K3
  have F3 : bkFr bkBa M M3 := bkFr_trans f1 (bkFr_mono f3 fun k a w => ⟨.inl w.1, w.2⟩)
  have O3 : ∀ j, j ≠ 2 → j ≠ 3 → j ≠ 4 → j ≠ 5 → j ≠ 6 → j ≠ 7 → j ≠ 9 → j ≠ 10 → j ≠ 11 → M3 10 0 j = M 10 0 j := fun j q1 q2 q3 q4 q5 q6 q7 q8 q9 => by rw [o3 j q1 q2 q3 q4 q5 q6 q7 q8 q9, u1 10 0 (by decide)]
  have n3 : M3 0 0 1 = 0 := by rw [f3 0 0 (by omega), e1, bk_up_e]
  generalize hf : M 36 p = f
  generalize hm' : (M 5 p 11).toNat = m
  generalize hO : bkBTx f m T c 400 41 0 S0 0 = O
  have key : ∀ (k n : Nat) (S : Int → Int) (i : Int) (M' : bk_M), k + n = 41 → n ≤ 40 → 0 ≤ i ∧ i ≤ c → bkBv m S n → bkBc M' S n → M' 0 0 1 = n → bkCt M' T c 400 → bkCk M' T c 400 i → M' 10 0 6 = 0 → bkFr bkBa M M' → (∀ j, j ≠ 2 → j ≠ 3 → j ≠ 4 → j ≠ 5 → j ≠ 6 → j ≠ 7 → j ≠ 9 → j ≠ 10 → j ≠ 11 → M' 10 0 j = M 10 0 j) → bkBTx f m T c 400 k n S i = O → bk_wp (bk_C (d + 6)) P_112 (fun t r M' => t = 0 ∧ bkFr bkBa M M' ∧ (∀ j, j ≠ 2 → j ≠ 3 → j ≠ 4 → j ≠ 5 → j ≠ 6 → j ≠ 7 → j ≠ 9 → j ≠ 10 → j ≠ 11 → M' 10 0 j = M 10 0 j) ∧ (∀ w q, O = .inl (w, q) → r = 0 ∧ M' 10 0 6 = w ∧ M' 10 0 7 = q) ∧ (∀ n S, O = .inr (n, S) → r = 1 ∧ M' 10 0 6 = 0 ∧ M' 0 0 1 = n ∧ bkBc M' S n)) 0 14 [bk_c 0 0, bk_c 10 0, bk_c 5 p, bk_i n] [] M' := by
    intro k
    induction k with
    | zero => intro n S i M' hn h2 hi; omega
    | succ k ih =>
      intro n S i M' hn h2 hi hS hR hl hC hK h6 hF ho hO
      have hn1 := @bkTn_b T c 400 i hi.2
      rw [bkBTx_s] at hO
      rw [L_112_14, hK.1]
      refine ⟨fun w => absurd w (by omega), fun _ => ⟨fun z => ?_, fun z => ?_⟩⟩
      · rw [if_neg z] at hO
        have g36 : M' 36 p = f := by rw [hF 36 p (by unfold bkBa; omega), hf]
        have g5 : M' 5 p = M 5 p := hF 5 p (by unfold bkBa; omega)
        refine bk_use (S113c hC hK hi hl (by omega) (by rw [g5]; exact hm) hR) (fun r M2 hM2 => ?_)
        rw [g36, g5, hm'] at hM2
        obtain ⟨g1, g2, g3⟩ := hM2
        have F2 := bkFr_trans hF g1.1
        have O2 : ∀ j, j ≠ 2 → j ≠ 3 → j ≠ 4 → j ≠ 5 → j ≠ 6 → j ≠ 7 → j ≠ 9 → j ≠ 10 → j ≠ 11 → M2 10 0 j = M 10 0 j := fun j q1 q2 q3 q4 q5 q6 q7 q8 q9 => by rw [g1.2.1 j q1 q2 q3 q4 q5 q6 q8 q9, ho j q1 q2 q3 q4 q5 q6 q7 q8 q9]
        have hk := bkBk_line (f := f) (m := m) (T := T) (L := 400) (n := n) (by omega) hi hS
        rcases eL : bkBLine f m T c 400 n S i with ⟨w, q⟩ | ⟨j, S'⟩
        · rw [eL] at hO
          obtain ⟨a1, a2, a3⟩ := g2 w q eL
          refine ⟨rfl, fun _ => ⟨.inl rfl, rfl, F2, O2, fun w' q' e' => ?_, fun n' S' e' => ?_⟩, fun w => absurd a1 w⟩
          · rw [← hO] at e'; cases e'; exact ⟨rfl, a2, a3⟩
          · rw [← hO] at e'; cases e'
        · rw [eL] at hO hk
          obtain ⟨a1, a2, a3, a4⟩ := g3 j S' eL
          obtain ⟨b1, b2, b3, b4⟩ := hk.1 j S' rfl
          have C2 := bkCt_b hC g1
          have hnj := @bkTn_b T c 400 j b2
          refine ⟨rfl, fun w => absurd w (by omega), fun _ => bk_use (S30c C2 a2 (by omega)) (fun r4 M5 hM5 => ?_)⟩
          obtain ⟨f5, K5, q1, q2⟩ := hM5
          have F5 := bkFr_trans F2 (bkBp_c f5).1
          have O5 : ∀ j, j ≠ 2 → j ≠ 3 → j ≠ 4 → j ≠ 5 → j ≠ 6 → j ≠ 7 → j ≠ 9 → j ≠ 10 → j ≠ 11 → M5 10 0 j = M 10 0 j := fun j q1 q2 q3 q4 q5 q6 q7 q8 q9 => by rw [f5.2 j q1 q2 q3 q4 q5 q6 q8 q9, O2 j q1 q2 q3 q4 q5 q6 q7 q8 q9]
          have n5 : M5 0 0 1 = n := by rw [f5.1 0 0 (by omega), g1.2.2, hl]
          refine ⟨rfl, fun w => ?_, fun w => ?_⟩
          · have w : bkTk T c 400 j = 59 := by
              by_cases e : bkTk T c 400 j = 59
              · exact e
              · exact absurd (q2 e).1 w
            rw [n5]
            refine ⟨by unfold bk_r32; omega, fun M7 e7 => ?_⟩
            have t7 : M7 10 0 = M5 10 0 := by rw [e7, bk_up_f (by decide)]
            have C7 : bkCt M7 T c 400 := by
              obtain ⟨h1, h2, h3, h4, h5⟩ := bkCt_f C2 f5
              exact ⟨by rw [e7, bk_up_f (by decide)]; exact h1, by rw [t7]; exact h2, by rw [t7]; exact h3, h4, fun w hw => by rw [e7, bk_up_f (by decide)]; exact h5 w hw⟩
            refine bk_use (S7c (i := bkTn T c 400 j) C7 (by rw [t7]; exact K5.2.1) (by omega)) (fun r8 M8 hM8 => ?_)
            obtain ⟨f8, e68, K8⟩ := hM8
            refine ⟨rfl, by unfold bk_r32; omega, ?_⟩
            have := ih (n + 1) S' (bkTn T c 400 j) M8 (by omega) (by omega) (by omega) (by rw [show ((n + 1 : Nat) : Int) = n + 1 by omega]; exact b4) (by rw [show ((n + 1 : Nat) : Int) = n + 1 by omega]; exact bkBc_e a4 fun k k0 k1 => by rw [f8.1 k 0 (by omega), e7, bk_up_f (by omega), f5.1 k 0 (by omega)]) (by rw [f8.1 0 0 (by omega), e7, bk_up_e]; omega) (bkCt_f C7 f8) K8 (by rw [e68, t7, (q1 w).2, a3, h6]) (bkFr_trans F5 (bkFr_trans (by rw [e7]; exact bkFr_up (bkFr_refl _ _) ⟨.inr (.inl rfl), rfl⟩) (bkBp_c f8).1)) (fun j q1 q2 q3 q4 q5 q6 q7 q8 q9 => by rw [f8.2 j q1 q2 q3 q4 q5 q6 q8 q9, t7, O5 j q1 q2 q3 q4 q5 q6 q7 q8 q9]) (by rw [← hO]; dsimp only; rw [if_pos w]; rfl)
            rwa [show ((n + 1 : Nat) : Int) = n + 1 by omega] at this
          · have w : bkTk T c 400 j ≠ 59 := fun e => by rw [(q1 e).1] at w; exact absurd (by decide) w
            dsimp only at hO
            rw [if_neg w] at hO
            obtain ⟨c1, c2, c3⟩ := q2 w
            refine ⟨.inl rfl, rfl, F5, O5, fun w' q' e' => ?_, fun n' S' e' => ?_⟩
            · rw [← hO] at e'; cases e'; exact ⟨rfl, c2, c3⟩
            · rw [← hO] at e'; cases e'
      · rw [if_pos (by omega)] at hO
        refine ⟨.inr rfl, rfl, hF, ho, fun w' q' e' => ?_, fun n' S' e' => ?_⟩
        · rw [← hO] at e'; cases e'
        · rw [← hO] at e'; cases e'; exact ⟨rfl, h6, hl, hR⟩
  exact key 41 0 S0 0 M3 rfl (by omega) (by omega) (fun j h0 h1 => by omega) (fun j h0 h1 => by omega) n3 C3 K3 z6 F3 O3 hO
