/-! The reference reads a BOOK's text, up to where it lives it. -/
theorem S258r {d : Nat} {M : bk_M} {T : Int → Int} {c a : Int} {f : Int → Int} {m : Nat} {Q : bk_Q} (hT : M 57 0 = T) (hc : M 12 0 2 = c) (hc2 : 0 ≤ c ∧ c ≤ 940) (ha : a = 0 ∨ a = 1) (hN : M 58 0 1 = m) (hm3 : m ≤ 3) (hf : ∀ j : Nat, j < m → bkNv (f j) ∧ M 63 0 (10 + j) = bkCv 7 (f j))
    (hl : ∀ w q M', bkBTx f m T c 400 41 0 (M 83 0) 0 = .inl (w, q) → bkFr bkRa M M' → (∀ j, (14 ≤ j ∧ j ≠ 52) ∨ j = 1 → M' 12 0 j = M 12 0 j) → M' 12 0 0 = 0 → M' 12 0 2 = 0 → M' 12 0 10 = w → M' 12 0 11 = q → bk_r32 (-2 - q) ∧ Q 0 (-2 - q) M')
    (hr : ∀ n S M', bkBTx f m T c 400 41 0 (M 83 0) 0 = .inr (n, S) → bkFr bkRa M M' → (∀ j, (14 ≤ j ∧ j ≠ 52) ∨ j = 1 → M' 12 0 j = M 12 0 j) → M' 12 0 0 = 0 → M' 12 0 2 = 0 → M' 12 0 10 = 0 → M' 12 0 52 = n → M' 83 0 = S → 0 ≤ n ∧ n ≤ 40 → bkBv m S n → bk_C (d + 7) 0 244 [bk_c 12 0] M' (fun t3 r1 M2 => t3 = 0 ∧ bk_wp (bk_C (d + 7)) P_258 Q 0 73 [bk_c 12 0, bk_i a, bk_i (0 : Int), bk_i (0 : Int)] [] M2)) : bk_C (d + 8) 0 258 [bk_c 12 0, bk_i a] M Q := by
  rw [E_258]
  intro M1 e1
  have f1 : bkFr bkRa M M1 := by rw [e1]; exact bkFr_up (bkFr_refl _ _) ⟨.inl rfl, rfl⟩
  rw [S157]
  refine ⟨rfl, fun _ => ?_, fun z => absurd (show (if 0 ≤ a ∧ a ≤ 1 then (1 : Int) else 0) ≠ 0 by rw [if_pos (by omega)]; decide) z⟩
  have c1 : M1 12 0 2 = c := by rw [e1, bk_up_s (by decide), hc]
  refine bk_use (S160c (by rw [c1]; exact hc2)) (fun r M6 hM6 => ⟨rfl, fun M8 e8 => ?_⟩)
  obtain ⟨f6, o6, z0, z2, z10, t6, a6⟩ := hM6
  rw [f1 57 0 (by unfold bkRa; omega), hT, c1] at t6 a6
  have F8 : bkFr bkRa M M8 := bkFr_trans f1 (bkFr_trans (bkFr_mono f6 fun k a w => ⟨.inl w.1, w.2⟩) (by rw [e8]; exact bkFr_up (bkFr_refl _ _) ⟨.inl rfl, rfl⟩))
  have O8 : ∀ j, (14 ≤ j ∧ j ≠ 52) ∨ j = 1 → M8 12 0 j = M 12 0 j := fun j hj => by
    rw [e8, bk_up_s (by omega), o6 j (by omega) (by omega) (by omega) (by omega) (by omega) (by omega) (by omega) (by omega) (by omega) (by omega) (by omega), e1, bk_up_s (by omega)]
  have T8 : bkRt M8 T c 400 := by
    obtain ⟨h1, h2, h3, h4⟩ := t6
    exact ⟨by rw [e8, bk_up_f (by decide)]; exact h1, by rw [e8, bk_up_s (by decide)]; exact h2, by rw [e8, bk_up_s (by decide)]; exact h3, h4⟩
  have A8 : bkAtR M8 T c 400 0 := by
    unfold bkAtR at *
    rw [e8, bk_up_s (by decide), bk_up_s (by decide), bk_up_s (by decide), bk_up_s (by decide), bk_up_s (by decide), bk_up_s (by decide)]
    exact a6
  have S8 : M8 83 0 = M 83 0 := by rw [e8, bk_up_f (by decide), f6 83 0 (by omega), e1, bk_up_f (by decide)]
  generalize hO : bkBTx f m T c 400 41 0 (M 83 0) 0 = O at *
  have key : ∀ (k n : Nat) (S : Int → Int) (i : Int) (M' : bk_M), k + n = 41 → n ≤ 40 → 0 ≤ i ∧ i ≤ c → bkBv m S n → M' 83 0 = S → M' 12 0 52 = n → bkRt M' T c 400 → bkAtR M' T c 400 i → M' 12 0 10 = 0 → bkFr bkRa M M' → (∀ j, (14 ≤ j ∧ j ≠ 52) ∨ j = 1 → M' 12 0 j = M 12 0 j) → M' 12 0 0 = 0 → M' 12 0 2 = 0 → bkBTx f m T c 400 k n S i = O → bk_wp (bk_C (d + 7)) P_258 Q 0 30 [bk_c 12 0, bk_i a, bk_x, bk_x] [] M' := by
    intro k
    induction k with
    | zero => intro n S i M' hn h2 hi; omega
    | succ k ih =>
      intro n S i M' hn h2 hi hS hR hl' hC hK h6 hF ho h00 h02 hO
      have K := bkAtR_k hK
      have hn1 := @bkTn_b T c 400 i hi.2
      rw [bkBTx_s] at hO
      rw [L_258_30]
      refine ⟨fun z => ?_, fun z => ?_⟩
      · rw [if_pos (K.2.2.2.1.1 z)] at hO
        exact hr n S M' hO.symm hF ho h00 h02 h6 hl' hR (by omega) hS
      · rw [if_neg fun q => z (K.2.2.2.1.2 q)] at hO
        refine bk_use (S259c (f := f) (m := m) hC hK hi (by omega) (by omega) hl' hR hS (by rw [hF 58 0 (by unfold bkRa; omega)]; exact hN) hm3 (fun j hj => by rw [hF 63 0 (by unfold bkRa; omega)]; exact hf j hj)) (fun r M2 hM2 => ?_)
        obtain ⟨g1, g2, g3⟩ := hM2
        have F2 := bkFr_trans hF g1.1
        have O2 : ∀ j, (14 ≤ j ∧ j ≠ 52) ∨ j = 1 → M2 12 0 j = M 12 0 j := fun j q => by rw [g1.2 j (by omega) (by omega) (by omega) (by omega) (by omega) (by omega) (by omega) (by omega) (by omega), ho j q]
        have O20 : M2 12 0 0 = 0 := by rw [g1.2 0 (by omega) (by omega) (by omega) (by omega) (by omega) (by omega) (by omega) (by omega) (by omega), h00]
        have O22 : M2 12 0 2 = 0 := by rw [g1.2 2 (by omega) (by omega) (by omega) (by omega) (by omega) (by omega) (by omega) (by omega) (by omega), h02]
        have L2 : M2 12 0 52 = n := by rw [g1.2 52 (by omega) (by omega) (by omega) (by omega) (by omega) (by omega) (by omega) (by omega) (by omega), hl']
        have hk := bkBk_line (f := f) (m := m) (T := T) (L := 400) (n := n) (by omega) hi hS
        rcases eL : bkBLine f m T c 400 n S i with ⟨w, q⟩ | ⟨j, S'⟩
        · rw [eL] at hO
          obtain ⟨b1, b2, b3⟩ := g2 w q (by unfold bkBLn; rw [eL])
          refine ⟨rfl, fun w => absurd b1 w, fun _ => ?_⟩
          rw [b3]
          exact hl w q M2 hO.symm F2 O2 O20 O22 b2 b3
        · rw [eL] at hO hk
          obtain ⟨b1, b2, b3, b4⟩ := hk.1 j S' rfl
          have hnj := @bkTn_b T c 400 j b2
          dsimp only at hO
          by_cases w : bkTk T c 400 j = 59
          · obtain ⟨c1, c2, c3, c4⟩ := g3 (bkTn T c 400 j) S' (by unfold bkBLn; rw [eL]; dsimp only; rw [if_pos w])
            rw [if_pos w] at hO
            refine ⟨rfl, fun _ => ?_, fun w => by omega⟩
            rw [L2]
            refine ⟨by unfold bk_r32; omega, fun M7 e7 => ?_⟩
            have F7 : bkFr bkRa M M7 := bkFr_trans F2 (by rw [e7]; exact bkFr_up (bkFr_refl _ _) ⟨.inl rfl, rfl⟩)
            have T7 : bkRt M7 T c 400 := by
              obtain ⟨h1, h2, h3, h4⟩ := bkRt_q hC g1
              exact ⟨by rw [e7, bk_up_f (by decide)]; exact h1, by rw [e7, bk_up_s (by decide)]; exact h2, by rw [e7, bk_up_s (by decide)]; exact h3, h4⟩
            have A7 : bkAtR M7 T c 400 (bkTn T c 400 j) := by
              unfold bkAtR at *
              rw [e7, bk_up_s (by decide), bk_up_s (by decide), bk_up_s (by decide), bk_up_s (by decide), bk_up_s (by decide), bk_up_s (by decide)]
              exact c3
            have e1' : ((n + 1 : Nat) : Int) = n + 1 := by omega
            exact ih (n + 1) S' (bkTn T c 400 j) M7 (by omega) (by omega) (by omega) (by rw [e1']; exact b4) (by rw [e7, bk_up_f (by decide), c4]) (by rw [e7, bk_up_e, e1']) T7 A7 (by rw [e7, bk_up_s (by decide), c2, h6]) F7 (fun j q => by rw [e7, bk_up_s (by omega), O2 j q]) (by rw [e7, bk_up_s (by decide), O20]) (by rw [e7, bk_up_s (by decide), O22]) (by rw [e1']; exact hO)
          · obtain ⟨c1, c2, c3⟩ := g2 1 (bkTf T c 400 j) (by unfold bkBLn; rw [eL]; dsimp only; rw [if_neg w])
            rw [if_neg w] at hO
            refine ⟨rfl, fun w => absurd c1 w, fun _ => ?_⟩
            rw [c3]
            exact hl 1 _ M2 hO.symm F2 O2 O20 O22 c2 c3
  exact key 41 0 (M 83 0) 0 M8 rfl (by omega) (by omega) (fun j h0 h1 => by omega) S8 (by rw [e8, bk_up_e]; rfl) T8 A8 (by rw [e8, bk_up_s (by decide), z10]) F8 O8 (by rw [e8, bk_up_s (by decide), z0]) (by rw [e8, bk_up_s (by decide), z2]) hO
