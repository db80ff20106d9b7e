/-! The reference reads a PLAIN. -/
theorem S150c {d : Nat} {M : bk_M} : bk_C (d + 1) 0 150 [bk_c 12 0] M (fun t r M' => t = 0 ∧ bkFp M M' ∧ (∀ j, j ≠ 26 → M' 12 0 j = M 12 0 j) ∧ bkRdF M' bkS0) := by
  have A59 : bkFa 59 0 := ⟨by omega, rfl⟩
  have A67 : bkFa 67 0 := ⟨by omega, rfl⟩
  have A68 : bkFa 68 0 := ⟨by omega, rfl⟩
  have z2 : ∀ j, 80 ≤ j → bkS0 j = 0 := fun j q => by
    unfold bkS0; rw [if_neg (by omega), if_neg (by omega), if_neg (by omega), if_neg (by omega), if_neg (by omega), if_neg (by omega)]
  rw [E_150]
  refine bk_loopS (W := fun k M' => bk_wp (bk_C d) P_150 _ 0 2 [bk_c 12 0, bk_i k] [] M') (s := 0) (n := 80) (fun k M' => bkFr bkFa M M' ∧ M' 12 0 = M 12 0 ∧ ∀ j, 0 ≤ j → j < k → M' 59 0 j = 0) (by omega) (fun k M' k0 k1 hI nx => ?_) (fun M' hI => ?_) ⟨bkFr_refl _ _, rfl, fun j _ _ => by omega⟩
  · obtain ⟨i1, i2, i3⟩ := hI
    rw [L_150_2]
    refine ⟨fun w => absurd w (by omega), fun _ => ⟨by omega, fun M8 e8 => ⟨by unfold bk_r32; omega, nx M8 ⟨by rw [e8]; exact bkFr_up i1 A59, by rw [e8, bk_up_f (by decide), i2], fun j j0 j1 => ?_⟩⟩⟩⟩
    rw [e8, bk_up_w]
    by_cases w : j = k
    · rw [if_pos w]
    · rw [if_neg w]; exact i3 j j0 (by omega)
  obtain ⟨i1, i2, i3⟩ := hI
  rw [L_150_2]
  refine ⟨fun _ => ?_, fun w => absurd (by omega) w⟩
  refine bk_loopS (W := fun k M' => bk_wp (bk_C d) P_150 _ 0 23 [bk_c 12 0, bk_i k] [] M') (s := 0) (n := 5) (fun k M' => bkFr bkFa M M' ∧ M' 12 0 = M 12 0 ∧ (∀ j, 0 ≤ j → j < 80 → M' 59 0 j = 0) ∧ ∀ j, 0 ≤ j → j < k → M' 67 0 j = 0) (by omega) (fun k M' k0 k1 hI nx => ?_) (fun M' hI => ?_) ⟨i1, i2, i3, fun j _ _ => by omega⟩
  · obtain ⟨i1, i2, i3, i4⟩ := hI
    rw [L_150_23]
    refine ⟨fun w => absurd w (by omega), fun _ => ⟨by omega, .inl rfl, fun M8 e8 => ⟨by unfold bk_r32; omega, nx M8 ⟨by rw [e8]; exact bkFr_up i1 A67, by rw [e8, bk_up_f (by decide), i2], by rw [e8, bk_up_f (by decide)]; exact i3, fun j j0 j1 => ?_⟩⟩⟩⟩
    rw [e8, bk_up_w]
    by_cases w : j = k
    · rw [if_pos w]
    · rw [if_neg w]; exact i4 j j0 (by omega)
  obtain ⟨i1, i2, i3, i4⟩ := hI
  rw [L_150_23]
  refine ⟨fun _ => ?_, fun w => absurd (by omega) w⟩
  refine bk_loopS (W := fun k M' => bk_wp (bk_C d) P_150 _ 0 43 [bk_c 12 0, bk_i k] [] M') (s := 0) (n := 36) (fun k M' => bkFr bkFa M M' ∧ M' 12 0 = M 12 0 ∧ (∀ j, 0 ≤ j → j < 80 → M' 59 0 j = if 6 ≤ j ∧ j < 6 + k then 5 else 0) ∧ (∀ j, 0 ≤ j → j < 5 → M' 67 0 j = 0) ∧ ∀ j, 0 ≤ j → j < k → M' 68 0 j = 0) (by omega) (fun k M' k0 k1 hI nx => ?_) (fun M' hI => ?_) ⟨i1, i2, fun j j0 j1 => by rw [if_neg (by omega)]; exact i3 j j0 j1, i4, fun j _ _ => by omega⟩
  · obtain ⟨i1, i2, i3, i4, i5⟩ := hI
    rw [L_150_43]
    refine ⟨fun w => absurd w (by omega), fun _ => ⟨by omega, .inl rfl, fun M7 e7 => ⟨by unfold bk_r32; omega, by omega, fun M8 e8 => ⟨by unfold bk_r32; omega, nx M8 ⟨by rw [e8, e7]; exact bkFr_up (bkFr_up i1 A68) A59, by rw [e8, e7, bk_up_f (by decide), bk_up_f (by decide), i2], fun j j0 j1 => ?_, by rw [e8, e7, bk_up_f (by decide), bk_up_f (by decide)]; exact i4, fun j j0 j1 => ?_⟩⟩⟩⟩⟩
    · rw [e8, bk_up_w, e7, bk_up_f (by decide), i3 j j0 j1]
      (repeat' split) <;> first | rfl | omega
    · rw [e8, bk_up_f (by decide), e7, bk_up_w]
      by_cases w : j = k
      · rw [if_pos w]
      · rw [if_neg w]; exact i5 j j0 (by omega)
  obtain ⟨i1, i2, i3, i4, i5⟩ := hI
  rw [L_150_43]
  refine ⟨fun _ => ⟨by omega, fun M1 e1 => ⟨by omega, fun M2 e2 => ⟨by omega, fun M3 e3 => ⟨by omega, fun M4 e4 => ⟨by omega, fun M5 e5 => ⟨.inl rfl, fun M6 e6 => ?_⟩⟩⟩⟩⟩⟩, fun w => absurd (by omega) w⟩
  have f6 : bkFr bkFa M M6 := by rw [e6, e5, e4, e3, e2, e1]; exact bkFr_up (bkFr_up (bkFr_up (bkFr_up (bkFr_up (bkFr_up i1 A59) A59) A59) A59) A59) ⟨.inl rfl, rfl⟩
  have o6 : ∀ j, j ≠ 26 → M6 12 0 j = M 12 0 j := fun j q => by rw [e6, bk_up_s q, e5, e4, e3, e2, e1, bk_up_k (by decide), bk_up_k (by decide), bk_up_k (by decide), bk_up_k (by decide), bk_up_k (by decide), i2]
  refine ⟨rfl, ⟨f6, fun j _ _ _ _ _ _ _ _ _ q => o6 j q⟩, o6, fun j j0 j1 => ?_, fun j j0 j1 => ?_, fun j j0 j1 => ?_, ?_, fun f f0 f1 => ?_, fun f f0 f1 => ?_⟩
  · rw [e6, bk_up_f (by decide), e5, bk_up_w, e4, bk_up_w, e3, bk_up_w, e2, bk_up_w, e1, bk_up_w, i3 j j0 j1]
    unfold bkS0
    (repeat' split) <;> first | rfl | omega
  · rw [e6, e5, e4, e3, e2, e1, bk_up_f (by decide), bk_up_f (by decide), bk_up_f (by decide), bk_up_f (by decide), bk_up_f (by decide), bk_up_f (by decide), i4 j j0 j1, z2 _ (by omega)]
  · rw [e6, e5, e4, e3, e2, e1, bk_up_f (by decide), bk_up_f (by decide), bk_up_f (by decide), bk_up_f (by decide), bk_up_f (by decide), bk_up_f (by decide), i5 j j0 j1, z2 _ (by omega)]
  · rw [e6, bk_up_e, z2 _ (by omega)]
  · rw [show bkS0 0 = 0 from rfl] at f1; omega
  · rw [show bkS0 1 = 0 from rfl] at f1; omega
/-- the reference's plain reader, up to where it has read all: what is left is its last part -/
theorem S159c {d : Nat} {M : bk_M} {T : Int → Int} {c : Int} {Q : bk_Q} (hT : M 57 0 = T) (hc : M 12 0 2 = c) (hc2 : 0 ≤ c ∧ c ≤ 940)
    (hl : ∀ w q M', bkTx T c 900 900 0 bkS0 0 = .inl (w, q) → bkFr bkFa M M' → (∀ j, (14 ≤ j ∧ j ≠ 26) ∨ j = 1 → M' 12 0 j = M 12 0 j) → M' 12 0 0 = 0 → M' 12 0 2 = 0 → M' 12 0 10 = w → M' 12 0 11 = q → bk_r32 (-1 - q) ∧ Q 0 (-1 - q) M')
    (hr : ∀ n S M', bkTx T c 900 900 0 bkS0 0 = .inr (n, S) → bkFr bkFa M M' → (∀ j, (14 ≤ j ∧ j ≠ 26) ∨ j = 1 → M' 12 0 j = M 12 0 j) → M' 12 0 0 = 0 → M' 12 0 2 = 0 → M' 12 0 10 = 0 → bkRdF M' S → bkSv S → bk_wp (bk_C (d + 7)) P_159 Q 0 49 [bk_c 12 0, bk_i n, bk_i 0] [] M') : bk_C (d + 8) 0 159 [bk_c 12 0] M Q := by
  rw [E_159]
  refine bk_use (S160c (by rw [hc]; exact hc2)) (fun r M2 hM2 => ⟨rfl, ?_⟩)
  obtain ⟨f2, o2, z0, z2, z10, t2, a2⟩ := hM2
  rw [hT, hc] at t2 a2
  refine bk_use S150c (fun r M5 hM5 => ⟨rfl, ?_⟩)
  obtain ⟨f5, o5, R5⟩ := hM5
  generalize hO : bkTx T c 900 900 0 bkS0 0 = O at *
  have key : ∀ (k n : Nat) (S : Int → Int) (i : Int) (M' : bk_M), k + n = 900 → 2 * (n : Int) ≤ i → i ≤ c → bkSv S → bkRdF M' S → bkRt M' T c 900 → bkAtR M' T c 900 i → M' 12 0 10 = 0 → bkFr bkFa M M' → (∀ j, (14 ≤ j ∧ j ≠ 26) ∨ j = 1 → M' 12 0 j = M 12 0 j) → M' 12 0 0 = 0 → M' 12 0 2 = 0 → bkTx T c 900 k n S i = O → bk_wp (bk_C (d + 7)) P_159 Q 0 13 [bk_c 12 0, bk_i n, bk_x] [] M' := by
    intro k
    induction k with
    | zero => intro n S i M' hn h2 hi; omega
    | succ k ih =>
      intro n S i M' hn h2 hi hS hR hC hK h6 hF ho h0 h02 hO
      have K := bkAtR_k hK
      rw [bkTx_s] at hO
      rw [L_159_13]
      refine ⟨fun z => ?_, fun z => ?_⟩
      · rw [if_pos (K.2.2.2.1.1 z)] at hO
        exact hr n S M' hO.symm hF ho h0 h02 h6 hR hS
      · rw [if_neg fun q => z (K.2.2.2.1.2 q)] at hO
        refine bk_use (S166c hC hK (by omega) hS hR) (fun r M2 hM2 => ?_)
        obtain ⟨g1, g2, g3⟩ := hM2
        have F2 := bkFr_trans hF g1.1
        have O2 : ∀ j, (14 ≤ j ∧ j ≠ 26) ∨ j = 1 → M2 12 0 j = M 12 0 j := fun j q => by rw [g1.2 j (by omega) (by omega) (by omega) (by omega) (by omega) (by omega) (by omega) (by omega) (by omega) (by omega), ho j q]
        have O20 : M2 12 0 0 = 0 := by rw [g1.2 0 (by omega) (by omega) (by omega) (by omega) (by omega) (by omega) (by omega) (by omega) (by omega) (by omega), h0]
        have O22 : M2 12 0 2 = 0 := by rw [g1.2 2 (by omega) (by omega) (by omega) (by omega) (by omega) (by omega) (by omega) (by omega) (by omega) (by omega), h02]
        rcases eL : bkLine T c 900 S i with ⟨w, q⟩ | ⟨j, S'⟩
        · rw [eL] at hO
          obtain ⟨b1, b2, b3⟩ := g2 w q eL
          refine ⟨rfl, fun _ => ?_, fun w => absurd b1 w⟩
          rw [b3]
          exact hl w q M2 hO.symm F2 O2 O20 O22 b2 b3
        · rw [eL] at hO
          obtain ⟨b1, b2, b3, b4⟩ := g3 j S' eL
          obtain ⟨c1, c2, c3⟩ := bkLk_line hi hS j S' eL
          have hnj := @bkTn_b T c 900 j c2
          have C2 := bkRt_p hC g1
          refine ⟨rfl, fun w => by omega, fun _ => bk_use (S188c C2 b3 (by omega)) (fun r4 M5 hM5 => ?_)⟩
          obtain ⟨f5, q1, q2⟩ := hM5
          have F5 := bkFr_trans F2 (bkFp_o f5).1
          have O5 : ∀ j, (14 ≤ j ∧ j ≠ 26) ∨ j = 1 → M5 12 0 j = M 12 0 j := fun j q => by rw [f5.2 j (by omega) (by omega) (by omega) (by omega) (by omega) (by omega) (by omega) (by omega) (by omega), O2 j q]
          have O50 : M5 12 0 0 = 0 := by rw [f5.2 0 (by omega) (by omega) (by omega) (by omega) (by omega) (by omega) (by omega) (by omega) (by omega), O20]
          have O52 : M5 12 0 2 = 0 := by rw [f5.2 2 (by omega) (by omega) (by omega) (by omega) (by omega) (by omega) (by omega) (by omega) (by omega), O22]
          dsimp only at hO
          refine ⟨rfl, fun w => ?_, fun w => ?_⟩
          · have w : bkTk T c 900 j = 59 := by
              by_cases e : bkTk T c 900 j = 59
              · exact e
              · exact absurd (q2 e).1 w
            rw [if_pos w] at hO
            have hlt := @bkTn_lt T c 900 j c2 (by omega) (by omega)
            obtain ⟨d1, d2, d3⟩ := q1 w
            refine ⟨by unfold bk_r32; omega, ?_⟩
            have := ih (n + 1) S' (bkTn T c 900 j) M5 (by omega) (by omega) (by omega) c3 (bkRdF_o b4 f5) (bkRt_o C2 f5) d3 (by rw [d2, b2, h6]) F5 O5 O50 O52 hO
            rwa [show ((n + 1 : Nat) : Int) = n + 1 by omega] at this
          · have w : bkTk T c 900 j ≠ 59 := fun e => by rw [(q1 e).1] at w; exact absurd (by decide) w
            rw [if_neg w] at hO
            obtain ⟨d1, d2, d3⟩ := q2 w
            rw [d3]
            exact hl 1 _ M5 hO.symm F5 O5 O50 O52 d2 d3
  exact key 900 0 bkS0 0 M5 rfl (by omega) (by omega) bkS0_v R5 (bkRt_p t2 f5) (bkAtR_10 a2 fun j q1 q2 q3 q4 => o5 j q4) (by rw [o5 10 (by decide), z10]) (bkFr_trans (bkFr_mono f2 fun k a w => ⟨.inl w.1, w.2⟩) f5.1) (fun j q => by rw [o5 j (by omega), o2 j (by omega) (by omega) (by omega) (by omega) (by omega) (by omega) (by omega) (by omega) (by omega) (by omega) (by omega)]) (by rw [o5 0 (by decide), z0]) (by rw [o5 2 (by decide), z2]) hO
