/-! The class reads a PLAIN's lines: the source, the ice, a cell, the land. -/
theorem bkRdP_S {M : bk_M} {p : Nat} {S S' : Int → Int} (h : bkRdP M p S) (h0 : S 0 ≤ 10) (h1 : S 1 ≤ 3) (e : ∀ j, (0 ≤ j ∧ j < 120) ∨ 200 ≤ j → S' j = S j) : bkRdP M p S' := by
  obtain ⟨P1, P2, P3, P4, P5, P6⟩ := h
  unfold bkRdP
  rw [e 0 (by omega), e 1 (by omega), e 2 (by omega), e 3 (by omega), e 4 (by omega), e 5 (by omega), e 78 (by omega), e 79 (by omega)]
  refine ⟨P1, fun k k0 k1 => by rw [e (6 + k) (by omega)]; exact P2 k k0 k1, P3, P4, fun f f0 f1 => ?_, fun f f0 f1 => ?_⟩
  · rw [e (52 + f) (by omega), e (42 + f) (by omega), e (62 + f) (by omega), e (200 + f) (by omega)]; exact P5 f f0 f1
  · rw [e (75 + f) (by omega), e (72 + f) (by omega), e (210 + f) (by omega)]; exact P6 f f0 f1
theorem bkRdR_S {M : bk_M} {S S' : Int → Int} (h : bkRdR M S) (e : ∀ j, 120 ≤ j → j ≤ 170 → S' j = S j) : bkRdR M S' := by
  obtain ⟨r1, r2, r3, r4, n, n1, n2, n3⟩ := h
  unfold bkRdR
  rw [e 120 (by omega) (by omega), e 121 (by omega) (by omega), e 122 (by omega) (by omega), e 123 (by omega) (by omega), e 124 (by omega) (by omega), e 170 (by omega) (by omega)]
  exact ⟨r1, r2, r3, r4, n, n1, n2, fun k hk => by rw [e (130 + k) (by omega) (by omega)]; exact n3 k hk⟩
theorem bkRdR_e {M M' : bk_M} {S : Int → Int} (h : bkRdR M S) (e : M' 6 0 = M 6 0) : bkRdR M' S := by
  unfold bkRdR at *
  rw [e]; exact h
theorem bkRdP_4 {M : bk_M} {p : Nat} {S : Int → Int} {v : Int} (h : bkRdP M p S) (h0 : S 0 ≤ 10) (h1 : S 1 ≤ 3) : bkRdP (bk_up M 5 p 2 v) p (bkPut S 4 v) := by
  obtain ⟨⟨p1, p2, p3, p4, p5, p6, p7⟩, P2, P3, P4, P5, P6⟩ := h
  have P : ∀ j, j ≠ 4 → bkPut S 4 v j = S j := fun j q => bkPut_o q
  have o : ∀ j, j ≠ 2 → bk_up M 5 p 2 v 5 p j = M 5 p j := fun j q => bk_up_s q
  have u : ∀ k, k ≠ 5 → bk_up M 5 p 2 v k p = M k p := fun k q => bk_up_f q
  unfold bkRdP
  rw [P 0 (by omega), P 1 (by omega), P 2 (by omega), P 3 (by omega), bkPut_e, P 5 (by omega), P 78 (by omega), P 79 (by omega), o 0 (by omega), o 1 (by omega), bk_up_e, o 3 (by omega), o 6 (by omega), o 11 (by omega), o 17 (by omega), u 28 (by omega), u 29 (by omega), u 30 (by omega), u 31 (by omega), u 32 (by omega), u 33 (by omega), u 34 (by omega), u 35 (by omega), u 36 (by omega), u 37 (by omega), u 38 (by omega)]
  exact ⟨⟨p1, p2, rfl, p4, p5, p6, p7⟩, fun k k0 k1 => by rw [P (6 + k) (by omega)]; exact P2 k k0 k1, P3, P4, fun f f0 f1 => by rw [P (52 + f) (by omega), P (42 + f) (by omega), P (62 + f) (by omega), P (200 + f) (by omega)]; exact P5 f f0 f1, fun f f0 f1 => by rw [P (75 + f) (by omega), P (72 + f) (by omega), P (210 + f) (by omega)]; exact P6 f f0 f1⟩
theorem bkRdP_5 {M : bk_M} {p : Nat} {S : Int → Int} {v : Int} (h : bkRdP M p S) (h0 : S 0 ≤ 10) (h1 : S 1 ≤ 3) : bkRdP (bk_up M 5 p 3 v) p (bkPut S 5 v) := by
  obtain ⟨⟨p1, p2, p3, p4, p5, p6, p7⟩, P2, P3, P4, P5, P6⟩ := h
  have P : ∀ j, j ≠ 5 → bkPut S 5 v j = S j := fun j q => bkPut_o q
  have o : ∀ j, j ≠ 3 → bk_up M 5 p 3 v 5 p j = M 5 p j := fun j q => bk_up_s q
  have u : ∀ k, k ≠ 5 → bk_up M 5 p 3 v k p = M k p := fun k q => bk_up_f q
  unfold bkRdP
  rw [P 0 (by omega), P 1 (by omega), P 2 (by omega), P 3 (by omega), bkPut_e, P 4 (by omega), P 78 (by omega), P 79 (by omega), o 0 (by omega), o 1 (by omega), bk_up_e, o 2 (by omega), o 6 (by omega), o 11 (by omega), o 17 (by omega), u 28 (by omega), u 29 (by omega), u 30 (by omega), u 31 (by omega), u 32 (by omega), u 33 (by omega), u 34 (by omega), u 35 (by omega), u 36 (by omega), u 37 (by omega), u 38 (by omega)]
  exact ⟨⟨p1, p2, p3, rfl, p5, p6, p7⟩, fun k k0 k1 => by rw [P (6 + k) (by omega)]; exact P2 k k0 k1, P3, P4, fun f f0 f1 => by rw [P (52 + f) (by omega), P (42 + f) (by omega), P (62 + f) (by omega), P (200 + f) (by omega)]; exact P5 f f0 f1, fun f f0 f1 => by rw [P (75 + f) (by omega), P (72 + f) (by omega), P (210 + f) (by omega)]; exact P6 f f0 f1⟩
theorem bkRdP_6 {M : bk_M} {p : Nat} {S : Int → Int} {v k : Int} (h : bkRdP M p S) (h0 : S 0 ≤ 10) (h1 : S 1 ≤ 3) (hk : 0 ≤ k ∧ k < 36) : bkRdP (bk_up M 28 p k v) p (bkPut S (6 + k) v) := by
  obtain ⟨P1, P2, P3, P4, P5, P6⟩ := h
  have P : ∀ j, j ≠ 6 + k → bkPut S (6 + k) v j = S j := fun j q => bkPut_o q
  have u : ∀ k', k' ≠ 28 → bk_up M 28 p k v k' p = M k' p := fun k' q => bk_up_f q
  unfold bkRdP
  rw [P 0 (by omega), P 1 (by omega), P 2 (by omega), P 3 (by omega), P 4 (by omega), P 5 (by omega), P 78 (by omega), P 79 (by omega), u 5 (by omega), u 29 (by omega), u 30 (by omega), u 31 (by omega), u 32 (by omega), u 33 (by omega), u 34 (by omega), u 35 (by omega), u 36 (by omega), u 37 (by omega), u 38 (by omega)]
  refine ⟨P1, fun j k0 k1 => ?_, P3, P4, fun f f0 f1 => by rw [P (52 + f) (by omega), P (42 + f) (by omega), P (62 + f) (by omega), P (200 + f) (by omega)]; exact P5 f f0 f1, fun f f0 f1 => by rw [P (75 + f) (by omega), P (72 + f) (by omega), P (210 + f) (by omega)]; exact P6 f f0 f1⟩
  by_cases e : j = k
  · rw [e, bk_up_e, bkPut_e]
  · rw [bk_up_s e, P (6 + j) (by omega)]; exact P2 j k0 k1
theorem bkRdP_7 {M : bk_M} {p : Nat} {S : Int → Int} {v s : Int} (h : bkRdP M p S) (h0 : S 0 ≤ 10) (h1 : S 1 ≤ 3) (hs : s = 0 ∨ s = 1) : bkRdP (bk_up M 37 p s v) p (bkPut S (78 + s) v) := by
  obtain ⟨P1, P2, P3, ⟨P41, P42, P43, P44⟩, P5, P6⟩ := h
  have P : ∀ j, j ≠ 78 + s → bkPut S (78 + s) v j = S j := fun j q => bkPut_o q
  have u : ∀ k', k' ≠ 37 → bk_up M 37 p s v k' p = M k' p := fun k' q => bk_up_f q
  unfold bkRdP
  rw [P 0 (by omega), P 1 (by omega), P 2 (by omega), P 3 (by omega), P 4 (by omega), P 5 (by omega), u 5 (by omega), u 28 (by omega), u 29 (by omega), u 30 (by omega), u 31 (by omega), u 32 (by omega), u 33 (by omega), u 34 (by omega), u 35 (by omega), u 36 (by omega), u 38 (by omega)]
  refine ⟨P1, fun j k0 k1 => by rw [P (6 + j) (by omega)]; exact P2 j k0 k1, P3, ⟨?_, ?_, P43, P44⟩, fun f f0 f1 => by rw [P (52 + f) (by omega), P (42 + f) (by omega), P (62 + f) (by omega), P (200 + f) (by omega)]; exact P5 f f0 f1, fun f f0 f1 => by rw [P (75 + f) (by omega), P (72 + f) (by omega), P (210 + f) (by omega)]; exact P6 f f0 f1⟩
  · rcases hs with rfl | rfl
    · rw [bk_up_e]; exact bkPut_e.symm
    · rw [bk_up_s (by decide), P 78 (by omega)]; exact P41
  · rcases hs with rfl | rfl
    · rw [bk_up_s (by decide), P 79 (by omega)]; exact P42
    · rw [bk_up_e]; exact bkPut_e.symm
theorem S21c {d p : Nat} {M : bk_M} {T : Int → Int} {c L i : Int} {S : Int → Int} (h : bkCt M T c L) (hx : M 10 0 10 = i) (h0 : 0 ≤ i ∧ i ≤ c) (hS : bkSv S) (hR : bkRdC M p S) : bk_C (d + 4) 0 21 [bk_c 6 0, bk_c 10 0, bk_c 5 p] M (fun t r M' => t = 0 ∧ bkPo p M r M' (bkLSource T c L S i (M 10 0 11))) := by
  obtain ⟨r1, r2, r3, r4, r5⟩ := hR.2
  have fl := hS.2.2.2.2.2.2.1
  obtain ⟨b1, b2, b3, b4, b5, b6⟩ := bkBit0 (fl 120 (by omega) (by omega)) (fl 121 (by omega) (by omega)) (fl 122 (by omega) (by omega))
  have g121 := fl 121 (by omega) (by omega)
  have s2 := hS.1
  have p2 := hR.1.1.1
  rw [E_21, S15c (f := S 121) (g := S 120 + 4 * 1 + 256 * S 122) (by omega) (by rw [r1]; exact b2) (by rw [r1]; exact b5) g121]
  have f8 : bkCp p M (bk_up M 6 0 0 (S 120 + 4 * 1 + 256 * S 122)) := bkCp_up (by unfold bkCa; omega) (by decide)
  refine ⟨rfl, fun z => ?_, fun z => bk16 (O := bkLSource T c L S i (M 10 0 11)) (a := 3) (by unfold bkLSource bkLOne; rw [if_pos (by omega)]) f8 (by rw [bk_up_k (by decide)])⟩
  rw [bk_up_k (by decide), p2]
  refine ⟨by unfold bk_r32; omega, bk17 (bkCt_p h f8) (by rw [bk_up_k (by decide)]; exact hx) h0 (fun w q M' e f e6 e7 => ⟨rfl, fun w => absurd rfl w, fun _ => ⟨.inl rfl, rfl, bkPo_l (by unfold bkLSource bkLOne; rw [if_neg (by omega), e]) (bkCp_trans f8 (bkCp_c f)) rfl e6 e7⟩⟩) (fun v M' e f K e5 e6 => ⟨rfl, fun _ M7 e7 => ⟨.inr rfl, rfl, ?_⟩, fun w => absurd (by decide) w⟩)⟩
  rw [e5] at e7
  have f7 : bkCp p M' M7 := by rw [e7]; exact bkCp_up (by unfold bkCa; omega) (by decide)
  refine bkPo_r (by unfold bkLSource bkLOne; rw [if_neg (by omega), e]) (bkCp_trans (bkCp_trans f8 (bkCp_c f)) f7) rfl (by rw [e7, bk_up_k (by decide)]; exact K.2.1) (by rw [e7, bk_up_k (by decide), e6, bk_up_k (by decide)]) ⟨?_, ?_⟩
  · have q1 : bkRdP M' p S := bkRdP_e hR.1 fun k hk => by rw [f.1 k p (by omega), bk_up_f (by omega)]
    have q2 := bkRdP_4 (v := v) q1 hS.2.2.1.2 hS.2.2.2.1.2
    rw [e7]
    refine bkRdP_S q2 (by rw [bkPut_o (by decide)]; exact hS.2.2.1.2) (by rw [bkPut_o (by decide)]; exact hS.2.2.2.1.2) fun j hj => ?_
    by_cases w : j = 4
    · rw [w, bkPut_e, bkPut_e]
    · rw [bkPut_o w, bkPut_o w, bkPut_o (by omega), bkPut_o (by omega)]
  · have o6 : M7 6 0 = (bk_up M 6 0 0 (S 120 + 4 * 1 + 256 * S 122)) 6 0 := by rw [e7, bk_up_f (by decide), f.1 6 0 (by omega)]
    obtain ⟨n, n1, n2, n3⟩ := r5
    unfold bkRdR
    rw [o6, bk_up_e, bk_up_s (by decide), bk_up_s (by decide), bk_up_s (by decide)]
    have P : ∀ j, j ≠ 4 → j ≠ 121 → j ≠ 170 → bkPut (bkPut (bkPut S 170 1) 121 1) 4 v j = S j := fun j w1 w2 w3 => by rw [bkPut_o w1, bkPut_o w2, bkPut_o w3]
    have P1 : bkPut (bkPut (bkPut S 170 1) 121 1) 4 v 121 = 1 := by rw [bkPut_o (by decide), bkPut_e]
    have P2 : bkPut (bkPut (bkPut S 170 1) 121 1) 4 v 170 = 1 := by rw [bkPut_o (by decide), bkPut_o (by decide), bkPut_e]
    refine ⟨by rw [P 120 (by decide) (by decide) (by decide), P1, P 122 (by decide) (by decide) (by decide)], by rw [P 123 (by decide) (by decide) (by decide), P 124 (by decide) (by decide) (by decide)]; exact r2, r3, by rw [P1, P2]; omega, n, n1, n2, fun k hk => by rw [P (130 + k) (by omega) (by omega) (by omega)]; exact n3 k hk⟩
theorem S29c {d p : Nat} {M : bk_M} {T : Int → Int} {c L i : Int} {S : Int → Int} (h : bkCt M T c L) (hx : M 10 0 10 = i) (h0 : 0 ≤ i ∧ i ≤ c) (hS : bkSv S) (hR : bkRdC M p S) : bk_C (d + 4) 0 29 [bk_c 6 0, bk_c 10 0, bk_c 5 p] M (fun t r M' => t = 0 ∧ bkPo p M r M' (bkLIce T c L S i (M 10 0 11))) := by
  obtain ⟨r1, r2, r3, r4, r5⟩ := hR.2
  have fl := hS.2.2.2.2.2.2.1
  obtain ⟨b1, b2, b3, b4, b5, b6⟩ := bkBit0 (fl 120 (by omega) (by omega)) (fl 121 (by omega) (by omega)) (fl 122 (by omega) (by omega))
  have g122 := fl 122 (by omega) (by omega)
  rw [E_29, S15c (f := S 122) (g := S 120 + 4 * S 121 + 256 * 1) (by omega) (by rw [r1]; exact b3) (by rw [r1]; exact b6) g122]
  have f8 : bkCp p M (bk_up M 6 0 0 (S 120 + 4 * S 121 + 256 * 1)) := bkCp_up (by unfold bkCa; omega) (by decide)
  refine ⟨rfl, fun z => ?_, fun z => bk16 (O := bkLIce T c L S i (M 10 0 11)) (a := 3) (by unfold bkLIce bkLOne; rw [if_pos (by omega)]) f8 (by rw [bk_up_k (by decide)])⟩
  refine bk17 (bkCt_p h f8) (by rw [bk_up_k (by decide)]; exact hx) h0 (fun w q M' e f e6 e7 => ⟨rfl, fun w => absurd rfl w, fun _ => ⟨.inl rfl, rfl, bkPo_l (by unfold bkLIce bkLOne; rw [if_neg (by omega), e]) (bkCp_trans f8 (bkCp_c f)) rfl e6 e7⟩⟩) (fun v M' e f K e5 e6 => ⟨rfl, fun _ M7 e7 => ⟨.inr rfl, rfl, ?_⟩, fun w => absurd (by decide) w⟩)
  rw [e5] at e7
  have f7 : bkCp p M' M7 := by rw [e7]; exact bkCp_up (by unfold bkCa; omega) (by decide)
  refine bkPo_r (by unfold bkLIce bkLOne; rw [if_neg (by omega), e]) (bkCp_trans (bkCp_trans f8 (bkCp_c f)) f7) rfl (by rw [e7, bk_up_k (by decide)]; exact K.2.1) (by rw [e7, bk_up_k (by decide), e6, bk_up_k (by decide)]) ⟨?_, ?_⟩
  · have q1 : bkRdP M' p S := bkRdP_e hR.1 fun k hk => by rw [f.1 k p (by omega), bk_up_f (by omega)]
    have q2 := bkRdP_5 (v := v) q1 hS.2.2.1.2 hS.2.2.2.1.2
    rw [e7]
    refine bkRdP_S q2 (by rw [bkPut_o (by decide)]; exact hS.2.2.1.2) (by rw [bkPut_o (by decide)]; exact hS.2.2.2.1.2) fun j hj => ?_
    by_cases w : j = 5
    · rw [w, bkPut_e, bkPut_e]
    · rw [bkPut_o w, bkPut_o w, bkPut_o (by omega)]
  · have o6 : M7 6 0 = (bk_up M 6 0 0 (S 120 + 4 * S 121 + 256 * 1)) 6 0 := by rw [e7, bk_up_f (by decide), f.1 6 0 (by omega)]
    obtain ⟨n, n1, n2, n3⟩ := r5
    unfold bkRdR
    rw [o6, bk_up_e, bk_up_s (by decide), bk_up_s (by decide), bk_up_s (by decide)]
    have P : ∀ j, j ≠ 5 → j ≠ 122 → bkPut (bkPut S 122 1) 5 v j = S j := fun j w1 w2 => by rw [bkPut_o w1, bkPut_o w2]
    have P1 : bkPut (bkPut S 122 1) 5 v 122 = 1 := by rw [bkPut_o (by decide), bkPut_e]
    refine ⟨by rw [P 120 (by decide) (by decide), P1, P 121 (by decide) (by decide)], by rw [P 123 (by decide) (by decide), P 124 (by decide) (by decide)]; exact r2, r3, by rw [P 170 (by decide) (by decide), P 121 (by decide) (by decide)]; exact r4, n, n1, n2, fun k hk => by rw [P (130 + k) (by omega) (by omega)]; exact n3 k hk⟩
theorem bk19 {d p : Nat} {M : bk_M} {T : Int → Int} {c L i : Int} {S : Int → Int} {Q : bk_Q} (h : bkCt M T c L) (hx : M 10 0 10 = i) (h0 : 0 ≤ i ∧ i ≤ c) (hS : bkSv S) (hW : M 5 p 0 = S 2 ∧ M 5 p 1 = S 3)
    (hl : ∀ w q M', (∀ f, bkCell T c L S i f = .inl (w, q)) → bkCf M M' → M' 10 0 6 = w → M' 10 0 7 = q → Q 0 (-1) M')
    (hr : ∀ x y M', (∀ f, bkCell T c L S i f = f x y) → (0 ≤ x ∧ x < S 2 ∧ 0 ≤ y ∧ y < S 3) → bkCf M M' → bkCk M' T c L (bkTn T c L i) → M' 10 0 6 = M 10 0 6 → Q 0 (6 * y + x) (bk_up M' 6 0 3 1)) : bk_C (d + 4) 0 19 [bk_c 6 0, bk_c 10 0, bk_c 5 p] M Q := by
  have s2 := hS.1
  have s3 := hS.2.1
  have hn := @bkTn_b T c L i h0.2
  rw [E_19, hW.1]
  refine ⟨by unfold bk_r32; omega, bk17 h hx h0 (fun w q M' e f e6 e7 => ⟨rfl, fun w => absurd rfl w, fun _ => hl w q M' (fun g => by unfold bkCell; rw [e]) f e6 e7⟩) (fun x M2 e f K e5 e6 => ⟨rfl, fun _ => ?_, fun w => absurd (by decide) w⟩)⟩
  rw [f.1 5 p (by omega), hW.2]
  refine ⟨by unfold bk_r32; omega, bk17 (bkCt_f h f) (i := bkTn T c L i) K.2.1 (by omega) (fun w q M' e' f' e6' e7' => ⟨rfl, fun w => absurd rfl w, fun _ => hl w q M' (fun g => by unfold bkCell; rw [e]; dsimp only; rw [e']) (bkCf_trans f f') e6' e7'⟩) (fun y M5 e' f' K' e5' e6' => ⟨rfl, fun _ => ⟨.inr rfl, fun M7 e7 => ?_⟩, fun w => absurd (by decide) w⟩)⟩
  have bx := bkNu_r e
  have by' := bkNu_r e'
  have w0 : M7 5 p 0 = S 2 := by rw [e7, bk_up_k (by decide), f'.1 5 p (by omega), f.1 5 p (by omega)]; exact hW.1
  have w1 : M7 5 p 1 = S 3 := by rw [e7, bk_up_k (by decide), f'.1 5 p (by omega), f.1 5 p (by omega)]; exact hW.2
  have w5 : M7 10 0 5 = y := by rw [e7, bk_up_k (by decide)]; exact e5'
  rw [E_20, w0, w1, w5, e5]
  refine ⟨fun z => absurd z (by omega), fun _ => ⟨fun z => absurd z (by omega), fun _ => ⟨fun z => absurd z (by omega), fun _ => ⟨fun z => absurd z (by omega), fun _ => ⟨by unfold bk_r32; omega, by unfold bk_r32; omega, rfl, ?_⟩⟩⟩⟩⟩
  rw [e7]
  exact hr x y M5 (fun g => by unfold bkCell; rw [e]; dsimp only; rw [e']) (by omega) (bkCf_trans f f') K' (e6'.trans e6)
