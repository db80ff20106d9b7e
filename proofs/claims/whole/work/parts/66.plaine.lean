/-! The class reads a PLAIN's lines: the land, a purse, names. -/
theorem bkBitL {n k : Nat} (hn : n < 2 ^ 36) : bk_andL ((n : Int) / 2 ^ k) 1 = if n.testBit k = true then 1 else 0 := by
  have e : ((n : Int) / 2 ^ k) = ((n / 2 ^ k : Nat) : Int) := by push_cast; rfl
  have h62 : (2 : Nat) ^ 36 ≤ 2 ^ 62 := Nat.pow_le_pow_right (by decide) (by decide)
  have hd := Nat.div_le_self n (2 ^ k)
  rw [e, bkAndL_1 (by omega), Nat.testBit_eq_decide_div_mod_eq]
  rcases Nat.mod_two_eq_zero_or_one (n / 2 ^ k) with w | w
  · rw [w]; simp
  · rw [w]; simp
theorem S18c {d p : Nat} {M : bk_M} {T : Int → Int} {c L i : Int} {S : Int → Int} (h : bkCt M T c L) (hx : M 10 0 10 = i) (h0 : 0 ≤ i ∧ i ≤ c) (hS : bkSv S) (hR : bkRdC M p S) : bk_C (d + 5) 0 18 [bk_c 6 0, bk_c 10 0, bk_c 5 p] M (fun t r M' => t = 0 ∧ bkPo p M r M' (bkLLand T c L S i)) := by
  obtain ⟨r1, r2, r3, r4, n, n1, n2, n3⟩ := hR.2
  have fl := hS.2.2.2.2.2.2.1
  have hn := @bkTn_b T c L i h0.2
  have hn2 := @bkTn_b T c L (bkTn T c L i) hn.2
  have s2 := hS.1
  have s3 := hS.2.1
  rw [E_18]
  refine bk19 h hx h0 hS ⟨hR.1.1.1, hR.1.1.2.1⟩ (fun w q M' e f e6 e7 => ⟨rfl, fun w => absurd rfl w, fun _ => ⟨.inl rfl, rfl, bkPo_l (e _) (bkCp_c f) rfl e6 e7⟩⟩) (fun x y M' e hb f K e6 => ⟨rfl, fun _ => ⟨by omega, ?_⟩, fun w => absurd (by omega) w⟩)
  obtain ⟨k, hk⟩ : ∃ k : Nat, 6 * y + x = k := ⟨(6 * y + x).toNat, by omega⟩
  have hk36 : k < 36 := by omega
  have fM : bkCp p M (bk_up M' 6 0 3 1) := bkCp_trans (bkCp_c f) (bkCp_up (by unfold bkCa; omega) (by decide))
  have m2 : bk_up M' 6 0 3 1 6 0 2 = n := by rw [bk_up_s (by decide), f.1 6 0 (by omega)]; exact n2
  have g := n3 k hk36
  rw [m2, hk, Int.toNat_natCast, bkBitL n1, bkLc, ← g]
  have e : bkLLand T c L S i = (if S (130 + (6 * y + x)) = 1 then .inl (3, bkTf T c L (bkTn T c L i)) else match bkNu T c L 0 9 (bkTn T c L (bkTn T c L i)) with
    | .inl e => .inl e
    | .inr v => .inr (bkTn T c L (bkTn T c L (bkTn T c L i)), bkPut (bkPut (bkPut S 170 1) (130 + (6 * y + x)) 1) (6 + (6 * y + x)) v)) := e _
  rw [hk] at e
  have hp : (2 : Nat) ^ k ≤ 2 ^ 35 := Nat.pow_le_pow_right (by decide) (by omega)
  have hp2 : ((2 ^ k : Nat) : Int) = (2 : Int) ^ k := by push_cast; rfl
  have h35 : (2 : Nat) ^ 35 = 34359738368 := by decide
  have h36 : (2 : Nat) ^ 36 = 68719476736 := by decide
  have h62 : (2 : Nat) ^ 62 = 4611686018427387904 := by decide
  have hp0 : 0 < (2 : Nat) ^ k := Nat.pow_pos (by decide)
  have gk := fl (130 + k) (by omega) (by omega)
  refine ⟨fun z => ⟨by unfold bk_r64; omega, fun M4 e4 => ?_⟩, fun z => bk16 (O := bkLLand T c L S i) (a := 3) (by rw [e, if_pos (by omega)]) fM (by rw [bk_up_k (by decide)]; exact K.2.2.1)⟩
  rw [if_neg z] at e
  rw [show (1 : Int) * 2 ^ k = ((2 ^ k : Nat) : Int) by rw [hp2]; omega, bkOrL_n (by omega) (by omega)] at e4
  have f4 : bkCp p M M4 := by rw [e4]; exact bkCp_trans fM (bkCp_up (by unfold bkCa; omega) (by decide))
  refine bk17 (bkCt_p h f4) (i := bkTn T c L (bkTn T c L i)) (by rw [e4, bk_up_k (by decide), bk_up_k (by decide)]; exact K.2.1) (by omega) (fun w q M6 e' f' e6' e7' => ⟨rfl, fun w => absurd rfl w, fun _ => ⟨.inl rfl, rfl, bkPo_l (by rw [e, e']) (bkCp_trans f4 (bkCp_c f')) rfl e6' e7'⟩⟩) (fun v M6 e' f' K' e5' e6' => ⟨rfl, fun _ => ⟨by omega, fun M8 e8 => ⟨.inr rfl, rfl, ?_⟩⟩, fun w => absurd (by decide) w⟩)
  rw [e5'] at e8
  have f8 : bkCp p M6 M8 := by rw [e8]; exact bkCp_up (by unfold bkCa; omega) (by decide)
  refine bkPo_r (by rw [e, e']) (bkCp_trans (bkCp_trans f4 (bkCp_c f')) f8) rfl (by rw [e8, bk_up_k (by decide)]; exact K'.2.1) (by rw [e8, bk_up_k (by decide), e6', e4, bk_up_k (by decide), bk_up_k (by decide), e6]) ⟨?_, ?_⟩
  · have q1 : bkRdP M6 p S := bkRdP_e hR.1 fun k hk => by rw [f'.1 k p (by omega), e4, bk_up_f (by omega), bk_up_f (by omega), f.1 k p (by omega)]
    have q2 := bkRdP_6 (v := v) (k := k) q1 hS.2.2.1.2 hS.2.2.2.1.2 (by omega)
    rw [e8]
    refine bkRdP_S q2 (by rw [bkPut_o (by omega)]; exact hS.2.2.1.2) (by rw [bkPut_o (by omega)]; exact hS.2.2.2.1.2) fun j hj => ?_
    by_cases w : j = 6 + k
    · rw [w, bkPut_e, bkPut_e]
    · rw [bkPut_o w, bkPut_o w, bkPut_o (by omega), bkPut_o (by omega)]
  · have o6 : M8 6 0 = M4 6 0 := by rw [e8, bk_up_f (by decide), f'.1 6 0 (by omega)]
    have o6a : ∀ j, j ≠ 2 → j ≠ 3 → M4 6 0 j = M 6 0 j := fun j j1 j2 => by rw [e4, bk_up_s j1, bk_up_s j2, f.1 6 0 (by omega)]
    have o63 : M4 6 0 3 = 1 := by rw [e4, bk_up_s (by decide), bk_up_e]
    have o62 : M4 6 0 2 = ((n ||| 2 ^ k : Nat) : Int) := by rw [e4, bk_up_e]
    unfold bkRdR
    rw [o6, o6a 0 (by decide) (by decide), o6a 1 (by decide) (by decide), o63, o62]
    have P : ∀ j : Int, 120 ≤ j → j ≠ 130 + k → j ≠ 170 → bkPut (bkPut (bkPut S 170 1) (130 + k) 1) (6 + k) v j = S j := fun j w1 w2 w3 => by rw [bkPut_o (by omega), bkPut_o w2, bkPut_o w3]
    have P1 : bkPut (bkPut (bkPut S 170 1) (130 + k) 1) (6 + k) v (130 + k) = 1 := by rw [bkPut_o (by omega), bkPut_e]
    have P2 : bkPut (bkPut (bkPut S 170 1) (130 + k) 1) (6 + k) v 170 = 1 := by rw [bkPut_o (by omega), bkPut_o (by omega), bkPut_e]
    refine ⟨by rw [P 120 (by omega) (by omega) (by omega), P 121 (by omega) (by omega) (by omega), P 122 (by omega) (by omega) (by omega)]; exact r1, by rw [P 123 (by omega) (by omega) (by omega), P 124 (by omega) (by omega) (by omega)]; exact r2, .inr rfl, by rw [P2]; omega, n ||| 2 ^ k, Nat.or_lt_two_pow n1 (by omega), rfl, fun j hj => ?_⟩
    rw [Nat.testBit_or, Nat.testBit_two_pow]
    by_cases w : j = k
    · rw [w, P1, decide_eq_true rfl, Bool.or_true, if_pos rfl]
    · rw [P (130 + j) (by omega) (by omega) (by omega), n3 j hj, decide_eq_false (by omega), Bool.or_false]
theorem bk27 {d p : Nat} {M0 M : bk_M} {T : Int → Int} {c L i : Int} {S : Int → Int} {s : Int} (hs : s = 0 ∨ s = 1) (h : bkCt M0 T c L) (f0 : bkCf M0 M) (K : bkCk M T c L i) (e60 : M 10 0 6 = M0 10 0 6) (h0 : 0 ≤ i ∧ i ≤ c) (hS : bkSv S) (hR : bkRdC M0 p S) (hO : bkLPurse T c L S i = bkLOne T c L S (bkTn T c L i) (bkTf T c L i) (123 + s) (78 + s) 99 S) :
    (((0 : Int) ≤ s ∧ s < 32) ∧ ((bk_and ((M 6 0 1) / 2 ^ s.toNat) 1 ≠ 1 → ((0 : Int) ≤ s ∧ s < 32 ∧ bk_r32 ((1 : Int) * 2 ^ s.toNat)) ∧ ∀ M7 : bk_M, M7 = bk_up M 6 0 1 (bk_or (M 6 0 1) ((1 : Int) * 2 ^ s.toNat)) → bk_C (d + 3) 0 17 [bk_c 10 0, bk_i 0, bk_i 99] M7 (fun t10 r8 M9 => t10 = 0 ∧ ((r8 ≠ 0 → ((0 : Int) ≤ s ∧ s < 2) ∧ ∀ M11 : bk_M, M11 = bk_up M9 37 p s (M9 10 0 5) → ((1 : Int) = 0 ∨ (1 : Int) = 1) ∧ ((0 : Nat) = 0 ∧ bkPo p M0 1 M11 (bkLPurse T c L S i))) ∧ (¬ (r8 ≠ 0) → ((0 : Int) = 0 ∨ (0 : Int) = 1) ∧ ((0 : Nat) = 0 ∧ bkPo p M0 0 M9 (bkLPurse T c L S i)))))) ∧ (¬ (bk_and ((M 6 0 1) / 2 ^ s.toNat) 1 ≠ 1) → bk_C (d + 3) 0 16 [bk_c 10 0, bk_i 3] M (fun t14 r12 M13 => t14 = 0 ∧ (r12 = 0 ∨ r12 = 1) ∧ ((0 : Nat) = 0 ∧ bkPo p M0 r12 M13 (bkLPurse T c L S i)))))) := by
  obtain ⟨r1, r2, r3, r4, r5⟩ := hR.2
  have fl := hS.2.2.2.2.2.2.1
  have g123 := fl 123 (by omega) (by omega)
  have g124 := fl 124 (by omega) (by omega)
  obtain ⟨b1, b2, b3, b4⟩ := bkBit1 g123 g124
  have hn := @bkTn_b T c L i h0.2
  have m6 : M 6 0 = M0 6 0 := f0.1 6 0 (by omega)
  have bs : bk_and ((M 6 0 1) / 2 ^ s.toNat) 1 = S (123 + s) := by
    rw [m6, r2]
    rcases hs with rfl | rfl
    · exact b1
    · exact b2
  have gs : S (123 + s) = 0 ∨ S (123 + s) = 1 := fl _ (by omega) (by omega)
  have hp : (1 : Int) * 2 ^ s.toNat = 1 ∨ (1 : Int) * 2 ^ s.toNat = 2 := by rcases hs with rfl | rfl <;> simp
  rw [bs, hO]
  refine ⟨by omega, fun z => ⟨by unfold bk_r32; omega, fun M7 e7 => ?_⟩, fun z => bk16 (O := bkLOne T c L S (bkTn T c L i) (bkTf T c L i) (123 + s) (78 + s) 99 S) (a := 3) (by unfold bkLOne; rw [if_pos (by omega)]) (bkCp_c f0) K.2.2.1⟩
  have z0 : ¬ S (123 + s) = 1 := by omega
  have f7 : bkCp p M0 M7 := by rw [e7]; exact bkCp_trans (bkCp_c f0) (bkCp_up (by unfold bkCa; omega) (by decide))
  refine bk17 (bkCt_p h f7) (i := bkTn T c L i) (by rw [e7, bk_up_k (by decide)]; exact K.2.1) (by omega) (fun w q M' e f e6 e7 => ⟨rfl, fun w => absurd rfl w, fun _ => ⟨.inl rfl, rfl, bkPo_l (by unfold bkLOne; rw [if_neg z0, e]) (bkCp_trans f7 (bkCp_c f)) rfl e6 e7⟩⟩) (fun v M' e f K' e5 e6 => ⟨rfl, fun _ => ⟨by omega, fun M11 e11 => ⟨.inr rfl, rfl, ?_⟩⟩, fun w => absurd (by decide) w⟩)
  rw [e5] at e11
  have f11 : bkCp p M' M11 := by rw [e11]; exact bkCp_up (by unfold bkCa; omega) (by decide)
  refine bkPo_r (by unfold bkLOne; rw [if_neg z0, e]) (bkCp_trans (bkCp_trans f7 (bkCp_c f)) f11) rfl (by rw [e11, bk_up_k (by decide)]; exact K'.2.1) (by rw [e11, bk_up_k (by decide), e6, e7, bk_up_k (by decide), e60]) ⟨?_, ?_⟩
  · have q1 : bkRdP M' p S := bkRdP_e hR.1 fun k hk => by rw [f.1 k p (by omega), e7, bk_up_f (by omega), f0.1 k p (by omega)]
    have q2 := bkRdP_7 (v := v) (s := s) q1 hS.2.2.1.2 hS.2.2.2.1.2 hs
    rw [e11]
    refine bkRdP_S q2 (by rw [bkPut_o (by omega)]; exact hS.2.2.1.2) (by rw [bkPut_o (by omega)]; exact hS.2.2.2.1.2) fun j hj => ?_
    by_cases w : j = 78 + s
    · rw [w, bkPut_e, bkPut_e]
    · rw [bkPut_o w, bkPut_o w, bkPut_o (by omega)]
  · have o6 : M11 6 0 = M7 6 0 := by rw [e11, bk_up_f (by decide), f.1 6 0 (by omega)]
    have o6a : ∀ j, j ≠ 1 → M7 6 0 j = M0 6 0 j := fun j j1 => by rw [e7, bk_up_s j1, m6]
    obtain ⟨n, n1, n2, n3⟩ := r5
    unfold bkRdR
    rw [o6, o6a 0 (by decide), o6a 3 (by decide), o6a 2 (by decide)]
    have P : ∀ j, 120 ≤ j → j ≠ 123 + s → bkPut (bkPut S (123 + s) 1) (78 + s) v j = S j := fun j w1 w2 => by rw [bkPut_o (by omega), bkPut_o w2]
    have P1 : bkPut (bkPut S (123 + s) 1) (78 + s) v (123 + s) = 1 := by rw [bkPut_o (by omega), bkPut_e]
    refine ⟨by rw [P 120 (by omega) (by omega), P 121 (by omega) (by omega), P 122 (by omega) (by omega)]; exact r1, ?_, r3, by rw [P 170 (by omega) (by omega), P 121 (by omega) (by omega)]; exact r4, n, n1, n2, fun k hk => by rw [P (130 + k) (by omega) (by omega)]; exact n3 k hk⟩
    rw [e7, bk_up_e, m6, r2]
    rcases hs with rfl | rfl
    · rw [P 124 (by omega) (by omega)]
      rw [show bkPut (bkPut S (123 + 0) 1) (78 + 0) v 123 = 1 from P1]
      exact b3
    · rw [P 123 (by omega) (by omega)]
      rw [show bkPut (bkPut S (123 + 1) 1) (78 + 1) v 124 = 1 from P1]
      exact b4
theorem S27c {d p : Nat} {M : bk_M} {T : Int → Int} {c L i : Int} {S : Int → Int} (h : bkCt M T c L) (hx : M 10 0 10 = i) (h0 : 0 ≤ i ∧ i ≤ c) (hS : bkSv S) (hR : bkRdC M p S) : bk_C (d + 4) 0 27 [bk_c 6 0, bk_c 10 0, bk_c 5 p] M (fun t r M' => t = 0 ∧ bkPo p M r M' (bkLPurse T c L S i)) := by
  rw [E_27]
  refine bk_use (S7c h hx h0) (fun r M2 hM2 => ?_)
  obtain ⟨f, f6, K⟩ := hM2
  have kw : ∀ a, bkIsW T c L i a = true → M2 10 0 4 = a := fun a w => by
    unfold bkIsW at w
    rw [decide_eq_true_eq] at w
    rw [(K.2.2.2.1 w.1).2, w.2]
  refine ⟨rfl, (S28c K).2 ⟨rfl, fun z => ?_, fun z => (S28c K).2 ⟨rfl, fun z2 => ?_, fun z2 => ?_⟩⟩⟩
  · have w : bkIsW T c L i 6 = true := by
      by_cases q : bkIsW T c L i 6 = true
      · exact q
      · rw [if_neg q] at z; exact absurd rfl z
    refine ⟨fun q => absurd (kw 6 w) q, fun _ => ?_⟩
    exact bk27 (s := 0) (.inl rfl) h f K f6 h0 hS hR (by unfold bkLPurse; rw [if_pos w]; rfl)
  · have w6 : ¬ bkIsW T c L i 6 = true := fun q => z (by rw [if_pos q]; decide)
    have w : bkIsW T c L i 7 = true := by
      by_cases q : bkIsW T c L i 7 = true
      · exact q
      · rw [if_neg q] at z2; exact absurd rfl z2
    refine ⟨fun _ => ?_, fun q => absurd (kw 7 w) (by omega)⟩
    exact bk27 (s := 1) (.inr rfl) h f K f6 h0 hS hR (by unfold bkLPurse; rw [if_neg w6, if_pos w]; rfl)
  · have w6 : ¬ bkIsW T c L i 6 = true := fun q => z (by rw [if_pos q]; decide)
    have w7 : ¬ bkIsW T c L i 7 = true := fun q => z2 (by rw [if_pos q]; decide)
    exact bk16 (O := bkLPurse T c L S i) (a := 1) (by unfold bkLPurse; rw [if_neg w6, if_neg w7]) (bkCp_c f) K.2.2.1
