/-! The class reads a PLAIN's lines. -/
theorem bkAndL_1 {a : Nat} (h : a < 2 ^ 62) : bk_andL (a : Int) 1 = ((a % 2 : Nat) : Int) := by
  unfold bk_andL
  have h2 : (2 : Nat) ^ 62 = 4611686018427387904 := by decide
  have h3 : (2 : Nat) ^ 64 = 18446744073709551616 := by decide
  have e1 : (BitVec.ofInt 64 (a : Int)).toNat = a := by rw [BitVec.ofInt_natCast, BitVec.toNat_ofNat, Nat.mod_eq_of_lt (by omega)]
  have e2 : (BitVec.ofInt 64 (1 : Int)).toNat = 1 := by decide
  have e3 : (BitVec.ofInt 64 (a : Int) &&& BitVec.ofInt 64 1).toNat = a % 2 := by rw [BitVec.toNat_and, e1, e2, Nat.and_one_is_mod]
  rw [BitVec.toInt_eq_toNat_of_lt (by rw [e3]; omega), e3]
theorem bkOrL_n {a b : Nat} (h : a < 2 ^ 62) (h' : b < 2 ^ 62) : bk_orL (a : Int) (b : Int) = ((a ||| b : Nat) : Int) := by
  unfold bk_orL
  have h4 := Nat.or_lt_two_pow h h'
  have h2 : (2 : Nat) ^ 62 = 4611686018427387904 := by decide
  have h3 : (2 : Nat) ^ 64 = 18446744073709551616 := by decide
  have e1 : (BitVec.ofInt 64 (a : Int)).toNat = a := by rw [BitVec.ofInt_natCast, BitVec.toNat_ofNat, Nat.mod_eq_of_lt (by omega)]
  have e2 : (BitVec.ofInt 64 (b : Int)).toNat = b := by rw [BitVec.ofInt_natCast, BitVec.toNat_ofNat, Nat.mod_eq_of_lt (by omega)]
  have e3 : (BitVec.ofInt 64 (a : Int) ||| BitVec.ofInt 64 (b : Int)).toNat = a ||| b := by rw [BitVec.toNat_or, e1, e2]
  rw [BitVec.toInt_eq_toNat_of_lt (by rw [e3]; omega), e3]
theorem bkBit0 {a b c : Int} (ha : a = 0 ∨ a = 1) (hb : b = 0 ∨ b = 1) (hc : c = 0 ∨ c = 1) : bk_and ((a + 4 * b + 256 * c) / 2 ^ (0 : Int).toNat) 1 = a ∧ bk_and ((a + 4 * b + 256 * c) / 2 ^ (2 : Int).toNat) 1 = b ∧ bk_and ((a + 4 * b + 256 * c) / 2 ^ (8 : Int).toNat) 1 = c ∧ bk_or (a + 4 * b + 256 * c) (1 * 2 ^ (0 : Int).toNat) = 1 + 4 * b + 256 * c ∧ bk_or (a + 4 * b + 256 * c) (1 * 2 ^ (2 : Int).toNat) = a + 4 * 1 + 256 * c ∧ bk_or (a + 4 * b + 256 * c) (1 * 2 ^ (8 : Int).toNat) = a + 4 * b + 256 * 1 := by
  rcases ha with rfl | rfl <;> rcases hb with rfl | rfl <;> rcases hc with rfl | rfl <;> decide
theorem bkBit1 {a b : Int} (ha : a = 0 ∨ a = 1) (hb : b = 0 ∨ b = 1) : bk_and ((a + 2 * b) / 2 ^ (0 : Int).toNat) 1 = a ∧ bk_and ((a + 2 * b) / 2 ^ (1 : Int).toNat) 1 = b ∧ bk_or (a + 2 * b) (1 * 2 ^ (0 : Int).toNat) = 1 + 2 * b ∧ bk_or (a + 2 * b) (1 * 2 ^ (1 : Int).toNat) = a + 2 * 1 := by
  rcases ha with rfl | rfl <;> rcases hb with rfl | rfl <;> decide
/-- the class's plain p and its reader are S -/
def bkRdP (M : bk_M) (p : Nat) (S : Int → Int) : Prop :=
  (M 5 p 0 = S 2 ∧ M 5 p 1 = S 3 ∧ M 5 p 2 = S 4 ∧ M 5 p 3 = S 5 ∧ M 5 p 6 = S 0 ∧ M 5 p 11 = S 1 ∧ M 5 p 17 = 0) ∧
  (∀ k, 0 ≤ k → k < 36 → M 28 p k = S (6 + k)) ∧ (∀ y, 0 ≤ y → y < 6 → M 29 p y = 0) ∧ (M 37 p 0 = S 78 ∧ M 37 p 1 = S 79 ∧ M 38 p 0 = 0 ∧ M 38 p 1 = 0) ∧
  (∀ f, 0 ≤ f → f < S 0 → M 30 p f = 6 * S (52 + f) + S (42 + f) ∧ M 31 p f = S (62 + f) ∧ M 32 p f = 0 ∧ M 33 p f = S (200 + f)) ∧
  (∀ m, 0 ≤ m → m < S 1 → M 34 p m = 6 * S (75 + m) + S (72 + m) ∧ M 35 p m = 0 ∧ M 36 p m = S (210 + m))
def bkRdR (M : bk_M) (S : Int → Int) : Prop :=
  M 6 0 0 = S 120 + 4 * S 121 + 256 * S 122 ∧ M 6 0 1 = S 123 + 2 * S 124 ∧ (M 6 0 3 = 0 ∨ M 6 0 3 = 1) ∧ (S 170 = 1 ↔ M 6 0 3 = 1 ∨ S 121 = 1) ∧ (∃ n : Nat, n < 2 ^ 36 ∧ M 6 0 2 = n ∧ ∀ k : Nat, k < 36 → S (130 + k) = if n.testBit k = true then 1 else 0)
def bkRdC (M : bk_M) (p : Nat) (S : Int → Int) : Prop := bkRdP M p S ∧ bkRdR M S
def bkCa (p : Nat) (k a : Nat) : Prop := (k = 10 ∧ a = 0) ∨ (k = 6 ∧ a = 0) ∨ ((k = 5 ∨ (28 ≤ k ∧ k ≤ 39)) ∧ a = p)
def bkCp (p : Nat) (M M' : bk_M) : Prop := bkFr (bkCa p) M M' ∧ ∀ j, j ≠ 2 → j ≠ 3 → j ≠ 4 → j ≠ 5 → j ≠ 6 → j ≠ 7 → j ≠ 10 → j ≠ 11 → M' 10 0 j = M 10 0 j
theorem bkCp_c {p : Nat} {M M' : bk_M} (h : bkCf M M') : bkCp p M M' := ⟨bkFr_mono h.1 fun k a w => .inl w, h.2⟩
theorem bkCp_refl {p : Nat} (M : bk_M) : bkCp p M M := bkCp_c (bkCf_refl M)
theorem bkCp_trans {p : Nat} {M M' M'' : bk_M} (h : bkCp p M M') (h2 : bkCp p M' M'') : bkCp p M M'' := ⟨bkFr_trans h.1 h2.1, fun j q1 q2 q3 q4 q5 q6 q7 q8 => (h2.2 j q1 q2 q3 q4 q5 q6 q7 q8).trans (h.2 j q1 q2 q3 q4 q5 q6 q7 q8)⟩
theorem bkCp_up {p : Nat} {M : bk_M} {k a : Nat} {j v : Int} (h : bkCa p k a) (hk : k ≠ 10) : bkCp p M (bk_up M k a j v) := ⟨bkFr_up (bkFr_refl _ _) h, fun j' _ _ _ _ _ _ _ _ => bk_up_k (by omega)⟩
theorem bkCt_p {p : Nat} {M M' : bk_M} {T : Int → Int} {c L : Int} (h : bkCt M T c L) (f : bkCp p M M') : bkCt M' T c L := by
  obtain ⟨h1, h2, h3, h4, h5⟩ := h
  refine ⟨(f.1 53 0 (by unfold bkCa; omega)).trans h1, (f.2 1 (by decide) (by decide) (by decide) (by decide) (by decide) (by decide) (by decide) (by decide)).trans h2, (f.2 9 (by decide) (by decide) (by decide) (by decide) (by decide) (by decide) (by decide) (by decide)).trans h3, h4, fun w hw => ?_⟩
  rw [f.1 54 0 (by unfold bkCa; omega)]; exact h5 w hw
theorem bkRdP_e {M M' : bk_M} {p : Nat} {S : Int → Int} (h : bkRdP M p S) (f : ∀ k, k = 5 ∨ (28 ≤ k ∧ k ≤ 39) → M' k p = M k p) : bkRdP M' p S := by
  unfold bkRdP at *
  rw [f 5 (by omega), f 28 (by omega), f 29 (by omega), f 30 (by omega), f 31 (by omega), f 32 (by omega), f 33 (by omega), f 34 (by omega), f 35 (by omega), f 36 (by omega), f 37 (by omega), f 38 (by omega)]
  exact h
theorem bkRdC_f {M M' : bk_M} {p : Nat} {S : Int → Int} (h : bkRdC M p S) (f : bkCf M M') : bkRdC M' p S := by
  refine ⟨bkRdP_e h.1 fun k hk => f.1 k p (by omega), ?_⟩
  have := h.2
  unfold bkRdR at *
  rw [f.1 6 0 (by omega)]; exact this
/-- what a reader of the class has done, its pure outcome being O -/
def bkPo (p : Nat) (M : bk_M) (r : Int) (M' : bk_M) (O : (Int × Int) ⊕ (Int × (Int → Int))) : Prop := bkCp p M M' ∧ (∀ w q, O = .inl (w, q) → r = 0 ∧ M' 10 0 6 = w ∧ M' 10 0 7 = q) ∧ (∀ i S, O = .inr (i, S) → r = 1 ∧ M' 10 0 10 = i ∧ M' 10 0 6 = M 10 0 6 ∧ bkRdC M' p S)
theorem bkPo_l {p : Nat} {M M' : bk_M} {r w q : Int} {O : (Int × Int) ⊕ (Int × (Int → Int))} (hO : O = .inl (w, q)) (f : bkCp p M M') (hr : r = 0) (h6 : M' 10 0 6 = w) (h7 : M' 10 0 7 = q) : bkPo p M r M' O := by
  subst hO
  exact ⟨f, fun w q e => (by cases e; exact ⟨hr, h6, h7⟩), fun i S e => (by cases e)⟩
theorem bkPo_r {p : Nat} {M M' : bk_M} {r i : Int} {S : Int → Int} {O : (Int × Int) ⊕ (Int × (Int → Int))} (hO : O = .inr (i, S)) (f : bkCp p M M') (hr : r = 1) (h10 : M' 10 0 10 = i) (h6 : M' 10 0 6 = M 10 0 6) (hR : bkRdC M' p S) : bkPo p M r M' O := by
  subst hO
  exact ⟨f, fun w q e => (by cases e), fun i S e => (by cases e; exact ⟨hr, h10, h6, hR⟩)⟩
theorem bk17 {d : Nat} {M : bk_M} {T : Int → Int} {c L i lo hi : Int} {Q : bk_Q} (h : bkCt M T c L) (hx : M 10 0 10 = i) (h0 : 0 ≤ i ∧ i ≤ c) (hl : ∀ w q M', bkNu T c L lo hi i = .inl (w, q) → bkCf M M' → M' 10 0 6 = w → M' 10 0 7 = q → Q 0 0 M') (hr : ∀ v M', bkNu T c L lo hi i = .inr v → bkCf M M' → bkCk M' T c L i → M' 10 0 5 = v → M' 10 0 6 = M 10 0 6 → Q 0 1 M') : bk_C (d + 3) 0 17 [bk_c 10 0, bk_i lo, bk_i hi] M Q := by
  refine bk_use (S17c h hx h0) (fun r M' hM' => ?_)
  obtain ⟨f, K, q1, q2⟩ := hM'
  rcases e : bkNu T c L lo hi i with ⟨w, q⟩ | v
  · obtain ⟨e0, e1, e2⟩ := q1 w q e; rw [e0]; exact hl w q M' e f e1 e2
  · obtain ⟨e0, e1, e2⟩ := q2 v e; rw [e0]; exact hr v M' e f K e1 e2
theorem bk16 {d p : Nat} {M0 M : bk_M} {a q : Int} {O : (Int × Int) ⊕ (Int × (Int → Int))} (hO : O = .inl (a, q)) (f : bkCp p M0 M) (hq : M 10 0 11 = q) : bk_C (d + 1) 0 16 [bk_c 10 0, bk_i a] M (fun t r M' => t = 0 ∧ (r = 0 ∨ r = 1) ∧ (0 : Nat) = 0 ∧ bkPo p M0 r M' O) := by
  refine bk_use S16c (fun r M' hM' => ?_)
  obtain ⟨q1, q2, q3, q4, q5⟩ := hM'
  exact ⟨rfl, .inl q1, rfl, bkPo_l hO (bkCp_trans f (bkCp_c q2)) q1 q3 (q4.trans hq)⟩
theorem S15c {d : Nat} {Q : bk_Q} {M : bk_M} {a f g : Int} (ha : 0 ≤ a ∧ a < 9) (hb : bk_and (M 6 0 0 / 2 ^ a.toNat) 1 = f) (ho : bk_or (M 6 0 0) (1 * 2 ^ a.toNat) = g) (hf : f = 0 ∨ f = 1) : bk_C (d + 1) 0 15 [bk_c 6 0, bk_i a] M Q ↔ Q 0 (1 - f) (bk_up M 6 0 0 g) := by
  refine bk_det (fun Q hQ => ?_) Q
  have hp : (2 : Nat) ^ a.toNat ≤ 2 ^ 9 := Nat.pow_le_pow_right (by decide) (by omega)
  have hp2 : ((2 ^ a.toNat : Nat) : Int) = (2 : Int) ^ a.toNat := by push_cast; rfl
  have h9 : (2 : Nat) ^ 9 = 512 := rfl
  have h0 : 0 < (2 : Nat) ^ a.toNat := Nat.pow_pos (by decide)
  rw [E_15, hb, ho]
  refine ⟨by omega, fun z => ⟨by unfold bk_r32; omega, fun M1 e1 => ⟨.inl rfl, ?_⟩⟩, fun z => ⟨by unfold bk_r32; omega, fun M1 e1 => ⟨.inr rfl, ?_⟩⟩⟩
  · rw [e1]; rwa [show 1 - f = 0 by omega] at hQ
  · rw [e1]; rwa [show 1 - f = 1 by omega] at hQ
theorem S14c {d p : Nat} {M : bk_M} {T : Int → Int} {c L i : Int} {S : Int → Int} (h : bkCt M T c L) (hx : M 10 0 10 = i) (h0 : 0 ≤ i ∧ i ≤ c) (hS : bkSv S) (hR : bkRdC M p S) : bk_C (d + 4) 0 14 [bk_c 6 0, bk_c 10 0, bk_c 5 p] M (fun t r M' => t = 0 ∧ bkPo p M r M' (bkLSize T c L S i (M 10 0 11))) := by
  obtain ⟨r1, r2, r3, r4, r5⟩ := hR.2
  have fl := hS.2.2.2.2.2.2.1
  obtain ⟨b1, b2, b3, b4, b5, b6⟩ := bkBit0 (fl 120 (by omega) (by omega)) (fl 121 (by omega) (by omega)) (fl 122 (by omega) (by omega))
  have s0 := hS.2.2.1
  have s1 := hS.2.2.2.1
  have g120 := fl 120 (by omega) (by omega)
  have g121 := fl 121 (by omega) (by omega)
  have g170 := fl 170 (by omega) (by omega)
  have hn := @bkTn_b T c L i h0.2
  rw [E_14, r1, b2]
  refine ⟨fun z => bk16 (O := bkLSize T c L S i (M 10 0 11)) (a := 3) (by unfold bkLSize; rw [if_pos (by omega)]) (bkCp_refl M) rfl, fun z => ⟨by omega, fun z2 => bk16 (O := bkLSize T c L S i (M 10 0 11)) (a := 3) (by unfold bkLSize; rw [if_pos (by omega)]) (bkCp_refl M) rfl, fun z2 => ?_⟩⟩
  rw [S15c (f := S 120) (g := 1 + 4 * S 121 + 256 * S 122) (by omega) (by rw [r1]; exact b1) (by rw [r1]; exact b4) g120]
  refine ⟨rfl, fun z3 => ?_, fun z3 => bk16 (O := bkLSize T c L S i (M 10 0 11)) (a := 3) (by unfold bkLSize; rw [if_pos (by omega)]) (bkCp_up (by unfold bkCa; omega) (by decide)) (by rw [bk_up_k (by decide)])⟩
  have f8 : bkCp p M (bk_up M 6 0 0 (1 + 4 * S 121 + 256 * S 122)) := bkCp_up (by unfold bkCa; omega) (by decide)
  refine bk17 (bkCt_p h f8) (by rw [bk_up_k (by decide)]; exact hx) h0 (fun w q M' e f e6 e7 => ⟨rfl, fun w => absurd rfl w, fun _ => ⟨.inl rfl, rfl, bkPo_l (by unfold bkLSize; rw [if_neg (by omega), e]) (bkCp_trans f8 (bkCp_c f)) rfl e6 e7⟩⟩) (fun v M' e f K e5 e6 => ⟨rfl, fun _ M13 e13 => ?_, fun w => absurd (by decide) w⟩)
  have f13 : bkCp p M' M13 := by rw [e13]; exact bkCp_up (by unfold bkCa; omega) (by decide)
  have F13 := bkCp_trans (bkCp_trans f8 (bkCp_c f)) f13
  refine bk17 (bkCt_p h F13) (i := bkTn T c L i) (by rw [e13, bk_up_k (by decide)]; exact K.2.1) (by omega) (fun w q M2 e' f' e6' e7' => ⟨rfl, fun w => absurd rfl w, fun _ => ⟨.inl rfl, rfl, bkPo_l (by unfold bkLSize; rw [if_neg (by omega), e]; dsimp only; rw [e']) (bkCp_trans F13 (bkCp_c f')) rfl e6' e7'⟩⟩) (fun v' M2 e' f' K' e5' e6' => ⟨rfl, fun _ M17 e17 => ⟨.inr rfl, rfl, ?_⟩, fun w => absurd (by decide) w⟩)
  rw [e5] at e13
  rw [e5'] at e17
  have f17 : bkCp p M2 M17 := by rw [e17]; exact bkCp_up (by unfold bkCa; omega) (by decide)
  refine bkPo_r (by unfold bkLSize; rw [if_neg (by omega), e]; dsimp only; rw [e']) (bkCp_trans (bkCp_trans F13 (bkCp_c f')) f17) rfl (by rw [e17, bk_up_k (by decide)]; exact K'.2.1) (by rw [e17, bk_up_k (by decide), e6', e13, bk_up_k (by decide), e6, bk_up_k (by decide)]) ?_
  -- the plain is as it was, but for its size
  have o : ∀ k, 28 ≤ k → k ≤ 39 → M17 k p = M k p := fun k k1 k2 => by
    rw [e17, bk_up_f (by omega), f'.1 k p (by omega), e13, bk_up_f (by omega), f.1 k p (by omega), bk_up_f (by omega)]
  have o5 : ∀ j, j ≠ 0 → j ≠ 1 → M17 5 p j = M 5 p j := fun j j1 j2 => by
    rw [e17, bk_up_s j2, f'.1 5 p (by omega), e13, bk_up_s j1, f.1 5 p (by omega), bk_up_f (by decide)]
  have o6 : M17 6 0 = (bk_up M 6 0 0 (1 + 4 * S 121 + 256 * S 122)) 6 0 := by
    rw [e17, bk_up_f (by decide), f'.1 6 0 (by omega), e13, bk_up_f (by decide), f.1 6 0 (by omega)]
  have w0 : M17 5 p 0 = v := by rw [e17, bk_up_s (by decide), f'.1 5 p (by omega), e13, bk_up_e]
  have w1 : M17 5 p 1 = v' := by rw [e17, bk_up_e]
  obtain ⟨⟨p1, p2, p3, p4, p5, p6, p7⟩, P2, P3, P4, P5, P6⟩ := hR.1
  have P : ∀ {j}, j ≠ 3 → j ≠ 2 → j ≠ 120 → bkPut (bkPut (bkPut S 120 1) 2 v) 3 v' j = S j := fun q1 q2 q3 => by rw [bkPut_o q1, bkPut_o q2, bkPut_o q3]
  have E2 : bkPut (bkPut (bkPut S 120 1) 2 v) 3 v' 2 = v := by rw [bkPut_o (by decide), bkPut_e]
  have E3 : bkPut (bkPut (bkPut S 120 1) 2 v) 3 v' 3 = v' := bkPut_e
  have E120 : bkPut (bkPut (bkPut S 120 1) 2 v) 3 v' 120 = 1 := by rw [bkPut_o (by decide), bkPut_o (by decide), bkPut_e]
  generalize bkPut (bkPut (bkPut S 120 1) 2 v) 3 v' = S' at *
  refine ⟨⟨⟨by rw [w0, E2], by rw [w1, E3], by rw [o5 2 (by decide) (by decide), P (by decide) (by decide) (by decide)]; exact p3, by rw [o5 3 (by decide) (by decide), P (by decide) (by decide) (by decide)]; exact p4, by rw [o5 6 (by decide) (by decide), P (by decide) (by decide) (by decide)]; exact p5, by rw [o5 11 (by decide) (by decide), P (by decide) (by decide) (by decide)]; exact p6, by rw [o5 17 (by decide) (by decide)]; exact p7⟩, fun k k0 k1 => ?_, ?_, ?_, fun k k0 k1 => ?_, fun k k0 k1 => ?_⟩, ?_, ?_, ?_, ?_, ?_⟩
  · rw [o 28 (by omega) (by omega), P (by omega) (by omega) (by omega)]; exact P2 k k0 k1
  · rw [o 29 (by omega) (by omega)]; exact P3
  · rw [o 37 (by omega) (by omega), o 38 (by omega) (by omega), P (by omega) (by omega) (by omega), P (by omega) (by omega) (by omega)]; exact P4
  · rw [P (by omega) (by omega) (by omega)] at k1
    rw [o 30 (by omega) (by omega), o 31 (by omega) (by omega), o 32 (by omega) (by omega), o 33 (by omega) (by omega), P (j := 52 + k) (by omega) (by omega) (by omega), P (j := 42 + k) (by omega) (by omega) (by omega), P (j := 62 + k) (by omega) (by omega) (by omega), P (j := 200 + k) (by omega) (by omega) (by omega)]; exact P5 k k0 k1
  · rw [P (by omega) (by omega) (by omega)] at k1
    rw [o 34 (by omega) (by omega), o 35 (by omega) (by omega), o 36 (by omega) (by omega), P (j := 75 + k) (by omega) (by omega) (by omega), P (j := 72 + k) (by omega) (by omega) (by omega), P (j := 210 + k) (by omega) (by omega) (by omega)]; exact P6 k k0 k1
  · rw [o6, bk_up_e, E120, P (by omega) (by omega) (by omega), P (by omega) (by omega) (by omega)]
  · rw [o6, bk_up_s (by decide), P (by omega) (by omega) (by omega), P (by omega) (by omega) (by omega)]; exact r2
  · rw [o6, bk_up_s (by decide)]; exact r3
  · rw [o6, bk_up_s (by decide), P (by omega) (by omega) (by omega), P (by omega) (by omega) (by omega)]; exact r4
  · obtain ⟨n, n1, n2, n3⟩ := r5
    exact ⟨n, n1, by rw [o6, bk_up_s (by decide)]; exact n2, fun k hk => by rw [P (by omega) (by omega) (by omega)]; exact n3 k hk⟩
