/-! The reference reads a BOOK's lines. -/
def bkRa (k a : Nat) : Prop := (k = 12 ∨ k = 83) ∧ a = 0
def bkRp (M M' : bk_M) : Prop := bkFr bkRa M M' ∧ ∀ j, j ≠ 5 → j ≠ 6 → j ≠ 7 → j ≠ 8 → j ≠ 9 → j ≠ 10 → j ≠ 11 → j ≠ 12 → j ≠ 13 → M' 12 0 j = M 12 0 j
theorem bkRp_o {M M' : bk_M} (h : bkRo M M') : bkRp M M' := ⟨bkFr_mono h.1 fun k a w => by unfold bkRa; omega, h.2⟩
theorem bkRp_refl (M : bk_M) : bkRp M M := bkRp_o (bkRo_refl M)
theorem bkRp_trans {M M' M'' : bk_M} (h : bkRp M M') (h2 : bkRp M' M'') : bkRp M M'' := ⟨bkFr_trans h.1 h2.1, fun j q1 q2 q3 q4 q5 q6 q7 q8 q9 => (h2.2 j q1 q2 q3 q4 q5 q6 q7 q8 q9).trans (h.2 j q1 q2 q3 q4 q5 q6 q7 q8 q9)⟩
theorem bkRp_up {M : bk_M} {j v : Int} : bkRp M (bk_up M 83 0 j v) := ⟨bkFr_up (bkFr_refl _ _) ⟨.inr rfl, rfl⟩, fun j' _ _ _ _ _ _ _ _ _ => bk_up_k (by decide)⟩
theorem bkRt_q {M M' : bk_M} {T : Int → Int} {c L : Int} (h : bkRt M T c L) (f : bkRp M M') : bkRt M' T c L := by
  obtain ⟨h1, h2, h3, h4⟩ := h
  exact ⟨(f.1 57 0 (by unfold bkRa; omega)).trans h1, (f.2 3 (by decide) (by decide) (by decide) (by decide) (by decide) (by decide) (by decide) (by decide) (by decide)).trans h2, (f.2 4 (by decide) (by decide) (by decide) (by decide) (by decide) (by decide) (by decide) (by decide) (by decide)).trans h3, h4⟩
def bkBR (T : Int → Int) (c L : Int) (M : bk_M) (r : Int) (M' : bk_M) (O : (Int × Int) ⊕ (Int × (Int → Int))) : Prop := bkRp M M' ∧ (∀ w q, O = .inl (w, q) → r = 0 ∧ M' 12 0 10 = w ∧ M' 12 0 11 = q) ∧ (∀ i S, O = .inr (i, S) → r = 1 ∧ M' 12 0 10 = M 12 0 10 ∧ bkAtR M' T c L i ∧ M' 83 0 = S)
theorem bkBR_l {T : Int → Int} {c L : Int} {M M' : bk_M} {r w q : Int} {O : (Int × Int) ⊕ (Int × (Int → Int))} (hO : O = .inl (w, q)) (f : bkRp M M') (hr : r = 0) (h6 : M' 12 0 10 = w) (h7 : M' 12 0 11 = q) : (r = 0 ∨ r = 1) ∧ (0 : Nat) = 0 ∧ bkBR T c L M r M' O := by
  subst hO
  exact ⟨.inl hr, rfl, f, fun w q e => (by cases e; exact ⟨hr, h6, h7⟩), fun i S e => (by cases e)⟩
theorem bkBR_r {T : Int → Int} {c L : Int} {M M' : bk_M} {r i : Int} {S : Int → Int} {O : (Int × Int) ⊕ (Int × (Int → Int))} (hO : O = .inr (i, S)) (f : bkRp M M') (hr : r = 1) (h10 : M' 12 0 10 = M 12 0 10) (hA : bkAtR M' T c L i) (hR : M' 83 0 = S) : (r = 0 ∨ r = 1) ∧ (0 : Nat) = 0 ∧ bkBR T c L M r M' O := by
  subst hO
  exact ⟨.inr hr, rfl, f, fun w q e => (by cases e), fun i S e => (by cases e; exact ⟨hr, h10, hA, hR⟩)⟩
theorem bk261 {d : Nat} {M : bk_M} {T : Int → Int} {c L i a : Int} {Q : bk_Q} (h : bkRt M T c L) (hA : bkAtR M T c L i) (h0 : 0 ≤ i ∧ i ≤ c) (ha : 0 ≤ a ∧ a + 1 < 160)
    (hl : ∀ w q M', (∀ S n k s, bkBPl T c L S n k s i = .inl (w, q)) → bkRp M M' → M' 12 0 10 = w → M' 12 0 11 = q → Q 0 0 M')
    (hr : ∀ x y M', (∀ S n k s, bkBPl T c L S n k s i = .inr (bkTn T c L (bkTn T c L i), bkB4 S n k s x y)) → bkRp M M' → M' 12 0 10 = M 12 0 10 → bkAtR M' T c L (bkTn T c L (bkTn T c L i)) → M' 83 0 = bkPut (bkPut (M 83 0) a x) (a + 1) y → Q 0 1 M') : bk_C (d + 4) 0 261 [bk_c 12 0, bk_i a] M Q := by
  have hn' := @bkTn_b T c L i h0.2
  rw [E_261]
  refine bk174 h hA h0 (fun w q M' e f e1 e2 => ⟨rfl, ?_⟩) (fun x M2 e f2 e13 e10 a2 => ⟨rfl, ?_⟩)
  · rw [E_262]
    exact ⟨fun _ => ⟨.inl rfl, rfl, fun _ => ⟨.inl rfl, hl w q M' (fun S n k s => by unfold bkBPl; rw [e]) (bkRp_o f) e1 e2⟩, fun z => absurd rfl z⟩, fun z => absurd rfl z⟩
  · rw [E_262]
    refine ⟨fun z => absurd z (by decide), fun _ => ⟨by omega, fun M1 e1 => ⟨.inr rfl, rfl, fun z => absurd z (by decide), fun _ => ⟨by unfold bk_r32; omega, ?_⟩⟩⟩⟩
    rw [e13] at e1
    have p1 : bkRp M M1 := bkRp_trans (bkRp_o f2) (by rw [e1]; exact bkRp_up)
    have t1 : M1 12 0 = M2 12 0 := by rw [e1, bk_up_f (by decide)]
    refine bk174 (bkRt_q h p1) (bkAtR_e a2 t1) (by omega) (fun w q M' e' f e2 e3 => ⟨rfl, ?_⟩) (fun y M3 e' f3 e13' e10' a3 => ⟨rfl, ?_⟩)
    · rw [E_262]
      exact ⟨fun _ => ⟨.inl rfl, rfl, fun _ => ⟨.inl rfl, hl w q M' (fun S n k s => by unfold bkBPl; rw [e]; dsimp only; rw [e']) (bkRp_trans p1 (bkRp_o f)) e2 e3⟩, fun z => absurd rfl z⟩, fun z => absurd rfl z⟩
    · rw [E_262]
      refine ⟨fun z => absurd z (by decide), fun _ => ⟨by omega, fun M5 e5 => ⟨.inr rfl, rfl, fun z => absurd z (by decide), fun _ => ⟨.inr rfl, ?_⟩⟩⟩⟩
      rw [e13'] at e5
      refine hr x y M5 (fun S n k s => by unfold bkBPl; rw [e]; dsimp only; rw [e']) (bkRp_trans p1 (bkRp_trans (bkRp_o f3) (by rw [e5]; exact bkRp_up))) (by rw [e5, bk_up_k (by decide), e10', t1, e10]) (bkAtR_e a3 (by rw [e5, bk_up_f (by decide)])) ?_
      rw [e5, bk_up_p, f3.1 83 0 (by omega), e1, bk_up_p, f2.1 83 0 (by omega)]
theorem bkB4_o {S : Int → Int} {n k s x y : Int} : bkPut (bkPut (bkPut (bkPut S (4 * n + 1) s) (4 * n) k) (4 * n + 2) x) (4 * n + 2 + 1) y = bkB4 S n k s x y := by
  funext j
  unfold bkB4 bkPut
  (repeat' split) <;> first | rfl | omega
theorem bkB4_p {S : Int → Int} {n k s x y : Int} : bkPut (bkPut (bkPut (bkPut S (4 * n) k) (4 * n + 1) s) (4 * n + 2) x) (4 * n + 2 + 1) y = bkB4 S n k s x y := by
  funext j
  unfold bkB4 bkPut
  (repeat' split) <;> first | rfl | omega
theorem S260c {d : Nat} {M : bk_M} {T : Int → Int} {c L i n : Int} {S : Int → Int} {O : (Int × Int) ⊕ (Int × (Int → Int))} (h : bkRt M T c L) (hA : bkAtR M T c L i) (h0 : 0 ≤ i ∧ i ≤ c) (hn : 0 ≤ n ∧ n < 40) (hS : M 83 0 = S) (hO : O = bkBSide T c L S n (if bkIsW T c L i 6 = true then 0 else 1) (bkTn T c L i)) : bk_C (d + 5) 0 260 [bk_c 12 0, bk_i (4 * n)] M (fun t r M' => t = 0 ∧ bkBR T c L M r M' O) := by
  have hn' := @bkTn_b T c L i h0.2
  have hn'' := @bkTn_b T c L (bkTn T c L i) hn'.2
  have no : ∀ {j a : Int}, (if bkIsW T c L j a = true then (1 : Int) else 0) = 0 → ¬ bkIsW T c L j a = true := fun z q => by rw [if_pos q] at z; exact absurd z (by decide)
  have ye : ∀ {j a : Int}, ¬ (if bkIsW T c L j a = true then (1 : Int) else 0) = 0 → bkIsW T c L j a = true := fun {j a} z => by
    by_cases q : bkIsW T c L j a = true
    · exact q
    · exact absurd (if_neg q) z
  have tail : ∀ (s : Int) (M4 : bk_M), M4 = bk_up M 83 0 (4 * n + 1) s → O = bkBSide T c L S n s (bkTn T c L i) → bk_C (d + 4) 0 162 [bk_c 12 0] M4 (fun t7 r5 M6 => t7 = 0 ∧ bk_C (d + 4) 0 167 [bk_c 12 0, bk_i (7 : Int)] M6 (fun t10 r8 M9 => t10 = 0 ∧ ((r8 ≠ (0 : Int) → bk_C (d + 4) 0 167 [bk_c 12 0, bk_i (7 : Int)] M9 (fun t13 r11 M12 => t13 = 0 ∧ ((r11 = (0 : Int) → ((0 : Int) ≤ (4 * n) ∧ (4 * n) < (160 : Int)) ∧ ∀ M14 : bk_M, M14 = bk_up M12 83 0 (4 * n) (1 : Int) → bk_C (d + 4) 0 162 [bk_c 12 0] M14 (fun t17 r15 M16 => t17 = 0 ∧ bk_r32 ((4 * n) + (2 : Int)) ∧ bk_C (d + 4) 0 261 [bk_c 12 0, bk_i ((4 * n) + (2 : Int))] M16 (fun t20 r18 M19 => t20 = 0 ∧ (r18 = 0 ∨ r18 = 1) ∧ ((0 : Nat) = 0 ∧ bkBR T c L M r18 M19 O)))) ∧ (¬ (r11 = (0 : Int)) → ((0 : Int) ≤ (4 * n) ∧ (4 * n) < (160 : Int)) ∧ ∀ M21 : bk_M, M21 = bk_up M12 83 0 (4 * n) (0 : Int) → bk_C (d + 4) 0 162 [bk_c 12 0] M21 (fun t24 r22 M23 => t24 = 0 ∧ bk_r32 ((4 * n) + (2 : Int)) ∧ bk_C (d + 4) 0 261 [bk_c 12 0, bk_i ((4 * n) + (2 : Int))] M23 (fun t27 r25 M26 => t27 = 0 ∧ (r25 = 0 ∨ r25 = 1) ∧ ((0 : Nat) = 0 ∧ bkBR T c L M r25 M26 O))))))) ∧ (¬ (r8 ≠ (0 : Int)) → bk_C (d + 4) 0 167 [bk_c 12 0, bk_i (8 : Int)] M9 (fun t30 r28 M29 => t30 = 0 ∧ ((r28 ≠ (0 : Int) → bk_C (d + 4) 0 167 [bk_c 12 0, bk_i (7 : Int)] M29 (fun t33 r31 M32 => t33 = 0 ∧ ((r31 = (0 : Int) → ((0 : Int) ≤ (4 * n) ∧ (4 * n) < (160 : Int)) ∧ ∀ M34 : bk_M, M34 = bk_up M32 83 0 (4 * n) (1 : Int) → bk_C (d + 4) 0 162 [bk_c 12 0] M34 (fun t37 r35 M36 => t37 = 0 ∧ bk_r32 ((4 * n) + (2 : Int)) ∧ bk_C (d + 4) 0 261 [bk_c 12 0, bk_i ((4 * n) + (2 : Int))] M36 (fun t40 r38 M39 => t40 = 0 ∧ (r38 = 0 ∨ r38 = 1) ∧ ((0 : Nat) = 0 ∧ bkBR T c L M r38 M39 O)))) ∧ (¬ (r31 = (0 : Int)) → ((0 : Int) ≤ (4 * n) ∧ (4 * n) < (160 : Int)) ∧ ∀ M41 : bk_M, M41 = bk_up M32 83 0 (4 * n) (0 : Int) → bk_C (d + 4) 0 162 [bk_c 12 0] M41 (fun t44 r42 M43 => t44 = 0 ∧ bk_r32 ((4 * n) + (2 : Int)) ∧ bk_C (d + 4) 0 261 [bk_c 12 0, bk_i ((4 * n) + (2 : Int))] M43 (fun t47 r45 M46 => t47 = 0 ∧ (r45 = 0 ∨ r45 = 1) ∧ ((0 : Nat) = 0 ∧ bkBR T c L M r45 M46 O))))))) ∧ (¬ (r28 ≠ (0 : Int)) → bk_C (d + 4) 0 171 [bk_c 12 0, bk_i (1 : Int)] M29 (fun t50 r48 M49 => t50 = 0 ∧ (r48 = 0 ∨ r48 = 1) ∧ ((0 : Nat) = 0 ∧ bkBR T c L M r48 M49 O))))))))) := fun s M4 e4 eO => by
    have p4 : bkRp M M4 := by rw [e4]; exact bkRp_up
    have t4 : M4 12 0 = M 12 0 := by rw [e4, bk_up_f (by decide)]
    refine bk_use (S162c (i := bkTn T c L i) (bkRt_q h p4) (by rw [t4]; exact hA.2.2.2.1) (by omega)) (fun r M6 hM6 => ⟨rfl, ?_⟩)
    obtain ⟨f6, ⟨k10, k11, k13⟩, a6⟩ := hM6
    have p6 : bkRp M M6 := bkRp_trans p4 (bkRp_o f6)
    have leaf : ∀ (k : Int) (M14 : bk_M), M14 = bk_up M6 83 0 (4 * n) k → O = bkBPl T c L S n k s (bkTn T c L (bkTn T c L i)) → bk_C (d + 4) 0 162 [bk_c 12 0] M14 (fun t17 r15 M16 => t17 = 0 ∧ bk_r32 ((4 * n) + (2 : Int)) ∧ bk_C (d + 4) 0 261 [bk_c 12 0, bk_i ((4 * n) + (2 : Int))] M16 (fun t20 r18 M19 => t20 = 0 ∧ (r18 = 0 ∨ r18 = 1) ∧ ((0 : Nat) = 0 ∧ bkBR T c L M r18 M19 O))) := fun k M14 e14 eO => by
      have p14 : bkRp M M14 := bkRp_trans p6 (by rw [e14]; exact bkRp_up)
      have t14 : M14 12 0 = M6 12 0 := by rw [e14, bk_up_f (by decide)]
      refine bk_use (S162c (i := bkTn T c L (bkTn T c L i)) (bkRt_q h p14) (by rw [t14]; exact a6.2.2.2.1) (by omega)) (fun r M16 hM16 => ⟨rfl, by unfold bk_r32; omega, ?_⟩)
      obtain ⟨f16, ⟨j10, -⟩, a16⟩ := hM16
      have p16 : bkRp M M16 := bkRp_trans p14 (bkRp_o f16)
      refine bk261 (bkRt_q h p16) a16 (by omega) (by omega) (fun w q M' e f e1 e2 => ⟨rfl, bkBR_l (eO.trans (e S n k s)) (bkRp_trans p16 f) rfl e1 e2⟩) (fun x y M' e f e10 ea e83 => ⟨rfl, bkBR_r (eO.trans (e S n k s)) (bkRp_trans p16 f) rfl (by rw [e10, j10, t14, k10, t4]) ea ?_⟩)
      rw [e83, f16.1 83 0 (by omega), e14, bk_up_p, f6.1 83 0 (by omega), e4, bk_up_p, hS, bkB4_o]
    refine (S167d (w := 9) (b := 9) (a := 7) a6 (by decide) rfl rfl).2 ⟨rfl, fun z => (S167d (w := 9) (b := 9) (a := 7) a6 (by decide) rfl rfl).2 ⟨rfl, fun z' => absurd z' z, fun _ => ⟨by omega, fun M21 e21 => leaf 0 M21 e21 ?_⟩⟩, fun z => (S167d (w := 10) (b := 10) (a := 8) a6 (by decide) rfl rfl).2 ⟨rfl, fun z8 => (S167d (w := 9) (b := 9) (a := 7) a6 (by decide) rfl rfl).2 ⟨rfl, fun _ => ⟨by omega, fun M34 e34 => leaf 1 M34 e34 ?_⟩, fun z' => absurd z' z⟩, fun z8 => bk171 a6 (.inr rfl) (fun M' f e1 e2 => ⟨rfl, bkBR_l ?_ (bkRp_trans p6 (bkRp_o f)) rfl e1 e2⟩)⟩⟩
    · rw [eO]; unfold bkBSide; rw [if_pos (ye z)]
    · rw [eO]; unfold bkBSide; rw [if_neg (no (Decidable.not_not.1 z)), if_pos (ye z8)]
    · rw [eO]; unfold bkBSide; rw [if_neg (no (Decidable.not_not.1 z)), if_neg (no (Decidable.not_not.1 z8))]
  rw [E_260]
  refine ⟨by unfold bk_r32; omega, (S167d (w := 6) (b := 6) (a := 15) hA (by decide) rfl rfl).2 ⟨rfl, fun z => ⟨by omega, fun M4 e4 => tail 1 M4 e4 ?_⟩, fun z => ⟨by omega, fun M4 e4 => tail 0 M4 e4 ?_⟩⟩⟩
  · rw [hO, if_neg (no z)]
  · rw [hO, if_pos (ye z)]
theorem S263c {d : Nat} {M : bk_M} {T : Int → Int} {c L i n : Int} {S : Int → Int} {O : (Int × Int) ⊕ (Int × (Int → Int))} (h : bkRt M T c L) (hA : bkAtR M T c L i) (h0 : 0 ≤ i ∧ i ≤ c) (hn : 0 ≤ n ∧ n < 40) (hS : M 83 0 = S) (hO : O = if bkIsW T c L i 12 = true then bkBSp T c L S n (bkTn T c L i) else bkBYr T c L S n (bkTn T c L i)) : bk_C (d + 4) 0 263 [bk_c 12 0, bk_i (4 * n)] M (fun t r M' => t = 0 ∧ bkBR T c L M r M' O) := by
  have hn' := @bkTn_b T c L i h0.2
  rw [E_263]
  refine (S167d (w := 12) (b := 12) (a := 10) hA (by decide) rfl rfl).2 ⟨rfl, by omega, fun M4 e4 => ?_⟩
  have p4 : bkRp M M4 := by rw [e4]; exact bkRp_up
  have t4 : M4 12 0 = M 12 0 := by rw [e4, bk_up_f (by decide)]
  refine bk_use (S162c (i := bkTn T c L i) (bkRt_q h p4) (by rw [t4]; exact hA.2.2.2.1) (by omega)) (fun r M6 hM6 => ⟨rfl, ?_⟩)
  obtain ⟨f6, ⟨k10, -⟩, a6⟩ := hM6
  have p6 : bkRp M M6 := bkRp_trans p4 (bkRp_o f6)
  have b6 : M6 83 0 = bkPut S (4 * n) 3 := by rw [f6.1 83 0 (by omega), e4, bk_up_p, hS]
  by_cases w12 : bkIsW T c L i 12 = true
  · rw [if_pos w12] at hO ⊢
    refine ⟨fun z => absurd z (by decide), fun _ => bk174 (bkRt_q h p6) a6 (by omega) (fun w q M' e f e1 e2 => ⟨rfl, fun _ => bkBR_l (by rw [hO]; unfold bkBSp; rw [e]) (bkRp_trans p6 (bkRp_o f)) rfl e1 e2, fun z => absurd rfl z⟩) (fun v M9 e f e13 e10 a9 => ⟨rfl, fun z => absurd z (by decide), fun _ => ⟨by unfold bk_r32; omega, fun z => absurd z (by decide), fun _ => ⟨by omega, fun M20 e20 => ⟨by unfold bk_r32; omega, by omega, fun M21 e21 => ?_⟩⟩⟩⟩)⟩
    have t21 : M21 12 0 = M9 12 0 := by rw [e21, e20, bk_up_f (by decide), bk_up_f (by decide)]
    refine bkBR_r (by rw [hO]; unfold bkBSp; rw [e]) (bkRp_trans p6 (bkRp_trans (bkRp_o f) (by rw [e21, e20]; exact bkRp_trans bkRp_up bkRp_up))) rfl (by rw [t21, e10, k10, t4]) (bkAtR_e a9 t21) ?_
    rw [e21, bk_up_p, e20, bk_up_p, bk_up_k (by decide), f.1 83 0 (by omega), b6, e13]
    rfl
  · rw [if_neg w12] at hO ⊢
    refine ⟨fun _ => bk174 (bkRt_q h p6) a6 (by omega) (fun w q M' e f e1 e2 => ⟨rfl, fun z => absurd rfl z, fun _ => bkBR_l (by rw [hO]; unfold bkBYr; rw [e]) (bkRp_trans p6 (bkRp_o f)) rfl e1 e2⟩) (fun v M9 e f e13 e10 a9 => ⟨rfl, fun _ => ⟨by unfold bk_r32; omega, fun _ => ⟨by omega, fun M20 e20 => ⟨by unfold bk_r32; omega, by omega, fun M21 e21 => ?_⟩⟩, fun z => absurd rfl z⟩, fun z => absurd (by decide) z⟩), fun z => absurd rfl z⟩
    have t21 : M21 12 0 = M9 12 0 := by rw [e21, e20, bk_up_f (by decide), bk_up_f (by decide)]
    refine bkBR_r (by rw [hO]; unfold bkBYr; rw [e]) (bkRp_trans p6 (bkRp_trans (bkRp_o f) (by rw [e21, e20]; exact bkRp_trans bkRp_up bkRp_up))) rfl (by rw [t21, e10, k10, t4]) (bkAtR_e a9 t21) ?_
    rw [e21, bk_up_p, e20, bk_up_p, bk_up_k (by decide), f.1 83 0 (by omega), b6, e13]
    rfl
theorem S264c {d : Nat} {M : bk_M} {T : Int → Int} {c L i n s : Int} {S : Int → Int} {O : (Int × Int) ⊕ (Int × (Int → Int))} (h : bkRt M T c L) (hA : bkAtR M T c L i) (h0 : 0 ≤ i ∧ i ≤ c) (hn : 0 ≤ n ∧ n < 40) (hS : M 83 0 = S) (hN : 0 ≤ M 58 0 1 ∧ M 58 0 1 ≤ 3) (hs : bkIx (fun j => M 63 0 (10 + j)) (M 12 0 12) (M 58 0 1).toNat = s) (hO : O = bkBRoll T c L S n s (bkTn T c L i)) : bk_C (d + 5) 0 264 [bk_c 12 0, bk_i (4 * n)] M (fun t r M' => t = 0 ∧ bkBR T c L M r M' O) := by
  have hn' := @bkTn_b T c L i h0.2
  have hn'' := @bkTn_b T c L (bkTn T c L i) hn'.2
  have no : ∀ {j a : Int}, (if bkIsW T c L j a = true then (1 : Int) else 0) = 0 → ¬ bkIsW T c L j a = true := fun z q => by rw [if_pos q] at z; exact absurd z (by decide)
  have ye : ∀ {j a : Int}, ¬ (if bkIsW T c L j a = true then (1 : Int) else 0) = 0 → bkIsW T c L j a = true := fun {j a} z => by
    by_cases q : bkIsW T c L j a = true
    · exact q
    · exact absurd (if_neg q) z
  rw [E_264]
  refine ⟨by omega, fun M1 e1 => ⟨by unfold bk_r32; omega, by omega, ?_⟩⟩
  have t1 : M1 12 0 = M 12 0 := by rw [e1, bk_up_f (by decide)]
  have r1 : M1 58 0 = M 58 0 := by rw [e1, bk_up_f (by decide)]
  have x1 : M1 63 0 = M 63 0 := by rw [e1, bk_up_f (by decide)]
  rw [r1, t1, S183c (.inr rfl) (by omega) (by omega), x1, hs]
  refine ⟨rfl, by omega, fun M5 e5 => ?_⟩
  have p5 : bkRp M M5 := by rw [e5, e1]; exact bkRp_trans bkRp_up bkRp_up
  have t5 : M5 12 0 = M 12 0 := by rw [e5, bk_up_f (by decide), t1]
  refine bk_use (S162c (i := bkTn T c L i) (bkRt_q h p5) (by rw [t5]; exact hA.2.2.2.1) (by omega)) (fun r M7 hM7 => ⟨rfl, ?_⟩)
  obtain ⟨f7, ⟨k10, -⟩, a7⟩ := hM7
  have p7 : bkRp M M7 := bkRp_trans p5 (bkRp_o f7)
  refine (S167d (w := 11) (b := 11) (a := 9) a7 (by decide) rfl rfl).2 ⟨rfl, fun z => ?_, fun z => bk171 a7 (.inr rfl) (fun M' f e1 e2 => ⟨rfl, bkBR_l ?_ (bkRp_trans p7 (bkRp_o f)) rfl e1 e2⟩)⟩
  · refine bk_use (S162c (i := bkTn T c L (bkTn T c L i)) (bkRt_q h p7) a7.2.2.2.1 (by omega)) (fun r M16 hM16 => ⟨rfl, by unfold bk_r32; omega, ?_⟩)
    obtain ⟨f16, ⟨j10, -⟩, a16⟩ := hM16
    have p16 : bkRp M M16 := bkRp_trans p7 (bkRp_o f16)
    have eO : O = bkBPl T c L S n 4 s (bkTn T c L (bkTn T c L i)) := by rw [hO]; unfold bkBRoll; rw [if_pos (ye z)]
    refine bk261 (bkRt_q h p16) a16 (by omega) (by omega) (fun w q M' e f e1 e2 => ⟨rfl, bkBR_l (eO.trans (e S n 4 s)) (bkRp_trans p16 f) rfl e1 e2⟩) (fun x y M' e f e10 ea e83 => ⟨rfl, bkBR_r (eO.trans (e S n 4 s)) (bkRp_trans p16 f) rfl (by rw [e10, j10, k10, t5]) ea ?_⟩)
    rw [e83, f16.1 83 0 (by omega), f7.1 83 0 (by omega), e5, bk_up_p, e1, bk_up_p, hS, bkB4_p]
  · rw [hO]; unfold bkBRoll; rw [if_neg (no (Decidable.not_not.1 z))]
