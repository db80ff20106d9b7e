/-! The class reads a BOOK. -/
def bkBa (k a : Nat) : Prop := (k = 10 ∨ k = 0 ∨ (16 ≤ k ∧ k ≤ 19)) ∧ a = 0
def bkBp (M M' : bk_M) : Prop := bkFr bkBa M M' ∧ (∀ j, j ≠ 2 → j ≠ 3 → j ≠ 4 → j ≠ 5 → j ≠ 6 → j ≠ 7 → j ≠ 10 → j ≠ 11 → M' 10 0 j = M 10 0 j) ∧ M' 0 0 = M 0 0
theorem bkBp_c {M M' : bk_M} (h : bkCf M M') : bkBp M M' := ⟨bkFr_mono h.1 fun k a w => ⟨.inl w.1, w.2⟩, h.2, h.1 0 0 (by omega)⟩
theorem bkBp_trans {M M' M'' : bk_M} (h : bkBp M M') (h2 : bkBp M' M'') : bkBp M M'' := ⟨bkFr_trans h.1 h2.1, fun j q1 q2 q3 q4 q5 q6 q7 q8 => (h2.2.1 j q1 q2 q3 q4 q5 q6 q7 q8).trans (h.2.1 j q1 q2 q3 q4 q5 q6 q7 q8), h2.2.2.trans h.2.2⟩
theorem bkBp_up {M : bk_M} {k : Nat} {j v : Int} (hk : 16 ≤ k ∧ k ≤ 19) : bkBp M (bk_up M k 0 j v) := ⟨bkFr_up (bkFr_refl _ _) ⟨by omega, rfl⟩, fun j' _ _ _ _ _ _ _ _ => bk_up_k (by omega), bk_up_f (by omega)⟩
theorem bkCt_b {M M' : bk_M} {T : Int → Int} {c L : Int} (h : bkCt M T c L) (f : bkBp M M') : bkCt M' T c L := by
  obtain ⟨h1, h2, h3, h4, h5⟩ := h
  refine ⟨(f.1 53 0 (by unfold bkBa; omega)).trans h1, (f.2.1 1 (by decide) (by decide) (by decide) (by decide) (by decide) (by decide) (by decide) (by decide)).trans h2, (f.2.1 9 (by decide) (by decide) (by decide) (by decide) (by decide) (by decide) (by decide) (by decide)).trans h3, h4, fun w hw => ?_⟩
  rw [f.1 54 0 (by unfold bkBa; omega)]; exact h5 w hw
theorem bkCk_e {M M' : bk_M} {T : Int → Int} {c L i : Int} (h : bkCk M T c L i) (e : M' 10 0 = M 10 0) : bkCk M' T c L i := by
  unfold bkCk at *
  rw [e]; exact h
theorem bk_up_p {M : bk_M} {k a : Nat} {j v : Int} : bk_up M k a j v k a = bkPut (M k a) j v := by
  funext j'
  rw [bk_up_w]
  rfl
/-- line j of the class is what S says -/
def bkBq (M : bk_M) (S : Int → Int) (j : Int) : Prop := M 18 0 j = S (4 * j + 2) ∧ (S (4 * j) ≠ 3 → M 17 0 j = S (4 * j + 1) ∧ M 19 0 j = S (4 * j + 3)) ∧ (S (4 * j) = 0 → M 16 0 j = 9) ∧ (S (4 * j) = 1 → M 16 0 j = 10) ∧ (S (4 * j) = 4 → M 16 0 j = 11) ∧ (S (4 * j) = 3 → (M 16 0 j = 12 ∧ S (4 * j + 1) = 1) ∨ (M 16 0 j = 13 ∧ S (4 * j + 1) = S (4 * j + 2)))
def bkBc (M : bk_M) (S : Int → Int) (n : Int) : Prop := ∀ j, 0 ≤ j → j < n → bkBq M S j
theorem bkBc_e {M M' : bk_M} {S : Int → Int} {n : Int} (h : bkBc M S n) (o : ∀ k, 16 ≤ k → k ≤ 19 → M' k 0 = M k 0) : bkBc M' S n := fun j h0 h1 => by
  have := h j h0 h1
  unfold bkBq at *
  rw [o 16 (by omega) (by omega), o 17 (by omega) (by omega), o 18 (by omega) (by omega), o 19 (by omega) (by omega)]
  exact this
theorem bkBc_s {M M' : bk_M} {S S' : Int → Int} {n : Int} (h : bkBc M S n) (hS : ∀ j, j < 4 * n → S' j = S j) (o : ∀ k, 16 ≤ k → k ≤ 19 → ∀ j, j < n → M' k 0 j = M k 0 j) (hl : bkBq M' S' n) : bkBc M' S' (n + 1) := fun j h0 h1 => by
  by_cases z : j = n
  · rw [z]; exact hl
  · have := h j h0 (by omega)
    unfold bkBq at *
    rw [hS _ (by omega), hS _ (by omega), hS _ (by omega), hS _ (by omega), o 16 (by omega) (by omega) j (by omega), o 17 (by omega) (by omega) j (by omega), o 18 (by omega) (by omega) j (by omega), o 19 (by omega) (by omega) j (by omega)]
    exact this
def bkBO (n : Int) (M : bk_M) (r : Int) (M' : bk_M) (O : (Int × Int) ⊕ (Int × (Int → Int))) : Prop := bkBp M M' ∧ (∀ w q, O = .inl (w, q) → r = 0 ∧ M' 10 0 6 = w ∧ M' 10 0 7 = q) ∧ (∀ i S, O = .inr (i, S) → r = 1 ∧ M' 10 0 10 = i ∧ M' 10 0 6 = M 10 0 6 ∧ bkBc M' S (n + 1))
theorem bkBO_l {n : Int} {M M' : bk_M} {r w q : Int} {O : (Int × Int) ⊕ (Int × (Int → Int))} (hO : O = .inl (w, q)) (f : bkBp M M') (hr : r = 0) (h6 : M' 10 0 6 = w) (h7 : M' 10 0 7 = q) : (r = 0 ∨ r = 1) ∧ (0 : Nat) = 0 ∧ bkBO n M r M' O := by
  subst hO
  exact ⟨.inl hr, rfl, f, fun w q e => (by cases e; exact ⟨hr, h6, h7⟩), fun i S e => (by cases e)⟩
theorem bkBO_r {n : Int} {M M' : bk_M} {r i : Int} {S : Int → Int} {O : (Int × Int) ⊕ (Int × (Int → Int))} (hO : O = .inr (i, S)) (f : bkBp M M') (hr : r = 1) (h10 : M' 10 0 10 = i) (h6 : M' 10 0 6 = M 10 0 6) (hR : bkBc M' S (n + 1)) : (r = 0 ∨ r = 1) ∧ (0 : Nat) = 0 ∧ bkBO n M r M' O := by
  subst hO
  exact ⟨.inr hr, rfl, f, fun w q e => (by cases e), fun i S e => (by cases e; exact ⟨hr, h10, h6, hR⟩)⟩
theorem bk115 {d : Nat} {M : bk_M} {T : Int → Int} {c L i lo hi n : Int} {Q : bk_Q} (h : bkCt M T c L) (hx : M 10 0 10 = i) (h0 : 0 ≤ i ∧ i ≤ c) (hn : M 0 0 1 = n) (hn2 : 0 ≤ n ∧ n < 40) (hl : ∀ w q M', bkNu T c L lo hi i = .inl (w, q) → bkCf M M' → M' 10 0 6 = w → M' 10 0 7 = q → Q 0 0 M') (hr : ∀ v M', bkNu T c L lo hi i = .inr v → bkCf M M' → bkCk M' T c L i → M' 10 0 6 = M 10 0 6 → Q 0 1 (bk_up M' 18 0 n v)) : bk_C (d + 4) 0 115 [bk_c 0 0, bk_c 10 0, bk_i lo, bk_i hi] M Q := by
  rw [E_115]
  refine bk17 h hx h0 (fun w q M' e f e1 e2 => ⟨rfl, fun z => absurd rfl z, fun _ => ⟨.inl rfl, hl w q M' e f e1 e2⟩⟩) (fun v M' e f K e5 e6 => ⟨rfl, fun _ => ?_, fun z => absurd (by decide) z⟩)
  have e1 : M' 0 0 1 = n := by rw [f.1 0 0 (by omega), hn]
  rw [e1, e5]
  exact ⟨hn2, fun M4 e4 => ⟨.inr rfl, by rw [e4]; exact hr v M' e f K e6⟩⟩
theorem bk116 {d : Nat} {M : bk_M} {T : Int → Int} {c L i n : Int} {Q : bk_Q} (h : bkCt M T c L) (hx : M 10 0 10 = i) (h0 : 0 ≤ i ∧ i ≤ c) (hn : M 0 0 1 = n) (hn2 : 0 ≤ n ∧ n < 40)
    (hl : ∀ w q M', (∀ S k s, bkBPl T c L S n k s i = .inl (w, q)) → bkBp M M' → M' 10 0 6 = w → M' 10 0 7 = q → Q 0 0 M')
    (hr : ∀ x y M', (∀ S k s, bkBPl T c L S n k s i = .inr (bkTn T c L (bkTn T c L i), bkB4 S n k s x y)) → bkBp M M' → M' 10 0 10 = bkTn T c L (bkTn T c L i) → M' 10 0 6 = M 10 0 6 → (M' 16 0 = bkPut (M 16 0) n (M 10 0 4) ∧ M' 17 0 = M 17 0 ∧ M' 18 0 = bkPut (M 18 0) n x ∧ M' 19 0 = bkPut (M 19 0) n y) → Q 0 1 M') : bk_C (d + 5) 0 116 [bk_c 0 0, bk_c 10 0] M Q := by
  have hn' := @bkTn_b T c L i h0.2
  rw [E_116, hn]
  refine ⟨hn2, fun M1 e1 => ?_⟩
  have p1 : bkBp M M1 := by rw [e1]; exact bkBp_up (by omega)
  refine bk115 (n := n) (bkCt_b h p1) (by rw [e1, bk_up_k (by decide)]; exact hx) h0 (by rw [p1.2.2]; exact hn) hn2 (fun w q M' e f e2 e3 => ⟨rfl, fun _ => ⟨.inl rfl, hl w q M' (fun S k s => by unfold bkBPl; rw [e]) (bkBp_trans p1 (bkBp_c f)) e2 e3⟩, fun z => absurd rfl z⟩) (fun x M3 e f3 K3 k6 => ⟨rfl, fun z => absurd z (by decide), fun _ => ?_⟩)
  generalize hM : bk_up M3 18 0 n x = M4
  have p4 : bkBp M M4 := bkBp_trans p1 (bkBp_trans (bkBp_c f3) (by rw [← hM]; exact bkBp_up (by omega)))
  have t4 : M4 10 0 = M3 10 0 := by rw [← hM, bk_up_f (by decide)]
  refine bk17 (i := bkTn T c L i) (bkCt_b h p4) (by rw [t4]; exact K3.2.1) (by omega) (fun w q M' e' f e2 e3 => ⟨rfl, fun z => absurd rfl z, fun _ => ⟨.inl rfl, hl w q M' (fun S k s => by unfold bkBPl; rw [e]; dsimp only; rw [e']) (bkBp_trans p4 (bkBp_c f)) e2 e3⟩⟩) (fun y M6 e' f6 K6 e5 e6 => ⟨rfl, fun _ => ?_, fun z => absurd (by decide) z⟩)
  have n6 : M6 0 0 1 = n := by rw [f6.1 0 0 (by omega), p4.2.2]; exact hn
  rw [n6, e5]
  refine ⟨hn2, fun M8 e8 => ⟨.inr rfl, hr x y M8 (fun S k s => by unfold bkBPl; rw [e]; dsimp only; rw [e']) (bkBp_trans p4 (bkBp_trans (bkBp_c f6) (by rw [e8]; exact bkBp_up (by omega)))) ?_ ?_ ⟨?_, ?_, ?_, ?_⟩⟩⟩
  · rw [e8, bk_up_k (by decide)]; exact K6.2.1
  · rw [e8, bk_up_k (by decide), e6, t4, k6, e1, bk_up_k (by decide)]
  · rw [e8, bk_up_f (by decide), f6.1 16 0 (by omega), ← hM, bk_up_f (by decide), f3.1 16 0 (by omega), e1, bk_up_p]
  · rw [e8, bk_up_f (by decide), f6.1 17 0 (by omega), ← hM, bk_up_f (by decide), f3.1 17 0 (by omega), e1, bk_up_f (by decide)]
  · rw [e8, bk_up_f (by decide), f6.1 18 0 (by omega), ← hM, bk_up_p, f3.1 18 0 (by omega), e1, bk_up_f (by decide)]
  · rw [e8, bk_up_p, f6.1 19 0 (by omega), ← hM, bk_up_f (by decide), f3.1 19 0 (by omega), e1, bk_up_f (by decide)]
/-- a beginning -/
theorem S114c {d : Nat} {Q : bk_Q} {M : bk_M} {T : Int → Int} {c L i : Int} (h : bkCk M T c L i) : bk_C (d + 2) 0 114 [bk_c 10 0] M Q ↔ Q 0 (if bkIsW T c L i 6 = true ∨ bkIsW T c L i 7 = true ∨ bkIsW T c L i 12 = true ∨ bkIsW T c L i 13 = true then 1 else 0) M := by
  refine bk_det (fun Q hQ => ?_) Q
  rw [E_114, S28c h]
  refine ⟨rfl, fun z => ⟨.inr rfl, ?_⟩, fun z => ?_⟩
  · have z : bkIsW T c L i 6 = true := by
      by_cases q : bkIsW T c L i 6 = true
      · exact q
      · exact absurd (if_neg q) z
    rwa [if_pos (.inl z)] at hQ
  have z6 : ¬ bkIsW T c L i 6 = true := fun q => z (by rw [if_pos q]; decide)
  rw [S28c h]
  refine ⟨rfl, fun z => ⟨.inr rfl, ?_⟩, fun z => ?_⟩
  · have z : bkIsW T c L i 7 = true := by
      by_cases q : bkIsW T c L i 7 = true
      · exact q
      · exact absurd (if_neg q) z
    rwa [if_pos (.inr (.inl z))] at hQ
  have z7 : ¬ bkIsW T c L i 7 = true := fun q => z (by rw [if_pos q]; decide)
  rw [S28c h]
  refine ⟨rfl, fun z => ⟨.inr rfl, ?_⟩, fun z => ?_⟩
  · have z : bkIsW T c L i 12 = true := by
      by_cases q : bkIsW T c L i 12 = true
      · exact q
      · exact absurd (if_neg q) z
    rwa [if_pos (.inr (.inr (.inl z)))] at hQ
  have z12 : ¬ bkIsW T c L i 12 = true := fun q => z (by rw [if_pos q]; decide)
  rw [S28c h]
  refine ⟨rfl, fun z => ⟨.inl rfl, ?_⟩, fun z => ⟨.inr rfl, ?_⟩⟩
  · have z13 : ¬ bkIsW T c L i 13 = true := fun q => by rw [if_pos q] at z; exact absurd z (by decide)
    rwa [if_neg (by simp [z6, z7, z12, z13])] at hQ
  · have z : bkIsW T c L i 13 = true := by
      by_cases q : bkIsW T c L i 13 = true
      · exact q
      · exact absurd (if_neg q) z
    rwa [if_pos (.inr (.inr (.inr z)))] at hQ
