/-! The reference reads a PLAIN's lines. -/
def bkRdF (M : bk_M) (S : Int → Int) : Prop := (∀ j, 0 ≤ j → j < 80 → M 59 0 j = S j) ∧ (∀ k, 0 ≤ k → k < 5 → M 67 0 k = S (120 + k)) ∧ (∀ k, 0 ≤ k → k < 36 → M 68 0 k = S (130 + k)) ∧ M 12 0 26 = S 170 ∧ (∀ f, 0 ≤ f → f < S 0 → M 64 0 f = bkCv 7 (S (200 + f))) ∧ (∀ m, 0 ≤ m → m < S 1 → M 64 0 (10 + m) = bkCv 7 (S (210 + m)))
def bkFa (k a : Nat) : Prop := (k = 12 ∨ k = 59 ∨ k = 64 ∨ k = 67 ∨ k = 68) ∧ a = 0
def bkFp (M M' : bk_M) : Prop := bkFr bkFa M M' ∧ ∀ j, j ≠ 5 → j ≠ 6 → j ≠ 7 → j ≠ 8 → j ≠ 9 → j ≠ 10 → j ≠ 11 → j ≠ 12 → j ≠ 13 → j ≠ 26 → M' 12 0 j = M 12 0 j
theorem bkFp_o {M M' : bk_M} (h : bkRo M M') : bkFp M M' := ⟨bkFr_mono h.1 fun k a w => by unfold bkFa; omega, fun j q1 q2 q3 q4 q5 q6 q7 q8 q9 _ => h.2 j q1 q2 q3 q4 q5 q6 q7 q8 q9⟩
theorem bkFp_refl (M : bk_M) : bkFp M M := bkFp_o (bkRo_refl M)
theorem bkFp_trans {M M' M'' : bk_M} (h : bkFp M M') (h2 : bkFp M' M'') : bkFp M M'' := ⟨bkFr_trans h.1 h2.1, fun j q1 q2 q3 q4 q5 q6 q7 q8 q9 q10 => (h2.2 j q1 q2 q3 q4 q5 q6 q7 q8 q9 q10).trans (h.2 j q1 q2 q3 q4 q5 q6 q7 q8 q9 q10)⟩
theorem bkFp_up {M : bk_M} {k : Nat} {j v : Int} (h : bkFa k 0) (hk : k ≠ 12) : bkFp M (bk_up M k 0 j v) := ⟨bkFr_up (bkFr_refl _ _) h, fun j' _ _ _ _ _ _ _ _ _ _ => bk_up_k (by omega)⟩
theorem bkFp_26 {M : bk_M} {v : Int} : bkFp M (bk_up M 12 0 26 v) := ⟨bkFr_up (bkFr_refl _ _) ⟨.inl rfl, rfl⟩, fun j' _ _ _ _ _ _ _ _ _ q => bk_up_s q⟩
theorem bkRt_p {M M' : bk_M} {T : Int → Int} {c L : Int} (h : bkRt M T c L) (f : bkFp M M') : bkRt M' T c L := by
  obtain ⟨h1, h2, h3, h4⟩ := h
  exact ⟨(f.1 57 0 (by unfold bkFa; omega)).trans h1, (f.2 3 (by decide) (by decide) (by decide) (by decide) (by decide) (by decide) (by decide) (by decide) (by decide) (by decide)).trans h2, (f.2 4 (by decide) (by decide) (by decide) (by decide) (by decide) (by decide) (by decide) (by decide) (by decide) (by decide)).trans h3, h4⟩
theorem bkRdF_o {M M' : bk_M} {S : Int → Int} (h : bkRdF M S) (f : bkRo M M') : bkRdF M' S := by
  unfold bkRdF at *
  rw [f.1 59 0 (by omega), f.1 67 0 (by omega), f.1 68 0 (by omega), f.1 64 0 (by omega), f.2 26 (by decide) (by decide) (by decide) (by decide) (by decide) (by decide) (by decide) (by decide) (by decide)]
  exact h
theorem bkAtR_e {M M' : bk_M} {T : Int → Int} {c L i : Int} (h : bkAtR M T c L i) (e : M' 12 0 = M 12 0) : bkAtR M' T c L i := by
  unfold bkAtR at *
  rw [e]; exact h
/-- what a reader of the reference has done, its pure outcome being O -/
def bkQr (T : Int → Int) (c L : Int) (M : bk_M) (r : Int) (M' : bk_M) (O : (Int × Int) ⊕ (Int × (Int → Int))) : Prop := bkFp M M' ∧ (∀ w q, O = .inl (w, q) → r = 0 ∧ M' 12 0 10 = w ∧ M' 12 0 11 = q) ∧ (∀ i S, O = .inr (i, S) → r = 1 ∧ M' 12 0 10 = M 12 0 10 ∧ bkAtR M' T c L i ∧ bkRdF M' S)
theorem bkQr_l {T : Int → Int} {c L : Int} {M M' : bk_M} {r w q : Int} {O : (Int × Int) ⊕ (Int × (Int → Int))} (hO : O = .inl (w, q)) (f : bkFp M M') (hr : r = 0) (h6 : M' 12 0 10 = w) (h7 : M' 12 0 11 = q) : bkQr T c L M r M' O := by
  subst hO
  exact ⟨f, fun w q e => (by cases e; exact ⟨hr, h6, h7⟩), fun i S e => (by cases e)⟩
theorem bkQr_r {T : Int → Int} {c L : Int} {M M' : bk_M} {r i : Int} {S : Int → Int} {O : (Int × Int) ⊕ (Int × (Int → Int))} (hO : O = .inr (i, S)) (f : bkFp M M') (hr : r = 1) (h10 : M' 12 0 10 = M 12 0 10) (hA : bkAtR M' T c L i) (hR : bkRdF M' S) : bkQr T c L M r M' O := by
  subst hO
  exact ⟨f, fun w q e => (by cases e), fun i S e => (by cases e; exact ⟨hr, h10, hA, hR⟩)⟩
theorem bkQr_b {T : Int → Int} {c L : Int} {M M' : bk_M} {r : Int} {O : (Int × Int) ⊕ (Int × (Int → Int))} (h : bkQr T c L M r M' O) : r = 0 ∨ r = 1 := by
  rcases O with ⟨w, q⟩ | ⟨i, S⟩
  · exact .inl (h.2.1 w q rfl).1
  · exact .inr (h.2.2 i S rfl).1
theorem bk174 {d : Nat} {M : bk_M} {T : Int → Int} {c L i lo hi : Int} {Q : bk_Q} (h : bkRt M T c L) (hA : bkAtR M T c L i) (h0 : 0 ≤ i ∧ i ≤ c) (hl : ∀ w q M', bkNu T c L lo hi i = .inl (w, q) → bkRo M M' → M' 12 0 10 = w → M' 12 0 11 = q → Q 0 0 M') (hr : ∀ v M', bkNu T c L lo hi i = .inr v → bkRo M M' → M' 12 0 13 = v → M' 12 0 10 = M 12 0 10 → bkAtR M' T c L (bkTn T c L i) → Q 0 1 M') : bk_C (d + 3) 0 174 [bk_c 12 0, bk_i lo, bk_i hi] M Q := by
  refine bk_use (S174c h hA h0) (fun r M' hM' => ?_)
  obtain ⟨f, q1, q2⟩ := hM'
  rcases e : bkNu T c L lo hi i with ⟨w, q⟩ | v
  · obtain ⟨e0, e1, e2⟩ := q1 w q e; rw [e0]; exact hl w q M' e f e1 e2
  · obtain ⟨e0, e1, e2, e3⟩ := q2 v e; rw [e0]; exact hr v M' e f e1 e2 e3
theorem bk171 {d : Nat} {M : bk_M} {T : Int → Int} {c L i a : Int} {Q : bk_Q} (hA : bkAtR M T c L i) (hk : bkTk T c L i ≠ 1 ∨ a = 1) (hl : ∀ M', bkRo M M' → M' 12 0 10 = a → M' 12 0 11 = bkTf T c L i → Q 0 0 M') : bk_C (d + 1) 0 171 [bk_c 12 0, bk_i a] M Q := by
  refine bk_use (S171c hA) (fun r M' hM' => ?_)
  obtain ⟨e0, f, -, e1, e2⟩ := hM'
  rw [e0]
  refine hl M' f ?_ e2
  rw [e1]
  split
  · rcases hk with hk | hk
    · exact absurd ‹_› hk
    · exact hk.symm
  · rfl
theorem bk172 {d : Nat} {M : bk_M} {T : Int → Int} {c L i k : Int} {Q : bk_Q} (h : bkRt M T c L) (hA : bkAtR M T c L i) (h0 : 0 ≤ i ∧ i ≤ c) (ht : bkTk T c L i ≠ 1) (hk : 0 ≤ k ∧ k < 5) (hl : M 67 0 k ≠ 0 → ∀ M', bkRo M M' → M' 12 0 10 = 3 → M' 12 0 11 = bkTf T c L i → Q 0 0 M') (hr : M 67 0 k = 0 → ∀ M', bkRo (bk_up M 67 0 k 1) M' → M' 12 0 10 = M 12 0 10 → bkAtR M' T c L (bkTn T c L i) → Q 0 1 M') : bk_C (d + 3) 0 172 [bk_c 12 0, bk_i k] M Q := by
  have hn := @bkTn_b T c L i h0.2
  rw [E_172]
  refine ⟨hk, fun z => ⟨hk, .inr rfl, fun M1 e1 => ?_⟩, fun z => bk171 hA (.inl ht) (fun M' f e1 e2 => ⟨rfl, .inl rfl, hl z M' f e1 e2⟩)⟩
  have f1 : bkFp M M1 := by rw [e1]; exact bkFp_up (by unfold bkFa; omega) (by decide)
  refine bk_use (S162c (bkRt_p h f1) (i := bkTn T c L i) (by rw [e1, bk_up_k (by decide)]; exact hA.2.2.2.1) (by omega)) (fun r M' hM' => ⟨rfl, .inr rfl, ?_⟩)
  obtain ⟨f, ⟨k10, -⟩, a6⟩ := hM'
  rw [e1] at f
  exact hr z M' f (by rw [k10, e1, bk_up_k (by decide)]) a6
theorem bkRdF_v {M : bk_M} {S : Int → Int} {k v : Int} (h : bkRdF M S) (hk : 2 ≤ k ∧ k < 80) : bkRdF (bk_up M 59 0 k v) (bkPut S k v) := by
  obtain ⟨h1, h2, h3, h4, h5, h6⟩ := h
  have P : ∀ j, j ≠ k → bkPut S k v j = S j := fun j q => bkPut_o q
  unfold bkRdF
  rw [P 0 (by omega), P 1 (by omega), P 170 (by omega), bk_up_f (k' := 67) (by decide), bk_up_f (k' := 68) (by decide), bk_up_f (k' := 12) (by decide), bk_up_f (k' := 64) (by decide)]
  refine ⟨fun j j0 j1 => ?_, fun j j0 j1 => by rw [P (120 + j) (by omega)]; exact h2 j j0 j1, fun j j0 j1 => by rw [P (130 + j) (by omega)]; exact h3 j j0 j1, h4, fun f f0 f1 => ?_, fun f f0 f1 => ?_⟩
  · rw [bk_up_w]
    by_cases w : j = k
    · rw [if_pos w, w, bkPut_e]
    · rw [if_neg w, P j w]; exact h1 j j0 j1
  · rw [P (200 + f) (by omega)]; exact h5 f f0 f1
  · rw [P (210 + f) (by omega)]; exact h6 f f0 f1
theorem bkRdF_1 {M : bk_M} {S : Int → Int} {k : Int} (h : bkRdF M S) (hk : 0 ≤ k ∧ k < 5) : bkRdF (bk_up M 67 0 k 1) (bkPut S (120 + k) 1) := by
  obtain ⟨h1, h2, h3, h4, h5, h6⟩ := h
  have P : ∀ j, j ≠ 120 + k → bkPut S (120 + k) 1 j = S j := fun j q => bkPut_o q
  unfold bkRdF
  rw [P 0 (by omega), P 1 (by omega), P 170 (by omega), bk_up_f (k' := 59) (by decide), bk_up_f (k' := 68) (by decide), bk_up_f (k' := 12) (by decide), bk_up_f (k' := 64) (by decide)]
  refine ⟨fun j j0 j1 => by rw [P j (by omega)]; exact h1 j j0 j1, fun j j0 j1 => ?_, fun j j0 j1 => by rw [P (130 + j) (by omega)]; exact h3 j j0 j1, h4, fun f f0 f1 => ?_, fun f f0 f1 => ?_⟩
  · rw [bk_up_w]
    by_cases w : j = k
    · rw [if_pos w, w, bkPut_e]
    · rw [if_neg w, P (120 + j) (by omega)]; exact h2 j j0 j1
  · rw [P (200 + f) (by omega)]; exact h5 f f0 f1
  · rw [P (210 + f) (by omega)]; exact h6 f f0 f1
theorem bkRdF_c {M : bk_M} {S : Int → Int} (h : bkRdF M S) : bkRdF (bk_up M 12 0 26 1) (bkPut S 170 1) := by
  obtain ⟨h1, h2, h3, h4, h5, h6⟩ := h
  have P : ∀ j, j ≠ 170 → bkPut S 170 1 j = S j := fun j q => bkPut_o q
  unfold bkRdF
  rw [P 0 (by omega), P 1 (by omega), bkPut_e, bk_up_f (k' := 59) (by decide), bk_up_f (k' := 67) (by decide), bk_up_f (k' := 68) (by decide), bk_up_f (k' := 64) (by decide), bk_up_e]
  exact ⟨fun j j0 j1 => by rw [P j (by omega)]; exact h1 j j0 j1, fun j j0 j1 => by rw [P (120 + j) (by omega)]; exact h2 j j0 j1, fun j j0 j1 => by rw [P (130 + j) (by omega)]; exact h3 j j0 j1, rfl, fun f f0 f1 => by rw [P (200 + f) (by omega)]; exact h5 f f0 f1, fun f f0 f1 => by rw [P (210 + f) (by omega)]; exact h6 f f0 f1⟩
theorem bkRdF_l {M : bk_M} {S : Int → Int} {k : Int} (h : bkRdF M S) (hk : 0 ≤ k ∧ k < 36) (h0 : S 0 ≤ 10) : bkRdF (bk_up M 68 0 k 1) (bkPut S (130 + k) 1) := by
  obtain ⟨h1, h2, h3, h4, h5, h6⟩ := h
  have P : ∀ j, j ≠ 130 + k → bkPut S (130 + k) 1 j = S j := fun j q => bkPut_o q
  unfold bkRdF
  rw [P 0 (by omega), P 1 (by omega), P 170 (by omega), bk_up_f (k' := 59) (by decide), bk_up_f (k' := 67) (by decide), bk_up_f (k' := 12) (by decide), bk_up_f (k' := 64) (by decide)]
  refine ⟨fun j j0 j1 => by rw [P j (by omega)]; exact h1 j j0 j1, fun j j0 j1 => by rw [P (120 + j) (by omega)]; exact h2 j j0 j1, fun j j0 j1 => ?_, h4, fun f f0 f1 => ?_, fun f f0 f1 => ?_⟩
  · rw [bk_up_w]
    by_cases w : j = k
    · rw [if_pos w, w, bkPut_e]
    · rw [if_neg w, P (130 + j) (by omega)]; exact h3 j j0 j1
  · rw [P (200 + f) (by omega)]; exact h5 f f0 f1
  · rw [P (210 + f) (by omega)]; exact h6 f f0 f1
theorem S170c {d : Nat} {M : bk_M} {T : Int → Int} {c L i : Int} {S : Int → Int} (h : bkRt M T c L) (hA : bkAtR M T c L i) (h0 : 0 ≤ i ∧ i ≤ c) (ht : bkTk T c L i ≠ 1) (hS : bkSv S) (hR : bkRdF M S) : bk_C (d + 5) 0 170 [bk_c 12 0] M (fun t r M' => t = 0 ∧ bkQr T c L M r M' (bkLSize T c L S (bkTn T c L i) (bkTf T c L i))) := by
  have hn := @bkTn_b T c L i h0.2
  have hn2 := @bkTn_b T c L (bkTn T c L i) hn.2
  have fl := hS.2.2.2.2.2.2.1
  have g120 := fl 120 (by omega) (by omega)
  have g170 := fl 170 (by omega) (by omega)
  have r120 : M 67 0 0 = S 120 := hR.2.1 0 (by omega) (by omega)
  rw [E_170, hR.2.2.2.1]
  refine ⟨fun z => ?_, fun z => bk171 hA (.inl ht) (fun M' f e1 e2 => ⟨rfl, .inl rfl, rfl, bkQr_l (by unfold bkLSize; rw [if_pos (by omega)]) (bkFp_o f) rfl e1 e2⟩)⟩
  refine bk172 h hA h0 ht (by omega) (fun z2 M' f e1 e2 => ⟨rfl, fun _ => ⟨.inl rfl, rfl, bkQr_l (by unfold bkLSize; rw [if_pos (by omega)]) (bkFp_o f) rfl e1 e2⟩, fun w => absurd rfl w⟩) (fun z2 M2 f2 k2 a2 => ⟨rfl, fun w => absurd w (by decide), fun _ => ?_⟩)
  have F2 : bkFp M M2 := bkFp_trans (bkFp_up (by unfold bkFa; omega) (by decide)) (bkFp_o f2)
  have R2 : bkRdF M2 (bkPut S 120 1) := bkRdF_o (bkRdF_1 hR (by omega)) f2
  have no : ¬ (S 170 = 1 ∨ S 120 = 1) := by omega
  rw [E_173]
  refine bk174 (bkRt_p h F2) a2 (by omega) (fun w q M' e f e1 e2 => ⟨rfl, .inl rfl, ?_⟩) (fun v M5 e f5 e13 e10 a5 => ⟨rfl, .inr rfl, ?_⟩)
  · refine ⟨rfl, ?_⟩
    rw [E_175]
    refine ⟨fun _ => ⟨.inl rfl, rfl, fun _ => ⟨.inl rfl, rfl, bkQr_l (by unfold bkLSize; rw [if_neg no, e]) (bkFp_trans F2 (bkFp_o f)) rfl e1 e2⟩, fun w => absurd rfl w⟩, fun w => absurd rfl w⟩
  · refine ⟨rfl, ?_⟩
    rw [E_175]
    refine ⟨fun w => absurd w (by decide), fun _ => ⟨by omega, fun M8 e8 => ⟨.inr rfl, rfl, fun w => absurd w (by decide), fun _ => ?_⟩⟩⟩
    rw [e13] at e8
    have F8 : bkFp M M8 := by rw [e8]; exact bkFp_trans (bkFp_trans F2 (bkFp_o f5)) (bkFp_up (by unfold bkFa; omega) (by decide))
    have R8 : bkRdF M8 (bkPut (bkPut S 120 1) 2 v) := by rw [e8]; exact bkRdF_v (bkRdF_o R2 f5) (by omega)
    have A8 : bkAtR M8 T c L (bkTn T c L (bkTn T c L i)) := bkAtR_e a5 (by rw [e8, bk_up_f (by decide)])
    have k8 : M8 12 0 10 = M 12 0 10 := by rw [e8, bk_up_k (by decide), e10, k2]
    rw [E_173]
    refine bk174 (bkRt_p h F8) A8 (by omega) (fun w q M' e' f e1 e2 => ⟨rfl, .inl rfl, ?_⟩) (fun v' M11 e' f11 e13' e10' a11 => ⟨rfl, .inr rfl, ?_⟩)
    · refine ⟨rfl, ?_⟩
      rw [E_175]
      refine ⟨fun _ => ⟨.inl rfl, rfl, fun _ => ⟨.inl rfl, rfl, bkQr_l (by unfold bkLSize; rw [if_neg no, e]; dsimp only; rw [e']) (bkFp_trans F8 (bkFp_o f)) rfl e1 e2⟩, fun w => absurd rfl w⟩, fun w => absurd rfl w⟩
    · refine ⟨rfl, ?_⟩
      rw [E_175]
      refine ⟨fun w => absurd w (by decide), fun _ => ⟨by omega, fun M14 e14 => ⟨.inr rfl, rfl, fun w => absurd w (by decide), fun _ => ⟨.inr rfl, rfl, ?_⟩⟩⟩⟩
      rw [e13'] at e14
      refine bkQr_r (by unfold bkLSize; rw [if_neg no, e]; dsimp only; rw [e']) (by rw [e14]; exact bkFp_trans (bkFp_trans F8 (bkFp_o f11)) (bkFp_up (by unfold bkFa; omega) (by decide))) rfl (by rw [e14, bk_up_k (by decide), e10', k8]) (bkAtR_e a11 (by rw [e14, bk_up_f (by decide)])) (by rw [e14]; exact bkRdF_v (bkRdF_o R8 f11) (by omega))
