/-! The reference reads a SENTENCE. -/
def bkNc (w : Int) : Int := if w = 16 then 1 else if w = 15 then 2 else if w = 14 then 3 else 50 + bkWn w.toNat
def bkSnR (M : bk_M) (S : Int → Int) : Prop := M 12 0 55 = S 1 ∧ M 12 0 56 = S 0 ∧ ∀ k, 0 ≤ k → k < S 1 → M 85 0 (4 * k) = bkNc (S (10 + 4 * k)) ∧ M 85 0 (4 * k + 1) = S (11 + 4 * k) ∧ M 85 0 (4 * k + 2) = S (12 + 4 * k) ∧ M 85 0 (4 * k + 3) = S (13 + 4 * k)
def bkSq (M M' : bk_M) : Prop := bkFr (fun k a => (k = 12 ∨ k = 85) ∧ a = 0) M M' ∧ ∀ j, j ≠ 5 → j ≠ 6 → j ≠ 7 → j ≠ 8 → j ≠ 9 → j ≠ 10 → j ≠ 11 → j ≠ 12 → j ≠ 13 → j ≠ 55 → j ≠ 56 → j ≠ 57 → j ≠ 58 → M' 12 0 j = M 12 0 j
theorem bkSq_o {M M' : bk_M} (h : bkRo M M') : bkSq M M' := ⟨bkFr_mono h.1 fun k a w => ⟨.inl w.1, w.2⟩, fun j q1 q2 q3 q4 q5 q6 q7 q8 q9 _ _ _ _ => h.2 j q1 q2 q3 q4 q5 q6 q7 q8 q9⟩
theorem bkSq_refl (M : bk_M) : bkSq M M := bkSq_o (bkRo_refl M)
theorem bkSq_trans {M M' M'' : bk_M} (h : bkSq M M') (h2 : bkSq M' M'') : bkSq M M'' := ⟨bkFr_trans h.1 h2.1, fun j q1 q2 q3 q4 q5 q6 q7 q8 q9 p1 p2 p3 p4 => (h2.2 j q1 q2 q3 q4 q5 q6 q7 q8 q9 p1 p2 p3 p4).trans (h.2 j q1 q2 q3 q4 q5 q6 q7 q8 q9 p1 p2 p3 p4)⟩
theorem bkSq_up {M : bk_M} {j v : Int} (hj : 55 ≤ j ∧ j ≤ 58) : bkSq M (bk_up M 12 0 j v) := ⟨bkFr_up (bkFr_refl _ _) ⟨.inl rfl, rfl⟩, fun j' _ _ _ _ _ _ _ _ _ _ _ _ _ => bk_up_s (by omega)⟩
theorem bkRt_sq {M M' : bk_M} {T : Int → Int} {c L : Int} (h : bkRt M T c L) (f : bkSq M M') : bkRt M' T c L := by
  obtain ⟨h1, h2, h3, h4⟩ := h
  exact ⟨(f.1 57 0 (by omega)).trans h1, (f.2 3 (by decide) (by decide) (by decide) (by decide) (by decide) (by decide) (by decide) (by decide) (by decide) (by decide) (by decide) (by decide) (by decide)).trans h2, (f.2 4 (by decide) (by decide) (by decide) (by decide) (by decide) (by decide) (by decide) (by decide) (by decide) (by decide) (by decide) (by decide) (by decide)).trans h3, h4⟩
theorem bkAtR_sq {M M' : bk_M} {T : Int → Int} {c L i : Int} (h : bkAtR M T c L i) (o : ∀ j, j < 50 → M' 12 0 j = M 12 0 j) : bkAtR M' T c L i := by
  unfold bkAtR at *
  rw [o 7 (by decide), o 9 (by decide), o 6 (by decide), o 5 (by decide), o 12 (by decide), o 8 (by decide)]
  exact h
theorem bkSnR_o {M M' : bk_M} {S : Int → Int} (h : bkSnR M S) (f : bkRo M M') : bkSnR M' S := by
  unfold bkSnR at *
  rw [f.2 55 (by decide) (by decide) (by decide) (by decide) (by decide) (by decide) (by decide) (by decide) (by decide), f.2 56 (by decide) (by decide) (by decide) (by decide) (by decide) (by decide) (by decide) (by decide) (by decide), f.1 85 0 (by omega)]
  exact h
theorem bkRo_j {M M' : bk_M} (f : bkRo M M') {j : Int} (hj : 14 ≤ j) : M' 12 0 j = M 12 0 j := f.2 j (by omega) (by omega) (by omega) (by omega) (by omega) (by omega) (by omega) (by omega) (by omega)
theorem S274c {d : Nat} {M : bk_M} {S : Int → Int} {w w' a b r : Int} (h : bkSnR M S) (hn : 0 ≤ S 1 ∧ S 1 < 60) (hw : w' = bkNc w) : bk_C (d + 1) 0 274 [bk_c 12 0, bk_i w', bk_i a, bk_i b, bk_i r] M (fun t r' M' => t = 0 ∧ r' = S 1 ∧ bkSq M M' ∧ (∀ j, j ≠ 55 → M' 12 0 j = M 12 0 j) ∧ bkSnR M' (bkNp S w a b r)) := by
  obtain ⟨k1, k2, k3⟩ := h
  obtain ⟨v0, v1, v2, v3, v4, v5, v6⟩ := @bkNp_v S w a b r hn.1
  rw [E_274, k1]
  refine ⟨by unfold bk_r32; omega, by omega, fun M1 e1 => ⟨by unfold bk_r32; omega, by omega, fun M2 e2 => ⟨by unfold bk_r32; omega, by omega, fun M3 e3 => ⟨by unfold bk_r32; omega, by omega, fun M4 e4 => ?_⟩⟩⟩⟩
  have t4 : M4 12 0 = M 12 0 := by rw [e4, e3, e2, e1, bk_up_f (by decide), bk_up_f (by decide), bk_up_f (by decide), bk_up_f (by decide)]
  rw [t4, k1]
  refine ⟨by unfold bk_r32; omega, fun M5 e5 => ?_⟩
  rw [show M5 12 0 55 = S 1 + 1 by rw [e5, bk_up_e]]
  have u85 : ∀ j, M5 85 0 j = if j = 4 * S 1 + 3 then r else if j = 4 * S 1 + 2 then b else if j = 4 * S 1 + 1 then a else if j = 4 * S 1 then w' else M 85 0 j := fun j => by rw [e5, bk_up_k (by decide), e4, bk_up_w, e3, bk_up_w, e2, bk_up_w, e1, bk_up_w]
  refine ⟨by unfold bk_r32; omega, rfl, by omega, ⟨?_, fun j _ _ _ _ _ _ _ _ _ q _ _ _ => by rw [e5, bk_up_s q, t4]⟩, fun j q => by rw [e5, bk_up_s q, t4], by rw [e5, bk_up_e, v1], by rw [e5, bk_up_s (by decide), t4, k2, v0], fun k k0 k1' => ?_⟩
  · rw [e5, e4, e3, e2, e1]
    exact bkFr_up (bkFr_up (bkFr_up (bkFr_up (bkFr_up (bkFr_refl _ _) ⟨.inr rfl, rfl⟩) ⟨.inr rfl, rfl⟩) ⟨.inr rfl, rfl⟩) ⟨.inr rfl, rfl⟩) ⟨.inl rfl, rfl⟩
  rw [v1] at k1'
  rw [u85, u85, u85, u85]
  by_cases z : k = S 1
  · subst z
    rw [v2, v3, v4, v5, ← hw]
    refine ⟨?_, ?_, ?_, ?_⟩ <;> ((repeat' split) <;> first | rfl | (exfalso; omega))
  · rw [v6 _ (by omega) (by omega), v6 _ (by omega) (by omega), v6 _ (by omega) (by omega), v6 _ (by omega) (by omega)]
    rw [if_neg (show ¬ 4 * k = 4 * S 1 + 3 by omega), if_neg (show ¬ 4 * k = 4 * S 1 + 2 by omega), if_neg (show ¬ 4 * k = 4 * S 1 + 1 by omega), if_neg (show ¬ 4 * k = 4 * S 1 by omega)]
    rw [if_neg (show ¬ 4 * k + 1 = 4 * S 1 + 3 by omega), if_neg (show ¬ 4 * k + 1 = 4 * S 1 + 2 by omega), if_neg (show ¬ 4 * k + 1 = 4 * S 1 + 1 by omega), if_neg (show ¬ 4 * k + 1 = 4 * S 1 by omega)]
    rw [if_neg (show ¬ 4 * k + 2 = 4 * S 1 + 3 by omega), if_neg (show ¬ 4 * k + 2 = 4 * S 1 + 2 by omega), if_neg (show ¬ 4 * k + 2 = 4 * S 1 + 1 by omega), if_neg (show ¬ 4 * k + 2 = 4 * S 1 by omega)]
    rw [if_neg (show ¬ 4 * k + 3 = 4 * S 1 + 3 by omega), if_neg (show ¬ 4 * k + 3 = 4 * S 1 + 2 by omega), if_neg (show ¬ 4 * k + 3 = 4 * S 1 + 1 by omega), if_neg (show ¬ 4 * k + 3 = 4 * S 1 by omega)]
    exact k3 k k0 (by omega)
/-- what a reader of the reference has done -/
def bkSR' (T : Int → Int) (c L : Int) (M : bk_M) (r : Int) (M' : bk_M) (O : (Int × Int) ⊕ (Int × (Int → Int))) : Prop := bkSq M M' ∧ M' 12 0 57 = M 12 0 57 ∧ (∀ w q, O = .inl (w, q) → r = 0 ∧ M' 12 0 10 = w ∧ M' 12 0 11 = q) ∧ (∀ j S, O = .inr (j, S) → r = 1 ∧ M' 12 0 10 = M 12 0 10 ∧ bkAtR M' T c L j ∧ bkSnR M' S ∧ M' 12 0 58 = S 1 - 1)
theorem bkSR'_l {T : Int → Int} {c L : Int} {M M' : bk_M} {r w q : Int} {O : (Int × Int) ⊕ (Int × (Int → Int))} (hO : O = .inl (w, q)) (f : bkSq M M') (h57 : M' 12 0 57 = M 12 0 57) (hr : r = 0) (h6 : M' 12 0 10 = w) (h7 : M' 12 0 11 = q) : (r = 0 ∨ r = 1) ∧ (0 : Nat) = 0 ∧ bkSR' T c L M r M' O := by
  subst hO
  exact ⟨.inl hr, rfl, f, h57, fun w q e => (by cases e; exact ⟨hr, h6, h7⟩), fun i S e => (by cases e)⟩
theorem bkSR'_r {T : Int → Int} {c L : Int} {M M' : bk_M} {r j : Int} {S : Int → Int} {O : (Int × Int) ⊕ (Int × (Int → Int))} (hO : O = .inr (j, S)) (f : bkSq M M') (h57 : M' 12 0 57 = M 12 0 57) (hr : r = 1) (h10 : M' 12 0 10 = M 12 0 10) (hA : bkAtR M' T c L j) (hR : bkSnR M' S) (h58 : M' 12 0 58 = S 1 - 1) : (r = 0 ∨ r = 1) ∧ (0 : Nat) = 0 ∧ bkSR' T c L M r M' O := by
  subst hO
  exact ⟨.inr hr, rfl, f, h57, fun w q e => (by cases e), fun i S e => (by cases e; exact ⟨hr, h10, hA, hR, h58⟩)⟩
def bkNmF (M : bk_M) (f : Int → Int) (m : Nat) : Prop := (∀ j : Nat, j < m → bkNv (f j) ∧ M 63 0 (0 + j) = bkCv 7 (f j)) ∧ M 58 0 0 = m
theorem bkNmF_e {M M' : bk_M} {f : Int → Int} {m : Nat} (h : bkNmF M f m) (e : bkSq M M') : bkNmF M' f m := by
  unfold bkNmF at *
  rw [e.1 63 0 (by omega), e.1 58 0 (by omega)]
  exact h
/-- method μ of the reference is the reader rd -/
def bkRR (f : Int → Int) (m : Nat) (T : Int → Int) (c L : Int) (D μ : Nat) (wi : Int) (rd : (Int → Int) → Int → (Int × Int) ⊕ (Int × (Int → Int))) : Prop := ∀ (d : Nat) (M : bk_M) (S : Int → Int) (i : Int), bkRt M T c L → bkAtR M T c L i → bkSH c S i → bkSnR M S → M 12 0 57 = wi → bkNmF M f m → bk_C (d + D + 4) 0 μ [bk_c 12 0] M (fun t r M' => t = 0 ∧ bkSR' T c L M r M' (rd S i))
theorem bkRR_270 {f : Int → Int} {m : Nat} {T : Int → Int} {c L : Int} {D : Nat} {wi : Int} {rd : (Int → Int) → Int → (Int × Int) ⊕ (Int × (Int → Int))} (h : bkRR f m T c L D 271 wi rd) (hg : bkSG m c rd) : bkRR f m T c L (D + 1) 270 wi (bkSSeq T c L rd 15) := by
  intro d M S i hC hA hH hS h57 hf
  show bk_C (d + D + 4 + 1) 0 270 _ _ _
  rw [E_270]
  refine bk_use (h d M S i hC hA hH hS h57 hf) (fun r M2 hM2 => ⟨rfl, ?_⟩)
  obtain ⟨F2, i2, g1, g2⟩ := hM2
  generalize hO : bkSSeq T c L rd 15 S i = O
  unfold bkSSeq at hO
  rcases e : rd S i with ⟨w, q⟩ | ⟨j, S'⟩
  · rw [e] at hO
    obtain ⟨a1, a2, a3⟩ := g1 w q e
    exact ⟨fun z => absurd a1 z, fun _ => bkSR'_l hO.symm F2 i2 rfl a2 a3⟩
  · rw [e] at hO
    obtain ⟨a1, a2, a3, a4, a5⟩ := g2 j S' e
    have hI := (hg S i hH).2 j S' e
    refine ⟨fun _ => ?_, fun z => absurd (show r ≠ 0 by omega) z⟩
    rw [a5]
    have key : ∀ (n k : Nat) (S' : Int → Int) (j : Int) (M' : bk_M), n + k = 30 → bkSI m c S i S' j → (k : Int) + 1 ≤ S' 0 → bkSq M M' → M' 12 0 57 = M 12 0 57 → bkAtR M' T c L j → M' 12 0 10 = M 12 0 10 → bkSnR M' S' → bkSLp T c L rd 15 n S' j = O → bk_wp (bk_C (d + D + 4)) P_270 (fun t r M' => t = 0 ∧ bkSR' T c L M r M' O) 0 14 [bk_c 12 0, bk_i (S' 1 - 1)] [] M' := by
      intro n
      induction n with
      | zero => intro k S' j M' hk hI hk2; have := hI.2.2.2.1; omega
      | succ n ih =>
        intro k S' j M' hk hI hk2 F i' A h6 hS' hO
        have hH' := bkSI_h hI hH
        have hn := @bkTn_b T c L j hH'.2.1
        have j0 := hH'.1
        have C' := bkRt_sq hC F
        rw [bkSLp_s] at hO
        rw [L_270_14]
        refine (S167d (w := 15) (b := 15) (a := 13) A (by decide) rfl rfl).2 ⟨rfl, fun z M4 e4 => ?_, fun z => ?_⟩
        · have z : ¬ bkIsW T c L j 15 = true := fun q => by rw [if_pos q] at z; exact absurd z (by decide)
          rw [if_neg z] at hO
          have o4 : ∀ q, q ≠ 58 → M4 12 0 q = M' 12 0 q := fun q hq => by rw [e4, bk_up_s hq]
          refine ⟨.inr rfl, (bkSR'_r hO.symm (bkSq_trans F (by rw [e4]; exact bkSq_up (by omega))) (by rw [o4 57 (by decide)]; exact i') rfl (by rw [o4 10 (by decide)]; exact h6) (bkAtR_sq A fun q hq => o4 q (by omega)) ?_ (by rw [e4, bk_up_e])).2⟩
          unfold bkSnR
          rw [o4 55 (by decide), o4 56 (by decide), e4, bk_up_f (by decide)]
          exact hS'
        · have z : bkIsW T c L j 15 = true := by
            by_cases q : bkIsW T c L j 15 = true
            · exact q
            · exact absurd (if_neg q) z
          rw [if_pos z] at hO
          refine bk_use (S162c (i := bkTn T c L j) C' A.2.2.2.1 (by omega)) (fun r5 M5 hM5 => ⟨rfl, ?_⟩)
          obtain ⟨f5, ⟨k10, -⟩, A5⟩ := hM5
          have F5 := bkSq_trans F (bkSq_o f5)
          have i5 : M5 12 0 57 = M 12 0 57 := by rw [bkRo_j f5 (by decide), i']
          have hH5 := bkSH_n (T := T) (L := L) hH'
          refine bk_use (h d M5 S' _ (bkRt_sq hC F5) A5 hH5 (bkSnR_o hS' f5) (by rw [i5]; exact h57) (bkNmF_e hf F5)) (fun r8 M8 hM8 => ⟨rfl, ?_⟩)
          obtain ⟨F8, i8, b1, b2⟩ := hM8
          rcases e2 : rd S' (bkTn T c L j) with ⟨w, q⟩ | ⟨j2, S2⟩
          · rw [e2] at hO
            obtain ⟨a1, a2, a3⟩ := b1 w q e2
            exact ⟨fun z => absurd a1 z, fun _ => bkSR'_l hO.symm (bkSq_trans F5 F8) (i8.trans i5) rfl a2 a3⟩
          · rw [e2] at hO
            obtain ⟨a1, a2, a3, a4, a5⟩ := b2 j2 S2 e2
            have hI2 := (hg S' _ hH5).2 j2 S2 e2
            have hI3 := bkSI_two hH hI hn.1 hI2 (.inr rfl)
            have q1 := hI2.2.2.1
            have q2 := hI2.2.2.2.1
            have q3 := hI2.2.2.2.2.1
            have q4 := hI2.2.2.2.2.2.1
            have q5 := hH'.2.2.2.2
            have v := (@bkNp_v S2 15 (S' 1 - 1) (S2 1 - 1) 0 (by omega))
            rw [a5]
            refine ⟨fun _ => bk_use (S274c (w := 15) a4 (by omega) rfl) (fun r11 M11 hM11 => ⟨rfl, ?_⟩), fun z => absurd (show r8 ≠ 0 by omega) z⟩
            obtain ⟨er, f11, o11, s11⟩ := hM11
            have := ih (k + 1) _ j2 M11 (by omega) hI3 (by rw [v.1]; omega) (bkSq_trans F5 (bkSq_trans F8 f11)) (by rw [o11 57 (by decide), i8, i5]) (bkAtR_sq a3 fun q hq => o11 q (by omega)) (by rw [o11 10 (by decide), a2, k10, h6]) s11 hO
            rw [v.2.1] at this
            rwa [show S2 1 + 1 - 1 = r11 by omega] at this
    exact key 30 0 S' j M2 rfl hI (by have := hI.2.2.1; have := hH.2.2.1; omega) F2 i2 a3 a2 a4 hO
theorem bkRR_269 {f : Int → Int} {m : Nat} {T : Int → Int} {c L : Int} {D : Nat} {wi : Int} {rd : (Int → Int) → Int → (Int × Int) ⊕ (Int × (Int → Int))} (h : bkRR f m T c L D 270 wi rd) (hg : bkSG m c rd) : bkRR f m T c L (D + 1) 269 wi (bkSSeq T c L rd 14) := by
  intro d M S i hC hA hH hS h57 hf
  show bk_C (d + D + 4 + 1) 0 269 _ _ _
  rw [E_269]
  refine bk_use (h d M S i hC hA hH hS h57 hf) (fun r M2 hM2 => ⟨rfl, ?_⟩)
  obtain ⟨F2, i2, g1, g2⟩ := hM2
  generalize hO : bkSSeq T c L rd 14 S i = O
  unfold bkSSeq at hO
  rcases e : rd S i with ⟨w, q⟩ | ⟨j, S'⟩
  · rw [e] at hO
    obtain ⟨a1, a2, a3⟩ := g1 w q e
    exact ⟨fun z => absurd a1 z, fun _ => bkSR'_l hO.symm F2 i2 rfl a2 a3⟩
  · rw [e] at hO
    obtain ⟨a1, a2, a3, a4, a5⟩ := g2 j S' e
    have hI := (hg S i hH).2 j S' e
    refine ⟨fun _ => ?_, fun z => absurd (show r ≠ 0 by omega) z⟩
    rw [a5]
    have key : ∀ (n k : Nat) (S' : Int → Int) (j : Int) (M' : bk_M), n + k = 30 → bkSI m c S i S' j → (k : Int) + 1 ≤ S' 0 → bkSq M M' → M' 12 0 57 = M 12 0 57 → bkAtR M' T c L j → M' 12 0 10 = M 12 0 10 → bkSnR M' S' → bkSLp T c L rd 14 n S' j = O → bk_wp (bk_C (d + D + 4)) P_269 (fun t r M' => t = 0 ∧ bkSR' T c L M r M' O) 0 14 [bk_c 12 0, bk_i (S' 1 - 1)] [] M' := by
      intro n
      induction n with
      | zero => intro k S' j M' hk hI hk2; have := hI.2.2.2.1; omega
      | succ n ih =>
        intro k S' j M' hk hI hk2 F i' A h6 hS' hO
        have hH' := bkSI_h hI hH
        have hn := @bkTn_b T c L j hH'.2.1
        have j0 := hH'.1
        have C' := bkRt_sq hC F
        rw [bkSLp_s] at hO
        rw [L_269_14]
        refine (S167d (w := 14) (b := 14) (a := 12) A (by decide) rfl rfl).2 ⟨rfl, fun z M4 e4 => ?_, fun z => ?_⟩
        · have z : ¬ bkIsW T c L j 14 = true := fun q => by rw [if_pos q] at z; exact absurd z (by decide)
          rw [if_neg z] at hO
          have o4 : ∀ q, q ≠ 58 → M4 12 0 q = M' 12 0 q := fun q hq => by rw [e4, bk_up_s hq]
          refine ⟨.inr rfl, (bkSR'_r hO.symm (bkSq_trans F (by rw [e4]; exact bkSq_up (by omega))) (by rw [o4 57 (by decide)]; exact i') rfl (by rw [o4 10 (by decide)]; exact h6) (bkAtR_sq A fun q hq => o4 q (by omega)) ?_ (by rw [e4, bk_up_e])).2⟩
          unfold bkSnR
          rw [o4 55 (by decide), o4 56 (by decide), e4, bk_up_f (by decide)]
          exact hS'
        · have z : bkIsW T c L j 14 = true := by
            by_cases q : bkIsW T c L j 14 = true
            · exact q
            · exact absurd (if_neg q) z
          rw [if_pos z] at hO
          refine bk_use (S162c (i := bkTn T c L j) C' A.2.2.2.1 (by omega)) (fun r5 M5 hM5 => ⟨rfl, ?_⟩)
          obtain ⟨f5, ⟨k10, -⟩, A5⟩ := hM5
          have F5 := bkSq_trans F (bkSq_o f5)
          have i5 : M5 12 0 57 = M 12 0 57 := by rw [bkRo_j f5 (by decide), i']
          have hH5 := bkSH_n (T := T) (L := L) hH'
          refine bk_use (h d M5 S' _ (bkRt_sq hC F5) A5 hH5 (bkSnR_o hS' f5) (by rw [i5]; exact h57) (bkNmF_e hf F5)) (fun r8 M8 hM8 => ⟨rfl, ?_⟩)
          obtain ⟨F8, i8, b1, b2⟩ := hM8
          rcases e2 : rd S' (bkTn T c L j) with ⟨w, q⟩ | ⟨j2, S2⟩
          · rw [e2] at hO
            obtain ⟨a1, a2, a3⟩ := b1 w q e2
            exact ⟨fun z => absurd a1 z, fun _ => bkSR'_l hO.symm (bkSq_trans F5 F8) (i8.trans i5) rfl a2 a3⟩
          · rw [e2] at hO
            obtain ⟨a1, a2, a3, a4, a5⟩ := b2 j2 S2 e2
            have hI2 := (hg S' _ hH5).2 j2 S2 e2
            have hI3 := bkSI_two hH hI hn.1 hI2 (.inl rfl)
            have q1 := hI2.2.2.1
            have q2 := hI2.2.2.2.1
            have q3 := hI2.2.2.2.2.1
            have q4 := hI2.2.2.2.2.2.1
            have q5 := hH'.2.2.2.2
            have v := (@bkNp_v S2 14 (S' 1 - 1) (S2 1 - 1) 0 (by omega))
            rw [a5]
            refine ⟨fun _ => bk_use (S274c (w := 14) a4 (by omega) rfl) (fun r11 M11 hM11 => ⟨rfl, ?_⟩), fun z => absurd (show r8 ≠ 0 by omega) z⟩
            obtain ⟨er, f11, o11, s11⟩ := hM11
            have := ih (k + 1) _ j2 M11 (by omega) hI3 (by rw [v.1]; omega) (bkSq_trans F5 (bkSq_trans F8 f11)) (by rw [o11 57 (by decide), i8, i5]) (bkAtR_sq a3 fun q hq => o11 q (by omega)) (by rw [o11 10 (by decide), a2, k10, h6]) s11 hO
            rw [v.2.1] at this
            rwa [show S2 1 + 1 - 1 = r11 by omega] at this
    exact key 30 0 S' j M2 rfl hI (by have := hI.2.2.1; have := hH.2.2.1; omega) F2 i2 a3 a2 a4 hO
