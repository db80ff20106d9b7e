/-! The class reads a SENTENCE. -/
def bkSa (s k a : Nat) : Prop := (k = 10 ∧ a = 0) ∨ ((k = 9 ∨ (49 ≤ k ∧ k ≤ 51)) ∧ a = s)
def bkSp (s : Nat) (M M' : bk_M) : Prop := bkFr (bkSa s) M M' ∧ ∀ j, j ≠ 2 → j ≠ 3 → j ≠ 4 → j ≠ 5 → j ≠ 6 → j ≠ 7 → j ≠ 10 → j ≠ 11 → M' 10 0 j = M 10 0 j
theorem bkSp_c {s : Nat} {M M' : bk_M} (h : bkCf M M') : bkSp s M M' := ⟨bkFr_mono h.1 fun k a w => .inl w, h.2⟩
theorem bkSp_trans {s : Nat} {M M' M'' : bk_M} (h : bkSp s M M') (h2 : bkSp s M' M'') : bkSp s M M'' := ⟨bkFr_trans h.1 h2.1, fun j q1 q2 q3 q4 q5 q6 q7 q8 => (h2.2 j q1 q2 q3 q4 q5 q6 q7 q8).trans (h.2 j q1 q2 q3 q4 q5 q6 q7 q8)⟩
theorem bkSp_fr {s : Nat} {M M' : bk_M} (h : bkFr (fun k a => (k = 9 ∨ (49 ≤ k ∧ k ≤ 51)) ∧ a = s) M M') : bkSp s M M' := ⟨bkFr_mono h fun k a w => .inr w, fun j _ _ _ _ _ _ _ _ => by rw [h 10 0 (by omega)]⟩
theorem bkCt_s {s : Nat} {M M' : bk_M} {T : Int → Int} {c L : Int} (h : bkCt M T c L) (f : bkSp s M M') : bkCt M' T c L := by
  obtain ⟨h1, h2, h3, h4, h5⟩ := h
  refine ⟨(f.1 53 0 (by unfold bkSa; omega)).trans h1, (f.2 1 (by decide) (by decide) (by decide) (by decide) (by decide) (by decide) (by decide) (by decide)).trans h2, (f.2 9 (by decide) (by decide) (by decide) (by decide) (by decide) (by decide) (by decide) (by decide)).trans h3, h4, fun w hw => ?_⟩
  rw [f.1 54 0 (by unfold bkSa; omega)]; exact h5 w hw
/-- sentence s of the class is S -/
def bkNq (M : bk_M) (s : Nat) (S : Int → Int) (k : Int) : Prop := M 49 s k = S (10 + 4 * k) ∧ (S (10 + 4 * k) = 19 ∨ S (10 + 4 * k) = 20 → M 50 s k = S (11 + 4 * k)) ∧ (21 ≤ S (10 + 4 * k) → M 50 s k = S (12 + 4 * k) ∧ M 51 s k = S (13 + 4 * k))
def bkSnC (M : bk_M) (s : Nat) (S : Int → Int) : Prop := M 9 s 0 = S 1 ∧ M 9 s 1 = S 0 ∧ ∀ k, 0 ≤ k → k < S 1 → bkNq M s S k
theorem bkSnC_e {M M' : bk_M} {s : Nat} {S : Int → Int} (h : bkSnC M s S) (e : ∀ k, k = 9 ∨ (49 ≤ k ∧ k ≤ 51) → M' k s = M k s) : bkSnC M' s S := by
  unfold bkSnC bkNq at *
  rw [e 9 (by omega), e 49 (by omega), e 50 (by omega), e 51 (by omega)]
  exact h
theorem bkSnC_c {M M' : bk_M} {s : Nat} {S : Int → Int} (h : bkSnC M s S) (f : bkCf M M') : bkSnC M' s S := bkSnC_e h fun k hk => f.1 k s (by omega)
theorem S129c {d s : Nat} {M : bk_M} {S : Int → Int} {w a b r a2 a3 : Int} (h : bkSnC M s S) (hn : 0 ≤ S 1 ∧ S 1 < 40) (h1 : w = 19 ∨ w = 20 → a2 = a) (h2 : 21 ≤ w → a2 = b ∧ a3 = r) : bk_C (d + 1) 0 129 [bk_c 9 s, bk_i w, bk_i a2, bk_i a3] M (fun t r' M' => t = 0 ∧ r' = 1 ∧ bkFr (fun k a => (k = 9 ∨ (49 ≤ k ∧ k ≤ 51)) ∧ a = s) M M' ∧ bkSnC M' s (bkNp S w a b r)) := by
  obtain ⟨k1, k2, k3⟩ := h
  obtain ⟨v0, v1, v2, v3, v4, v5, v6⟩ := @bkNp_v S w a b r hn.1
  rw [E_129, k1]
  refine ⟨fun z => absurd z (by omega), fun _ => ⟨hn, fun M1 e1 => ?_⟩⟩
  rw [show M1 9 s 0 = S 1 by rw [e1, bk_up_k (by decide), k1]]
  refine ⟨hn, fun M2 e2 => ?_⟩
  rw [show M2 9 s 0 = S 1 by rw [e2, e1, bk_up_k (by decide), bk_up_k (by decide), k1]]
  refine ⟨hn, fun M3 e3 => ?_⟩
  have e9 : ∀ j, M3 9 s j = M 9 s j := fun j => by rw [e3, e2, e1, bk_up_k (by decide), bk_up_k (by decide), bk_up_k (by decide)]
  rw [e9, k1]
  refine ⟨by unfold bk_r32; omega, fun M4 e4 => ⟨.inr rfl, rfl, rfl, ?_, ?_⟩⟩
  · rw [e4, e3, e2, e1]
    exact bkFr_up (bkFr_up (bkFr_up (bkFr_up (bkFr_refl _ _) ⟨by omega, rfl⟩) ⟨by omega, rfl⟩) ⟨by omega, rfl⟩) ⟨by omega, rfl⟩
  have u49 : ∀ j, M4 49 s j = if j = S 1 then w else M 49 s j := fun j => by rw [e4, bk_up_k (by decide), e3, bk_up_k (by decide), e2, bk_up_k (by decide), e1, bk_up_w]
  have u50 : ∀ j, M4 50 s j = if j = S 1 then a2 else M 50 s j := fun j => by rw [e4, bk_up_k (by decide), e3, bk_up_k (by decide), e2, bk_up_w, e1, bk_up_k (by decide)]
  have u51 : ∀ j, M4 51 s j = if j = S 1 then a3 else M 51 s j := fun j => by rw [e4, bk_up_k (by decide), e3, bk_up_w, e2, bk_up_k (by decide), e1, bk_up_k (by decide)]
  refine ⟨by rw [e4, bk_up_e, v1], by rw [e4, bk_up_s (by decide), e9, k2, v0], fun k k0 k1' => ?_⟩
  rw [v1] at k1'
  unfold bkNq
  rw [u49, u50, u51]
  by_cases z : k = S 1
  · subst z
    rw [if_pos rfl, if_pos rfl, if_pos rfl, v2, v3, v4, v5]
    exact ⟨rfl, h1, h2⟩
  · rw [if_neg z, if_neg z, if_neg z, v6 _ (by omega) (by omega), v6 _ (by omega) (by omega), v6 _ (by omega) (by omega), v6 _ (by omega) (by omega)]
    exact k3 k k0 (by omega)
def bkSO (s : Nat) (T : Int → Int) (c L : Int) (M : bk_M) (r : Int) (M' : bk_M) (O : (Int × Int) ⊕ (Int × (Int → Int))) : Prop := bkSp s M M' ∧ (∀ w q, O = .inl (w, q) → r = 0 ∧ M' 10 0 6 = w ∧ M' 10 0 7 = q) ∧ (∀ j S, O = .inr (j, S) → r = 1 ∧ bkCk M' T c L j ∧ M' 10 0 6 = M 10 0 6 ∧ bkSnC M' s S)
theorem bkSO_l {s : Nat} {T : Int → Int} {c L : Int} {M M' : bk_M} {r w q : Int} {O : (Int × Int) ⊕ (Int × (Int → Int))} (hO : O = .inl (w, q)) (f : bkSp s M M') (hr : r = 0) (h6 : M' 10 0 6 = w) (h7 : M' 10 0 7 = q) : (r = 0 ∨ r = 1) ∧ (0 : Nat) = 0 ∧ bkSO s T c L M r M' O := by
  subst hO
  exact ⟨.inl hr, rfl, f, fun w q e => (by cases e; exact ⟨hr, h6, h7⟩), fun i S e => (by cases e)⟩
theorem bkSO_r {s : Nat} {T : Int → Int} {c L : Int} {M M' : bk_M} {r j : Int} {S : Int → Int} {O : (Int × Int) ⊕ (Int × (Int → Int))} (hO : O = .inr (j, S)) (f : bkSp s M M') (hr : r = 1) (hK : bkCk M' T c L j) (h6 : M' 10 0 6 = M 10 0 6) (hR : bkSnC M' s S) : (r = 0 ∨ r = 1) ∧ (0 : Nat) = 0 ∧ bkSO s T c L M r M' O := by
  subst hO
  exact ⟨.inr hr, rfl, f, fun w q e => (by cases e), fun i S e => (by cases e; exact ⟨hr, hK, h6, hR⟩)⟩
/-- method μ of the class is the reader rd -/
def bkCR (s p : Nat) (f : Int → Int) (m : Nat) (T : Int → Int) (c L : Int) (D μ : Nat) (dep : Int) (rd : (Int → Int) → Int → (Int × Int) ⊕ (Int × (Int → Int))) : Prop := ∀ (d : Nat) (M : bk_M) (S : Int → Int) (i : Int), bkCt M T c L → bkCk M T c L i → bkSH c S i → bkSnC M s S → (M 33 p = f ∧ M 5 p 6 = m) → bk_C (d + D + 3) 0 μ [bk_c 9 s, bk_c 10 0, bk_c 5 p, bk_i dep] M (fun t r M' => t = 0 ∧ bkSO s T c L M r M' (rd S i))
theorem bkCR_126 {s p : Nat} {f : Int → Int} {m : Nat} {T : Int → Int} {c L : Int} {D : Nat} {dep : Int} {rd : (Int → Int) → Int → (Int × Int) ⊕ (Int × (Int → Int))} (h : bkCR s p f m T c L D 127 dep rd) (hg : bkSG m c rd) : bkCR s p f m T c L (D + 1) 126 dep (bkSSeq T c L rd 15) := by
  intro d M S i hC hK hH hS hf
  show bk_C (d + D + 3 + 1) 0 126 _ _ _
  have hff : ∀ M', bkSp s M M' → M' 33 p = f ∧ M' 5 p 6 = m := fun M' F => by rw [F.1 33 p (by unfold bkSa; omega), F.1 5 p (by unfold bkSa; omega)]; exact hf
  rw [E_126]
  refine bk_use (h d M S i hC hK hH hS hf) (fun r M2 hM2 => ⟨rfl, ?_⟩)
  obtain ⟨F2, g1, g2⟩ := hM2
  generalize hO : bkSSeq T c L rd 15 S i = O
  unfold bkSSeq at hO
  rcases e : rd S i with ⟨w, q⟩ | ⟨j, S'⟩
  · rw [e] at hO
    obtain ⟨a1, a2, a3⟩ := g1 w q e
    exact ⟨fun z => absurd a1 z, fun _ => bkSO_l hO.symm F2 rfl a2 a3⟩
  · rw [e] at hO
    obtain ⟨a1, a2, a3, a4⟩ := g2 j S' e
    have hI := (hg S i hH).2 j S' e
    refine ⟨fun _ => ?_, fun z => absurd (show r ≠ 0 by omega) z⟩
    have key : ∀ (n k : Nat) (S' : Int → Int) (j : Int) (M' : bk_M), n + k = 30 → bkSI m c S i S' j → (k : Int) + 1 ≤ S' 0 → bkSp s M M' → bkCk M' T c L j → M' 10 0 6 = M 10 0 6 → bkSnC M' s S' → bkSLp T c L rd 15 n S' j = O → bk_wp (bk_C (d + D + 3)) P_126 (fun t r M' => t = 0 ∧ bkSO s T c L M r M' O) 0 15 [bk_c 9 s, bk_c 10 0, bk_c 5 p, bk_i dep, bk_i k] [] M' := by
      intro n
      induction n with
      | zero => intro k S' j M' hk hI hk2; have := hI.2.2.2.1; omega
      | succ n ih =>
        intro k S' j M' hk hI hk2 F K h6 hS' hO
        have hH' := bkSI_h hI hH
        have hn := @bkTn_b T c L j hH'.2.1
        have j0 := hH'.1
        have C' := bkCt_s hC F
        rw [bkSLp_s] at hO
        rw [L_126_15]
        refine ⟨fun z => absurd z (by omega), fun _ => (S28c K).2 ⟨rfl, fun z => ?_, fun z => ?_⟩⟩
        · have z : ¬ bkIsW T c L j 15 = true := fun q => by rw [if_pos q] at z; exact absurd z (by decide)
          rw [if_neg z] at hO
          exact bkSO_r hO.symm F rfl K h6 hS'
        · have z : bkIsW T c L j 15 = true := by
            by_cases q : bkIsW T c L j 15 = true
            · exact q
            · exact absurd (if_neg q) z
          rw [if_pos z] at hO
          refine bk_use (S7c C' K.2.1 (by omega)) (fun r5 M5 hM5 => ⟨rfl, ?_⟩)
          obtain ⟨f5, k65, K5⟩ := hM5
          have F5 := bkSp_trans F (bkSp_c f5)
          have hH5 := bkSH_n (T := T) (L := L) hH'
          refine bk_use (h d M5 S' _ (bkCt_s hC F5) K5 hH5 (bkSnC_c hS' f5) (hff M5 F5)) (fun r8 M8 hM8 => ⟨rfl, ?_⟩)
          obtain ⟨F8, b1, b2⟩ := hM8
          rcases e2 : rd S' (bkTn T c L j) with ⟨w, q⟩ | ⟨j2, S2⟩
          · rw [e2] at hO
            obtain ⟨a1, a2, a3⟩ := b1 w q e2
            exact ⟨fun z => absurd a1 z, fun _ => bkSO_l hO.symm (bkSp_trans F5 F8) rfl a2 a3⟩
          · rw [e2] at hO
            obtain ⟨a1, a2, a3, a4⟩ := b2 j2 S2 e2
            have hI2 := (hg S' _ hH5).2 j2 S2 e2
            have hI3 := bkSI_two hH hI hn.1 hI2 (.inr rfl)
            have q1 := hI2.2.2.1
            have q2 := hI2.2.2.2.1
            have q3 := hI2.2.2.2.2.1
            have q4 := hI2.2.2.2.2.2.1
            have q5 := hH'.2.2.2.2
            have v := (@bkNp_v S2 15 (S' 1 - 1) (S2 1 - 1) 0 (by omega)).1
            refine ⟨fun _ => bk_use (S129c (a := S' 1 - 1) (b := S2 1 - 1) (r := 0) a4 (by omega) (fun q => by omega) (fun q => by omega)) (fun r11 M11 hM11 => ⟨rfl, by unfold bk_r32; omega, ?_⟩), fun z => absurd (show r8 ≠ 0 by omega) z⟩
            obtain ⟨-, f11, s11⟩ := hM11
            have := ih (k + 1) _ j2 M11 (by omega) hI3 (by omega) (bkSp_trans F5 (bkSp_trans F8 (bkSp_fr f11))) (bkCk_e a2 (f11 10 0 (by omega))) (by rw [f11 10 0 (by omega), a3, k65, h6]) s11 hO
            rwa [show ((k + 1 : Nat) : Int) = k + 1 by omega] at this
    exact key 30 0 S' j M2 rfl hI (by have := hI.2.2.1; have := hH.2.2.1; omega) F2 a2 a3 a4 hO
theorem bkCR_125 {s p : Nat} {f : Int → Int} {m : Nat} {T : Int → Int} {c L : Int} {D : Nat} {dep : Int} {rd : (Int → Int) → Int → (Int × Int) ⊕ (Int × (Int → Int))} (h : bkCR s p f m T c L D 126 dep rd) (hg : bkSG m c rd) : bkCR s p f m T c L (D + 1) 125 dep (bkSSeq T c L rd 14) := by
  intro d M S i hC hK hH hS hf
  show bk_C (d + D + 3 + 1) 0 125 _ _ _
  have hff : ∀ M', bkSp s M M' → M' 33 p = f ∧ M' 5 p 6 = m := fun M' F => by rw [F.1 33 p (by unfold bkSa; omega), F.1 5 p (by unfold bkSa; omega)]; exact hf
  rw [E_125]
  refine bk_use (h d M S i hC hK hH hS hf) (fun r M2 hM2 => ⟨rfl, ?_⟩)
  obtain ⟨F2, g1, g2⟩ := hM2
  generalize hO : bkSSeq T c L rd 14 S i = O
  unfold bkSSeq at hO
  rcases e : rd S i with ⟨w, q⟩ | ⟨j, S'⟩
  · rw [e] at hO
    obtain ⟨a1, a2, a3⟩ := g1 w q e
    exact ⟨fun z => absurd a1 z, fun _ => bkSO_l hO.symm F2 rfl a2 a3⟩
  · rw [e] at hO
    obtain ⟨a1, a2, a3, a4⟩ := g2 j S' e
    have hI := (hg S i hH).2 j S' e
    refine ⟨fun _ => ?_, fun z => absurd (show r ≠ 0 by omega) z⟩
    have key : ∀ (n k : Nat) (S' : Int → Int) (j : Int) (M' : bk_M), n + k = 30 → bkSI m c S i S' j → (k : Int) + 1 ≤ S' 0 → bkSp s M M' → bkCk M' T c L j → M' 10 0 6 = M 10 0 6 → bkSnC M' s S' → bkSLp T c L rd 14 n S' j = O → bk_wp (bk_C (d + D + 3)) P_125 (fun t r M' => t = 0 ∧ bkSO s T c L M r M' O) 0 15 [bk_c 9 s, bk_c 10 0, bk_c 5 p, bk_i dep, bk_i k] [] M' := by
      intro n
      induction n with
      | zero => intro k S' j M' hk hI hk2; have := hI.2.2.2.1; omega
      | succ n ih =>
        intro k S' j M' hk hI hk2 F K h6 hS' hO
        have hH' := bkSI_h hI hH
        have hn := @bkTn_b T c L j hH'.2.1
        have j0 := hH'.1
        have C' := bkCt_s hC F
        rw [bkSLp_s] at hO
        rw [L_125_15]
        refine ⟨fun z => absurd z (by omega), fun _ => (S28c K).2 ⟨rfl, fun z => ?_, fun z => ?_⟩⟩
        · have z : ¬ bkIsW T c L j 14 = true := fun q => by rw [if_pos q] at z; exact absurd z (by decide)
          rw [if_neg z] at hO
          exact bkSO_r hO.symm F rfl K h6 hS'
        · have z : bkIsW T c L j 14 = true := by
            by_cases q : bkIsW T c L j 14 = true
            · exact q
            · exact absurd (if_neg q) z
          rw [if_pos z] at hO
          refine bk_use (S7c C' K.2.1 (by omega)) (fun r5 M5 hM5 => ⟨rfl, ?_⟩)
          obtain ⟨f5, k65, K5⟩ := hM5
          have F5 := bkSp_trans F (bkSp_c f5)
          have hH5 := bkSH_n (T := T) (L := L) hH'
          refine bk_use (h d M5 S' _ (bkCt_s hC F5) K5 hH5 (bkSnC_c hS' f5) (hff M5 F5)) (fun r8 M8 hM8 => ⟨rfl, ?_⟩)
          obtain ⟨F8, b1, b2⟩ := hM8
          rcases e2 : rd S' (bkTn T c L j) with ⟨w, q⟩ | ⟨j2, S2⟩
          · rw [e2] at hO
            obtain ⟨a1, a2, a3⟩ := b1 w q e2
            exact ⟨fun z => absurd a1 z, fun _ => bkSO_l hO.symm (bkSp_trans F5 F8) rfl a2 a3⟩
          · rw [e2] at hO
            obtain ⟨a1, a2, a3, a4⟩ := b2 j2 S2 e2
            have hI2 := (hg S' _ hH5).2 j2 S2 e2
            have hI3 := bkSI_two hH hI hn.1 hI2 (.inl rfl)
            have q1 := hI2.2.2.1
            have q2 := hI2.2.2.2.1
            have q3 := hI2.2.2.2.2.1
            have q4 := hI2.2.2.2.2.2.1
            have q5 := hH'.2.2.2.2
            have v := (@bkNp_v S2 14 (S' 1 - 1) (S2 1 - 1) 0 (by omega)).1
            refine ⟨fun _ => bk_use (S129c (a := S' 1 - 1) (b := S2 1 - 1) (r := 0) a4 (by omega) (fun q => by omega) (fun q => by omega)) (fun r11 M11 hM11 => ⟨rfl, by unfold bk_r32; omega, ?_⟩), fun z => absurd (show r8 ≠ 0 by omega) z⟩
            obtain ⟨-, f11, s11⟩ := hM11
            have := ih (k + 1) _ j2 M11 (by omega) hI3 (by omega) (bkSp_trans F5 (bkSp_trans F8 (bkSp_fr f11))) (bkCk_e a2 (f11 10 0 (by omega))) (by rw [f11 10 0 (by omega), a3, k65, h6]) s11 hO
            rwa [show ((k + 1 : Nat) : Int) = k + 1 by omega] at this
    exact key 30 0 S' j M2 rfl hI (by have := hI.2.2.1; have := hH.2.2.1; omega) F2 a2 a3 a4 hO
