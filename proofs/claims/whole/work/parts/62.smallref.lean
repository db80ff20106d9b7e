/-! the reference's smallest readers -/
def bkRt (M : bk_M) (T : Int → Int) (c L : Int) : Prop := M 57 0 = T ∧ M 12 0 3 = c ∧ M 12 0 4 = L ∧ 0 ≤ c ∧ c ≤ 940
def bkRo (M M' : bk_M) : Prop := bkFr (fun k a => k = 12 ∧ a = 0) M M' ∧ ∀ j, j ≠ 5 → j ≠ 6 → j ≠ 7 → j ≠ 8 → j ≠ 9 → j ≠ 10 → j ≠ 11 → j ≠ 12 → j ≠ 13 → M' 12 0 j = M 12 0 j
theorem bkRo_refl (M : bk_M) : bkRo M M := ⟨bkFr_refl _ _, fun _ _ _ _ _ _ _ _ _ _ => rfl⟩
theorem bkRo_trans {M M' M'' : bk_M} (h : bkRo M M') (h2 : bkRo M' M'') : bkRo M M'' := ⟨bkFr_trans h.1 h2.1, fun j q1 q2 q3 q4 q5 q6 q7 q8 q9 => (h2.2 j q1 q2 q3 q4 q5 q6 q7 q8 q9).trans (h.2 j q1 q2 q3 q4 q5 q6 q7 q8 q9)⟩
theorem bkRt_o {M M' : bk_M} {T : Int → Int} {c L : Int} (h : bkRt M T c L) (f : bkRo M M') : bkRt M' T c L := by
  obtain ⟨h1, h2, h3, h4⟩ := h
  exact ⟨(f.1 57 0 (by omega)).trans h1, (f.2 3 (by decide) (by decide) (by decide) (by decide) (by decide) (by decide) (by decide) (by decide) (by decide)).trans h2, (f.2 4 (by decide) (by decide) (by decide) (by decide) (by decide) (by decide) (by decide) (by decide) (by decide)).trans h3, h4⟩
theorem bkAtR_10 {M M' : bk_M} {T : Int → Int} {c L i : Int} (h : bkAtR M T c L i) (o : ∀ j, j ≠ 10 → j ≠ 11 → j ≠ 13 → j ≠ 26 → M' 12 0 j = M 12 0 j) : bkAtR M' T c L i := by
  unfold bkAtR at *
  rw [o 5 (by decide) (by decide) (by decide) (by decide), o 6 (by decide) (by decide) (by decide) (by decide), o 7 (by decide) (by decide) (by decide) (by decide), o 8 (by decide) (by decide) (by decide) (by decide), o 9 (by decide) (by decide) (by decide) (by decide), o 12 (by decide) (by decide) (by decide) (by decide)]
  exact h
theorem S162c {d : Nat} {M : bk_M} {T : Int → Int} {c L i : Int} (h : bkRt M T c L) (hx : M 12 0 5 = i) (h0 : 0 ≤ i ∧ i ≤ c) : bk_C (d + 2) 0 162 [bk_c 12 0] M (fun t r M' => t = 0 ∧ bkRo M M' ∧ (M' 12 0 10 = M 12 0 10 ∧ M' 12 0 11 = M 12 0 11 ∧ M' 12 0 13 = M 12 0 13) ∧ bkAtR M' T c L i) := by
  obtain ⟨h1, h2, h3, h4, h5⟩ := h
  refine bk_use (S162 h2 h3 hx h0.1 h0.2 h5) (fun r M' hM' => ?_)
  obtain ⟨f, o, k⟩ := hM'
  rw [h1] at k
  exact ⟨rfl, ⟨f, fun j q1 q2 q3 q4 q5 _ _ q6 _ => o j q1 q2 q3 q4 q5 q6⟩, ⟨o 10 (by decide) (by decide) (by decide) (by decide) (by decide) (by decide), o 11 (by decide) (by decide) (by decide) (by decide) (by decide) (by decide), o 13 (by decide) (by decide) (by decide) (by decide) (by decide) (by decide)⟩, k⟩
theorem bkAtR_k {M : bk_M} {T : Int → Int} {c L i : Int} (h : bkAtR M T c L i) : (M 12 0 7 = 1 ↔ bkTk T c L i = 1) ∧ (M 12 0 7 = 2 ↔ bkTk T c L i = 2) ∧ (M 12 0 7 = 3 ↔ bkTk T c L i = 3) ∧ (M 12 0 7 = 0 ↔ bkTk T c L i = 0) ∧ (M 12 0 7 = 4 ↔ 3 < bkTk T c L i) := by
  have := @bkTk_z T c L i
  rw [h.1]
  split <;> omega
theorem S171c {d : Nat} {M : bk_M} {T : Int → Int} {c L i a : Int} (h : bkAtR M T c L i) : bk_C (d + 1) 0 171 [bk_c 12 0, bk_i a] M (fun t r M' => t = 0 ∧ r = 0 ∧ bkRo M M' ∧ bkAtR M' T c L i ∧ M' 12 0 10 = (if bkTk T c L i = 1 then 1 else a) ∧ M' 12 0 11 = bkTf T c L i) := by
  have K := bkAtR_k h
  have h6 := h.2.2.1
  rw [E_171]
  have fin : ∀ a', ∀ M1 : bk_M, M1 = bk_up M 12 0 10 a' → ∀ M2 : bk_M, M2 = bk_up M1 12 0 11 (M1 12 0 6) → bkRo M M2 ∧ bkAtR M2 T c L i ∧ M2 12 0 10 = a' ∧ M2 12 0 11 = bkTf T c L i := fun a' M1 e1 M2 e2 => by
    refine ⟨⟨by rw [e2, e1]; exact bkFr_up (bkFr_up (bkFr_refl _ _) ⟨rfl, rfl⟩) ⟨rfl, rfl⟩, fun j _ _ _ _ _ q1 q2 _ _ => by rw [e2, e1, bk_up_s q2, bk_up_s q1]⟩, bkAtR_10 h fun j q1 q2 _ _ => by rw [e2, e1, bk_up_s q2, bk_up_s q1], by rw [e2, e1, bk_up_s (by decide), bk_up_e], by rw [e2, e1, bk_up_e, bk_up_s (by decide), h6]⟩
  refine ⟨fun z M1 e1 M2 e2 => ?_, fun z M1 e1 M2 e2 => ?_⟩
  · obtain ⟨q1, q2, q3, q4⟩ := fin _ M1 e1 M2 e2
    exact ⟨.inl rfl, rfl, rfl, q1, q2, by rw [q3, if_neg (by omega)], q4⟩
  · obtain ⟨q1, q2, q3, q4⟩ := fin _ M1 e1 M2 e2
    exact ⟨.inl rfl, rfl, rfl, q1, q2, by rw [q3, if_pos (by omega)], q4⟩
theorem S167c {d : Nat} {Q : bk_Q} {M : bk_M} {T : Int → Int} {c L i : Int} (h : bkAtR M T c L i) {w : Nat} (hw : w < 25) {a : Int} (ha : a = bkWn w) : bk_C (d + 3) 0 167 [bk_c 12 0, bk_i a] M Q ↔ Q 0 (if bkIsW T c L i w = true then 1 else 0) M := by
  have K := bkAtR_k h
  refine bk_det (fun Q hQ => ?_) Q
  unfold bkIsW at hQ
  simp only [decide_eq_true_eq] at hQ
  rw [E_167]
  refine ⟨fun z => ⟨.inl rfl, by rwa [if_neg fun q => z (K.2.1.2 q.1)] at hQ⟩, fun z => (S168 hw ha).2 ⟨rfl, ?_⟩⟩
  have z : bkTk T c L i = 2 := by omega
  obtain ⟨v1, v2⟩ := bkTw_v z
  rw [bkLc, h.2.2.2.2.1 z, v2]
  have hz := bkWi_z v1 hw
  exact ⟨fun w1 => ⟨.inl rfl, by rwa [if_neg fun q => w1 (hz.2 q.2)] at hQ⟩, fun w1 => ⟨.inr rfl, by rwa [if_pos ⟨z, hz.1 (Classical.not_not.1 w1)⟩] at hQ⟩⟩
theorem S182c {d : Nat} {Q : bk_Q} {M : bk_M} {T : Int → Int} {c L i : Int} (h : bkAtR M T c L i) : bk_C (d + 3) 0 182 [bk_c 12 0] M Q ↔ Q 0 (if bkIsW T c L i (-1) = true then 1 else 0) M := by
  have K := bkAtR_k h
  refine bk_det (fun Q hQ => ?_) Q
  unfold bkIsW at hQ
  simp only [decide_eq_true_eq] at hQ
  rw [E_182]
  refine ⟨fun z => ?_, fun z => ⟨.inl rfl, by rwa [if_neg fun q => z (K.2.1.2 q.1)] at hQ⟩⟩
  have z := K.2.1.1 z
  obtain ⟨v1, v2⟩ := bkTw_v z
  have key : ∀ (m n : Nat), n + m = 25 → (∀ a : Nat, a < n → bkTw 27 T c i ≠ bkWq a) → bk_wp (bk_C (d + 2)) P_182 Q 0 12 [bk_c 12 0, bk_i n] [] M := by
    intro m
    induction m with
    | zero =>
      intro n hn ha
      rw [L_182_12]
      refine ⟨fun _ => ⟨.inr rfl, ?_⟩, fun q => absurd (by omega) q⟩
      rwa [if_pos] at hQ
      refine ⟨z, ?_⟩
      by_cases e : bkWi (bkTw 32 T c i) = -1
      · exact e
      · exfalso
        have b := @bkIx_b (fun j => bkWt j.toNat) (bkTw 32 T c i) 25
        have e2 : ∃ w : Nat, w < 25 ∧ bkWi (bkTw 32 T c i) = w := ⟨(bkWi (bkTw 32 T c i)).toNat, by unfold bkWi at *; omega, by unfold bkWi at *; omega⟩
        obtain ⟨w, hw, e2⟩ := e2
        have e3 := (bkWi_z v1 hw).2 e2
        obtain ⟨q1, q2, q3⟩ := bkWq_z w hw
        refine ha (bkWn w).toNat (by omega) ?_
        rw [v2, e3, q1]
    | succ m ih =>
      intro n hn ha
      rw [L_182_12]
      refine ⟨fun q => absurd q (by omega), fun _ => (S168q (by omega)).2 ⟨rfl, fun q => ⟨by unfold bk_r32; omega, ?_⟩, fun q => ⟨.inl rfl, ?_⟩⟩⟩
      · rw [bkLc, h.2.2.2.2.1 z] at q
        have := ih (n + 1) (by omega) (fun a hq => by
          by_cases e : a = n
          · rw [e]; simpa using q
          · exact ha a (by omega))
        rwa [show ((n + 1 : Nat) : Int) = n + 1 by omega] at this
      · rw [bkLc, h.2.2.2.2.1 z] at q
        have q := Classical.not_not.1 q
        rwa [if_neg] at hQ
        intro w1
        obtain ⟨w, hw, e⟩ := bkWn_i n (by omega)
        obtain ⟨q1, q2, q3⟩ := bkWq_z w hw
        rw [e] at q1
        rw [q1, v2] at q
        have := (bkWi_z v1 hw).1 q
        omega
  exact key 25 0 rfl (fun a ha => by omega)
theorem S174c {d : Nat} {M : bk_M} {T : Int → Int} {c L i lo hi : Int} (h : bkRt M T c L) (hA : bkAtR M T c L i) (h0 : 0 ≤ i ∧ i ≤ c) : bk_C (d + 3) 0 174 [bk_c 12 0, bk_i lo, bk_i hi] M (fun t r M' => t = 0 ∧ bkRo M M' ∧ (∀ w q, bkNu T c L lo hi i = .inl (w, q) → r = 0 ∧ M' 12 0 10 = w ∧ M' 12 0 11 = q) ∧ (∀ v, bkNu T c L lo hi i = .inr v → r = 1 ∧ M' 12 0 13 = v ∧ M' 12 0 10 = M 12 0 10 ∧ bkAtR M' T c L (bkTn T c L i))) := by
  have K := bkAtR_k hA
  have hn := @bkTn_b T c L i h0.2
  rw [E_174]
  unfold bkNu
  refine ⟨fun z => S157.2 ⟨rfl, ?_⟩, fun z => bk_use (S171c hA) (fun r M5 hM5 => ?_)⟩
  · have z := K.2.2.1.1 z
    rw [if_pos z, hA.2.2.2.2.2 z]
    refine ⟨fun w M4 e4 => ?_, fun w => bk_use (S171c hA) (fun r M5 hM5 => ?_)⟩
    · have w : lo ≤ bkTv T c i ∧ bkTv T c i ≤ hi := by
        by_cases q : lo ≤ bkTv T c i ∧ bkTv T c i ≤ hi
        · exact q
        · rw [if_neg q] at w; exact absurd rfl w
      have f4 : bkRo M M4 := ⟨by rw [e4]; exact bkFr_up (bkFr_refl _ _) ⟨rfl, rfl⟩, fun j _ _ _ _ _ _ _ _ q => by rw [e4, bk_up_s q]⟩
      refine bk_use (S162c (i := bkTn T c L i) (bkRt_o h f4) (by rw [e4, bk_up_s (by decide)]; exact hA.2.2.2.1) (by omega)) (fun r M6 hM6 => ?_)
      obtain ⟨f6, ⟨k10, -, k6⟩, a6⟩ := hM6
      rw [if_pos w]
      refine ⟨rfl, .inr rfl, rfl, bkRo_trans f4 f6, fun w q e => (by cases e), fun v e => ?_⟩
      cases e
      exact ⟨rfl, by rw [k6, e4, bk_up_e], by rw [k10, e4, bk_up_s (by decide)], a6⟩
    · obtain ⟨q1, q2, q3, q4, q5⟩ := hM5
      have w : ¬ (lo ≤ bkTv T c i ∧ bkTv T c i ≤ hi) := fun q => by rw [if_pos q] at w; omega
      rw [if_neg w]
      rw [if_neg (by omega)] at q4
      refine ⟨rfl, by omega, rfl, q2, fun w q e => ?_, fun v e => (by cases e)⟩
      cases e; exact ⟨q1, q4, q5⟩
  · obtain ⟨q1, q2, q3, q4, q5⟩ := hM5
    rw [if_neg fun q => z (K.2.2.1.2 q)]
    refine ⟨rfl, by omega, rfl, q2, fun w q e => ?_, fun v e => (by cases e)⟩
    cases e
    exact ⟨q1, by rw [q4]; split <;> rfl, q5⟩
theorem S189c {d : Nat} {Q : bk_Q} {M : bk_M} {T : Int → Int} {c L i a : Int} (h : bkAtR M T c L i) (ha : 3 < a) : bk_C (d + 1) 0 189 [bk_c 12 0, bk_i a] M Q ↔ Q 0 (if bkTk T c L i = a then 1 else 0) M := by
  have K := bkAtR_k h
  refine bk_det (fun Q hQ => ?_) Q
  rw [E_189]
  refine ⟨fun z => ⟨.inl rfl, by rwa [if_neg (by omega)] at hQ⟩, fun z => ?_⟩
  have z : 3 < bkTk T c L i := by omega
  rw [h.2.1 z]
  exact ⟨fun w => ⟨.inl rfl, by rwa [if_neg w] at hQ⟩, fun w => ⟨.inr rfl, by rwa [if_pos (by omega)] at hQ⟩⟩
theorem S188c {d : Nat} {M : bk_M} {T : Int → Int} {c L i : Int} (h : bkRt M T c L) (hA : bkAtR M T c L i) (h0 : 0 ≤ i ∧ i ≤ c) : bk_C (d + 3) 0 188 [bk_c 12 0] M (fun t r M' => t = 0 ∧ bkRo M M' ∧ (bkTk T c L i = 59 → r = 1 ∧ M' 12 0 10 = M 12 0 10 ∧ bkAtR M' T c L (bkTn T c L i)) ∧ (bkTk T c L i ≠ 59 → r = 0 ∧ M' 12 0 10 = 1 ∧ M' 12 0 11 = bkTf T c L i)) := by
  have hn := @bkTn_b T c L i h0.2
  rw [E_188, S189c hA (by decide)]
  refine ⟨rfl, fun z => ?_, fun z => bk_use (S171c hA) (fun r M5 hM5 => ?_)⟩
  · have z : bkTk T c L i = 59 := by
      by_cases q : bkTk T c L i = 59
      · exact q
      · rw [if_neg q] at z; exact absurd rfl z
    refine bk_use (S162c h hA.2.2.2.1 (by omega)) (fun r M6 hM6 => ?_)
    obtain ⟨f6, ⟨k10, -⟩, a6⟩ := hM6
    exact ⟨rfl, .inr rfl, rfl, f6, fun _ => ⟨rfl, k10, a6⟩, fun w => absurd z w⟩
  · obtain ⟨q1, q2, q3, q4, q5⟩ := hM5
    have z : bkTk T c L i ≠ 59 := fun q => by rw [if_pos q] at z; exact absurd (by decide) z
    exact ⟨rfl, by omega, rfl, q2, fun w => absurd w z, fun _ => ⟨q1, by rw [q4]; split <;> rfl, q5⟩⟩
theorem S160c {d : Nat} {M : bk_M} {L : Int} (hc : 0 ≤ M 12 0 2 ∧ M 12 0 2 ≤ 940) : bk_C (d + 3) 0 160 [bk_c 12 0, bk_i L] M (fun t r M' => t = 0 ∧ bkFr (fun k a => k = 12 ∧ a = 0) M M' ∧ (∀ j, j ≠ 0 → j ≠ 2 → j ≠ 3 → j ≠ 4 → j ≠ 5 → j ≠ 6 → j ≠ 7 → j ≠ 8 → j ≠ 9 → j ≠ 10 → j ≠ 12 → M' 12 0 j = M 12 0 j) ∧ M' 12 0 0 = 0 ∧ M' 12 0 2 = 0 ∧ M' 12 0 10 = 0 ∧ bkRt M' (M 57 0) (M 12 0 2) L ∧ bkAtR M' (M 57 0) (M 12 0 2) L 0) := by
  rw [E_160]
  intro M1 e1
  rw [E_161]
  intro M2 e2
  refine ⟨rfl, fun M5 e5 M6 e6 M7 e7 M8 e8 => ?_⟩
  have m2 : M1 12 0 2 = M 12 0 2 := by rw [e1, bk_up_s (by decide)]
  rw [m2] at e5
  have f8 : bkFr (fun k a => k = 12 ∧ a = 0) M M8 := by rw [e8, e7, e6, e5, e2, e1]; exact bkFr_up (bkFr_up (bkFr_up (bkFr_up (bkFr_up (bkFr_up (bkFr_refl _ _) ⟨rfl, rfl⟩) ⟨rfl, rfl⟩) ⟨rfl, rfl⟩) ⟨rfl, rfl⟩) ⟨rfl, rfl⟩) ⟨rfl, rfl⟩
  have o8 : ∀ j, j ≠ 0 → j ≠ 2 → j ≠ 3 → j ≠ 4 → j ≠ 5 → j ≠ 10 → M8 12 0 j = M 12 0 j := fun j q1 q2 q3 q4 q5 q6 => by rw [e8, e7, e6, e5, e2, e1, bk_up_s q5, bk_up_s q6, bk_up_s q4, bk_up_s q3, bk_up_s q2, bk_up_s q1]
  have T8 : M8 57 0 = M 57 0 := f8 57 0 (by omega)
  have t8 : bkRt M8 (M 57 0) (M 12 0 2) L := ⟨T8, by rw [e8, e7, e6, bk_up_s (by decide), bk_up_s (by decide), bk_up_s (by decide), e5, bk_up_e], by rw [e8, e7, e6, bk_up_s (by decide), bk_up_s (by decide), bk_up_e], hc⟩
  obtain ⟨h1, h2, h3, h4, h5⟩ := t8
  refine bk_use (S162 h2 h3 (by rw [e8, bk_up_e]) (by omega) hc.1 hc.2) (fun r M' hM' => ?_)
  obtain ⟨f, o, k⟩ := hM'
  rw [h1] at k
  refine ⟨rfl, rfl, bkFr_trans f8 f, fun j q0 q2 q3 q4 q5 q6 q7 q8 q9 q10 q12 => by rw [o j q5 q6 q7 q8 q9 q12, o8 j q0 q2 q3 q4 q5 q10], ?_, ?_, ?_, ⟨(f 57 0 (by omega)).trans h1, ?_, ?_, hc⟩, k⟩
  · rw [o 0 (by decide) (by decide) (by decide) (by decide) (by decide) (by decide), e8, e7, e6, e5, e2, bk_up_s (by decide), bk_up_s (by decide), bk_up_s (by decide), bk_up_s (by decide), bk_up_s (by decide), e1, bk_up_e]
  · rw [o 2 (by decide) (by decide) (by decide) (by decide) (by decide) (by decide), e8, e7, e6, e5, e2, bk_up_s (by decide), bk_up_s (by decide), bk_up_s (by decide), bk_up_s (by decide), bk_up_e]
  · rw [o 10 (by decide) (by decide) (by decide) (by decide) (by decide) (by decide), e8, e7, bk_up_s (by decide), bk_up_e]
  · rw [o 3 (by decide) (by decide) (by decide) (by decide) (by decide) (by decide)]; exact h2
  · rw [o 4 (by decide) (by decide) (by decide) (by decide) (by decide) (by decide)]; exact h3
