/-! dig, lay, roll. -/
theorem bkKeep_o {M : bk_M} {j k a : Nat} {c : Int} (hk : k ≠ 3) (h : a < 3 ∨ (k ≠ 5 ∧ (k < 28 ∨ 39 < k))) : bkKeep M j k a c = M k a c := by
  unfold bkKeep
  rw [bk_up_k hk, bk_up_k hk, bkCopy_o (by omega)]
def bkDo (N : Int → Int) (w s x y : Int) : Int := if 0 ≤ s ∧ s ≤ 1 ∧ 0 ≤ x ∧ x < N 2 ∧ 0 ≤ y ∧ y < N 3 then bkWhyW N w s x y else -1
def bkDoR (N : Int → Int) (m x y : Int) : Int := if 0 ≤ m ∧ m < N 1 ∧ 0 ≤ x ∧ x < N 2 ∧ 0 ≤ y ∧ y < N 3 then bkWhyR N m x y else -1
theorem S55 {d p : Nat} {Q : bk_Q} {w s x y : Int} {M : bk_M} (h : bkNow M p) (hp3 : p < 3) (h0 : 0 ≤ M 3 0 0 ∧ M 3 0 0 ≤ 8) (h1 : 0 ≤ M 3 0 1 ∧ M 3 0 1 < 8) (hw : w = 0 ∨ w = 1) : bk_C (d + 3) 0 55 [bk_c 11 0, bk_i s, bk_i x, bk_i y, bk_i (if w = 0 then -1 else 1)] M Q ↔ Q 0 (bkDo (M 58 0) w s x y) (if bkDo (M 58 0) w s x y = 0 then bkWrk (bkKeep M p) p s (6 * y + x) (if w = 0 then -1 else 1) else M) := by
  refine bk_det (fun Q hQ => ?_) Q
  obtain ⟨n1, n2, n3, n4, n5, n6, n7, n8, n9, n10, n11, n12, -⟩ := bkNow_md h
  obtain ⟨hp, hP, ⟨b1, b2, b3, b4, -⟩, ⟨c1, c2, c3, c4, -⟩⟩ := bkNow_e h
  unfold bkDo at hQ
  rw [E_55, hp, S20 hP, b3, b4, S47]
  by_cases hs : 0 ≤ s ∧ s ≤ 1
  · rw [if_pos hs]
    by_cases hc : 0 ≤ x ∧ x < M 58 0 2 ∧ 0 ≤ y ∧ y < M 58 0 3
    · rw [if_pos ⟨hs.1, hs.2, hc⟩] at hQ
      rw [if_pos hc, hp, S56 h hw hs ⟨hc.1, hc.2.1⟩ hc.2.2]
      refine ⟨rfl, rfl, fun z => absurd z (by decide), fun _ => ⟨fun _ => ⟨rfl, fun z => ?_, fun z => ?_⟩, fun z => absurd (show 6 * y + x ≠ -1 by omega) z⟩⟩
      · rwa [if_neg z] at hQ
      · have z := Decidable.not_not.1 z
        rw [hp, S57 hp3 h0 h1]
        rw [show (bkKeep M p 11 0 1).toNat = p by rw [bkKeep_o (by decide) (.inr (by omega))]; exact hp]
        have q1 := c3 (6 * y + x) (by omega) (by omega)
        have q2 := n8 (6 * y + x) (by omega) (by omega)
        have q3 := c2 s hs.1 (by omega)
        have q4 := n12 s hs.1 (by omega)
        rw [S59 hs (by omega) (by rw [bkKeep_o (by decide) (.inl hp3), q1]; split <;> omega) (by rw [bkKeep_o (by decide) (.inl hp3), q3.1]; exact q4)]
        rw [if_pos z] at hQ
        exact ⟨rfl, rfl, hQ⟩
    · rw [if_neg (fun w => hc w.2.2), if_neg (by decide)] at hQ
      rw [if_neg hc]
      exact ⟨rfl, rfl, fun z => absurd z (by decide), fun _ => ⟨fun z => absurd rfl z, fun _ => hQ⟩⟩
  · rw [if_neg (fun w => hs ⟨w.1, w.2.1⟩), if_neg (by decide)] at hQ
    rw [if_neg hs]
    exact ⟨rfl, rfl, fun _ => hQ, fun z => absurd rfl z⟩
theorem S61 {d p : Nat} {Q : bk_Q} {m x y : Int} {M : bk_M} (h : bkNow M p) (hp3 : p < 3) (h0 : 0 ≤ M 3 0 0 ∧ M 3 0 0 ≤ 8) (h1 : 0 ≤ M 3 0 1 ∧ M 3 0 1 < 8) : bk_C (d + 3) 0 61 [bk_c 11 0, bk_i m, bk_i x, bk_i y] M Q ↔ Q 0 (bkDoR (M 58 0) m x y) (if bkDoR (M 58 0) m x y = 0 then bkRol (bkKeep M p) p m (6 * y + x) else M) := by
  refine bk_det (fun Q hQ => ?_) Q
  obtain ⟨n1, n2, n3, n4, n5, n6, -⟩ := bkNow_md h
  obtain ⟨hp, hP, ⟨b1, b2, b3, b4, -⟩, -⟩ := bkNow_e h
  unfold bkDoR at hQ
  rw [E_61, hp, S20 hP, b3, b4, hp, b2]
  by_cases hm : 0 ≤ m ∧ m < M 58 0 1
  · by_cases hc : 0 ≤ x ∧ x < M 58 0 2 ∧ 0 ≤ y ∧ y < M 58 0 3
    · rw [if_pos ⟨hm.1, hm.2, hc⟩] at hQ
      rw [if_pos hc, S62 h hm ⟨hc.1, hc.2.1⟩ hc.2.2]
      refine ⟨rfl, fun z => absurd z (by omega), fun _ => ⟨fun z => absurd z (by omega), fun _ => ⟨fun _ => ⟨rfl, fun z => ?_, fun z => ?_⟩, fun z => absurd (show 6 * y + x ≠ -1 by omega) z⟩⟩⟩
      · rwa [if_neg z] at hQ
      · have z := Decidable.not_not.1 z
        rw [hp, S57 hp3 h0 h1]
        rw [show (bkKeep M p 11 0 1).toNat = p by rw [bkKeep_o (by decide) (.inr (by omega))]; exact hp]
        rw [S63 (by omega)]
        rw [if_pos z] at hQ
        exact ⟨rfl, rfl, hQ⟩
    · rw [if_neg (fun w => hc w.2.2), if_neg (by decide)] at hQ
      rw [if_neg hc]
      exact ⟨rfl, fun _ => hQ, fun _ => ⟨fun _ => hQ, fun _ => ⟨fun z => absurd rfl z, fun _ => hQ⟩⟩⟩
  · rw [if_neg (fun w => hm ⟨w.1, w.2.1⟩), if_neg (by decide)] at hQ
    refine ⟨rfl, fun _ => hQ, fun z => ⟨fun _ => hQ, fun z2 => absurd (show 0 ≤ m ∧ m < M 58 0 1 by omega) hm⟩⟩
/-- the reference's works -/
theorem S208 {d : Nat} {Q : bk_Q} {s x y : Int} {M : bk_M} (h : bkMd (M 58 0)) (h25 : 0 ≤ M 12 0 25 ∧ M 12 0 25 ≤ 8) : bk_C (d + 6) 0 208 [bk_c 12 0, bk_i s, bk_i x, bk_i y] M Q ↔ Q 0 (bkDo (M 58 0) 0 s x y) (if bkDo (M 58 0) 0 s x y = 0 then bkLivW (bkSnap (bk_up M 12 0 0 0)) 0 s x y else bk_up M 12 0 0 0) := by
  refine bk_det (fun Q hQ => ?_) Q
  have e : bk_up M 12 0 0 0 58 0 = M 58 0 := bk_upk (by decide)
  have e2 : bk_up M 12 0 0 0 12 0 25 = M 12 0 25 := bk_up12 (by decide)
  rw [← e] at h hQ
  rw [← e2] at h25
  rw [E_208]
  simp only [forall_eq]
  generalize bk_up M 12 0 0 0 = M1 at *
  clear e e2
  obtain ⟨n1, n2, -⟩ := id h
  unfold bkDo at hQ
  rw [S157, S156 n1 n2]
  by_cases hs : 0 ≤ s ∧ s ≤ 1
  · rw [if_pos hs]
    by_cases hc : 0 ≤ x ∧ x < M1 58 0 2 ∧ 0 ≤ y ∧ y < M1 58 0 3
    · rw [if_pos ⟨hs.1, hs.2, hc⟩] at hQ
      rw [if_pos hc, S209w h h25 (.inl rfl) hs ⟨hc.1, hc.2.1⟩ hc.2.2]
      exact ⟨rfl, fun z => absurd z (by decide), fun _ => ⟨rfl, fun z => absurd z (by decide), fun _ => ⟨rfl, hQ⟩⟩⟩
    · rw [if_neg (fun w => hc w.2.2), if_neg (by decide)] at hQ
      rw [if_neg hc]
      exact ⟨rfl, fun z => absurd z (by decide), fun _ => ⟨rfl, fun _ => hQ, fun z => absurd rfl z⟩⟩
  · rw [if_neg (fun w => hs ⟨w.1, w.2.1⟩), if_neg (by decide)] at hQ
    rw [if_neg hs]
    exact ⟨rfl, fun _ => hQ, fun z => absurd rfl z⟩
theorem S215 {d : Nat} {Q : bk_Q} {s x y : Int} {M : bk_M} (h : bkMd (M 58 0)) (h25 : 0 ≤ M 12 0 25 ∧ M 12 0 25 ≤ 8) : bk_C (d + 6) 0 215 [bk_c 12 0, bk_i s, bk_i x, bk_i y] M Q ↔ Q 0 (bkDo (M 58 0) 1 s x y) (if bkDo (M 58 0) 1 s x y = 0 then bkLivW (bkSnap (bk_up M 12 0 0 0)) 1 s x y else bk_up M 12 0 0 0) := by
  refine bk_det (fun Q hQ => ?_) Q
  have e : bk_up M 12 0 0 0 58 0 = M 58 0 := bk_upk (by decide)
  have e2 : bk_up M 12 0 0 0 12 0 25 = M 12 0 25 := bk_up12 (by decide)
  rw [← e] at h hQ
  rw [← e2] at h25
  rw [E_215]
  simp only [forall_eq]
  generalize bk_up M 12 0 0 0 = M1 at *
  clear e e2
  obtain ⟨n1, n2, -⟩ := id h
  unfold bkDo at hQ
  rw [S157, S156 n1 n2]
  by_cases hs : 0 ≤ s ∧ s ≤ 1
  · rw [if_pos hs]
    by_cases hc : 0 ≤ x ∧ x < M1 58 0 2 ∧ 0 ≤ y ∧ y < M1 58 0 3
    · rw [if_pos ⟨hs.1, hs.2, hc⟩] at hQ
      rw [if_pos hc, S209w h h25 (.inr rfl) hs ⟨hc.1, hc.2.1⟩ hc.2.2]
      exact ⟨rfl, fun z => absurd z (by decide), fun _ => ⟨rfl, fun z => absurd z (by decide), fun _ => ⟨rfl, hQ⟩⟩⟩
    · rw [if_neg (fun w => hc w.2.2), if_neg (by decide)] at hQ
      rw [if_neg hc]
      exact ⟨rfl, fun z => absurd z (by decide), fun _ => ⟨rfl, fun _ => hQ, fun z => absurd rfl z⟩⟩
  · rw [if_neg (fun w => hs ⟨w.1, w.2.1⟩), if_neg (by decide)] at hQ
    rw [if_neg hs]
    exact ⟨rfl, fun _ => hQ, fun z => absurd rfl z⟩
theorem S216 {d : Nat} {Q : bk_Q} {m x y : Int} {M : bk_M} (h : bkMd (M 58 0)) (h25 : 0 ≤ M 12 0 25 ∧ M 12 0 25 ≤ 8) : bk_C (d + 6) 0 216 [bk_c 12 0, bk_i m, bk_i x, bk_i y] M Q ↔ Q 0 (bkDoR (M 58 0) m x y) (if bkDoR (M 58 0) m x y = 0 then bkLivR (bkSnap (bk_up M 12 0 0 0)) m x y else bk_up M 12 0 0 0) := by
  refine bk_det (fun Q hQ => ?_) Q
  have e : bk_up M 12 0 0 0 58 0 = M 58 0 := bk_upk (by decide)
  have e2 : bk_up M 12 0 0 0 12 0 25 = M 12 0 25 := bk_up12 (by decide)
  rw [← e] at h hQ
  rw [← e2] at h25
  rw [E_216]
  simp only [forall_eq]
  generalize bk_up M 12 0 0 0 = M1 at *
  clear e e2
  obtain ⟨n1, n2, -⟩ := id h
  unfold bkDoR at hQ
  rw [S198 h, S156 n1 n2]
  by_cases hs : 0 ≤ m ∧ m < M1 58 0 1
  · rw [if_pos hs]
    by_cases hc : 0 ≤ x ∧ x < M1 58 0 2 ∧ 0 ≤ y ∧ y < M1 58 0 3
    · rw [if_pos ⟨hs.1, hs.2, hc⟩] at hQ
      rw [if_pos hc, S209r h h25 hs ⟨hc.1, hc.2.1⟩ hc.2.2]
      exact ⟨rfl, fun z => absurd z (by decide), fun _ => ⟨rfl, fun z => absurd z (by decide), fun _ => ⟨rfl, hQ⟩⟩⟩
    · rw [if_neg (fun w => hc w.2.2), if_neg (by decide)] at hQ
      rw [if_neg hc]
      exact ⟨rfl, fun z => absurd z (by decide), fun _ => ⟨rfl, fun _ => hQ, fun z => absurd rfl z⟩⟩
  · rw [if_neg (fun w => hs ⟨w.1, w.2.1⟩), if_neg (by decide)] at hQ
    rw [if_neg hs]
    exact ⟨rfl, fun _ => hQ, fun z => absurd rfl z⟩
