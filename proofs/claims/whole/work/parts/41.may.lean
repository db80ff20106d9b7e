/-! Where a side may work, as the ground is. -/
def bkMay (R : Int → Int) (s w : Int) : Bool := decide (w % 36 % 6 < R 2 ∧ w % 36 / 6 < R 3 ∧ bkSide (w % 36 % 6) (R (121 + w % 36 / 6)) ≠ 1 - s ∧ (if w < 36 then 0 < R (85 + w % 36) else R (85 + w % 36) < 9))
theorem bkRL_bed {N : Int → Int} {L : List Int} {y : Int} (h : 0 ≤ y) : bkRL N L (121 + y) = N (121 + y) := bkRL_o (by omega)
theorem S80 {d p : Nat} {Q : bk_Q} {s w : Int} {M : bk_M} {N : Int → Int} {L : List Int} (hR : bkRel M p N) (hg : ∀ c, 0 ≤ c → c < 36 → M 45 1 c = bkRL N L (85 + c)) (hs : 0 ≤ s ∧ s ≤ 1) (hw : 0 ≤ w ∧ w < 72) :
    bk_C (d + 2) 0 80 [bk_c 7 0, bk_c 5 p, bk_i s, bk_i w] M Q ↔ Q 0 (if bkEf N w = true ∧ bkMay (bkRL N L) s w = true then 1 else 0) M := by
  refine bk_det (fun Q hQ => ?_) Q
  have hN := bkRel_md hR
  obtain ⟨n1, n2, n3, n4, n5, n6, n7, n8, n9, -⟩ := hN
  obtain ⟨hP, ⟨b1, b2, b3, b4, b5, b6, b7⟩, ⟨-, -, -, c4, -⟩⟩ := hR
  have hc : 0 ≤ w % 36 ∧ w % 36 < 36 := by omega
  have hG := hg (w % 36) hc.1 hc.2
  unfold bkEf bkMay at hQ
  rw [bkRL_o (by omega), bkRL_o (by omega), bkRL_bed (by omega)] at hQ
  simp only [decide_eq_true_eq] at hQ
  rw [E_80, b3, b4, b5, bkAbs_n, S41 (.inl rfl) hc.1 hc.2, hG]
  have e6 : w % 36 = 6 * (w % 36 / 6) + w % 36 % 6 := by omega
  have eb : w % 36 / 6 < N 3 → bkBank (M 29 p) (w % 36) = bkSide (w % 36 % 6) (N (121 + w % 36 / 6)) := fun z => by
    conv => lhs; rw [e6]
    rw [bkBank_side (by omega) (by omega), c4 _ (by omega) (by omega)]
  have ha : bkAbs (w % 36 % 6 - N 4) ≤ w % 36 / 6 ↔ N 4 - w % 36 / 6 ≤ w % 36 % 6 ∧ w % 36 % 6 ≤ N 4 + w % 36 / 6 := by
    unfold bkAbs; split <;> omega
  have hsb : 0 ≤ bkSide (w % 36 % 6) (N (121 + w % 36 / 6)) ∧ bkSide (w % 36 % 6) (N (121 + w % 36 / 6)) ≤ 2 := by
    unfold bkSide; (repeat' split) <;> omega
  unfold bk_r32
  generalize hy : w % 36 / 6 = y at *
  generalize hx : w % 36 % 6 = x at *
  generalize bkRL N L (85 + w % 36) = h at *
  generalize bkSide x (N (121 + y)) = b at *
  have no : ¬ ((1 ≤ y ∧ y < N 3 ∧ x < N 2 ∧ N 4 - y ≤ x ∧ x ≤ N 4 + y) ∧ x < N 2 ∧ y < N 3 ∧ b ≠ 1 - s ∧ (if w < 36 then 0 < h else h < 9)) → Q 0 0 M := fun z => by rwa [if_neg z] at hQ
  have ye : ((1 ≤ y ∧ y < N 3 ∧ x < N 2 ∧ N 4 - y ≤ x ∧ x ≤ N 4 + y) ∧ x < N 2 ∧ y < N 3 ∧ b ≠ 1 - s ∧ (if w < 36 then 0 < h else h < 9)) → Q 0 1 M := fun z => by rwa [if_pos z] at hQ
  refine ⟨by omega, by omega, by omega, fun z => ⟨.inl rfl, no (by omega)⟩, fun z1 => ⟨fun z => ⟨.inl rfl, no (by omega)⟩, fun z2 => ⟨fun z => ⟨.inl rfl, no (by omega)⟩, fun z3 => ⟨by omega, by omega, fun z4 => ⟨rfl, by omega, fun z5 => ⟨fun z6 => ⟨by omega, fun z7 => ⟨.inl rfl, no fun q => ?_⟩, fun z7 => ⟨.inr rfl, ye ?_⟩⟩, fun z6 => ⟨by omega, fun z7 => ⟨.inl rfl, no fun q => ?_⟩, fun z7 => ⟨.inr rfl, ye ?_⟩⟩⟩, fun z5 => ⟨.inl rfl, no fun q => ?_⟩⟩, fun z4 => ⟨.inl rfl, no fun q => z4 (ha.2 (by omega))⟩⟩⟩⟩⟩
  · have := q.2.2.2.2
    rw [if_neg (by omega)] at this
    omega
  · have := ha.1 z4
    rw [eb (by omega)] at z5
    rw [if_neg (by omega)]
    omega
  · have := q.2.2.2.2
    rw [if_pos (by omega)] at this
    omega
  · have := ha.1 z4
    rw [eb (by omega)] at z5
    rw [if_pos (by omega)]
    omega
  · rw [eb (by omega)] at z5
    exact z5 q.2.2.2.1
theorem S82 {d : Nat} {Q : bk_Q} {w : Int} {M : bk_M} (hw : 0 ≤ w ∧ w < 72) (hg : -99 ≤ M 45 1 (w % 36) ∧ M 45 1 (w % 36) ≤ 99) : bk_C (d + 1) 0 82 [bk_c 7 0, bk_i w] M Q ↔ Q 0 0 (bk_up M 45 1 (w % 36) (M 45 1 (w % 36) + bkWk w)) := by
  refine bk_det (fun Q hQ => ?_) Q
  rw [E_82]
  simp only [forall_eq]
  unfold bkWk at hQ
  unfold bk_r32
  refine ⟨by omega, by omega, fun z => ⟨by omega, by omega, ?_⟩, fun z => ⟨by omega, by omega, ?_⟩⟩
  · rwa [if_neg (by omega)] at hQ
  · rwa [if_pos (by omega)] at hQ
theorem S83 {d : Nat} {Q : bk_Q} {w : Int} {M : bk_M} (hw : 0 ≤ w ∧ w < 72) (hg : -99 ≤ M 45 1 (w % 36) ∧ M 45 1 (w % 36) ≤ 99) : bk_C (d + 1) 0 83 [bk_c 7 0, bk_i w] M Q ↔ Q 0 0 (bk_up M 45 1 (w % 36) (M 45 1 (w % 36) - bkWk w)) := by
  refine bk_det (fun Q hQ => ?_) Q
  rw [E_83]
  simp only [forall_eq]
  unfold bkWk at hQ
  unfold bk_r32
  refine ⟨by omega, by omega, fun z => ⟨by omega, by omega, ?_⟩, fun z => ⟨by omega, by omega, ?_⟩⟩
  · rwa [if_neg (by omega)] at hQ
  · rwa [if_pos (by omega)] at hQ
/-- the last k below top that p takes -/
def bkCd (p : Int → Bool) (top : Int) : Nat → List Int
  | 0 => []
  | k + 1 => if p (top - (k + 1)) then (top - (k + 1)) :: bkCd p top k else bkCd p top k
theorem bkCd_s (p : Int → Bool) {top w : Int} (h : w < top) : bkCd p top (top - w).toNat = if p w then w :: bkCd p top (top - (w + 1)).toNat else bkCd p top (top - (w + 1)).toNat := by
  rw [show (top - w).toNat = (top - (w + 1)).toNat + 1 by omega]
  show (if p (top - ((top - (w + 1)).toNat + 1)) then _ else _) = _
  rw [show top - ((((top - (w + 1)).toNat : Nat) : Int) + 1) = w by omega]
theorem bkCd_filter (p q : Int → Bool) (top : Int) : ∀ k : Nat, bkCd (fun w => q w && p w) top k = (bkCd p top k).filter q
  | 0 => rfl
  | k + 1 => by
    have ih := bkCd_filter p q top k
    show (if q (top - (k + 1)) && p (top - (k + 1)) then _ else _) = (if p (top - (k + 1)) then (top - (k + 1)) :: bkCd p top k else bkCd p top k).filter q
    cases hp : p (top - (k + 1))
    · rw [Bool.and_false]
      exact ih
    · rw [Bool.and_true]
      show _ = List.filter q (_ :: _)
      cases hq : q (top - (k + 1))
      · rw [List.filter_cons_of_neg (by rw [hq]; decide)]
        exact ih
      · rw [List.filter_cons_of_pos hq]
        show _ :: bkCd _ top k = _
        rw [ih]
theorem bkCd_mem (p : Int → Bool) (top : Int) : ∀ (k : Nat) (w : Int), w ∈ bkCd p top k → top - k ≤ w ∧ w < top ∧ p w = true
  | 0, w, h => absurd h (by simp [bkCd])
  | k + 1, w, h => by
    have ih := bkCd_mem p top k w
    have h : w ∈ (if p (top - (k + 1)) then (top - (k + 1)) :: bkCd p top k else bkCd p top k) := h
    cases hp : p (top - (k + 1))
    · rw [hp] at h
      have := ih h
      exact ⟨by omega, this.2.1, this.2.2⟩
    · rw [hp, if_pos rfl] at h
      cases h with
      | head => exact ⟨by omega, by omega, hp⟩
      | tail _ h =>
        have := ih h
        exact ⟨by omega, this.2.1, this.2.2⟩
theorem bkCd_len (p : Int → Bool) (top : Int) : ∀ k : Nat, (bkCd p top k).length ≤ k
  | 0 => Nat.le_refl _
  | k + 1 => by
    have ih := bkCd_len p top k
    show (if p (top - (k + 1)) then (top - (k + 1)) :: bkCd p top k else bkCd p top k).length ≤ _
    split
    · simp only [List.length_cons]; omega
    · omega
/-- the class's list of works -/
def bkWsL (M : bk_M) (A : List Int) : Prop := M 7 0 8 = A.length ∧ ∀ i : Nat, i < A.length → M 43 0 i = A.getD i 0
theorem S79 {d p : Nat} {s a b : Int} {M : bk_M} {N : Int → Int} {L : List Int} (hR : bkRel M p N) (hg : ∀ c, 0 ≤ c → c < 36 → M 45 1 c = bkRL N L (85 + c)) (hs : 0 ≤ s ∧ s ≤ 1) (hab : 0 ≤ a ∧ a ≤ b ∧ b ≤ 72) :
    bk_C (d + 3) 0 79 [bk_c 7 0, bk_c 5 p, bk_i s, bk_i a, bk_i b] M (fun t _ M' => t = 0 ∧ bkFr (fun k i => (k = 7 ∨ k = 43) ∧ i = 0) M M' ∧ (∀ j, j ≠ 8 → M' 7 0 j = M 7 0 j) ∧ bkWsL M' (bkCd (fun w => bkEf N w && bkMay (bkRL N L) s w) b (b - a).toNat)) := by
  rw [E_79]
  intro M1 hM1
  refine bk_loopS (W := fun w M2 => bk_wp (bk_C (d + 2)) P_79 (fun t _ M' => t = 0 ∧ bkFr (fun k i => (k = 7 ∨ k = 43) ∧ i = 0) M M' ∧ (∀ j, j ≠ 8 → M' 7 0 j = M 7 0 j) ∧ bkWsL M' (bkCd (fun w => bkEf N w && bkMay (bkRL N L) s w) b (b - a).toNat)) 0 8 [bk_c 7 0, bk_c 5 p, bk_i s, bk_i a, bk_i b, bk_i w] [] M2) (s := a) (n := b)
    (fun w M2 => bkFr (fun k i => (k = 7 ∨ k = 43) ∧ i = 0) M M2 ∧ (∀ j, j ≠ 8 → M2 7 0 j = M 7 0 j) ∧ ∃ A : List Int, bkWsL M2 A ∧ A.length ≤ (w - a).toNat ∧ A ++ bkCd (fun w => bkEf N w && bkMay (bkRL N L) s w) b (b - w).toNat = bkCd (fun w => bkEf N w && bkMay (bkRL N L) s w) b (b - a).toNat) hab.2.1 ?_ ?_ (M := M1) ⟨?_, ?_, [], ⟨?_, fun i hi => absurd hi (by simp)⟩, by simp, rfl⟩
  · rintro w M2 h0 h1 ⟨F, e7, A, ⟨hl, hA⟩, hlen, hcat⟩ ih
    have R2 : bkRel M2 p N := bkRel_fr hR fun k hk => F k p (by omega)
    have hg2 : ∀ c, 0 ≤ c → c < 36 → M2 45 1 c = bkRL N L (85 + c) := fun c q1 q2 => by rw [F 45 1 (by omega)]; exact hg c q1 q2
    rw [bkCd_s _ h1] at hcat
    rw [L_79_8, hl, S80 R2 hg2 hs (by omega), hl]
    unfold bk_r32
    refine ⟨fun z => absurd z (by omega), fun _ => ⟨fun z => absurd z (by omega), fun _ => ⟨rfl, fun z => ⟨by omega, ?_⟩, fun z => ⟨by omega, ?_⟩⟩⟩⟩
    · have hf : (bkEf N w && bkMay (bkRL N L) s w) = false := by
        cases h : (bkEf N w && bkMay (bkRL N L) s w)
        · rfl
        · rw [Bool.and_eq_true] at h
          rw [if_pos h] at z
          exact absurd z (by decide)
      rw [hf] at hcat
      exact ih M2 ⟨F, e7, A, ⟨hl, hA⟩, by omega, hcat⟩
    · have hf : (bkEf N w && bkMay (bkRL N L) s w) = true := by
        rw [Bool.and_eq_true]
        refine Classical.byContradiction fun h => ?_
        rw [if_neg h] at z
        exact z rfl
      rw [hf, if_pos rfl] at hcat
      intro M4 hM4
      have e48 : M4 7 0 8 = A.length := by rw [hM4, bk_up_f (by decide), hl]
      rw [e48]
      refine ⟨by omega, ?_⟩
      intro M5 hM5
      refine ⟨by omega, ih M5 ⟨?_, fun j hj => ?_, A ++ [w], ⟨?_, fun i hi => ?_⟩, ?_, ?_⟩⟩
      · rw [hM5, hM4]; exact bkFr_up (bkFr_up F ⟨.inr rfl, rfl⟩) ⟨.inl rfl, rfl⟩
      · rw [hM5, bk_up_s hj, hM4, bk_up_f (by decide)]; exact e7 j hj
      · rw [hM5, bk_up_e]; simp
      · rw [List.length_append] at hi
        rw [hM5, bk_up_f (by decide), hM4, bk_up_w]
        by_cases e : i = A.length
        · rw [if_pos (by omega), e]; simp
        · have hi2 : i < A.length := by simp only [List.length_cons, List.length_nil] at hi; omega
          rw [if_neg (by omega), hA i hi2]
          simp [List.getD_eq_getElem?_getD, List.getElem?_append_left hi2]
      · simp only [List.length_append, List.length_cons, List.length_nil]; omega
      · rw [List.append_assoc]; exact hcat
  · rintro M2 ⟨F, e7, A, hA, -, hcat⟩
    rw [show (b - b).toNat = 0 by omega] at hcat
    have : A = bkCd (fun w => bkEf N w && bkMay (bkRL N L) s w) b (b - a).toNat := by rw [← hcat]; exact (List.append_nil A).symm
    rw [L_79_8]
    rw [this] at hA
    exact ⟨fun _ => ⟨rfl, F, e7, hA⟩, fun z => absurd (Int.le_refl _) z⟩
  · rw [hM1]; exact bkFr_up (bkFr_refl _ _) ⟨.inl rfl, rfl⟩
  · intro j hj; rw [hM1, bk_up_s hj]
  · rw [hM1, bk_up_e]; rfl
