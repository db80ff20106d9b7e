/-! The place of a fault lies on the tape. -/
def bkPb (O : (Int × Int) ⊕ (Int × (Int → Int))) : Prop := ∀ w q, O = .inl (w, q) → 0 ≤ q ∧ q ≤ 940
theorem bkPb_l {w q : Int} (h : 0 ≤ q ∧ q ≤ 940) : bkPb (.inl (w, q)) := fun w q e => (by cases e; exact h)
theorem bkPb_r {x : Int × (Int → Int)} : bkPb (.inr x) := fun w q e => (by cases e)
theorem bkTf_b {T : Int → Int} {c L i : Int} (h : 0 ≤ i ∧ i ≤ c) (hc : c ≤ 940) (hL : 0 ≤ L ∧ L ≤ 940) : 0 ≤ bkTf T c L i ∧ bkTf T c L i ≤ 940 := by
  obtain ⟨q1, q2, -, -⟩ := bkEd_ok (fun j => bkBl (T j)) _ i rfl h.2
  change i ≤ bkTp T c i at q1
  change bkTp T c i ≤ c at q2
  unfold bkTf
  split <;> omega
theorem bkNu_b {T : Int → Int} {c L lo hi i : Int} {e : Int × Int} (hc : c ≤ 940) (hL : 0 ≤ L ∧ L ≤ 940) (h : 0 ≤ i ∧ i ≤ c) (he : bkNu T c L lo hi i = .inl e) : bkPb (.inl e) := by
  have b := bkTf_b (T := T) h hc hL
  unfold bkNu at he
  split at he
  · split at he
    · cases he
    · cases he; exact bkPb_l b
  · cases he; exact bkPb_l b
theorem bkPb_cell {T : Int → Int} {c L i : Int} {S : Int → Int} {f : Int → Int → (Int × Int) ⊕ (Int × (Int → Int))} (hc : c ≤ 940) (hL : 0 ≤ L ∧ L ≤ 940) (h : 0 ≤ i ∧ i ≤ c) (hf : ∀ x y, bkPb (f x y)) : bkPb (bkCell T c L S i f) := by
  have hn := @bkTn_b T c L i h.2
  unfold bkCell
  rcases e : bkNu T c L 0 (S 2 - 1) i with x | x
  · exact bkNu_b hc hL h e
  · dsimp only
    rcases e' : bkNu T c L 0 (S 3 - 1) (bkTn T c L i) with y | y
    · exact bkNu_b hc hL (by omega) e'
    · exact hf x y
theorem bkPb_one {T : Int → Int} {c L i q o k hi : Int} {S S' : Int → Int} (hc : c ≤ 940) (hL : 0 ≤ L ∧ L ≤ 940) (h : 0 ≤ i ∧ i ≤ c) (hq : 0 ≤ q ∧ q ≤ 940) : bkPb (bkLOne T c L S i q o k hi S') := by
  unfold bkLOne
  by_cases z : S o = 1
  · rw [if_pos z]; exact bkPb_l hq
  · rw [if_neg z]
    rcases e : bkNu T c L 0 hi i with v | v
    · exact bkNu_b hc hL h e
    · exact bkPb_r
theorem bkPb_name {T : Int → Int} {c L i : Int} {S : Int → Int} {f : Int → (Int × Int) ⊕ (Int × (Int → Int))} (hc : c ≤ 940) (hL : 0 ≤ L ∧ L ≤ 940) (h : 0 ≤ i ∧ i ≤ c) (hf : ∀ k, bkPb (f k)) : bkPb (bkLName T c L S i f) := by
  unfold bkLName
  have b := bkTf_b (T := T) h hc hL
  by_cases w : bkIsW T c L i (-1) = true
  · rw [if_pos w]
    by_cases w2 : bkKnown S (bkTw 32 T c i) = true
    · rw [if_pos w2]; exact bkPb_l b
    · rw [if_neg w2]; exact hf _
  · rw [if_neg w]; exact bkPb_l b
theorem bkPb_line {T : Int → Int} {c L i : Int} {S : Int → Int} (hc : c ≤ 940) (hL : 0 ≤ L ∧ L ≤ 940) (h : 0 ≤ i ∧ i ≤ c) : bkPb (bkLine T c L S i) := by
  have hn := @bkTn_b T c L i h.2
  have hn2 := @bkTn_b T c L (bkTn T c L i) hn.2
  have hn3 := @bkTn_b T c L (bkTn T c L (bkTn T c L i)) hn2.2
  have hn4 := @bkTn_b T c L (bkTn T c L (bkTn T c L (bkTn T c L i))) hn3.2
  have b := bkTf_b (T := T) h hc hL
  have b1 := bkTf_b (T := T) (i := bkTn T c L i) (by omega) hc hL
  have b2 := bkTf_b (T := T) (i := bkTn T c L (bkTn T c L i)) (by omega) hc hL
  have b3 := bkTf_b (T := T) (i := bkTn T c L (bkTn T c L (bkTn T c L i))) (by omega) hc hL
  unfold bkLine
  by_cases z : bkIsW T c L i 0 = true
  · rw [if_pos z]
    unfold bkLSize
    by_cases w : S 170 = 1 ∨ S 120 = 1
    · rw [if_pos w]; exact bkPb_l b
    · rw [if_neg w]
      rcases e : bkNu T c L 3 6 (bkTn T c L i) with x | v
      · exact bkNu_b hc hL (by omega) e
      · dsimp only
        rcases e' : bkNu T c L 2 6 (bkTn T c L (bkTn T c L i)) with x | w
        · exact bkNu_b hc hL (by omega) e'
        · exact bkPb_r
  rw [if_neg z]
  by_cases z : bkIsW T c L i 1 = true
  · rw [if_pos z]
    unfold bkLLand
    refine bkPb_cell hc hL (by omega) fun x y => ?_
    by_cases w : S (130 + (6 * y + x)) = 1
    · rw [if_pos w]; exact bkPb_l b2
    · rw [if_neg w]
      rcases e : bkNu T c L 0 9 (bkTn T c L (bkTn T c L (bkTn T c L i))) with v | v
      · exact bkNu_b hc hL (by omega) e
      · exact bkPb_r
  rw [if_neg z]
  by_cases z : bkIsW T c L i 2 = true
  · rw [if_pos z]; exact bkPb_one hc hL (by omega) b
  rw [if_neg z]
  by_cases z : bkIsW T c L i 3 = true
  · rw [if_pos z]
    unfold bkLField
    by_cases w : 10 ≤ S 0
    · rw [if_pos w]; exact bkPb_l b
    · rw [if_neg w]
      refine bkPb_name hc hL (by omega) fun k => bkPb_cell hc hL (by omega) fun x y => ?_
      by_cases w2 : bkTaken S x y (S 0).toNat = true
      · rw [if_pos w2]; exact bkPb_l b3
      · rw [if_neg w2]
        rcases e : bkNu T c L 1 20 (bkTn T c L (bkTn T c L (bkTn T c L (bkTn T c L i)))) with v | v
        · exact bkNu_b hc hL (by omega) e
        · exact bkPb_r
  rw [if_neg z]
  by_cases z : bkIsW T c L i 4 = true
  · rw [if_pos z]
    unfold bkLMill
    by_cases w : 3 ≤ S 1
    · rw [if_pos w]; exact bkPb_l b
    · rw [if_neg w]
      exact bkPb_name hc hL (by omega) fun k => bkPb_cell hc hL (by omega) fun x y => bkPb_r
  rw [if_neg z]
  by_cases z : bkIsW T c L i 5 = true
  · rw [if_pos z]
    unfold bkLPurse
    by_cases w : bkIsW T c L (bkTn T c L i) 6 = true
    · rw [if_pos w]; exact bkPb_one hc hL (by omega) b1
    · rw [if_neg w]
      by_cases w : bkIsW T c L (bkTn T c L i) 7 = true
      · rw [if_pos w]; exact bkPb_one hc hL (by omega) b1
      · rw [if_neg w]; exact bkPb_l b1
  rw [if_neg z]
  by_cases z : bkIsW T c L i 8 = true
  · rw [if_pos z]; exact bkPb_one hc hL (by omega) b
  rw [if_neg z]; exact bkPb_l b
theorem bkPb_tx {T : Int → Int} {c L : Int} (hc : c ≤ 940) (hL : 0 ≤ L ∧ L ≤ 940) : ∀ (k : Nat) (n i : Int) (S : Int → Int), 0 ≤ i ∧ i ≤ c → bkSv S → bkPb (bkTx T c L k n S i)
  | 0, _, _, _, _, _ => bkPb_l (by omega)
  | k + 1, n, i, S, h, hS => by
    rw [bkTx_s]
    by_cases z : bkTk T c L i = 0
    · rw [if_pos z]; exact bkPb_r
    · rw [if_neg z]
      have hl := bkPb_line (S := S) hc hL h (T := T)
      have hk := bkLk_line (T := T) (L := L) h.2 hS
      rcases e : bkLine T c L S i with x | ⟨j, S'⟩
      · rw [e] at hl; exact hl
      · obtain ⟨k1, k2, k3⟩ := hk j S' e
        have hn := @bkTn_b T c L j k2
        dsimp only
        by_cases w : bkTk T c L j = 59
        · rw [if_pos w]; exact bkPb_tx hc hL k _ _ S' (by omega) k3
        · rw [if_neg w]; exact bkPb_l (bkTf_b (by omega) hc hL)
