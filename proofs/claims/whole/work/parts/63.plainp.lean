/-! A PLAIN text, purely: what each line does to what was read before it. S: 0..79 the row of the reference, 120..124 what came once, 130.. the land told, 170 whether a cell was told, 200.. and 210.. the names of fields and mills. -/
def bkPut (S : Int → Int) (k v : Int) : Int → Int := fun j => if j = k then v else S j
theorem bkPut_e {S : Int → Int} {k v : Int} : bkPut S k v k = v := by unfold bkPut; rw [if_pos rfl]
theorem bkPut_o {S : Int → Int} {k v j : Int} (h : j ≠ k) : bkPut S k v j = S j := by unfold bkPut; rw [if_neg h]
def bkLSize (T : Int → Int) (c L : Int) (S : Int → Int) (i q : Int) : (Int × Int) ⊕ (Int × (Int → Int)) :=
  if S 170 = 1 ∨ S 120 = 1 then .inl (3, q) else match bkNu T c L 3 6 i with
  | .inl e => .inl e
  | .inr v => match bkNu T c L 2 6 (bkTn T c L i) with
    | .inl e => .inl e
    | .inr w => .inr (bkTn T c L (bkTn T c L i), bkPut (bkPut (bkPut S 120 1) 2 v) 3 w)
def bkCell (T : Int → Int) (c L : Int) (S : Int → Int) (i : Int) (f : Int → Int → (Int × Int) ⊕ (Int × (Int → Int))) : (Int × Int) ⊕ (Int × (Int → Int)) :=
  match bkNu T c L 0 (S 2 - 1) i with
  | .inl e => .inl e
  | .inr x => match bkNu T c L 0 (S 3 - 1) (bkTn T c L i) with
    | .inl e => .inl e
    | .inr y => f x y
def bkLLand (T : Int → Int) (c L : Int) (S : Int → Int) (i : Int) : (Int × Int) ⊕ (Int × (Int → Int)) :=
  bkCell T c L S i fun x y => if S (130 + (6 * y + x)) = 1 then .inl (3, bkTf T c L (bkTn T c L i)) else match bkNu T c L 0 9 (bkTn T c L (bkTn T c L i)) with
    | .inl e => .inl e
    | .inr v => .inr (bkTn T c L (bkTn T c L (bkTn T c L i)), bkPut (bkPut (bkPut S 170 1) (130 + (6 * y + x)) 1) (6 + (6 * y + x)) v)
def bkLOne (T : Int → Int) (c L : Int) (S : Int → Int) (i q o k hi : Int) (S' : Int → Int) : (Int × Int) ⊕ (Int × (Int → Int)) :=
  if S o = 1 then .inl (3, q) else match bkNu T c L 0 hi i with
  | .inl e => .inl e
  | .inr v => .inr (bkTn T c L i, bkPut (bkPut S' o 1) k v)
def bkLSource (T : Int → Int) (c L : Int) (S : Int → Int) (i q : Int) : (Int × Int) ⊕ (Int × (Int → Int)) := bkLOne T c L S i q 121 4 (S 2 - 1) (bkPut S 170 1)
def bkLIce (T : Int → Int) (c L : Int) (S : Int → Int) (i q : Int) : (Int × Int) ⊕ (Int × (Int → Int)) := bkLOne T c L S i q 122 5 5 S
def bkKnown (S : Int → Int) (k : Int) : Bool := decide (bkIx (fun j => S (200 + j)) k (S 0).toNat ≠ -1 ∨ bkIx (fun j => S (210 + j)) k (S 1).toNat ≠ -1)
/-- a new name -/
def bkLName (T : Int → Int) (c L : Int) (S : Int → Int) (i : Int) (f : Int → (Int × Int) ⊕ (Int × (Int → Int))) : (Int × Int) ⊕ (Int × (Int → Int)) :=
  if bkIsW T c L i (-1) = true then (if bkKnown S (bkTw 32 T c i) = true then .inl (3, bkTf T c L i) else f (bkTw 32 T c i)) else .inl (1, bkTf T c L i)
def bkTaken (S : Int → Int) (x y : Int) : Nat → Bool
  | 0 => false
  | n + 1 => bkTaken S x y n || decide (S (42 + n) = x ∧ S (52 + n) = y)
def bkLField (T : Int → Int) (c L : Int) (S : Int → Int) (i q : Int) : (Int × Int) ⊕ (Int × (Int → Int)) :=
  if 10 ≤ S 0 then .inl (4, q) else bkLName T c L S i fun k => bkCell T c L S (bkTn T c L i) fun x y =>
    if bkTaken S x y (S 0).toNat = true then .inl (3, bkTf T c L (bkTn T c L (bkTn T c L i))) else match bkNu T c L 1 20 (bkTn T c L (bkTn T c L (bkTn T c L i))) with
    | .inl e => .inl e
    | .inr v => .inr (bkTn T c L (bkTn T c L (bkTn T c L (bkTn T c L i))), bkPut (bkPut (bkPut (bkPut (bkPut (bkPut S (200 + S 0) k) 170 1) (42 + S 0) x) (52 + S 0) y) (62 + S 0) v) 0 (S 0 + 1))
def bkLMill (T : Int → Int) (c L : Int) (S : Int → Int) (i q : Int) : (Int × Int) ⊕ (Int × (Int → Int)) :=
  if 3 ≤ S 1 then .inl (4, q) else bkLName T c L S i fun k => bkCell T c L S (bkTn T c L i) fun x y =>
    .inr (bkTn T c L (bkTn T c L (bkTn T c L i)), bkPut (bkPut (bkPut (bkPut (bkPut S (210 + S 1) k) 170 1) (72 + S 1) x) (75 + S 1) y) 1 (S 1 + 1))
def bkLPurse (T : Int → Int) (c L : Int) (S : Int → Int) (i : Int) : (Int × Int) ⊕ (Int × (Int → Int)) :=
  if bkIsW T c L i 6 = true then bkLOne T c L S (bkTn T c L i) (bkTf T c L i) 123 78 99 S else if bkIsW T c L i 7 = true then bkLOne T c L S (bkTn T c L i) (bkTf T c L i) 124 79 99 S else .inl (1, bkTf T c L i)
/-- a line, its first token at i -/
def bkLine (T : Int → Int) (c L : Int) (S : Int → Int) (i : Int) : (Int × Int) ⊕ (Int × (Int → Int)) :=
  if bkIsW T c L i 0 = true then bkLSize T c L S (bkTn T c L i) (bkTf T c L i) else
  if bkIsW T c L i 1 = true then bkLLand T c L S (bkTn T c L i) else
  if bkIsW T c L i 2 = true then bkLSource T c L S (bkTn T c L i) (bkTf T c L i) else
  if bkIsW T c L i 3 = true then bkLField T c L S (bkTn T c L i) (bkTf T c L i) else
  if bkIsW T c L i 4 = true then bkLMill T c L S (bkTn T c L i) (bkTf T c L i) else
  if bkIsW T c L i 5 = true then bkLPurse T c L S (bkTn T c L i) else
  if bkIsW T c L i 8 = true then bkLIce T c L S (bkTn T c L i) (bkTf T c L i) else .inl (1, bkTf T c L i)
/-- what holds of S -/
def bkSv (S : Int → Int) : Prop := (3 ≤ S 2 ∧ S 2 ≤ 6) ∧ (2 ≤ S 3 ∧ S 3 ≤ 6) ∧ (0 ≤ S 0 ∧ S 0 ≤ 10) ∧ (0 ≤ S 1 ∧ S 1 ≤ 3) ∧ (0 ≤ S 4 ∧ S 4 < S 2) ∧ (0 ≤ S 5 ∧ S 5 ≤ 5) ∧
  (∀ k, 120 ≤ k → k ≤ 170 → S k = 0 ∨ S k = 1) ∧ (S 170 = 0 → S 0 = 0 ∧ S 1 = 0 ∧ S 4 = 0) ∧ (∀ k, 0 ≤ k → k < 36 → 0 ≤ S (6 + k) ∧ S (6 + k) ≤ 9) ∧
  (∀ f, 0 ≤ f → f < S 0 → 0 ≤ S (42 + f) ∧ S (42 + f) < S 2 ∧ 0 ≤ S (52 + f) ∧ S (52 + f) < S 3 ∧ 1 ≤ S (62 + f) ∧ S (62 + f) ≤ 20 ∧ bkNv (S (200 + f))) ∧
  (∀ m, 0 ≤ m → m < S 1 → 0 ≤ S (72 + m) ∧ S (72 + m) < S 2 ∧ 0 ≤ S (75 + m) ∧ S (75 + m) < S 3 ∧ bkNv (S (210 + m))) ∧ (0 ≤ S 78 ∧ S 78 ≤ 99 ∧ 0 ≤ S 79 ∧ S 79 ≤ 99)
theorem bkNu_r {T : Int → Int} {c L lo hi i v : Int} (h : bkNu T c L lo hi i = .inr v) : lo ≤ v ∧ v ≤ hi ∧ bkTk T c L i = 3 ∧ v = bkTv T c i ∧ 0 ≤ v := by
  unfold bkNu at h
  split at h
  · rename_i w
    split at h
    · cases h; exact ⟨by omega, by omega, w, rfl, (bkTv_b w).1⟩
    · cases h
  · cases h
theorem bkNu_n {T : Int → Int} {c L lo hi i v : Int} (h : bkNu T c L lo hi i = .inr v) : i < bkTn T c L i ∧ bkTn T c L i ≤ c ∨ c < i := by
  by_cases hc : i ≤ c
  · obtain ⟨-, -, h3, -, -⟩ := bkNu_r h
    obtain ⟨e1, e2⟩ := bkTk_3 h3
    obtain ⟨q1, q2, -, -⟩ := bkEd_ok (fun j => bkBl (T j)) _ i rfl hc
    obtain ⟨r1, r2, -, -⟩ := bkEd_ok (fun j => bkAl (T j)) _ (bkTp T c i) rfl q2
    have hb := @bkTn_b T c L i hc
    refine .inl ⟨?_, hb.2⟩
    by_cases e : bkTn T c L i = i
    · exfalso
      unfold bkTn at e
      unfold bkTk at h3
      split at h3
      · omega
      · rename_i w1
        split at h3
        · omega
        · rename_i w2
          rw [if_neg (by omega)] at e
          have q1 : i ≤ bkTp T c i := q1
          split at h3
          · rename_i w3
            rw [if_pos w3] at e
            have r1 : bkTp T c i ≤ bkTe T c (bkTp T c i) := r1
            have : bkTe T c (bkTp T c i) = bkTp T c i := by omega
            have r4 := (bkEd_ok (fun j => bkAl (T j)) _ (bkTp T c i) rfl q2).2.2.2
            change c ≤ bkTe T c (bkTp T c i) ∨ bkAl (T (bkTe T c (bkTp T c i))) = false at r4
            rw [this, w3] at r4
            rcases r4 with r4 | r4
            · omega
            · cases r4
          · rename_i w3
            rw [if_neg w3] at e
            omega
    · omega
  · exact .inr (by omega)
