/-! A BOOK's text, purely. S: 4n what is done (0 dig, 1 lay, 3 springs, 4 roll), 4n+1 who or how many, 4n+2 x or the seed, 4n+3 y; f, m the names of the mills. -/
def bkB4 (S : Int → Int) (n k s x y : Int) : Int → Int := bkPut (bkPut (bkPut (bkPut S (4 * n) k) (4 * n + 1) s) (4 * n + 2) x) (4 * n + 3) y
def bkB3 (S : Int → Int) (n k x : Int) : Int → Int := bkPut (bkPut (bkPut S (4 * n) 3) (4 * n + 1) k) (4 * n + 2) x
theorem bkB4_v {S : Int → Int} {n k s x y : Int} : bkB4 S n k s x y (4 * n) = k ∧ bkB4 S n k s x y (4 * n + 1) = s ∧ bkB4 S n k s x y (4 * n + 2) = x ∧ bkB4 S n k s x y (4 * n + 3) = y ∧ ∀ j, j < 4 * n → bkB4 S n k s x y j = S j := by
  unfold bkB4 bkPut
  refine ⟨?_, ?_, ?_, ?_, fun j hj => ?_⟩ <;> ((repeat' split) <;> first | rfl | (exfalso; omega))
theorem bkB3_v {S : Int → Int} {n k x : Int} : bkB3 S n k x (4 * n) = 3 ∧ bkB3 S n k x (4 * n + 1) = k ∧ bkB3 S n k x (4 * n + 2) = x ∧ ∀ j, j < 4 * n → bkB3 S n k x j = S j := by
  unfold bkB3 bkPut
  refine ⟨?_, ?_, ?_, fun j hj => ?_⟩ <;> ((repeat' split) <;> first | rfl | (exfalso; omega))
def bkBPl (T : Int → Int) (c L : Int) (S : Int → Int) (n k s i : Int) : (Int × Int) ⊕ (Int × (Int → Int)) :=
  match bkNu T c L 0 5 i with
  | .inl e => .inl e
  | .inr x => match bkNu T c L 0 5 (bkTn T c L i) with
    | .inl e => .inl e
    | .inr y => .inr (bkTn T c L (bkTn T c L i), bkB4 S n k s x y)
def bkBSide (T : Int → Int) (c L : Int) (S : Int → Int) (n s i : Int) : (Int × Int) ⊕ (Int × (Int → Int)) :=
  if bkIsW T c L i 9 = true then bkBPl T c L S n 0 s (bkTn T c L i) else if bkIsW T c L i 10 = true then bkBPl T c L S n 1 s (bkTn T c L i) else .inl (1, bkTf T c L i)
def bkBRoll (T : Int → Int) (c L : Int) (S : Int → Int) (n s i : Int) : (Int × Int) ⊕ (Int × (Int → Int)) :=
  if bkIsW T c L i 11 = true then bkBPl T c L S n 4 s (bkTn T c L i) else .inl (1, bkTf T c L i)
def bkBSp (T : Int → Int) (c L : Int) (S : Int → Int) (n i : Int) : (Int × Int) ⊕ (Int × (Int → Int)) :=
  match bkNu T c L 0 999 i with
  | .inl e => .inl e
  | .inr v => .inr (bkTn T c L i, bkB3 S n 1 v)
def bkBYr (T : Int → Int) (c L : Int) (S : Int → Int) (n i : Int) : (Int × Int) ⊕ (Int × (Int → Int)) :=
  match bkNu T c L 1 30 i with
  | .inl e => .inl e
  | .inr v => .inr (bkTn T c L i, bkB3 S n v v)
def bkBMl (f : Int → Int) (m : Nat) (T : Int → Int) (c L i : Int) : Int := if bkIsW T c L i (-1) = true then bkIx f (bkTw 32 T c i) m else -1
/-- a line, its first token at i, n lines ahead of it -/
def bkBLine (f : Int → Int) (m : Nat) (T : Int → Int) (c L n : Int) (S : Int → Int) (i : Int) : (Int × Int) ⊕ (Int × (Int → Int)) :=
  if bkIsW T c L i (-1) = true ∧ bkBMl f m T c L i = -1 then .inl (3, bkTf T c L i) else
  if bkBMl f m T c L i = -1 ∧ ¬ (bkIsW T c L i 6 = true ∨ bkIsW T c L i 7 = true ∨ bkIsW T c L i 12 = true ∨ bkIsW T c L i 13 = true) then .inl (1, bkTf T c L i) else
  if 40 ≤ n then .inl (4, bkTf T c L i) else
  if bkIsW T c L i 12 = true then bkBSp T c L S n (bkTn T c L i) else
  if bkIsW T c L i 13 = true then bkBYr T c L S n (bkTn T c L i) else
  if bkIsW T c L i 6 = true then bkBSide T c L S n 0 (bkTn T c L i) else
  if bkIsW T c L i 7 = true then bkBSide T c L S n 1 (bkTn T c L i) else bkBRoll T c L S n (bkBMl f m T c L i) (bkTn T c L i)
/-- the text: what is wrong and where, or how many lines and what they say -/
def bkBTx (f : Int → Int) (m : Nat) (T : Int → Int) (c L : Int) : Nat → Int → (Int → Int) → Int → (Int × Int) ⊕ (Int × (Int → Int))
  | 0, _, _, _ => .inl (0, 0)
  | k + 1, n, S, i => if bkTk T c L i = 0 then .inr (n, S) else match bkBLine f m T c L n S i with
    | .inl e => .inl e
    | .inr (j, S') => if bkTk T c L j = 59 then bkBTx f m T c L k (n + 1) S' (bkTn T c L j) else .inl (1, bkTf T c L j)
theorem bkBTx_s {f : Int → Int} {m : Nat} {T : Int → Int} {c L : Int} {k : Nat} {n i : Int} {S : Int → Int} : bkBTx f m T c L (k + 1) n S i = if bkTk T c L i = 0 then .inr (n, S) else match bkBLine f m T c L n S i with
    | .inl e => .inl e
    | .inr (j, S') => if bkTk T c L j = 59 then bkBTx f m T c L k (n + 1) S' (bkTn T c L j) else .inl (1, bkTf T c L j) := rfl
theorem bkIsW_u {T : Int → Int} {c L i a b : Int} (h : bkIsW T c L i a = true) (h2 : bkIsW T c L i b = true) : a = b := by
  unfold bkIsW at *
  rw [decide_eq_true_eq] at *
  omega
/-- what holds of lines -/
def bkBw (m : Nat) (S : Int → Int) (j : Int) : Prop := (S (4 * j) = 0 ∨ S (4 * j) = 1 ∨ S (4 * j) = 3 ∨ S (4 * j) = 4) ∧ (S (4 * j) ≤ 1 → 0 ≤ S (4 * j + 1) ∧ S (4 * j + 1) ≤ 1) ∧ (S (4 * j) = 4 → 0 ≤ S (4 * j + 1) ∧ S (4 * j + 1) < m) ∧ (S (4 * j) = 3 → 1 ≤ S (4 * j + 1) ∧ S (4 * j + 1) ≤ 30)
def bkBv (m : Nat) (S : Int → Int) (n : Int) : Prop := ∀ j, 0 ≤ j → j < n → bkBw m S j
theorem bkBw_e {m : Nat} {S S' : Int → Int} {n j : Int} (h : bkBw m S j) (hj : j < n) (e : ∀ j, j < 4 * n → S' j = S j) : bkBw m S' j := by
  unfold bkBw at *
  rw [e _ (by omega), e _ (by omega)]
  exact h
theorem bkBv_s {m : Nat} {S S' : Int → Int} {n : Int} (h : bkBv m S n) (e : ∀ j, j < 4 * n → S' j = S j) (hn : bkBw m S' n) : bkBv m S' (n + 1) := fun j h0 h1 => by
  by_cases z : j = n
  · rw [z]; exact hn
  · exact bkBw_e (h j h0 (by omega)) (n := n) (by omega) e
def bkBk (m : Nat) (c n i : Int) (O : (Int × Int) ⊕ (Int × (Int → Int))) : Prop := (∀ j S, O = .inr (j, S) → i ≤ j ∧ j ≤ c ∧ n < 40 ∧ bkBv m S (n + 1)) ∧ (∀ w q, O = .inl (w, q) → c ≤ 940 → 0 ≤ q ∧ q ≤ 940)
theorem bkBk_l {m : Nat} {c n i w q : Int} (h : c ≤ 940 → 0 ≤ q ∧ q ≤ 940) : bkBk m c n i (.inl (w, q)) := ⟨fun j S e => (by cases e), fun w q e => (by cases e; exact h)⟩
theorem bkBk_n {m : Nat} {T : Int → Int} {c L lo hi n i k : Int} {e : Int × Int} (hL : 0 ≤ L ∧ L ≤ 940) (h : 0 ≤ i ∧ i ≤ c) (he : bkNu T c L lo hi i = .inl e) : bkBk m c n k (.inl e) := ⟨fun j S e => (by cases e), fun w q e' hc => (by cases e'; exact bkNu_b hc hL h he w q rfl)⟩
theorem bkBk_pl {m : Nat} {T : Int → Int} {c L n k s i : Int} {S : Int → Int} (hL : 0 ≤ L ∧ L ≤ 940) (h : 0 ≤ i ∧ i ≤ c) (hn : n < 40) (hS : bkBv m S n) (hk : ((k = 0 ∨ k = 1) ∧ 0 ≤ s ∧ s ≤ 1) ∨ (k = 4 ∧ 0 ≤ s ∧ s < m)) : bkBk m c n i (bkBPl T c L S n k s i) := by
  have h1 := @bkTn_b T c L i h.2
  have h2 := @bkTn_b T c L (bkTn T c L i) h1.2
  unfold bkBPl
  rcases e : bkNu T c L 0 5 i with w | x
  · exact bkBk_n hL h e
  · dsimp only
    rcases e' : bkNu T c L 0 5 (bkTn T c L i) with w | y
    · exact bkBk_n hL (by omega) e'
    · dsimp only
      refine ⟨fun j S' e2 => ?_, fun w q e2 => (by cases e2)⟩
      cases e2
      obtain ⟨v1, v2, v3, v4, v5⟩ := @bkB4_v S n k s x y
      refine ⟨by omega, by omega, hn, bkBv_s hS v5 ?_⟩
      unfold bkBw
      rw [v1, v2]
      omega
theorem bkBk_line {f : Int → Int} {m : Nat} {T : Int → Int} {c L n i : Int} {S : Int → Int} (hL : 0 ≤ L ∧ L ≤ 940) (h : 0 ≤ i ∧ i ≤ c) (hS : bkBv m S n) : bkBk m c n (bkTn T c L i) (bkBLine f m T c L n S i) := by
  have h1 := @bkTn_b T c L i h.2
  have h2 := @bkTn_b T c L (bkTn T c L i) h1.2
  have b : c ≤ 940 → 0 ≤ bkTf T c L i ∧ bkTf T c L i ≤ 940 := fun hc => bkTf_b h hc hL
  have b1 : c ≤ 940 → 0 ≤ bkTf T c L (bkTn T c L i) ∧ bkTf T c L (bkTn T c L i) ≤ 940 := fun hc => bkTf_b (by omega) hc hL
  have up : ∀ {O : (Int × Int) ⊕ (Int × (Int → Int))}, bkBk m c n (bkTn T c L (bkTn T c L i)) O → bkBk m c n (bkTn T c L i) O := fun q => ⟨fun j S e => (by have := q.1 j S e; exact ⟨by omega, this.2⟩), q.2⟩
  unfold bkBLine
  by_cases z : bkIsW T c L i (-1) = true ∧ bkBMl f m T c L i = -1
  · rw [if_pos z]; exact bkBk_l b
  rw [if_neg z]
  by_cases z2 : bkBMl f m T c L i = -1 ∧ ¬ (bkIsW T c L i 6 = true ∨ bkIsW T c L i 7 = true ∨ bkIsW T c L i 12 = true ∨ bkIsW T c L i 13 = true)
  · rw [if_pos z2]; exact bkBk_l b
  rw [if_neg z2]
  by_cases hn : 40 ≤ n
  · rw [if_pos hn]; exact bkBk_l b
  rw [if_neg hn]
  by_cases z12 : bkIsW T c L i 12 = true
  · rw [if_pos z12]
    unfold bkBSp
    rcases e : bkNu T c L 0 999 (bkTn T c L i) with w | v
    · exact bkBk_n hL (by omega) e
    · dsimp only
      refine ⟨fun j S' e2 => ?_, fun w q e2 => (by cases e2)⟩
      cases e2
      obtain ⟨v1, v2, v3, v5⟩ := @bkB3_v S n 1 v
      refine ⟨by omega, by omega, by omega, bkBv_s hS v5 ?_⟩
      unfold bkBw
      rw [v1, v2]
      omega
  rw [if_neg z12]
  by_cases z13 : bkIsW T c L i 13 = true
  · rw [if_pos z13]
    unfold bkBYr
    rcases e : bkNu T c L 1 30 (bkTn T c L i) with w | v
    · exact bkBk_n hL (by omega) e
    · dsimp only
      have := bkNu_r e
      refine ⟨fun j S' e2 => ?_, fun w q e2 => (by cases e2)⟩
      cases e2
      obtain ⟨v1, v2, v3, v5⟩ := @bkB3_v S n v v
      refine ⟨by omega, by omega, by omega, bkBv_s hS v5 ?_⟩
      unfold bkBw
      rw [v1, v2]
      omega
  rw [if_neg z13]
  have side : ∀ s, 0 ≤ s ∧ s ≤ 1 → bkBk m c n (bkTn T c L i) (bkBSide T c L S n s (bkTn T c L i)) := fun s hs => by
    unfold bkBSide
    by_cases q : bkIsW T c L (bkTn T c L i) 9 = true
    · rw [if_pos q]; exact up (bkBk_pl hL (by omega) (by omega) hS (by omega))
    rw [if_neg q]
    by_cases q : bkIsW T c L (bkTn T c L i) 10 = true
    · rw [if_pos q]; exact up (bkBk_pl hL (by omega) (by omega) hS (by omega))
    rw [if_neg q]; exact bkBk_l b1
  by_cases z6 : bkIsW T c L i 6 = true
  · rw [if_pos z6]; exact side 0 (by omega)
  rw [if_neg z6]
  by_cases z7 : bkIsW T c L i 7 = true
  · rw [if_pos z7]; exact side 1 (by omega)
  rw [if_neg z7]
  have hm : bkBMl f m T c L i ≠ -1 := fun q => z2 ⟨q, by simp [z6, z7, z12, z13]⟩
  have hb : 0 ≤ bkBMl f m T c L i ∧ bkBMl f m T c L i < m := by
    unfold bkBMl at hm ⊢
    have := @bkIx_b f (bkTw 32 T c i) m
    split at hm
    · rename_i w
      rw [if_pos w]
      omega
    · omega
  unfold bkBRoll
  by_cases q : bkIsW T c L (bkTn T c L i) 11 = true
  · rw [if_pos q]; exact up (bkBk_pl hL (by omega) (by omega) hS (by omega))
  rw [if_neg q]; exact bkBk_l b1
theorem bkBk_tx {f : Int → Int} {m : Nat} {T : Int → Int} {c L : Int} (hL : 0 ≤ L ∧ L ≤ 940) (hc : c ≤ 940) : ∀ (k : Nat) (n i : Int) (S : Int → Int), 0 ≤ i ∧ i ≤ c → 0 ≤ n ∧ n ≤ 40 → bkBv m S n → (∀ w q, bkBTx f m T c L k n S i = .inl (w, q) → 0 ≤ q ∧ q ≤ 940) ∧ (∀ n' S', bkBTx f m T c L k n S i = .inr (n', S') → 0 ≤ n' ∧ n' ≤ 40 ∧ bkBv m S' n')
  | 0, _, _, _, _, _, _ => ⟨fun w q e => (by unfold bkBTx at e; cases e; omega), fun n S e => (by unfold bkBTx at e; cases e)⟩
  | k + 1, n, i, S, h, hn, hS => by
    rw [bkBTx_s]
    by_cases z : bkTk T c L i = 0
    · rw [if_pos z]
      exact ⟨fun w q e => (by cases e), fun n S e => (by cases e; exact ⟨by omega, by omega, hS⟩)⟩
    · rw [if_neg z]
      have hl := bkBk_line (f := f) (m := m) (S := S) (n := n) hL h (T := T) hS
      have h1 := @bkTn_b T c L i h.2
      rcases e : bkBLine f m T c L n S i with ⟨w, q⟩ | ⟨j, S'⟩
      · rw [e] at hl
        exact ⟨fun w q e => (by cases e; exact hl.2 _ _ rfl hc), fun n S e => (by cases e)⟩
      · rw [e] at hl
        obtain ⟨k1, k2, k3, k4⟩ := hl.1 j S' rfl
        have hn := @bkTn_b T c L j k2
        dsimp only
        by_cases w : bkTk T c L j = 59
        · rw [if_pos w]; exact bkBk_tx hL hc k _ _ S' (by omega) (by omega) k4
        · rw [if_neg w]
          exact ⟨fun w q e => (by cases e; exact bkTf_b (by omega) hc hL), fun n S e => (by cases e)⟩
