/-! A SENTENCE's text, purely. S: 0 how many ONES, 1 how many nodes, 10+4k.. node k: what (the word's number in the class's order), left child or FIELD, right child or NUMBER, sign. A node stands behind its children. -/
def bkNp (S : Int → Int) (w a b r : Int) : Int → Int := bkPut (bkPut (bkPut (bkPut (bkPut S (10 + 4 * S 1) w) (11 + 4 * S 1) a) (12 + 4 * S 1) b) (13 + 4 * S 1) r) 1 (S 1 + 1)
theorem bkNp_v {S : Int → Int} {w a b r : Int} (h : 0 ≤ S 1) : bkNp S w a b r 0 = S 0 ∧ bkNp S w a b r 1 = S 1 + 1 ∧ bkNp S w a b r (10 + 4 * S 1) = w ∧ bkNp S w a b r (11 + 4 * S 1) = a ∧ bkNp S w a b r (12 + 4 * S 1) = b ∧ bkNp S w a b r (13 + 4 * S 1) = r ∧ ∀ q, 10 ≤ q → q < 10 + 4 * S 1 → bkNp S w a b r q = S q := by
  unfold bkNp bkPut
  refine ⟨?_, ?_, ?_, ?_, ?_, ?_, fun q q0 q1 => ?_⟩ <;> ((repeat' split) <;> first | rfl | (exfalso; omega))
/-- the roots of the first n nodes, the last one first -/
def bkRoots (S : Int → Int) : Nat → List Int → Prop
  | 0, l => l = []
  | k + 1, l => ∃ l', bkRoots S k l' ∧ ((S (10 + 4 * k) = 16 ∧ ∃ t, l' = S (11 + 4 * k) :: t ∧ l = (k : Int) :: t) ∨ ((S (10 + 4 * k) = 14 ∨ S (10 + 4 * k) = 15) ∧ ∃ t, l' = S (12 + 4 * k) :: S (11 + 4 * k) :: t ∧ l = (k : Int) :: t) ∨ (¬ (14 ≤ S (10 + 4 * k) ∧ S (10 + 4 * k) ≤ 16) ∧ l = (k : Int) :: l'))
theorem bkRoots_e {S S' : Int → Int} : ∀ {n : Nat} {l : List Int}, (∀ q, 10 ≤ q → q < 10 + 4 * (n : Int) → S' q = S q) → bkRoots S n l → bkRoots S' n l
  | 0, _, _, h => h
  | k + 1, l, e, h => by
    obtain ⟨l', h1, h2⟩ := h
    refine ⟨l', bkRoots_e (fun q q0 q1 => e q q0 (by omega)) h1, ?_⟩
    rw [e (10 + 4 * k) (by omega) (by omega), e (11 + 4 * k) (by omega) (by omega), e (12 + 4 * k) (by omega) (by omega)]
    exact h2
/-- a node is as it must be -/
def bkNw (m : Nat) (S : Int → Int) (k : Int) : Prop := (S (10 + 4 * k) = 6 ∨ S (10 + 4 * k) = 7 ∨ (14 ≤ S (10 + 4 * k) ∧ S (10 + 4 * k) ≤ 24)) ∧ (S (10 + 4 * k) = 19 ∨ S (10 + 4 * k) = 20 → 0 ≤ S (11 + 4 * k) ∧ S (11 + 4 * k) < m) ∧ (21 ≤ S (10 + 4 * k) → 0 ≤ S (12 + 4 * k) ∧ S (12 + 4 * k) ≤ 999 ∧ 60 ≤ S (13 + 4 * k) ∧ S (13 + 4 * k) ≤ 62)
theorem bkNw_e {m : Nat} {S S' : Int → Int} {k : Int} (h : bkNw m S k) (e : ∀ q, 10 + 4 * k ≤ q → q < 14 + 4 * k → S' q = S q) : bkNw m S' k := by
  unfold bkNw at *
  rw [e (10 + 4 * k) (by omega) (by omega), e (11 + 4 * k) (by omega) (by omega), e (12 + 4 * k) (by omega) (by omega), e (13 + 4 * k) (by omega) (by omega)]
  exact h
/-- from S at i the reader has come to S' at j, one root more -/
def bkSI (m : Nat) (c : Int) (S : Int → Int) (i : Int) (S' : Int → Int) (j : Int) : Prop := i ≤ j ∧ j ≤ c ∧ S 0 + 1 ≤ S' 0 ∧ S' 0 ≤ 20 ∧ S 1 + 1 ≤ S' 1 ∧ S' 1 - S 1 ≤ 2 * (S' 0 - S 0) - 1 ∧ (∀ q, 10 ≤ q → q < 10 + 4 * S 1 → S' q = S q) ∧ (∀ k, S 1 ≤ k → k < S' 1 → bkNw m S' k) ∧ (∀ l, bkRoots S (S 1).toNat l → bkRoots S' (S' 1).toNat ((S' 1 - 1) :: l))
def bkSH (c : Int) (S : Int → Int) (i : Int) : Prop := 0 ≤ i ∧ i ≤ c ∧ 0 ≤ S 0 ∧ S 0 ≤ 20 ∧ 0 ≤ S 1 ∧ S 1 ≤ 2 * S 0
def bkSG (m : Nat) (c : Int) (rd : (Int → Int) → Int → (Int × Int) ⊕ (Int × (Int → Int))) : Prop := ∀ S i, bkSH c S i → (∀ w q, rd S i = .inl (w, q) → c ≤ 940 → 0 ≤ q ∧ q ≤ 940) ∧ ∀ j S', rd S i = .inr (j, S') → bkSI m c S i S' j
theorem bkSI_h {m : Nat} {c : Int} {S S' : Int → Int} {i j : Int} (h : bkSI m c S i S' j) (hS : bkSH c S i) : bkSH c S' j := by
  unfold bkSI at h
  unfold bkSH at *
  omega
/-- two come to be one -/
theorem bkSI_two {m : Nat} {c : Int} {S S1 S2 : Int → Int} {i j j2 k w : Int} (hS : bkSH c S i) (h1 : bkSI m c S i S1 j) (hj : j ≤ k) (h2 : bkSI m c S1 k S2 j2) (hw : w = 14 ∨ w = 15) : bkSI m c S i (bkNp S2 w (S1 1 - 1) (S2 1 - 1) 0) j2 := by
  obtain ⟨a1, a2, a3, a4, a5, a6, a7, a8, a9⟩ := h1
  obtain ⟨b1, b2, b3, b4, b5, b6, b7, b8, b9⟩ := h2
  have hS := hS
  unfold bkSH at hS
  obtain ⟨v0, v1, v2, v3, v4, v5, v6⟩ := @bkNp_v S2 w (S1 1 - 1) (S2 1 - 1) 0 (by omega)
  unfold bkSI
  rw [v0, v1]
  refine ⟨by omega, by omega, by omega, by omega, by omega, by omega, fun q q0 q1 => by rw [v6 q q0 (by omega), b7 q q0 (by omega), a7 q q0 q1], fun n n0 n1 => ?_, fun l hl => ?_⟩
  · by_cases z : n = S2 1
    · subst z
      unfold bkNw
      rw [v2, v3, v4, v5]
      omega
    · by_cases z2 : n < S1 1
      · exact bkNw_e (a8 n n0 z2) fun q q0 q1 => by rw [v6 q (by omega) (by omega), b7 q (by omega) (by omega)]
      · exact bkNw_e (b8 n (by omega) (by omega)) fun q q0 q1 => v6 q (by omega) (by omega)
  · have r1 := a9 l hl
    have r2 := b9 _ r1
    have e1 : (S2 1 + 1).toNat = (S2 1).toNat + 1 := by omega
    have e2 : (((S2 1).toNat : Nat) : Int) = S2 1 := by omega
    rw [e1]
    refine ⟨(S2 1 - 1) :: (S1 1 - 1) :: l, bkRoots_e (fun q q0 q1 => v6 q q0 (by omega)) r2, .inr (.inl ?_)⟩
    rw [e2, v2, v3, v4]
    exact ⟨hw, l, rfl, by rw [show S2 1 + 1 - 1 = S2 1 by omega]⟩
theorem bkSI_not {m : Nat} {c : Int} {S S2 : Int → Int} {i j : Int} (hS : bkSH c S i) (h2 : bkSI m c S i S2 j) {So : Int → Int} {io : Int} (h0 : So 0 + 1 = S 0) (h1 : So 1 = S 1) (hq : ∀ q, 10 ≤ q → S q = So q) (hi : io ≤ i) : bkSI m c So io (bkNp S2 16 (S2 1 - 1) 0 0) j := by
  obtain ⟨b1, b2, b3, b4, b5, b6, b7, b8, b9⟩ := h2
  have hS := hS
  unfold bkSH at hS
  obtain ⟨v0, v1, v2, v3, v4, v5, v6⟩ := @bkNp_v S2 16 (S2 1 - 1) 0 0 (by omega)
  unfold bkSI
  rw [v0, v1]
  refine ⟨by omega, by omega, by omega, by omega, by omega, by omega, fun q q0 q1 => by rw [v6 q q0 (by omega), b7 q q0 (by omega), hq q q0], fun n n0 n1 => ?_, fun l hl => ?_⟩
  · by_cases z : n = S2 1
    · subst z
      unfold bkNw
      rw [v2, v3, v4, v5]
      omega
    · exact bkNw_e (b8 n (by omega) (by omega)) fun q q0 q1 => v6 q (by omega) (by omega)
  · have r1 := b9 l (by rw [← h1]; exact bkRoots_e (fun q q0 _ => hq q q0) hl)
    have e1 : (S2 1 + 1).toNat = (S2 1).toNat + 1 := by omega
    have e2 : (((S2 1).toNat : Nat) : Int) = S2 1 := by omega
    rw [e1]
    refine ⟨(S2 1 - 1) :: l, bkRoots_e (fun q q0 q1 => v6 q q0 (by omega)) r1, .inl ?_⟩
    rw [e2, v2, v3]
    exact ⟨rfl, l, rfl, by rw [show S2 1 + 1 - 1 = S2 1 by omega]⟩
theorem bkSI_one {m : Nat} {c : Int} {S So : Int → Int} {i io j w a b r : Int} (hS : bkSH c S i) (h0 : So 0 + 1 = S 0) (h1 : So 1 = S 1) (hq : ∀ q, 10 ≤ q → S q = So q) (hi : io ≤ j) (hj : j ≤ c) (hw : ¬ (14 ≤ w ∧ w ≤ 16)) (hn : (w = 6 ∨ w = 7 ∨ (14 ≤ w ∧ w ≤ 24)) ∧ (w = 19 ∨ w = 20 → 0 ≤ a ∧ a < m) ∧ (21 ≤ w → 0 ≤ b ∧ b ≤ 999 ∧ 60 ≤ r ∧ r ≤ 62)) : bkSI m c So io (bkNp S w a b r) j := by
  have hS := hS
  unfold bkSH at hS
  obtain ⟨v0, v1, v2, v3, v4, v5, v6⟩ := @bkNp_v S w a b r (by omega)
  unfold bkSI
  rw [v0, v1]
  refine ⟨by omega, by omega, by omega, by omega, by omega, by omega, fun q q0 q1 => by rw [v6 q q0 (by omega), hq q q0], fun n n0 n1 => ?_, fun l hl => ?_⟩
  · have z : n = S 1 := by omega
    subst z
    unfold bkNw
    rw [v2, v3, v4, v5]
    exact hn
  · have e1 : (S 1 + 1).toNat = (S 1).toNat + 1 := by omega
    have e2 : (((S 1).toNat : Nat) : Int) = S 1 := by omega
    rw [e1]
    refine ⟨l, bkRoots_e (fun q q0 q1 => by rw [v6 q q0 (by omega), hq q q0]) (by rw [← h1]; exact hl), .inr (.inr ?_)⟩
    rw [e2, v2]
    exact ⟨hw, by rw [show S 1 + 1 - 1 = S 1 by omega]⟩
def bkWd (T : Int → Int) (c i : Int) : Int := bkWi (bkTw 32 T c i)
def bkBeg (T : Int → Int) (c L i : Int) : Bool := decide (bkTk T c L i = 40 ∨ (bkTk T c L i = 2 ∧ (bkWd T c i = 6 ∨ bkWd T c i = 7 ∨ 16 ≤ bkWd T c i)))
/-- a ONE without others in it, its word at i -/
def bkSLeaf (f : Int → Int) (m : Nat) (T : Int → Int) (c L : Int) (S : Int → Int) (i : Int) : (Int × Int) ⊕ (Int × (Int → Int)) :=
  if bkWd T c i = 19 ∨ bkWd T c i = 20 then
    (if bkIsW T c L (bkTn T c L i) (-1) = true then (if bkIx f (bkTw 32 T c (bkTn T c L i)) m = -1 then .inl (3, bkTf T c L (bkTn T c L i)) else .inr (bkTn T c L (bkTn T c L i), bkNp S (bkWd T c i) (bkIx f (bkTw 32 T c (bkTn T c L i)) m) 0 0)) else .inl (1, bkTf T c L (bkTn T c L i)))
  else if 21 ≤ bkWd T c i then
    (if bkTk T c L (bkTn T c L i) = 60 ∨ bkTk T c L (bkTn T c L i) = 61 ∨ bkTk T c L (bkTn T c L i) = 62 then
      (if bkTk T c L (bkTn T c L (bkTn T c L i)) = 3 then .inr (bkTn T c L (bkTn T c L (bkTn T c L i)), bkNp S (bkWd T c i) 0 (bkTv T c (bkTn T c L (bkTn T c L i))) (bkTk T c L (bkTn T c L i))) else .inl (1, bkTf T c L (bkTn T c L (bkTn T c L i))))
      else .inl (1, bkTf T c L (bkTn T c L i)))
  else .inr (bkTn T c L i, bkNp S (bkWd T c i) 0 0 0)
def bkSLp (T : Int → Int) (c L : Int) (rd : (Int → Int) → Int → (Int × Int) ⊕ (Int × (Int → Int))) (w : Int) : Nat → (Int → Int) → Int → (Int × Int) ⊕ (Int × (Int → Int))
  | 0, _, _ => .inl (0, 0)
  | n + 1, S, i => if bkIsW T c L i w = true then (match rd S (bkTn T c L i) with
    | .inl e => .inl e
    | .inr (j, S') => bkSLp T c L rd w n (bkNp S' w (S 1 - 1) (S' 1 - 1) 0) j) else .inr (i, S)
theorem bkSLp_s {T : Int → Int} {c L : Int} {rd : (Int → Int) → Int → (Int × Int) ⊕ (Int × (Int → Int))} {w : Int} {n : Nat} {S : Int → Int} {i : Int} : bkSLp T c L rd w (n + 1) S i = if bkIsW T c L i w = true then (match rd S (bkTn T c L i) with
    | .inl e => .inl e
    | .inr (j, S') => bkSLp T c L rd w n (bkNp S' w (S 1 - 1) (S' 1 - 1) 0) j) else .inr (i, S) := rfl
def bkSSeq (T : Int → Int) (c L : Int) (rd : (Int → Int) → Int → (Int × Int) ⊕ (Int × (Int → Int))) (w : Int) (S : Int → Int) (i : Int) : (Int × Int) ⊕ (Int × (Int → Int)) :=
  match rd S i with
  | .inl e => .inl e
  | .inr (j, S') => bkSLp T c L rd w 30 S' j
def bkSOne (f : Int → Int) (m : Nat) (T : Int → Int) (c L : Int) : Nat → (Int → Int) → Int → (Int × Int) ⊕ (Int × (Int → Int))
  | 0 => fun _ i => if bkBeg T c L i = true then .inl (4, bkTf T c L i) else .inl (1, bkTf T c L i)
  | k + 1 => fun S i => if ¬ bkBeg T c L i = true then .inl (1, bkTf T c L i) else if 20 ≤ S 0 then .inl (4, bkTf T c L i) else
      if bkTk T c L i = 40 then (match bkSSeq T c L (bkSSeq T c L (bkSOne f m T c L k) 15) 14 (bkPut S 0 (S 0 + 1)) (bkTn T c L i) with
        | .inl e => .inl e
        | .inr (j, S') => if bkTk T c L j = 41 then .inr (bkTn T c L j, S') else .inl (1, bkTf T c L j))
      else if bkWd T c i = 16 then (match bkSOne f m T c L k (bkPut S 0 (S 0 + 1)) (bkTn T c L i) with
        | .inl e => .inl e
        | .inr (j, S') => .inr (j, bkNp S' 16 (S' 1 - 1) 0 0))
      else bkSLeaf f m T c L (bkPut S 0 (S 0 + 1)) i
theorem bkSOne_s {f : Int → Int} {m : Nat} {T : Int → Int} {c L : Int} {k : Nat} {S : Int → Int} {i : Int} : bkSOne f m T c L (k + 1) S i = if ¬ bkBeg T c L i = true then .inl (1, bkTf T c L i) else if 20 ≤ S 0 then .inl (4, bkTf T c L i) else
      if bkTk T c L i = 40 then (match bkSSeq T c L (bkSSeq T c L (bkSOne f m T c L k) 15) 14 (bkPut S 0 (S 0 + 1)) (bkTn T c L i) with
        | .inl e => .inl e
        | .inr (j, S') => if bkTk T c L j = 41 then .inr (bkTn T c L j, S') else .inl (1, bkTf T c L j))
      else if bkWd T c i = 16 then (match bkSOne f m T c L k (bkPut S 0 (S 0 + 1)) (bkTn T c L i) with
        | .inl e => .inl e
        | .inr (j, S') => .inr (j, bkNp S' 16 (S' 1 - 1) 0 0))
      else bkSLeaf f m T c L (bkPut S 0 (S 0 + 1)) i := rfl
def bkS00 : Int → Int := fun _ => 0
def bkSTx (f : Int → Int) (m : Nat) (T : Int → Int) (c L : Int) : (Int × Int) ⊕ (Int × (Int → Int)) :=
  match bkSSeq T c L (bkSSeq T c L (bkSOne f m T c L 8) 15) 14 bkS00 0 with
  | .inl e => .inl e
  | .inr (j, S') => if bkTk T c L j = 0 then .inr (j, S') else .inl (1, bkTf T c L j)
