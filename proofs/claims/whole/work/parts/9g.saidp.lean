/-! What a SENTENCE says of a FIELD, purely. -/
theorem bkRoots_lt {S : Int → Int} : ∀ {n : Nat} {l : List Int}, bkRoots S n l → ∀ x ∈ l, 0 ≤ x ∧ x < n
  | 0, l, h, x, hx => by
    have h : l = [] := h
    rw [h] at hx
    cases hx
  | n + 1, l, h, x, hx => by
    obtain ⟨l', h1, h2⟩ := h
    have ih := bkRoots_lt h1
    rcases h2 with ⟨-, t, e1, e2⟩ | ⟨-, t, e1, e2⟩ | ⟨-, e2⟩
    · rw [e2] at hx
      rcases List.mem_cons.1 hx with e | hx
      · omega
      · have := ih x (by rw [e1]; exact List.mem_cons_of_mem _ hx)
        omega
    · rw [e2] at hx
      rcases List.mem_cons.1 hx with e | hx
      · omega
      · have := ih x (by rw [e1]; exact List.mem_cons_of_mem _ (List.mem_cons_of_mem _ hx))
        omega
    · rw [e2] at hx
      rcases List.mem_cons.1 hx with e | hx
      · omega
      · have := ih x hx
        omega
theorem bkRoots_u {S : Int → Int} : ∀ {n : Nat} {l m : List Int}, bkRoots S n l → bkRoots S n m → l = m
  | 0, l, m, h, g => by
    have h : l = [] := h
    have g : m = [] := g
    rw [h, g]
  | n + 1, l, m, h, g => by
    obtain ⟨l', h1, h2⟩ := h
    obtain ⟨m', g1, g2⟩ := g
    have e := bkRoots_u h1 g1
    subst e
    rcases h2 with ⟨z, t, e1, e2⟩ | ⟨z, t, e1, e2⟩ | ⟨z, e2⟩
    · rcases g2 with ⟨-, t', f1, f2⟩ | ⟨z', -⟩ | ⟨z', -⟩
      · rw [e1] at f1; cases f1; rw [e2, f2]
      · omega
      · omega
    · rcases g2 with ⟨z', -⟩ | ⟨-, t', f1, f2⟩ | ⟨z', -⟩
      · omega
      · rw [e1] at f1; cases f1; rw [e2, f2]
      · omega
    · rcases g2 with ⟨z', -⟩ | ⟨z', -⟩ | ⟨-, f2⟩
      · omega
      · omega
      · rw [e2, f2]
theorem bkRoots_le {S : Int → Int} : ∀ {n : Nat} {l : List Int}, bkRoots S n l → ∀ i : Nat, i ≤ n → ∃ l', bkRoots S i l'
  | 0, l, h, i, hi => ⟨l, by rwa [show i = 0 by omega]⟩
  | n + 1, l, h, i, hi => by
    by_cases z : i = n + 1
    · exact ⟨l, by rwa [z]⟩
    · obtain ⟨l', h1, -⟩ := h
      exact bkRoots_le h1 i (by omega)
/-- a node's children stand ahead of it -/
theorem bkRoots_ch {S : Int → Int} {n : Nat} {l : List Int} (h : bkRoots S n l) {k : Int} (h0 : 0 ≤ k) (h1 : k < n) : (S (10 + 4 * k) = 14 ∨ S (10 + 4 * k) = 15 ∨ S (10 + 4 * k) = 16 → 0 ≤ S (11 + 4 * k) ∧ S (11 + 4 * k) < k) ∧ (S (10 + 4 * k) = 14 ∨ S (10 + 4 * k) = 15 → 0 ≤ S (12 + 4 * k) ∧ S (12 + 4 * k) < k) := by
  obtain ⟨l', g⟩ := bkRoots_le h (k.toNat + 1) (by omega)
  obtain ⟨l2, g1, g2⟩ := g
  rw [show ((k.toNat : Nat) : Int) = k by omega] at g2
  have q := bkRoots_lt g1
  rcases g2 with ⟨z, t, e1, e2⟩ | ⟨z, t, e1, e2⟩ | ⟨z, e2⟩
  · have := q (S (11 + 4 * k)) (by rw [e1]; exact List.mem_cons_self)
    exact ⟨fun _ => by omega, fun w => by omega⟩
  · have q1 := q (S (12 + 4 * k)) (by rw [e1]; exact List.mem_cons_self)
    have q2 := q (S (11 + 4 * k)) (by rw [e1]; exact List.mem_cons_of_mem _ List.mem_cons_self)
    exact ⟨fun _ => by omega, fun w => by omega⟩
  · exact ⟨fun w => by omega, fun w => by omega⟩
/-- how many ONES without others, and how many joins, are among the first nodes -/
def bkLv (S : Int → Int) : Nat → Int := bkSum fun k => if 14 ≤ S (10 + 4 * k) ∧ S (10 + 4 * k) ≤ 16 then 0 else 1
def bkJn (S : Int → Int) : Nat → Int := bkSum fun k => if S (10 + 4 * k) = 14 ∨ S (10 + 4 * k) = 15 then 1 else 0
theorem bkLv_s {S : Int → Int} {n : Nat} : bkLv S (n + 1) = bkLv S n + if 14 ≤ S (10 + 4 * n) ∧ S (10 + 4 * n) ≤ 16 then 0 else 1 := rfl
theorem bkJn_s {S : Int → Int} {n : Nat} : bkJn S (n + 1) = bkJn S n + if S (10 + 4 * n) = 14 ∨ S (10 + 4 * n) = 15 then 1 else 0 := rfl
theorem bkLv_m {S : Int → Int} {n : Nat} : ∀ k : Nat, bkLv S n ≤ bkLv S (n + k)
  | 0 => Int.le_refl _
  | k + 1 => by
    have := bkLv_m (S := S) (n := n) k
    rw [← Nat.add_assoc, bkLv_s]
    split <;> omega
theorem bkLvJn {S : Int → Int} : ∀ {n : Nat} {l : List Int}, bkRoots S n l → (l.length : Int) + bkJn S n = bkLv S n ∧ bkLv S n + bkJn S n ≤ n ∧ 0 ≤ bkJn S n
  | 0, l, h => by
    have h : l = [] := h
    rw [h]
    exact ⟨rfl, (show (0 : Int) + 0 ≤ 0 by decide), (show (0 : Int) ≤ 0 by decide)⟩
  | n + 1, l, h => by
    obtain ⟨l', h1, h2⟩ := h
    have ih := bkLvJn h1
    rw [bkLv_s, bkJn_s]
    rcases h2 with ⟨z, t, e1, e2⟩ | ⟨z, t, e1, e2⟩ | ⟨z, e2⟩
    · rw [e1] at ih
      rw [e2, if_neg (by omega), if_pos (by omega)]
      simp only [List.length_cons] at ih ⊢
      omega
    · rw [e1] at ih
      rw [e2, if_pos (by omega), if_pos (by omega)]
      simp only [List.length_cons] at ih ⊢
      omega
    · rw [e2, if_neg (by omega), if_neg (by omega)]
      simp only [List.length_cons] at ih ⊢
      omega
/-- there are never more than 20 roots -/
theorem bkRoots_20 {S : Int → Int} {n : Nat} {x : Int} (h : bkRoots S n [x]) (hn : n ≤ 39) {i : Nat} {l : List Int} (hi : i < n) (g : bkRoots S i l) (hs : ¬ (14 ≤ S (10 + 4 * i) ∧ S (10 + 4 * i) ≤ 16)) : l.length < 20 := by
  have a := bkLvJn h
  have b := bkLvJn g
  have c := bkLv_m (S := S) (n := i + 1) (n - (i + 1))
  rw [show i + 1 + (n - (i + 1)) = n by omega, bkLv_s, if_neg hs] at c
  have e : ([x] : List Int).length = 1 := rfl
  rw [e] at a
  omega
/-- a value against a NUMBER -/
def bkCm2 (r v b : Int) : Bool := if r = 60 then decide (v < b) else if r = 62 then decide (b < v) else decide (v = b)
/-- a ONE without others, of a FIELD -/
def bkLf (N S : Int → Int) (k f : Int) : Bool :=
  if S (10 + 4 * k) = 6 then decide (bkWho N f = 0) else if S (10 + 4 * k) = 7 then decide (bkWho N f = 1) else if S (10 + 4 * k) = 17 then decide (bkWho N f = 2)
  else if S (10 + 4 * k) = 18 then decide (bkAbs (N (42 + f) - N (121 + N (52 + f))) = 1)
  else if S (10 + 4 * k) = 19 then decide (bkWho N f ≠ 2 ∧ bkWho N f = bkWho N (S (11 + 4 * k)))
  else if S (10 + 4 * k) = 20 then decide (N (52 + f) < N (52 + S (11 + 4 * k)))
  else bkCm2 (S (13 + 4 * k)) (if S (10 + 4 * k) = 21 then N (62 + f) else if S (10 + 4 * k) = 22 then N (85 + 6 * N (52 + f) + N (42 + f)) else if S (10 + 4 * k) = 23 then N (136 + f) else f) (S (12 + 4 * k))
/-- a node, of a FIELD -/
def bkEn (N S : Int → Int) : Nat → Int → Int → Bool
  | 0, _, _ => false
  | n + 1, k, f => if S (10 + 4 * k) = 16 then !(bkEn N S n (S (11 + 4 * k)) f) else if S (10 + 4 * k) = 15 then bkEn N S n (S (11 + 4 * k)) f && bkEn N S n (S (12 + 4 * k)) f else if S (10 + 4 * k) = 14 then bkEn N S n (S (11 + 4 * k)) f || bkEn N S n (S (12 + 4 * k)) f else bkLf N S k f
theorem bkEn_s {N S : Int → Int} {n : Nat} {k f : Int} : bkEn N S (n + 1) k f = if S (10 + 4 * k) = 16 then !(bkEn N S n (S (11 + 4 * k)) f) else if S (10 + 4 * k) = 15 then bkEn N S n (S (11 + 4 * k)) f && bkEn N S n (S (12 + 4 * k)) f else if S (10 + 4 * k) = 14 then bkEn N S n (S (11 + 4 * k)) f || bkEn N S n (S (12 + 4 * k)) f else bkLf N S k f := rfl
theorem bkEn_n {N S : Int → Int} {c : Nat} {l : List Int} (h : bkRoots S c l) {f : Int} : ∀ (n m : Nat) (k : Int), 0 ≤ k → k < c → k < n → k < m → bkEn N S n k f = bkEn N S m k f
  | 0, _, k, h0, _, h2, _ => by omega
  | n + 1, 0, k, h0, _, _, h3 => by omega
  | n + 1, m + 1, k, h0, h1, h2, h3 => by
    obtain ⟨c1, c2⟩ := bkRoots_ch h h0 h1
    rw [bkEn_s, bkEn_s]
    by_cases z : S (10 + 4 * k) = 16
    · have c1 := c1 (by omega)
      rw [if_pos z, if_pos z, bkEn_n h n m _ c1.1 (by omega) (by omega) (by omega)]
    rw [if_neg z, if_neg z]
    by_cases z2 : S (10 + 4 * k) = 15
    · have c1 := c1 (by omega)
      have c2 := c2 (by omega)
      rw [if_pos z2, if_pos z2, bkEn_n h n m _ c1.1 (by omega) (by omega) (by omega), bkEn_n h n m _ c2.1 (by omega) (by omega) (by omega)]
    rw [if_neg z2, if_neg z2]
    by_cases z3 : S (10 + 4 * k) = 14
    · have c1 := c1 (by omega)
      have c2 := c2 (by omega)
      rw [if_pos z3, if_pos z3, bkEn_n h n m _ c1.1 (by omega) (by omega) (by omega), bkEn_n h n m _ c2.1 (by omega) (by omega) (by omega)]
    rw [if_neg z3, if_neg z3]
/-- of how many of the first FIELDS it may be said -/
def bkSaN (p : Int → Bool) : Nat → Int := bkSum fun f => if p f then 1 else 0
/-- the k-th of them from f on, n having been -/
def bkSaK (p : Int → Bool) (m k : Int) : Nat → Int → Int → Int
  | 0, _, _ => -1
  | j + 1, f, n => if m ≤ f then -1 else if p f then (if n = k then f else bkSaK p m k j (f + 1) (n + 1)) else bkSaK p m k j (f + 1) n
theorem bkSaK_s {p : Int → Bool} {m k : Int} {j : Nat} {f n : Int} : bkSaK p m k (j + 1) f n = if m ≤ f then -1 else if p f then (if n = k then f else bkSaK p m k j (f + 1) (n + 1)) else bkSaK p m k j (f + 1) n := rfl
theorem bkSaN_b {p : Int → Bool} (n : Nat) : 0 ≤ bkSaN p n ∧ bkSaN p n ≤ n := by
  have := bkSum_le (g := fun f => if p f then (1 : Int) else 0) (c := 1) (n := n) (fun k _ => by split <;> omega)
  unfold bkSaN
  omega
/-! Bits. -/
theorem bkBits_tb {p : Int → Bool} {n k : Nat} : (bkBits p n).toNat.testBit k = (decide (k < n) && p k) := by
  have b := bkBits_lt p n
  have g := bkBits_get (p := p) k n
  rw [Nat.testBit_eq_decide_div_mod_eq]
  have e : (((bkBits p n).toNat / 2 ^ k % 2 : Nat) : Int) = bkBits p n / 2 ^ k % 2 := by
    rw [Int.natCast_emod, Int.natCast_ediv, Int.toNat_of_nonneg b.1, Int.natCast_pow]
    rfl
  by_cases z : k < n ∧ p k = true
  · rw [if_pos z] at g
    rw [z.2, decide_eq_true z.1, decide_eq_true (by omega)]
    rfl
  · rw [if_neg z] at g
    rw [decide_eq_false (by omega)]
    cases hp : p k with
    | false => simp
    | true => rw [decide_eq_false (fun q => z ⟨q, hp⟩)]; rfl
theorem bk_and_nat {a b : Nat} (ha : a < 1024) (hb : b < 1024) : bk_and a b = ((a &&& b : Nat) : Int) := by
  unfold bk_and
  have e : (BitVec.ofInt 32 (a : Int) &&& BitVec.ofInt 32 (b : Int)).toNat = a &&& b := by
    rw [BitVec.toNat_and, BitVec.ofInt_natCast, BitVec.ofInt_natCast, BitVec.toNat_ofNat, BitVec.toNat_ofNat, Nat.mod_eq_of_lt (by omega), Nat.mod_eq_of_lt (by omega)]
  have l : a &&& b ≤ a := Nat.and_le_left
  rw [BitVec.toInt_eq_toNat_of_lt (by rw [e]; omega), e]
theorem bk_or_nat {a b : Nat} (ha : a < 1024) (hb : b < 1024) : bk_or a b = ((a ||| b : Nat) : Int) := by
  unfold bk_or
  have e : (BitVec.ofInt 32 (a : Int) ||| BitVec.ofInt 32 (b : Int)).toNat = a ||| b := by
    rw [BitVec.toNat_or, BitVec.ofInt_natCast, BitVec.ofInt_natCast, BitVec.toNat_ofNat, BitVec.toNat_ofNat, Nat.mod_eq_of_lt (by omega), Nat.mod_eq_of_lt (by omega)]
  have l : a ||| b < 2 ^ 10 := Nat.or_lt_two_pow (by omega) (by omega)
  rw [BitVec.toInt_eq_toNat_of_lt (by rw [e]; omega), e]
theorem bkBits_10 {p : Int → Bool} {n : Nat} (h : n ≤ 10) : 0 ≤ bkBits p n ∧ bkBits p n < 1024 := by
  have b := bkBits_lt p n
  have : (2 : Int) ^ n ≤ 2 ^ 10 := by
    have := Nat.pow_le_pow_right (show 0 < 2 by omega) h
    exact_mod_cast this
  omega
theorem bkBits_and {p q : Int → Bool} {n : Nat} (h : n ≤ 10) : bk_and (bkBits p n) (bkBits q n) = bkBits (fun f => p f && q f) n := by
  have b1 := bkBits_10 (p := p) h
  have b2 := bkBits_10 (p := q) h
  have b3 := bkBits_10 (p := fun f => p f && q f) h
  have e := bk_and_nat (a := (bkBits p n).toNat) (b := (bkBits q n).toNat) (by omega) (by omega)
  rw [Int.toNat_of_nonneg b1.1, Int.toNat_of_nonneg b2.1] at e
  have e2 : (bkBits p n).toNat &&& (bkBits q n).toNat = (bkBits (fun f => p f && q f) n).toNat := by
    refine Nat.eq_of_testBit_eq fun k => ?_
    rw [Nat.testBit_and, bkBits_tb, bkBits_tb, bkBits_tb]
    cases decide (k < n) <;> cases p k <;> cases q k <;> rfl
  rw [e, e2, Int.toNat_of_nonneg b3.1]
theorem bkBits_orr {p q : Int → Bool} {n : Nat} (h : n ≤ 10) : bk_or (bkBits p n) (bkBits q n) = bkBits (fun f => p f || q f) n := by
  have b1 := bkBits_10 (p := p) h
  have b2 := bkBits_10 (p := q) h
  have b3 := bkBits_10 (p := fun f => p f || q f) h
  have e := bk_or_nat (a := (bkBits p n).toNat) (b := (bkBits q n).toNat) (by omega) (by omega)
  rw [Int.toNat_of_nonneg b1.1, Int.toNat_of_nonneg b2.1] at e
  have e2 : (bkBits p n).toNat ||| (bkBits q n).toNat = (bkBits (fun f => p f || q f) n).toNat := by
    refine Nat.eq_of_testBit_eq fun k => ?_
    rw [Nat.testBit_or, bkBits_tb, bkBits_tb, bkBits_tb]
    cases decide (k < n) <;> cases p k <;> cases q k <;> rfl
  rw [e, e2, Int.toNat_of_nonneg b3.1]
theorem bk_not_n : ∀ n : Nat, n < 11 → ∀ x : Nat, x < 2 ^ n → bk_and ((1 : Int) * 2 ^ n - 1) (bk_xor x (-1)) = 2 ^ n - 1 - x := by decide +kernel
theorem bkBits_not {p : Int → Bool} : ∀ n : Nat, 2 ^ n - 1 - bkBits p n = bkBits (fun f => !p f) n
  | 0 => rfl
  | n + 1 => by
    have ih := bkBits_not (p := p) n
    rw [bkBits_succ, bkBits_succ, ← ih, Int.pow_succ]
    cases p n <;> simp <;> omega
theorem bkBits_nt {p : Int → Bool} {n : Nat} (h : n ≤ 10) : bk_and ((1 : Int) * 2 ^ n - 1) (bk_xor (bkBits p n) (-1)) = bkBits (fun f => !p f) n := by
  have b := bkBits_lt p n
  have := bk_not_n n (by omega) (bkBits p n).toNat (by have := b.2; have e : (((2 : Nat) ^ n : Nat) : Int) = 2 ^ n := by rw [Int.natCast_pow]; rfl
                                                       omega)
  rw [Int.toNat_of_nonneg b.1] at this
  rw [this, bkBits_not]
/-- how many bits -/
def bk_b1 (x : Int) : Int := x - bk_and (bk_ushr x 1) 1431655765
def bk_b2 (x : Int) : Int := bk_and (bk_b1 x) 858993459 + bk_and (bk_ushr (bk_b1 x) 2) 858993459
def bk_b3 (x : Int) : Int := bk_b2 x + bk_ushr (bk_b2 x) 4
def bk_b4 (x : Int) : Int := bk_and (bk_b3 x) 252645135
def bk_b5 (x : Int) : Int := bk_b4 x + bk_ushr (bk_b4 x) 8
def bk_b6 (x : Int) : Int := bk_b5 x + bk_ushr (bk_b5 x) 16
theorem bk_pop : ∀ x : Nat, x < 1024 → (0 ≤ bk_b1 x ∧ bk_b1 x ≤ 2000000000) ∧ (0 ≤ bk_b2 x ∧ bk_b2 x ≤ 2000000000) ∧ (0 ≤ bk_b3 x ∧ bk_b3 x ≤ 2000000000) ∧ (0 ≤ bk_b5 x ∧ bk_b5 x ≤ 2000000000) ∧ (0 ≤ bk_b6 x ∧ bk_b6 x ≤ 2000000000) ∧ bk_and (bk_b6 x) 63 = bkSum (fun k => (x : Int) / 2 ^ k.toNat % 2) 10 := by decide +kernel
theorem bkSaN_pop {p : Int → Bool} {n : Nat} (h : n ≤ 10) : bkSum (fun k => bkBits p n / 2 ^ k.toNat % 2) 10 = bkSaN p n := by
  have e1 : bkSum (fun k => bkBits p n / 2 ^ k.toNat % 2) 10 = bkSum (fun k => if k < n ∧ p k = true then (1 : Int) else 0) 10 := bkSum_congr fun k hk => by
    rw [Int.toNat_natCast, bkBits_get]
    by_cases z : k < n ∧ p k = true
    · rw [if_pos z, if_pos ⟨by omega, z.2⟩]
    · rw [if_neg z, if_neg fun q => z ⟨by omega, q.2⟩]
  rw [e1]
  have e2 : ∀ j : Nat, bkSum (fun k => if k < (n : Int) ∧ p k = true then (1 : Int) else 0) (n + j) = bkSum (fun k => if k < (n : Int) ∧ p k = true then (1 : Int) else 0) n := by
    intro j
    induction j with
    | zero => rfl
    | succ j ih =>
      have : bkSum (fun k => if k < (n : Int) ∧ p k = true then (1 : Int) else 0) (n + (j + 1)) = bkSum (fun k => if k < (n : Int) ∧ p k = true then (1 : Int) else 0) (n + j) + (if ((n + j : Nat) : Int) < (n : Int) ∧ p (n + j : Nat) = true then (1 : Int) else 0) := rfl
      rw [this, ih, if_neg (by omega)]
      omega
  have := e2 (10 - n)
  rw [show n + (10 - n) = 10 by omega] at this
  rw [this]
  exact bkSum_congr fun k hk => by
    by_cases z : p k = true
    · rw [if_pos ⟨by omega, z⟩, if_pos z]
    · rw [if_neg fun q => z q.2, if_neg z]
theorem S136c {d : Nat} {Q : bk_Q} {M : bk_M} {p : Int → Bool} {n : Nat} (h : n ≤ 10) : bk_C (d + 1) 0 136 [bk_i (bkBits p n)] M Q ↔ Q 0 (bkSaN p n) M := by
  have b := bkBits_10 (p := p) h
  refine bk_det (fun Q hQ => ?_) Q
  rw [← bkSaN_pop h] at hQ
  obtain ⟨x, hx⟩ : ∃ x : Nat, bkBits p n = x := ⟨(bkBits p n).toNat, by omega⟩
  rw [hx] at hQ ⊢
  obtain ⟨h1, h2, h3, h4, h5, h6⟩ := bk_pop x (by omega)
  rw [← h6] at hQ
  rw [E_136]
  unfold bk_r32
  refine ⟨by omega, ?_, by omega, ?_, by omega, ?_, by omega, ?_, by omega, ?_, hQ⟩
  · show _ ≤ bk_b1 x ∧ bk_b1 x ≤ _; omega
  · show _ ≤ bk_b2 x ∧ bk_b2 x ≤ _; omega
  · show _ ≤ bk_b3 x ∧ bk_b3 x ≤ _; omega
  · show _ ≤ bk_b5 x ∧ bk_b5 x ≤ _; omega
  · show _ ≤ bk_b6 x ∧ bk_b6 x ≤ _; omega
