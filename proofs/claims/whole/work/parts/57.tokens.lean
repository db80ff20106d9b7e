/-! Tokens: what both read at a place, purely. -/
def bkBl (b : Int) : Bool := decide (b = 32) || decide (b = 10)
def bkSm (b : Int) : Bool := decide (97 ≤ b ∧ b ≤ 122)
def bkDg (b : Int) : Bool := decide (48 ≤ b ∧ b ≤ 57)
def bkAl (b : Int) : Bool := bkSm b || bkDg b
def bkZn (b : Int) : Bool := decide (b = 59 ∨ b = 60 ∨ b = 61 ∨ b = 62 ∨ b = 40 ∨ b = 41)
/-- the first place from i on at which P fails -/
def bkSc (P : Int → Bool) (c : Int) : Nat → Int → Int
  | 0, i => i
  | n + 1, i => if i < c ∧ P i = true then bkSc P c n (i + 1) else i
def bkEd (P : Int → Bool) (c i : Int) : Int := bkSc P c (c - i).toNat i
theorem bkSc_eq {P : Int → Bool} {c p : Int} : ∀ (n : Nat) (i : Int), (c - i).toNat ≤ n → i ≤ p → (p ≤ c ∨ p = i) → (∀ j, i ≤ j → j < p → P j = true) → (c ≤ p ∨ P p = false) → bkSc P c n i = p := by
  intro n
  induction n with
  | zero => intro i h h0 h1 h2 h3; show i = p; omega
  | succ n ih =>
    intro i h h0 h1 h2 h3
    show (if i < c ∧ P i = true then bkSc P c n (i + 1) else i) = p
    by_cases e : i < c ∧ P i = true
    · rw [if_pos e]
      have : i ≠ p := fun q => by rcases h3 with h3 | h3 <;> rw [← q] at h3 <;> first | omega | (rw [e.2] at h3; exact absurd h3 (by decide))
      exact ih (i + 1) (by omega) (by omega) (by omega) (fun j hj => h2 j (by omega)) h3
    · rw [if_neg e]
      by_cases q : i = p
      · exact q
      · exact absurd ⟨by omega, h2 i (Int.le_refl _) (by omega)⟩ e
theorem bkEd_eq {P : Int → Bool} {c i p : Int} (h0 : i ≤ p) (h1 : p ≤ c ∨ p = i) (h2 : ∀ j, i ≤ j → j < p → P j = true) (h3 : c ≤ p ∨ P p = false) : bkEd P c i = p := bkSc_eq _ i (Nat.le_refl _) h0 h1 h2 h3
theorem bkEd_ok (P : Int → Bool) {c : Int} : ∀ (n : Nat) (i : Int), (c - i).toNat = n → i ≤ c → i ≤ bkEd P c i ∧ bkEd P c i ≤ c ∧ (∀ j, i ≤ j → j < bkEd P c i → P j = true) ∧ (c ≤ bkEd P c i ∨ P (bkEd P c i) = false) := by
  intro n
  induction n with
  | zero => intro i h hi; rw [bkEd_eq (p := i) (Int.le_refl _) (.inr rfl) (fun j _ _ => by omega) (.inl (by omega))]; exact ⟨by omega, hi, fun j _ _ => by omega, .inl (by omega)⟩
  | succ n ih =>
    intro i h hi
    by_cases e : P i = true
    · obtain ⟨q1, q2, q3, q4⟩ := ih (i + 1) (by omega) (by omega)
      have e1 : bkEd P c i = bkEd P c (i + 1) := bkEd_eq (by omega) (.inl q2) (fun j h1 h2 => by
        by_cases w : j = i
        · rw [w]; exact e
        · exact q3 j (by omega) h2) q4
      rw [e1]
      refine ⟨by omega, q2, fun j h1 h2 => ?_, q4⟩
      by_cases w : j = i
      · rw [w]; exact e
      · exact q3 j (by omega) h2
    · rw [bkEd_eq (p := i) (Int.le_refl _) (.inr rfl) (fun j _ _ => by omega) (.inr (by simpa using e))]
      exact ⟨by omega, hi, fun j _ _ => by omega, .inr (by simpa using e)⟩
def bkEv (P : Int → Bool) (p : Int) : Nat → Bool
  | 0 => true
  | n + 1 => bkEv P p n && P (p + n)
theorem bkEv_at {P : Int → Bool} {p : Int} : ∀ {n : Nat}, bkEv P p n = true → ∀ k : Nat, k < n → P (p + k) = true
  | 0, _, k, hk => by omega
  | n + 1, h, k, hk => by
    have h : (bkEv P p n && P (p + n)) = true := h
    rw [Bool.and_eq_true] at h
    by_cases e : k = n
    · rw [e]; exact h.2
    · exact bkEv_at h.1 k (by omega)
def bkKy (B : Int) (T : Int → Int) (p : Int) : Nat → Int
  | 0 => 0
  | n + 1 => B * bkKy B T p n + (T (p + n) - 96)
def bkVl (T : Int → Int) (p : Int) : Nat → Int
  | 0 => 0
  | n + 1 => 10 * bkVl T p n + (T (p + n) - 48)
theorem bkKy_b {T : Int → Int} {p : Int} : ∀ {n : Nat}, bkEv (fun j => bkSm (T j)) p n = true → 0 ≤ bkKy 32 T p n ∧ bkKy 32 T p n < ((32 ^ n : Nat) : Int)
  | 0, _ => by unfold bkKy; omega
  | n + 1, h => by
    have h : (bkEv (fun j => bkSm (T j)) p n && bkSm (T (p + n))) = true := h
    rw [Bool.and_eq_true, bkSm, decide_eq_true_eq] at h
    have q := bkKy_b h.1
    show 0 ≤ 32 * bkKy 32 T p n + (T (p + n) - 96) ∧ 32 * bkKy 32 T p n + (T (p + n) - 96) < _
    rw [Nat.pow_succ]
    omega
theorem bkVl_b {T : Int → Int} {p : Int} : ∀ {n : Nat}, bkEv (fun j => bkDg (T j)) p n = true → 0 ≤ bkVl T p n ∧ bkVl T p n < ((10 ^ n : Nat) : Int)
  | 0, _ => by unfold bkVl; omega
  | n + 1, h => by
    have h : (bkEv (fun j => bkDg (T j)) p n && bkDg (T (p + n))) = true := h
    rw [Bool.and_eq_true, bkDg, decide_eq_true_eq] at h
    have q := bkVl_b h.1
    show 0 ≤ 10 * bkVl T p n + (T (p + n) - 48) ∧ 10 * bkVl T p n + (T (p + n) - 48) < _
    rw [Nat.pow_succ]
    omega
/-- start, end, kind, place, next place of the token from i on -/
def bkTp (T : Int → Int) (c i : Int) : Int := bkEd (fun j => bkBl (T j)) c i
def bkTe (T : Int → Int) (c p : Int) : Int := bkEd (fun j => bkAl (T j)) c p
def bkRk (T : Int → Int) (p : Int) (n : Nat) : Int := if bkEv (fun j => bkSm (T j)) p n = true then (if n ≤ 7 then 2 else 1) else if bkEv (fun j => bkDg (T j)) p n = true ∧ n ≤ 3 then 3 else 1
def bkTl (T : Int → Int) (c p : Int) : Nat := (bkTe T c p - p).toNat
def bkTk (T : Int → Int) (c L i : Int) : Int := if L ≤ bkTp T c i ∧ L < c then 1 else if c ≤ bkTp T c i then 0 else if bkAl (T (bkTp T c i)) = true then bkRk T (bkTp T c i) (bkTl T c (bkTp T c i)) else if bkZn (T (bkTp T c i)) = true then T (bkTp T c i) else 1
def bkTf (T : Int → Int) (c L i : Int) : Int := if L ≤ bkTp T c i ∧ L < c then L else bkTp T c i
def bkTn (T : Int → Int) (c L i : Int) : Int := if (L ≤ bkTp T c i ∧ L < c) ∨ c ≤ bkTp T c i then bkTp T c i else if bkAl (T (bkTp T c i)) = true then bkTe T c (bkTp T c i) else bkTp T c i + 1
def bkTw (B : Int) (T : Int → Int) (c i : Int) : Int := bkKy B T (bkTp T c i) (bkTl T c (bkTp T c i))
def bkTv (T : Int → Int) (c i : Int) : Int := bkVl T (bkTp T c i) (bkTl T c (bkTp T c i))
theorem bkTn_b {T : Int → Int} {c L i : Int} (h : i ≤ c) : i ≤ bkTn T c L i ∧ bkTn T c L i ≤ c := by
  obtain ⟨q1, q2, -, -⟩ := bkEd_ok (fun j => bkBl (T j)) _ i rfl h
  obtain ⟨r1, r2, -, -⟩ := bkEd_ok (fun j => bkAl (T j)) _ (bkTp T c i) rfl q2
  unfold bkTn
  unfold bkTe
  unfold bkTp at *
  (repeat' split) <;> omega
theorem bkW64 {z : Int} (h : bk_r64 z) : bk_w64 z = z := by
  unfold bk_r64 at h
  unfold bk_w64
  rw [Int.bmod_def]
  split <;> omega
theorem bkLc {x y : Int} : bk_lcmp x y ≠ 0 ↔ x ≠ y := by unfold bk_lcmp; (repeat' split) <;> omega
/-- the least n at which f is k -/
def bkIx (f : Int → Int) (k : Int) : Nat → Int
  | 0 => -1
  | n + 1 => if bkIx f k n = -1 then (if f n = k then n else -1) else bkIx f k n
theorem bkIx_no {f : Int → Int} {k : Int} : ∀ {n : Nat}, (∀ j : Nat, j < n → f j ≠ k) → bkIx f k n = -1
  | 0, _ => rfl
  | n + 1, h => by
    show (if bkIx f k n = -1 then (if f n = k then (n : Int) else -1) else bkIx f k n) = -1
    rw [if_pos (bkIx_no fun j hj => h j (by omega)), if_neg (h n (by omega))]
theorem bkIx_at {f : Int → Int} {k : Int} {i : Nat} (h0 : f i = k) (h1 : ∀ j : Nat, j < i → f j ≠ k) : ∀ {n : Nat}, i < n → bkIx f k n = i
  | 0, h => by omega
  | n + 1, h => by
    show (if bkIx f k n = -1 then (if f n = k then (n : Int) else -1) else bkIx f k n) = _
    by_cases e : i = n
    · subst e; rw [if_pos (bkIx_no h1), if_pos h0]
    · rw [bkIx_at h0 h1 (n := n) (by omega), if_neg (by omega)]
theorem S8 {d : Nat} {Q : bk_Q} {a : Int} {M : bk_M} : bk_C (d + 1) 0 8 [bk_i a] M Q ↔ Q 0 (if bkSm a = true then 1 else 0) M := by
  rw [E_8]; unfold bkSm; grind
theorem S9 {d : Nat} {Q : bk_Q} {a : Int} {M : bk_M} : bk_C (d + 1) 0 9 [bk_i a] M Q ↔ Q 0 (if bkDg a = true then 1 else 0) M := by
  rw [E_9]; unfold bkDg; grind
theorem S12 {d : Nat} {Q : bk_Q} {a : Int} {M : bk_M} : bk_C (d + 1) 0 12 [bk_i a] M Q ↔ Q 0 (if bkZn a = true then 1 else 0) M := by
  rw [E_12]; unfold bkZn; grind (splits := 20)
theorem S11w {d : Nat} {Q : bk_Q} {k : Int} {M : bk_M} : bk_C (d + 1) 0 11 [bk_c 54 0, bk_i 25, bk_l k] M Q ↔ Q 0 (bkIx (M 54 0) k 25) M := by
  refine bk_det (fun Q hQ => ?_) Q
  rw [E_11k54]
  have key : ∀ (m n : Nat), n + m = 25 → (∀ j : Nat, j < n → M 54 0 j ≠ k) → bk_wp (bk_C d) P_11 Q 0 3 [bk_c 54 0, bk_i 25, bk_l k, bk_x, bk_i n] [] M := by
    intro m
    induction m with
    | zero =>
      intro n hn h
      rw [L_11_3k54]
      rw [bkIx_no (n := 25) fun j hj => h j (by omega)] at hQ
      exact ⟨fun _ => hQ, fun z => absurd (by omega) z⟩
    | succ m ih =>
      intro n hn h
      rw [L_11_3k54]
      refine ⟨fun z => absurd z (by omega), fun _ => ⟨fun z => absurd z (by omega), fun _ => ⟨by omega, fun z => ⟨by unfold bk_r32; omega, ?_⟩, fun z => ?_⟩⟩⟩
      · rw [bkLc] at z
        have := ih (n + 1) (by omega) (fun j hj => by
          by_cases e : j = n
          · rw [e]; exact z
          · exact h j (by omega))
        rwa [show ((n + 1 : Nat) : Int) = n + 1 by omega] at this
      · have z : M 54 0 n = k := by
          by_cases w : M 54 0 n = k
          · exact w
          · exact absurd (bkLc.2 w) z
        rwa [bkIx_at z h (by omega)] at hQ
  exact key 25 0 rfl (fun j hj => by omega)
theorem LG_10_15 {d : Nat} {Q : bk_Q} (x1 : Int) (x2 : Int) (x3 : Int) (x5 : Int) (x6 : Int) (v7 : bk_V) (M : bk_M) : bk_wp (bk_C d) P_10 Q 0 15 [bk_c 10 0, bk_i x1, bk_i x2, bk_l x3, bk_x, bk_i x5, bk_i x6, v7] [] M ↔ ((M 10 0 (1 : Int) ≤ x6 → ∀ M1 : bk_M, M1 = bk_up M 10 0 (10 : Int) x6 → ∀ M2 : bk_M, M2 = bk_up M1 10 0 (2 : Int) (1 : Int) → ((x2 ≠ (0 : Int) → ((x1 ≠ (0 : Int) → Q 0 0 M2) ∧ (¬ (x1 ≠ (0 : Int)) → (((3 : Int) < x2 → Q 0 0 M2) ∧ (¬ ((3 : Int) < x2) → ∀ M3 : bk_M, M3 = bk_up M2 10 0 (2 : Int) (3 : Int) → ∀ M4 : bk_M, M4 = bk_up M3 10 0 (5 : Int) x5 → Q 0 0 M4))))) ∧ (¬ (x2 ≠ (0 : Int)) → (((7 : Int) < x1 → ((x1 ≠ (0 : Int) → Q 0 0 M2) ∧ (¬ (x1 ≠ (0 : Int)) → (((3 : Int) < x2 → Q 0 0 M2) ∧ (¬ ((3 : Int) < x2) → ∀ M5 : bk_M, M5 = bk_up M2 10 0 (2 : Int) (3 : Int) → ∀ M6 : bk_M, M6 = bk_up M5 10 0 (5 : Int) x5 → Q 0 0 M6))))) ∧ (¬ ((7 : Int) < x1) → ∀ M7 : bk_M, M7 = bk_up M2 10 0 (2 : Int) (2 : Int) → ∀ M8 : bk_M, M8 = bk_up M7 10 0 (3 : Int) x3 → Q 0 0 M8))))) ∧ (¬ (M 10 0 (1 : Int) ≤ x6) → ((0 : Int) ≤ x6 ∧ x6 < (940 : Int)) ∧ ((M 53 0 x6 < (97 : Int) → ((M 53 0 x6 < (48 : Int) → ∀ M9 : bk_M, M9 = bk_up M 10 0 (10 : Int) x6 → ∀ M10 : bk_M, M10 = bk_up M9 10 0 (2 : Int) (1 : Int) → ((x2 ≠ (0 : Int) → ((x1 ≠ (0 : Int) → Q 0 0 M10) ∧ (¬ (x1 ≠ (0 : Int)) → (((3 : Int) < x2 → Q 0 0 M10) ∧ (¬ ((3 : Int) < x2) → ∀ M11 : bk_M, M11 = bk_up M10 10 0 (2 : Int) (3 : Int) → ∀ M12 : bk_M, M12 = bk_up M11 10 0 (5 : Int) x5 → Q 0 0 M12))))) ∧ (¬ (x2 ≠ (0 : Int)) → (((7 : Int) < x1 → ((x1 ≠ (0 : Int) → Q 0 0 M10) ∧ (¬ (x1 ≠ (0 : Int)) → (((3 : Int) < x2 → Q 0 0 M10) ∧ (¬ ((3 : Int) < x2) → ∀ M13 : bk_M, M13 = bk_up M10 10 0 (2 : Int) (3 : Int) → ∀ M14 : bk_M, M14 = bk_up M13 10 0 (5 : Int) x5 → Q 0 0 M14))))) ∧ (¬ ((7 : Int) < x1) → ∀ M15 : bk_M, M15 = bk_up M10 10 0 (2 : Int) (2 : Int) → ∀ M16 : bk_M, M16 = bk_up M15 10 0 (3 : Int) x3 → Q 0 0 M16))))) ∧ (¬ (M 53 0 x6 < (48 : Int)) → (((57 : Int) < M 53 0 x6 → ∀ M17 : bk_M, M17 = bk_up M 10 0 (10 : Int) x6 → ∀ M18 : bk_M, M18 = bk_up M17 10 0 (2 : Int) (1 : Int) → ((x2 ≠ (0 : Int) → ((x1 ≠ (0 : Int) → Q 0 0 M18) ∧ (¬ (x1 ≠ (0 : Int)) → (((3 : Int) < x2 → Q 0 0 M18) ∧ (¬ ((3 : Int) < x2) → ∀ M19 : bk_M, M19 = bk_up M18 10 0 (2 : Int) (3 : Int) → ∀ M20 : bk_M, M20 = bk_up M19 10 0 (5 : Int) x5 → Q 0 0 M20))))) ∧ (¬ (x2 ≠ (0 : Int)) → (((7 : Int) < x1 → ((x1 ≠ (0 : Int) → Q 0 0 M18) ∧ (¬ (x1 ≠ (0 : Int)) → (((3 : Int) < x2 → Q 0 0 M18) ∧ (¬ ((3 : Int) < x2) → ∀ M21 : bk_M, M21 = bk_up M18 10 0 (2 : Int) (3 : Int) → ∀ M22 : bk_M, M22 = bk_up M21 10 0 (5 : Int) x5 → Q 0 0 M22))))) ∧ (¬ ((7 : Int) < x1) → ∀ M23 : bk_M, M23 = bk_up M18 10 0 (2 : Int) (2 : Int) → ∀ M24 : bk_M, M24 = bk_up M23 10 0 (3 : Int) x3 → Q 0 0 M24))))) ∧ (¬ ((57 : Int) < M 53 0 x6) → bk_r32 (x2 + (1 : Int)) ∧ bk_r32 (x6 + (1 : Int)) ∧ bk_wp (bk_C d) P_10 Q 0 15 [bk_c 10 0, bk_i x1, bk_i (x2 + (1 : Int)), bk_l x3, bk_x, bk_i (bk_w32 ((bk_w32 ((bk_w32 ((10 : Int) * x5)) + (M 53 0 x6))) - (48 : Int))), bk_i (x6 + (1 : Int)), bk_i (M 53 0 x6)] [] M))))) ∧ (¬ (M 53 0 x6 < (97 : Int)) → (((122 : Int) < M 53 0 x6 → ((M 53 0 x6 < (48 : Int) → ∀ M25 : bk_M, M25 = bk_up M 10 0 (10 : Int) x6 → ∀ M26 : bk_M, M26 = bk_up M25 10 0 (2 : Int) (1 : Int) → ((x2 ≠ (0 : Int) → ((x1 ≠ (0 : Int) → Q 0 0 M26) ∧ (¬ (x1 ≠ (0 : Int)) → (((3 : Int) < x2 → Q 0 0 M26) ∧ (¬ ((3 : Int) < x2) → ∀ M27 : bk_M, M27 = bk_up M26 10 0 (2 : Int) (3 : Int) → ∀ M28 : bk_M, M28 = bk_up M27 10 0 (5 : Int) x5 → Q 0 0 M28))))) ∧ (¬ (x2 ≠ (0 : Int)) → (((7 : Int) < x1 → ((x1 ≠ (0 : Int) → Q 0 0 M26) ∧ (¬ (x1 ≠ (0 : Int)) → (((3 : Int) < x2 → Q 0 0 M26) ∧ (¬ ((3 : Int) < x2) → ∀ M29 : bk_M, M29 = bk_up M26 10 0 (2 : Int) (3 : Int) → ∀ M30 : bk_M, M30 = bk_up M29 10 0 (5 : Int) x5 → Q 0 0 M30))))) ∧ (¬ ((7 : Int) < x1) → ∀ M31 : bk_M, M31 = bk_up M26 10 0 (2 : Int) (2 : Int) → ∀ M32 : bk_M, M32 = bk_up M31 10 0 (3 : Int) x3 → Q 0 0 M32))))) ∧ (¬ (M 53 0 x6 < (48 : Int)) → (((57 : Int) < M 53 0 x6 → ∀ M33 : bk_M, M33 = bk_up M 10 0 (10 : Int) x6 → ∀ M34 : bk_M, M34 = bk_up M33 10 0 (2 : Int) (1 : Int) → ((x2 ≠ (0 : Int) → ((x1 ≠ (0 : Int) → Q 0 0 M34) ∧ (¬ (x1 ≠ (0 : Int)) → (((3 : Int) < x2 → Q 0 0 M34) ∧ (¬ ((3 : Int) < x2) → ∀ M35 : bk_M, M35 = bk_up M34 10 0 (2 : Int) (3 : Int) → ∀ M36 : bk_M, M36 = bk_up M35 10 0 (5 : Int) x5 → Q 0 0 M36))))) ∧ (¬ (x2 ≠ (0 : Int)) → (((7 : Int) < x1 → ((x1 ≠ (0 : Int) → Q 0 0 M34) ∧ (¬ (x1 ≠ (0 : Int)) → (((3 : Int) < x2 → Q 0 0 M34) ∧ (¬ ((3 : Int) < x2) → ∀ M37 : bk_M, M37 = bk_up M34 10 0 (2 : Int) (3 : Int) → ∀ M38 : bk_M, M38 = bk_up M37 10 0 (5 : Int) x5 → Q 0 0 M38))))) ∧ (¬ ((7 : Int) < x1) → ∀ M39 : bk_M, M39 = bk_up M34 10 0 (2 : Int) (2 : Int) → ∀ M40 : bk_M, M40 = bk_up M39 10 0 (3 : Int) x3 → Q 0 0 M40))))) ∧ (¬ ((57 : Int) < M 53 0 x6) → bk_r32 (x2 + (1 : Int)) ∧ bk_r32 (x6 + (1 : Int)) ∧ bk_wp (bk_C d) P_10 Q 0 15 [bk_c 10 0, bk_i x1, bk_i (x2 + (1 : Int)), bk_l x3, bk_x, bk_i (bk_w32 ((bk_w32 ((bk_w32 ((10 : Int) * x5)) + (M 53 0 x6))) - (48 : Int))), bk_i (x6 + (1 : Int)), bk_i (M 53 0 x6)] [] M))))) ∧ (¬ ((122 : Int) < M 53 0 x6) → bk_r32 (x1 + (1 : Int)) ∧ ((0 : Int) ≤ (5 : Int) ∧ (5 : Int) < 64) ∧ bk_r32 (x6 + (1 : Int)) ∧ bk_wp (bk_C d) P_10 Q 0 15 [bk_c 10 0, bk_i (x1 + (1 : Int)), bk_i x2, bk_l (bk_w64 ((bk_w64 (x3 * 2 ^ (5 : Int).toNat)) + (bk_w32 ((bk_w32 ((M 53 0 x6) - (97 : Int))) + (1 : Int))))), bk_x, bk_i x5, bk_i (x6 + (1 : Int)), bk_i (M 53 0 x6)] [] M)))))) := bk_iff [15] 40
theorem bkEv_s {P : Int → Bool} {p : Int} {n : Nat} : bkEv P p (n + 1) = (bkEv P p n && P (p + n)) := rfl
theorem S10 {d : Nat} {M : bk_M} {c p : Int} (hc : M 10 0 1 = c) (hp : M 10 0 11 = p) (h0 : 0 ≤ p) (h1 : p ≤ c) (h2 : c ≤ 940) : bk_C (d + 1) 0 10 [bk_c 10 0] M (fun t r M' => t = 0 ∧ bkFr (fun k a => k = 10 ∧ a = 0) M M' ∧ (∀ j, j ≠ 2 → j ≠ 3 → j ≠ 5 → j ≠ 10 → M' 10 0 j = M 10 0 j) ∧ M' 10 0 10 = bkTe (M 53 0) c p ∧ M' 10 0 2 = bkRk (M 53 0) p (bkTl (M 53 0) c p) ∧ (bkRk (M 53 0) p (bkTl (M 53 0) c p) = 2 → M' 10 0 3 = bkKy 32 (M 53 0) p (bkTl (M 53 0) c p)) ∧ (bkRk (M 53 0) p (bkTl (M 53 0) c p) = 3 → M' 10 0 5 = bkVl (M 53 0) p (bkTl (M 53 0) c p))) := by
  rw [E_10, hp]
  generalize hQ : (fun (t : Nat) (r : Int) (M' : bk_M) => t = 0 ∧ _) = Q
  obtain ⟨e1, e2, e3, e4⟩ := bkEd_ok (fun j => bkAl (M 53 0 j)) _ p rfl h1
  have key : ∀ (m n : Nat) (x1 x2 x3 x5 : Int) (v7 : bk_V), p + n + m = c → (∀ j, p ≤ j → j < p + n → bkAl (M 53 0 j) = true) → x1 + x2 = n → 0 ≤ x1 → 0 ≤ x2 → (x2 = 0 ↔ bkEv (fun j => bkSm (M 53 0 j)) p n = true) → (x1 = 0 ↔ bkEv (fun j => bkDg (M 53 0 j)) p n = true) → (x2 = 0 → x1 ≤ 7 → x3 = bkKy 32 (M 53 0) p n) → (x1 = 0 → x2 ≤ 3 → x5 = bkVl (M 53 0) p n) → bk_wp (bk_C d) P_10 Q 0 15 [bk_c 10 0, bk_i x1, bk_i x2, bk_l x3, bk_x, bk_i x5, bk_i (p + n), v7] [] M := by
    intro m
    induction m with
    | zero => ?_
    | succ m ih => ?_
    all_goals
      intro n x1 x2 x3 x5 v7 hn ha hx h3 h4 i2 i3 i4 i5
      rw [LG_10_15, hc]
      have fin : (c ≤ p + n ∨ bkAl (M 53 0 (p + n)) = false) → ∀ x6, x6 = p + n → ∀ M1 : bk_M, M1 = bk_up M 10 0 (10 : Int) x6 → ∀ M2 : bk_M, M2 = bk_up M1 10 0 (2 : Int) (1 : Int) → ((x2 ≠ (0 : Int) → ((x1 ≠ (0 : Int) → Q 0 0 M2) ∧ (¬ (x1 ≠ (0 : Int)) → (((3 : Int) < x2 → Q 0 0 M2) ∧ (¬ ((3 : Int) < x2) → ∀ M3 : bk_M, M3 = bk_up M2 10 0 (2 : Int) (3 : Int) → ∀ M4 : bk_M, M4 = bk_up M3 10 0 (5 : Int) x5 → Q 0 0 M4))))) ∧ (¬ (x2 ≠ (0 : Int)) → (((7 : Int) < x1 → ((x1 ≠ (0 : Int) → Q 0 0 M2) ∧ (¬ (x1 ≠ (0 : Int)) → (((3 : Int) < x2 → Q 0 0 M2) ∧ (¬ ((3 : Int) < x2) → ∀ M5 : bk_M, M5 = bk_up M2 10 0 (2 : Int) (3 : Int) → ∀ M6 : bk_M, M6 = bk_up M5 10 0 (5 : Int) x5 → Q 0 0 M6))))) ∧ (¬ ((7 : Int) < x1) → ∀ M7 : bk_M, M7 = bk_up M2 10 0 (2 : Int) (2 : Int) → ∀ M8 : bk_M, M8 = bk_up M7 10 0 (3 : Int) x3 → Q 0 0 M8)))) := by
        intro hend x6 hx6
        have ee : bkTe (M 53 0) c p = p + n := bkEd_eq (by omega) (.inl (by omega)) ha hend
        have el : bkTl (M 53 0) c p = n := by unfold bkTl; rw [ee]; omega
        rw [ee, el] at hQ
        subst hx6
        subst hQ
        intro M1 e1 M2 e2
        have fr : bkFr (fun k a => k = 10 ∧ a = 0) M M2 := by rw [e2, e1]; exact bkFr_up (bkFr_up (bkFr_refl _ _) ⟨rfl, rfl⟩) ⟨rfl, rfl⟩
        have o : ∀ j, j ≠ 2 → j ≠ 3 → j ≠ 5 → j ≠ 10 → M2 10 0 j = M 10 0 j := fun j q1 q2 q3 q4 => by rw [e2, e1, bk_up_s q1, bk_up_s q4]
        have o10 : M2 10 0 10 = p + n := by rw [e2, e1, bk_up_s (by decide), bk_up_e]
        have o2 : M2 10 0 2 = 1 := by rw [e2, bk_up_e]
        have bad : bkRk (M 53 0) p n = 1 → (fun (t : Nat) (r : Int) (M' : bk_M) => t = 0 ∧ bkFr (fun k a => k = 10 ∧ a = 0) M M' ∧ (∀ j, j ≠ 2 → j ≠ 3 → j ≠ 5 → j ≠ 10 → M' 10 0 j = M 10 0 j) ∧ M' 10 0 10 = p + n ∧ M' 10 0 2 = bkRk (M 53 0) p n ∧ (bkRk (M 53 0) p n = 2 → M' 10 0 3 = bkKy 32 (M 53 0) p n) ∧ (bkRk (M 53 0) p n = 3 → M' 10 0 5 = bkVl (M 53 0) p n)) 0 0 M2 := fun q => by
          rw [q]; exact ⟨rfl, fr, o, o10, o2, fun w => absurd w (by decide), fun w => absurd w (by decide)⟩
        refine ⟨fun z1 => ?_, fun z1 => ?_⟩
        · have w1 : ¬ bkEv (fun j => bkSm (M 53 0 j)) p n = true := fun w => z1 (i2.2 w)
          refine ⟨fun z2 => bad ?_, fun z2 => ?_⟩
          · unfold bkRk; rw [if_neg w1, if_neg fun w => z2 (i3.2 w.1)]
          · have z2 : x1 = 0 := by omega
            refine ⟨fun z3 => bad ?_, fun z3 M3 e3 M4 e4 => ?_⟩
            · unfold bkRk; rw [if_neg w1, if_neg (by omega)]
            · have q : bkRk (M 53 0) p n = 3 := by unfold bkRk; rw [if_neg w1, if_pos ⟨i3.1 z2, by omega⟩]
              dsimp only
              rw [q]
              refine ⟨rfl, by rw [e4, e3]; exact bkFr_up (bkFr_up fr ⟨rfl, rfl⟩) ⟨rfl, rfl⟩, fun j q1 q2 q3 q4 => by rw [e4, e3, bk_up_s q3, bk_up_s q1, o j q1 q2 q3 q4], by rw [e4, e3, bk_up_s (by decide), bk_up_s (by decide), o10], by rw [e4, e3, bk_up_s (by decide), bk_up_e], fun w => absurd w (by decide), fun _ => by rw [e4, bk_up_e]; exact i5 z2 (by omega)⟩
        · have z1 : x2 = 0 := by omega
          have w1 := i2.1 z1
          refine ⟨fun z2 => ?_, fun z2 M7 e7 M8 e8 => ?_⟩
          · have bad := bad (by unfold bkRk; rw [if_pos w1, if_neg (by omega)])
            exact ⟨fun _ => bad, fun z3 => by omega⟩
          · have q : bkRk (M 53 0) p n = 2 := by unfold bkRk; rw [if_pos w1, if_pos (by omega)]
            dsimp only
            rw [q]
            refine ⟨rfl, by rw [e8, e7]; exact bkFr_up (bkFr_up fr ⟨rfl, rfl⟩) ⟨rfl, rfl⟩, fun j q1 q2 q3 q4 => by rw [e8, e7, bk_up_s q2, bk_up_s q1, o j q1 q2 q3 q4], by rw [e8, e7, bk_up_s (by decide), bk_up_s (by decide), o10], by rw [e8, e7, bk_up_s (by decide), bk_up_e], fun _ => by rw [e8, bk_up_e]; exact i4 z1 (by omega), fun w => absurd w (by decide)⟩
    · exact ⟨fun _ => fin (.inl (by omega)) _ rfl, fun z => absurd (by omega) z⟩
    · refine ⟨fun z => absurd z (by omega), fun _ => ⟨by omega, ?_⟩⟩
      have nxt : ∀ j, bkAl (M 53 0 (p + n)) = true → p ≤ j → j < p + (n + 1 : Nat) → bkAl (M 53 0 j) = true := fun j w q1 q2 => by
        by_cases e : j = p + n
        · rw [e]; exact w
        · exact ha j q1 (by omega)
      have dig : ¬ M 53 0 (p + n) < 48 → ¬ 57 < M 53 0 (p + n) → bk_r32 (x2 + 1) ∧ bk_r32 (p + n + 1) ∧ bk_wp (bk_C d) P_10 Q 0 15 [bk_c 10 0, bk_i x1, bk_i (x2 + 1), bk_l x3, bk_x, bk_i (bk_w32 ((bk_w32 ((bk_w32 (10 * x5)) + (M 53 0 (p + n)))) - 48)), bk_i (p + n + 1), bk_i (M 53 0 (p + n))] [] M := fun z1 z2 => by
        have g : bkDg (M 53 0 (p + n)) = true := by unfold bkDg; rw [decide_eq_true_eq]; omega
        have g2 : bkSm (M 53 0 (p + n)) = false := by unfold bkSm; rw [decide_eq_false_iff_not]; omega
        refine ⟨by unfold bk_r32; omega, by unfold bk_r32; omega, ?_⟩
        have := ih (n + 1) x1 (x2 + 1) x3 (bk_w32 ((bk_w32 ((bk_w32 (10 * x5)) + (M 53 0 (p + n)))) - 48)) (bk_i (M 53 0 (p + n))) (by omega) (fun j => nxt j (by unfold bkAl; rw [g, Bool.or_true])) (by omega) h3 (by omega) ⟨fun w => by omega, fun w => by rw [bkEv_s, g2, Bool.and_false] at w; exact absurd w (by decide)⟩ ⟨fun w => by rw [bkEv_s, Bool.and_eq_true]; exact ⟨i3.1 w, g⟩, fun w => by rw [bkEv_s, Bool.and_eq_true] at w; exact i3.2 w.1⟩ (fun w => by omega) (fun w1 w2 => by
          have b := bkVl_b (i3.1 w1)
          have h10 : 10 ^ n ≤ 10 ^ 2 := Nat.pow_le_pow_right (by decide) (by omega)
          have h100 : 10 ^ 2 = 100 := rfl
          rw [i5 w1 (by omega)]
          rw [bk_w32_id (z := 10 * bkVl (M 53 0) p n) (by unfold bk_r32; omega), bk_w32_id (z := 10 * bkVl (M 53 0) p n + M 53 0 (p + n)) (by unfold bk_r32; omega), bk_w32_id (by unfold bk_r32; omega)]
          show _ = 10 * bkVl (M 53 0) p n + (M 53 0 (p + n) - 48)
          omega)
        rwa [show ((n + 1 : Nat) : Int) = n + 1 by omega, show p + ((n : Int) + 1) = p + n + 1 by omega] at this
      have oth : (M 53 0 (p + n) < 97 ∨ 122 < M 53 0 (p + n)) → (M 53 0 (p + n) < 48 ∨ 57 < M 53 0 (p + n)) → bkAl (M 53 0 (p + n)) = false := fun z1 z2 => by
        unfold bkAl bkSm bkDg
        rw [decide_eq_false (by omega), decide_eq_false (by omega)]; rfl
      refine ⟨fun z1 => ⟨fun z2 => fin (.inr (oth (.inl z1) (.inl z2))) _ rfl, fun z2 => ⟨fun z3 => fin (.inr (oth (.inl z1) (.inr z3))) _ rfl, fun z3 => ?_⟩⟩, fun z1 => ⟨fun z4 => ⟨fun z2 => fin (.inr (oth (.inr z4) (.inl z2))) _ rfl, fun z2 => ⟨fun z3 => fin (.inr (oth (.inr z4) (.inr z3))) _ rfl, fun z3 => ?_⟩⟩, fun z4 => ?_⟩⟩
      · exact dig z2 z3
      · exact dig z2 z3
      · have g : bkSm (M 53 0 (p + n)) = true := by unfold bkSm; rw [decide_eq_true_eq]; omega
        have g2 : bkDg (M 53 0 (p + n)) = false := by unfold bkDg; rw [decide_eq_false_iff_not]; omega
        refine ⟨by unfold bk_r32; omega, by omega, by unfold bk_r32; omega, ?_⟩
        have := ih (n + 1) (x1 + 1) x2 (bk_w64 ((bk_w64 (x3 * 2 ^ (5 : Int).toNat)) + (bk_w32 ((bk_w32 ((M 53 0 (p + n)) - 97)) + 1)))) x5 (bk_i (M 53 0 (p + n))) (by omega) (fun j => nxt j (by unfold bkAl; rw [g, Bool.true_or])) (by omega) (by omega) h4 ⟨fun w => by rw [bkEv_s, Bool.and_eq_true]; exact ⟨i2.1 w, g⟩, fun w => by rw [bkEv_s, Bool.and_eq_true] at w; exact i2.2 w.1⟩ ⟨fun w => by omega, fun w => by rw [bkEv_s, g2, Bool.and_false] at w; exact absurd w (by decide)⟩ (fun w1 w2 => by
          have b := bkKy_b (i2.1 w1)
          have h10 : 32 ^ n ≤ 32 ^ 6 := Nat.pow_le_pow_right (by decide) (by omega)
          have h100 : 32 ^ 6 = 1073741824 := rfl
          rw [i4 w1 (by omega), show (2 : Int) ^ (5 : Int).toNat = 32 from rfl]
          rw [bk_w32_id (z := M 53 0 (p + n) - 97) (by unfold bk_r32; omega), bk_w32_id (z := M 53 0 (p + n) - 97 + 1) (by unfold bk_r32; omega), bkW64 (z := bkKy 32 (M 53 0) p n * 32) (by unfold bk_r64; omega), bkW64 (by unfold bk_r64; omega)]
          show _ = 32 * bkKy 32 (M 53 0) p n + (M 53 0 (p + n) - 96)
          omega) (fun w => by omega)
        rwa [show ((n + 1 : Nat) : Int) = n + 1 by omega, show p + ((n : Int) + 1) = p + n + 1 by omega] at this
  have := key (c - p).toNat 0 0 0 0 0 bk_x (by omega) (fun j _ _ => by omega) rfl (by omega) (by omega) ⟨fun _ => rfl, fun _ => rfl⟩ ⟨fun _ => rfl, fun _ => rfl⟩ (fun _ _ => rfl) (fun _ _ => rfl)
  rwa [show p + ((0 : Nat) : Int) = p by omega] at this
