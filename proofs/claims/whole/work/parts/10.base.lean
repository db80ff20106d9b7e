/-! Numbers, sums, bits: what both sides count with. -/
theorem bk_and_mod {x m : Int} {k : Nat} (hk : k < 32) (hm : m = 2 ^ k - 1) : bk_and x m = x % 2 ^ k := by
  unfold bk_and
  have h1 : (BitVec.ofInt 32 m).toNat = 2 ^ k - 1 := by
    subst hm
    have key : ∀ k : Nat, k < 32 → (BitVec.ofInt 32 (2 ^ k - 1)).toNat = 2 ^ k - 1 := by decide +kernel
    exact key k hk
  have h2 : (BitVec.ofInt 32 x &&& BitVec.ofInt 32 m).toNat = (x % 2 ^ k).toNat := by
    rw [BitVec.toNat_and, h1, Nat.and_two_pow_sub_one_eq_mod, BitVec.toNat_ofInt]
    have h3 : (((2 : Nat) ^ 32 : Nat) : Int) = 2 ^ 32 := by decide
    rw [h3]
    have h4 : (0 : Int) ≤ x % 2 ^ 32 := Int.emod_nonneg _ (by decide)
    have h5 : (x % 2 ^ 32) % 2 ^ k = x % 2 ^ k := Int.emod_emod_of_dvd x ⟨2 ^ (32 - k), by rw [← Int.pow_add]; congr 1; omega⟩
    have h6 : (((x % 2 ^ 32).toNat % 2 ^ k : Nat) : Int) = x % 2 ^ k := by
      rw [Int.natCast_emod, Int.toNat_of_nonneg h4, Int.natCast_pow]
      exact h5
    omega
  have h7 : (0 : Int) < 2 ^ k := Int.pow_pos (by omega)
  have h8 := Int.emod_nonneg x (Int.ne_of_gt h7)
  have h9 := Int.emod_lt_of_pos x h7
  have h10 : (2 : Int) ^ k ≤ 2147483648 := by
    have key : ∀ k : Nat, k < 32 → (2 : Int) ^ k ≤ 2147483648 := by decide
    exact key k hk
  rw [BitVec.toInt_eq_toNat_of_lt, h2]
  · omega
  · rw [h2]; omega
theorem bk_and1 (x : Int) : bk_and x 1 = x % 2 := bk_and_mod (k := 1) (by decide) (by decide)
theorem bk_and63 (x : Int) : bk_and x 63 = x % 64 := bk_and_mod (k := 6) (by decide) (by decide)
theorem bk_and255 (x : Int) : bk_and x 255 = x % 256 := bk_and_mod (k := 8) (by decide) (by decide)
theorem bk_w32_id {z : Int} (h : bk_r32 z) : bk_w32 z = z := by
  unfold bk_r32 at h
  unfold bk_w32
  exact Int.bmod_eq_of_le (by omega) (by omega)
def bkSum (g : Int → Int) : Nat → Int
  | 0 => 0
  | n + 1 => bkSum g n + g n
theorem bkSum_congr {g h : Int → Int} : ∀ {n : Nat}, (∀ k : Nat, k < n → g k = h k) → bkSum g n = bkSum h n
  | 0, _ => rfl
  | n + 1, q => by
    unfold bkSum
    rw [bkSum_congr fun k hk => q k (by omega), q n (by omega)]
theorem bkSum_le {g : Int → Int} {c : Int} : ∀ {n : Nat}, (∀ k : Nat, k < n → 0 ≤ g k ∧ g k ≤ c) → 0 ≤ bkSum g n ∧ bkSum g n ≤ n * c
  | 0, _ => by simp [bkSum]
  | n + 1, q => by
    unfold bkSum
    have h1 := bkSum_le (n := n) fun k hk => q k (by omega)
    have h2 := q n (by omega)
    have h3 : ((n + 1 : Nat) : Int) * c = n * c + c := by push_cast; rw [Int.add_mul, Int.one_mul]
    omega
/-- a set of fields, as bits -/
def bkBits (p : Int → Bool) : Nat → Int := bkSum fun f => if p f then 2 ^ f.toNat else 0
theorem bkBits_lt (p : Int → Bool) : ∀ n : Nat, 0 ≤ bkBits p n ∧ bkBits p n < 2 ^ n
  | 0 => by simp [bkBits, bkSum]
  | n + 1 => by
    have h := bkBits_lt p n
    have h2 : bkBits p (n + 1) = bkBits p n + (if p n then 2 ^ n else 0) := by
      unfold bkBits; rw [bkSum]; simp
    rw [h2, Int.pow_succ]
    split <;> omega
theorem bk_or_bit : ∀ f : Nat, f < 10 → ∀ x : Nat, x < 2 ^ f → bk_or x (2 ^ f) = x + 2 ^ f := by decide +kernel
theorem bkBits_or {p : Int → Bool} {n : Nat} (h : n < 10) : bk_or (bkBits p n) (2 ^ n) = bkBits p n + 2 ^ n := by
  have h1 := bkBits_lt p n
  obtain ⟨x, hx⟩ : ∃ x : Nat, bkBits p n = x := ⟨(bkBits p n).toNat, by omega⟩
  rw [hx] at h1 ⊢
  exact bk_or_bit n h x (by have := h1.2; exact_mod_cast this)
theorem bkBits_succ (p : Int → Bool) (n : Nat) : bkBits p (n + 1) = bkBits p n + (if p n then 2 ^ n else 0) := by
  unfold bkBits; rw [bkSum]; simp
theorem bkBits_congr {p q : Int → Bool} {n : Nat} (h : ∀ k : Nat, k < n → p k = q k) : bkBits p n = bkBits q n :=
  bkSum_congr fun k hk => by show (if p k = true then _ else _) = _; rw [h k hk]
theorem bkBits_get {p : Int → Bool} (k : Nat) : ∀ n : Nat, bkBits p n / 2 ^ k % 2 = if k < n ∧ p k = true then 1 else 0
  | 0 => by simp [bkBits, bkSum]
  | n + 1 => by
    have ih := bkBits_get (p := p) k n
    have hlt := bkBits_lt p n
    rw [bkBits_succ]
    have hp : (0 : Int) < 2 ^ k := Int.pow_pos (by omega)
    rcases Nat.lt_trichotomy k n with h | h | h
    · by_cases hn : p n = true
      · rw [if_pos hn]
        have e : (2 : Int) ^ n = 2 ^ (n - k - 1) * 2 * 2 ^ k := by
          rw [← Int.pow_succ, ← Int.pow_add]; congr 1; omega
        rw [e, Int.add_mul_ediv_right _ _ (Int.ne_of_gt hp), Int.add_mul_emod_self_right, ih]
        simp only [h, show k < n + 1 by omega, true_and]
      · rw [if_neg hn, Int.add_zero, ih]
        simp only [h, show k < n + 1 by omega, true_and]
    · subst h
      have e0 : bkBits p k / 2 ^ k = 0 := Int.ediv_eq_zero_of_lt hlt.1 hlt.2
      by_cases hn : p k = true
      · have e1 : (bkBits p k + 2 ^ k) / 2 ^ k = 1 := by
          have := Int.add_mul_ediv_right (bkBits p k) 1 (Int.ne_of_gt hp)
          rw [Int.one_mul] at this
          rw [this, e0]; rfl
        rw [if_pos hn, e1]
        simp [hn]
      · rw [if_neg hn, Int.add_zero, e0]
        simp [hn]
    · have hle : (2 : Int) ^ (n + 1) ≤ 2 ^ k := by
        have := Nat.pow_le_pow_right (show 0 < 2 by omega) (show n + 1 ≤ k by omega)
        exact_mod_cast this
      have h2 := bkBits_lt p (n + 1)
      rw [bkBits_succ] at h2
      have e0 : (bkBits p n + (if p n then 2 ^ n else 0)) / 2 ^ k = 0 := Int.ediv_eq_zero_of_lt h2.1 (by omega)
      rw [e0]
      simp [show ¬ k < n + 1 by omega]
/-- whose a cell is by a bed -/
def bkBank (co : Int → Int) (c : Int) : Int := if c % 6 = co (c / 6) then 2 else if c % 6 < co (c / 6) then 0 else 1
