/-! Small methods, each as one equivalence. -/
theorem S41 {d i k : Nat} {Q : bk_Q} {c : Int} {M : bk_M} (hk : k = 29 ∨ k = 46) (h0 : 0 ≤ c) (h1 : c < 36) : bk_C (d + 1) 0 41 [bk_c k i, bk_i c] M Q ↔ Q 0 (bkBank (M k i) c) M := by
  rw [GE_41 hk]; unfold bkBank; grind
/-- a plain of the class, within its bounds -/
def bkPl (M : bk_M) (i : Nat) : Prop :=
  (3 ≤ M 5 i 0 ∧ M 5 i 0 ≤ 6) ∧ (2 ≤ M 5 i 1 ∧ M 5 i 1 ≤ 6) ∧ (0 ≤ M 5 i 2 ∧ M 5 i 2 < M 5 i 0) ∧ (0 ≤ M 5 i 3 ∧ M 5 i 3 ≤ 5) ∧ (0 ≤ M 5 i 6 ∧ M 5 i 6 ≤ 10) ∧ (0 ≤ M 5 i 11 ∧ M 5 i 11 ≤ 3) ∧ (0 ≤ M 5 i 17 ∧ M 5 i 17 ≤ 400) ∧
  (∀ c, 0 ≤ c → c < 36 → 0 ≤ M 28 i c ∧ M 28 i c ≤ 9) ∧ (∀ y, 0 ≤ y → y < M 5 i 1 → 0 ≤ M 29 i y ∧ M 29 i y < M 5 i 0) ∧
  (∀ f, 0 ≤ f → f < M 5 i 6 → 0 ≤ M 30 i f ∧ M 30 i f % 6 < M 5 i 0 ∧ M 30 i f / 6 < M 5 i 1 ∧ 1 ≤ M 31 i f ∧ M 31 i f ≤ 20 ∧ 0 ≤ M 32 i f ∧ M 32 i f ≤ M 5 i 17) ∧
  (∀ m, 0 ≤ m → m < M 5 i 11 → 0 ≤ M 34 i m ∧ M 34 i m % 6 < M 5 i 0 ∧ M 34 i m / 6 < M 5 i 1) ∧
  (∀ s, 0 ≤ s → s < 2 → 0 ≤ M 37 i s ∧ M 37 i s ≤ 999)
theorem bkPl_cell {M : bk_M} {i : Nat} (h : bkPl M i) {f : Int} (h0 : 0 ≤ f) (h1 : f < M 5 i 6) : 0 ≤ M 30 i f ∧ M 30 i f < 36 := by
  obtain ⟨a, b, c, e, g, m, n, p, q, r, s, t⟩ := h
  have := r f h0 h1
  omega
def bkIs (M : bk_M) (i k j : Nat) (s : Int) : Int → Bool := fun f => decide (bkBank (M k j) (M 30 i f) = s)
theorem S48 {d i j k : Nat} {Q : bk_Q} {s : Int} {M : bk_M} (hk : k = 29 ∨ k = 46) (hP : bkPl M i) : bk_C (d + 2) 0 48 [bk_c 5 i, bk_c k j, bk_i s] M Q ↔ Q 0 (bkBits (bkIs M i k j s) (M 5 i 6).toNat) M := by
  have hf : 0 ≤ M 5 i 6 ∧ M 5 i 6 ≤ 10 := hP.2.2.2.2.1
  refine bk_det (fun Q hQ => ?_) Q
  rw [GE_48 hk]
  have key : ∀ (n : Nat) (f : Nat), f + n = (M 5 i 6).toNat → bk_wp (bk_C (d + 1)) P_48 Q 0 5 [bk_c 5 i, bk_c k j, bk_i s, bk_i (bkBits (bkIs M i k j s) f), bk_i f] [] M := by
    intro n
    induction n with
    | zero =>
      intro f hf2
      rw [GL_48_5 hk]
      refine ⟨fun _ => ?_, fun q => absurd (by omega) q⟩
      rw [show f = (M 5 i 6).toNat by omega]; exact hQ
    | succ n ih =>
      intro f hf2
      rw [GL_48_5 hk]
      refine ⟨fun q => absurd q (by omega), fun _ => ⟨by omega, ?_⟩⟩
      obtain ⟨c0, c1⟩ := bkPl_cell hP (f := f) (by omega) (by omega)
      rw [S41 hk c0 c1]
      have ih := ih (f + 1) (by omega)
      rw [bkBits_succ] at ih
      have e : ((f + 1 : Nat) : Int) = (f : Int) + 1 := by omega
      rw [e] at ih
      have hb := bkBits_lt (bkIs M i k j s) f
      have hp : (2 : Int) ^ f ≤ 1024 := by
        have key : ∀ f : Nat, f < 10 → (2 : Int) ^ f ≤ 1024 := by decide
        exact key f (by omega)
      have hp0 : (0 : Int) < 2 ^ f := Int.pow_pos (by omega)
      refine ⟨rfl, fun q => ?_, fun q => ?_⟩
      · rw [if_neg (by simpa [bkIs] using q), Int.add_zero] at ih
        exact ⟨by unfold bk_r32; omega, ih⟩
      · rw [if_pos (by simpa [bkIs] using q)] at ih
        have e2 : (1 : Int) * 2 ^ (f : Int).toNat = 2 ^ f := by rw [Int.one_mul]; rfl
        refine ⟨⟨by omega, by omega, by rw [e2]; unfold bk_r32; omega⟩, by unfold bk_r32; omega, ?_⟩
        rw [e2, bkBits_or (by omega)]
        exact ih
  exact key (M 5 i 6).toNat 0 (by omega)
/-- the worth of the fields that p picks -/
def bkWorth (w : Int → Int) (p : Int → Bool) : Nat → Int := bkSum fun f => if p f then w f else 0
theorem bkWorth_succ (w : Int → Int) (p : Int → Bool) (n : Nat) : bkWorth w p (n + 1) = bkWorth w p n + (if p n then w n else 0) := rfl
theorem bkWorth_le {w : Int → Int} {p : Int → Bool} {n : Nat} (h : ∀ k : Nat, k < n → 0 ≤ w k ∧ w k ≤ 20) : 0 ≤ bkWorth w p n ∧ bkWorth w p n ≤ n * 20 := by
  refine bkSum_le fun k hk => ?_
  have := h k hk
  show 0 ≤ (if p k = true then w k else 0) ∧ (if p k = true then w k else 0) ≤ 20
  split <;> omega
theorem bkWorth_congr {w v : Int → Int} {p q : Int → Bool} {n : Nat} (h : ∀ k : Nat, k < n → p k = q k ∧ w k = v k) : bkWorth w p n = bkWorth v q n :=
  bkSum_congr fun k hk => by show (if p k = true then _ else _) = _; rw [(h k hk).1, (h k hk).2]
theorem S49 {d i j k : Nat} {Q : bk_Q} {s : Int} {M : bk_M} (hk : k = 29 ∨ k = 46) (hP : bkPl M i) : bk_C (d + 2) 0 49 [bk_c 5 i, bk_c k j, bk_i s] M Q ↔ Q 0 (bkWorth (M 31 i) (bkIs M i k j s) (M 5 i 6).toNat) M := by
  have hf : 0 ≤ M 5 i 6 ∧ M 5 i 6 ≤ 10 := hP.2.2.2.2.1
  refine bk_det (fun Q hQ => ?_) Q
  rw [GE_49 hk]
  have key : ∀ (n : Nat) (f : Nat), f + n = (M 5 i 6).toNat → bk_wp (bk_C (d + 1)) P_49 Q 0 5 [bk_c 5 i, bk_c k j, bk_i s, bk_i (bkWorth (M 31 i) (bkIs M i k j s) f), bk_i f] [] M := by
    intro n
    induction n with
    | zero =>
      intro f hf2
      rw [GL_49_5 hk]
      refine ⟨fun _ => ?_, fun q => absurd (by omega) q⟩
      rw [show f = (M 5 i 6).toNat by omega]; exact hQ
    | succ n ih =>
      intro f hf2
      rw [GL_49_5 hk]
      refine ⟨fun q => absurd q (by omega), fun _ => ⟨by omega, ?_⟩⟩
      obtain ⟨c0, c1⟩ := bkPl_cell hP (f := f) (by omega) (by omega)
      rw [S41 hk c0 c1]
      have ih := ih (f + 1) (by omega)
      rw [bkWorth_succ] at ih
      have e : ((f + 1 : Nat) : Int) = (f : Int) + 1 := by omega
      rw [e] at ih
      have hw := bkWorth_le (w := M 31 i) (p := bkIs M i k j s) (n := f) (fun q hq => by have := hP.2.2.2.2.2.2.2.2.2.1 q (by omega) (by omega); omega)
      have hw2 := hP.2.2.2.2.2.2.2.2.2.1 f (by omega) (by omega)
      refine ⟨rfl, fun q => ?_, fun q => ?_⟩
      · rw [if_neg (by simpa [bkIs] using q), Int.add_zero] at ih
        exact ⟨by unfold bk_r32; omega, ih⟩
      · rw [if_pos (by simpa [bkIs] using q)] at ih
        exact ⟨by omega, by unfold bk_r32; omega, by unfold bk_r32; omega, ih⟩
  exact key (M 5 i 6).toNat 0 (by omega)
