/-! A plain is copied; the ring keeps it; the reference's snapshots. -/
def bkLenP (k : Nat) : Int := if k = 28 then 36 else if k = 29 then 6 else if k ≤ 33 then 10 else if k ≤ 36 then 3 else if k ≤ 38 then 2 else 48
/-- plain j is copied to plain i -/
def bkCopy (M : bk_M) (i j : Nat) : bk_M := fun k a p =>
  if k = 5 ∧ a = i ∧ (p = 0 ∨ p = 1 ∨ p = 2 ∨ p = 3 ∨ p = 6 ∨ p = 11 ∨ p = 17) then M 5 j p
  else if 28 ≤ k ∧ k ≤ 39 ∧ a = i ∧ 0 ≤ p ∧ p < bkLenP k then M k j p else M k a p
theorem S58 {d i j : Nat} {Q : bk_Q} {M : bk_M} (hij : j ≠ i) : bk_C (d + 1) 0 58 [bk_c 5 i, bk_c 5 j] M Q ↔ Q 0 0 (bkCopy M i j) := by
  refine bk_det (fun Q hQ => ?_) Q
  rw [E_58]
  simp only [forall_eq]
  refine ⟨by omega, by omega, by omega, by omega, by omega, by omega, by omega, by omega, by omega, by omega, by omega, by omega, ?_⟩
  refine Eq.mp (congrArg (Q 0 0) (?_ : bkCopy M i j = _)) hQ
  funext k a p
  have hk : k = 5 ∨ k = 28 ∨ k = 29 ∨ k = 30 ∨ k = 31 ∨ k = 32 ∨ k = 33 ∨ k = 34 ∨ k = 35 ∨ k = 36 ∨ k = 37 ∨ k = 38 ∨ k = 39 ∨ (k ≠ 5 ∧ k ≠ 28 ∧ k ≠ 29 ∧ k ≠ 30 ∧ k ≠ 31 ∧ k ≠ 32 ∧ k ≠ 33 ∧ k ≠ 34 ∧ k ≠ 35 ∧ k ≠ 36 ∧ k ≠ 37 ∧ k ≠ 38 ∧ k ≠ 39) := by omega
  rcases hk with rfl | rfl | rfl | rfl | rfl | rfl | rfl | rfl | rfl | rfl | rfl | rfl | rfl | hk
  · simp only [bk_cpy, bk_up, bkCopy]
    simp [hij]
    by_cases ha : a = i
    · subst ha
      by_cases p0 : p = 0
      · simp [p0]
      by_cases p1 : p = 1
      · simp [p1]
      by_cases p2 : p = 2
      · simp [p2]
      by_cases p3 : p = 3
      · simp [p3]
      by_cases p4 : p = 6
      · simp [p4]
      by_cases p5 : p = 11
      · simp [p5]
      by_cases p6 : p = 17
      · simp [p6]
      simp [p0, p1, p2, p3, p4, p5, p6]
    · simp [ha]
  all_goals first
    | (simp [bk_cpy, bk_up, bkCopy, bkLenP, hij]; done)
    | (rw [show bkCopy M i j k a p = M k a p by unfold bkCopy; rw [if_neg (by omega), if_neg (by omega)]]; simp [bk_cpy, bk_up, hk])
theorem bkCopy_o {M : bk_M} {i j k a : Nat} {p : Int} (h : a ≠ i ∨ (k ≠ 5 ∧ (k < 28 ∨ 39 < k))) : bkCopy M i j k a p = M k a p := by
  unfold bkCopy
  rw [if_neg (by omega), if_neg (by omega)]
theorem bkCopy_a {M : bk_M} {i j k : Nat} {p : Int} (hk : 28 ≤ k ∧ k ≤ 39) (h0 : 0 ≤ p) (h1 : p < bkLenP k) : bkCopy M i j k i p = M k j p := by
  unfold bkCopy
  rw [if_neg (by omega), if_pos ⟨hk.1, hk.2, rfl, h0, h1⟩]
theorem bkCopy_f {M : bk_M} {i j : Nat} {p : Int} (h : p = 0 ∨ p = 1 ∨ p = 2 ∨ p = 3 ∨ p = 6 ∨ p = 11 ∨ p = 17) : bkCopy M i j 5 i p = M 5 j p := by
  unfold bkCopy
  rw [if_pos ⟨rfl, rfl, h⟩]
/-- the ring after plain j is kept -/
def bkKeep (M : bk_M) (j : Nat) : bk_M := bk_up (bk_up (bkCopy M (3 + (M 3 0 1).toNat) j) 3 0 1 ((M 3 0 1 + 1) % 8)) 3 0 0 (if 8 ≤ M 3 0 0 + 1 then 8 else M 3 0 0 + 1)
theorem S57 {d j : Nat} {Q : bk_Q} {M : bk_M} (hj : j < 3) (h0 : 0 ≤ M 3 0 0 ∧ M 3 0 0 ≤ 8) (h1 : 0 ≤ M 3 0 1 ∧ M 3 0 1 < 8) : bk_C (d + 2) 0 57 [bk_c 3 0, bk_c 5 j] M Q ↔ Q 0 0 (bkKeep M j) := by
  refine bk_det (fun Q hQ => ?_) Q
  rw [E_57, S58 (by omega)]
  have e1 : bkCopy M (3 + (M 3 0 1).toNat) j 3 0 1 = M 3 0 1 := bkCopy_o (.inr (by omega))
  have e0 : ∀ v, bk_up (bkCopy M (3 + (M 3 0 1).toNat) j) 3 0 1 v 3 0 0 = M 3 0 0 := fun v => (bk_up_s (by decide)).trans (bkCopy_o (.inr (by omega)))
  simp only [forall_eq, e1, e0]
  unfold bk_r32
  exact ⟨h1, trivial, by omega, by omega, by omega, hQ⟩
/-- the reference's snapshot: one place more; the eldest goes when there are eight -/
def bkSn (M : bk_M) : Int → Int := fun c =>
  if M 12 0 25 = 8 then (if 0 ≤ c ∧ c < 805 then M 61 0 (c + 115) else if 805 ≤ c ∧ c < 920 then M 58 0 (80 + (c - 805)) else M 61 0 c)
  else if 115 * M 12 0 25 ≤ c ∧ c < 115 * M 12 0 25 + 115 then M 58 0 (80 + (c - 115 * M 12 0 25)) else M 61 0 c
def bkSnap (M : bk_M) : bk_M := fun k a c => if k = 61 ∧ a = 0 then bkSn M c else if k = 12 ∧ a = 0 ∧ c = 25 then (if M 12 0 25 = 8 then 8 else M 12 0 25 + 1) else M k a c
/-- places of kind k, which a, from s on, n of them, are f -/
def bkFill (M : bk_M) (k a : Nat) (s n : Int) (f : Int → Int) : bk_M := fun k' a' c => if k' = k ∧ a' = a ∧ s ≤ c ∧ c < s + n then f (c - s) else M k' a' c
theorem bkFill_0 (M : bk_M) (k a : Nat) (s : Int) (f : Int → Int) : bkFill M k a s 0 f = M := by
  funext k' a' c
  unfold bkFill
  rw [if_neg (by omega)]
theorem bkFill_s (M : bk_M) (k a : Nat) (s : Int) {n : Int} (f : Int → Int) (h : 0 ≤ n) : bkFill M k a s (n + 1) f = bk_up (bkFill M k a s n f) k a (s + n) (f n) := by
  funext k' a' c
  unfold bk_up bkFill
  by_cases e : k' = k ∧ a' = a ∧ c = s + n
  · rw [if_pos e, if_pos (by omega), show c - s = n by omega]
  · rw [if_neg e]
    by_cases e2 : k' = k ∧ a' = a ∧ s ≤ c ∧ c < s + n
    · rw [if_pos e2, if_pos (by omega)]
    · rw [if_neg e2, if_neg (by omega)]
theorem L213 {d : Nat} {Q : bk_Q} {M : bk_M} (h : 0 ≤ M 12 0 25 ∧ M 12 0 25 < 8) (hQ : Q 0 0 (bk_up (bkFill M 61 0 (115 * M 12 0 25) 115 (fun c => M 58 0 (80 + c))) 12 0 25 (M 12 0 25 + 1))) : bk_wp (bk_C d) P_213 Q 0 51 [bk_c 12 0, bk_i 0] [] M := by
  have key : ∀ n : Int, bkFill M 61 0 (115 * M 12 0 25) n (fun c => M 58 0 (80 + c)) 12 0 25 = M 12 0 25 := fun n => by
    unfold bkFill; rw [if_neg (by omega)]
  have key2 : ∀ n c : Int, bkFill M 61 0 (115 * M 12 0 25) n (fun c => M 58 0 (80 + c)) 58 0 c = M 58 0 c := fun n c => by
    unfold bkFill; rw [if_neg (by omega)]
  have := bk_for (W := fun c => bk_wp (bk_C d) P_213 Q 0 51 [bk_c 12 0, bk_i c] [] (bkFill M 61 0 (115 * M 12 0 25) c (fun c => M 58 0 (80 + c)))) (n := 115) (by omega) (fun c h0 h1 ih => ?_) ?_
  · rwa [bkFill_0] at this
  · rw [L_213_51]
    simp only [forall_eq, key, key2]
    rw [bkFill_s _ _ _ _ _ h0] at ih
    unfold bk_r32
    exact ⟨fun z => absurd z (by omega), fun _ => ⟨by omega, by omega, by omega, by omega, by omega, by omega, ih⟩⟩
  · rw [L_213_51]
    simp only [forall_eq, key, key2]
    unfold bk_r32
    exact ⟨fun _ => ⟨by omega, hQ⟩, fun z => absurd (Int.le_refl _) z⟩
