/-! The queries that look a result up, and the richest. -/
def bkAt (n : Int) (g : Int → Int) (a : Int) : Int := if 0 ≤ a ∧ a < n then g a else -1
theorem bk_up12 {M : bk_M} {s : Int} (h : s ≠ 0) : bk_up M 12 0 0 0 12 0 s = M 12 0 s := bk_up_s h
theorem bk_upk {M : bk_M} {k i : Nat} (h : k ≠ 12) : bk_up M 12 0 0 0 k i = M k i := by
  funext j
  exact bk_up_k h
theorem C5 {d : Nat} {M : bk_M} (h : M 11 0 16 = M 12 0 10) : bkBoth (d + 1) 39 190 [] M := by
  refine ⟨M 12 0 10, fun Q => ?_, fun Q => ?_⟩
  · rw [E_39, h]
  · rw [E_190]
    simp only [forall_eq]
    rw [bk_up12 (by decide)]
theorem C23 {d : Nat} {a : Int} {M : bk_M} (h : M 7 0 1 = M 12 0 33) (h1 : 0 ≤ M 12 0 33 ∧ M 12 0 33 ≤ 3) (h2 : ∀ k, 0 ≤ k → k < M 12 0 33 → M 40 0 k = M 73 0 k) : bkBoth (d + 2) 84 233 [bk_i a] M := by
  refine ⟨bkAt (M 12 0 33) (M 73 0) a, fun Q => ?_, fun Q => ?_⟩
  · rw [E_84, h]
    have := h2 a
    unfold bkAt
    grind
  · rw [E_233]
    simp only [forall_eq]
    rw [S157, bk_up12 (by decide), bk_upk (by decide)]
    unfold bkAt bk_r32
    grind
theorem C25 {d : Nat} {a : Int} {M : bk_M} (h : M 7 0 3 = M 12 0 35) (h2 : M 12 0 35 ≠ 0 → ∀ k, 0 ≤ k → k < 2 → M 41 0 k = M 74 0 k) : bkBoth (d + 2) 85 239 [bk_i a] M := by
  refine ⟨if M 12 0 35 = 0 then -1 else bkAt 2 (M 74 0) a, fun Q => ?_, fun Q => ?_⟩
  · rw [E_85, h]
    unfold bkAt
    grind
  · rw [E_239]
    simp only [forall_eq]
    rw [S157, bk_up12 (by decide), bk_upk (by decide)]
    unfold bkAt
    grind
theorem C27 {d : Nat} {a : Int} {M : bk_M} (h : M 7 0 5 = M 12 0 39) (h1 : 0 ≤ M 12 0 39 ∧ M 12 0 39 ≤ 2) (h2 : ∀ k, 0 ≤ k → k < M 12 0 39 → M 42 0 k = M 76 0 k) : bkBoth (d + 2) 89 242 [bk_i a] M := by
  refine ⟨bkAt (M 12 0 39) (M 76 0) a, fun Q => ?_, fun Q => ?_⟩
  · rw [E_89, h]
    have := h2 a
    unfold bkAt
    grind
  · rw [E_242]
    simp only [forall_eq]
    rw [S157, bk_up12 (by decide), bk_upk (by decide)]
    unfold bkAt bk_r32
    grind
theorem C31 {d : Nat} {a : Int} {M : bk_M} (h : M 1 0 2 = M 12 0 44) (h1 : 0 ≤ M 12 0 44 ∧ M 12 0 44 ≤ 6) (h2 : ∀ k, 0 ≤ k → k < M 12 0 44 → M 20 0 k = M 78 0 k) : bkBoth (d + 2) 101 250 [bk_i a] M := by
  refine ⟨bkAt (M 12 0 44) (M 78 0) a, fun Q => ?_, fun Q => ?_⟩
  · rw [E_101, h]
    have := h2 a
    unfold bkAt
    grind
  · rw [E_250]
    simp only [forall_eq]
    rw [S157, bk_up12 (by decide), bk_upk (by decide)]
    unfold bkAt bk_r32
    grind
theorem C32 {d : Nat} {a : Int} {M : bk_M} (h : M 1 0 2 = M 12 0 44) (h1 : 0 ≤ M 12 0 44 ∧ M 12 0 44 ≤ 6) (h2 : ∀ k, 0 ≤ k → k < M 12 0 44 → M 21 0 k = M 79 0 k) : bkBoth (d + 2) 102 251 [bk_i a] M := by
  refine ⟨bkAt (M 12 0 44) (M 79 0) a, fun Q => ?_, fun Q => ?_⟩
  · rw [E_102, h]
    have := h2 a
    unfold bkAt
    grind
  · rw [E_251]
    simp only [forall_eq]
    rw [S157, bk_up12 (by decide), bk_upk (by decide)]
    unfold bkAt bk_r32
    grind
theorem C36 {d : Nat} {a : Int} {M : bk_M} (h : M 2 0 1 = M 12 0 49) (h1 : 0 ≤ M 12 0 49 ∧ M 12 0 49 ≤ 32) (h2 : ∀ k, 0 ≤ k → k < M 12 0 49 → M 26 0 k = M 82 0 k) : bkBoth (d + 2) 110 257 [bk_i a] M := by
  refine ⟨bkAt (M 12 0 49) (M 82 0) a, fun Q => ?_, fun Q => ?_⟩
  · rw [E_110, h]
    have := h2 a
    unfold bkAt
    grind
  · rw [E_257]
    simp only [forall_eq]
    rw [S157, bk_up12 (by decide), bk_upk (by decide)]
    unfold bkAt bk_r32
    grind
theorem C38 {d : Nat} {a : Int} {M : bk_M} (h : M 11 0 15 = M 12 0 53) (h2 : M 12 0 53 ≠ 0 → ∀ k, 0 ≤ k → k < 4 → M 56 0 k = M 84 0 k) : bkBoth (d + 2) 122 267 [bk_i a] M := by
  refine ⟨if M 12 0 53 = 0 then -1 else bkAt 4 (M 84 0) a, fun Q => ?_, fun Q => ?_⟩
  · rw [E_122, h]
    unfold bkAt
    grind
  · rw [E_267]
    simp only [forall_eq]
    rw [S157, bk_up12 (by decide), bk_upk (by decide)]
    unfold bkAt
    grind
/-- how many: what the script asks -/
def bkCnt (N : Int → Int) (taped a : Int) : Int := if a = 0 then N 0 else if a = 1 then N 2 else if a = 2 then N 3 else if a = 3 then N 4 else if a = 4 then N 5 else if a = 5 then N 1 else if a = 6 then taped else -1
theorem C43 {d p : Nat} {a : Int} {M : bk_M} (h : bkNow M p) (ht : M 10 0 1 = M 12 0 2) : bkBoth (d + 1) 140 283 [bk_i a] M := by
  obtain ⟨hp, hP, ⟨b1, b2, b3, b4, b5, b6, b7⟩, -⟩ := bkNow_e h
  refine ⟨bkCnt (M 58 0) (M 12 0 2) a, fun Q => ?_, fun Q => ?_⟩
  · rw [E_140, hp, b1, b2, b3, b4, b5, b6, ht]
    unfold bkCnt
    grind
  · rw [E_283]
    simp only [forall_eq]
    rw [bk_upk (by decide), bk_up12 (by decide)]
    unfold bkCnt
    grind
