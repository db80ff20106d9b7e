/-! A plain of the class, and a row of numbers N: the same plain. -/
def bkRel (M : bk_M) (p : Nat) (N : Int → Int) : Prop := bkPl M p ∧
    (M 5 p 6 = N 0 ∧ M 5 p 11 = N 1 ∧ M 5 p 0 = N 2 ∧ M 5 p 1 = N 3 ∧ M 5 p 2 = N 4 ∧ M 5 p 3 = N 5 ∧
      (∀ f, 0 ≤ f → f < M 5 p 6 → M 30 p f = 6 * N (52 + f) + N (42 + f) ∧ M 31 p f = N (62 + f) ∧ 0 ≤ N (42 + f) ∧ N (42 + f) < 6 ∧ 0 ≤ N (52 + f))) ∧
    (M 5 p 17 = N 80 ∧ (∀ s, 0 ≤ s → s < 2 → M 37 p s = N (81 + s) ∧ M 38 p s = N (83 + s)) ∧ (∀ c, 0 ≤ c → c < 36 → M 28 p c = N (85 + c)) ∧
      (∀ y, 0 ≤ y → y < M 5 p 1 → M 29 p y = N (121 + y)) ∧
      (∀ m, 0 ≤ m → m < M 5 p 11 → M 34 p m = 6 * N (130 + m) + N (127 + m) ∧ 0 ≤ N (127 + m) ∧ N (127 + m) < 6 ∧ 0 ≤ N (130 + m) ∧ M 35 p m = N (133 + m)) ∧
      (∀ f, 0 ≤ f → f < 10 → N (136 + f) = if f < M 5 p 6 then M 32 p f else 0) ∧
      N 194 = (if M 5 p 17 < 8 then M 5 p 17 else 8) ∧
      (∀ k y, 1 ≤ k → k ≤ 8 → k ≤ M 5 p 17 → 0 ≤ y → y < M 5 p 1 → M 39 p (6 * ((M 5 p 17 - k) % 8) + y) = N (146 + 6 * (k - 1) + y)))
/-- the memory with N as the reference's row, and p as what is now -/
def bkW (M : bk_M) (p : Nat) (N : Int → Int) : bk_M := fun k a j => if k = 58 ∧ a = 0 then N j else if k = 11 ∧ a = 0 ∧ j = 1 then p else M k a j
theorem bkW_o {M : bk_M} {p k a : Nat} {N : Int → Int} (h : k ≠ 58) (h2 : k ≠ 11) : bkW M p N k a = M k a := by
  funext j
  unfold bkW
  rw [if_neg (fun w => h w.1), if_neg (fun w => h2 w.1)]
theorem bkW_58 {M : bk_M} {p : Nat} {N : Int → Int} : bkW M p N 58 0 = N := by
  funext j
  unfold bkW
  rw [if_pos ⟨rfl, rfl⟩]
theorem bkW_11 {M : bk_M} {p : Nat} {N : Int → Int} : (bkW M p N 11 0 1).toNat = p := by
  unfold bkW
  rw [if_neg (by decide), if_pos ⟨rfl, rfl, rfl⟩]
  exact Int.toNat_natCast p
theorem bkRel_now {M : bk_M} {p : Nat} {N : Int → Int} : bkRel M p N ↔ bkNow (bkW M p N) p := by
  unfold bkRel bkNow bkHd bkSo bkPl
  simp only [bkW_58, bkW_11, bkW_o (M := M) (p := p) (a := p) (N := N) (show (5 : Nat) ≠ 58 by decide) (by decide), bkW_o (M := M) (p := p) (a := p) (N := N) (show (28 : Nat) ≠ 58 by decide) (by decide), bkW_o (M := M) (p := p) (a := p) (N := N) (show (29 : Nat) ≠ 58 by decide) (by decide), bkW_o (M := M) (p := p) (a := p) (N := N) (show (30 : Nat) ≠ 58 by decide) (by decide), bkW_o (M := M) (p := p) (a := p) (N := N) (show (31 : Nat) ≠ 58 by decide) (by decide), bkW_o (M := M) (p := p) (a := p) (N := N) (show (32 : Nat) ≠ 58 by decide) (by decide), bkW_o (M := M) (p := p) (a := p) (N := N) (show (34 : Nat) ≠ 58 by decide) (by decide), bkW_o (M := M) (p := p) (a := p) (N := N) (show (35 : Nat) ≠ 58 by decide) (by decide), bkW_o (M := M) (p := p) (a := p) (N := N) (show (37 : Nat) ≠ 58 by decide) (by decide), bkW_o (M := M) (p := p) (a := p) (N := N) (show (38 : Nat) ≠ 58 by decide) (by decide), bkW_o (M := M) (p := p) (a := p) (N := N) (show (39 : Nat) ≠ 58 by decide) (by decide)]
  simp only [Int.zero_add, Int.reduceAdd, true_and]
theorem bkNow_rel {M : bk_M} {p : Nat} (h : bkNow M p) : bkRel M p (M 58 0) := (bkNow_e h).2
theorem bkRel_to {M : bk_M} {p : Nat} (h : bkRel M p (M 58 0)) (hp : (M 11 0 1).toNat = p) : bkNow M p := by
  have e := bkRel_now.1 h
  refine ⟨hp, h.1, ?_, ?_⟩
  · have e := e.2.2.1
    unfold bkHd at e ⊢
    simp only [bkW_58, bkW_o (M := M) (p := p) (a := p) (N := M 58 0) (show (5 : Nat) ≠ 58 by decide) (by decide), bkW_o (M := M) (p := p) (a := p) (N := M 58 0) (show (30 : Nat) ≠ 58 by decide) (by decide), bkW_o (M := M) (p := p) (a := p) (N := M 58 0) (show (31 : Nat) ≠ 58 by decide) (by decide)] at e
    exact e
  · have e := e.2.2.2
    unfold bkSo at e ⊢
    simp only [bkW_58, bkW_o (M := M) (p := p) (a := p) (N := M 58 0) (show (5 : Nat) ≠ 58 by decide) (by decide), bkW_o (M := M) (p := p) (a := p) (N := M 58 0) (show (28 : Nat) ≠ 58 by decide) (by decide), bkW_o (M := M) (p := p) (a := p) (N := M 58 0) (show (29 : Nat) ≠ 58 by decide) (by decide), bkW_o (M := M) (p := p) (a := p) (N := M 58 0) (show (32 : Nat) ≠ 58 by decide) (by decide), bkW_o (M := M) (p := p) (a := p) (N := M 58 0) (show (34 : Nat) ≠ 58 by decide) (by decide), bkW_o (M := M) (p := p) (a := p) (N := M 58 0) (show (35 : Nat) ≠ 58 by decide) (by decide), bkW_o (M := M) (p := p) (a := p) (N := M 58 0) (show (37 : Nat) ≠ 58 by decide) (by decide), bkW_o (M := M) (p := p) (a := p) (N := M 58 0) (show (38 : Nat) ≠ 58 by decide) (by decide), bkW_o (M := M) (p := p) (a := p) (N := M 58 0) (show (39 : Nat) ≠ 58 by decide) (by decide)] at e
    exact e
theorem bkRel_md {M : bk_M} {p : Nat} {N : Int → Int} (h : bkRel M p N) : bkMd N := by
  have := bkNow_md (bkRel_now.1 h)
  rwa [bkW_58] at this
/-- the relation reads the plain's own places alone -/
theorem bkRel_fr {M M' : bk_M} {p : Nat} {N : Int → Int} (h : bkRel M p N) (e : ∀ k, k = 5 ∨ (28 ≤ k ∧ k ≤ 39) → M' k p = M k p) : bkRel M' p N := by
  unfold bkRel bkPl at h ⊢
  rw [e 5 (by decide), e 28 (by decide), e 29 (by decide), e 30 (by decide), e 31 (by decide), e 32 (by decide), e 34 (by decide), e 35 (by decide), e 37 (by decide), e 38 (by decide), e 39 (by decide)]
  exact h
/-- and of the row what stands ahead of the sentence -/
theorem bkRel_row {M : bk_M} {p : Nat} {N N' : Int → Int} (h : bkRel M p N) (e : ∀ j, 0 ≤ j → j < 195 → N' j = N j) : bkRel M p N' := by
  obtain ⟨hP, ⟨b1, b2, b3, b4, b5, b6, b7⟩, ⟨c1, c2, c3, c4, c5, c6, c7, c8⟩⟩ := h
  obtain ⟨a1, a2, a3, a4, a5, a6, a7, -⟩ := id hP
  refine ⟨hP, ⟨by rw [e _ (by decide) (by decide)]; exact b1, by rw [e _ (by decide) (by decide)]; exact b2, by rw [e _ (by decide) (by decide)]; exact b3, by rw [e _ (by decide) (by decide)]; exact b4, by rw [e _ (by decide) (by decide)]; exact b5, by rw [e _ (by decide) (by decide)]; exact b6, fun f h0 h1 => ?_⟩, ⟨by rw [e _ (by decide) (by decide)]; exact c1, fun s h0 h1 => ?_, fun c h0 h1 => ?_, fun y h0 h1 => ?_, fun m h0 h1 => ?_, fun f h0 h1 => ?_, by rw [e _ (by decide) (by decide)]; exact c7, fun k y h0 h1 h2 h3 h4 => ?_⟩⟩
  · rw [e _ (by omega) (by omega), e _ (by omega) (by omega), e _ (by omega) (by omega)]; exact b7 f h0 h1
  · rw [e _ (by omega) (by omega), e _ (by omega) (by omega)]; exact c2 s h0 h1
  · rw [e _ (by omega) (by omega)]; exact c3 c h0 h1
  · rw [e _ (by omega) (by omega)]; exact c4 y h0 h1
  · rw [e _ (by omega) (by omega), e _ (by omega) (by omega), e _ (by omega) (by omega)]; exact c5 m h0 h1
  · rw [e _ (by omega) (by omega)]; exact c6 f h0 h1
  · rw [e _ (by omega) (by omega)]; exact c8 k y h0 h1 h2 h3 h4
/-! The draws of a spring. -/
def bkSd : Nat → Int → Int
  | 0, x => x
  | n + 1, x => bkSeed (bkSd n x)
def bkIce (N : Int → Int) (x c : Int) : Int := bk_ushr (bkSd (N 2 * (c / 6) + c % 6 + 1).toNat x) 8 % (N 5 + 1)
theorem bkIce_at (N : Int → Int) (s : Int) {x y : Int} (hx : 0 ≤ x) (hx2 : x < 6) : bkIce N s (6 * y + x) = bk_ushr (bkSd (N 2 * y + x + 1).toNat s) 8 % (N 5 + 1) := by
  unfold bkIce
  rw [show (6 * y + x) / 6 = y by omega, show (6 * y + x) % 6 = x by omega]
theorem bkIce_b {N : Int → Int} (h : 0 ≤ N 5 ∧ N 5 ≤ 5) (s c : Int) : 0 ≤ bkIce N s c ∧ bkIce N s c ≤ 5 := by
  unfold bkIce
  have h1 := Int.emod_nonneg (bk_ushr (bkSd (N 2 * (c / 6) + c % 6 + 1).toNat s) 8) (show N 5 + 1 ≠ 0 by omega)
  have h2 := Int.emod_lt_of_pos (bk_ushr (bkSd (N 2 * (c / 6) + c % 6 + 1).toNat s) 8) (show 0 < N 5 + 1 by omega)
  omega
theorem bkSd_s (n : Int) (x : Int) (h : 0 ≤ n) : bkSd (n + 1).toNat x = bkSeed (bkSd n.toNat x) := by
  rw [show (n + 1).toNat = n.toNat + 1 by omega]
  rfl
/-- the ground of a spring -/
def bkGs (N : Int → Int) (x : Int) : Int → Int := fun c => N (85 + c) + bkIce N x c
theorem bkGs_b {N : Int → Int} (h : bkMd N) (x : Int) : bkGr (bkGs N x) (N 2) (N 3) := by
  obtain ⟨n1, n2, n3, n4, n5, n6, n7, n8, -⟩ := h
  intro y z h0 h1 h2 h3
  have := n8 (6 * y + z) (by omega) (by omega)
  have := bkIce_b n4 x (6 * y + z)
  unfold bkGs
  omega
/-- the bed of a spring, without ice, and with -/
def bkBs (N : Int → Int) (x y : Int) : Int := bkBd (bkGs N x) (N 2) (N 3) (N 4) y
def bkWould (N : Int → Int) (y : Int) : Int := bkBd (fun c => N (85 + c)) (N 2) (N 3) (N 4) y
/-! A bed is taken, both earn: the row behind it. -/
def bkCh (N b : Int → Int) (f : Int) : Int := if bkSide (N (42 + f)) (b (N (52 + f))) = bkWho N f then 0 else 1
def bkTake (N b : Int → Int) : Int → Int := fun j =>
  if j = 80 then N 80 + 1 else if 121 ≤ j ∧ j < 121 + N 3 then b (j - 121) else if 136 ≤ j ∧ j < 136 + N 0 then N j + bkCh N b (j - 136)
  else if 146 ≤ j ∧ j < 152 then N (j - 25) else if 152 ≤ j ∧ j < 194 then N (j - 6) else if j = 194 then (if N 194 < 8 then N 194 + 1 else N 194) else N j
def bkEarnR (N : Int → Int) : Int → Int := fun j => if j = 81 then bkMost (N 81 + bkEarn N 0) else if j = 82 then bkMost (N 82 + bkEarn N 1) else N j
def bkSpr (N : Int → Int) (x : Int) : Int → Int := bkEarnR (bkTake N (bkBs N x))
def bkSprC (N : Int → Int) (x : Int) : Int := bkSum (bkCh N (bkBs N x)) (N 0).toNat
theorem bkTake_lo {N b : Int → Int} (h0 : 0 ≤ N 0) (h3 : 0 ≤ N 3) {j : Int} (h : j < 80 ∨ (81 ≤ j ∧ j < 121) ∨ (127 ≤ j ∧ j < 136) ∨ 195 ≤ j) (h1 : N 0 ≤ 10) (h2 : N 3 ≤ 6) : bkTake N b j = N j := by
  unfold bkTake
  rw [if_neg (by omega), if_neg (by omega), if_neg (by omega), if_neg (by omega), if_neg (by omega), if_neg (by omega)]
theorem bkTake_80 {N b : Int → Int} : bkTake N b 80 = N 80 + 1 := by
  unfold bkTake
  rw [if_pos rfl]
theorem bkTake_bed {N b : Int → Int} {y : Int} (h0 : 0 ≤ y) (h1 : y < N 3) : bkTake N b (121 + y) = b y := by
  unfold bkTake
  rw [if_neg (by omega), if_pos (by omega), show 121 + y - 121 = y by omega]
theorem bkTake_ch {N b : Int → Int} (h3 : N 3 ≤ 6) (h4 : N 0 ≤ 10) {f : Int} (h0 : 0 ≤ f) (h1 : f < 10) : bkTake N b (136 + f) = if f < N 0 then N (136 + f) + bkCh N b f else N (136 + f) := by
  unfold bkTake
  rw [if_neg (by omega), if_neg (by omega)]
  by_cases z : f < N 0
  · rw [if_pos (by omega), if_pos z, show 136 + f - 136 = f by omega]
  · rw [if_neg (by omega), if_neg z, if_neg (by omega), if_neg (by omega), if_neg (by omega)]
theorem bkTake_p0 {N b : Int → Int} (h3 : N 3 ≤ 6) (h4 : N 0 ≤ 10) {y : Int} (h0 : 0 ≤ y) (h1 : y < 6) : bkTake N b (146 + y) = N (121 + y) := by
  unfold bkTake
  rw [if_neg (by omega), if_neg (by omega), if_neg (by omega), if_pos (by omega), show 146 + y - 25 = 121 + y by omega]
theorem bkTake_p {N b : Int → Int} (h3 : N 3 ≤ 6) (h4 : N 0 ≤ 10) {t : Int} (h0 : 6 ≤ t) (h1 : t < 48) : bkTake N b (146 + t) = N (140 + t) := by
  unfold bkTake
  rw [if_neg (by omega), if_neg (by omega), if_neg (by omega), if_neg (by omega), if_pos (by omega), show 146 + t - 6 = 140 + t by omega]
theorem bkTake_194 {N b : Int → Int} (h3 : N 3 ≤ 6) (h4 : N 0 ≤ 10) : bkTake N b 194 = if N 194 < 8 then N 194 + 1 else N 194 := by
  unfold bkTake
  rw [if_neg (by omega), if_neg (by omega), if_neg (by omega), if_neg (by omega), if_neg (by omega), if_pos rfl]
theorem bkCh_b (N b : Int → Int) (f : Int) : 0 ≤ bkCh N b f ∧ bkCh N b f ≤ 1 := by
  unfold bkCh
  split <;> omega
theorem bkRel_earned {M : bk_M} {p : Nat} {N : Int → Int} (h : bkRel M p N) : bkRel (bkEarned M p) p (bkEarnR N) := by
  rw [bkRel_now] at h ⊢
  have e := bkNow_earned h
  have e1 : ∀ s, bkEarnC (bkW M p N) p s = bkEarnC M p s := fun s => by
    unfold bkEarnC bkWorC bkMilC bkIs
    simp only [bkW_o (M := M) (p := p) (a := p) (N := N) (show (5 : Nat) ≠ 58 by decide) (by decide), bkW_o (M := M) (p := p) (a := p) (N := N) (show (29 : Nat) ≠ 58 by decide) (by decide), bkW_o (M := M) (p := p) (a := p) (N := N) (show (30 : Nat) ≠ 58 by decide) (by decide), bkW_o (M := M) (p := p) (a := p) (N := N) (show (31 : Nat) ≠ 58 by decide) (by decide), bkW_o (M := M) (p := p) (a := p) (N := N) (show (34 : Nat) ≠ 58 by decide) (by decide)]
  have e2 : bkEarned (bkW M p N) p = bkW (bkEarned M p) p N := by
    unfold bkEarned
    rw [e1, e1, bkW_o (by decide) (by decide)]
    funext k a j
    unfold bkW bk_up
    dsimp only
    by_cases z : k = 58 ∧ a = 0
    · rw [if_neg (by omega), if_neg (by omega), if_pos z, if_pos z]
    · by_cases z2 : k = 11 ∧ a = 0 ∧ j = 1
      · rw [if_neg (by omega), if_neg (by omega), if_neg z, if_pos z2, if_neg z, if_pos z2]
      · rw [if_neg z, if_neg z2, if_neg z, if_neg z2]
  have e3 : bkEarnedN (bkW (bkEarned M p) p N) = bkW (bkEarned M p) p (bkEarnR N) := by
    unfold bkEarnedN
    rw [bkW_58]
    funext k a j
    unfold bk_up bkEarnR
    by_cases z : k = 58 ∧ a = 0
    · obtain ⟨rfl, rfl⟩ := z
      by_cases z2 : j = 82
      · subst z2
        rw [if_pos ⟨rfl, rfl, rfl⟩, bkW_58, if_neg (by decide), if_pos rfl]
      · rw [if_neg (fun w => z2 w.2.2)]
        by_cases z3 : j = 81
        · subst z3
          rw [if_pos ⟨rfl, rfl, rfl⟩, bkW_58, if_pos rfl]
        · rw [if_neg (fun w => z3 w.2.2), bkW_58, bkW_58, if_neg z3, if_neg z2]
    · rw [if_neg (fun w => z ⟨w.1, w.2.1⟩), if_neg (fun w => z ⟨w.1, w.2.1⟩)]
      unfold bkW
      rw [if_neg z, if_neg z]
  rw [e2, e3] at e
  exact e
