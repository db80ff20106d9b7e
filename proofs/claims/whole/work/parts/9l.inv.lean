/-! The bond between the class's memory and the reference's, and what keeps it. -/
def bkNam (M : bk_M) (p : Nat) (K N : Int → Int) : Prop := (∀ j : Nat, (j : Int) < N 0 → bkNv (M 33 p j) ∧ K j = bkCv 7 (M 33 p j)) ∧ ∀ j : Nat, (j : Int) < N 1 → bkNv (M 36 p j) ∧ K (10 + j) = bkCv 7 (M 36 p j)
def bkSayI (M : bk_M) (s : Nat) (N : Int → Int) : Prop := (M 9 s 0 = 0 ∧ N 195 = 0) ∨ ∃ S, bkSnC M s S ∧ bkSnN N S ∧ bkSvS (N 0).toNat S
/-- a plain with its names and its sentence -/
def bkAllP (M : bk_M) (p s : Nat) (K N : Int → Int) : Prop := bkRel M p N ∧ bkNam M p K N ∧ bkSayI M s N
def bkRowS (N A : Int → Int) (o : Int) : Int → Int := fun q => if 80 ≤ q ∧ q < 195 then A (o + (q - 80)) else N q
theorem bkRowS_i {N A : Int → Int} {o q : Int} (h : 80 ≤ q ∧ q < 195) : bkRowS N A o q = A (o + (q - 80)) := if_pos h
theorem bkRowS_o {N A : Int → Int} {o q : Int} (h : ¬ (80 ≤ q ∧ q < 195)) : bkRowS N A o q = N q := if_neg h
/-- the plain of i acts ago -/
def bkSlot (M : bk_M) (p z : Nat) (o : Int) : Prop := bkRel M z (bkRowS (M 58 0) (M 61 0) o) ∧ (∀ g : Nat, (g : Int) < M 58 0 0 → M 33 z g = M 33 p g) ∧ ∀ g : Nat, (g : Int) < M 58 0 1 → M 36 z g = M 36 p g
def bkHis (M : bk_M) (p : Nat) : Prop := (0 ≤ M 3 0 0 ∧ M 3 0 0 ≤ 8) ∧ (0 ≤ M 3 0 1 ∧ M 3 0 1 < 8) ∧ M 12 0 25 = M 3 0 0 ∧ ∀ j : Nat, 1 ≤ j → (j : Int) ≤ M 3 0 0 → bkSlot M p (3 + ((M 3 0 1).toNat + 8 - j) % 8) (115 * (M 3 0 0 - j))
def bkImg (M : bk_M) (k : Nat) : Prop := M 4 k 2 = M 66 0 k ∧ (M 66 0 k = 0 ∨ (M 66 0 k = 1 ∧ bkAllP M (11 + k) (2 + k) (fun j => M 65 0 (13 * k + j)) (fun q => M 60 0 (437 * k + q))))
def bkIds (M : bk_M) : Prop := ((M 11 0 1 = 0 ∧ M 11 0 2 = 1) ∨ (M 11 0 1 = 1 ∧ M 11 0 2 = 0)) ∧ ((M 11 0 7 = 0 ∧ M 11 0 8 = 1) ∨ (M 11 0 7 = 1 ∧ M 11 0 8 = 0))
def bkTap (M : bk_M) : Prop := M 53 0 = M 57 0 ∧ M 10 0 1 = M 12 0 2 ∧ (0 ≤ M 10 0 1 ∧ M 10 0 1 ≤ 940) ∧ (∀ j, 0 ≤ M 53 0 j) ∧ ∀ w : Nat, w < 25 → M 54 0 w = bkWt w
def bkR1 (M : bk_M) : Prop := M 7 0 1 = M 12 0 33 ∧ (0 ≤ M 12 0 33 ∧ M 12 0 33 ≤ 3) ∧ ∀ k, 0 ≤ k → k < M 12 0 33 → M 40 0 k = M 73 0 k
def bkR2 (M : bk_M) : Prop := M 7 0 3 = M 12 0 35 ∧ (M 12 0 35 ≠ 0 → ∀ k, 0 ≤ k → k < 2 → M 41 0 k = M 74 0 k)
def bkR3 (M : bk_M) : Prop := M 7 0 5 = M 12 0 39 ∧ (0 ≤ M 12 0 39 ∧ M 12 0 39 ≤ 2) ∧ ∀ k, 0 ≤ k → k < M 12 0 39 → M 42 0 k = M 76 0 k
def bkR4 (M : bk_M) : Prop := M 1 0 2 = M 12 0 44 ∧ (0 ≤ M 12 0 44 ∧ M 12 0 44 ≤ 6) ∧ ∀ k, 0 ≤ k → k < M 12 0 44 → M 20 0 k = M 78 0 k ∧ M 21 0 k = M 79 0 k
def bkR5 (M : bk_M) : Prop := M 2 0 1 = M 12 0 49 ∧ (0 ≤ M 12 0 49 ∧ M 12 0 49 ≤ 32) ∧ ∀ k, 0 ≤ k → k < M 12 0 49 → M 26 0 k = M 82 0 k
def bkR6 (M : bk_M) : Prop := M 11 0 15 = M 12 0 53 ∧ (M 12 0 53 ≠ 0 → ∀ k, 0 ≤ k → k < 4 → M 56 0 k = M 84 0 k)
def bkRes (M : bk_M) : Prop := bkR1 M ∧ bkR2 M ∧ bkR3 M ∧ bkR4 M ∧ bkR5 M ∧ bkR6 M
def bkIcy (M : bk_M) : Prop := ∀ c, 0 ≤ c → c < 36 → M 69 0 c = 0
def bkNowI (M : bk_M) : Prop := bkAllP M (M 11 0 1).toNat (M 11 0 7).toNat (M 63 0) (M 58 0)
def bkInv (M : bk_M) : Prop := bkIds M ∧ bkTap M ∧ M 11 0 16 = M 12 0 10 ∧ bkNowI M ∧ bkHis M (M 11 0 1).toNat ∧ bkImg M 0 ∧ bkImg M 1 ∧ bkRes M ∧ bkIcy M
def bkPk (k : Nat) : Prop := k = 5 ∨ (28 ≤ k ∧ k ≤ 39)
def bkSk (k : Nat) : Prop := k = 9 ∨ (49 ≤ k ∧ k ≤ 51)
theorem bkNam_e {M M' : bk_M} {p : Nat} {K K' N N' : Int → Int} (h : bkNam M p K N) (h33 : ∀ j : Nat, (j : Int) < N 0 → M' 33 p j = M 33 p j) (h36 : ∀ j : Nat, (j : Int) < N 1 → M' 36 p j = M 36 p j) (hK : K' = K) (h0 : N' 0 = N 0) (h1 : N' 1 = N 1) : bkNam M' p K' N' := by
  subst hK
  refine ⟨fun j hj => ?_, fun j hj => ?_⟩
  · rw [h0] at hj; rw [h33 j hj]; exact h.1 j hj
  · rw [h1] at hj; rw [h36 j hj]; exact h.2 j hj
theorem bkSnN_e {N N' S : Int → Int} (h : bkSnN N S) (e : ∀ q, 195 ≤ q → N' q = N q) : bkSnN N' S := by
  obtain ⟨h1, h2, h3⟩ := h
  refine ⟨by rw [e _ (by decide)]; exact h1, by rw [e _ (by decide)]; exact h2, fun k k0 k1 => ?_⟩
  rw [e _ (by omega), e _ (by omega), e _ (by omega), e _ (by omega)]
  exact h3 k k0 k1
theorem bkSayI_e {M M' : bk_M} {s : Nat} {N N' : Int → Int} (h : bkSayI M s N) (e : ∀ k, bkSk k → M' k s = M k s) (e2 : ∀ q, 195 ≤ q → N' q = N q) (h0 : N' 0 = N 0) : bkSayI M' s N' := by
  rcases h with ⟨h1, h2⟩ | ⟨S, h1, h2, h3⟩
  · exact .inl ⟨by rw [e 9 (.inl rfl)]; exact h1, by rw [e2 195 (by decide)]; exact h2⟩
  · exact .inr ⟨S, bkSnC_e h1 e, bkSnN_e h2 e2, by rw [h0]; exact h3⟩
theorem bkAllP_e {M M' : bk_M} {p s : Nat} {K K' N N' : Int → Int} (h : bkAllP M p s K N) (e : ∀ k, bkPk k → M' k p = M k p) (e2 : ∀ k, bkSk k → M' k s = M k s) (hK : K' = K) (hN : N' = N) : bkAllP M' p s K' N' := by
  subst hN
  exact ⟨bkRel_fr h.1 e, bkNam_e h.2.1 (fun j _ => by rw [e 33 (.inr (by omega))]) (fun j _ => by rw [e 36 (.inr (by omega))]) hK rfl rfl, bkSayI_e h.2.2 e2 (fun _ _ => rfl) rfl⟩
theorem bkSlot_e {M M' : bk_M} {p z z' : Nat} {o o' : Int} (h : bkSlot M p z o) (hz : z' = z) (e : ∀ k, bkPk k → M' k z = M k z) (ho : ∀ q, 80 ≤ q → q < 195 → M' 61 0 (o' + (q - 80)) = M 61 0 (o + (q - 80))) (h58 : ∀ q, q < 80 → M' 58 0 q = M 58 0 q) (h33 : ∀ g : Nat, (g : Int) < M 58 0 0 → M' 33 p g = M 33 p g) (h36 : ∀ g : Nat, (g : Int) < M 58 0 1 → M' 36 p g = M 36 p g) : bkSlot M' p z' o' := by
  subst hz
  obtain ⟨h1, h2, h3⟩ := h
  refine ⟨bkRel_row (bkRel_fr h1 e) fun q q0 q1 => ?_, fun g hg => ?_, fun g hg => ?_⟩
  · by_cases w : 80 ≤ q
    · rw [bkRowS_i ⟨w, q1⟩, bkRowS_i ⟨w, q1⟩, ho q w q1]
    · rw [bkRowS_o (by omega), bkRowS_o (by omega), h58 q (by omega)]
  · rw [h58 0 (by decide)] at hg
    rw [e 33 (.inr (by omega)), h33 g hg, h2 g hg]
  · rw [h58 1 (by decide)] at hg
    rw [e 36 (.inr (by omega)), h36 g hg, h3 g hg]
theorem bkHis_e {M M' : bk_M} {p : Nat} (h : bkHis M p) (e : ∀ k a, bkPk k → 3 ≤ a → a ≤ 10 → M' k a = M k a) (h33 : ∀ g : Nat, (g : Int) < M 58 0 0 → M' 33 p g = M 33 p g) (h36 : ∀ g : Nat, (g : Int) < M 58 0 1 → M' 36 p g = M 36 p g) (h3 : M' 3 0 = M 3 0) (h61 : M' 61 0 = M 61 0) (h25 : M' 12 0 25 = M 12 0 25) (h58 : ∀ q, q < 80 → M' 58 0 q = M 58 0 q) : bkHis M' p := by
  obtain ⟨a1, a2, a3, a4⟩ := h
  unfold bkHis
  rw [h3, h25]
  exact ⟨a1, a2, a3, fun j j1 j2 => bkSlot_e (a4 j j1 j2) rfl (fun k hk => e k _ hk (by omega) (by omega)) (fun q _ _ => by rw [h61]) h58 h33 h36⟩
/-- an act was kept on both sides -/
theorem bkHis_keep {M M' : bk_M} {p : Nat} (hp : p < 3) (h : bkHis M p) (hR : bkRel M p (M 58 0)) (h3 : M' 3 0 = bkKeep M p 3 0) (hk : ∀ k b, bkPk k → 3 ≤ b → b ≤ 10 → M' k b = bkKeep M p k b) (h61 : M' 61 0 = bkSn M) (h25 : M' 12 0 25 = if M 12 0 25 = 8 then 8 else M 12 0 25 + 1) (h58 : ∀ q, q < 80 → M' 58 0 q = M 58 0 q) (h33 : ∀ g : Nat, (g : Int) < M 58 0 0 → M' 33 p g = M 33 p g) (h36 : ∀ g : Nat, (g : Int) < M 58 0 1 → M' 36 p g = M 36 p g) : bkHis M' p := by
  obtain ⟨a1, a2, a3, a4⟩ := h
  have n0 := (bkRel_md hR).2.2.2.2.1
  have n1 := (bkRel_md hR).2.2.2.2.2.1
  have e0 : M' 3 0 0 = if 8 ≤ M 3 0 0 + 1 then 8 else M 3 0 0 + 1 := by rw [h3]; unfold bkKeep; exact bk_up_e
  have e1 : M' 3 0 1 = (M 3 0 1 + 1) % 8 := by rw [h3]; unfold bkKeep; rw [bk_up_s (by decide), bk_up_e]
  have kk : ∀ k b, bkPk k → 3 ≤ b → b ≤ 10 → M' k b = bkCopy M (3 + (M 3 0 1).toNat) p k b := fun k b hk' b0 b1 => by
    rw [hk k b hk' b0 b1]
    funext c
    unfold bkPk at hk'
    unfold bkKeep
    rw [bk_up_k (by omega), bk_up_k (by omega)]
  have h25' : M' 12 0 25 = M' 3 0 0 := by rw [h25, e0, a3]; (repeat' split) <;> omega
  refine ⟨by rw [e0]; split <;> omega, by rw [e1]; omega, h25', fun j j1 j2 => ?_⟩
  rw [e0] at j2
  rw [e1, e0]
  by_cases z : j = 1
  · subst z
    have ez : 3 + (((M 3 0 1 + 1) % 8).toNat + 8 - 1) % 8 = 3 + (M 3 0 1).toNat := by omega
    rw [ez]
    have R := bkRel_copy (i := 3 + (M 3 0 1).toNat) hR
    refine ⟨bkRel_row (bkRel_fr R fun k hk' => kk k _ hk' (by omega) (by omega)) fun q q0 q1 => ?_, fun g hg => ?_, fun g hg => ?_⟩
    · by_cases w : 80 ≤ q
      · rw [bkRowS_i ⟨w, q1⟩, h61]
        unfold bkSn
        by_cases w8 : M 12 0 25 = 8
        · rw [if_pos w8, if_neg (by split <;> omega), if_pos (by split <;> omega)]
          congr 1
          split <;> omega
        · rw [if_neg w8, if_pos (by split <;> omega)]
          congr 1
          split <;> omega
      · rw [bkRowS_o (by omega), h58 q (by omega)]
    · rw [h58 0 (by decide)] at hg
      rw [kk 33 _ (.inr (by omega)) (by omega) (by omega), h33 g hg, bkCopy_a (by decide) (by omega) (by unfold bkLenP; simp; omega)]
    · rw [h58 1 (by decide)] at hg
      rw [kk 36 _ (.inr (by omega)) (by omega) (by omega), h36 g hg, bkCopy_a (by decide) (by omega) (by unfold bkLenP; simp; omega)]
  · have ho := a4 (j - 1) (by omega) (by split at j2 <;> omega)
    have j8 : j ≤ 8 := by split at j2 <;> omega
    refine bkSlot_e ho (by omega) (fun k hk' => ?_) (fun q q0 q1 => ?_) h58 h33 h36
    · rw [kk k _ hk' (by omega) (by omega)]
      funext c
      exact bkCopy_o (.inl (by omega))
    · rw [h61]
      unfold bkSn
      by_cases w8 : M 12 0 25 = 8
      · rw [if_pos w8, if_pos (by split <;> omega)]
        congr 1
        split <;> omega
      · rw [if_neg w8, if_neg (by split <;> omega)]
        congr 1
        split <;> omega
theorem bkImg_e {M M' : bk_M} {k : Nat} (h : bkImg M k) (e : ∀ i, bkPk i → M' i (11 + k) = M i (11 + k)) (e2 : ∀ i, bkSk i → M' i (2 + k) = M i (2 + k)) (h4 : M' 4 k 2 = M 4 k 2) (h66 : M' 66 0 k = M 66 0 k) (h65 : M' 65 0 = M 65 0) (h60 : M' 60 0 = M 60 0) : bkImg M' k := by
  unfold bkImg at *
  rw [h4, h66, h65, h60]
  exact ⟨h.1, h.2.imp id fun w => ⟨w.1, bkAllP_e w.2 e e2 rfl rfl⟩⟩
theorem bkTap_e {M M' : bk_M} (h : bkTap M) (h53 : M' 53 0 = M 53 0) (h57 : M' 57 0 = M 57 0) (h54 : M' 54 0 = M 54 0) (h1 : M' 10 0 1 = M 10 0 1) (h2 : M' 12 0 2 = M 12 0 2) : bkTap M' := by
  unfold bkTap at *
  rw [h53, h57, h54, h1, h2]
  exact h
/-- the tape is empty then -/
theorem bkTap_0 {M M' : bk_M} (h : bkTap M) (h53 : M' 53 0 = M 53 0) (h57 : M' 57 0 = M 57 0) (h54 : M' 54 0 = M 54 0) (h1 : M' 10 0 1 = 0) (h2 : M' 12 0 2 = 0) : bkTap M' := by
  unfold bkTap at *
  rw [h53, h57, h54, h1, h2]
  exact ⟨h.1, rfl, by omega, h.2.2.2⟩
theorem bkR1_e {M M' : bk_M} (h : bkR1 M) (h1 : M' 7 0 1 = M 7 0 1) (h2 : M' 12 0 33 = M 12 0 33) (h3 : M' 40 0 = M 40 0) (h4 : M' 73 0 = M 73 0) : bkR1 M' := by
  unfold bkR1 at *
  rw [h1, h2, h3, h4]; exact h
theorem bkR2_e {M M' : bk_M} (h : bkR2 M) (h1 : M' 7 0 3 = M 7 0 3) (h2 : M' 12 0 35 = M 12 0 35) (h3 : M' 41 0 = M 41 0) (h4 : M' 74 0 = M 74 0) : bkR2 M' := by
  unfold bkR2 at *
  rw [h1, h2, h3, h4]; exact h
theorem bkR3_e {M M' : bk_M} (h : bkR3 M) (h1 : M' 7 0 5 = M 7 0 5) (h2 : M' 12 0 39 = M 12 0 39) (h3 : M' 42 0 = M 42 0) (h4 : M' 76 0 = M 76 0) : bkR3 M' := by
  unfold bkR3 at *
  rw [h1, h2, h3, h4]; exact h
theorem bkR4_e {M M' : bk_M} (h : bkR4 M) (h1 : M' 1 0 2 = M 1 0 2) (h2 : M' 12 0 44 = M 12 0 44) (h3 : M' 20 0 = M 20 0) (h4 : M' 21 0 = M 21 0) (h5 : M' 78 0 = M 78 0) (h6 : M' 79 0 = M 79 0) : bkR4 M' := by
  unfold bkR4 at *
  rw [h1, h2, h3, h4, h5, h6]; exact h
theorem bkR5_e {M M' : bk_M} (h : bkR5 M) (h1 : M' 2 0 1 = M 2 0 1) (h2 : M' 12 0 49 = M 12 0 49) (h3 : M' 26 0 = M 26 0) (h4 : M' 82 0 = M 82 0) : bkR5 M' := by
  unfold bkR5 at *
  rw [h1, h2, h3, h4]; exact h
theorem bkR6_e {M M' : bk_M} (h : bkR6 M) (h1 : M' 11 0 15 = M 11 0 15) (h2 : M' 12 0 53 = M 12 0 53) (h3 : M' 56 0 = M 56 0) (h4 : M' 84 0 = M 84 0) : bkR6 M' := by
  unfold bkR6 at *
  rw [h1, h2, h3, h4]; exact h
/-- what the bond speaks of -/
def bkQk (k a : Nat) : Prop := k = 1 ∨ k = 2 ∨ k = 3 ∨ k = 4 ∨ k = 9 ∨ k = 11 ∨ ((k = 5 ∨ (28 ≤ k ∧ k ≤ 39)) ∧ a ≠ 2) ∨ k = 20 ∨ k = 21 ∨ k = 26 ∨ (40 ≤ k ∧ k ≤ 42) ∨ (49 ≤ k ∧ k ≤ 51) ∨ k = 53 ∨ k = 54 ∨ (56 ≤ k ∧ k ≤ 58) ∨ k = 60 ∨ k = 61 ∨ k = 63 ∨ k = 65 ∨ k = 66 ∨ k = 73 ∨ k = 74 ∨ k = 76 ∨ k = 78 ∨ k = 79 ∨ k = 82 ∨ k = 84
def bkQj (j : Int) : Prop := j = 2 ∨ j = 10 ∨ j = 25 ∨ j = 33 ∨ j = 35 ∨ j = 39 ∨ j = 44 ∨ j = 49 ∨ j = 53
/-- memories that agree there -/
def bkQt (M M' : bk_M) : Prop := (∀ k a, bkQk k a → M' k a = M k a) ∧ M' 10 0 1 = M 10 0 1 ∧ (M' 7 0 1 = M 7 0 1 ∧ M' 7 0 3 = M 7 0 3 ∧ M' 7 0 5 = M 7 0 5) ∧ (∀ j, bkQj j → M' 12 0 j = M 12 0 j) ∧ (bkIcy M → bkIcy M')
theorem bkQt_trans {M M' M'' : bk_M} (h : bkQt M M') (g : bkQt M' M'') : bkQt M M'' := ⟨fun k a q => (g.1 k a q).trans (h.1 k a q), g.2.1.trans h.2.1, ⟨g.2.2.1.1.trans h.2.2.1.1, g.2.2.1.2.1.trans h.2.2.1.2.1, g.2.2.1.2.2.trans h.2.2.1.2.2⟩, fun j q => (g.2.2.2.1 j q).trans (h.2.2.2.1 j q), fun q => g.2.2.2.2 (h.2.2.2.2 q)⟩
theorem bkRes_q {M M' : bk_M} (h : bkRes M) (g : bkQt M M') : bkRes M' := by
  obtain ⟨h1, h2, h3, h4, h5, h6⟩ := h
  obtain ⟨g1, g2, ⟨g3, g4, g5⟩, g6, -⟩ := g
  exact ⟨bkR1_e h1 g3 (g6 _ (by unfold bkQj; omega)) (g1 _ _ (by unfold bkQk; omega)) (g1 _ _ (by unfold bkQk; omega)), bkR2_e h2 g4 (g6 _ (by unfold bkQj; omega)) (g1 _ _ (by unfold bkQk; omega)) (g1 _ _ (by unfold bkQk; omega)), bkR3_e h3 g5 (g6 _ (by unfold bkQj; omega)) (g1 _ _ (by unfold bkQk; omega)) (g1 _ _ (by unfold bkQk; omega)), bkR4_e h4 (by rw [g1 1 0 (by unfold bkQk; omega)]) (g6 _ (by unfold bkQj; omega)) (g1 _ _ (by unfold bkQk; omega)) (g1 _ _ (by unfold bkQk; omega)) (g1 _ _ (by unfold bkQk; omega)) (g1 _ _ (by unfold bkQk; omega)), bkR5_e h5 (by rw [g1 2 0 (by unfold bkQk; omega)]) (g6 _ (by unfold bkQj; omega)) (g1 _ _ (by unfold bkQk; omega)) (g1 _ _ (by unfold bkQk; omega)), bkR6_e h6 (by rw [g1 11 0 (by unfold bkQk; omega)]) (g6 _ (by unfold bkQj; omega)) (g1 _ _ (by unfold bkQk; omega)) (g1 _ _ (by unfold bkQk; omega))⟩
theorem bkIds_p {M : bk_M} (h : bkIds M) : (M 11 0 1).toNat < 2 ∧ (M 11 0 2).toNat < 2 ∧ (M 11 0 7).toNat < 2 ∧ (M 11 0 8).toNat < 2 ∧ (M 11 0 1).toNat ≠ (M 11 0 2).toNat ∧ (M 11 0 7).toNat ≠ (M 11 0 8).toNat ∧ 0 ≤ M 11 0 1 ∧ 0 ≤ M 11 0 2 ∧ 0 ≤ M 11 0 7 ∧ 0 ≤ M 11 0 8 := by
  unfold bkIds at h
  omega
theorem bkInv_q {M M' : bk_M} (h : bkInv M) (g : bkQt M M') : bkInv M' := by
  obtain ⟨h1, h2, h3, h4, h5, h6, h7, h8, h9⟩ := h
  have hi := bkIds_p h1
  have R := bkRes_q h8 g
  obtain ⟨g1, g2, -, g6, g7⟩ := g
  have e11 : M' 11 0 = M 11 0 := g1 11 0 (by unfold bkQk; omega)
  have e58 : M' 58 0 = M 58 0 := g1 58 0 (by unfold bkQk; omega)
  have ep : ∀ k a, bkPk k → a ≠ 2 → M' k a = M k a := fun k a hk ha => g1 k a (by unfold bkQk; unfold bkPk at hk; omega)
  have es : ∀ k a, bkSk k → M' k a = M k a := fun k a hk => g1 k a (by unfold bkQk; unfold bkSk at hk; omega)
  refine ⟨by unfold bkIds; rw [e11]; exact h1, bkTap_e h2 (g1 _ _ (by unfold bkQk; omega)) (g1 _ _ (by unfold bkQk; omega)) (g1 _ _ (by unfold bkQk; omega)) g2 (g6 _ (by unfold bkQj; omega)), by rw [e11, g6 10 (by unfold bkQj; omega)]; exact h3, ?_, ?_, ?_, ?_, R, g7 h9⟩
  · unfold bkNowI
    rw [e11]
    exact bkAllP_e h4 (fun k hk => ep k _ hk (by omega)) (fun k hk => es k _ hk) (g1 _ _ (by unfold bkQk; omega)) e58
  · rw [e11]
    exact bkHis_e h5 (fun k a hk a0 a1 => ep k a hk (by omega)) (fun g _ => by rw [ep 33 _ (.inr (by omega)) (by omega)]) (fun g _ => by rw [ep 36 _ (.inr (by omega)) (by omega)]) (g1 _ _ (by unfold bkQk; omega)) (g1 _ _ (by unfold bkQk; omega)) (g6 _ (by unfold bkQj; omega)) (fun q _ => by rw [e58])
  · exact bkImg_e h6 (fun k hk => ep k _ hk (by omega)) (fun k hk => es k _ hk) (by rw [g1 4 0 (by unfold bkQk; omega)]) (by rw [g1 66 0 (by unfold bkQk; omega)]) (g1 _ _ (by unfold bkQk; omega)) (g1 _ _ (by unfold bkQk; omega))
  · exact bkImg_e h7 (fun k hk => ep k _ hk (by omega)) (fun k hk => es k _ hk) (by rw [g1 4 1 (by unfold bkQk; omega)]) (by rw [g1 66 0 (by unfold bkQk; omega)]) (g1 _ _ (by unfold bkQk; omega)) (g1 _ _ (by unfold bkQk; omega))
/-- class method c and reference method m answer alike, and keep the bond -/
def bkStp (c m : Nat) (as : List bk_V) : Prop := ∀ (d : Nat) (M : bk_M), bkInv M → bk_C (d + 60) 0 c (bk_c 11 0 :: as) M (fun t r M1 => t = 0 ∧ bk_C (d + 60) 0 m (bk_c 12 0 :: as) M1 (fun t2 r2 M2 => t2 = 0 ∧ r = r2 ∧ bkInv M2))
