/-! The reference takes a step: the same token. -/
theorem S163 {d : Nat} {Q : bk_Q} {a : Int} {M : bk_M} : bk_C (d + 1) 0 163 [bk_i a] M Q ↔ Q 0 (if bkSm a = true then 1 else 0) M := by
  rw [E_163]; unfold bkSm; grind
theorem S164 {d : Nat} {Q : bk_Q} {a : Int} {M : bk_M} : bk_C (d + 1) 0 164 [bk_i a] M Q ↔ Q 0 (if bkDg a = true then 1 else 0) M := by
  rw [E_164]; unfold bkDg; grind
theorem S165 {d : Nat} {Q : bk_Q} {a : Int} {M : bk_M} (h : a < M 12 0 3 → 0 ≤ a ∧ a < 940) : bk_C (d + 1) 0 165 [bk_c 12 0, bk_i a] M Q ↔ Q 0 (if M 12 0 3 ≤ a then 0 else M 57 0 a) M := by
  rw [E_165]; grind
theorem L_162_0 {d : Nat} {Q : bk_Q} (M : bk_M) : bk_wp (bk_C d) P_162 Q 0 0 [bk_c 12 0, bk_x, bk_x, bk_x, bk_x] [] M ↔ ((M 12 0 (3 : Int) ≤ M 12 0 (5 : Int) → bk_wp (bk_C d) P_162 Q 0 52 [bk_c 12 0, bk_x, bk_x, bk_x, bk_x] [] M) ∧ (¬ (M 12 0 (3 : Int) ≤ M 12 0 (5 : Int)) → ((0 : Int) ≤ M 12 0 (5 : Int) ∧ M 12 0 (5 : Int) < (940 : Int)) ∧ ((M 57 0 (M 12 0 (5 : Int)) = (32 : Int) → bk_wp (bk_C d) P_162 Q 0 39 [bk_c 12 0, bk_x, bk_x, bk_x, bk_x] [] M) ∧ (¬ (M 57 0 (M 12 0 (5 : Int)) = (32 : Int)) → ((0 : Int) ≤ M 12 0 (5 : Int) ∧ M 12 0 (5 : Int) < (940 : Int)) ∧ ((M 57 0 (M 12 0 (5 : Int)) ≠ (10 : Int) → bk_wp (bk_C d) P_162 Q 0 52 [bk_c 12 0, bk_x, bk_x, bk_x, bk_x] [] M) ∧ (¬ (M 57 0 (M 12 0 (5 : Int)) ≠ (10 : Int)) → bk_wp (bk_C d) P_162 Q 0 39 [bk_c 12 0, bk_x, bk_x, bk_x, bk_x] [] M)))))) := bk_iff [0, 39, 52, 96, 215, 243, 271] 40
theorem LG_162_215 {d : Nat} {Q : bk_Q} (x1 : Int) (x2 : Int) (x3 : Int) (v4 : bk_V) (M : bk_M) : bk_wp (bk_C d) P_162 Q 0 215 [bk_c 12 0, bk_i x1, bk_i x2, bk_i x3, v4] [] M ↔ bk_C d 0 165 [bk_c 12 0, bk_i (M 12 0 (5 : Int))] M (fun t3 r1 M2 => t3 = 0 ∧ bk_C d 0 163 [bk_i r1] M2 (fun t6 r4 M5 => t6 = 0 ∧ ((r4 ≠ (0 : Int) → bk_wp (bk_C d) P_162 Q 0 243 [bk_c 12 0, bk_i x1, bk_i x2, bk_i x3, v4] [] M5) ∧ (¬ (r4 ≠ (0 : Int)) → bk_C d 0 165 [bk_c 12 0, bk_i (M5 12 0 (5 : Int))] M5 (fun t9 r7 M8 => t9 = 0 ∧ bk_C d 0 164 [bk_i r7] M8 (fun t12 r10 M11 => t12 = 0 ∧ ((r10 = (0 : Int) → ((x3 = (0 : Int) → ∀ M13 : bk_M, M13 = bk_up M11 12 0 (7 : Int) (1 : Int) → Q 0 0 M13) ∧ (¬ (x3 = (0 : Int)) → bk_r32 ((M11 12 0 (5 : Int)) - (M11 12 0 (6 : Int))) ∧ ((x2 = (0 : Int) → (((M11 12 0 (5 : Int)) - (M11 12 0 (6 : Int)) ≤ (3 : Int) → ((x2 = (0 : Int) → ∀ M14 : bk_M, M14 = bk_up M11 12 0 (7 : Int) (3 : Int) → Q 0 0 M14) ∧ (¬ (x2 = (0 : Int)) → ∀ M15 : bk_M, M15 = bk_up M11 12 0 (7 : Int) (2 : Int) → Q 0 0 M15))) ∧ (¬ ((M11 12 0 (5 : Int)) - (M11 12 0 (6 : Int)) ≤ (3 : Int)) → ∀ M16 : bk_M, M16 = bk_up M11 12 0 (7 : Int) (1 : Int) → Q 0 0 M16))) ∧ (¬ (x2 = (0 : Int)) → (((M11 12 0 (5 : Int)) - (M11 12 0 (6 : Int)) ≤ (7 : Int) → ((x2 = (0 : Int) → ∀ M17 : bk_M, M17 = bk_up M11 12 0 (7 : Int) (3 : Int) → Q 0 0 M17) ∧ (¬ (x2 = (0 : Int)) → ∀ M18 : bk_M, M18 = bk_up M11 12 0 (7 : Int) (2 : Int) → Q 0 0 M18))) ∧ (¬ ((M11 12 0 (5 : Int)) - (M11 12 0 (6 : Int)) ≤ (7 : Int)) → ∀ M19 : bk_M, M19 = bk_up M11 12 0 (7 : Int) (1 : Int) → Q 0 0 M19))))))) ∧ (¬ (r10 = (0 : Int)) → bk_wp (bk_C d) P_162 Q 0 243 [bk_c 12 0, bk_i x1, bk_i x2, bk_i x3, v4] [] M11)))))))) := bk_iff [0, 39, 52, 96, 215, 243, 271] 40
theorem LG_162_243 {d : Nat} {Q : bk_Q} (x1 : Int) (x2 : Int) (x3 : Int) (v4 : bk_V) (M : bk_M) : bk_wp (bk_C d) P_162 Q 0 243 [bk_c 12 0, bk_i x1, bk_i x2, bk_i x3, v4] [] M ↔ ((0 : Int) ≤ M 12 0 (5 : Int) ∧ M 12 0 (5 : Int) < (940 : Int)) ∧ ((x3 = (0 : Int) → bk_wp (bk_C d) P_162 Q 0 271 [bk_c 12 0, bk_i x1, bk_i x2, bk_i x3, bk_i (M 57 0 (M 12 0 (5 : Int)))] [] M) ∧ (¬ (x3 = (0 : Int)) → bk_C d 0 163 [bk_i (M 57 0 (M 12 0 (5 : Int)))] M (fun t3 r1 M2 => t3 = 0 ∧ ((r1 ≠ x2 → bk_wp (bk_C d) P_162 Q 0 271 [bk_c 12 0, bk_i x1, bk_i x2, bk_i x3, bk_i (M 57 0 (M 12 0 (5 : Int)))] [] M2) ∧ (¬ (r1 ≠ x2) → bk_r32 ((M2 12 0 (5 : Int)) - (M2 12 0 (6 : Int))) ∧ (((7 : Int) ≤ (M2 12 0 (5 : Int)) - (M2 12 0 (6 : Int)) → bk_r32 ((M2 12 0 (5 : Int)) - (M2 12 0 (6 : Int))) ∧ (((3 : Int) ≤ (M2 12 0 (5 : Int)) - (M2 12 0 (6 : Int)) → bk_r32 ((M2 12 0 (5 : Int)) + (1 : Int)) ∧ ∀ M4 : bk_M, M4 = bk_up M2 12 0 (5 : Int) ((M2 12 0 (5 : Int)) + (1 : Int)) → bk_wp (bk_C d) P_162 Q 0 215 [bk_c 12 0, bk_i x1, bk_i x2, bk_i (1 : Int), bk_i (M 57 0 (M 12 0 (5 : Int)))] [] M4) ∧ (¬ ((3 : Int) ≤ (M2 12 0 (5 : Int)) - (M2 12 0 (6 : Int))) → bk_r32 ((10 : Int) * (M2 12 0 (8 : Int))) ∧ bk_r32 (((10 : Int) * (M2 12 0 (8 : Int))) + (M 57 0 (M 12 0 (5 : Int)))) ∧ bk_r32 ((((10 : Int) * (M2 12 0 (8 : Int))) + (M 57 0 (M 12 0 (5 : Int)))) - (48 : Int)) ∧ ∀ M5 : bk_M, M5 = bk_up M2 12 0 (8 : Int) ((((10 : Int) * (M2 12 0 (8 : Int))) + (M 57 0 (M 12 0 (5 : Int)))) - (48 : Int)) → bk_r32 ((M5 12 0 (5 : Int)) + (1 : Int)) ∧ ∀ M6 : bk_M, M6 = bk_up M5 12 0 (5 : Int) ((M5 12 0 (5 : Int)) + (1 : Int)) → bk_wp (bk_C d) P_162 Q 0 215 [bk_c 12 0, bk_i x1, bk_i x2, bk_i (1 : Int), bk_i (M 57 0 (M 12 0 (5 : Int)))] [] M6))) ∧ (¬ ((7 : Int) ≤ (M2 12 0 (5 : Int)) - (M2 12 0 (6 : Int))) → bk_r64 ((27 : Int) * (M2 12 0 (12 : Int))) ∧ bk_r64 (((27 : Int) * (M2 12 0 (12 : Int))) + (M 57 0 (M 12 0 (5 : Int)))) ∧ bk_r64 ((((27 : Int) * (M2 12 0 (12 : Int))) + (M 57 0 (M 12 0 (5 : Int)))) - (96 : Int)) ∧ ∀ M7 : bk_M, M7 = bk_up M2 12 0 (12 : Int) ((((27 : Int) * (M2 12 0 (12 : Int))) + (M 57 0 (M 12 0 (5 : Int)))) - (96 : Int)) → bk_r32 ((M7 12 0 (5 : Int)) - (M7 12 0 (6 : Int))) ∧ (((3 : Int) ≤ (M7 12 0 (5 : Int)) - (M7 12 0 (6 : Int)) → bk_r32 ((M7 12 0 (5 : Int)) + (1 : Int)) ∧ ∀ M8 : bk_M, M8 = bk_up M7 12 0 (5 : Int) ((M7 12 0 (5 : Int)) + (1 : Int)) → bk_wp (bk_C d) P_162 Q 0 215 [bk_c 12 0, bk_i x1, bk_i x2, bk_i (1 : Int), bk_i (M 57 0 (M 12 0 (5 : Int)))] [] M8) ∧ (¬ ((3 : Int) ≤ (M7 12 0 (5 : Int)) - (M7 12 0 (6 : Int))) → bk_r32 ((10 : Int) * (M7 12 0 (8 : Int))) ∧ bk_r32 (((10 : Int) * (M7 12 0 (8 : Int))) + (M 57 0 (M 12 0 (5 : Int)))) ∧ bk_r32 ((((10 : Int) * (M7 12 0 (8 : Int))) + (M 57 0 (M 12 0 (5 : Int)))) - (48 : Int)) ∧ ∀ M9 : bk_M, M9 = bk_up M7 12 0 (8 : Int) ((((10 : Int) * (M7 12 0 (8 : Int))) + (M 57 0 (M 12 0 (5 : Int)))) - (48 : Int)) → bk_r32 ((M9 12 0 (5 : Int)) + (1 : Int)) ∧ ∀ M10 : bk_M, M10 = bk_up M9 12 0 (5 : Int) ((M9 12 0 (5 : Int)) + (1 : Int)) → bk_wp (bk_C d) P_162 Q 0 215 [bk_c 12 0, bk_i x1, bk_i x2, bk_i (1 : Int), bk_i (M 57 0 (M 12 0 (5 : Int)))] [] M10))))))))) := bk_iff [0, 39, 52, 96, 215, 243, 271] 40
def bkAtR (M : bk_M) (T : Int → Int) (c L i : Int) : Prop := M 12 0 7 = (if bkTk T c L i ≤ 3 then bkTk T c L i else 4) ∧ (3 < bkTk T c L i → M 12 0 9 = bkTk T c L i) ∧ M 12 0 6 = bkTf T c L i ∧ M 12 0 5 = bkTn T c L i ∧ (bkTk T c L i = 2 → M 12 0 12 = bkTw 27 T c i) ∧ (bkTk T c L i = 3 → M 12 0 8 = bkTv T c i)
theorem bkKy_r {T : Int → Int} {p : Int} : ∀ {n : Nat}, bkEv (fun j => bkAl (T j)) p n = true → -(2 * ((27 ^ n : Nat) : Int) - 2) ≤ bkKy 27 T p n ∧ bkKy 27 T p n ≤ 2 * ((27 ^ n : Nat) : Int) - 2
  | 0, _ => by unfold bkKy; omega
  | n + 1, h => by
    have h : (bkEv (fun j => bkAl (T j)) p n && bkAl (T (p + n))) = true := h
    rw [Bool.and_eq_true] at h
    have q := bkKy_r h.1
    have w : 48 ≤ T (p + n) ∧ T (p + n) ≤ 122 := by
      have := h.2
      unfold bkAl bkSm bkDg at this
      rw [Bool.or_eq_true, decide_eq_true_eq, decide_eq_true_eq] at this
      omega
    show -(2 * ((27 ^ (n + 1) : Nat) : Int) - 2) ≤ 27 * bkKy 27 T p n + (T (p + n) - 96) ∧ 27 * bkKy 27 T p n + (T (p + n) - 96) ≤ _
    rw [Nat.pow_succ]
    omega
theorem bkVl_r {T : Int → Int} {p : Int} : ∀ {n : Nat}, bkEv (fun j => bkAl (T j)) p n = true → 0 ≤ bkVl T p n ∧ bkVl T p n ≤ 9 * ((10 ^ n : Nat) : Int) - 9
  | 0, _ => by unfold bkVl; omega
  | n + 1, h => by
    have h : (bkEv (fun j => bkAl (T j)) p n && bkAl (T (p + n))) = true := h
    rw [Bool.and_eq_true] at h
    have q := bkVl_r h.1
    have w : 48 ≤ T (p + n) ∧ T (p + n) ≤ 122 := by
      have := h.2
      unfold bkAl bkSm bkDg at this
      rw [Bool.or_eq_true, decide_eq_true_eq, decide_eq_true_eq] at this
      omega
    show 0 ≤ 10 * bkVl T p n + (T (p + n) - 48) ∧ 10 * bkVl T p n + (T (p + n) - 48) ≤ _
    rw [Nat.pow_succ]
    omega
theorem bkEv_of {P : Int → Bool} {p : Int} : ∀ {n : Nat}, (∀ j, p ≤ j → j < p + n → P j = true) → bkEv P p n = true
  | 0, _ => rfl
  | n + 1, h => by rw [bkEv_s, Bool.and_eq_true]; exact ⟨bkEv_of fun j q1 q2 => h j q1 (by omega), h _ (by omega) (by omega)⟩
/-- what holds at the head of the reference's loop over a word or number -/
def bkRun (M0 : bk_M) (p : Int) (n : Nat) (M : bk_M) : Prop := bkFr (fun k a => k = 12 ∧ a = 0) M0 M ∧ (∀ j, j ≠ 5 → j ≠ 6 → j ≠ 7 → j ≠ 8 → j ≠ 9 → j ≠ 12 → M 12 0 j = M0 12 0 j) ∧ M 12 0 6 = p ∧ M 12 0 5 = p + n ∧ M 12 0 12 = bkKy 27 (M0 57 0) p (min n 7) ∧ M 12 0 8 = bkVl (M0 57 0) p (min n 3)
theorem S162 {d : Nat} {M : bk_M} {c L i : Int} (hc : M 12 0 3 = c) (hL : M 12 0 4 = L) (hi : M 12 0 5 = i) (h0 : 0 ≤ i) (h1 : i ≤ c) (h2 : c ≤ 940) : bk_C (d + 2) 0 162 [bk_c 12 0] M (fun t r M' => t = 0 ∧ bkFr (fun k a => k = 12 ∧ a = 0) M M' ∧ (∀ j, j ≠ 5 → j ≠ 6 → j ≠ 7 → j ≠ 8 → j ≠ 9 → j ≠ 12 → M' 12 0 j = M 12 0 j) ∧ bkAtR M' (M 57 0) c L i) := by
  generalize hQ : (fun (t : Nat) (r : Int) (M' : bk_M) => t = 0 ∧ _) = Q
  unfold bkAtR at hQ
  -- the word or number
  have run : ∀ p, i ≤ p → p < c → ¬ (L ≤ p ∧ L < c) → bkTp (M 57 0) c i = p → bkAl (M 57 0 p) = true → ∀ M1, bkRun M p 0 M1 → ∀ x1, bk_wp (bk_C (d + 1)) P_162 Q 0 215 [bk_c 12 0, bk_i x1, bk_i (if bkSm (M 57 0 p) = true then 1 else 0), bk_i 1, bk_x] [] M1 := by
    intro p p0 p1 hb ep al M1 hM1 x1
    generalize hT : M 57 0 = T at *
    obtain ⟨e1, e2, e3, e4⟩ := bkEd_ok (fun j => bkAl (T j)) _ p rfl (Int.le_of_lt p1)
    have g0 : bkTf T c L i = p := by unfold bkTf; rw [ep, if_neg hb]
    have g1 : bkTk T c L i = bkRk T p (bkTl T c p) := by unfold bkTk; rw [ep, if_neg hb, if_neg (by omega), if_pos al]
    have g2 : bkTn T c L i = bkTe T c p := by unfold bkTn; rw [ep, if_neg (by omega), if_pos al]
    have g3 : bkTw 27 T c i = bkKy 27 T p (bkTl T c p) := by unfold bkTw; rw [ep]
    have g4 : bkTv T c i = bkVl T p (bkTl T c p) := by unfold bkTv; rw [ep]
    rw [g0, g1, g2, g3, g4] at hQ
    generalize hx2 : (if bkSm (T p) = true then (1 : Int) else 0) = x2
    have key : ∀ (m n : Nat) (x3 : Int) (v4 : bk_V) (M1 : bk_M), p + n + m = c → (∀ j, p ≤ j → j < p + n → bkAl (T j) = true) → (x3 = 0 ∨ x3 = 1) → (x3 = 1 ↔ (if x2 = 1 then bkEv (fun j => bkSm (T j)) p n else bkEv (fun j => bkDg (T j)) p n) = true) → bkRun M p n M1 → bk_wp (bk_C (d + 1)) P_162 Q 0 215 [bk_c 12 0, bk_i x1, bk_i x2, bk_i x3, v4] [] M1 := by
      intro m
      induction m with
      | zero => ?_
      | succ m ih => ?_
      all_goals
        intro n x3 v4 M1 hn ha h3 hx ⟨fr, o, o6, o5, o12, o8⟩
        rw [hT] at o12 o8
        have t1 : M1 57 0 = T := (fr 57 0 (by omega)).trans hT
        have c1 : M1 12 0 3 = c := by rw [o 3 (by decide) (by decide) (by decide) (by decide) (by decide) (by decide), hc]
        have fin : (c ≤ p + n ∨ bkAl (T (p + n)) = false) → (x3 = 0 → ∀ M13 : bk_M, M13 = bk_up M1 12 0 7 1 → Q 0 0 M13) ∧ (¬ x3 = 0 → bk_r32 (M1 12 0 5 - M1 12 0 6) ∧ ((x2 = 0 → ((M1 12 0 5 - M1 12 0 6 ≤ 3 → ((x2 = 0 → ∀ M14 : bk_M, M14 = bk_up M1 12 0 7 3 → Q 0 0 M14) ∧ (¬ x2 = 0 → ∀ M15 : bk_M, M15 = bk_up M1 12 0 7 2 → Q 0 0 M15))) ∧ (¬ M1 12 0 5 - M1 12 0 6 ≤ 3 → ∀ M16 : bk_M, M16 = bk_up M1 12 0 7 1 → Q 0 0 M16))) ∧ (¬ x2 = 0 → ((M1 12 0 5 - M1 12 0 6 ≤ 7 → ((x2 = 0 → ∀ M17 : bk_M, M17 = bk_up M1 12 0 7 3 → Q 0 0 M17) ∧ (¬ x2 = 0 → ∀ M18 : bk_M, M18 = bk_up M1 12 0 7 2 → Q 0 0 M18))) ∧ (¬ M1 12 0 5 - M1 12 0 6 ≤ 7 → ∀ M19 : bk_M, M19 = bk_up M1 12 0 7 1 → Q 0 0 M19))))) := by
          intro hend
          have ee : bkTe T c p = p + n := bkEd_eq (by omega) (.inl (by omega)) ha hend
          have el : bkTl T c p = n := by unfold bkTl; rw [ee]; omega
          have hn0 : n ≠ 0 := fun w => by
            subst w
            rcases hend with w | w
            · omega
            · rw [show p + ((0 : Nat) : Int) = p by omega, al] at w; exact absurd w (by decide)
          rw [ee, el] at hQ
          rw [o5, o6]
          have fst : ∀ {P : Int → Bool}, bkEv P p n = true → P p = true := fun h => by
            have := bkEv_at h 0 (by omega)
            rwa [show p + ((0 : Nat) : Int) = p by omega] at this
          have sm : x2 = 1 ↔ bkSm (T p) = true := by
            by_cases q : bkSm (T p) = true
            · rw [if_pos q] at hx2; exact ⟨fun _ => q, fun _ => hx2.symm⟩
            · rw [if_neg q] at hx2; exact ⟨fun w => by omega, fun w => absurd w q⟩
          have x2b : x2 = 0 ∨ x2 = 1 := by rw [← hx2]; split <;> omega
          have nsd : bkSm (T p) = true → bkDg (T p) = true → False := fun w1 w2 => by
            unfold bkSm at w1; unfold bkDg at w2; rw [decide_eq_true_eq] at w1 w2; omega
          have use : ∀ k, bkRk T p n = k → k = 1 ∨ k = 2 ∨ k = 3 → (k = 2 → n ≤ 7) → (k = 3 → n ≤ 3) → ∀ M13 : bk_M, M13 = bk_up M1 12 0 7 k → Q 0 0 M13 := fun k hk hk3 k2 k3 M13 e13 => by
            subst hQ
            try dsimp only
            rw [hk, e13, if_pos (by omega)]
            refine ⟨rfl, bkFr_up fr ⟨rfl, rfl⟩, fun j q1 q2 q3 q4 q5 q6 => by rw [bk_up_s q3, o j q1 q2 q3 q4 q5 q6], bk_up_e, fun w => by omega, by rw [bk_up_s (by decide), o6], by rw [bk_up_s (by decide), o5], fun w => ?_, fun w => ?_⟩
            · rw [bk_up_s (by decide), o12, Nat.min_eq_left (k2 w)]
            · rw [bk_up_s (by decide), o8, Nat.min_eq_left (k3 w)]
          rcases x2b with x20 | x21
          · rw [if_neg (by omega)] at hx
            have ns : ¬ bkEv (fun j => bkSm (T j)) p n = true := fun w => by have := sm.2 (fst w); omega
            refine ⟨fun z => use 1 (by unfold bkRk; rw [if_neg ns, if_neg fun w => by have := hx.2 w.1; omega]) (by omega) (by omega) (by omega), fun z => ⟨by unfold bk_r32; omega, fun _ => ⟨fun z2 => ⟨fun _ => use 3 (by unfold bkRk; rw [if_neg ns, if_pos ⟨hx.1 (by omega), by omega⟩]) (by omega) (by omega) (by omega), fun w => absurd x20 w⟩, fun z2 => use 1 (by unfold bkRk; rw [if_neg ns, if_neg (by omega)]) (by omega) (by omega) (by omega)⟩, fun w => absurd x20 w⟩⟩
          · rw [if_pos x21] at hx
            refine ⟨fun z => use 1 (by unfold bkRk; rw [if_neg fun w => by have := hx.2 w; omega, if_neg fun w => nsd (sm.1 x21) (fst w.1)]) (by omega) (by omega) (by omega), fun z => ⟨by unfold bk_r32; omega, fun w => by omega, fun _ => ⟨fun z2 => ⟨fun w => by omega, fun _ => use 2 (by unfold bkRk; rw [if_pos (hx.1 (by omega)), if_pos (by omega)]) (by omega) (by omega) (by omega)⟩, fun z2 => use 1 (by unfold bkRk; rw [if_pos (hx.1 (by omega)), if_neg (by omega)]) (by omega) (by omega) (by omega)⟩⟩⟩
        rw [LG_162_215, S165 (by rw [c1, o5]; omega), c1, t1, o5]
      · rw [if_pos (by omega)]
        refine ⟨rfl, S163.2 ⟨rfl, fun w => absurd rfl w, fun _ => ?_⟩⟩
        rw [o5, S165 (by rw [c1]; omega), c1, if_pos (by omega)]
        exact ⟨rfl, S164.2 ⟨rfl, fun _ => fin (.inl (by omega)), fun w => absurd rfl w⟩⟩
      · rw [if_neg (by omega)]
        have step : bkAl (T (p + n)) = true → bk_wp (bk_C (d + 1)) P_162 Q 0 243 [bk_c 12 0, bk_i x1, bk_i x2, bk_i x3, v4] [] M1 := fun g => by
          have ha2 : ∀ j, p ≤ j → j < p + (n + 1 : Nat) → bkAl (T j) = true := fun j q1 q2 => by
            by_cases e : j = p + n
            · rw [e]; exact g
            · exact ha j q1 (by omega)
          have gb : 48 ≤ T (p + n) ∧ T (p + n) ≤ 122 := by
            unfold bkAl bkSm bkDg at g
            rw [Bool.or_eq_true, decide_eq_true_eq, decide_eq_true_eq] at g
            omega
          have go : ∀ (x3' : Int) (v4' : bk_V) (M' : bk_M), (x3' = 0 ∨ x3' = 1) → (x3' = 1 ↔ (x3 = 1 ∧ (if x2 = 1 then bkSm (T (p + n)) else bkDg (T (p + n))) = true)) → bkFr (fun k a => k = 12 ∧ a = 0) M M' → (∀ j, j ≠ 5 → j ≠ 8 → j ≠ 12 → M' 12 0 j = M1 12 0 j) → M' 12 0 5 = p + n + 1 → M' 12 0 12 = (if n < 7 then 27 * M1 12 0 12 + T (p + n) - 96 else M1 12 0 12) → M' 12 0 8 = (if n < 3 then 10 * M1 12 0 8 + T (p + n) - 48 else M1 12 0 8) → bk_wp (bk_C (d + 1)) P_162 Q 0 215 [bk_c 12 0, bk_i x1, bk_i x2, bk_i x3', v4'] [] M' := fun x3' v4' M' q1 q2 q3 q4 q5 q6 q7 => by
            refine ih (n + 1) x3' v4' M' (by omega) ha2 q1 ?_ ⟨q3, fun j w1 w2 w3 w4 w5 w6 => by rw [q4 j w1 w4 w6, o j w1 w2 w3 w4 w5 w6], by rw [q4 6 (by decide) (by decide) (by decide), o6], by rw [q5]; omega, ?_, ?_⟩
            · rw [q2, hx, bkEv_s, bkEv_s]
              by_cases w : x2 = 1
              · rw [if_pos w, if_pos w, if_pos w, Bool.and_eq_true]
              · rw [if_neg w, if_neg w, if_neg w, Bool.and_eq_true]
            · rw [q6, hT, o12]
              by_cases w : n < 7
              · rw [if_pos w, Nat.min_eq_left (by omega), Nat.min_eq_left (by omega)]
                show _ = 27 * bkKy 27 T p n + (T (p + n) - 96)
                omega
              · rw [if_neg w, Nat.min_eq_right (by omega), Nat.min_eq_right (by omega)]
            · rw [q7, hT, o8]
              by_cases w : n < 3
              · rw [if_pos w, Nat.min_eq_left (by omega), Nat.min_eq_left (by omega)]
                show _ = 10 * bkVl T p n + (T (p + n) - 48)
                omega
              · rw [if_neg w, Nat.min_eq_right (by omega), Nat.min_eq_right (by omega)]
          have k12 : n < 7 → -(2 * ((27 ^ 6 : Nat) : Int) - 2) ≤ M1 12 0 12 ∧ M1 12 0 12 ≤ 2 * ((27 ^ 6 : Nat) : Int) - 2 := fun w => by
            have := bkKy_r (T := T) (p := p) (n := n) (bkEv_of ha)
            have h10 : 27 ^ n ≤ 27 ^ 6 := Nat.pow_le_pow_right (by decide) (by omega)
            rw [o12, Nat.min_eq_left (by omega)]
            omega
          have k8 : n < 3 → 0 ≤ M1 12 0 8 ∧ M1 12 0 8 ≤ 9 * ((10 ^ 2 : Nat) : Int) - 9 := fun w => by
            have := bkVl_r (T := T) (p := p) (n := n) (bkEv_of ha)
            have h10 : 10 ^ n ≤ 10 ^ 2 := Nat.pow_le_pow_right (by decide) (by omega)
            rw [o8, Nat.min_eq_left (by omega)]
            omega
          rw [show (27 ^ 6 : Nat) = 387420489 from rfl] at k12
          rw [show (10 ^ 2 : Nat) = 100 from rfl] at k8
          have f5 : ∀ {M' : bk_M} {k : Nat} {j v : Int}, bkFr (fun k a => k = 12 ∧ a = 0) M M' → bkFr (fun k a => k = 12 ∧ a = 0) M (bk_up M' 12 0 j v) := fun h => bkFr_up h ⟨rfl, rfl⟩
          have upd : ∀ (x3' : Int) (v4' : bk_V), (x3' = 0 ∨ x3' = 1) → (x3' = 1 ↔ (x3 = 1 ∧ (if x2 = 1 then bkSm (T (p + n)) else bkDg (T (p + n))) = true)) → ∀ b, b = T (p + n) → (bk_r32 (p + n - p) ∧ ((7 ≤ p + n - p → bk_r32 (p + n - p) ∧ ((3 ≤ p + n - p → bk_r32 (p + n + 1) ∧ ∀ M4 : bk_M, M4 = bk_up M1 12 0 5 (p + n + 1) → bk_wp (bk_C (d + 1)) P_162 Q 0 215 [bk_c 12 0, bk_i x1, bk_i x2, bk_i x3', v4'] [] M4) ∧ (¬ (3 ≤ p + n - p) → bk_r32 (10 * M1 12 0 8) ∧ bk_r32 (10 * M1 12 0 8 + b) ∧ bk_r32 (10 * M1 12 0 8 + b - 48) ∧ ∀ M5 : bk_M, M5 = bk_up M1 12 0 8 (10 * M1 12 0 8 + b - 48) → bk_r32 (M5 12 0 5 + 1) ∧ ∀ M6 : bk_M, M6 = bk_up M5 12 0 5 (M5 12 0 5 + 1) → bk_wp (bk_C (d + 1)) P_162 Q 0 215 [bk_c 12 0, bk_i x1, bk_i x2, bk_i x3', v4'] [] M6))) ∧ (¬ (7 ≤ p + n - p) → bk_r64 (27 * M1 12 0 12) ∧ bk_r64 (27 * M1 12 0 12 + b) ∧ bk_r64 (27 * M1 12 0 12 + b - 96) ∧ ∀ M7 : bk_M, M7 = bk_up M1 12 0 12 (27 * M1 12 0 12 + b - 96) → bk_r32 (M7 12 0 5 - M7 12 0 6) ∧ ((3 ≤ M7 12 0 5 - M7 12 0 6 → bk_r32 (M7 12 0 5 + 1) ∧ ∀ M8 : bk_M, M8 = bk_up M7 12 0 5 (M7 12 0 5 + 1) → bk_wp (bk_C (d + 1)) P_162 Q 0 215 [bk_c 12 0, bk_i x1, bk_i x2, bk_i x3', v4'] [] M8) ∧ (¬ (3 ≤ M7 12 0 5 - M7 12 0 6) → bk_r32 (10 * M7 12 0 8) ∧ bk_r32 (10 * M7 12 0 8 + b) ∧ bk_r32 (10 * M7 12 0 8 + b - 48) ∧ ∀ M9 : bk_M, M9 = bk_up M7 12 0 8 (10 * M7 12 0 8 + b - 48) → bk_r32 (M9 12 0 5 + 1) ∧ ∀ M10 : bk_M, M10 = bk_up M9 12 0 5 (M9 12 0 5 + 1) → bk_wp (bk_C (d + 1)) P_162 Q 0 215 [bk_c 12 0, bk_i x1, bk_i x2, bk_i x3', v4'] [] M10))))) := fun x3' v4' q1 q2 b hb => by
            subst hb
            refine ⟨by unfold bk_r32; omega, fun z7 => ⟨by unfold bk_r32; omega, fun z3 => ⟨by unfold bk_r32; omega, fun M4 e4 => ?_⟩, fun z3 => by omega⟩, fun z7 => ?_⟩
            · subst e4
              exact go x3' v4' _ q1 q2 (bkFr_up fr ⟨rfl, rfl⟩) (fun j w1 _ _ => bk_up_s w1) bk_up_e (by rw [if_neg (by omega), bk_up_s (by decide)]) (by rw [if_neg (by omega), bk_up_s (by decide)])
            · have k12 := k12 (by omega)
              refine ⟨by unfold bk_r64; omega, by unfold bk_r64; omega, by unfold bk_r64; omega, fun M7 e7 => ?_⟩
              have m5 : M7 12 0 5 = p + n := by rw [e7, bk_up_s (by decide), o5]
              have m6 : M7 12 0 6 = p := by rw [e7, bk_up_s (by decide), o6]
              have m8 : M7 12 0 8 = M1 12 0 8 := by rw [e7, bk_up_s (by decide)]
              have m12 : M7 12 0 12 = 27 * M1 12 0 12 + T (p + n) - 96 := by rw [e7, bk_up_e]
              have f7 : bkFr (fun k a => k = 12 ∧ a = 0) M M7 := by rw [e7]; exact bkFr_up fr ⟨rfl, rfl⟩
              have o7 : ∀ j, j ≠ 12 → M7 12 0 j = M1 12 0 j := fun j w => by rw [e7, bk_up_s w]
              rw [m5, m6, m8]
              refine ⟨by unfold bk_r32; omega, fun z3 => ⟨by unfold bk_r32; omega, fun M8 e8 => ?_⟩, fun z3 => ?_⟩
              · subst e8
                exact go x3' v4' _ q1 q2 (bkFr_up f7 ⟨rfl, rfl⟩) (fun j w1 _ w3 => by rw [bk_up_s w1, o7 j w3]) bk_up_e (by rw [if_pos (by omega), bk_up_s (by decide), m12]) (by rw [if_neg (by omega), bk_up_s (by decide), m8])
              · have k8 := k8 (by omega)
                refine ⟨by unfold bk_r32; omega, by unfold bk_r32; omega, by unfold bk_r32; omega, fun M9 e9 => ?_⟩
                have n5 : M9 12 0 5 = p + n := by rw [e9, bk_up_s (by decide), m5]
                rw [n5]
                refine ⟨by unfold bk_r32; omega, fun M10 e10 => ?_⟩
                subst e10 e9
                exact go x3' v4' _ q1 q2 (bkFr_up (bkFr_up f7 ⟨rfl, rfl⟩) ⟨rfl, rfl⟩) (fun j w1 w2 w3 => by rw [bk_up_s w1, bk_up_s w2, o7 j w3]) bk_up_e (by rw [if_pos (by omega), bk_up_s (by decide), bk_up_s (by decide), m12]) (by rw [if_pos (by omega), bk_up_s (by decide), bk_up_e])
          have mix : ∀ b, b = T (p + n) → (x3 = 0 ∨ ¬ (if x2 = 1 then bkSm (T (p + n)) else bkDg (T (p + n))) = true) → bk_wp (bk_C (d + 1)) P_162 Q 0 271 [bk_c 12 0, bk_i x1, bk_i x2, bk_i x3, bk_i b] [] M1 := fun b hb w => by
            rw [L_162_271, o5, o6]
            refine upd 0 (bk_i b) (.inl rfl) ⟨fun q => absurd q (by decide), fun q => ?_⟩ b hb
            rcases w with w | w
            · omega
            · exact absurd q.2 w
          rw [LG_162_243, o5, t1]
          refine ⟨by omega, fun z => mix _ rfl (.inl z), fun z => S163.2 ⟨rfl, fun w => mix _ rfl (.inr fun q => w ?_), fun w => ?_⟩⟩
          · have hx20 : x2 = 0 ∨ x2 = 1 := by rw [← hx2]; split <;> omega
            rcases hx20 with x20 | x21
            · rw [if_neg (by omega)] at q
              rw [x20, if_neg]
              intro r
              unfold bkSm at r; unfold bkDg at q; rw [decide_eq_true_eq] at r q; omega
            · rw [if_pos x21] at q
              rw [if_pos q, x21]
          · rw [o5, o6]
            refine upd 1 _ (.inr rfl) ⟨fun _ => ⟨by omega, ?_⟩, fun _ => rfl⟩ _ rfl
            by_cases r : bkSm (T (p + n)) = true
            · rw [if_pos r] at w
              rw [if_pos (by omega)]; exact r
            · rw [if_neg r] at w
              rw [if_neg (by omega)]
              unfold bkAl at g
              rw [Bool.or_eq_true] at g
              exact g.resolve_left r
        by_cases g : bkSm (T (p + n)) = true
        · exact ⟨rfl, S163.2 ⟨rfl, fun _ => step (by unfold bkAl; rw [g, Bool.true_or]), fun w => absurd (by rw [if_pos g]; decide) w⟩⟩
        · refine ⟨rfl, S163.2 ⟨rfl, fun w => absurd (by rw [if_neg g]) w, fun _ => ?_⟩⟩
          rw [o5, S165 (by rw [c1]; omega), c1, if_neg (by omega), t1]
          refine ⟨rfl, S164.2 ⟨rfl, fun w => fin (.inr ?_), fun w => step ?_⟩⟩
          · unfold bkAl
            rw [show bkSm (T (p + n)) = false by simpa using g, show bkDg (T (p + n)) = false by by_cases q : bkDg (T (p + n)) = true; (rw [if_pos q] at w; omega); (simpa using q)]; rfl
          · unfold bkAl; rw [show bkDg (T (p + n)) = true by by_cases q : bkDg (T (p + n)) = true; (exact q); (rw [if_neg q] at w; exact absurd rfl w), Bool.or_true]
    exact key (c - p).toNat 0 1 bk_x M1 (by omega) (fun j _ _ => by omega) (.inr rfl) (by simp [bkEv]) hM1
  have fin : ∀ p, i ≤ p → p ≤ c → (∀ j, i ≤ j → j < p → bkBl (M 57 0 j) = true) → (c ≤ p ∨ bkBl (M 57 0 p) = false) → ∀ M1, bkFr (fun k a => k = 12 ∧ a = 0) M M1 → (∀ j, j ≠ 5 → M1 12 0 j = M 12 0 j) → M1 12 0 5 = p → bk_wp (bk_C (d + 1)) P_162 Q 0 52 [bk_c 12 0, bk_x, bk_x, bk_x, bk_x] [] M1 := by
    intro p p0 p1 pb pe M1 fr1 o1 o5
    have ep : bkTp (M 57 0) c i = p := bkEd_eq p0 (.inl p1) pb pe
    have run := fun hp hb => run p p0 hp hb ep
    generalize hT : M 57 0 = T at *
    have g0 : bkTf T c L i = if L ≤ p ∧ L < c then L else p := by unfold bkTf; rw [ep]
    have g1 : bkTk T c L i = if L ≤ p ∧ L < c then 1 else if c ≤ p then 0 else if bkAl (T p) = true then bkRk T p (bkTl T c p) else if bkZn (T p) = true then T p else 1 := by unfold bkTk; rw [ep]
    have g2 : bkTn T c L i = if (L ≤ p ∧ L < c) ∨ c ≤ p then p else if bkAl (T p) = true then bkTe T c p else p + 1 := by unfold bkTn; rw [ep]
    rw [g0, g1, g2] at hQ
    rw [L_162_52, o5]
    intro M2 e2
    have fr : bkFr (fun k a => k = 12 ∧ a = 0) M M2 := by rw [e2]; exact bkFr_up fr1 ⟨rfl, rfl⟩
    have t2 : M2 57 0 = T := (fr 57 0 (by omega)).trans hT
    have o : ∀ j, j ≠ 5 → j ≠ 6 → M2 12 0 j = M 12 0 j := fun j q1 q2 => by rw [e2, bk_up_s q2, o1 j q1]
    have c2 : M2 12 0 3 = c := by rw [o 3 (by decide) (by decide), hc]
    have L2 : M2 12 0 4 = L := by rw [o 4 (by decide) (by decide), hL]
    have f2 : M2 12 0 6 = p := by rw [e2, bk_up_e]
    have i2 : M2 12 0 5 = p := by rw [e2, bk_up_s (by decide), o5]
    have lab : ¬ (L ≤ p ∧ L < c) → bk_wp (bk_C (d + 1)) P_162 Q 0 96 [bk_c 12 0, bk_x, bk_x, bk_x, bk_x] [] M2 := by
      intro hb
      rw [if_neg hb, if_neg hb] at hQ
      rw [L_162_96, i2, c2, t2]
      have ini : ∀ {M8 : bk_M}, M8 = bk_up (bk_up M2 12 0 12 0) 12 0 8 0 → bkRun M p 0 M8 := fun e => by
        subst e
        exact ⟨bkFr_up (bkFr_up fr ⟨rfl, rfl⟩) ⟨rfl, rfl⟩, fun j q1 q2 q3 q4 q5 q6 => by rw [bk_up_s q4, bk_up_s q6, o j q1 q2], by rw [bk_up_s (by decide), bk_up_s (by decide), f2], by rw [bk_up_s (by decide), bk_up_s (by decide), i2]; omega, by rw [bk_up_s (by decide), bk_up_e]; rfl, by rw [bk_up_e]; rfl⟩
      refine ⟨fun z => ⟨by omega, S163.2 ⟨rfl, fun w => S163.2 ⟨rfl, fun M7 e7 M8 e8 => ?_⟩, fun w => S164.2 ⟨rfl, fun w2 => S163.2 ⟨rfl, fun M7 e7 M8 e8 => ?_⟩, fun w2 => ?_⟩⟩⟩, fun z M38 e38 => ?_⟩
      · refine run z hb ?_ M8 (ini (by rw [e8, e7])) _
        unfold bkAl
        rw [show bkSm (T p) = true by by_cases q : bkSm (T p) = true; (exact q); (rw [if_neg q] at w; exact absurd rfl w), Bool.true_or]
      · refine run z hb ?_ M8 (ini (by rw [e8, e7])) _
        unfold bkAl
        rw [show bkDg (T p) = true by by_cases q : bkDg (T p) = true; (exact q); (rw [if_neg q] at w2; exact absurd rfl w2), Bool.or_true]
      · have a1 : bkAl (T p) = false := by
          unfold bkAl
          rw [show bkSm (T p) = false by by_cases q : bkSm (T p) = true; (rw [if_pos q] at w; omega); (simpa using q), show bkDg (T p) = false by by_cases q : bkDg (T p) = true; (rw [if_pos q] at w2; omega); (simpa using q)]; rfl
        rw [if_neg (show ¬ c ≤ p by omega), if_neg (show ¬ ((L ≤ p ∧ L < c) ∨ c ≤ p) by omega), if_neg (show ¬ bkAl (T p) = true by rw [a1]; decide), if_neg (show ¬ bkAl (T p) = true by rw [a1]; decide)] at hQ
        have sgn : ∀ k, (k = 4 ∧ bkZn (T p) = true ∨ k = 1 ∧ bkZn (T p) = false) → ∀ M17 : bk_M, M17 = bk_up M2 12 0 7 k → ∀ M18 : bk_M, M18 = bk_up M17 12 0 9 (T p) → bk_r32 (M18 12 0 5 + 1) ∧ ∀ M19 : bk_M, M19 = bk_up M18 12 0 5 (M18 12 0 5 + 1) → Q 0 0 M19 := fun k hk M17 e17 M18 e18 => by
          have s5 : M18 12 0 5 = p := by rw [e18, e17, bk_up_s (by decide), bk_up_s (by decide), i2]
          rw [s5]
          refine ⟨by unfold bk_r32; omega, fun M19 e19 => ?_⟩
          have p1 : bkFr (fun k a => k = 12 ∧ a = 0) M M19 := by rw [e19, e18, e17]; exact bkFr_up (bkFr_up (bkFr_up fr ⟨rfl, rfl⟩) ⟨rfl, rfl⟩) ⟨rfl, rfl⟩
          have p2 : ∀ j, j ≠ 5 → j ≠ 6 → j ≠ 7 → j ≠ 8 → j ≠ 9 → j ≠ 12 → M19 12 0 j = M 12 0 j := fun j q1 q2 q3 q4 q5 q6 => by rw [e19, e18, e17, bk_up_s q1, bk_up_s q5, bk_up_s q3, o j q1 q2]
          have p3 : M19 12 0 7 = k := by rw [e19, e18, e17, bk_up_s (by decide), bk_up_s (by decide), bk_up_e]
          have p4 : M19 12 0 9 = T p := by rw [e19, e18, bk_up_s (by decide), bk_up_e]
          have p5 : M19 12 0 6 = p := by rw [e19, e18, e17, bk_up_s (by decide), bk_up_s (by decide), bk_up_s (by decide), f2]
          have p6 : M19 12 0 5 = p + 1 := by rw [e19, bk_up_e]
          subst hQ
          try dsimp only
          rcases hk with ⟨hk, hs⟩ | ⟨hk, hs⟩
          · have hb : 40 ≤ T p := by unfold bkZn at hs; rw [decide_eq_true_eq] at hs; omega
            rw [if_pos hs, if_neg (by omega)]
            exact ⟨rfl, p1, p2, by omega, fun _ => p4, p5, p6, fun q => by omega, fun q => by omega⟩
          · rw [if_neg (show ¬ bkZn (T p) = true by rw [hs]; decide), if_pos (show (1 : Int) ≤ 3 by decide)]
            exact ⟨rfl, p1, p2, by omega, fun q => by omega, p5, p6, fun q => by omega, fun q => by omega⟩
        have yes : (T p = 59 ∨ T p = 60 ∨ T p = 61 ∨ T p = 62 ∨ T p = 40 ∨ T p = 41) → (4 : Int) = 4 ∧ bkZn (T p) = true ∨ (4 : Int) = 1 ∧ bkZn (T p) = false := fun q => .inl ⟨rfl, by unfold bkZn; rw [decide_eq_true_eq]; exact q⟩
        refine ⟨fun q => sgn 4 (yes (by omega)), fun q1 => ⟨fun q => sgn 4 (yes (by omega)), fun q2 => ⟨fun q => sgn 4 (yes (by omega)), fun q3 => ⟨fun q => sgn 4 (yes (by omega)), fun q4 => ⟨fun q => sgn 4 (yes (by omega)), fun q5 => ⟨fun q => sgn 1 (.inr ⟨rfl, ?_⟩), fun q => sgn 4 (yes (by omega))⟩⟩⟩⟩⟩⟩
        unfold bkZn; rw [decide_eq_false_iff_not]; omega
      · rw [if_pos (show c ≤ p by omega), if_pos (show (L ≤ p ∧ L < c) ∨ c ≤ p by omega)] at hQ
        subst hQ
        rw [e38]
        try dsimp only
        rw [if_pos (by decide)]
        exact ⟨rfl, bkFr_up fr ⟨rfl, rfl⟩, fun j q1 q2 q3 q4 q5 q6 => by rw [bk_up_s q3, o j q1 q2], bk_up_e, fun q => by omega, by rw [bk_up_s (by decide), f2], by rw [bk_up_s (by decide), i2], fun q => by omega, fun q => by omega⟩
    rw [c2, L2, f2]
    refine ⟨fun z => lab (by omega), fun z => ⟨fun z2 => lab (by omega), fun z2 M3 e3 M4 e4 => ?_⟩⟩
    rw [if_pos (show L ≤ p ∧ L < c by omega), if_pos (show L ≤ p ∧ L < c by omega), if_pos (show (L ≤ p ∧ L < c) ∨ c ≤ p by omega)] at hQ
    subst hQ
    rw [e4, e3]
    try dsimp only
    rw [if_pos (by decide)]
    exact ⟨rfl, bkFr_up (bkFr_up fr ⟨rfl, rfl⟩) ⟨rfl, rfl⟩, fun j q1 q2 q3 q4 q5 q6 => by rw [bk_up_s q3, bk_up_s q2, o j q1 q2], bk_up_e, fun q => by omega, by rw [bk_up_s (by decide), bk_up_e], by rw [bk_up_s (by decide), bk_up_s (by decide), i2], fun q => by omega, fun q => by omega⟩
  have key : ∀ (m n : Nat), i + n + m = c → (∀ j, i ≤ j → j < i + n → bkBl (M 57 0 j) = true) → ∀ M1, bkFr (fun k a => k = 12 ∧ a = 0) M M1 → (∀ j, j ≠ 5 → M1 12 0 j = M 12 0 j) → M1 12 0 5 = i + n → bk_wp (bk_C (d + 1)) P_162 Q 0 0 [bk_c 12 0, bk_x, bk_x, bk_x, bk_x] [] M1 := by
    intro m
    induction m with
    | zero =>
      intro n hn hb M1 fr o o5
      rw [L_162_0, o5, o 3 (by decide), hc]
      exact ⟨fun _ => fin _ (by omega) (by omega) hb (.inl (by omega)) M1 fr o o5, fun z => absurd (by omega) z⟩
    | succ m ih =>
      intro n hn hb M1 fr o o5
      have go : bkBl (M 57 0 (i + n)) = true → bk_wp (bk_C (d + 1)) P_162 Q 0 39 [bk_c 12 0, bk_x, bk_x, bk_x, bk_x] [] M1 := fun q => by
        rw [L_162_39, o5]
        refine ⟨by unfold bk_r32; omega, fun M2 e2 => ?_⟩
        refine ih (n + 1) (by omega) (fun j q1 q2 => ?_) M2 (by rw [e2]; exact bkFr_up fr ⟨rfl, rfl⟩) (fun j q => by rw [e2, bk_up_s q, o j q]) (by rw [e2, bk_up_e]; omega)
        by_cases e : j = i + n
        · rw [e]; exact q
        · exact hb j q1 (by omega)
      rw [L_162_0, o5, o 3 (by decide), hc, show M1 57 0 = M 57 0 from fr 57 0 (by omega)]
      refine ⟨fun z => absurd z (by omega), fun _ => ⟨by omega, fun z => go (by rw [z]; rfl), fun z => ⟨by omega, fun z2 => fin _ (by omega) (by omega) hb (.inr ?_) M1 fr o o5, fun z2 => go (by rw [show M 57 0 (i + n) = 10 by omega]; rfl)⟩⟩⟩
      unfold bkBl
      rw [decide_eq_false z, decide_eq_false z2]; rfl
  have := key (c - i).toNat 0 (by omega) (fun j _ _ => by omega) M (bkFr_refl _ _) (fun _ _ => rfl) (by rw [hi]; omega)
  rw [L_162_0] at this
  rw [E_162]
  exact this
