/-! Which beds there may have been: all of them, in order. -/
def bkFit (N T : Int → Int) (y x : Int) : Nat → Bool
  | 0 => true
  | k + 1 => bkFit N T y x k && (decide (N (52 + T (2 * k)) ≠ y) || decide (bkSide (N (42 + T (2 * k))) x = T (2 * k + 1)))
def bkOkR (N T : Int → Int) (q : Nat) (y x : Int) : Bool := decide (0 ≤ x ∧ x < N 2) && bkFit N T y x q
/-- what may follow behind x, n rows from the end -/
def bkFo (ok : Int → Int → Bool) (H : Int) : Nat → Int → List (List Int)
  | 0, _ => [[]]
  | n + 1, x => (if ok (H - 1 - n) (x - 1) then (bkFo ok H n (x - 1)).map ((x - 1) :: ·) else []) ++ ((if ok (H - 1 - n) x then (bkFo ok H n x).map (x :: ·) else []) ++ (if ok (H - 1 - n) (x + 1) then (bkFo ok H n (x + 1)).map ((x + 1) :: ·) else []))
/-- beds from x on -/
def bkSt (ok : Int → Int → Bool) (H : Int) (n : Nat) (x : Int) : List (List Int) := if ok (H - 1 - n) x then (bkFo ok H n x).map (x :: ·) else []
theorem bkFo_s (ok : Int → Int → Bool) (H : Int) (n : Nat) (x : Int) : bkFo ok H (n + 1) x = bkSt ok H n (x - 1) ++ (bkSt ok H n x ++ bkSt ok H n (x + 1)) := rfl
def bkFl (ok : Int → Int → Bool) (H : Int) (n : Nat) (lo : Int) : Nat → List (List Int)
  | 0 => []
  | k + 1 => bkFl ok H n lo k ++ bkSt ok H n (lo + k)
theorem bkFl_3 (ok : Int → Int → Bool) (H : Int) (n : Nat) (x : Int) : bkFl ok H n (x - 1) 3 = bkFo ok H (n + 1) x := by
  rw [bkFo_s]
  show (([] ++ bkSt ok H n (x - 1 + ((0 : Nat) : Int))) ++ bkSt ok H n (x - 1 + ((1 : Nat) : Int))) ++ bkSt ok H n (x - 1 + ((2 : Nat) : Int)) = _
  rw [show x - 1 + ((0 : Nat) : Int) = x - 1 by omega, show x - 1 + ((1 : Nat) : Int) = x by omega, show x - 1 + ((2 : Nat) : Int) = x + 1 by omega, List.nil_append, List.append_assoc]
def bkComp (ok : Int → Int → Bool) (W H : Int) (pre : List Int) : Nat → List (List Int)
  | 0 => [[]]
  | n + 1 => if pre = [] then bkFl ok H n 0 W.toNat else bkFo ok H (n + 1) (pre.getD (pre.length - 1) 0)
theorem bkComp_snoc (ok : Int → Int → Bool) (W H : Int) (pre : List Int) (x : Int) : ∀ n : Nat, bkComp ok W H (pre ++ [x]) n = bkFo ok H n x
  | 0 => rfl
  | n + 1 => by
    show (if pre ++ [x] = [] then _ else bkFo ok H (n + 1) ((pre ++ [x]).getD ((pre ++ [x]).length - 1) 0)) = _
    rw [if_neg (by simp)]
    congr 1
    simp
/-- the one X of a row, if it is the same in all -/
def bkSu (X : List (List Int)) (i : Nat) : Int := match X with
  | [] => -1
  | b :: X => if X.all (fun c => decide (c.getD i 0 = b.getD i 0)) then b.getD i 0 else -1
theorem bkSu_snoc {X : List (List Int)} {b : List Int} {i : Nat} (h : X ≠ []) (hb : 0 ≤ b.getD i 0) : bkSu (X ++ [b]) i = if bkSu X i = b.getD i 0 then bkSu X i else -1 := by
  cases X with
  | nil => exact absurd rfl h
  | cons a X =>
    show (if (X ++ [b]).all (fun c => decide (c.getD i 0 = a.getD i 0)) then a.getD i 0 else -1) = if (if X.all (fun c => decide (c.getD i 0 = a.getD i 0)) then a.getD i 0 else -1) = b.getD i 0 then (if X.all (fun c => decide (c.getD i 0 = a.getD i 0)) then a.getD i 0 else -1) else -1
    rw [List.all_append]
    by_cases h1 : X.all (fun c => decide (c.getD i 0 = a.getD i 0)) = true
    · rw [h1, if_pos rfl]
      by_cases h2 : b.getD i 0 = a.getD i 0
      · rw [if_pos (by simp only [Bool.true_and, List.all_cons, List.all_nil, Bool.and_true, decide_eq_true_eq]; exact h2), if_pos h2.symm]
      · rw [if_neg (by simp only [Bool.true_and, List.all_cons, List.all_nil, Bool.and_true, decide_eq_true_eq]; exact h2), if_neg (fun q => h2 q.symm)]
    · rw [if_neg h1, if_neg (by rw [Bool.and_eq_true]; exact fun q => h1 q.1), if_neg (by omega)]
theorem S249 {d : Nat} {Q : bk_Q} {y x : Int} {q : Nat} {M : bk_M} (hN : bkMw (M 58 0)) (hq : q ≤ 10) (hT : ∀ k : Nat, k < q → 0 ≤ M 57 0 (2 * k) ∧ M 57 0 (2 * k) < M 58 0 0) :
    bk_C (d + 2) 0 249 [bk_c 12 0, bk_i y, bk_i x, bk_i (2 * q)] M Q ↔ Q 0 (if bkFit (M 58 0) (M 57 0) y x q = true then 1 else 0) M := by
  refine bk_det (fun Q hQ => ?_) Q
  obtain ⟨n1, n2, n3, n4, n5, -⟩ := hN
  rw [E_249]
  have key : ∀ (n k : Nat), k + n = q → bkFit (M 58 0) (M 57 0) y x k = true → bk_wp (bk_C (d + 1)) P_249 Q 0 3 [bk_c 12 0, bk_i y, bk_i x, bk_i (2 * q), bk_i (2 * k)] [] M := by
    intro n
    induction n with
    | zero =>
      intro k hk hf
      rw [L_249_3]
      rw [show q = k by omega, if_pos hf] at hQ
      exact ⟨fun _ => ⟨.inr rfl, hQ⟩, fun z => absurd (by omega) z⟩
    | succ n ih =>
      intro k hk hf
      have ht := hT k (by omega)
      have ih := ih (k + 1) (by omega)
      rw [show (2 * (((k + 1 : Nat)) : Int)) = 2 * (k : Int) + 2 by omega] at ih
      have e : bkFit (M 58 0) (M 57 0) y x (k + 1) = (bkFit (M 58 0) (M 57 0) y x k && (decide (M 58 0 (52 + M 57 0 (2 * k)) ≠ y) || decide (bkSide (M 58 0 (42 + M 57 0 (2 * k))) x = M 57 0 (2 * k + 1)))) := rfl
      rw [L_249_3, S196]
      unfold bk_r32
      refine ⟨fun z => absurd z (by omega), fun _ => ⟨by omega, by omega, by omega, fun z => ⟨by omega, ih ?_⟩, fun z => ⟨by omega, by omega, by omega, rfl, by omega, by omega, fun z2 => ⟨by omega, ih ?_⟩, fun z2 => ⟨.inl rfl, ?_⟩⟩⟩⟩
      · rw [e, hf]; simp [z]
      · rw [e, hf]; simp [z2]
      · have hno : ∀ j : Nat, k < j → bkFit (M 58 0) (M 57 0) y x j = false := by
          intro j
          induction j with
          | zero => intro h; exact absurd h (by omega)
          | succ j ihj =>
            intro h
            by_cases ej : j = k
            · rw [ej, e, hf]
              simp [z2]
              exact Decidable.not_not.1 z
            · show (bkFit (M 58 0) (M 57 0) y x j && _) = false
              rw [ihj (by omega)]
              rfl
        rw [if_neg (by rw [hno q (by omega)]; decide)] at hQ
        exact hQ
  have := key q 0 (by omega) rfl
  exact this
def bkA248 (k a : Nat) : Prop := (k = 12 ∨ k = 77 ∨ k = 78 ∨ k = 79) ∧ a = 0
/-- what the reference has found so far: the beds X -/
def bkRst (H : Int) (R0 S0 : Int → Int) (M : bk_M) (X : List (List Int)) : Prop :=
  M 12 0 45 = X.length ∧ (X = [] → M 78 0 = R0 ∧ M 79 0 = S0) ∧ ∀ (b : List Int) (Y : List (List Int)), X = b :: Y → ∀ i : Nat, (i : Int) < H → M 78 0 i = b.getD i 0 ∧ M 79 0 i = bkSu X i
theorem LG_248_22 {d : Nat} {Q : bk_Q} (x1 : Int) (x2 : Int) (x3 : Int) (v4 : bk_V) (v5 : bk_V) (M : bk_M) : bk_wp (bk_C d) P_248 Q 0 22 [bk_c 12 0, bk_i x1, bk_i x2, bk_i x3, v4, v5] [] M ↔ ((x1 ≤ x3 → Q 0 0 M) ∧ (¬ (x1 ≤ x3) → ((M 12 0 (45 : Int) ≠ (1 : Int) → ((M 12 0 (45 : Int) ≠ (1 : Int) → ((0 : Int) ≤ x3 ∧ x3 < (6 : Int)) ∧ ((0 : Int) ≤ x3 ∧ x3 < (6 : Int)) ∧ ((M 79 0 x3 = M 77 0 x3 → bk_r32 (x3 + (1 : Int)) ∧ bk_wp (bk_C d) P_248 Q 0 22 [bk_c 12 0, bk_i x1, bk_i x2, bk_i (x3 + (1 : Int)), v4, v5] [] M) ∧ (¬ (M 79 0 x3 = M 77 0 x3) → ((0 : Int) ≤ x3 ∧ x3 < (6 : Int)) ∧ ∀ M1 : bk_M, M1 = bk_up M 79 0 x3 (-1 : Int) → bk_r32 (x3 + (1 : Int)) ∧ bk_wp (bk_C d) P_248 Q 0 22 [bk_c 12 0, bk_i x1, bk_i x2, bk_i (x3 + (1 : Int)), v4, v5] [] M1))) ∧ (¬ (M 12 0 (45 : Int) ≠ (1 : Int)) → ((0 : Int) ≤ x3 ∧ x3 < (6 : Int)) ∧ ((0 : Int) ≤ x3 ∧ x3 < (6 : Int)) ∧ ∀ M2 : bk_M, M2 = bk_up M 79 0 x3 (M 77 0 x3) → ((0 : Int) ≤ x3 ∧ x3 < (6 : Int)) ∧ ((0 : Int) ≤ x3 ∧ x3 < (6 : Int)) ∧ ((M2 79 0 x3 = M2 77 0 x3 → bk_r32 (x3 + (1 : Int)) ∧ bk_wp (bk_C d) P_248 Q 0 22 [bk_c 12 0, bk_i x1, bk_i x2, bk_i (x3 + (1 : Int)), v4, v5] [] M2) ∧ (¬ (M2 79 0 x3 = M2 77 0 x3) → ((0 : Int) ≤ x3 ∧ x3 < (6 : Int)) ∧ ∀ M3 : bk_M, M3 = bk_up M2 79 0 x3 (-1 : Int) → bk_r32 (x3 + (1 : Int)) ∧ bk_wp (bk_C d) P_248 Q 0 22 [bk_c 12 0, bk_i x1, bk_i x2, bk_i (x3 + (1 : Int)), v4, v5] [] M3))))) ∧ (¬ (M 12 0 (45 : Int) ≠ (1 : Int)) → ((0 : Int) ≤ x3 ∧ x3 < (6 : Int)) ∧ ((0 : Int) ≤ x3 ∧ x3 < (6 : Int)) ∧ ∀ M4 : bk_M, M4 = bk_up M 78 0 x3 (M 77 0 x3) → ((M4 12 0 (45 : Int) ≠ (1 : Int) → ((0 : Int) ≤ x3 ∧ x3 < (6 : Int)) ∧ ((0 : Int) ≤ x3 ∧ x3 < (6 : Int)) ∧ ((M4 79 0 x3 = M4 77 0 x3 → bk_r32 (x3 + (1 : Int)) ∧ bk_wp (bk_C d) P_248 Q 0 22 [bk_c 12 0, bk_i x1, bk_i x2, bk_i (x3 + (1 : Int)), v4, v5] [] M4) ∧ (¬ (M4 79 0 x3 = M4 77 0 x3) → ((0 : Int) ≤ x3 ∧ x3 < (6 : Int)) ∧ ∀ M5 : bk_M, M5 = bk_up M4 79 0 x3 (-1 : Int) → bk_r32 (x3 + (1 : Int)) ∧ bk_wp (bk_C d) P_248 Q 0 22 [bk_c 12 0, bk_i x1, bk_i x2, bk_i (x3 + (1 : Int)), v4, v5] [] M5))) ∧ (¬ (M4 12 0 (45 : Int) ≠ (1 : Int)) → ((0 : Int) ≤ x3 ∧ x3 < (6 : Int)) ∧ ((0 : Int) ≤ x3 ∧ x3 < (6 : Int)) ∧ ∀ M6 : bk_M, M6 = bk_up M4 79 0 x3 (M4 77 0 x3) → ((0 : Int) ≤ x3 ∧ x3 < (6 : Int)) ∧ ((0 : Int) ≤ x3 ∧ x3 < (6 : Int)) ∧ ((M6 79 0 x3 = M6 77 0 x3 → bk_r32 (x3 + (1 : Int)) ∧ bk_wp (bk_C d) P_248 Q 0 22 [bk_c 12 0, bk_i x1, bk_i x2, bk_i (x3 + (1 : Int)), v4, v5] [] M6) ∧ (¬ (M6 79 0 x3 = M6 77 0 x3) → ((0 : Int) ≤ x3 ∧ x3 < (6 : Int)) ∧ ∀ M7 : bk_M, M7 = bk_up M6 79 0 x3 (-1 : Int) → bk_r32 (x3 + (1 : Int)) ∧ bk_wp (bk_C d) P_248 Q 0 22 [bk_c 12 0, bk_i x1, bk_i x2, bk_i (x3 + (1 : Int)), v4, v5] [] M7)))))))) := bk_iff [22, 145] 40
theorem L248_22 {d : Nat} {Q : bk_Q} {y cnt : Int} {H : Int} {R0 S0 : Int → Int} {X : List (List Int)} {b : List Int} {M M1 : bk_M} (hH : 0 ≤ H ∧ H ≤ 6) (hy : y = H) (hb : (b.length : Int) = H) (hb0 : ∀ i : Nat, i < b.length → M 77 0 i = b.getD i 0 ∧ 0 ≤ b.getD i 0) (hX : bkRst H R0 S0 M X) (hM1 : M1 = bk_up M 12 0 45 (X.length + 1))
    (hQ : ∀ M', bkFr bkA248 M M' → (∀ j, j ≠ 45 → M' 12 0 j = M 12 0 j) → M' 77 0 = M 77 0 → bkRst H R0 S0 M' (X ++ [b]) → Q 0 0 M') (v4 v5 : bk_V) :
    bk_wp (bk_C d) P_248 Q 0 22 [bk_c 12 0, bk_i y, bk_i cnt, bk_i 0, v4, v5] [] M1 := by
  subst hy
  obtain ⟨X1, X2, X3⟩ := hX
  have hbi : ∀ i : Int, 0 ≤ i → i < y → M 77 0 i = b.getD i.toNat 0 ∧ 0 ≤ b.getD i.toNat 0 := fun i h0 h1 => by
    have := hb0 i.toNat (by omega)
    rw [Int.toNat_of_nonneg h0] at this
    exact this
  have key := bk_loopS (W := fun i M2 => ∀ v4 v5, bk_wp (bk_C d) P_248 Q 0 22 [bk_c 12 0, bk_i y, bk_i cnt, bk_i i, v4, v5] [] M2) (s := 0) (n := y)
    (fun i M2 => bkFr (fun k a => (k = 78 ∨ k = 79) ∧ a = 0) M1 M2 ∧ (∀ j : Int, 0 ≤ j → j < i → M2 78 0 j = (if X = [] then b.getD j.toNat 0 else M 78 0 j) ∧ M2 79 0 j = bkSu (X ++ [b]) j.toNat) ∧ (∀ j : Int, i ≤ j → M2 78 0 j = M 78 0 j ∧ M2 79 0 j = M 79 0 j)) (by omega) ?_ ?_ (M := M1) ⟨bkFr_refl _ _, fun j z1 z2 => absurd z1 (by omega), fun j _ => by rw [hM1, bk_up_f (by decide), bk_up_f (by decide)]; exact ⟨rfl, rfl⟩⟩
  · exact key _ _
  · rintro i M2 h0 h1 ⟨F, D, U⟩ ih v4 v5
    have e45 : M2 12 0 45 = X.length + 1 := by rw [F 12 0 (by omega), hM1, bk_up_e]
    have e77 : M2 77 0 i = b.getD i.toNat 0 := by rw [F 77 0 (by omega), hM1, bk_up_f (by decide)]; exact (hbi i h0 h1).1
    have hp := (hbi i h0 h1).2
    have u := U i (Int.le_refl _)
    rw [LG_248_22, e45]
    unfold bk_r32
    refine ⟨fun z => absurd z (by omega), fun _ => ⟨fun z => ⟨fun _ => ⟨by omega, by omega, ?_⟩, fun z2 => absurd z z2⟩, fun z => ⟨by omega, by omega, ?_⟩⟩⟩
    · have hX0 : X ≠ [] := fun e => z (by rw [e]; rfl)
      obtain ⟨a, Y, eX⟩ : ∃ a Y, X = a :: Y := by
        cases X with
        | nil => exact absurd rfl hX0
        | cons a Y => exact ⟨a, Y, rfl⟩
      have x3 := X3 a Y eX i.toNat (by omega)
      rw [Int.toNat_of_nonneg h0] at x3
      have hs := bkSu_snoc (b := b) (i := i.toNat) hX0 hp
      rw [e77, u.2, x3.2]
      refine ⟨fun z2 => ⟨by omega, ih M2 ⟨F, fun j q0 q1 => ?_, fun j q => U j (by omega)⟩ _ _⟩, fun z2 => ⟨by omega, ?_⟩⟩
      · by_cases e : j = i
        · subst e
          rw [if_neg hX0, u.1, u.2, x3.2, hs, if_pos z2]
          exact ⟨rfl, rfl⟩
        · exact D j q0 (by omega)
      · intro M3 hM3
        refine ⟨by omega, ih M3 ⟨by rw [hM3]; exact bkFr_up F ⟨.inr rfl, rfl⟩, fun j q0 q1 => ?_, fun j q => ?_⟩ _ _⟩
        · rw [hM3, bk_up_f (by decide), bk_up_w]
          by_cases e : j = i
          · subst e
            rw [if_neg hX0, if_pos rfl, u.1, hs, if_neg z2]
            exact ⟨rfl, rfl⟩
          · rw [if_neg e]; exact D j q0 (by omega)
        · rw [hM3, bk_up_f (by decide), bk_up_w, if_neg (by omega)]; exact U j (by omega)
    · have hX0 : X = [] := List.eq_nil_of_length_eq_zero (by omega)
      have hs : bkSu (X ++ [b]) i.toNat = b.getD i.toNat 0 := by rw [hX0]; rfl
      intro M4 hM4
      have e45' : M4 12 0 45 = X.length + 1 := by rw [hM4, bk_up_f (by decide), e45]
      have e77' : M4 77 0 i = b.getD i.toNat 0 := by rw [hM4, bk_up_f (by decide), e77]
      rw [e45']
      refine ⟨fun z2 => absurd z2 z, fun _ => ⟨by omega, by omega, ?_⟩⟩
      intro M6 hM6
      have r79 : M6 79 0 i = b.getD i.toNat 0 := by rw [hM6, bk_up_e, e77']
      have r77 : M6 77 0 i = b.getD i.toNat 0 := by rw [hM6, bk_up_f (by decide), e77']
      rw [r79, r77]
      refine ⟨by omega, by omega, fun _ => ⟨by omega, ih M6 ⟨by rw [hM6, hM4]; exact bkFr_up (bkFr_up F ⟨.inl rfl, rfl⟩) ⟨.inr rfl, rfl⟩, fun j q0 q1 => ?_, fun j q => ?_⟩ _ _⟩, fun z2 => absurd rfl z2⟩
      · by_cases e : j = i
        · subst e
          rw [if_pos hX0, hM6, bk_up_f (by decide), hM4, bk_up_e, bk_up_e, bk_up_f (by decide), e77, hs]
          exact ⟨rfl, rfl⟩
        · rw [hM6, bk_up_f (by decide), bk_up_s e, hM4, bk_up_s e, bk_up_f (by decide)]
          exact D j q0 (by omega)
      · rw [hM6, bk_up_f (by decide), bk_up_s (by omega), hM4, bk_up_s (by omega), bk_up_f (by decide)]
        exact U j (by omega)
  · rintro M2 ⟨F, D, U⟩ v4 v5
    rw [LG_248_22]
    refine ⟨fun _ => hQ M2 ?_ (fun j hj => ?_) ?_ ⟨?_, fun q => absurd q (by simp), fun c Y e i hi => ?_⟩, fun z => absurd (Int.le_refl _) z⟩
    · refine bkFr_trans (M' := M1) ?_ (bkFr_mono F fun k a w => by unfold bkA248; omega)
      rw [hM1]; exact bkFr_up (bkFr_refl _ _) (by unfold bkA248; omega)
    · rw [F 12 0 (by omega), hM1, bk_up_s hj]
    · rw [F 77 0 (by omega), hM1, bk_up_f (by decide)]
    · rw [F 12 0 (by omega), hM1, bk_up_e, List.length_append]; simp
    · have d := D i (by omega) hi
      rw [Int.toNat_natCast] at d
      refine ⟨?_, d.2⟩
      rw [d.1]
      cases X with
      | nil =>
        rw [if_pos rfl]
        have : c = b := by
          have : [b] = c :: Y := e
          simp at this
          exact this.1.symm
        rw [this]
      | cons a Z =>
        rw [if_neg (by simp)]
        have hc : a = c := by
          have : a :: (Z ++ [b]) = c :: Y := e
          simp at this
          exact this.1
        rw [← hc]
        exact (X3 a Z rfl i hi).1
