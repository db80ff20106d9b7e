/-! ran: the reference. -/
theorem bkFl_cons (ok : Int → Int → Bool) (H : Int) (n : Nat) (lo : Int) : ∀ k : Nat, bkFl ok H n lo (k + 1) = bkSt ok H n lo ++ bkFl ok H n (lo + 1) k
  | 0 => by
    show [] ++ bkSt ok H n (lo + ((0 : Nat) : Int)) = bkSt ok H n lo ++ []
    rw [show lo + ((0 : Nat) : Int) = lo by omega, List.append_nil, List.nil_append]
  | k + 1 => by
    have ih := bkFl_cons ok H n lo k
    show bkFl ok H n lo (k + 1) ++ bkSt ok H n (lo + ((k + 1 : Nat) : Int)) = bkSt ok H n lo ++ (bkFl ok H n (lo + 1) k ++ bkSt ok H n (lo + 1 + (k : Nat)))
    rw [ih, List.append_assoc, show lo + ((k + 1 : Nat) : Int) = lo + 1 + (k : Nat) by omega]
theorem bkFl_at (ok : Int → Int → Bool) (H : Int) (n : Nat) {x hi : Int} (h : x ≤ hi) : bkFl ok H n x (hi + 1 - x).toNat = bkSt ok H n x ++ bkFl ok H n (x + 1) (hi + 1 - (x + 1)).toNat := by
  rw [show (hi + 1 - x).toNat = (hi + 1 - (x + 1)).toNat + 1 by omega, bkFl_cons]
theorem bkFo_len (ok : Int → Int → Bool) (H : Int) : ∀ (n : Nat) (x : Int), (bkFo ok H n x).length ≤ 3 ^ n
  | 0, _ => by show 1 ≤ 1; omega
  | n + 1, x => by
    have st : ∀ z, (bkSt ok H n z).length ≤ 3 ^ n := fun z => by
      have := bkFo_len ok H n z
      unfold bkSt
      split
      · rw [List.length_map]; exact this
      · simp
    rw [bkFo_s, List.length_append, List.length_append, Nat.pow_succ]
    have := st (x - 1)
    have := st x
    have := st (x + 1)
    omega
theorem bkSt_len (ok : Int → Int → Bool) (H : Int) (n : Nat) (z : Int) : (bkSt ok H n z).length ≤ 3 ^ n := by
  have := bkFo_len ok H n z
  unfold bkSt
  split
  · rw [List.length_map]; exact this
  · simp
theorem bkFl_len (ok : Int → Int → Bool) (H : Int) (n : Nat) (lo : Int) : ∀ k : Nat, (bkFl ok H n lo k).length ≤ k * 3 ^ n
  | 0 => by show 0 ≤ _; omega
  | k + 1 => by
    have ih := bkFl_len ok H n lo k
    have := bkSt_len ok H n (lo + k)
    show (bkFl ok H n lo k ++ bkSt ok H n (lo + k)).length ≤ _
    rw [List.length_append, Nat.add_mul, Nat.one_mul]
    omega
theorem S248 {N T : Int → Int} {q : Nat} {R0 S0 : Int → Int} (hN : bkMd N) (hq : q ≤ 10) (hT : ∀ k : Nat, k < q → 0 ≤ T (2 * k) ∧ T (2 * k) < N 0) : ∀ (n d : Nat) (pre : List Int) (M : bk_M) (X : List (List Int)),
    M 58 0 = N → M 57 0 = T → (pre.length : Int) + n = N 3 → (∀ i : Nat, i < pre.length → M 77 0 i = pre.getD i 0 ∧ 0 ≤ pre.getD i 0 ∧ pre.getD i 0 < 6) → bkRst (N 3) R0 S0 M X → X.length + (bkComp (bkOkR N T q) (N 2) (N 3) pre n).length ≤ 2000000 →
    bk_C (d + n + 5) 0 248 [bk_c 12 0, bk_i pre.length, bk_i (2 * q)] M (fun t _ M' => t = 0 ∧ bkFr bkA248 M M' ∧ (∀ j, j ≠ 45 → M' 12 0 j = M 12 0 j) ∧ (∀ i : Nat, i < pre.length → M' 77 0 i = pre.getD i 0) ∧ bkRst (N 3) R0 S0 M' (X ++ (bkComp (bkOkR N T q) (N 2) (N 3) pre n).map (pre ++ ·))) := by
  intro n
  obtain ⟨n1, n2, -⟩ := id hN
  induction n with
  | zero =>
    intro d pre M X h58 h57 hl hp hX hbnd
    have X1 := hX.1
    have hcomp : (bkComp (bkOkR N T q) (N 2) (N 3) pre 0).map (pre ++ ·) = [pre] := by
      show [pre ++ []] = [pre]
      rw [List.append_nil]
    rw [hcomp]
    rw [E_248, h58, X1]
    refine ⟨by omega, fun z => absurd (by omega) z, fun _ => ⟨?_, ?_⟩⟩
    · have : ((bkComp (bkOkR N T q) (N 2) (N 3) pre 0).length : Int) = 1 := rfl
      unfold bk_r32
      omega
    · intro M1 hM1
      refine L248_22 (H := N 3) (R0 := R0) (S0 := S0) (X := X) (b := pre) (M := M) (by omega) (by omega) (by omega) (fun i hi => ⟨(hp i hi).1, (hp i hi).2.1⟩) hX hM1 (fun M' F k12 k77 hX' => ⟨rfl, F, k12, fun i hi => by rw [k77]; exact (hp i hi).1, hX'⟩) _ _
  | succ n ih =>
    intro d pre M X h58 h57 hl hp hX hbnd
    have hy : (pre.length : Int) = N 3 - 1 - n := by omega
    -- the loop over a row
    have loop : ∀ lo hi : Int, lo ≤ hi + 1 → -10 ≤ lo → hi ≤ 10 → bkComp (bkOkR N T q) (N 2) (N 3) pre (n + 1) = bkFl (bkOkR N T q) (N 3) n lo (hi + 1 - lo).toNat → bk_wp (bk_C (d + (n + 1) + 4)) P_248 (fun t _ M' => t = 0 ∧ bkFr bkA248 M M' ∧ (∀ j, j ≠ 45 → M' 12 0 j = M 12 0 j) ∧ (∀ i : Nat, i < pre.length → M' 77 0 i = pre.getD i 0) ∧ bkRst (N 3) R0 S0 M' (X ++ (bkComp (bkOkR N T q) (N 2) (N 3) pre (n + 1)).map (pre ++ ·))) 0 145 [bk_c 12 0, bk_i pre.length, bk_i (2 * q), bk_i lo, bk_i hi, bk_i lo] [] M := by
      intro lo hi hlh hlo hhi hc
      rw [hc] at hbnd ⊢
      refine bk_loopS (W := fun x M1 => bk_wp (bk_C (d + (n + 1) + 4)) P_248 (fun t _ M' => t = 0 ∧ bkFr bkA248 M M' ∧ (∀ j, j ≠ 45 → M' 12 0 j = M 12 0 j) ∧ (∀ i : Nat, i < pre.length → M' 77 0 i = pre.getD i 0) ∧ bkRst (N 3) R0 S0 M' (X ++ (bkFl (bkOkR N T q) (N 3) n lo (hi + 1 - lo).toNat).map (pre ++ ·))) 0 145 [bk_c 12 0, bk_i pre.length, bk_i (2 * q), bk_i lo, bk_i hi, bk_i x] [] M1) (s := lo) (n := hi + 1)
        (fun x M1 => ∃ X1, bkFr bkA248 M M1 ∧ (∀ j, j ≠ 45 → M1 12 0 j = M 12 0 j) ∧ (∀ i : Nat, i < pre.length → M1 77 0 i = pre.getD i 0) ∧ bkRst (N 3) R0 S0 M1 X1 ∧ X1 ++ (bkFl (bkOkR N T q) (N 3) n x (hi + 1 - x).toNat).map (pre ++ ·) = X ++ (bkFl (bkOkR N T q) (N 3) n lo (hi + 1 - lo).toNat).map (pre ++ ·)) hlh ?_ ?_ (M := M) ⟨X, bkFr_refl _ _, fun _ _ => rfl, fun i hi => (hp i hi).1, hX, rfl⟩
      · rintro x M1 h0 h1 ⟨X1, F, K12, P, RS, E⟩ ih2
        have g58 : M1 58 0 = N := by rw [F 58 0 (by unfold bkA248; omega), h58]
        have g57 : M1 57 0 = T := by rw [F 57 0 (by unfold bkA248; omega), h57]
        have hat := bkFl_at (bkOkR N T q) (N 3) n (show x ≤ hi by omega)
        have hlen := congrArg List.length E
        rw [hat] at E
        rw [List.length_append, List.length_append, List.length_map, List.length_map, hat, List.length_append] at hlen
        have skip : bkSt (bkOkR N T q) (N 3) n x = [] → bk_wp (bk_C (d + (n + 1) + 4)) P_248 (fun t _ M' => t = 0 ∧ bkFr bkA248 M M' ∧ (∀ j, j ≠ 45 → M' 12 0 j = M 12 0 j) ∧ (∀ i : Nat, i < pre.length → M' 77 0 i = pre.getD i 0) ∧ bkRst (N 3) R0 S0 M' (X ++ (bkFl (bkOkR N T q) (N 3) n lo (hi + 1 - lo).toNat).map (pre ++ ·))) 0 145 [bk_c 12 0, bk_i pre.length, bk_i (2 * q), bk_i lo, bk_i hi, bk_i (x + 1)] [] M1 := fun e => by
          rw [e, List.nil_append] at E
          exact ih2 M1 ⟨X1, F, K12, P, RS, E⟩
        rw [L_248_145, S156 (by rw [g58]; exact n1) (by rw [g58]; exact n2), g58]
        unfold bk_r32
        refine ⟨fun z => absurd z (by omega), fun _ => ⟨rfl, fun z => ⟨by omega, skip ?_⟩, fun z => ?_⟩⟩
        · have hno : ¬ (0 ≤ x ∧ x < N 2) := fun w => by rw [if_pos ⟨w.1, w.2, by omega, by omega⟩] at z; exact absurd z (by decide)
          unfold bkSt bkOkR
          rw [if_neg]
          rw [Bool.and_eq_true, decide_eq_true_eq]
          exact fun w => hno w.1
        · have hin : 0 ≤ x ∧ x < N 2 := Classical.byContradiction fun w => z (if_neg (fun v => w ⟨v.1, v.2.1⟩))
          rw [S249 (M := M1) (by rw [g58]; exact bkMd_w hN) hq (by rw [g57, g58]; exact hT), g57, g58]
          refine ⟨rfl, fun z2 => ⟨by omega, ?_⟩, fun z2 => ⟨by omega, skip ?_⟩⟩
          · have hfit : bkFit N T (pre.length : Int) x q = true := Classical.byContradiction fun w => z2 (if_neg w)
            have hok : bkOkR N T q (N 3 - 1 - n) x = true := by
              unfold bkOkR
              rw [Bool.and_eq_true, decide_eq_true_eq, ← hy]
              exact ⟨hin, hfit⟩
            have hst : bkSt (bkOkR N T q) (N 3) n x = (bkFo (bkOkR N T q) (N 3) n x).map (x :: ·) := if_pos hok
            intro M7 hM7
            have F7 : bkFr bkA248 M M7 := by rw [hM7]; exact bkFr_up F (by unfold bkA248; omega)
            have P7 : ∀ i : Nat, i < (pre ++ [x]).length → M7 77 0 i = (pre ++ [x]).getD i 0 ∧ 0 ≤ (pre ++ [x]).getD i 0 ∧ (pre ++ [x]).getD i 0 < 6 := fun i hi => by
              rw [hM7, bk_up_w]
              rw [List.length_append] at hi
              by_cases e : i = pre.length
              · rw [if_pos (by omega), e]; simp; omega
              · have hi2 : i < pre.length := by simp only [List.length_cons, List.length_nil] at hi; omega
                have eg : (pre ++ [x]).getD i 0 = pre.getD i 0 := by simp [List.getD_eq_getElem?_getD, List.getElem?_append_left hi2]
                rw [if_neg (by omega), eg]
                exact ⟨P i hi2, (hp i hi2).2⟩
            have RS7 : bkRst (N 3) R0 S0 M7 X1 := by
              obtain ⟨a1, a2, a3⟩ := RS
              exact ⟨by rw [hM7, bk_up_f (by decide)]; exact a1, fun e => by rw [hM7, bk_up_f (by decide), bk_up_f (by decide)]; exact a2 e, fun b Y e i hi => by rw [hM7, bk_up_f (by decide), bk_up_f (by decide)]; exact a3 b Y e i hi⟩
            have hcs := bkComp_snoc (bkOkR N T q) (N 2) (N 3) pre x n
            have call := ih d (pre ++ [x]) M7 X1 (by rw [F7 58 0 (by unfold bkA248; omega), h58]) (by rw [F7 57 0 (by unfold bkA248; omega), h57]) (by simp only [List.length_append, List.length_cons, List.length_nil]; omega) P7 RS7 (by rw [hcs]; rw [hst, List.length_map] at hlen; omega)
            rw [hcs, show ((pre ++ [x]).length : Int) = (pre.length : Int) + 1 by simp] at call
            refine ⟨by omega, bk_use (P := fun _ M' => _) call ?_⟩
            rintro r M9 ⟨F9, K9, P9, RS9⟩
            refine ⟨rfl, by omega, ih2 M9 ⟨_, bkFr_trans F7 F9, fun j hj => ?_, fun i hi => ?_, RS9, ?_⟩⟩
            · rw [K9 j hj, hM7, bk_up_f (by decide)]; exact K12 j hj
            · rw [P9 i (by simp only [List.length_append]; omega)]
              simp [List.getD_eq_getElem?_getD, List.getElem?_append_left hi]
            · rw [← E, hst, List.map_append, List.map_map, ← List.append_assoc]
              congr 2
              refine List.map_congr_left fun a _ => ?_
              show (pre ++ [x]) ++ a = pre ++ x :: a
              rw [List.append_assoc]
              rfl
          · have hno : ¬ (bkFit N T (pre.length : Int) x q = true) := fun w => by rw [if_pos w] at z2; exact z2 (by decide)
            unfold bkSt bkOkR
            rw [if_neg]
            rw [Bool.and_eq_true, ← hy]
            exact fun w => hno w.2
      · rintro M1 ⟨X1, F, K12, P, RS, E⟩
        rw [show (hi + 1 - (hi + 1)).toNat = 0 by omega] at E
        have E : X1 ++ [] = _ := E
        rw [List.append_nil] at E
        rw [L_248_145]
        refine ⟨fun _ => ⟨rfl, F, K12, P, ?_⟩, fun z => absurd (by omega) z⟩
        rw [← E]
        exact RS
    rw [E_248, h58]
    unfold bk_r32
    refine ⟨by omega, fun _ => ⟨fun z => ?_, fun z => ?_⟩, fun z => absurd (by omega) z⟩
    · have hpl : 0 < pre.length := by omega
      have hp1 := hp (pre.length - 1) (by omega)
      rw [show ((pre.length - 1 : Nat) : Int) = (pre.length : Int) - 1 by omega] at hp1
      rw [hp1.1]
      have hc : bkComp (bkOkR N T q) (N 2) (N 3) pre (n + 1) = bkFl (bkOkR N T q) (N 3) n (pre.getD (pre.length - 1) 0 - 1) 3 := by
        rw [bkFl_3]
        exact if_neg (fun e => by rw [e] at hpl; simp at hpl)
      refine ⟨by omega, by omega, by omega, fun _ => ⟨by omega, by omega, by omega, loop _ _ (by omega) (by omega) (by omega) ?_⟩, fun w => absurd z w⟩
      rw [hc, show (pre.getD (pre.length - 1) 0 + 1 + 1 - (pre.getD (pre.length - 1) 0 - 1)).toNat = 3 by omega]
    · have hp0 : pre = [] := List.eq_nil_of_length_eq_zero (by omega)
      refine ⟨fun w => absurd w z, fun _ => ⟨by omega, by omega, loop _ _ (by omega) (by omega) (by omega) ?_⟩⟩
      have hc : bkComp (bkOkR N T q) (N 2) (N 3) pre (n + 1) = bkFl (bkOkR N T q) (N 3) n 0 (N 2).toNat := if_pos hp0
      rw [hc, show (N 2 - 1 + 1 - 0).toNat = (N 2).toNat by omega]
/-- the pairs of the tape are as told -/
def bkPrs (N T : Int → Int) : Nat → Bool
  | 0 => true
  | k + 1 => bkPrs N T k && decide (T (2 * k) < N 0 ∧ T (2 * k + 1) ≤ 2)
theorem bkPrs_at {N T : Int → Int} {k : Nat} : ∀ {n : Nat}, bkPrs N T n = true → k < n → T (2 * k) < N 0 ∧ T (2 * k + 1) ≤ 2
  | 0, _, h => absurd h (by omega)
  | n + 1, h, hk => by
    have h : (bkPrs N T n && decide (T (2 * n) < N 0 ∧ T (2 * n + 1) ≤ 2)) = true := h
    rw [Bool.and_eq_true, decide_eq_true_eq] at h
    by_cases e : k = n
    · rw [e]; exact h.2
    · exact bkPrs_at h.1 (by omega)
theorem bkPrs_no {N T : Int → Int} {k : Nat} (h : ¬ (T (2 * k) < N 0 ∧ T (2 * k + 1) ≤ 2)) : ∀ {n : Nat}, k < n → bkPrs N T n = false
  | 0, hk => absurd hk (by omega)
  | n + 1, hk => by
    show (bkPrs N T n && decide (T (2 * n) < N 0 ∧ T (2 * n + 1) ≤ 2)) = false
    by_cases e : k = n
    · rw [← e, decide_eq_false h, Bool.and_false]
    · rw [bkPrs_no h (by omega), Bool.false_and]
/-- all beds that the tape leaves -/
def bkAll (N T : Int → Int) (c : Int) : List (List Int) := bkFl (bkOkR N T (c / 2).toNat) (N 3) (N 3 - 1).toNat 0 (N 2).toNat
def bkRanOk (N T : Int → Int) (c : Int) : Prop := c % 2 = 0 ∧ 2 ≤ c ∧ c ≤ 20 ∧ bkPrs N T (c / 2).toNat = true
theorem bkRanOk_dec (N T : Int → Int) (c : Int) : bkRanOk N T c ∨ ¬ bkRanOk N T c := Classical.em _
/-- what ran() answers, and keeps: how many rows, the first, the sure ones -/
def bkRanR (N T : Int → Int) (c r : Int) : Prop := (bkRanOk N T c → r = (bkAll N T c).length) ∧ (¬ bkRanOk N T c → r = -1)
def bkRanK (N T : Int → Int) (c : Int) (n : Int) (A B : Int → Int) (n' : Int) (A' B' : Int → Int) : Prop :=
  (bkRanOk N T c → ∀ b Y, bkAll N T c = b :: Y → n' = N 3 ∧ ∀ i : Nat, (i : Int) < N 3 → A' i = b.getD i 0 ∧ B' i = bkSu (bkAll N T c) i) ∧ ((¬ bkRanOk N T c ∨ bkAll N T c = []) → n' = n ∧ A' = A ∧ B' = B)
