/-! A DEED, on both sides. -/
theorem LG_107_3 {d : Nat} {Q : bk_Q} (x1 : Int) (x3 : Int) (v4 : bk_V) (M : bk_M) : bk_wp (bk_C d) P_107 Q 0 3 [bk_c 2 0, bk_l x1, bk_x, bk_i x3, v4] [] M ↔ ((x3 < (0 : Int) → Q 0 0 M) ∧ (¬ (x3 < (0 : Int)) → bk_r32 ((5 : Int) * x3) ∧ ((0 : Int) ≤ (5 : Int) * x3 ∧ (5 : Int) * x3 < 64) ∧ bk_r32 (bk_andL (x1 / 2 ^ ((5 : Int) * x3).toNat) (31 : Int)) ∧ ((bk_andL (x1 / 2 ^ ((5 : Int) * x3).toNat) (31 : Int) ≤ (0 : Int) → bk_r32 (x3 + (-1 : Int)) ∧ bk_wp (bk_C d) P_107 Q 0 3 [bk_c 2 0, bk_l x1, bk_x, bk_i (x3 + (-1 : Int)), bk_i (bk_andL (x1 / 2 ^ ((5 : Int) * x3).toNat) (31 : Int))] [] M) ∧ (¬ (bk_andL (x1 / 2 ^ ((5 : Int) * x3).toNat) (31 : Int) ≤ (0 : Int)) → bk_r32 ((97 : Int) + (bk_andL (x1 / 2 ^ ((5 : Int) * x3).toNat) (31 : Int))) ∧ bk_r32 (((97 : Int) + (bk_andL (x1 / 2 ^ ((5 : Int) * x3).toNat) (31 : Int))) - (1 : Int)) ∧ bk_C d 0 108 [bk_c 2 0, bk_i (((97 : Int) + (bk_andL (x1 / 2 ^ ((5 : Int) * x3).toNat) (31 : Int))) - (1 : Int))] M (fun t3 r1 M2 => t3 = 0 ∧ bk_r32 (x3 + (-1 : Int)) ∧ bk_wp (bk_C d) P_107 Q 0 3 [bk_c 2 0, bk_l x1, bk_x, bk_i (x3 + (-1 : Int)), bk_i (bk_andL (x1 / 2 ^ ((5 : Int) * x3).toNat) (31 : Int))] [] M2))))) := bk_iff [3] 40
/-- a name's letters -/
def bkSpl : Nat → Int → List Int
  | 0, _ => []
  | n + 1, k => if k = 0 then [] else bkSpl n (k / 32) ++ [96 + k % 32]
theorem bkSpl_s {n : Nat} {k : Int} : bkSpl (n + 1) k = if k = 0 then [] else bkSpl n (k / 32) ++ [96 + k % 32] := rfl
theorem bkSpl_l : ∀ (n : Nat) (k : Int), (bkSpl n k).length ≤ n
  | 0, _ => Nat.le_refl _
  | n + 1, k => by
    have := bkSpl_l n (k / 32)
    rw [bkSpl_s]
    split
    · exact Nat.zero_le _
    · rw [List.length_append]; exact Nat.succ_le_succ this
theorem bkLt_s {n : Nat} {k : Int} : bkLt (n + 1) k = decide (1 ≤ k % 32 ∧ k % 32 ≤ 26 ∧ 0 ≤ k ∧ (k / 32 = 0 ∨ bkLt n (k / 32) = true)) := rfl
/-- a text so far -/
def bkWr (g : Int → Int) (A : List Int) : Prop := ∀ q : Nat, q < A.length → g q = A.getD q 0
theorem bkWr_app {g g' : Int → Int} {A : List Int} {x : Int} (h : bkWr g A) (h1 : g' A.length = x) (h2 : ∀ q, 0 ≤ q → q < A.length → g' q = g q) : bkWr g' (A ++ [x]) := by
  intro q hq
  rw [List.length_append, List.length_singleton] at hq
  by_cases z : q = A.length
  · subst z
    rw [h1]
    simp [List.getD_eq_getElem?_getD]
  · have hq : q < A.length := by omega
    rw [h2 q (by omega) (by omega), h q hq]
    simp [List.getD_eq_getElem?_getD, List.getElem?_append_left hq]
def bkTxC (M : bk_M) (A : List Int) : Prop := M 2 0 1 = A.length ∧ bkWr (M 26 0) A
def bkTxR (M : bk_M) (A : List Int) : Prop := M 12 0 49 = A.length ∧ bkWr (M 82 0) A
def bkDc (M M' : bk_M) : Prop := bkFr (fun k a => (k = 2 ∨ k = 26) ∧ a = 0) M M'
def bkDr (M M' : bk_M) : Prop := bkFr (fun k a => (k = 12 ∨ k = 82) ∧ a = 0) M M' ∧ ∀ j, j ≠ 49 → M' 12 0 j = M 12 0 j
theorem bkDr_trans {M M' M'' : bk_M} (h : bkDr M M') (h2 : bkDr M' M'') : bkDr M M'' := ⟨bkFr_trans h.1 h2.1, fun j q => (h2.2 j q).trans (h.2 j q)⟩
theorem S108c {d : Nat} {M : bk_M} {A : List Int} {x : Int} (h : bkTxC M A) (hl : A.length < 32) : bk_C (d + 1) 0 108 [bk_c 2 0, bk_i x] M (fun t _ M' => t = 0 ∧ bkTxC M' (A ++ [x]) ∧ bkDc M M') := by
  rw [E_108, h.1]
  refine ⟨fun z => absurd z (by omega), fun _ => ⟨by omega, fun M1 e1 => ?_⟩⟩
  have e : M1 2 0 1 = A.length := by rw [e1, bk_up_k (by decide)]; exact h.1
  rw [e]
  refine ⟨by unfold bk_r32; omega, fun M2 e2 => ⟨rfl, ⟨?_, bkWr_app h.2 ?_ fun q q0 q1 => ?_⟩, ?_⟩⟩
  · rw [e2, bk_up_e, List.length_append, List.length_singleton]; omega
  · rw [e2, bk_up_k (by decide), e1, bk_up_e]
  · rw [e2, bk_up_k (by decide), e1, bk_up_s (by omega)]
  · rw [e2, e1]; exact bkFr_up (bkFr_up (bkFr_refl _ _) ⟨.inr rfl, rfl⟩) ⟨.inl rfl, rfl⟩
theorem S255c {d : Nat} {M : bk_M} {A : List Int} {x : Int} (h : bkTxR M A) (hl : A.length < 64) : bk_C (d + 1) 0 255 [bk_c 12 0, bk_i x] M (fun t _ M' => t = 0 ∧ bkTxR M' (A ++ [x]) ∧ bkDr M M') := by
  rw [E_255, h.1]
  refine ⟨by omega, fun M1 e1 => ?_⟩
  have e : M1 12 0 49 = A.length := by rw [e1, bk_up_k (by decide)]; exact h.1
  rw [e]
  refine ⟨by unfold bk_r32; omega, fun M2 e2 => ⟨rfl, ⟨?_, bkWr_app h.2 ?_ fun q q0 q1 => ?_⟩, ?_, fun j hj => ?_⟩⟩
  · rw [e2, bk_up_e, List.length_append, List.length_singleton]; omega
  · rw [e2, bk_up_k (by decide), e1, bk_up_e]
  · rw [e2, bk_up_k (by decide), e1, bk_up_s (by omega)]
  · rw [e2, e1]; exact bkFr_up (bkFr_up (bkFr_refl _ _) ⟨.inr rfl, rfl⟩) ⟨.inl rfl, rfl⟩
  · rw [e2, bk_up_s hj, e1, bk_up_k (by decide)]
theorem S109c {d i : Nat} {M : bk_M} {A : List Int} (h : bkTxC M A) (hl : A.length + (bk_txt i).length ≤ 32) : bk_C (d + 2) 0 109 [bk_c 2 0, bk_c 14 i] M (fun t _ M' => t = 0 ∧ bkTxC M' (A ++ bk_txt i) ∧ bkDc M M') := by
  rw [E_109]
  have key : ∀ (suf pre : List Int) (M' : bk_M), bk_txt i = pre ++ suf → bkTxC M' (A ++ pre) → bkDc M M' → bk_wp (bk_C (d + 1)) P_109 (fun t _ M' => t = 0 ∧ bkTxC M' (A ++ bk_txt i) ∧ bkDc M M') 0 2 [bk_c 2 0, bk_c 14 i, bk_i pre.length] [] M' := by
    intro suf
    induction suf with
    | nil =>
      intro pre M' e hT F
      rw [List.append_nil] at e
      rw [L_109_2]
      refine ⟨fun _ => ⟨rfl, by rw [e]; exact hT, F⟩, fun z => absurd (show Int.ofNat (bk_txt i).length ≤ (pre.length : Int) by rw [e]; exact Int.le_refl _) z⟩
    | cons c suf ih =>
      intro pre M' e hT F
      have el : (bk_txt i).length = pre.length + (suf.length + 1) := by rw [e, List.length_append, List.length_cons]
      have eg : (bk_txt i).getD ((pre.length : Nat) : Int).toNat 0 = c := by
        rw [Int.toNat_natCast, e]
        simp [List.getD_eq_getElem?_getD]
      rw [L_109_2, eg]
      refine ⟨fun z => absurd (show ((bk_txt i).length : Int) ≤ pre.length from z) (by omega), fun _ => ⟨⟨by omega, show (pre.length : Int) < (bk_txt i).length by omega⟩, bk_use (S108c hT (by rw [List.length_append]; omega)) (fun r M2 hM2 => ⟨rfl, by unfold bk_r32; omega, ?_⟩)⟩⟩
      have := ih (pre ++ [c]) M2 (by rw [e]; simp) (by rw [← List.append_assoc]; exact hM2.1) (bkFr_trans F hM2.2)
      rw [List.length_append, List.length_singleton, show ((pre.length + 1 : Nat) : Int) = pre.length + 1 by omega] at this
      exact this
  exact key (bk_txt i) [] M rfl (by rw [List.append_nil]; exact h) (bkFr_refl _ _)
theorem bkAndL_31 {a : Nat} (h : a < 2 ^ 62) : bk_andL (a : Int) 31 = ((a % 32 : Nat) : Int) := by
  unfold bk_andL
  have h1 : (BitVec.ofInt 64 (31 : Int)).toNat = 2 ^ 5 - 1 := by decide
  have h2 : (BitVec.ofInt 64 (a : Int) &&& BitVec.ofInt 64 (31 : Int)).toNat = a % 32 := by
    rw [BitVec.toNat_and, h1, Nat.and_two_pow_sub_one_eq_mod, BitVec.ofInt_natCast, BitVec.toNat_ofNat, Nat.mod_eq_of_lt (show a < 2 ^ 64 by omega)]
  rw [BitVec.toInt_eq_toNat_of_lt (by rw [h2]; omega), h2]
/-- the name's first letters: what stands above place j -/
theorem bkLt_b : ∀ {n : Nat} {k : Int}, bkLt n k = true → 0 < k ∧ k < 32 ^ n
  | 0, k, h => by cases h
  | n + 1, k, h => by
    rw [bkLt_s, decide_eq_true_eq] at h
    rcases h.2.2.2 with z | z
    · have : (1 : Int) ≤ 32 ^ n := Int.pow_pos (by decide)
      rw [Int.pow_succ]
      omega
    · have := bkLt_b z
      rw [Int.pow_succ]
      omega
theorem S107c {d : Nat} {M : bk_M} {A : List Int} {k : Int} (hk : bkLt 7 k = true) (h : bkTxC M A) (hl : A.length + 7 ≤ 32) : bk_C (d + 2) 0 107 [bk_c 2 0, bk_l k] M (fun t _ M' => t = 0 ∧ bkTxC M' (A ++ bkSpl 7 k) ∧ bkDc M M') := by
  rw [E_107]
  obtain ⟨k0, k1⟩ := bkLt_b hk
  rw [show (32 : Int) ^ 7 = 34359738368 by decide] at k1
  -- n: how many places are left; z: the name above them
  have key : ∀ (n m : Nat) (v4 : bk_V) (M' : bk_M), n + m = 7 → (bkLt m (k / 2 ^ (5 * n)) = true ∨ k / 2 ^ (5 * n) = 0) → bkTxC M' (A ++ bkSpl m (k / 2 ^ (5 * n))) → bkDc M M' → (∀ j : Nat, j ≤ n → bkLt (7 - j) (k / 2 ^ (5 * j)) = true ∨ k / 2 ^ (5 * j) = 0) → bk_wp (bk_C (d + 1)) P_107 (fun t _ M' => t = 0 ∧ bkTxC M' (A ++ bkSpl 7 k) ∧ bkDc M M') 0 3 [bk_c 2 0, bk_l k, bk_x, bk_i ((n : Int) - 1), v4] [] M' := by
    intro n
    induction n with
    | zero =>
      intro m v4 M' hn hz hT F hj
      rw [LG_107_3]
      refine ⟨fun _ => ⟨rfl, ?_, F⟩, fun z => absurd (by omega) z⟩
      rw [show 5 * 0 = 0 from rfl, Int.pow_zero, Int.ediv_one, show m = 7 by omega] at hT
      exact hT
    | succ n ih =>
      intro m v4 M' hn hz hT F hj
      have en : ((n + 1 : Nat) : Int) - 1 = n := by omega
      have z2 := hj n (by omega)
      rw [show 7 - n = m + 1 by omega] at z2
      have ed : k / 2 ^ (5 * (n + 1)) = k / 2 ^ (5 * n) / 32 := by
        rw [Int.ediv_ediv_of_nonneg (by exact Int.le_of_lt (Int.pow_pos (by decide)))]
        congr 1
        rw [show 5 * (n + 1) = 5 * n + 5 by omega, Int.pow_add]
        rfl
      rw [ed] at hT
      have w0 : 0 ≤ k / 2 ^ (5 * n) := Int.ediv_nonneg (by omega) (Int.le_of_lt (Int.pow_pos (by decide)))
      have w1 : k / 2 ^ (5 * n) ≤ k := Int.ediv_le_self _ (by omega)
      have sh : ((5 : Int) * n).toNat = 5 * n := by omega
      rw [LG_107_3, en, sh]
      generalize hw : k / 2 ^ (5 * n) = w at *
      have ea : bk_andL w 31 = w % 32 := by
        have := bkAndL_31 (a := w.toNat) (by omega)
        rw [show ((w.toNat : Nat) : Int) = w by omega] at this
        rw [this]
        omega
      rw [ea]
      have hlen := bkSpl_l m (w / 32)
      refine ⟨fun z => absurd z (by omega), fun _ => ⟨by unfold bk_r32; omega, by omega, by unfold bk_r32; omega, fun z => ⟨by unfold bk_r32; omega, ?_⟩, fun z => ⟨by unfold bk_r32; omega, by unfold bk_r32; omega, ?_⟩⟩⟩
      · have w00 : w = 0 := by
          rcases z2 with z2 | z2
          · rw [bkLt_s, decide_eq_true_eq] at z2; omega
          · exact z2
        have := ih (m + 1) (bk_i (w % 32)) M' (by omega) (.inr w00) (by
          rw [bkSpl_s, if_pos w00]
          rw [w00, show (0 : Int) / 32 = 0 by decide] at hT
          have e : bkSpl m 0 = [] := by cases m with
            | zero => rfl
            | succ m => rw [bkSpl_s, if_pos rfl]
          rw [e] at hT
          exact hT) F (fun j hj' => hj j (by omega))
        rw [show (n : Int) + -1 = n - 1 by omega]
        exact this
      · refine bk_use (S108c hT (by rw [List.length_append]; omega)) (fun r M2 hM2 => ⟨rfl, by unfold bk_r32; omega, ?_⟩)
        have := ih (m + 1) (bk_i (w % 32)) M2 (by omega) z2 (by
          rw [bkSpl_s, if_neg (by omega), ← List.append_assoc]
          rw [show 97 + w % 32 - 1 = 96 + w % 32 by omega] at hM2
          exact hM2.1) (bkFr_trans F hM2.2) (fun j hj' => hj j (by omega))
        rw [show (n : Int) + -1 = n - 1 by omega]
        exact this
  have all : ∀ j : Nat, j ≤ 7 → bkLt (7 - j) (k / 2 ^ (5 * j)) = true ∨ k / 2 ^ (5 * j) = 0 := by
    intro j
    induction j with
    | zero => intro _; left; rw [show 5 * 0 = 0 from rfl, Int.pow_zero, Int.ediv_one]; exact hk
    | succ j ih =>
      intro hj
      have ih := ih (by omega)
      have ed : k / 2 ^ (5 * (j + 1)) = k / 2 ^ (5 * j) / 32 := by
        rw [Int.ediv_ediv_of_nonneg (by exact Int.le_of_lt (Int.pow_pos (by decide)))]
        congr 1
        rw [show 5 * (j + 1) = 5 * j + 5 by omega, Int.pow_add]
        rfl
      rw [ed]
      rcases ih with ih | ih
      · rw [show 7 - j = (7 - (j + 1)) + 1 by omega, bkLt_s, decide_eq_true_eq] at ih
        rcases ih.2.2.2 with z | z
        · exact .inr z
        · exact .inl z
      · rw [ih]; exact .inr rfl
  have e0 : k / 2 ^ (5 * 7) = 0 := by
    rw [show (2 : Int) ^ (5 * 7) = 34359738368 by decide]
    omega
  have := key 7 0 bk_x M rfl (.inr e0) (by unfold bkSpl; rw [List.append_nil]; exact h) (bkFr_refl _ _) all
  exact this
theorem bkCv_s {n : Nat} {k : Int} : bkCv (n + 1) k = if k = 0 then 0 else 27 * bkCv n (k / 32) + k % 32 := rfl
theorem bkCv_p : ∀ {n : Nat} {k : Int}, bkLt n k = true → 0 < bkCv n k ∧ bkCv n k < 27 ^ n
  | 0, k, h => by cases h
  | n + 1, k, h => by
    have kp := (bkLt_b h).1
    rw [bkLt_s, decide_eq_true_eq] at h
    rw [bkCv_s, if_neg (by omega)]
    have : (1 : Int) ≤ 27 ^ n := Int.pow_pos (by decide)
    rcases h.2.2.2 with z | z
    · have e : bkCv n (k / 32) = 0 := by rw [z]; cases n <;> rfl
      rw [e, Int.pow_succ]
      omega
    · have := bkCv_p z
      rw [Int.pow_succ]
      omega
theorem S254c : ∀ {n : Nat} {d : Nat} {M : bk_M} {A : List Int} {k : Int}, n ≤ 7 → bkLt n k = true → bkTxR M A → A.length + n ≤ 64 → bk_C (d + n + 1) 0 254 [bk_c 12 0, bk_l (bkCv n k)] M (fun t _ M' => t = 0 ∧ bkTxR M' (A ++ bkSpl n k) ∧ bkDr M M')
  | 0, d, M, A, k, _, h, _, _ => by cases h
  | n + 1, d, M, A, k, hn, h, hT, hl => by
    have kp := bkLt_b h
    have cp := bkCv_p h
    have h' := h
    rw [bkLt_s, decide_eq_true_eq] at h'
    have c27 : (27 : Int) ^ (n + 1) ≤ 27 ^ 7 := by
      have := Nat.pow_le_pow_right (show 0 < 27 by omega) hn
      exact_mod_cast this
    rw [show (27 : Int) ^ 7 = 10460353203 by decide] at c27
    have ev : bkCv (n + 1) k = 27 * bkCv n (k / 32) + k % 32 := by rw [bkCv_s, if_neg (by omega)]
    have es : bkSpl (n + 1) k = bkSpl n (k / 32) ++ [96 + k % 32] := by rw [bkSpl_s, if_neg (by omega)]
    show bk_C (d + n + 1 + 1) 0 254 _ _ _
    rw [E_254, es]
    have em : bkCv (n + 1) k % 27 = k % 32 := by rw [ev]; omega
    have ed : bkCv (n + 1) k / 27 = bkCv n (k / 32) := by rw [ev]; omega
    have lc : bk_lcmp (bkCv (n + 1) k) 27 < 0 ↔ bkCv (n + 1) k < 27 := by unfold bk_lcmp; (repeat' split) <;> omega
    rw [lc, em, ed]
    refine ⟨fun z => ⟨by omega, by unfold bk_r32; omega, by unfold bk_r32; omega, ?_⟩, fun z => ⟨by omega, ?_⟩⟩
    · have q0 : k / 32 = 0 := by
        rcases h'.2.2.2 with q | q
        · exact q
        · have := bkCv_p q; omega
      have e0 : bkSpl n (k / 32) = [] := by rw [q0]; cases n with
        | zero => rfl
        | succ n => rw [bkSpl_s, if_pos rfl]
      rw [e0]
      exact bk_use (S255c hT (by omega)) (fun r M2 hM2 => ⟨rfl, rfl, hM2⟩)
    · have q : bkLt n (k / 32) = true := by
        rcases h'.2.2.2 with q | q
        · exfalso
          have e0 : bkCv n (k / 32) = 0 := by rw [q]; cases n <;> rfl
          omega
        · exact q
      refine bk_use (S254c (d := d) (by omega) q hT (by omega)) (fun r M2 hM2 => ⟨rfl, by omega, by unfold bk_r32; omega, by unfold bk_r32; omega, ?_⟩)
      have := bkSpl_l n (k / 32)
      refine bk_use (S255c hM2.1 (by rw [List.length_append]; omega)) (fun r M3 hM3 => ⟨rfl, rfl, ?_, bkDr_trans hM2.2 hM3.2⟩)
      rw [← List.append_assoc]
      exact hM3.1
theorem S256c {d : Nat} {M : bk_M} {A : List Int} {k : Int} (hk : bkLt 7 k = true) (hT : bkTxR M A) (hl : A.length + 8 ≤ 64) : bk_C (d + 9) 0 256 [bk_c 12 0, bk_l (bkCv 7 k)] M (fun t _ M' => t = 0 ∧ bkTxR M' (A ++ ([32] ++ bkSpl 7 k)) ∧ bkDr M M') := by
  rw [E_256]
  refine bk_use (S255c hT (by omega)) (fun r M2 hM2 => ⟨rfl, ?_⟩)
  refine bk_use (S254c (d := d) (Nat.le_refl _) hk hM2.1 (by rw [List.length_append, List.length_singleton]; omega)) (fun r M3 hM3 => ⟨rfl, rfl, ?_, bkDr_trans hM2.2 hM3.2⟩)
  rw [← List.append_assoc]
  exact hM3.1
/-- the DEED of a FIELD -/
def bkDeed (N : Int → Int) (nm f : Int) : List Int := bkSpl 7 nm ++ bk_txt (bkWho N f).toNat ++ [32, 97, 116, 32, 48 + N (42 + f), 32, 48 + N (52 + f)]
theorem bkDeed_l (N : Int → Int) (nm f : Int) : (bkDeed N nm f).length ≤ 23 := by
  have h1 := bkSpl_l 7 nm
  have h2 : ∀ n, (bk_txt n).length ≤ 9 := fun n => by
    unfold bk_txt
    split <;> decide
  have h2 := h2 (bkWho N f).toNat
  unfold bkDeed
  rw [List.length_append, List.length_append]
  simp only [List.length_cons, List.length_nil]
  omega
theorem S105c {d p : Nat} {M : bk_M} {N : Int → Int} {f : Int} (hR : bkRel M p N) (hp : (M 11 0 1).toNat = p) (hk : ∀ g, 0 ≤ g → g < N 0 → bkLt 7 (M 33 p g) = true) :
    bk_C (d + 4) 0 105 [bk_c 11 0, bk_i f] M (fun t r M' => t = 0 ∧ (¬ (0 ≤ f ∧ f < N 0) → r = -1 ∧ M' = M) ∧ (0 ≤ f ∧ f < N 0 → r = (bkDeed N (M 33 p f) f).length ∧ bkTxC M' (bkDeed N (M 33 p f) f) ∧ bkDc M M')) := by
  have hN := bkRel_md hR
  obtain ⟨n1, n2, n3, n4, n5, n6, n7, n8, n9, n10, -⟩ := id hN
  rw [E_105, S77 hp, hR.2.1.1]
  by_cases hf : 0 ≤ f ∧ f < N 0
  · rw [if_pos hf, hp]
    refine ⟨rfl, fun _ => ?_, fun z => absurd (show (1 : Int) ≠ 0 by decide) z⟩
    obtain ⟨b0, c0, c1⟩ := bkBank_rel hR hf.1 hf.2
    have q7 := hR.2.1.2.2.2.2.2.2 f hf.1 (by rw [hR.2.1.1]; exact hf.2)
    have q10 := n10 f hf.1 hf.2
    have hb := bkWho_b N f
    rw [E_106]
    intro M1 e1
    have f1 : bkDc M M1 := by unfold bkDc; rw [e1]; exact bkFr_up (bkFr_refl _ _) ⟨.inl rfl, rfl⟩
    have e30 : M1 30 p f = M 30 p f := by rw [f1 30 p (by omega)]
    have T1 : bkTxC M1 [] := ⟨by rw [e1, bk_up_e]; rfl, fun q hq => absurd hq (by simp)⟩
    have dv : M 30 p f / 6 = N (52 + f) := by rw [q7.1]; omega
    have md : M 30 p f % 6 = N (42 + f) := by rw [q7.1]; omega
    rw [e30, dv, md]
    have s7 := bkSpl_l 7 (M 33 p f)
    refine ⟨by omega, (S41 (.inl rfl) c0 c1).2 ⟨rfl, by omega, ?_⟩⟩
    rw [f1 29 p (by omega), b0, show M1 33 p f = M 33 p f by rw [f1 33 p (by omega)]]
    refine bk_use (S107c (hk f hf.1 hf.2) T1 (by decide)) (fun r M6 hM6 => ⟨rfl, ?_⟩)
    obtain ⟨T6, F6⟩ := hM6
    rw [List.nil_append] at T6
    have F6 := bkFr_trans f1 F6
    -- from the text of whose it is on
    have go : ∀ (i : Nat), i ≤ 2 → bkWho N f = i → bk_C (d + 2) 0 109 [bk_c 2 0, bk_c 14 i] M6 (fun t10 r8 M9 => t10 = 0 ∧ bk_C (d + 2) 0 109 [bk_c 2 0, bk_c 14 3] M9 (fun t13 r11 M12 => t13 = 0 ∧ ((0 : Int) ≤ M 30 p f ∧ (0 : Int) < (6 : Int)) ∧ bk_r32 ((48 : Int) + N (42 + f)) ∧ bk_C (d + 2) 0 108 [bk_c 2 0, bk_i ((48 : Int) + N (42 + f))] M12 (fun t16 r14 M15 => t16 = 0 ∧ bk_C (d + 2) 0 108 [bk_c 2 0, bk_i (32 : Int)] M15 (fun t19 r17 M18 => t19 = 0 ∧ ((0 : Int) ≤ M 30 p f ∧ (0 : Int) < (6 : Int)) ∧ bk_r32 ((48 : Int) + N (52 + f)) ∧ bk_C (d + 2) 0 108 [bk_c 2 0, bk_i ((48 : Int) + N (52 + f))] M18 (fun t22 r20 M21 => t22 = 0 ∧ (0 : Nat) = 0 ∧ ((0 : Nat) = 0 ∧ (¬ (0 ≤ f ∧ f < N 0) → M21 2 0 1 = -1 ∧ M21 = M) ∧ (0 ≤ f ∧ f < N 0 → M21 2 0 1 = (bkDeed N (M 33 p f) f).length ∧ bkTxC M21 (bkDeed N (M 33 p f) f) ∧ bkDc M M21))))))) := by
      intro i hi hw
      have hl : (bk_txt i).length ≤ 9 := by
        unfold bk_txt
        split <;> decide
      have hl3 : (bk_txt 3).length = 4 := by decide
      refine bk_use (S109c T6 (by omega)) (fun r M9 hM9 => ⟨rfl, ?_⟩)
      have l9 : (bkSpl 7 (M 33 p f) ++ bk_txt i).length ≤ 16 := by rw [List.length_append]; omega
      refine bk_use (S109c hM9.1 (by omega)) (fun r M12 hM12 => ⟨rfl, by omega, by unfold bk_r32; omega, ?_⟩)
      have l12 : (bkSpl 7 (M 33 p f) ++ bk_txt i ++ bk_txt 3).length ≤ 20 := by rw [List.length_append]; omega
      refine bk_use (S108c hM12.1 (by omega)) (fun r M15 hM15 => ⟨rfl, ?_⟩)
      refine bk_use (S108c hM15.1 (by rw [List.length_append, List.length_singleton]; omega)) (fun r M18 hM18 => ⟨rfl, by omega, by unfold bk_r32; omega, ?_⟩)
      refine bk_use (S108c hM18.1 (by rw [List.length_append, List.length_append, List.length_singleton, List.length_singleton]; omega)) (fun r M21 hM21 => ⟨rfl, rfl, rfl, fun z => absurd hf z, fun _ => ?_⟩)
      have e : bkSpl 7 (M 33 p f) ++ bk_txt i ++ bk_txt 3 ++ [48 + N (42 + f)] ++ [32] ++ [48 + N (52 + f)] = bkDeed N (M 33 p f) f := by
        unfold bkDeed
        rw [hw, Int.toNat_natCast, show bk_txt 3 = [32, 97, 116, 32] from rfl]
        simp
      rw [e] at hM21
      exact ⟨hM21.1.1, hM21.1, bkFr_trans F6 (bkFr_trans hM9.2 (bkFr_trans hM12.2 (bkFr_trans hM15.2 (bkFr_trans hM18.2 hM21.2))))⟩
    refine ⟨fun z0 => ⟨fun z1 => go 2 (by omega) (by omega), fun z1 => go 1 (by omega) (by omega)⟩, fun z0 => go 0 (by omega) (by omega)⟩
  · rw [if_neg hf]
    exact ⟨rfl, fun z => absurd rfl z, fun _ => ⟨rfl, fun _ => ⟨rfl, rfl⟩, fun q => absurd q hf⟩⟩
