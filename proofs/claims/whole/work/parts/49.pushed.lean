/-! pushed: the reference. -/
def bkOk (acc : List Int) (w : Int) : Bool := match acc with
  | [] => true
  | v :: _ => decide (w % 36 ≠ v % 36)
def bkPq : List Int → Nat → List Int → List (List Int)
  | _, 0, acc => [acc]
  | [], _ + 1, _ => []
  | w :: A, m + 1, acc => (if bkOk acc w = true then bkPq A m (acc ++ [w]) else []) ++ bkPq A (m + 1) acc
theorem bkPq_0 (A acc : List Int) : bkPq A 0 acc = [acc] := by cases A <;> rfl
theorem bkPq_1 (acc : List Int) : ∀ A : List Int, bkPq A 1 acc = (A.filter fun v => bkOk acc v).map fun v => acc ++ [v]
  | [] => rfl
  | w :: A => by
    have ih := bkPq_1 acc A
    show (if bkOk acc w = true then bkPq A 0 (acc ++ [w]) else []) ++ bkPq A 1 acc = _
    rw [ih, bkPq_0]
    by_cases h : bkOk acc w = true
    · rw [if_pos h, List.filter_cons_of_pos h]; rfl
    · rw [if_neg h, List.filter_cons_of_neg h]; rfl
theorem bkPq_1n (A : List Int) : bkPq A 1 [] = A.map fun w => [w] := by
  rw [bkPq_1]
  have : (A.filter fun v => bkOk [] v) = A := List.filter_eq_self.2 fun _ _ => rfl
  rw [this]
  rfl
theorem bkPq_2 : ∀ A : List Int, bkPq A 2 [] = bkP2 A
  | [] => rfl
  | w :: A => by
    have ih := bkPq_2 A
    show (if bkOk [] w = true then bkPq A 1 [w] else []) ++ bkPq A 2 [] = _
    rw [ih, if_pos (show bkOk [] w = true from rfl), bkPq_1, bkP2_cons]
    rfl
def bkPuR (M : bk_M) (st : Int × List Int) : Prop := M 12 0 40 = st.1 ∧ st.2.length ≤ 2 ∧ (st.1 = -1 ∨ (M 12 0 39 = st.2.length ∧ ∀ i : Nat, i < st.2.length → M 76 0 i = st.2.getD i 0))
def bkA241 (k a : Nat) : Prop := (k = 12 ∨ k = 58 ∨ k = 70 ∨ k = 71 ∨ k = 75 ∨ k = 76) ∧ a = 0
theorem bkMay_ok {N : Int → Int} {acc : List Int} {s w : Int} (hl : acc.length ≤ 1) (h : bkOk acc w = true) : bkMay (bkRL N acc) s w = bkMay N s w := by
  cases acc with
  | nil => rw [bkRL_nil]
  | cons v acc =>
    have : acc = [] := by simpa using hl
    subst this
    have h : decide (w % 36 ≠ v % 36) = true := h
    have e := bkMay_other (N := N) (L := []) (n := v) (m := w) (s := s) (by simpa using h)
    rw [bkRL_nil] at e
    exact e
theorem L241_46 {d : Nat} {Q : bk_Q} {s k v fr : Int} {acc : List Int} {M : bk_M} (hl : acc.length ≤ 2) (hT : ∀ i : Nat, i < acc.length → M 75 0 i = acc.getD i 0)
    (hQ : ∀ M', bkFr (fun k a => k = 76 ∧ a = 0) M M' → (∀ i : Nat, i < acc.length → M' 76 0 i = acc.getD i 0) → Q 0 0 M') :
    bk_wp (bk_C d) P_241 Q 0 46 [bk_c 12 0, bk_i k, bk_i acc.length, bk_i fr, bk_i s, bk_i v, bk_i 0] [] M := by
  refine bk_loopS (W := fun j M1 => bk_wp (bk_C d) P_241 Q 0 46 [bk_c 12 0, bk_i k, bk_i acc.length, bk_i fr, bk_i s, bk_i v, bk_i j] [] M1) (s := 0) (n := (acc.length : Int))
    (fun j M1 => bkFr (fun k a => k = 76 ∧ a = 0) M M1 ∧ ∀ i : Nat, (i : Int) < j → M1 76 0 i = acc.getD i 0) (by omega) ?_ ?_ (M := M) ⟨bkFr_refl _ _, fun i hi => absurd hi (by omega)⟩
  · rintro j M1 h0 h1 ⟨F, U⟩ ih
    have hk := hT j.toNat (by omega)
    rw [Int.toNat_of_nonneg h0] at hk
    have e75 : M1 75 0 = M 75 0 := F 75 0 (by omega)
    rw [L_241_46, e75, hk]
    unfold bk_r32
    refine ⟨fun z => absurd z (by omega), fun _ => ⟨by omega, by omega, ?_⟩⟩
    intro M2 hM2
    refine ⟨by omega, ih M2 ⟨by rw [hM2]; exact bkFr_up F ⟨rfl, rfl⟩, fun i hi => ?_⟩⟩
    rw [hM2, bk_up_w]
    by_cases e : (i : Int) = j
    · rw [if_pos e, show i = j.toNat by omega]
    · rw [if_neg e]; exact U i (by omega)
  · rintro M1 ⟨F, U⟩
    rw [L_241_46]
    exact ⟨fun _ => hQ M1 F fun i hi => U i (by omega), fun z => absurd (Int.le_refl _) z⟩
theorem LG_241_76 {d : Nat} {Q : bk_Q} (x1 : Int) (x2 : Int) (x3 : Int) (x4 : Int) (x5 : Int) (v6 : bk_V) (M : bk_M) : bk_wp (bk_C d) P_241 Q 0 76 [bk_c 12 0, bk_i x1, bk_i x2, bk_i x3, bk_i x4, bk_i x5, v6] [] M ↔ (((72 : Int) ≤ x5 → Q 0 0 M) ∧ (¬ ((72 : Int) ≤ x5) → ((x1 ≤ (0 : Int) → bk_C d 0 237 [bk_c 12 0, bk_i x5, bk_i x4] M (fun t3 r1 M2 => t3 = 0 ∧ ((r1 ≠ (0 : Int) → ((0 : Int) ≤ x5 ∧ (0 : Int) < (36 : Int)) ∧ bk_r32 ((85 : Int) + (x5 % (36 : Int))) ∧ ((0 : Int) ≤ (85 : Int) + (x5 % (36 : Int)) ∧ (85 : Int) + (x5 % (36 : Int)) < (437 : Int)) ∧ bk_C d 0 238 [bk_i x5] M2 (fun t6 r4 M5 => t6 = 0 ∧ bk_r32 ((M2 58 0 ((85 : Int) + (x5 % (36 : Int)))) + r4) ∧ ((0 : Int) ≤ (85 : Int) + (x5 % (36 : Int)) ∧ (85 : Int) + (x5 % (36 : Int)) < (437 : Int)) ∧ ∀ M7 : bk_M, M7 = bk_up M5 58 0 ((85 : Int) + (x5 % (36 : Int))) ((M2 58 0 ((85 : Int) + (x5 % (36 : Int)))) + r4) → ((0 : Int) ≤ x1 ∧ x1 < (2 : Int)) ∧ ∀ M8 : bk_M, M8 = bk_up M7 75 0 x1 x5 → bk_r32 (x1 + (1 : Int)) ∧ bk_r32 (x5 + (1 : Int)) ∧ bk_C d 0 241 [bk_c 12 0, bk_i (x1 + (1 : Int)), bk_i x2, bk_i (x5 + (1 : Int)), bk_i x4] M8 (fun t11 r9 M10 => t11 = 0 ∧ ((0 : Int) ≤ x5 ∧ (0 : Int) < (36 : Int)) ∧ bk_r32 ((85 : Int) + (x5 % (36 : Int))) ∧ ((0 : Int) ≤ (85 : Int) + (x5 % (36 : Int)) ∧ (85 : Int) + (x5 % (36 : Int)) < (437 : Int)) ∧ bk_C d 0 238 [bk_i x5] M10 (fun t14 r12 M13 => t14 = 0 ∧ bk_r32 ((M10 58 0 ((85 : Int) + (x5 % (36 : Int)))) - r12) ∧ ((0 : Int) ≤ (85 : Int) + (x5 % (36 : Int)) ∧ (85 : Int) + (x5 % (36 : Int)) < (437 : Int)) ∧ ∀ M15 : bk_M, M15 = bk_up M13 58 0 ((85 : Int) + (x5 % (36 : Int))) ((M10 58 0 ((85 : Int) + (x5 % (36 : Int)))) - r12) → bk_r32 (x5 + (1 : Int)) ∧ bk_wp (bk_C d) P_241 Q 0 76 [bk_c 12 0, bk_i x1, bk_i x2, bk_i x3, bk_i x4, bk_i (x5 + (1 : Int)), v6] [] M15)))) ∧ (¬ (r1 ≠ (0 : Int)) → bk_r32 (x5 + (1 : Int)) ∧ bk_wp (bk_C d) P_241 Q 0 76 [bk_c 12 0, bk_i x1, bk_i x2, bk_i x3, bk_i x4, bk_i (x5 + (1 : Int)), v6] [] M2)))) ∧ (¬ (x1 ≤ (0 : Int)) → ((0 : Int) ≤ x5 ∧ (0 : Int) < (36 : Int)) ∧ ((0 : Int) ≤ (0 : Int) ∧ (0 : Int) < (2 : Int)) ∧ ((0 : Int) ≤ M 75 0 (0 : Int) ∧ (0 : Int) < (36 : Int)) ∧ ((x5 % (36 : Int) = (M 75 0 (0 : Int)) % (36 : Int) → bk_r32 (x5 + (1 : Int)) ∧ bk_wp (bk_C d) P_241 Q 0 76 [bk_c 12 0, bk_i x1, bk_i x2, bk_i x3, bk_i x4, bk_i (x5 + (1 : Int)), v6] [] M) ∧ (¬ (x5 % (36 : Int) = (M 75 0 (0 : Int)) % (36 : Int)) → bk_C d 0 237 [bk_c 12 0, bk_i x5, bk_i x4] M (fun t18 r16 M17 => t18 = 0 ∧ ((r16 ≠ (0 : Int) → ((0 : Int) ≤ x5 ∧ (0 : Int) < (36 : Int)) ∧ bk_r32 ((85 : Int) + (x5 % (36 : Int))) ∧ ((0 : Int) ≤ (85 : Int) + (x5 % (36 : Int)) ∧ (85 : Int) + (x5 % (36 : Int)) < (437 : Int)) ∧ bk_C d 0 238 [bk_i x5] M17 (fun t21 r19 M20 => t21 = 0 ∧ bk_r32 ((M17 58 0 ((85 : Int) + (x5 % (36 : Int)))) + r19) ∧ ((0 : Int) ≤ (85 : Int) + (x5 % (36 : Int)) ∧ (85 : Int) + (x5 % (36 : Int)) < (437 : Int)) ∧ ∀ M22 : bk_M, M22 = bk_up M20 58 0 ((85 : Int) + (x5 % (36 : Int))) ((M17 58 0 ((85 : Int) + (x5 % (36 : Int)))) + r19) → ((0 : Int) ≤ x1 ∧ x1 < (2 : Int)) ∧ ∀ M23 : bk_M, M23 = bk_up M22 75 0 x1 x5 → bk_r32 (x1 + (1 : Int)) ∧ bk_r32 (x5 + (1 : Int)) ∧ bk_C d 0 241 [bk_c 12 0, bk_i (x1 + (1 : Int)), bk_i x2, bk_i (x5 + (1 : Int)), bk_i x4] M23 (fun t26 r24 M25 => t26 = 0 ∧ ((0 : Int) ≤ x5 ∧ (0 : Int) < (36 : Int)) ∧ bk_r32 ((85 : Int) + (x5 % (36 : Int))) ∧ ((0 : Int) ≤ (85 : Int) + (x5 % (36 : Int)) ∧ (85 : Int) + (x5 % (36 : Int)) < (437 : Int)) ∧ bk_C d 0 238 [bk_i x5] M25 (fun t29 r27 M28 => t29 = 0 ∧ bk_r32 ((M25 58 0 ((85 : Int) + (x5 % (36 : Int)))) - r27) ∧ ((0 : Int) ≤ (85 : Int) + (x5 % (36 : Int)) ∧ (85 : Int) + (x5 % (36 : Int)) < (437 : Int)) ∧ ∀ M30 : bk_M, M30 = bk_up M28 58 0 ((85 : Int) + (x5 % (36 : Int))) ((M25 58 0 ((85 : Int) + (x5 % (36 : Int)))) - r27) → bk_r32 (x5 + (1 : Int)) ∧ bk_wp (bk_C d) P_241 Q 0 76 [bk_c 12 0, bk_i x1, bk_i x2, bk_i x3, bk_i x4, bk_i (x5 + (1 : Int)), v6] [] M30)))) ∧ (¬ (r16 ≠ (0 : Int)) → bk_r32 (x5 + (1 : Int)) ∧ bk_wp (bk_C d) P_241 Q 0 76 [bk_c 12 0, bk_i x1, bk_i x2, bk_i x3, bk_i x4, bk_i (x5 + (1 : Int)), v6] [] M17))))))))) := bk_iff [46, 76] 40
theorem S241 {N : Int → Int} {s : Int} (hN : bkMd N) (hs : 0 ≤ s ∧ s ≤ 1) : ∀ (m d : Nat) (acc : List Int) (fr : Int) (M : bk_M) (st : Int × List Int),
    M 58 0 = bkRL N acc → (∀ c, 0 ≤ c → c < 36 → M 69 0 c = 0) → acc.length + m ≤ 2 → 0 ≤ fr → fr ≤ 72 → bkLeg N acc → (∀ v, v ∈ acc → 0 ≤ v ∧ v < 72) →
    (∀ i : Nat, i < acc.length → M 75 0 i = acc.getD i 0) → bkPuR M st →
    bk_C (d + m + 6) 0 241 [bk_c 12 0, bk_i acc.length, bk_i ((acc.length + m : Nat) : Int), bk_i fr, bk_i s] M (fun t _ M' => t = 0 ∧ bkFr bkA241 M M' ∧ (∀ j, j ≠ 39 → j ≠ 40 → M' 12 0 j = M 12 0 j) ∧ M' 58 0 = bkRL N acc ∧ (∀ i : Nat, i < acc.length → M' 75 0 i = acc.getD i 0) ∧ bkPuR M' ((bkPq (bkCd (fun w => bkMay N s w) 72 (72 - fr).toNat) m acc).foldl (bkPs N s) st)) := by
  intro m
  induction m with
  | zero =>
    intro d acc fr M st h58 hI hlen hfr0 hfr hL hacc hpk hP
    have hNL := bkMd_RL hN hL
    rw [E_241, bkPq_0]
    refine ⟨fun z => absurd (by omega) z, fun _ => ?_⟩
    refine bk_use (S153z (d := d) (by rw [h58]; exact hNL) hI) ?_
    rintro r M2 ⟨F, -, B⟩
    have e58 : M2 58 0 = bkRL N acc := by rw [F 58 0 (by unfold bkA153; omega), h58]
    have e12 : M2 12 0 = M 12 0 := F 12 0 (by unfold bkA153; omega)
    rw [h58] at B
    have hw : bkMw (M2 58 0) := by rw [e58]; exact bkMd_w hNL
    have v : bkWorB (M2 58 0) (M2 71 0) s = bkVal N acc s := by
      rw [e58, bkWorB_congr hNL B s, bkValR hN.2.2.2.2.1.2]
      rfl
    have vb := bkVal_b hN acc s
    have F' : bkFr bkA241 M M2 := bkFr_mono F fun k a w => by unfold bkA153 at w; unfold bkA241; omega
    have p' : ∀ i : Nat, i < acc.length → M2 75 0 i = acc.getD i 0 := fun i hi => by rw [F 75 0 (by unfold bkA153; omega)]; exact hpk i hi
    obtain ⟨P1, P2, P3⟩ := hP
    rw [S230 (d := d + 2) hw]
    refine ⟨rfl, rfl, ?_⟩
    rw [S205v (d := d + 3) hw, v, e12, P1]
    have efold : ([acc] : List (List Int)).foldl (bkPs N s) st = bkPs N s st acc := rfl
    rw [efold]
    refine ⟨rfl, fun z => ?_, fun z => ⟨rfl, F', fun j _ _ => rfl, e58, p', ?_⟩⟩
    · have e : bkPs N s st acc = (bkVal N acc s, acc) := by unfold bkPs; rw [if_pos z]
      rw [e]
      intro M10 hM10 M11 hM11
      have hl0 : (((acc.length + 0 : Nat)) : Int) = (acc.length : Int) := rfl
      rw [hl0] at hM11
      refine L241_46 (by omega) (fun i hi => by rw [hM11, bk_up_f (by decide), hM10, bk_up_f (by decide)]; exact p' i hi) fun M' FF q76 => ?_
      have e1112 : ∀ j, M' 12 0 j = if j = 39 then (acc.length : Int) else if j = 40 then bkVal N acc s else M2 12 0 j := fun j => by rw [FF 12 0 (by omega), hM11, bk_up_w, hM10, bk_up_w]
      refine ⟨rfl, ?_, fun j q39 q40 => by rw [e1112, if_neg q39, if_neg q40, e12], ?_, fun i hi => ?_, ?_, by omega, .inr ⟨?_, q76⟩⟩
      · refine bkFr_trans F' (bkFr_trans (M' := M11) ?_ (bkFr_mono FF fun k a w => by unfold bkA241; omega))
        rw [hM11, hM10]
        exact bkFr_up (bkFr_up (bkFr_refl _ _) (by unfold bkA241; omega)) (by unfold bkA241; omega)
      · rw [FF 58 0 (by omega), hM11, bk_up_f (by decide), hM10, bk_up_f (by decide), e58]
      · rw [FF 75 0 (by omega), hM11, bk_up_f (by decide), hM10, bk_up_f (by decide)]; exact p' i hi
      · rw [e1112, if_neg (by decide), if_pos rfl]
      · rw [e1112, if_pos rfl]
    · have e : bkPs N s st acc = st := by unfold bkPs; rw [if_neg z]
      rw [e]
      refine ⟨by rw [e12, P1], P2, ?_⟩
      rcases P3 with P3 | P3
      · exact .inl P3
      · exact .inr ⟨by rw [e12]; exact P3.1, fun i hi => by rw [F 76 0 (by unfold bkA153; omega)]; exact P3.2 i hi⟩
  | succ m ih =>
    intro d acc fr M st h58 hI hlen hfr0 hfr hL hacc hpk hP
    have hNL := bkMd_RL hN hL
    rw [E_241]
    refine ⟨fun _ => ?_, fun z => absurd (by omega) z⟩
    have key := bk_loopS (W := fun k M1 => ∀ v6, bk_wp (bk_C (d + (m + 1) + 5)) P_241 (fun t _ M' => t = 0 ∧ bkFr bkA241 M M' ∧ (∀ j, j ≠ 39 → j ≠ 40 → M' 12 0 j = M 12 0 j) ∧ M' 58 0 = bkRL N acc ∧ (∀ i : Nat, i < acc.length → M' 75 0 i = acc.getD i 0) ∧ bkPuR M' ((bkPq (bkCd (fun w => bkMay N s w) 72 (72 - fr).toNat) (m + 1) acc).foldl (bkPs N s) st)) 0 76 [bk_c 12 0, bk_i acc.length, bk_i ((acc.length + (m + 1) : Nat) : Int), bk_i fr, bk_i s, bk_i k, v6] [] M1) (s := fr) (n := 72)
      (fun k M1 => ∃ st1, bkFr bkA241 M M1 ∧ (∀ j, j ≠ 39 → j ≠ 40 → M1 12 0 j = M 12 0 j) ∧ M1 58 0 = bkRL N acc ∧ (∀ i : Nat, i < acc.length → M1 75 0 i = acc.getD i 0) ∧ bkPuR M1 st1 ∧ (bkPq (bkCd (fun w => bkMay N s w) 72 (72 - k).toNat) (m + 1) acc).foldl (bkPs N s) st1 = (bkPq (bkCd (fun w => bkMay N s w) 72 (72 - fr).toNat) (m + 1) acc).foldl (bkPs N s) st) hfr ?_ ?_ (M := M) ⟨st, bkFr_refl _ _, fun _ _ _ => rfl, h58, hpk, hP, rfl⟩
    · exact key _
    · rintro k M1 h0 h1 ⟨st1, F, K12, G, P, R, E⟩ ih2 v6
      have hcd := bkCd_s (fun w => bkMay N s w) (top := 72) (w := k) h1
      have hk := hL (k % 36) (by omega) (by omega)
      have eat : bkRL N acc (85 + k % 36) = N (85 + k % 36) + bkDl acc (k % 36) := bkRL_c (by omega) (by omega)
      -- the code is not taken
      have skip : (bkMay N s k = true → bkOk acc k ≠ true) → ∀ v6, bk_wp (bk_C (d + (m + 1) + 5)) P_241 (fun t _ M' => t = 0 ∧ bkFr bkA241 M M' ∧ (∀ j, j ≠ 39 → j ≠ 40 → M' 12 0 j = M 12 0 j) ∧ M' 58 0 = bkRL N acc ∧ (∀ i : Nat, i < acc.length → M' 75 0 i = acc.getD i 0) ∧ bkPuR M' ((bkPq (bkCd (fun w => bkMay N s w) 72 (72 - fr).toNat) (m + 1) acc).foldl (bkPs N s) st)) 0 76 [bk_c 12 0, bk_i acc.length, bk_i ((acc.length + (m + 1) : Nat) : Int), bk_i fr, bk_i s, bk_i (k + 1), v6] [] M1 := fun hno v6 => by
        refine ih2 M1 ⟨st1, F, K12, G, P, R, ?_⟩ v6
        rw [← E, hcd]
        by_cases hm : bkMay N s k = true
        · rw [if_pos hm]
          show _ = ((if bkOk acc k = true then _ else []) ++ _ : List (List Int)).foldl _ _
          rw [if_neg (hno hm)]
          rfl
        · rw [if_neg hm]
      -- it is looked at
      have body : bkOk acc k = true → ∀ v6', bk_C (d + (m + 1) + 5) 0 237 [bk_c 12 0, bk_i k, bk_i s] M1 (fun t3 r1 M2 => t3 = 0 ∧ ((r1 ≠ 0 → (0 ≤ k ∧ (0 : Int) < 36) ∧ bk_r32 (85 + (k % 36)) ∧ (0 ≤ 85 + (k % 36) ∧ 85 + (k % 36) < 437) ∧ bk_C (d + (m + 1) + 5) 0 238 [bk_i k] M2 (fun t6 r4 M5 => t6 = 0 ∧ bk_r32 ((M2 58 0 (85 + (k % 36))) + r4) ∧ (0 ≤ 85 + (k % 36) ∧ 85 + (k % 36) < 437) ∧ ∀ M7 : bk_M, M7 = bk_up M5 58 0 (85 + (k % 36)) ((M2 58 0 (85 + (k % 36))) + r4) → ((0 : Int) ≤ acc.length ∧ (acc.length : Int) < 2) ∧ ∀ M8 : bk_M, M8 = bk_up M7 75 0 acc.length k → bk_r32 ((acc.length : Int) + 1) ∧ bk_r32 (k + 1) ∧ bk_C (d + (m + 1) + 5) 0 241 [bk_c 12 0, bk_i ((acc.length : Int) + 1), bk_i ((acc.length + (m + 1) : Nat) : Int), bk_i (k + 1), bk_i s] M8 (fun t11 r9 M10 => t11 = 0 ∧ (0 ≤ k ∧ (0 : Int) < 36) ∧ bk_r32 (85 + (k % 36)) ∧ (0 ≤ 85 + (k % 36) ∧ 85 + (k % 36) < 437) ∧ bk_C (d + (m + 1) + 5) 0 238 [bk_i k] M10 (fun t14 r12 M13 => t14 = 0 ∧ bk_r32 ((M10 58 0 (85 + (k % 36))) - r12) ∧ (0 ≤ 85 + (k % 36) ∧ 85 + (k % 36) < 437) ∧ ∀ M15 : bk_M, M15 = bk_up M13 58 0 (85 + (k % 36)) ((M10 58 0 (85 + (k % 36))) - r12) → bk_r32 (k + 1) ∧ bk_wp (bk_C (d + (m + 1) + 5)) P_241 (fun t _ M' => t = 0 ∧ bkFr bkA241 M M' ∧ (∀ j, j ≠ 39 → j ≠ 40 → M' 12 0 j = M 12 0 j) ∧ M' 58 0 = bkRL N acc ∧ (∀ i : Nat, i < acc.length → M' 75 0 i = acc.getD i 0) ∧ bkPuR M' ((bkPq (bkCd (fun w => bkMay N s w) 72 (72 - fr).toNat) (m + 1) acc).foldl (bkPs N s) st)) 0 76 [bk_c 12 0, bk_i acc.length, bk_i ((acc.length + (m + 1) : Nat) : Int), bk_i fr, bk_i s, bk_i (k + 1), v6'] [] M15)))) ∧ (¬ (r1 ≠ 0) → bk_r32 (k + 1) ∧ bk_wp (bk_C (d + (m + 1) + 5)) P_241 (fun t _ M' => t = 0 ∧ bkFr bkA241 M M' ∧ (∀ j, j ≠ 39 → j ≠ 40 → M' 12 0 j = M 12 0 j) ∧ M' 58 0 = bkRL N acc ∧ (∀ i : Nat, i < acc.length → M' 75 0 i = acc.getD i 0) ∧ bkPuR M' ((bkPq (bkCd (fun w => bkMay N s w) 72 (72 - fr).toNat) (m + 1) acc).foldl (bkPs N s) st)) 0 76 [bk_c 12 0, bk_i acc.length, bk_i ((acc.length + (m + 1) : Nat) : Int), bk_i fr, bk_i s, bk_i (k + 1), v6'] [] M2))) := by
        intro hok v6'
        rw [S237 (M := M1) (by rw [G]; exact hNL) hs ⟨by omega, h1⟩, G, bkMay_ok (by omega) hok]
        unfold bk_r32
        refine ⟨rfl, fun z => ?_, fun z => ⟨by omega, skip (fun hm => absurd (by rw [if_pos hm]; decide) z) v6'⟩⟩
        have hm : bkMay N s k = true := Classical.byContradiction fun w => z (if_neg w)
        have hL1 : bkLeg N (acc ++ [k]) := bkLeg_snoc hL (by rw [bkMay_ok (by omega) hok]; exact hm) ⟨by omega, h1⟩
        have h2c := hL1 (k % 36) (by omega) (by omega)
        have eat2 : bkRL N (acc ++ [k]) (85 + k % 36) = N (85 + k % 36) + bkDl (acc ++ [k]) (k % 36) := bkRL_c (by omega) (by omega)
        have hwk : -1 ≤ bkWk k ∧ bkWk k ≤ 1 := by unfold bkWk; split <;> omega
        rw [S238]
        refine ⟨by omega, by omega, by omega, rfl, by rw [eat]; omega, by omega, ?_⟩
        intro M7 hM7
        refine ⟨by omega, ?_⟩
        intro M8 hM8
        rw [← G] at hM7
        have F8 : bkFr bkA241 M M8 := by rw [hM8, hM7]; exact bkFr_up (bkFr_up F (by unfold bkA241; omega)) (by unfold bkA241; omega)
        have G8 : M8 58 0 = bkRL N (acc ++ [k]) := by rw [hM8, bk_up_f (by decide), hM7]; exact bkRow_up G
        have P8 : ∀ i : Nat, i < (acc ++ [k]).length → M8 75 0 i = (acc ++ [k]).getD i 0 := fun i hi => by
          rw [hM8, bk_up_w, hM7, bk_up_f (by decide)]
          rw [List.length_append] at hi
          by_cases e : i = acc.length
          · rw [if_pos (by omega), e]; simp
          · have hi2 : i < acc.length := by simp only [List.length_cons, List.length_nil] at hi; omega
            rw [if_neg (by omega), P i hi2]
            simp [List.getD_eq_getElem?_getD, List.getElem?_append_left hi2]
        have R8 : bkPuR M8 st1 := by
          refine ⟨by rw [hM8, bk_up_f (by decide), hM7, bk_up_f (by decide)]; exact R.1, R.2.1, ?_⟩
          rcases R.2.2 with q | q
          · exact .inl q
          · exact .inr ⟨by rw [hM8, bk_up_f (by decide), hM7, bk_up_f (by decide)]; exact q.1, fun i hi => by rw [hM8, bk_up_f (by decide), hM7, bk_up_f (by decide)]; exact q.2 i hi⟩
        have call := ih d (acc ++ [k]) (k + 1) M8 st1 G8 (fun c q1 q2 => by rw [F8 69 0 (by unfold bkA241; omega)]; exact hI c q1 q2) (by simp only [List.length_append, List.length_cons, List.length_nil]; omega) (by omega) (by omega) hL1 (fun v hv => by
          rw [List.mem_append, List.mem_singleton] at hv
          rcases hv with hv | rfl
          · exact hacc v hv
          · omega) P8 R8
        rw [show ((acc ++ [k]).length : Int) = (acc.length : Int) + 1 by simp, show (((acc ++ [k]).length + m : Nat) : Int) = ((acc.length + (m + 1) : Nat) : Int) by simp; omega] at call
        refine ⟨by omega, by omega, bk_use (P := fun _ M' => _) call ?_⟩
        rintro r M10 ⟨F10, K10, G10, P10, R10⟩
        rw [S238]
        refine ⟨rfl, by omega, by omega, by omega, rfl, by rw [G10, eat2]; omega, by omega, ?_⟩
        intro M15 hM15
        refine ⟨by omega, ih2 M15 ⟨_, by rw [hM15]; exact bkFr_up (bkFr_trans F8 F10) (by unfold bkA241; omega), fun j q39 q40 => ?_, by rw [hM15]; exact bkRow_dn G10, fun i hi => ?_, ⟨?_, R10.2.1, ?_⟩, ?_⟩ v6'⟩
        · rw [hM15, bk_up_f (by decide), K10 j q39 q40, hM8, bk_up_f (by decide), hM7, bk_up_f (by decide)]; exact K12 j q39 q40
        · rw [hM15, bk_up_f (by decide), P10 i (by simp only [List.length_append]; omega)]
          simp [List.getD_eq_getElem?_getD, List.getElem?_append_left hi]
        · rw [hM15, bk_up_f (by decide)]; exact R10.1
        · rcases R10.2.2 with q | q
          · exact .inl q
          · exact .inr ⟨by rw [hM15, bk_up_f (by decide)]; exact q.1, fun i hi => by rw [hM15, bk_up_f (by decide)]; exact q.2 i hi⟩
        · rw [← E, hcd, if_pos hm]
          show _ = ((if bkOk acc k = true then bkPq _ m (acc ++ [k]) else []) ++ _ : List (List Int)).foldl _ _
          rw [if_pos hok, List.foldl_append]
      rw [LG_241_76]
      refine ⟨fun z => absurd z (by omega), fun _ => ⟨fun z => ?_, fun z => ?_⟩⟩
      · have : acc = [] := List.eq_nil_of_length_eq_zero (by omega)
        subst this
        exact body rfl _
      · obtain ⟨v, hv⟩ : ∃ v, acc = [v] := by
          cases acc with
          | nil => exact absurd (Int.le_refl _) z
          | cons v acc =>
            have : acc = [] := List.eq_nil_of_length_eq_zero (by simp at hlen; omega)
            exact ⟨v, by rw [this]⟩
        have e0 : M1 75 0 0 = v := by have := P 0 (by rw [hv]; simp); rw [hv] at this; exact this
        have hv2 := hacc v (by rw [hv]; simp)
        have hokv : bkOk acc k = decide (k % 36 ≠ v % 36) := by rw [hv]; rfl
        rw [e0]
        refine ⟨by omega, by omega, by omega, fun z2 => ⟨by unfold bk_r32; omega, skip (fun _ w => ?_) _⟩, fun z2 => body ?_ _⟩
        · rw [hokv, decide_eq_true_eq] at w; exact w z2
        · rw [hokv, decide_eq_true_eq]; exact z2
    · rintro M1 ⟨st1, F, K12, G, P, R, E⟩ v6
      rw [show (72 - (72 : Int)).toNat = 0 by omega] at E
      have E : st1 = _ := E
      rw [LG_241_76]
      refine ⟨fun _ => ⟨rfl, F, K12, G, P, ?_⟩, fun z => absurd (Int.le_refl _) z⟩
      rw [← E]
      exact R
theorem S240 {d : Nat} {s n : Int} {M : bk_M} (hN : bkMd (M 58 0)) (hI : ∀ c, 0 ≤ c → c < 36 → M 69 0 c = 0) :
    bk_C (d + 10) 0 240 [bk_c 12 0, bk_i s, bk_i n] M (fun t r M' => t = 0 ∧ bkFr bkA241 M M' ∧ M' 58 0 = M 58 0 ∧ (∀ j, j ≠ 0 → j ≠ 39 → j ≠ 40 → M' 12 0 j = M 12 0 j) ∧ r = bkPush (M 58 0) s n ∧ bkPushK (M 58 0) s n (M 12 0 39) (M 76 0) (M' 12 0 39) (M' 76 0)) := by
  rw [E_240]
  intro M1 hM1
  have F1 : bkFr bkA241 M M1 := by rw [hM1]; exact bkFr_up (bkFr_refl _ _) (by unfold bkA241; omega)
  have e58 : M1 58 0 = M 58 0 := by rw [hM1, bk_up_f (by decide)]
  have e12 : ∀ j, j ≠ 0 → M1 12 0 j = M 12 0 j := fun j hj => by rw [hM1, bk_up_s hj]
  generalize hNN : M 58 0 = N at *
  have hbad : ¬ (0 ≤ s ∧ s ≤ 1 ∧ 0 ≤ n ∧ n ≤ 2) → (0 : Nat) = 0 ∧ bkFr bkA241 M M1 ∧ M1 58 0 = N ∧ (∀ j, j ≠ 0 → j ≠ 39 → j ≠ 40 → M1 12 0 j = M 12 0 j) ∧ -1 = bkPush N s n ∧ bkPushK N s n (M 12 0 39) (M 76 0) (M1 12 0 39) (M1 76 0) := fun w => by
    unfold bkPush bkPushK
    rw [if_neg w, if_neg w]
    exact ⟨rfl, F1, e58, fun j q0 _ _ => e12 j q0, rfl, e12 39 (by decide), by rw [hM1, bk_up_f (by decide)]⟩
  rw [S157]
  by_cases hs : 0 ≤ s ∧ s ≤ 1
  · rw [if_pos hs]
    refine ⟨rfl, fun z => absurd z (by decide), fun _ => ?_⟩
    rw [S157]
    by_cases hn : 0 ≤ n ∧ n ≤ 2
    · rw [if_pos hn]
      refine ⟨rfl, fun _ => ?_, fun z => absurd (by decide) z⟩
      intro M8 hM8
      have vb := bkVal_b hN [] s
      have hst0 : bkPs N s (-1, []) [] = (bkVal N [] s, []) := by unfold bkPs; rw [if_pos (by show (-1 : Int) < _; omega)]
      -- all lists up to k works
      have seq : ∀ k : Int, 0 ≤ k → k ≤ n → (bkPq (bkPuA N s) k.toNat []).foldl (bkPs N s) (if k = 0 then (-1, []) else (bkSeq (k - 1) (bkPuA N s)).foldl (bkPs N s) (bkVal N [] s, [])) = (bkSeq k (bkPuA N s)).foldl (bkPs N s) (bkVal N [] s, []) := fun k q0 q1 => by
        have hk : k = 0 ∨ k = 1 ∨ k = 2 := by omega
        rcases hk with rfl | rfl | rfl
        · rw [if_pos rfl, show (0 : Int).toNat = 0 by rfl, bkPq_0]
          show bkPs N s (-1, []) [] = _
          rw [hst0]
          rfl
        · rw [if_neg (by decide), show (1 : Int).toNat = 1 by rfl, bkPq_1n]
          show _ = (((bkPuA N s).map fun w => [w]) ++ []).foldl _ _
          rw [List.append_nil]
          rfl
        · rw [if_neg (by decide), show (2 : Int).toNat = 2 by rfl, bkPq_2]
          show _ = (((bkPuA N s).map fun w => [w]) ++ bkP2 (bkPuA N s)).foldl _ _
          rw [List.foldl_append]
          show _ = (bkP2 (bkPuA N s)).foldl _ ((((bkPuA N s).map fun w => [w])).foldl _ _)
          have : bkSeq (2 - 1) (bkPuA N s) = (bkPuA N s).map fun w => [w] := by
            show ((bkPuA N s).map fun w => [w]) ++ [] = _
            rw [List.append_nil]
          rw [this]
      refine bk_loopS (W := fun k M2 => bk_wp (bk_C (d + 9)) P_240 (fun t r M' => t = 0 ∧ bkFr bkA241 M M' ∧ M' 58 0 = N ∧ (∀ j, j ≠ 0 → j ≠ 39 → j ≠ 40 → M' 12 0 j = M 12 0 j) ∧ r = bkPush N s n ∧ bkPushK N s n (M 12 0 39) (M 76 0) (M' 12 0 39) (M' 76 0)) 0 32 [bk_c 12 0, bk_i s, bk_i n, bk_i k] [] M2) (s := 0) (n := n + 1)
        (fun k M2 => bkFr bkA241 M M2 ∧ M2 58 0 = N ∧ (∀ j, j ≠ 0 → j ≠ 39 → j ≠ 40 → M2 12 0 j = M 12 0 j) ∧ bkPuR M2 (if k = 0 then (-1, []) else (bkSeq (k - 1) (bkPuA N s)).foldl (bkPs N s) (bkVal N [] s, []))) (by omega) ?_ ?_ (M := M8) ⟨by rw [hM8]; exact bkFr_up F1 (by unfold bkA241; omega), by rw [hM8, bk_up_f (by decide), e58], fun j q0 _ q40 => by rw [hM8, bk_up_s q40, e12 j q0], ?_⟩
      · rintro k M2 h0 h1 ⟨F, G, K, R⟩ ih
        rw [L_240_32]
        refine ⟨fun z => absurd z (by omega), fun _ => ?_⟩
        have call := S241 (N := N) (s := s) hN hs k.toNat (d + 9 - (k.toNat + 6)) [] 0 M2 _ (by rw [bkRL_nil]; exact G) (fun c q1 q2 => by rw [F 69 0 (by unfold bkA241; omega)]; exact hI c q1 q2) (by show 0 + k.toNat ≤ 2; omega) (by omega) (by omega) (bkLeg_nil hN) (fun v hv => absurd hv (by simp)) (fun i hi => absurd hi (by simp)) R
        rw [show d + 9 - (k.toNat + 6) + k.toNat + 6 = d + 9 by omega, show (([] : List Int).length : Int) = 0 by rfl, show ((([] : List Int).length + k.toNat : Nat) : Int) = k by show ((0 + k.toNat : Nat) : Int) = k; omega] at call
        refine bk_use (P := fun _ M' => _) call ?_
        rintro r M3 ⟨F3, K3, G3, -, R3⟩
        rw [bkRL_nil] at G3
        have e := seq k h0 (by omega)
        have R3 : bkPuR M3 ((bkPq (bkPuA N s) k.toNat []).foldl (bkPs N s) (if k = 0 then (-1, []) else (bkSeq (k - 1) (bkPuA N s)).foldl (bkPs N s) (bkVal N [] s, []))) := R3
        rw [e] at R3
        refine ⟨rfl, by unfold bk_r32; omega, ih M3 ⟨bkFr_trans F F3, G3, fun j q0 q39 q40 => by rw [K3 j q39 q40]; exact K j q0 q39 q40, ?_⟩⟩
        rw [if_neg (by omega), show k + 1 - 1 = k by omega]
        exact R3
      · rintro M2 ⟨F, G, K, R⟩
        rw [if_neg (by omega), show n + 1 - 1 = n by omega] at R
        obtain ⟨R1, R2, R3⟩ := R
        have R1 : M2 12 0 40 = (bkPu N s n).1 := R1
        have R2 : (bkPu N s n).2.length ≤ 2 := R2
        have hge : 0 ≤ (bkPu N s n).1 := by
          have := (bkPs_ge N s (bkSeq n (bkPuA N s)) (bkVal N [] s, [])).1
          have : bkVal N [] s ≤ (bkPu N s n).1 := this
          omega
        have R3 : M2 12 0 39 = (bkPu N s n).2.length ∧ ∀ i : Nat, i < (bkPu N s n).2.length → M2 76 0 i = (bkPu N s n).2.getD i 0 := by
          rcases R3 with q | q
          · have q : (bkPu N s n).1 = -1 := q
            omega
          · exact q
        rw [L_240_32]
        refine ⟨fun _ => ⟨rfl, F, G, K, ?_, ?_⟩, fun z => absurd (by omega) z⟩
        · unfold bkPush
          rw [if_pos (by omega), R1]
        · unfold bkPushK
          rw [if_pos (by omega)]
          exact ⟨R2, R3⟩
      · rw [if_pos rfl]
        exact ⟨by rw [hM8, bk_up_e], by show (0 : Nat) ≤ 2; omega, .inl rfl⟩
    · rw [if_neg hn]
      exact ⟨rfl, fun z => absurd rfl z, fun _ => hbad fun w => hn w.2.2⟩
  · rw [if_neg hs]
    exact ⟨rfl, fun _ => hbad fun w => hs ⟨w.1, w.2.1⟩, fun z => absurd rfl z⟩
