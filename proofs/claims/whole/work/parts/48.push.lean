/-! Pushed: the best of no work, of one, of two. -/
def bkPs (N : Int → Int) (s : Int) (st : Int × List Int) (l : List Int) : Int × List Int := if st.1 < bkVal N l s then (bkVal N l s, l) else st
def bkP2 : List Int → List (List Int)
  | [] => []
  | w :: A => (A.filter fun v => decide (v % 36 ≠ w % 36)).map (fun v => [w, v]) ++ bkP2 A
theorem bkPs_ge (N : Int → Int) (s : Int) : ∀ (X : List (List Int)) (st : Int × List Int), st.1 ≤ (X.foldl (bkPs N s) st).1 ∧ ∀ l, l ∈ X → bkVal N l s ≤ (X.foldl (bkPs N s) st).1
  | [], st => ⟨Int.le_refl _, fun l hl => absurd hl (by simp)⟩
  | x :: X, st => by
    have ih := bkPs_ge N s X (bkPs N s st x)
    have h : st.1 ≤ (bkPs N s st x).1 ∧ bkVal N x s ≤ (bkPs N s st x).1 := by
      unfold bkPs
      split
      · exact ⟨by show st.1 ≤ bkVal N x s; omega, Int.le_refl _⟩
      · exact ⟨Int.le_refl _, by omega⟩
    rw [List.foldl_cons]
    refine ⟨by omega, fun l hl => ?_⟩
    cases hl with
    | head => omega
    | tail _ hl => exact ih.2 l hl
theorem bkPs_drop (N : Int → Int) (s : Int) (q : List Int → Bool) : ∀ (X : List (List Int)) (st : Int × List Int), (∀ l, l ∈ X → q l = false → bkVal N l s ≤ st.1) → (X.filter q).foldl (bkPs N s) st = X.foldl (bkPs N s) st
  | [], st, _ => rfl
  | x :: X, st, h => by
    have hst : st.1 ≤ (bkPs N s st x).1 := by
      unfold bkPs
      split
      · show st.1 ≤ bkVal N x s; omega
      · exact Int.le_refl _
    have ih := bkPs_drop N s q X (bkPs N s st x) fun l hl hq => Int.le_trans (h l (List.mem_cons_of_mem _ hl) hq) hst
    rw [List.foldl_cons, ← ih]
    cases hq : q x
    · rw [List.filter_cons_of_neg (by rw [hq]; decide)]
      have : bkPs N s st x = st := by
        have := h x (List.mem_cons_self ..) hq
        unfold bkPs
        rw [if_neg (by omega)]
      rw [this]
    · rw [List.filter_cons_of_pos hq, List.foldl_cons]
theorem bkP2_filter (p : Int → Bool) : ∀ A : List Int, bkP2 (A.filter p) = (bkP2 A).filter fun l => l.all p
  | [] => rfl
  | w :: A => by
    have ih := bkP2_filter p A
    show bkP2 ((w :: A).filter p) = ((A.filter fun v => decide (v % 36 ≠ w % 36)).map (fun v => [w, v]) ++ bkP2 A).filter _
    rw [List.filter_append, List.filter_map]
    by_cases h : p w = true
    · rw [List.filter_cons_of_pos h]
      show ((A.filter p).filter fun v => decide (v % 36 ≠ w % 36)).map (fun v => [w, v]) ++ bkP2 (A.filter p) = _
      rw [ih, List.filter_filter, List.filter_filter]
      congr 2
      congr 1
      funext v
      simp [h, Bool.and_comm]
    · rw [List.filter_cons_of_neg h, ih]
      have : (A.filter fun v => decide (v % 36 ≠ w % 36)).filter ((fun l => List.all l p) ∘ fun v => [w, v]) = [] := by
        rw [List.filter_eq_nil_iff]
        intro a _
        simp [h]
      rw [this]
      rfl
theorem bkP2_mem : ∀ (A : List Int) (l : List Int), l ∈ bkP2 A → ∃ w v, l = [w, v] ∧ w ∈ A ∧ v ∈ A
  | [], l, h => absurd h (by simp [bkP2])
  | w :: A, l, h => by
    have h : l ∈ (A.filter fun v => decide (v % 36 ≠ w % 36)).map (fun v => [w, v]) ++ bkP2 A := h
    rw [List.mem_append, List.mem_map] at h
    rcases h with ⟨v, hv, rfl⟩ | h
    · exact ⟨w, v, rfl, List.mem_cons_self .., List.mem_cons_of_mem _ (List.mem_filter.1 hv).1⟩
    · obtain ⟨a, b, e, ha, hb⟩ := bkP2_mem A l h
      exact ⟨a, b, e, List.mem_cons_of_mem _ ha, List.mem_cons_of_mem _ hb⟩
/-- all that is weighed, up to n works -/
def bkSeq (n : Int) (A : List Int) : List (List Int) := (if 1 ≤ n then A.map fun w => [w] else []) ++ (if 2 ≤ n then bkP2 A else [])
def bkPuA (N : Int → Int) (s : Int) : List Int := bkCd (fun w => bkMay N s w) 72 72
def bkPuB (N : Int → Int) (s : Int) : List Int := bkCd (fun w => bkEf N w && bkMay N s w) 72 72
def bkPu (N : Int → Int) (s n : Int) : Int × List Int := (bkSeq n (bkPuA N s)).foldl (bkPs N s) (bkVal N [] s, [])
theorem bkPu_B {N : Int → Int} (hN : bkMd N) (s n : Int) : (bkSeq n (bkPuB N s)).foldl (bkPs N s) (bkVal N [] s, []) = bkPu N s n := by
  have eB : bkPuB N s = (bkPuA N s).filter (bkEf N) := bkCd_filter _ _ _ _
  have d1 : ∀ w, bkEf N w = false → bkVal N [w] s = bkVal N [] s := fun w h => bkVal_drop hN (A := []) (B := []) h s
  have hs1 : ∀ st : Int × List Int, bkVal N [] s ≤ st.1 → (((bkPuA N s).filter (bkEf N)).map fun w => [w]).foldl (bkPs N s) st = ((bkPuA N s).map fun w => [w]).foldl (bkPs N s) st := fun st hst => by
    have := bkPs_drop N s (fun l => l.all (bkEf N)) ((bkPuA N s).map fun w => [w]) st fun l hl hq => by
      rw [List.mem_map] at hl
      obtain ⟨w, -, rfl⟩ := hl
      have : bkEf N w = false := by simpa using hq
      rw [d1 w this]
      exact hst
    rw [← this, List.filter_map]
    congr 2
    congr 1
    funext w
    simp
  unfold bkPu bkSeq
  rw [eB, List.foldl_append, List.foldl_append]
  by_cases h1 : 1 ≤ n
  · rw [if_pos h1, if_pos h1, hs1 _ (Int.le_refl _)]
    by_cases h2 : 2 ≤ n
    · rw [if_pos h2, if_pos h2, bkP2_filter]
      refine bkPs_drop N s _ _ _ fun l hl hq => ?_
      obtain ⟨w, v, rfl, hw, hv⟩ := bkP2_mem _ _ hl
      have hge := (bkPs_ge N s ((bkPuA N s).map fun w => [w]) (bkVal N [] s, [])).2
      cases e1 : bkEf N w
      · have e := bkVal_drop hN (A := []) (B := [v]) e1 s
        have := hge [v] (List.mem_map.2 ⟨v, hv, rfl⟩)
        rw [show ([w, v] : List Int) = [] ++ w :: [v] by rfl, e]
        exact this
      · cases e2 : bkEf N v
        · have e := bkVal_drop hN (A := [w]) (B := []) e2 s
          have := hge [w] (List.mem_map.2 ⟨w, hw, rfl⟩)
          rw [show ([w, v] : List Int) = [w] ++ v :: [] by rfl, e]
          exact this
        · simp [e1, e2] at hq
    · rw [if_neg h2, if_neg h2]
  · rw [if_neg h1, if_neg h1, if_neg (by omega), if_neg (by omega)]
theorem bkPu_ok {N : Int → Int} {s : Int} : ∀ w, w ∈ bkPuA N s → 0 ≤ w ∧ w < 72 ∧ bkMay N s w = true := fun w hw => by
  have := bkCd_mem _ _ _ _ hw
  exact ⟨by omega, this.2.1, this.2.2⟩
/-! The class weighs. -/
/-- what the class keeps of it -/
def bkPuC (M : bk_M) (st : Int × List Int) : Prop := M 7 0 13 = st.1 ∧ M 7 0 5 = st.2.length ∧ st.2.length ≤ 2 ∧ ∀ i : Nat, i < st.2.length → M 42 0 i = st.2.getD i 0
def bkA88 (k a : Nat) : Prop := ((k = 8 ∨ k = 45 ∨ k = 46 ∨ k = 47 ∨ k = 48) ∧ a = 1) ∨ ((k = 7 ∨ k = 42) ∧ a = 0)
theorem S88 {d p : Nat} {s w v : Int} {M : bk_M} {N : Int → Int} {L : List Int} {st : Int × List Int} (hR : bkRel M p N) (hg : ∀ c, 0 ≤ c → c < 36 → M 45 1 c = bkRL N L (85 + c)) (hL : bkLeg N L) (hP : bkPuC M st) (hwv : (v = -2 ∧ L = [w]) ∨ (v ≠ -2 ∧ L = [w, v])) :
    bk_C (d + 3) 0 88 [bk_c 7 0, bk_c 5 p, bk_i s, bk_i w, bk_i v] M (fun t _ M' => t = 0 ∧ bkFr bkA88 M M' ∧ (∀ j, j ≠ 5 → j ≠ 13 → M' 7 0 j = M 7 0 j) ∧ (∀ c, 0 ≤ c → c < 36 → M' 45 1 c = bkRL N L (85 + c)) ∧ bkPuC M' (bkPs N s st L)) := by
  rw [E_88]
  refine bk_use (S35L (d := d) hR hg hL) ?_
  rintro r M2 ⟨F, B⟩
  have R2 : bkRel M2 p N := bkRel_fr hR fun k hk => F k p (by unfold bkA35; omega)
  have e7 : M2 7 0 = M 7 0 := F 7 0 (by unfold bkA35; omega)
  have e42 : M2 42 0 = M 42 0 := F 42 0 (by unfold bkA35; omega)
  have F2 : bkFr bkA88 M M2 := bkFr_mono F fun k a w => by unfold bkA35 at w; unfold bkA88; omega
  have g2 : ∀ c, 0 ≤ c → c < 36 → M2 45 1 c = bkRL N L (85 + c) := fun c q1 q2 => by rw [F 45 1 (by unfold bkA35; omega)]; exact hg c q1 q2
  obtain ⟨p1, p2, p3, p4⟩ := hP
  have ev : ∀ Q : bk_Q, bk_C (d + 2) 0 49 [bk_c 5 p, bk_c 46 1, bk_i s] M2 Q ↔ Q 0 (bkVal N L s) M2 := fun Q => S49B R2 B
  rw [ev, e7, p1]
  refine ⟨rfl, rfl, fun z => ⟨rfl, F2, fun j _ _ => rfl, g2, ?_⟩, fun z => ?_⟩
  · have : bkPs N s st L = st := by unfold bkPs; rw [if_neg (by omega)]
    rw [this]
    exact ⟨by rw [e7, p1], by rw [e7, p2], p3, fun i hi => by rw [e42]; exact p4 i hi⟩
  · have e : bkPs N s st L = (bkVal N L s, L) := by unfold bkPs; rw [if_pos (by omega)]
    rw [e]
    intro M7 hM7
    refine ⟨by omega, ?_⟩
    intro M8 hM8
    refine ⟨by omega, ?_⟩
    intro M9 hM9
    have F9 : bkFr bkA88 M M9 := by rw [hM9, hM8, hM7]; exact bkFr_up (bkFr_up (bkFr_up F2 (by unfold bkA88; omega)) (by unfold bkA88; omega)) (by unfold bkA88; omega)
    have e97 : ∀ j, M9 7 0 j = if j = 13 then bkVal N L s else M 7 0 j := fun j => by rw [hM9, bk_up_f (by decide), hM8, bk_up_f (by decide), hM7, bk_up_w, e7]
    have e945 : M9 45 1 = M2 45 1 := by rw [hM9, bk_up_f (by decide), hM8, bk_up_f (by decide), hM7, bk_up_f (by decide)]
    have e90 : M9 42 0 0 = w := by rw [hM9, bk_up_s (by decide), hM8, bk_up_e]
    have e91 : M9 42 0 1 = v := by rw [hM9, bk_up_e]
    have hL2 : L.length ≤ 2 ∧ (∀ i : Nat, i < L.length → M9 42 0 i = L.getD i 0) ∧ (v = -2 → L.length = 1) ∧ (v ≠ -2 → L.length = 2) := by
      rcases hwv with ⟨ew, rfl⟩ | ⟨ew, rfl⟩
      · refine ⟨by simp, fun i hi => ?_, fun _ => rfl, fun q => absurd ew q⟩
        have : i = 0 := by simp at hi; exact hi
        subst this
        exact e90
      · refine ⟨by simp, fun i hi => ?_, fun q => absurd q ew, fun _ => rfl⟩
        have : i = 0 ∨ i = 1 := by simp at hi; omega
        rcases this with rfl | rfl
        · exact e90
        · exact e91
    refine ⟨fun z2 => ?_, fun z2 => ?_⟩
    · intro M10 hM10
      refine ⟨rfl, by rw [hM10]; exact bkFr_up F9 (by unfold bkA88; omega), fun j q5 q13 => by rw [hM10, bk_up_s q5, e97, if_neg q13], fun c q1 q2 => by rw [hM10, bk_up_f (by decide), e945]; exact g2 c q1 q2, ?_, ?_, hL2.1, fun i hi => ?_⟩
      · rw [hM10, bk_up_s (by decide), e97, if_pos rfl]
      · rw [hM10, bk_up_e, hL2.2.2.2 z2]; rfl
      · rw [hM10, bk_up_f (by decide)]; exact hL2.2.1 i hi
    · intro M10 hM10
      refine ⟨rfl, by rw [hM10]; exact bkFr_up F9 (by unfold bkA88; omega), fun j q5 q13 => by rw [hM10, bk_up_s q5, e97, if_neg q13], fun c q1 q2 => by rw [hM10, bk_up_f (by decide), e945]; exact g2 c q1 q2, ?_, ?_, hL2.1, fun i hi => ?_⟩
      · rw [hM10, bk_up_s (by decide), e97, if_pos rfl]
      · rw [hM10, bk_up_e, hL2.2.2.1 (Decidable.not_not.1 z2)]; rfl
      · rw [hM10, bk_up_f (by decide)]; exact hL2.2.1 i hi
theorem LG_87_49 {d : Nat} {Q : bk_Q} (i1 : Nat) (x2 : Int) (x3 : Int) (x4 : Int) (v5 : bk_V) (M : bk_M) : bk_wp (bk_C d) P_87 Q 0 49 [bk_c 7 0, bk_c 5 i1, bk_i x2, bk_i x3, bk_i x4, v5] [] M ↔ ((M 7 0 (8 : Int) ≤ x4 → bk_wp (bk_C d) P_87 Q 0 109 [bk_c 7 0, bk_c 5 i1, bk_i x2, bk_i x3, bk_i (0 : Int), v5] [] M) ∧ (¬ (M 7 0 (8 : Int) ≤ x4) → ((x3 < (1 : Int) → bk_wp (bk_C d) P_87 Q 0 109 [bk_c 7 0, bk_c 5 i1, bk_i x2, bk_i x3, bk_i (0 : Int), v5] [] M) ∧ (¬ (x3 < (1 : Int)) → ((0 : Int) ≤ x4 ∧ x4 < (72 : Int)) ∧ bk_C d 0 82 [bk_c 7 0, bk_i (M 43 0 x4)] M (fun t3 r1 M2 => t3 = 0 ∧ ((0 : Int) ≤ x4 ∧ x4 < (72 : Int)) ∧ bk_C d 0 88 [bk_c 7 0, bk_c 5 i1, bk_i x2, bk_i (M2 43 0 x4), bk_i (-2 : Int)] M2 (fun t6 r4 M5 => t6 = 0 ∧ ((0 : Int) ≤ x4 ∧ x4 < (72 : Int)) ∧ bk_C d 0 83 [bk_c 7 0, bk_i (M5 43 0 x4)] M5 (fun t9 r7 M8 => t9 = 0 ∧ bk_r32 (x4 + (1 : Int)) ∧ bk_wp (bk_C d) P_87 Q 0 49 [bk_c 7 0, bk_c 5 i1, bk_i x2, bk_i x3, bk_i (x4 + (1 : Int)), v5] [] M8))))))) := bk_iff [49, 109, 140] 40
theorem LG_87_109 {d : Nat} {Q : bk_Q} (i1 : Nat) (x2 : Int) (x3 : Int) (x4 : Int) (v5 : bk_V) (M : bk_M) : bk_wp (bk_C d) P_87 Q 0 109 [bk_c 7 0, bk_c 5 i1, bk_i x2, bk_i x3, bk_i x4, v5] [] M ↔ ((M 7 0 (8 : Int) ≤ x4 → Q 0 (M 7 0 (13 : Int)) M) ∧ (¬ (M 7 0 (8 : Int) ≤ x4) → ((x3 < (2 : Int) → Q 0 (M 7 0 (13 : Int)) M) ∧ (¬ (x3 < (2 : Int)) → ((0 : Int) ≤ x4 ∧ x4 < (72 : Int)) ∧ bk_C d 0 82 [bk_c 7 0, bk_i (M 43 0 x4)] M (fun t3 r1 M2 => t3 = 0 ∧ bk_r32 (x4 + (1 : Int)) ∧ bk_wp (bk_C d) P_87 Q 0 140 [bk_c 7 0, bk_c 5 i1, bk_i x2, bk_i x3, bk_i x4, bk_i (x4 + (1 : Int))] [] M2))))) := bk_iff [49, 109, 140] 40
theorem bkP2_cons (w : Int) (A : List Int) : bkP2 (w :: A) = (A.filter fun v => decide (v % 36 ≠ w % 36)).map (fun v => [w, v]) ++ bkP2 A := rfl
/-- what stays while the class pushes -/
def bkPuI (M0 M : bk_M) (N : Int → Int) (A : List Int) (st : Int × List Int) : Prop :=
  bkFr (fun k a => bkA88 k a ∨ (k = 43 ∧ a = 0)) M0 M ∧ (∀ j, j ≠ 5 → j ≠ 8 → j ≠ 13 → M 7 0 j = M0 7 0 j) ∧ bkWsL M A ∧ bkPuC M st
theorem L87_140 {d p : Nat} {Q : bk_Q} {s n : Int} {M0 M : bk_M} {N : Int → Int} {A : List Int} {i : Nat} {st : Int × List Int} (hR : bkRel M0 p N) (hA72 : A.length ≤ 72) (hA : ∀ w, w ∈ A → 0 ≤ w ∧ w < 72 ∧ bkMay N s w = true) (hAs : A.Pairwise (· < ·)) (hi : i < A.length) (hI : bkPuI M0 M N A st) (hg : ∀ c, 0 ≤ c → c < 36 → M 45 1 c = bkRL N [A.getD i 0] (85 + c))
    (hQ : ∀ M' v5, bkPuI M0 M' N A (((((A.drop (i + 1)).filter fun v => decide (v % 36 ≠ A.getD i 0 % 36)).map fun v => [A.getD i 0, v])).foldl (bkPs N s) st) → (∀ c, 0 ≤ c → c < 36 → M' 45 1 c = bkRL N [] (85 + c)) → bk_wp (bk_C (d + 3)) P_87 Q 0 109 [bk_c 7 0, bk_c 5 p, bk_i s, bk_i n, bk_i ((i : Int) + 1), v5] [] M') :
    bk_wp (bk_C (d + 3)) P_87 Q 0 140 [bk_c 7 0, bk_c 5 p, bk_i s, bk_i n, bk_i i, bk_i ((i : Int) + 1)] [] M := by
  have hN := bkRel_md hR
  have hwm : A.getD i 0 ∈ A := by simp [hi]
  have hw := hA _ hwm
  have hLw : bkLeg N [A.getD i 0] := bkLeg_snoc (L := []) (bkLeg_nil hN) (by rw [bkRL_nil]; exact hw.2.2) ⟨hw.1, hw.2.1⟩
  refine bk_loopS (W := fun j M1 => bk_wp (bk_C (d + 3)) P_87 Q 0 140 [bk_c 7 0, bk_c 5 p, bk_i s, bk_i n, bk_i i, bk_i j] [] M1) (s := (i : Int) + 1) (n := (A.length : Int))
    (fun j M1 => ∃ st1, bkPuI M0 M1 N A st1 ∧ (∀ c, 0 ≤ c → c < 36 → M1 45 1 c = bkRL N [A.getD i 0] (85 + c)) ∧ ((((A.drop j.toNat).filter fun v => decide (v % 36 ≠ A.getD i 0 % 36)).map fun v => [A.getD i 0, v]).foldl (bkPs N s) st1 = (((A.drop (i + 1)).filter fun v => decide (v % 36 ≠ A.getD i 0 % 36)).map fun v => [A.getD i 0, v]).foldl (bkPs N s) st)) (by omega) ?_ ?_ (M := M) ⟨st, hI, hg, by rw [show ((i : Int) + 1).toNat = i + 1 by omega]⟩
  · rintro j M1 h0 h1 ⟨st1, ⟨F, k7, W, P⟩, G, E⟩ ih
    have hj : j.toNat < A.length := by omega
    have ej : ((j.toNat : Nat) : Int) = j := by omega
    have R1 : bkRel M1 p N := bkRel_fr hR fun k hk => F k p (by unfold bkA88; omega)
    have ei : M1 43 0 i = A.getD i 0 := W.2 i hi
    have ejj : M1 43 0 j = A.getD j.toNat 0 := by have := W.2 j.toNat hj; rwa [ej] at this
    have hvm : A.getD j.toNat 0 ∈ A := by simp [hj]
    have hv := hA _ hvm
    have hlt : A.getD i 0 < A.getD j.toNat 0 := by
      have hp := List.pairwise_iff_getElem.1 hAs i j.toNat hi hj (by omega)
      simpa [hi, hj] using hp
    rw [bk_drop hj] at E
    generalize hwn : A.getD i 0 = w at *
    generalize hvn : A.getD j.toNat 0 = v at *
    rw [L_87_140, W.1, ei, ejj]
    unfold bk_r32
    refine ⟨fun z => absurd z (by omega), fun _ => ⟨by omega, by omega, by omega, fun z => ⟨by omega, ?_⟩, fun z => ⟨by omega, ?_⟩⟩⟩
    · rw [List.filter_cons_of_neg (by simp; omega)] at E
      exact ih M1 ⟨st1, ⟨F, k7, W, P⟩, G, by rw [show (j + 1).toNat = j.toNat + 1 by omega]; exact E⟩
    · rw [List.filter_cons_of_pos (by simp; omega), List.map_cons, List.foldl_cons] at E
      have hm2 : bkMay (bkRL N [w]) s v = true := by
        have := bkMay_other (N := N) (L := []) (n := w) (m := v) (s := s) (by omega)
        rw [bkRL_nil] at this
        rw [show ([w] : List Int) = [] ++ [w] by rfl, this]
        exact hv.2.2
      have hL2 : bkLeg N ([w] ++ [v]) := bkLeg_snoc hLw hm2 ⟨hv.1, hv.2.1⟩
      rw [S82 ⟨hv.1, hv.2.1⟩ (bkGr_at G hLw v)]
      refine ⟨rfl, by omega, by omega, ?_⟩
      have F5 : bkFr (fun k a => bkA88 k a ∨ (k = 43 ∧ a = 0)) M0 (bk_up M1 45 1 (v % 36) (M1 45 1 (v % 36) + bkWk v)) := bkFr_up F (by unfold bkA88; omega)
      have R5 : bkRel (bk_up M1 45 1 (v % 36) (M1 45 1 (v % 36) + bkWk v)) p N := bkRel_fr hR fun k hk => F5 k p (by unfold bkA88; omega)
      have P5 : bkPuC (bk_up M1 45 1 (v % 36) (M1 45 1 (v % 36) + bkWk v)) st1 := ⟨by rw [bk_up_f (by decide)]; exact P.1, by rw [bk_up_f (by decide)]; exact P.2.1, P.2.2.1, fun q hq => by rw [bk_up_f (by decide)]; exact P.2.2.2 q hq⟩
      rw [show bk_up M1 45 1 (v % 36) (M1 45 1 (v % 36) + bkWk v) 43 0 i = w by rw [bk_up_f (by decide), ei], show bk_up M1 45 1 (v % 36) (M1 45 1 (v % 36) + bkWk v) 43 0 j = v by rw [bk_up_f (by decide), ejj]]
      refine bk_use (S88 (d := d) (s := s) R5 (bkGr_up G) hL2 P5 (.inr ⟨by omega, rfl⟩)) ?_
      rintro r M8 ⟨F8, k8, G8, P8⟩
      have e843 : M8 43 0 j = v := by rw [F8 43 0 (by unfold bkA88; omega), bk_up_f (by decide), ejj]
      rw [e843, S83 ⟨hv.1, hv.2.1⟩ (bkGr_at G8 hL2 v)]
      have F9 : bkFr (fun k a => bkA88 k a ∨ (k = 43 ∧ a = 0)) M0 (bk_up M8 45 1 (v % 36) (M8 45 1 (v % 36) - bkWk v)) := bkFr_up (bkFr_trans F5 (bkFr_mono F8 fun k a w => .inl w)) (by unfold bkA88; omega)
      refine ⟨rfl, by omega, rfl, by omega, ih _ ⟨bkPs N s st1 ([w] ++ [v]), ⟨F9, fun q q5 q8 q13 => ?_, ⟨?_, fun q hq => ?_⟩, ?_, ?_, P8.2.2.1, fun q hq => ?_⟩, bkGr_dn G8, by rw [show (j + 1).toNat = j.toNat + 1 by omega]; exact E⟩⟩
      · rw [bk_up_f (by decide), k8 q q5 q13, bk_up_f (by decide)]; exact k7 q q5 q8 q13
      · rw [bk_up_f (by decide), k8 8 (by decide) (by decide), bk_up_f (by decide)]; exact W.1
      · rw [bk_up_f (by decide), F8 43 0 (by unfold bkA88; omega), bk_up_f (by decide)]; exact W.2 q hq
      · rw [bk_up_f (by decide)]; exact P8.1
      · rw [bk_up_f (by decide)]; exact P8.2.1
      · rw [bk_up_f (by decide)]; exact P8.2.2.2 q hq
  · rintro M1 ⟨st1, ⟨F, k7, W, P⟩, G, E⟩
    have ei : M1 43 0 i = A.getD i 0 := W.2 i hi
    rw [Int.toNat_natCast, List.drop_length] at E
    have E : st1 = _ := E
    rw [L_87_140, W.1, ei]
    unfold bk_r32
    refine ⟨fun _ => ⟨by omega, ?_⟩, fun z => absurd (Int.le_refl _) z⟩
    rw [S83 ⟨hw.1, hw.2.1⟩ (bkGr_at G hLw _)]
    refine ⟨rfl, by omega, hQ _ _ ⟨bkFr_up F (by unfold bkA88; omega), fun q q5 q8 q13 => ?_, ⟨?_, fun q hq => ?_⟩, ?_⟩ (bkGr_dn (L := []) G)⟩
    · rw [bk_up_f (by decide)]; exact k7 q q5 q8 q13
    · rw [bk_up_f (by decide)]; exact W.1
    · rw [bk_up_f (by decide)]; exact W.2 q hq
    · rw [← E]
      exact ⟨by rw [bk_up_f (by decide)]; exact P.1, by rw [bk_up_f (by decide)]; exact P.2.1, P.2.2.1, fun q hq => by rw [bk_up_f (by decide)]; exact P.2.2.2 q hq⟩
/-- pushed() of the class: the most, what it keeps -/
def bkPuK (st : Int × List Int) (n : Int) (T : Int → Int) : Prop := st.2.length ≤ 2 ∧ n = st.2.length ∧ ∀ i : Nat, i < st.2.length → T i = st.2.getD i 0
theorem S87 {d p : Nat} {s n : Int} {M : bk_M} {N : Int → Int} (hR : bkRel M p N) (hs : 0 ≤ s ∧ s ≤ 1) (hn : 0 ≤ n ∧ n ≤ 2) :
    bk_C (d + 4) 0 87 [bk_c 7 0, bk_c 5 p, bk_i s, bk_i n] M (fun t r M' => t = 0 ∧ bkFr (fun k a => bkA88 k a ∨ (k = 43 ∧ a = 0)) M M' ∧ (∀ j, j ≠ 5 → j ≠ 8 → j ≠ 13 → M' 7 0 j = M 7 0 j) ∧ r = (bkPu N s n).1 ∧ bkPuK (bkPu N s n) (M' 7 0 5) (M' 42 0)) := by
  have hN := bkRel_md hR
  have c3 := hR.2.2.2.2.1
  have hlen : (bkPuB N s).length ≤ 72 := bkCd_len _ _ _
  have hA : ∀ w, w ∈ bkPuB N s → 0 ≤ w ∧ w < 72 ∧ bkMay N s w = true := fun w hw => by
    have h1 := bkCd_mem _ _ _ _ hw
    have h2 : bkEf N w = true ∧ bkMay N s w = true := by
      have := h1.2.2
      rwa [Bool.and_eq_true] at this
    exact ⟨by omega, h1.2.1, h2.2⟩
  have hAs : (bkPuB N s).Pairwise (· < ·) := bkCd_pair _ _ _
  rw [← bkPu_B hN s n]
  rw [E_87, S34]
  refine ⟨rfl, ?_⟩
  have R1 : bkRel (bk_cpy M 28 p 0 45 1 0 36) p N := bkRel_fr hR fun k hk => bk_cpy_o (by omega)
  have g1 : ∀ c, 0 ≤ c → c < 36 → bk_cpy M 28 p 0 45 1 0 36 45 1 c = bkRL N [] (85 + c) := fun c q1 q2 => by
    rw [bkRL_nil, bk_cpy_at, if_pos (by omega), Int.zero_add, Int.sub_zero, c3 c q1 q2]
  refine bk_use (S79 (d := d) R1 g1 hs (by omega)) ?_
  rintro r M5 ⟨F5, k5, W5⟩
  rw [bkRL_nil] at W5
  have W5 : bkWsL M5 (bkPuB N s) := W5
  refine ⟨rfl, ?_⟩
  intro M7 hM7
  have F7 : bkFr (fun k a => bkA88 k a ∨ (k = 43 ∧ a = 0)) M M7 := by
    rw [hM7]
    refine bkFr_up (bkFr_trans (bkFr_cpy (bkFr_refl _ _) (by unfold bkA88; omega)) (bkFr_mono F5 fun k a w => by unfold bkA88; omega)) (by unfold bkA88; omega)
  have R7 : bkRel M7 p N := bkRel_fr hR fun k hk => F7 k p (by unfold bkA88; omega)
  have g7 : ∀ c, 0 ≤ c → c < 36 → M7 45 1 c = bkRL N [] (85 + c) := fun c q1 q2 => by rw [hM7, bk_up_f (by decide), F5 45 1 (by omega)]; exact g1 c q1 q2
  refine bk_use (S35L (d := d + 1) R7 g7 (bkLeg_nil hN)) ?_
  rintro r M9 ⟨F9, B9⟩
  have R9 : bkRel M9 p N := bkRel_fr R7 fun k hk => F9 k p (by unfold bkA35; omega)
  have ev : ∀ Q : bk_Q, bk_C (d + 3) 0 49 [bk_c 5 p, bk_c 46 1, bk_i s] M9 Q ↔ Q 0 (bkVal N [] s) M9 := fun Q => S49B R9 B9
  rw [ev]
  refine ⟨rfl, rfl, ?_⟩
  intro M14 hM14
  have F14 : bkFr (fun k a => bkA88 k a ∨ (k = 43 ∧ a = 0)) M M14 := by
    rw [hM14]
    exact bkFr_up (bkFr_trans F7 (bkFr_mono F9 fun k a w => by unfold bkA35 at w; unfold bkA88; omega)) (by unfold bkA88; omega)
  have e7 : ∀ j, M14 7 0 j = if j = 13 then bkVal N [] s else if j = 5 then 0 else M5 7 0 j := fun j => by
    rw [hM14, bk_up_w, F9 7 0 (by unfold bkA35; omega), hM7, bk_up_w]
  have I14 : bkPuI M M14 N (bkPuB N s) (bkVal N [] s, []) := by
    refine ⟨F14, fun j q5 q8 q13 => ?_, ⟨?_, fun i hi => ?_⟩, ?_, ?_, by show (0 : Nat) ≤ 2; omega, fun i hi => absurd hi (by simp)⟩
    · rw [e7, if_neg q13, if_neg q5, k5 j q8, bk_cpy_o (by omega)]
    · rw [e7, if_neg (by decide), if_neg (by decide)]; exact W5.1
    · rw [hM14, bk_up_f (by decide), F9 43 0 (by unfold bkA35; omega), hM7, bk_up_f (by decide)]; exact W5.2 i hi
    · rw [e7, if_pos rfl]
    · rw [e7, if_neg (by decide), if_pos rfl]; rfl
  have g14 : ∀ c, 0 ≤ c → c < 36 → M14 45 1 c = bkRL N [] (85 + c) := fun c q1 q2 => by rw [hM14, bk_up_f (by decide), F9 45 1 (by unfold bkA35; omega)]; exact g7 c q1 q2
  generalize bkPuB N s = A at *
  -- two works
  have two : ∀ (st : Int × List Int) (M1 : bk_M) (v5 : bk_V), bkPuI M M1 N A st → (∀ c, 0 ≤ c → c < 36 → M1 45 1 c = bkRL N [] (85 + c)) → (if 2 ≤ n then bkP2 A else []).foldl (bkPs N s) st = (bkSeq n A).foldl (bkPs N s) (bkVal N [] s, []) →
      bk_wp (bk_C (d + 3)) P_87 (fun t r M' => t = 0 ∧ bkFr (fun k a => bkA88 k a ∨ (k = 43 ∧ a = 0)) M M' ∧ (∀ j, j ≠ 5 → j ≠ 8 → j ≠ 13 → M' 7 0 j = M 7 0 j) ∧ r = ((bkSeq n A).foldl (bkPs N s) (bkVal N [] s, [])).1 ∧ bkPuK ((bkSeq n A).foldl (bkPs N s) (bkVal N [] s, [])) (M' 7 0 5) (M' 42 0)) 0 109 [bk_c 7 0, bk_c 5 p, bk_i s, bk_i n, bk_i 0, v5] [] M1 := by
    intro st M1 v5 I1 G1 E1
    have fin : ∀ (M2 : bk_M) (st2 : Int × List Int), bkPuI M M2 N A st2 → st2 = (bkSeq n A).foldl (bkPs N s) (bkVal N [] s, []) → (0 : Nat) = 0 ∧ bkFr (fun k a => bkA88 k a ∨ (k = 43 ∧ a = 0)) M M2 ∧ (∀ j, j ≠ 5 → j ≠ 8 → j ≠ 13 → M2 7 0 j = M 7 0 j) ∧ M2 7 0 13 = ((bkSeq n A).foldl (bkPs N s) (bkVal N [] s, [])).1 ∧ bkPuK ((bkSeq n A).foldl (bkPs N s) (bkVal N [] s, [])) (M2 7 0 5) (M2 42 0) := by
      rintro M2 st2 ⟨F, k7, W, P⟩ rfl
      exact ⟨rfl, F, k7, P.1, P.2.2.1, P.2.1, P.2.2.2⟩
    by_cases h2 : 2 ≤ n
    · rw [if_pos h2] at E1
      have key := bk_loopS (W := fun i M1 => ∀ v5, bk_wp (bk_C (d + 3)) P_87 (fun t r M' => t = 0 ∧ bkFr (fun k a => bkA88 k a ∨ (k = 43 ∧ a = 0)) M M' ∧ (∀ j, j ≠ 5 → j ≠ 8 → j ≠ 13 → M' 7 0 j = M 7 0 j) ∧ r = ((bkSeq n A).foldl (bkPs N s) (bkVal N [] s, [])).1 ∧ bkPuK ((bkSeq n A).foldl (bkPs N s) (bkVal N [] s, [])) (M' 7 0 5) (M' 42 0)) 0 109 [bk_c 7 0, bk_c 5 p, bk_i s, bk_i n, bk_i i, v5] [] M1) (s := 0) (n := (A.length : Int))
        (fun i M1 => ∃ st1, bkPuI M M1 N A st1 ∧ (∀ c, 0 ≤ c → c < 36 → M1 45 1 c = bkRL N [] (85 + c)) ∧ (bkP2 (A.drop i.toNat)).foldl (bkPs N s) st1 = (bkSeq n A).foldl (bkPs N s) (bkVal N [] s, [])) (by omega) ?_ ?_ (M := M1) ⟨st, I1, G1, E1⟩
      · exact key _
      · rintro i M2 h0 h1 ⟨st1, I2, G2, E2⟩ ih v5
        obtain ⟨F, k7, W, P⟩ := id I2
        have hi : i.toNat < A.length := by omega
        have ei0 : ((i.toNat : Nat) : Int) = i := by omega
        have ei : M2 43 0 i = A.getD i.toNat 0 := by have := W.2 i.toNat hi; rwa [ei0] at this
        have hw := hA (A.getD i.toNat 0) (by simp [hi])
        rw [bk_drop hi, bkP2_cons, List.foldl_append] at E2
        rw [LG_87_109, W.1, ei]
        refine ⟨fun z => absurd z (by omega), fun _ => ⟨fun z => absurd z (by omega), fun _ => ⟨by omega, ?_⟩⟩⟩
        rw [S82 ⟨hw.1, hw.2.1⟩ (bkGr_at G2 (bkLeg_nil hN) _)]
        refine ⟨rfl, by unfold bk_r32; omega, ?_⟩
        have call := L87_140 (d := d) (p := p) (s := s) (n := n) (M0 := M) (M := bk_up M2 45 1 (A.getD i.toNat 0 % 36) (M2 45 1 (A.getD i.toNat 0 % 36) + bkWk (A.getD i.toNat 0))) (N := N) (A := A) (i := i.toNat) (st := st1) (Q := fun t r M' => t = 0 ∧ bkFr (fun k a => bkA88 k a ∨ (k = 43 ∧ a = 0)) M M' ∧ (∀ j, j ≠ 5 → j ≠ 8 → j ≠ 13 → M' 7 0 j = M 7 0 j) ∧ r = ((bkSeq n A).foldl (bkPs N s) (bkVal N [] s, [])).1 ∧ bkPuK ((bkSeq n A).foldl (bkPs N s) (bkVal N [] s, [])) (M' 7 0 5) (M' 42 0)) hR hlen hA hAs hi
          ⟨bkFr_up F (by unfold bkA88; omega), fun q q5 q8 q13 => by rw [bk_up_f (by decide)]; exact k7 q q5 q8 q13, ⟨by rw [bk_up_f (by decide)]; exact W.1, fun q hq => by rw [bk_up_f (by decide)]; exact W.2 q hq⟩, by rw [bk_up_f (by decide)]; exact P.1, by rw [bk_up_f (by decide)]; exact P.2.1, P.2.2.1, fun q hq => by rw [bk_up_f (by decide)]; exact P.2.2.2 q hq⟩ (bkGr_up (L := []) G2)
          (fun M' v5 I' G' => ?_)
        · rw [ei0] at call
          exact call
        · rw [ei0]
          exact ih M' ⟨_, I', G', by rw [show (i + 1).toNat = i.toNat + 1 by omega]; exact E2⟩ v5
      · rintro M2 ⟨st1, I2, G2, E2⟩ v5
        rw [Int.toNat_natCast, List.drop_length] at E2
        rw [LG_87_109, I2.2.2.1.1]
        exact ⟨fun _ => fin M2 st1 I2 E2, fun z => absurd (Int.le_refl _) z⟩
    · rw [if_neg h2] at E1
      rw [LG_87_109, I1.2.2.1.1]
      exact ⟨fun _ => fin M1 st I1 E1, fun z => ⟨fun _ => fin M1 st I1 E1, fun w => absurd w (by omega)⟩⟩
  by_cases h1 : 1 ≤ n
  · have key := bk_loopS (W := fun i M1 => ∀ v5, bk_wp (bk_C (d + 3)) P_87 (fun t r M' => t = 0 ∧ bkFr (fun k a => bkA88 k a ∨ (k = 43 ∧ a = 0)) M M' ∧ (∀ j, j ≠ 5 → j ≠ 8 → j ≠ 13 → M' 7 0 j = M 7 0 j) ∧ r = ((bkSeq n A).foldl (bkPs N s) (bkVal N [] s, [])).1 ∧ bkPuK ((bkSeq n A).foldl (bkPs N s) (bkVal N [] s, [])) (M' 7 0 5) (M' 42 0)) 0 49 [bk_c 7 0, bk_c 5 p, bk_i s, bk_i n, bk_i i, v5] [] M1) (s := 0) (n := (A.length : Int))
      (fun i M1 => ∃ st1, bkPuI M M1 N A st1 ∧ (∀ c, 0 ≤ c → c < 36 → M1 45 1 c = bkRL N [] (85 + c)) ∧ ((A.drop i.toNat).map fun w => [w]).foldl (bkPs N s) st1 = (A.map fun w => [w]).foldl (bkPs N s) (bkVal N [] s, [])) (by omega) ?_ ?_ (M := M14) ⟨_, I14, g14, rfl⟩
    · exact key _
    · rintro i M2 h0 hi1 ⟨st1, I2, G2, E2⟩ ih v5
      obtain ⟨F, k7, W, P⟩ := id I2
      have hi : i.toNat < A.length := by omega
      have ei0 : ((i.toNat : Nat) : Int) = i := by omega
      have ei : M2 43 0 i = A.getD i.toNat 0 := by have := W.2 i.toNat hi; rwa [ei0] at this
      have hw := hA (A.getD i.toNat 0) (by simp [hi])
      have hL1 : bkLeg N ([] ++ [A.getD i.toNat 0]) := bkLeg_snoc (bkLeg_nil hN) (by rw [bkRL_nil]; exact hw.2.2) ⟨hw.1, hw.2.1⟩
      rw [bk_drop hi, List.map_cons, List.foldl_cons] at E2
      generalize A.getD i.toNat 0 = w at *
      rw [LG_87_49, W.1, ei]
      unfold bk_r32
      refine ⟨fun z => absurd z (by omega), fun _ => ⟨fun z => absurd z (by omega), fun _ => ⟨by omega, ?_⟩⟩⟩
      rw [S82 ⟨hw.1, hw.2.1⟩ (bkGr_at G2 (bkLeg_nil hN) _)]
      refine ⟨rfl, by omega, ?_⟩
      have F3 : bkFr (fun k a => bkA88 k a ∨ (k = 43 ∧ a = 0)) M (bk_up M2 45 1 (w % 36) (M2 45 1 (w % 36) + bkWk w)) := bkFr_up F (by unfold bkA88; omega)
      have R3 : bkRel (bk_up M2 45 1 (w % 36) (M2 45 1 (w % 36) + bkWk w)) p N := bkRel_fr hR fun k hk => F3 k p (by unfold bkA88; omega)
      have P3 : bkPuC (bk_up M2 45 1 (w % 36) (M2 45 1 (w % 36) + bkWk w)) st1 := ⟨by rw [bk_up_f (by decide)]; exact P.1, by rw [bk_up_f (by decide)]; exact P.2.1, P.2.2.1, fun q hq => by rw [bk_up_f (by decide)]; exact P.2.2.2 q hq⟩
      rw [show bk_up M2 45 1 (w % 36) (M2 45 1 (w % 36) + bkWk w) 43 0 i = w by rw [bk_up_f (by decide), ei]]
      refine bk_use (S88 (d := d) (s := s) R3 (bkGr_up G2) hL1 P3 (.inl ⟨rfl, rfl⟩)) ?_
      rintro r M8 ⟨F8, k8, G8, P8⟩
      have e843 : M8 43 0 i = w := by rw [F8 43 0 (by unfold bkA88; omega), bk_up_f (by decide), ei]
      rw [e843, S83 ⟨hw.1, hw.2.1⟩ (bkGr_at G8 hL1 w)]
      have F9 : bkFr (fun k a => bkA88 k a ∨ (k = 43 ∧ a = 0)) M (bk_up M8 45 1 (w % 36) (M8 45 1 (w % 36) - bkWk w)) := bkFr_up (bkFr_trans F3 (bkFr_mono F8 fun k a w => .inl w)) (by unfold bkA88; omega)
      refine ⟨rfl, by omega, rfl, by omega, ih _ ⟨bkPs N s st1 ([] ++ [w]), ⟨F9, fun q q5 q8 q13 => ?_, ⟨?_, fun q hq => ?_⟩, ?_, ?_, P8.2.2.1, fun q hq => ?_⟩, bkGr_dn G8, by rw [show (i + 1).toNat = i.toNat + 1 by omega]; exact E2⟩ _⟩
      · rw [bk_up_f (by decide), k8 q q5 q13, bk_up_f (by decide)]; exact k7 q q5 q8 q13
      · rw [bk_up_f (by decide), k8 8 (by decide) (by decide), bk_up_f (by decide)]; exact W.1
      · rw [bk_up_f (by decide), F8 43 0 (by unfold bkA88; omega), bk_up_f (by decide)]; exact W.2 q hq
      · rw [bk_up_f (by decide)]; exact P8.1
      · rw [bk_up_f (by decide)]; exact P8.2.1
      · rw [bk_up_f (by decide)]; exact P8.2.2.2 q hq
    · rintro M2 ⟨st1, I2, G2, E2⟩ v5
      rw [Int.toNat_natCast, List.drop_length] at E2
      have E2 : st1 = _ := E2
      rw [LG_87_49, I2.2.2.1.1]
      refine ⟨fun _ => two st1 M2 _ I2 G2 ?_, fun z => absurd (Int.le_refl _) z⟩
      rw [E2]
      unfold bkSeq
      rw [if_pos h1, List.foldl_append]
  · rw [LG_87_49, I14.2.2.1.1]
    have E0 : (if 2 ≤ n then bkP2 A else []).foldl (bkPs N s) (bkVal N [] s, []) = (bkSeq n A).foldl (bkPs N s) (bkVal N [] s, []) := by
      unfold bkSeq
      rw [if_neg h1]
      rfl
    exact ⟨fun _ => two _ M14 _ I14 g14 E0, fun z => ⟨fun _ => two _ M14 _ I14 g14 E0, fun w => absurd w (by omega)⟩⟩
def bkPush (N : Int → Int) (s n : Int) : Int := if 0 ≤ s ∧ s ≤ 1 ∧ 0 ≤ n ∧ n ≤ 2 then (bkPu N s n).1 else -1
/-- and what stays, when it was not as told -/
def bkPushK (N : Int → Int) (s n : Int) (k : Int) (T : Int → Int) (k' : Int) (T' : Int → Int) : Prop := if 0 ≤ s ∧ s ≤ 1 ∧ 0 ≤ n ∧ n ≤ 2 then bkPuK (bkPu N s n) k' T' else k' = k ∧ T' = T
theorem S86 {d p : Nat} {s n : Int} {M : bk_M} {N : Int → Int} (hR : bkRel M p N) (hp : (M 11 0 1).toNat = p) :
    bk_C (d + 5) 0 86 [bk_c 11 0, bk_i s, bk_i n] M (fun t r M' => t = 0 ∧ bkFr (fun k a => bkA88 k a ∨ (k = 43 ∧ a = 0)) M M' ∧ (∀ j, j ≠ 5 → j ≠ 8 → j ≠ 13 → M' 7 0 j = M 7 0 j) ∧ r = bkPush N s n ∧ bkPushK N s n (M 7 0 5) (M 42 0) (M' 7 0 5) (M' 42 0)) := by
  have hbad : ¬ (0 ≤ s ∧ s ≤ 1 ∧ 0 ≤ n ∧ n ≤ 2) → (0 : Nat) = 0 ∧ bkFr (fun k a => bkA88 k a ∨ (k = 43 ∧ a = 0)) M M ∧ (∀ j, j ≠ 5 → j ≠ 8 → j ≠ 13 → M 7 0 j = M 7 0 j) ∧ -1 = bkPush N s n ∧ bkPushK N s n (M 7 0 5) (M 42 0) (M 7 0 5) (M 42 0) := fun w => by
    unfold bkPush bkPushK
    rw [if_neg w, if_neg w]
    exact ⟨rfl, bkFr_refl _ _, fun _ _ _ _ => rfl, rfl, rfl, rfl⟩
  rw [E_86, S47, hp]
  by_cases hs : 0 ≤ s ∧ s ≤ 1
  · rw [if_pos hs]
    refine ⟨rfl, fun z => absurd z (by decide), fun _ => ⟨fun z => hbad (by omega), fun z => ⟨fun z2 => ?_, fun z2 => hbad (by omega)⟩⟩⟩
    refine bk_use (S87 (d := d) hR hs (by omega)) ?_
    rintro r M' ⟨F, k7, hr, hk⟩
    unfold bkPush bkPushK
    rw [if_pos (by omega), if_pos (by omega)]
    exact ⟨rfl, rfl, F, k7, hr, hk⟩
  · rw [if_neg hs]
    exact ⟨rfl, fun _ => hbad (fun w => hs ⟨w.1, w.2.1⟩), fun z => absurd rfl z⟩
