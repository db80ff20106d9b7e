/-! ran: the class keeps the first bed, and the sure rows. -/
theorem LG_98_4 {d : Nat} {Q : bk_Q} (i1 : Nat) (x2 : Int) (x3 : Int) (v4 : bk_V) (M : bk_M) : bk_wp (bk_C d) P_98 Q 0 4 [bk_c 1 0, bk_c 5 i1, bk_i x2, bk_i x3, v4] [] M ↔ ((M 5 i1 (1 : Int) ≤ x3 → Q 0 0 M) ∧ (¬ (M 5 i1 (1 : Int) ≤ x3) → bk_wp (bk_C d) P_98 Q 0 15 [bk_c 1 0, bk_c 5 i1, bk_i x2, bk_i x3, bk_i x2] [] M)) := bk_iff [4, 15] 40
theorem LG_99_2 {d : Nat} {Q : bk_Q} (i1 : Nat) (x2 : Int) (v3 : bk_V) (v4 : bk_V) (v5 : bk_V) (M : bk_M) : bk_wp (bk_C d) P_99 Q 0 2 [bk_c 1 0, bk_c 5 i1, bk_i x2, v3, v4, v5] [] M ↔ ((M 5 i1 (1 : Int) ≤ x2 → Q 0 0 M) ∧ (¬ (M 5 i1 (1 : Int) ≤ x2) → bk_wp (bk_C d) P_99 Q 0 15 [bk_c 1 0, bk_c 5 i1, bk_i x2, bk_i (0 : Int), bk_i (0 : Int), v5] [] M)) := bk_iff [2, 15] 40
theorem LG_99_15 {d : Nat} {Q : bk_Q} (i1 : Nat) (x2 : Int) (x3 : Int) (x4 : Int) (v5 : bk_V) (M : bk_M) : bk_wp (bk_C d) P_99 Q 0 15 [bk_c 1 0, bk_c 5 i1, bk_i x2, bk_i x3, bk_i x4, v5] [] M ↔ ((M 5 i1 (0 : Int) ≤ x4 → ((x3 = (1 : Int) → bk_r32 (x2 + (1 : Int)) ∧ bk_wp (bk_C d) P_99 Q 0 2 [bk_c 1 0, bk_c 5 i1, bk_i (x2 + (1 : Int)), bk_i x3, bk_i x4, v5] [] M) ∧ (¬ (x3 = (1 : Int)) → ((0 : Int) ≤ x2 ∧ x2 < (6 : Int)) ∧ ∀ M1 : bk_M, M1 = bk_up M 21 0 x2 (-1 : Int) → bk_r32 (x2 + (1 : Int)) ∧ bk_wp (bk_C d) P_99 Q 0 2 [bk_c 1 0, bk_c 5 i1, bk_i (x2 + (1 : Int)), bk_i x3, bk_i x4, v5] [] M1))) ∧ (¬ (M 5 i1 (0 : Int) ≤ x4) → bk_r32 ((6 : Int) * x2) ∧ bk_r32 (((6 : Int) * x2) + x4) ∧ ((0 : Int) ≤ ((6 : Int) * x2) + x4 ∧ ((6 : Int) * x2) + x4 < (36 : Int)) ∧ ((M 24 0 (((6 : Int) * x2) + x4) ≤ (0 : Int) → ((0 : Int) ≤ ((6 : Int) * x2) + x4 ∧ ((6 : Int) * x2) + x4 < (36 : Int)) ∧ ((0 : Int) = 0 ∨ (0 : Int) = 1) ∧ ∀ M2 : bk_M, M2 = bk_up M 25 0 (((6 : Int) * x2) + x4) (0 : Int) → ((0 : Int) ≤ ((6 : Int) * x2) + x4 ∧ ((6 : Int) * x2) + x4 < (36 : Int)) ∧ ((M2 25 0 (((6 : Int) * x2) + x4) = (0 : Int) → bk_r32 (x4 + (1 : Int)) ∧ bk_wp (bk_C d) P_99 Q 0 15 [bk_c 1 0, bk_c 5 i1, bk_i x2, bk_i x3, bk_i (x4 + (1 : Int)), bk_i (((6 : Int) * x2) + x4)] [] M2) ∧ (¬ (M2 25 0 (((6 : Int) * x2) + x4) = (0 : Int)) → bk_r32 (x3 + (1 : Int)) ∧ ((0 : Int) ≤ x2 ∧ x2 < (6 : Int)) ∧ ∀ M3 : bk_M, M3 = bk_up M2 21 0 x2 x4 → bk_r32 (x4 + (1 : Int)) ∧ bk_wp (bk_C d) P_99 Q 0 15 [bk_c 1 0, bk_c 5 i1, bk_i x2, bk_i (x3 + (1 : Int)), bk_i (x4 + (1 : Int)), bk_i (((6 : Int) * x2) + x4)] [] M3))) ∧ (¬ (M 24 0 (((6 : Int) * x2) + x4) ≤ (0 : Int)) → ((x2 = (0 : Int) → ((0 : Int) ≤ ((6 : Int) * x2) + x4 ∧ ((6 : Int) * x2) + x4 < (36 : Int)) ∧ ((1 : Int) = 0 ∨ (1 : Int) = 1) ∧ ∀ M4 : bk_M, M4 = bk_up M 25 0 (((6 : Int) * x2) + x4) (1 : Int) → ((0 : Int) ≤ ((6 : Int) * x2) + x4 ∧ ((6 : Int) * x2) + x4 < (36 : Int)) ∧ ((M4 25 0 (((6 : Int) * x2) + x4) = (0 : Int) → bk_r32 (x4 + (1 : Int)) ∧ bk_wp (bk_C d) P_99 Q 0 15 [bk_c 1 0, bk_c 5 i1, bk_i x2, bk_i x3, bk_i (x4 + (1 : Int)), bk_i (((6 : Int) * x2) + x4)] [] M4) ∧ (¬ (M4 25 0 (((6 : Int) * x2) + x4) = (0 : Int)) → bk_r32 (x3 + (1 : Int)) ∧ ((0 : Int) ≤ x2 ∧ x2 < (6 : Int)) ∧ ∀ M5 : bk_M, M5 = bk_up M4 21 0 x2 x4 → bk_r32 (x4 + (1 : Int)) ∧ bk_wp (bk_C d) P_99 Q 0 15 [bk_c 1 0, bk_c 5 i1, bk_i x2, bk_i (x3 + (1 : Int)), bk_i (x4 + (1 : Int)), bk_i (((6 : Int) * x2) + x4)] [] M5))) ∧ (¬ (x2 = (0 : Int)) → bk_r32 (x2 - (1 : Int)) ∧ bk_C d 0 100 [bk_c 1 0, bk_c 5 i1, bk_i x4, bk_i (x2 - (1 : Int))] M (fun t8 r6 M7 => t8 = 0 ∧ ((r6 = (0 : Int) → ((0 : Int) ≤ ((6 : Int) * x2) + x4 ∧ ((6 : Int) * x2) + x4 < (36 : Int)) ∧ ((0 : Int) = 0 ∨ (0 : Int) = 1) ∧ ∀ M9 : bk_M, M9 = bk_up M7 25 0 (((6 : Int) * x2) + x4) (0 : Int) → ((0 : Int) ≤ ((6 : Int) * x2) + x4 ∧ ((6 : Int) * x2) + x4 < (36 : Int)) ∧ ((M9 25 0 (((6 : Int) * x2) + x4) = (0 : Int) → bk_r32 (x4 + (1 : Int)) ∧ bk_wp (bk_C d) P_99 Q 0 15 [bk_c 1 0, bk_c 5 i1, bk_i x2, bk_i x3, bk_i (x4 + (1 : Int)), bk_i (((6 : Int) * x2) + x4)] [] M9) ∧ (¬ (M9 25 0 (((6 : Int) * x2) + x4) = (0 : Int)) → bk_r32 (x3 + (1 : Int)) ∧ ((0 : Int) ≤ x2 ∧ x2 < (6 : Int)) ∧ ∀ M10 : bk_M, M10 = bk_up M9 21 0 x2 x4 → bk_r32 (x4 + (1 : Int)) ∧ bk_wp (bk_C d) P_99 Q 0 15 [bk_c 1 0, bk_c 5 i1, bk_i x2, bk_i (x3 + (1 : Int)), bk_i (x4 + (1 : Int)), bk_i (((6 : Int) * x2) + x4)] [] M10))) ∧ (¬ (r6 = (0 : Int)) → ((0 : Int) ≤ ((6 : Int) * x2) + x4 ∧ ((6 : Int) * x2) + x4 < (36 : Int)) ∧ ((1 : Int) = 0 ∨ (1 : Int) = 1) ∧ ∀ M11 : bk_M, M11 = bk_up M7 25 0 (((6 : Int) * x2) + x4) (1 : Int) → ((0 : Int) ≤ ((6 : Int) * x2) + x4 ∧ ((6 : Int) * x2) + x4 < (36 : Int)) ∧ ((M11 25 0 (((6 : Int) * x2) + x4) = (0 : Int) → bk_r32 (x4 + (1 : Int)) ∧ bk_wp (bk_C d) P_99 Q 0 15 [bk_c 1 0, bk_c 5 i1, bk_i x2, bk_i x3, bk_i (x4 + (1 : Int)), bk_i (((6 : Int) * x2) + x4)] [] M11) ∧ (¬ (M11 25 0 (((6 : Int) * x2) + x4) = (0 : Int)) → bk_r32 (x3 + (1 : Int)) ∧ ((0 : Int) ≤ x2 ∧ x2 < (6 : Int)) ∧ ∀ M12 : bk_M, M12 = bk_up M11 21 0 x2 x4 → bk_r32 (x4 + (1 : Int)) ∧ bk_wp (bk_C d) P_99 Q 0 15 [bk_c 1 0, bk_c 5 i1, bk_i x2, bk_i (x3 + (1 : Int)), bk_i (x4 + (1 : Int)), bk_i (((6 : Int) * x2) + x4)] [] M12))))))))))) := bk_iff [2, 15] 40
theorem bk_cut {b : List Int} {y : Nat} {x : Int} {t : List Int} (h : b.drop y = x :: t) : y < b.length ∧ b.getD y 0 = x ∧ b.drop (y + 1) = t ∧ b.take (y + 1) = b.take y ++ [x] := by
  have hy : y < b.length := by
    refine Classical.byContradiction fun q => ?_
    rw [List.drop_eq_nil_of_le (by omega)] at h
    exact absurd h (by simp)
  have h2 := bk_drop hy
  rw [h] at h2
  have hx : b.getD y 0 = x := by simp at h2; simp; exact h2.1.symm
  have ht : b.drop (y + 1) = t := by simp at h2; exact h2.2.symm
  refine ⟨hy, hx, ht, ?_⟩
  rw [List.take_add_one]
  congr 1
  rw [← hx]
  simp [hy]
theorem S98 {d p : Nat} {M : bk_M} {N T : Int → Int} {c : Int} {b : List Int} {Y : List (List Int)} (hR : bkRel M p N) (hb : bkAll N T c = b :: Y) (hW : ∀ y z, 0 ≤ y → y < N 3 → 0 ≤ z → z < N 2 → M 24 0 (6 * y + z) = bkLn (bkOkR N T (c / 2).toNat) (N 3) (N 3 - 1 - y).toNat z) :
    bk_C (d + 1) 0 98 [bk_c 1 0, bk_c 5 p] M (fun t _ M' => t = 0 ∧ bkFr (fun k a => k = 20 ∧ a = 0) M M' ∧ ∀ i : Int, 0 ≤ i → i < N 3 → M' 20 0 i = b.getD i.toNat 0) := by
  obtain ⟨n1, n2, -⟩ := bkRel_md hR
  obtain ⟨b1, b2, b3, b4, -⟩ := hR.2.1
  generalize hok : bkOkR N T (c / 2).toNat = ok at *
  rw [E_98]
  have key := bk_loopS (W := fun y M1 => ∀ v4, bk_wp (bk_C d) P_98 (fun t _ M' => t = 0 ∧ bkFr (fun k a => k = 20 ∧ a = 0) M M' ∧ ∀ i : Int, 0 ≤ i → i < N 3 → M' 20 0 i = b.getD i.toNat 0) 0 4 [bk_c 1 0, bk_c 5 p, bk_i (if y = 0 then 0 else if b.getD (y.toNat - 1) 0 - 1 ≤ 0 then 0 else b.getD (y.toNat - 1) 0 - 1), bk_i y, v4] [] M1) (s := 0) (n := N 3)
    (fun y M1 => bkFr (fun k a => k = 20 ∧ a = 0) M M1 ∧ (∀ i : Int, 0 ≤ i → i < y → M1 20 0 i = b.getD i.toNat 0) ∧ (bkComp ok (N 2) (N 3) (b.take y.toNat) (N 3 - y).toNat).head? = some (b.drop y.toNat) ∧ y.toNat ≤ b.length) (by omega) ?_ ?_ (M := M) ⟨bkFr_refl _ _, fun i q1 q2 => absurd q1 (by omega), ?_, by omega⟩
  · exact key _
  · rintro y M1 h0 h1 ⟨F, U, Hd, hyl⟩ ih v4
    have e5 : M1 5 p = M 5 p := F 5 p (by omega)
    have e24 : M1 24 0 = M 24 0 := F 24 0 (by omega)
    have hn : (N 3 - y).toNat = (N 3 - 1 - y).toNat + 1 := by omega
    have hrow : N 3 - 1 - (((N 3 - 1 - y).toNat : Nat) : Int) = y := by omega
    have hlt : (b.take y.toNat).length = y.toNat := by rw [List.length_take]; omega
    -- the row's candidates
    have hc : ∃ lo k, bkComp ok (N 2) (N 3) (b.take y.toNat) (N 3 - y).toNat = bkFl ok (N 3) (N 3 - 1 - y).toNat lo k ∧ (if y = 0 then 0 else if b.getD (y.toNat - 1) 0 - 1 ≤ 0 then 0 else b.getD (y.toNat - 1) 0 - 1) = (if lo ≤ 0 then 0 else lo) := by
      rw [hn]
      by_cases hy : y = 0
      · refine ⟨0, (N 2).toNat, ?_, by rw [if_pos hy]; rfl⟩
        rw [show b.take y.toNat = [] by rw [hy]; rfl]
        simp [bkComp]
      · refine ⟨b.getD (y.toNat - 1) 0 - 1, 3, ?_, by rw [if_neg hy]⟩
        rw [bkFl_3]
        have hne : b.take y.toNat ≠ [] := fun e => by rw [e] at hlt; simp at hlt; omega
        have e : bkComp ok (N 2) (N 3) (b.take y.toNat) ((N 3 - 1 - y).toNat + 1) = bkFo ok (N 3) ((N 3 - 1 - y).toNat + 1) ((b.take y.toNat).getD ((b.take y.toNat).length - 1) 0) := by
          unfold bkComp
          simp [hne]
        rw [e, hlt]
        congr 1
        simp [List.getD_eq_getElem?_getD]
        rw [List.getElem?_take_of_lt (by omega)]
    obtain ⟨lo, k, hc, hfrm⟩ := hc
    rw [hc] at Hd
    obtain ⟨x0, t', a1, a2, a3, a4, a5, a6⟩ := bkFl_head k lo _ Hd
    have hcut := bk_cut a4
    have hx0 : 0 ≤ x0 ∧ x0 < N 2 := by
      rw [← hok] at a6
      unfold bkOkR at a6
      rw [Bool.and_eq_true, decide_eq_true_eq] at a6
      exact a6.1
    have hln : 0 < bkLn ok (N 3) (N 3 - 1 - y).toNat x0 := by
      unfold bkLn bkSt
      rw [if_pos a6]
      cases hf : bkFo ok (N 3) (N 3 - 1 - y).toNat x0 with
      | nil => rw [hf] at a5; exact absurd a5 (by simp)
      | cons z Z => simp only [List.map_cons, List.length_cons]; omega
    rw [hfrm, LG_98_4, e5, b4]
    refine ⟨fun z => absurd z (by omega), fun _ => ?_⟩
    have done : ∀ M3 v, M3 = bk_up M1 20 0 y x0 → bk_wp (bk_C d) P_98 (fun t _ M' => t = 0 ∧ bkFr (fun k a => k = 20 ∧ a = 0) M M' ∧ ∀ i : Int, 0 ≤ i → i < N 3 → M' 20 0 i = b.getD i.toNat 0) 0 4 [bk_c 1 0, bk_c 5 p, bk_i (if x0 - 1 ≤ 0 then 0 else x0 - 1), bk_i (y + 1), v] [] M3 := fun M3 v hM3 => by
      have ih := ih M3 ⟨by rw [hM3]; exact bkFr_up F ⟨rfl, rfl⟩, fun i q1 q2 => ?_, ?_, by omega⟩ v
      · rw [if_neg (by omega), show (y + 1).toNat - 1 = y.toNat by omega, hcut.2.1] at ih
        exact ih
      · rw [hM3, bk_up_w]
        by_cases e : i = y
        · rw [if_pos e, e]; exact hcut.2.1.symm
        · rw [if_neg e]; exact U i q1 (by omega)
      · rw [show (y + 1).toNat = y.toNat + 1 by omega, hcut.2.2.1, hcut.2.2.2, show (N 3 - (y + 1)).toNat = (N 3 - 1 - y).toNat by omega, bkComp_snoc]
        exact a5
    refine bk_loopS (W := fun x M2 => bk_wp (bk_C d) P_98 (fun t _ M' => t = 0 ∧ bkFr (fun k a => k = 20 ∧ a = 0) M M' ∧ ∀ i : Int, 0 ≤ i → i < N 3 → M' 20 0 i = b.getD i.toNat 0) 0 15 [bk_c 1 0, bk_c 5 p, bk_i (if lo ≤ 0 then 0 else lo), bk_i y, bk_i x] [] M2) (s := if lo ≤ 0 then 0 else lo) (n := x0) (fun _ M2 => M2 = M1) (by split <;> omega) ?_ ?_ rfl
    · rintro x M2 z0 z1 rfl ih2
      have hx : lo ≤ x ∧ 0 ≤ x := by split at z0 <;> omega
      have hz : M 24 0 (6 * y + x) = 0 := by
        rw [hW y x h0 h1 hx.2 (by omega)]
        unfold bkLn
        rw [a3 x hx.1 z1]
        rfl
      rw [L_98_15, e5, b3, e24, hz]
      unfold bk_r32
      exact ⟨by omega, fun w => absurd w (by omega), fun _ => ⟨by omega, by omega, by omega, fun w => absurd rfl w, fun _ => ⟨by omega, ih2 M2 rfl⟩⟩⟩
    · rintro M2 rfl
      have hz : M 24 0 (6 * y + x0) ≠ 0 := by
        rw [hW y x0 h0 h1 hx0.1 hx0.2]
        omega
      rw [L_98_15, e5, b3, e24]
      unfold bk_r32
      refine ⟨by omega, fun w => ⟨by omega, ?_⟩, fun w => ⟨by omega, by omega, by omega, fun _ => ⟨by omega, ?_⟩, fun w2 => absurd hz w2⟩⟩
      · intro M3 hM3
        exact ⟨by omega, by omega, done M3 _ hM3⟩
      · intro M3 hM3
        exact ⟨by omega, by omega, done M3 _ hM3⟩
  · rintro M1 ⟨F, U, -, -⟩ v4
    have e5 : M1 5 p = M 5 p := F 5 p (by omega)
    rw [LG_98_4, e5, b4]
    exact ⟨fun _ => ⟨rfl, F, U⟩, fun z => absurd (Int.le_refl _) z⟩
  · show (bkComp ok (N 2) (N 3) [] (N 3 - 0).toNat).head? = some b
    rw [Int.sub_zero, ← hok, bkAll_comp N T c n2.1, hb]
    rfl
theorem S100 {d p : Nat} {x a : Int} {M : bk_M} {W : Int} (hW : M 5 p 0 = W) (hW6 : W ≤ 6) (hx : 0 ≤ x ∧ x < W) (ha : 0 ≤ a ∧ a < 6) :
    bk_C (d + 1) 0 100 [bk_c 1 0, bk_c 5 p, bk_i x, bk_i a] M (fun t r M' => t = 0 ∧ M' = M ∧ ((r = 1 ∧ ∃ z, x - 1 ≤ z ∧ z ≤ x + 1 ∧ 0 ≤ z ∧ z < W ∧ M 25 0 (6 * a + z) ≠ 0) ∨ (r = 0 ∧ ∀ z, x - 1 ≤ z → z ≤ x + 1 → 0 ≤ z → z < W → M 25 0 (6 * a + z) = 0))) := by
  rw [E_100]
  refine ⟨by unfold bk_r32; omega, ?_⟩
  have he : ∃ e : Int, (x + 1 < W ∧ e = x + 2) ∨ (x + 1 = W ∧ e = x + 1) := by
    by_cases w : x + 1 < W
    · exact ⟨_, .inl ⟨w, rfl⟩⟩
    · exact ⟨_, .inr ⟨by omega, rfl⟩⟩
  obtain ⟨e, he⟩ := he
  refine bk_loopS (W := fun z M1 => bk_wp (bk_C d) P_100 (fun t r M' => t = 0 ∧ M' = M ∧ ((r = 1 ∧ ∃ z, x - 1 ≤ z ∧ z ≤ x + 1 ∧ 0 ≤ z ∧ z < W ∧ M 25 0 (6 * a + z) ≠ 0) ∨ (r = 0 ∧ ∀ z, x - 1 ≤ z → z ≤ x + 1 → 0 ≤ z → z < W → M 25 0 (6 * a + z) = 0))) 0 9 [bk_c 1 0, bk_c 5 p, bk_i x, bk_i a, bk_i z] [] M1) (s := if x - 1 ≤ 0 then 0 else x - 1) (n := e)
    (fun z M1 => M1 = M ∧ ∀ u, x - 1 ≤ u → u < z → 0 ≤ u → u < W → M 25 0 (6 * a + u) = 0) (by split <;> omega) ?_ ?_ (M := M) ⟨rfl, fun u q1 q2 q3 q4 => by split at q2 <;> omega⟩
  · rintro z M1 h0 h1 ⟨rfl, U⟩ ih
    have hz : 0 ≤ z ∧ x - 1 ≤ z := by split at h0 <;> omega
    rw [L_100_9, hW]
    unfold bk_r32
    refine ⟨by omega, fun w => absurd w (by omega), fun _ => ⟨fun w => absurd w (by omega), fun _ => ⟨by omega, by omega, by omega, fun w => ⟨by omega, ih M1 ⟨rfl, fun u q1 q2 q3 q4 => ?_⟩⟩, fun w => ⟨.inr rfl, rfl, rfl, .inl ⟨rfl, z, hz.2, by omega, hz.1, by omega, w⟩⟩⟩⟩⟩
    by_cases e : u = z
    · rw [e]; exact w
    · exact U u q1 (by omega) q3 q4
  · rintro M1 ⟨rfl, U⟩
    have fin : ((0 : Int) = 0 ∨ (0 : Int) = 1) ∧ (0 : Nat) = 0 ∧ M1 = M1 ∧ (((0 : Int) = 1 ∧ ∃ z, x - 1 ≤ z ∧ z ≤ x + 1 ∧ 0 ≤ z ∧ z < W ∧ M1 25 0 (6 * a + z) ≠ 0) ∨ ((0 : Int) = 0 ∧ ∀ z, x - 1 ≤ z → z ≤ x + 1 → 0 ≤ z → z < W → M1 25 0 (6 * a + z) = 0)) :=
      ⟨.inl rfl, rfl, rfl, .inr ⟨rfl, fun z q1 q2 q3 q4 => U z q1 (by omega) q3 q4⟩⟩
    rw [L_100_9, hW]
    unfold bk_r32
    exact ⟨by omega, fun _ => fin, fun w => ⟨fun _ => fin, fun w2 => absurd w2 (by omega)⟩⟩
def bkA99 (k a : Nat) : Prop := (k = 21 ∨ k = 25) ∧ a = 0
/-- how often, and the last one -/
def bkOft (has : Int → Prop) (often s x : Int) : Prop := 0 ≤ often ∧ often ≤ x ∧ ((often = 0 ∧ ∀ z, 0 ≤ z → z < x → ¬ has z) ∨ (often = 1 ∧ 0 ≤ s ∧ s < x ∧ has s ∧ ∀ z, 0 ≤ z → z < x → has z → z = s) ∨ (2 ≤ often ∧ ∃ u v, u ≠ v ∧ has u ∧ has v))
theorem S99 {d p : Nat} {M : bk_M} {N T : Int → Int} {c : Int} (hR : bkRel M p N) (hb : bkAll N T c ≠ []) (hW : ∀ y z, 0 ≤ y → y < N 3 → 0 ≤ z → z < N 2 → M 24 0 (6 * y + z) = bkLn (bkOkR N T (c / 2).toNat) (N 3) (N 3 - 1 - y).toNat z) :
    bk_C (d + 2) 0 99 [bk_c 1 0, bk_c 5 p] M (fun t _ M' => t = 0 ∧ bkFr bkA99 M M' ∧ ∀ i : Int, 0 ≤ i → i < N 3 → M' 21 0 i = bkSu (bkAll N T c) i.toNat) := by
  obtain ⟨n1, n2, -⟩ := bkRel_md hR
  obtain ⟨b1, b2, b3, b4, -⟩ := hR.2.1
  rw [E_99]
  have key := bk_loopS (W := fun y M1 => ∀ v3 v4 v5, bk_wp (bk_C (d + 1)) P_99 (fun t _ M' => t = 0 ∧ bkFr bkA99 M M' ∧ ∀ i : Int, 0 ≤ i → i < N 3 → M' 21 0 i = bkSu (bkAll N T c) i.toNat) 0 2 [bk_c 1 0, bk_c 5 p, bk_i y, v3, v4, v5] [] M1) (s := 0) (n := N 3)
    (fun y M1 => bkFr bkA99 M M1 ∧ (∀ i : Int, 0 ≤ i → i < y → M1 21 0 i = bkSu (bkAll N T c) i.toNat) ∧ (∀ r z, 0 ≤ r → r < y → 0 ≤ z → z < N 2 → (M1 25 0 (6 * r + z) ≠ 0 ↔ bkHas N T c r.toNat z))) (by omega) ?_ ?_ (M := M) ⟨bkFr_refl _ _, fun i q1 q2 => absurd q1 (by omega), fun r z q1 q2 => absurd q1 (by omega)⟩
  · exact key _ _ _
  · rintro y M1 h0 h1 ⟨F, U, V⟩ ih v3 v4 v5
    have ey : ((y.toNat : Nat) : Int) = y := by omega
    have e5 : M1 5 p = M 5 p := F 5 p (by unfold bkA99; omega)
    rw [LG_99_2, e5, b4]
    refine ⟨fun z => absurd z (by omega), fun _ => ?_⟩
    have key2 := bk_loopS (W := fun x M2 => ∀ v5 often, bkOft (bkHas N T c y.toNat) often (M2 21 0 y) x → bk_wp (bk_C (d + 1)) P_99 (fun t _ M' => t = 0 ∧ bkFr bkA99 M M' ∧ ∀ i : Int, 0 ≤ i → i < N 3 → M' 21 0 i = bkSu (bkAll N T c) i.toNat) 0 15 [bk_c 1 0, bk_c 5 p, bk_i y, bk_i often, bk_i x, v5] [] M2) (s := 0) (n := N 2)
      (fun x M2 => bkFr bkA99 M M2 ∧ (∀ i : Int, 0 ≤ i → i < y → M2 21 0 i = bkSu (bkAll N T c) i.toNat) ∧ (∀ r z, 0 ≤ r → r < y → 0 ≤ z → z < N 2 → (M2 25 0 (6 * r + z) ≠ 0 ↔ bkHas N T c r.toNat z)) ∧ (∀ z, 0 ≤ z → z < x → (M2 25 0 (6 * y + z) ≠ 0 ↔ bkHas N T c y.toNat z))) (by omega) ?_ ?_ (M := M1) ⟨F, U, V, fun z q1 q2 => absurd q1 (by omega)⟩
    · exact key2 _ 0 ⟨Int.le_refl _, Int.le_refl _, .inl ⟨rfl, fun z q1 q2 => absurd q1 (by omega)⟩⟩
    · rintro x M2 z0 z1 ⟨F2, U2, V2, X2⟩ ih2 v5 often ho
      have e5' : M2 5 p = M 5 p := F2 5 p (by unfold bkA99; omega)
      have e24 : M2 24 0 (6 * y + x) = bkLn (bkOkR N T (c / 2).toNat) (N 3) (N 3 - 1 - y).toNat x := by rw [F2 24 0 (by unfold bkA99; omega)]; exact hW y x h0 h1 z0 z1
      have hlb := bkLn_b (bkOkR N T (c / 2).toNat) (N 3) (n := (N 3 - 1 - y).toNat) (by omega) x
      have hne : bkSt (bkOkR N T (c / 2).toNat) (N 3) (N 3 - 1 - y).toNat x ≠ [] ↔ 0 < bkLn (bkOkR N T (c / 2).toNat) (N 3) (N 3 - 1 - y).toNat x := by
        unfold bkLn
        rw [← List.length_pos_iff]
        omega
      have no : ∀ (M4 : bk_M) v5, ¬ bkHas N T c y.toNat x → M4 = bk_up M2 25 0 (6 * y + x) 0 → bk_wp (bk_C (d + 1)) P_99 (fun t _ M' => t = 0 ∧ bkFr bkA99 M M' ∧ ∀ i : Int, 0 ≤ i → i < N 3 → M' 21 0 i = bkSu (bkAll N T c) i.toNat) 0 15 [bk_c 1 0, bk_c 5 p, bk_i y, bk_i often, bk_i (x + 1), v5] [] M4 := fun M4 v5 hno hM4 => by
        refine ih2 M4 ⟨by rw [hM4]; exact bkFr_up F2 (by unfold bkA99; omega), fun i q1 q2 => by rw [hM4, bk_up_f (by decide)]; exact U2 i q1 q2, fun r z q1 q2 q3 q4 => by rw [hM4, bk_up_s (by omega)]; exact V2 r z q1 q2 q3 q4, fun z q1 q2 => ?_⟩ v5 often ?_
        · rw [hM4, bk_up_w]
          by_cases e : z = x
          · rw [if_pos (by omega), e]; exact ⟨fun w => absurd rfl w, fun w => absurd w hno⟩
          · rw [if_neg (by omega)]; exact X2 z q1 (by omega)
        · rw [hM4, bk_up_f (by decide)]
          obtain ⟨o1, o2, o3⟩ := ho
          refine ⟨o1, by omega, ?_⟩
          rcases o3 with ⟨p1, p2⟩ | ⟨p1, p2, p3, p4, p5⟩ | p
          · exact .inl ⟨p1, fun z q1 q2 w => by
              by_cases e : z = x
              · rw [e] at w; exact hno w
              · exact p2 z q1 (by omega) w⟩
          · exact .inr (.inl ⟨p1, p2, by omega, p4, fun z q1 q2 w => by
              by_cases e : z = x
              · rw [e] at w; exact absurd w hno
              · exact p5 z q1 (by omega) w⟩)
          · exact .inr (.inr p)
      have yes : ∀ (M4 M5 : bk_M) v5, bkHas N T c y.toNat x → M4 = bk_up M2 25 0 (6 * y + x) 1 → M5 = bk_up M4 21 0 y x → bk_wp (bk_C (d + 1)) P_99 (fun t _ M' => t = 0 ∧ bkFr bkA99 M M' ∧ ∀ i : Int, 0 ≤ i → i < N 3 → M' 21 0 i = bkSu (bkAll N T c) i.toNat) 0 15 [bk_c 1 0, bk_c 5 p, bk_i y, bk_i (often + 1), bk_i (x + 1), v5] [] M5 := fun M4 M5 v5 hyes hM4 hM5 => by
        refine ih2 M5 ⟨by rw [hM5, hM4]; exact bkFr_up (bkFr_up F2 (by unfold bkA99; omega)) (by unfold bkA99; omega), fun i q1 q2 => by rw [hM5, bk_up_s (by omega), hM4, bk_up_f (by decide)]; exact U2 i q1 q2, fun r z q1 q2 q3 q4 => by rw [hM5, bk_up_f (by decide), hM4, bk_up_s (by omega)]; exact V2 r z q1 q2 q3 q4, fun z q1 q2 => ?_⟩ v5 (often + 1) ?_
        · rw [hM5, bk_up_f (by decide), hM4, bk_up_w]
          by_cases e : z = x
          · rw [if_pos (by omega), e]; exact ⟨fun _ => hyes, fun _ => by decide⟩
          · rw [if_neg (by omega)]; exact X2 z q1 (by omega)
        · rw [hM5, bk_up_e]
          obtain ⟨o1, o2, o3⟩ := ho
          refine ⟨by omega, by omega, ?_⟩
          rcases o3 with ⟨p1, p2⟩ | ⟨p1, p2, p3, p4, p5⟩ | ⟨p1, p2⟩
          · exact .inr (.inl ⟨by omega, z0, by omega, hyes, fun z q1 q2 w => by
              by_cases e : z = x
              · exact e
              · exact absurd w (p2 z q1 (by omega))⟩)
          · exact .inr (.inr ⟨by omega, M2 21 0 y, x, by omega, p4, hyes⟩)
          · exact .inr (.inr ⟨by omega, p2⟩)
      have oft := ho.2.1
      have oft0 := ho.1
      rw [LG_99_15, e5', b3, e24]
      unfold bk_r32
      refine ⟨fun z => absurd z (by omega), fun _ => ⟨by omega, by omega, by omega, fun z => ⟨by omega, .inl rfl, ?_⟩, fun z => ⟨fun w => ⟨by omega, .inr rfl, ?_⟩, fun w => ⟨by omega, ?_⟩⟩⟩⟩
      · intro M4 hM4
        have e25 : M4 25 0 (6 * y + x) = 0 := by rw [hM4, bk_up_e]
        rw [e25]
        have hno : ¬ bkHas N T c y.toNat x := fun w => by
          have := ((bkHas_iff n2.1 (by omega)).1 w).2
          rw [ey] at this
          have := hne.1 this
          omega
        exact ⟨by omega, fun _ => ⟨by omega, no M4 _ hno hM4⟩, fun w => absurd rfl w⟩
      · intro M4 hM4
        have e25 : M4 25 0 (6 * y + x) = 1 := by rw [hM4, bk_up_e]
        rw [e25]
        have hyes : bkHas N T c y.toNat x := by
          rw [show y.toNat = 0 by omega, bkHas_0 n2.1]
          have := hne.2 (by omega)
          rw [w, Int.sub_zero] at this
          exact this
        refine ⟨by omega, fun w => absurd w (by decide), fun _ => ⟨by omega, by omega, ?_⟩⟩
        intro M5 hM5
        exact ⟨by omega, yes M4 M5 _ hyes hM4 hM5⟩
      · have e50 : M2 5 p 0 = N 2 := by rw [e5', b3]
        have eyy : (y - 1).toNat + 1 = y.toNat := by omega
        have hy0 : 0 ≤ y - 1 := by omega
        have hy1 : y - 1 < y := by omega
        have hyN : (((y - 1).toNat : Nat) : Int) < N 3 := by omega
        have hyN1 : (((y - 1).toNat + 1 : Nat) : Int) < N 3 := by omega
        have hln : bkSt (bkOkR N T (c / 2).toNat) (N 3) (N 3 - 1 - y).toNat x ≠ [] := hne.2 (by omega)
        refine bk_use (P := fun r M' => _) (S100 (d := d) (x := x) (a := y - 1) e50 (by omega) ⟨z0, z1⟩ (by omega)) ?_
        rintro r M7 ⟨rfl, hr⟩
        have hs := bkHas_s (N := N) (T := T) (c := c) n2.1 (y := (y - 1).toNat) (x := x) hyN1
        rw [eyy, ey] at hs
        refine ⟨rfl, fun w2 => ⟨by omega, .inl rfl, ?_⟩, fun w2 => ⟨by omega, .inr rfl, ?_⟩⟩
        · intro M4 hM4
          have e25 : M4 25 0 (6 * y + x) = 0 := by rw [hM4, bk_up_e]
          rw [e25]
          have hno : ¬ bkHas N T c y.toNat x := fun v => by
            obtain ⟨-, x', q1, q2, q3⟩ := hs.1 v
            have hin := bkHas_in n2.1 hyN q3
            rcases hr with ⟨e, -⟩ | ⟨-, hr⟩
            · omega
            · have := hr x' q1 q2 hin.1 hin.2
              exact ((V2 (y - 1) x' hy0 hy1 hin.1 hin.2).2 q3) this
          exact ⟨by omega, fun _ => ⟨by omega, no M4 _ hno hM4⟩, fun w => absurd rfl w⟩
        · intro M4 hM4
          have e25 : M4 25 0 (6 * y + x) = 1 := by rw [hM4, bk_up_e]
          rw [e25]
          have hyes : bkHas N T c y.toNat x := by
            rw [hs]
            refine ⟨hln, ?_⟩
            rcases hr with ⟨-, x', q1, q2, q3, q4, q5⟩ | ⟨e, -⟩
            · exact ⟨x', q1, q2, (V2 (y - 1) x' hy0 hy1 q3 q4).1 q5⟩
            · exact absurd e w2
          refine ⟨by omega, fun w => absurd w (by decide), fun _ => ⟨by omega, by omega, ?_⟩⟩
          intro M5 hM5
          exact ⟨by omega, yes M4 M5 _ hyes hM4 hM5⟩
    · rintro M2 ⟨F2, U2, V2, X2⟩ v5 often ho
      have e5' : M2 5 p = M 5 p := F2 5 p (by unfold bkA99; omega)
      have hin : ∀ b, b ∈ bkAll N T c → bkHas N T c y.toNat (b.getD y.toNat 0) := fun b hb => ⟨b, hb, rfl⟩
      obtain ⟨a, ha⟩ := List.exists_mem_of_ne_nil _ hb
      obtain ⟨o1, o2, o3⟩ := ho
      rw [LG_99_15, e5', b3]
      refine ⟨fun _ => ⟨fun w => ⟨by unfold bk_r32; omega, ih M2 ⟨F2, fun i q1 q2 => ?_, fun r z q1 q2 q3 q4 => ?_⟩ _ _ _⟩, fun w => ⟨by omega, ?_⟩⟩, fun z => absurd (Int.le_refl _) z⟩
      · by_cases e : i = y
        · rcases o3 with ⟨p1, p2⟩ | ⟨p1, p2, p3, p4, p5⟩ | ⟨p1, p2⟩
          · exact absurd p1 (by omega)
          · rw [e]
            refine (bkSu_one hb fun b hb => ?_).symm
            have := hin b hb
            have hb2 := bkHas_in n2.1 (by omega) this
            exact p5 _ hb2.1 hb2.2 this
          · exact absurd p1 (by omega)
        · exact U2 i q1 (by omega)
      · by_cases e : r = y
        · rw [e]; exact X2 z q3 q4
        · exact V2 r z q1 (by omega) q3 q4
      · intro M3 hM3
        refine ⟨by unfold bk_r32; omega, ih M3 ⟨by rw [hM3]; exact bkFr_up F2 (by unfold bkA99; omega), fun i q1 q2 => ?_, fun r z q1 q2 q3 q4 => ?_⟩ _ _ _⟩
        · rw [hM3, bk_up_w]
          by_cases e : i = y
          · rw [if_pos e, e]
            rcases o3 with ⟨p1, p2⟩ | ⟨p1, p2, p3, p4, p5⟩ | ⟨p1, u, v, p2, ⟨b, hb1, hb2⟩, ⟨b', hb3, hb4⟩⟩
            · have := hin a ha
              have hb2 := bkHas_in n2.1 (by omega) this
              exact absurd this (p2 _ hb2.1 hb2.2)
            · exact absurd p1 w
            · exact (bkSu_two hb1 hb3 (by rw [hb2, hb4]; exact p2)).symm
          · rw [if_neg e]; exact U2 i q1 (by omega)
        · rw [hM3, bk_up_f (by decide)]
          by_cases e : r = y
          · rw [e]; exact X2 z q3 q4
          · exact V2 r z q1 (by omega) q3 q4
  · rintro M1 ⟨F, U, V⟩ v3 v4 v5
    have e5 : M1 5 p = M 5 p := F 5 p (by unfold bkA99; omega)
    rw [LG_99_2, e5, b4]
    exact ⟨fun _ => ⟨rfl, F, U⟩, fun z => absurd (Int.le_refl _) z⟩
def bkA93 (k a : Nat) : Prop := (k = 1 ∨ k = 10 ∨ (20 ≤ k ∧ k ≤ 25)) ∧ a = 0
theorem S93 {d p : Nat} {M : bk_M} {N T : Int → Int} {c : Int} (hR : bkRel M p N) (hp : (M 11 0 1).toNat = p) (hc : M 10 0 1 = c) (hT : ∀ j, 0 ≤ j → j < c → M 53 0 j = T j ∧ 0 ≤ T j) :
    bk_C (d + 4) 0 93 [bk_c 11 0] M (fun t r M' => t = 0 ∧ bkFr bkA93 M M' ∧ (∀ j, j ≠ 1 → M' 10 0 j = M 10 0 j) ∧ M' 10 0 1 = 0 ∧ bkRanR N T c r ∧ bkRanK N T c (M 1 0 2) (M 20 0) (M 21 0) (M' 1 0 2) (M' 20 0) (M' 21 0)) := by
  have n2 := (bkRel_md hR).2.1
  rw [E_93, hp, E_94]
  refine bk_use (S95 (d := d + 1) hR hc hT) ?_
  rintro r M2 ⟨F2, h2⟩
  have R2 : bkRel M2 p N := bkRel_fr hR fun k hk => F2 k p (by unfold bkA95; omega)
  have F2' : bkFr bkA93 M M2 := bkFr_mono F2 fun k a w => by unfold bkA95 at w; unfold bkA93; omega
  rcases h2 with ⟨hok, rfl, I2⟩ | ⟨hno, rfl⟩
  · refine ⟨rfl, fun _ => ?_, fun z => absurd (by decide) z⟩
    refine bk_use (S96 (d := d) R2 I2) ?_
    rintro r M5 ⟨F5, hr, W5⟩
    have R5 : bkRel M5 p N := bkRel_fr R2 fun k hk => F5 k p (by unfold bkA96; omega)
    have F5' : bkFr bkA93 M M5 := bkFr_trans F2' (bkFr_mono F5 fun k a w => by unfold bkA96 at w; unfold bkA93; omega)
    have k10 : M5 10 0 = M 10 0 := by rw [F5 10 0 (by unfold bkA96; omega), F2 10 0 (by unfold bkA95; omega)]
    have k1 : M5 1 0 = M 1 0 := by rw [F5 1 0 (by unfold bkA96; omega), F2 1 0 (by unfold bkA95; omega)]
    have k20 : M5 20 0 = M 20 0 := by rw [F5 20 0 (by unfold bkA96; omega), F2 20 0 (by unfold bkA95; omega)]
    have k21 : M5 21 0 = M 21 0 := by rw [F5 21 0 (by unfold bkA96; omega), F2 21 0 (by unfold bkA95; omega)]
    refine ⟨rfl, fun z => ⟨rfl, ?_⟩, fun z => ?_⟩
    · have hnil : bkAll N T c = [] := List.eq_nil_of_length_eq_zero (by omega)
      intro M7 hM7
      refine ⟨rfl, by rw [hM7]; exact bkFr_up F5' (by unfold bkA93; omega), fun j hj => by rw [hM7, bk_up_s hj, k10], by rw [hM7, bk_up_e], ⟨fun _ => hr, fun w => absurd hok w⟩, ⟨fun _ b Y e => absurd (hnil.symm.trans e) (by simp), fun _ => ?_⟩⟩
      rw [hM7, bk_up_f (by decide), bk_up_f (by decide), bk_up_f (by decide), k1, k20, k21]
      exact ⟨rfl, rfl, rfl⟩
    · obtain ⟨b, Y, eb⟩ : ∃ b Y, bkAll N T c = b :: Y := by
        cases h : bkAll N T c with
        | nil => rw [h] at hr; exact absurd hr (by simp; omega)
        | cons b Y => exact ⟨b, Y, rfl⟩
      intro M7 hM7
      have F7 : bkFr bkA93 M M7 := by rw [hM7]; exact bkFr_up F5' (by unfold bkA93; omega)
      have R7 : bkRel M7 p N := bkRel_fr R5 fun k hk => by rw [hM7, bk_up_f (by omega)]
      have W7 : ∀ y z, 0 ≤ y → y < N 3 → 0 ≤ z → z < N 2 → M7 24 0 (6 * y + z) = bkLn (bkOkR N T (c / 2).toNat) (N 3) (N 3 - 1 - y).toNat z := fun y z q1 q2 q3 q4 => by rw [hM7, bk_up_f (by decide)]; exact W5 y z q1 q2 q3 q4
      have e72 : M7 1 0 2 = N 3 := by rw [hM7, bk_up_e, R5.2.1.2.2.2.1]
      refine bk_use (S98 (d := d + 1) R7 eb W7) ?_
      rintro r9 M9 ⟨F9, U9⟩
      have R9 : bkRel M9 p N := bkRel_fr R7 fun k hk => F9 k p (by omega)
      refine ⟨rfl, ?_⟩
      refine bk_use (S99 (d := d) R9 (by rw [eb]; simp) (fun y z q1 q2 q3 q4 => by rw [F9 24 0 (by omega)]; exact W7 y z q1 q2 q3 q4)) ?_
      rintro r12 M12 ⟨F12, U12⟩
      have F12' : bkFr bkA93 M M12 := bkFr_trans F7 (bkFr_trans (bkFr_mono F9 fun k a w => by unfold bkA93; omega) (bkFr_mono F12 fun k a w => by unfold bkA99 at w; unfold bkA93; omega))
      refine ⟨rfl, rfl, ?_⟩
      intro M13 hM13
      refine ⟨rfl, by rw [hM13]; exact bkFr_up F12' (by unfold bkA93; omega), fun j hj => ?_, by rw [hM13, bk_up_e], ⟨fun _ => hr, fun w => absurd hok w⟩, ⟨fun _ b' Y' e' => ⟨?_, fun i hi => ⟨?_, ?_⟩⟩, fun w => ?_⟩⟩
      · rw [hM13, bk_up_s hj, F12 10 0 (by unfold bkA99; omega), F9 10 0 (by omega), hM7, bk_up_f (by decide), k10]
      · rw [hM13, bk_up_f (by decide), F12 1 0 (by unfold bkA99; omega), F9 1 0 (by omega), e72]
      · rw [eb] at e'
        have : b' = b := by simp at e'; exact e'.1.symm
        rw [this, hM13, bk_up_f (by decide), F12 20 0 (by unfold bkA99; omega)]
        have := U9 i (by omega) hi
        rwa [Int.toNat_natCast] at this
      · rw [hM13, bk_up_f (by decide)]
        have := U12 i (by omega) hi
        rwa [Int.toNat_natCast] at this
      · rcases w with w | w
        · exact absurd hok w
        · rw [eb] at w; exact absurd w (by simp)
  · refine ⟨rfl, fun z => absurd rfl z, fun _ => ⟨rfl, ?_⟩⟩
    intro M7 hM7
    refine ⟨rfl, by rw [hM7]; exact bkFr_up F2' (by unfold bkA93; omega), fun j hj => by rw [hM7, bk_up_s hj, F2 10 0 (by unfold bkA95; omega)], by rw [hM7, bk_up_e], ⟨fun w => absurd w hno, fun _ => rfl⟩, ⟨fun w => absurd w hno, fun _ => ?_⟩⟩
    rw [hM7, bk_up_f (by decide), bk_up_f (by decide), bk_up_f (by decide), F2 1 0 (by unfold bkA95; omega), F2 20 0 (by unfold bkA95; omega), F2 21 0 (by unfold bkA95; omega)]
    exact ⟨rfl, rfl, rfl⟩
