/-! plain, the whole question: the class. -/
theorem S4c {d : Nat} {M : bk_M} {T : Int → Int} {c : Int} (hT : M 53 0 = T) (hc : M 10 0 1 = c) (hc2 : 0 ≤ c ∧ c ≤ 940) (hw : ∀ w : Nat, w < 25 → M 54 0 w = bkWt w) (hd : 0 ≤ M 11 0 1 ∧ 0 ≤ M 11 0 2) : bk_C (d + 8) 0 4 [bk_c 11 0] M (fun t r M' => t = 0 ∧ M' 10 0 1 = 0 ∧
    (∀ w q, bkTx T c 900 900 0 bkS0 0 = .inl (w, q) → r = -1 - q ∧ M' 11 0 16 = w ∧ (∀ j, j ≠ 16 → M' 11 0 j = M 11 0 j) ∧ bkFr (fun k a => bkCa (M 11 0 2).toNat k a ∨ (k = 11 ∧ a = 0)) M M') ∧
    (∀ n S, bkTx T c 900 900 0 bkS0 0 = .inr (n, S) → r = n ∧ M' 11 0 16 = 0 ∧ M' 11 0 1 = M 11 0 2 ∧ M' 11 0 2 = M 11 0 1 ∧ (∀ j, j ≠ 1 → j ≠ 2 → j ≠ 16 → M' 11 0 j = M 11 0 j) ∧ M' 3 0 0 = 0 ∧ (∀ j, j ≠ 0 → M' 3 0 j = M 3 0 j) ∧ M' 9 (M 11 0 7).toNat 0 = 0 ∧ M' 9 (M 11 0 7).toNat 1 = 0 ∧ bkSv S ∧
      (∃ M1 : bk_M, bkRdP M1 (M 11 0 2).toNat S ∧ (∀ k, k ≠ 29 → k = 5 ∨ (28 ≤ k ∧ k ≤ 39) → M' k (M 11 0 2).toNat = M1 k (M 11 0 2).toNat)) ∧
      (∀ y, 0 ≤ y → y < S 3 → M' 29 (M 11 0 2).toNat y = bkBd (fun c => S (6 + c)) (S 2) (S 3) (S 4) y ∧ 0 ≤ bkBd (fun c => S (6 + c)) (S 2) (S 3) (S 4) y ∧ bkBd (fun c => S (6 + c)) (S 2) (S 3) (S 4) y < S 2) ∧
      bkFr (fun k a => bkCa (M 11 0 2).toNat k a ∨ (k = 11 ∧ a = 0) ∨ ((k = 8 ∨ k = 45 ∨ k = 46 ∨ k = 47 ∨ k = 48) ∧ a = 0) ∨ (k = 3 ∧ a = 0) ∨ (k = 9 ∧ a = (M 11 0 7).toNat)) M M')) := by
  generalize hp : (M 11 0 2).toNat = p
  rw [E_4, hp]
  refine bk_use (S5c hT hc hc2 hw) (fun r M2 hM2 => ⟨rfl, ?_⟩)
  obtain ⟨f2, o2, g1, g2⟩ := hM2
  have e11 : M2 11 0 = M 11 0 := f2 11 0 (by unfold bkCa; omega)
  rw [E_31]
  intro M3 e3 M5 e5
  have pb := bkPb_tx (T := T) (c := c) (L := 900) hc2.2 (by omega) 900 0 0 bkS0 (by omega) bkS0_v
  have m1 : M5 10 0 1 = 0 := by rw [e5, bk_up_e]
  have m16 : M5 11 0 16 = M2 10 0 6 := by rw [e5, bk_up_k (by decide), e3, bk_up_e]
  have m11 : ∀ j, j ≠ 16 → M5 11 0 j = M 11 0 j := fun j q => by rw [e5, bk_up_k (by decide), e3, bk_up_s q, e11]
  have u : ∀ k a, ¬ (k = 10 ∧ a = 0) → ¬ (k = 11 ∧ a = 0) → M5 k a = M2 k a := fun k a w1 w2 => by
    funext j
    rw [e5, e3, bk_up_ne (by simp only [ne_eq, Prod.mk.injEq]; omega), bk_up_ne (by simp only [ne_eq, Prod.mk.injEq]; omega)]
  have F5 : bkFr (fun k a => bkCa p k a ∨ (k = 11 ∧ a = 0)) M M5 := fun k a w => by
    rw [u k a (fun q => w (.inl (.inl q))) (fun q => w (.inr q)), f2 k a fun q => w (.inl q)]
  rcases eO : bkTx T c 900 900 0 bkS0 0 with ⟨w, q⟩ | ⟨n, S⟩
  · obtain ⟨a1, a2, a3⟩ := g1 w q eO
    have hq := pb w q eO
    have m7 : M5 10 0 7 = q := by rw [e5, bk_up_s (by decide), e3, bk_up_k (by decide), a3]
    rw [m7]
    refine ⟨rfl, fun z => absurd a1 z, fun _ => ⟨by unfold bk_r32; omega, rfl, m1, fun w' q' e => ?_, fun n S e => (by cases e)⟩⟩
    cases e
    exact ⟨rfl, by rw [m16, a2], m11, F5⟩
  · obtain ⟨a1, a2, -, a3, a4⟩ := g2 n S eO
    have hn : r ≠ -1 ∨ r = -1 := by omega
    have nn : 0 ≤ n := by
      have key : ∀ (k : Nat) (n0 i : Int) (S0 : Int → Int), 0 ≤ n0 → bkTx T c 900 k n0 S0 i = .inr (n, S) → 0 ≤ n := by
        intro k
        induction k with
        | zero => intro n0 i S0 h e; cases e
        | succ k ih =>
          intro n0 i S0 h e
          rw [bkTx_s] at e
          split at e
          · cases e; exact h
          · split at e
            · cases e
            · split at e
              · exact ih _ _ _ (by omega) e
              · cases e
      exact key 900 0 0 bkS0 (by omega) eO
    have P5 : bkRdP M5 p S := bkRdP_e a3 fun k hk => u k p (by omega) (by omega)
    refine ⟨rfl, fun z => ?_, fun z => absurd (by omega) z⟩
    rw [m11 2 (by decide), hp]
    refine bk_use (S32c P5 a4) (fun r8 M8 hM8 => ⟨rfl, fun M10 e10 M11 e11' => ?_⟩)
    obtain ⟨f8, o8, b8⟩ := hM8
    have k8 : M8 11 0 = M5 11 0 := f8 11 0 (by omega)
    rw [k8, m11 2 (by decide)] at e10
    rw [k8, m11 1 (by decide)] at e11'
    have x1 : M11 11 0 1 = M 11 0 2 := by rw [e11', bk_up_s (by decide), e10, bk_up_e]; exact Int.toNat_of_nonneg hd.2
    have x2 : M11 11 0 2 = M 11 0 1 := by rw [e11', bk_up_e]; exact Int.toNat_of_nonneg hd.1
    have xo : ∀ j, j ≠ 1 → j ≠ 2 → M11 11 0 j = M5 11 0 j := fun j q1 q2 => by rw [e11', bk_up_s q2, e10, bk_up_s q1, k8]
    rw [xo 7 (by decide) (by decide), m11 7 (by decide), E_37]
    intro M12 e12 M13 e13
    refine ⟨rfl, ?_⟩
    rw [E_38]
    intro M14 e14
    have v : ∀ k a, k ≠ 3 → k ≠ 9 → k ≠ 11 → M14 k a = M8 k a := fun k a w1 w2 w3 => by
      rw [e14, bk_up_f w1, e13, bk_up_f w2, e12, bk_up_f w2, e11', bk_up_f w3, e10, bk_up_f w3]
    have v11 : M14 11 0 = M11 11 0 := by rw [e14, bk_up_f (by decide), e13, bk_up_f (by decide), e12, bk_up_f (by decide)]
    refine ⟨rfl, rfl, ?_, fun w q e => (by cases e), fun n' S' e => ?_⟩
    · rw [v 10 0 (by decide) (by decide) (by decide), f8 10 0 (by omega)]; exact m1
    · cases e
      refine ⟨a1, by rw [v11, xo 16 (by decide) (by decide), m16, a2], by rw [v11, x1], by rw [v11, x2], fun j q1 q2 q3 => by rw [v11, xo j q1 q2, m11 j q3], by rw [e14, bk_up_e], fun j q => by rw [e14, bk_up_s q, e13, bk_up_k (by decide), e12, bk_up_k (by decide), e11', bk_up_k (by decide), e10, bk_up_k (by decide), f8 3 0 (by omega), F5 3 0 (by unfold bkCa; omega)], ?_, ?_, a4, ⟨M5, P5, fun k k1 k2 => ?_⟩, fun y y0 y1 => ?_, fun k a w => ?_⟩
      · rw [e14, bk_up_f (by decide), e13, bk_up_s (by decide), e12, bk_up_e]
      · rw [e14, bk_up_f (by decide), e13, bk_up_e]
      · rw [v k p (by omega) (by omega) (by omega), f8 k p (by omega)]
      · rw [v 29 p (by decide) (by decide) (by decide)]; exact b8 y y0 y1
      · unfold bkCa at w
        funext j
        rw [e14, e13, e12, e11', e10, bk_up_ne (by simp only [ne_eq, Prod.mk.injEq]; omega), bk_up_ne (by simp only [ne_eq, Prod.mk.injEq]; omega), bk_up_ne (by simp only [ne_eq, Prod.mk.injEq]; omega), bk_up_ne (by simp only [ne_eq, Prod.mk.injEq]; omega), bk_up_ne (by simp only [ne_eq, Prod.mk.injEq]; omega), f8 k a (by omega), F5 k a (by unfold bkCa; omega)]
