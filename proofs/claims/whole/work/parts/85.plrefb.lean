/-! plain, the whole question: the reference. -/
theorem S159d {d : Nat} {M : bk_M} {T : Int → Int} {c : Int} (hT : M 57 0 = T) (hc : M 12 0 2 = c) (hc2 : 0 ≤ c ∧ c ≤ 940) : bk_C (d + 8) 0 159 [bk_c 12 0] M (fun t r M' => t = 0 ∧ M' 12 0 0 = 0 ∧ M' 12 0 2 = 0 ∧ (∀ j, (14 ≤ j ∧ j ≠ 25 ∧ j ≠ 26) ∨ j = 1 → M' 12 0 j = M 12 0 j) ∧
    (∀ w q, bkTx T c 900 900 0 bkS0 0 = .inl (w, q) → r = -1 - q ∧ M' 12 0 10 = w ∧ M' 12 0 25 = M 12 0 25 ∧ bkFr bkFa M M') ∧
    (∀ n S, bkTx T c 900 900 0 bkS0 0 = .inr (n, S) → r = n ∧ M' 12 0 10 = 0 ∧ M' 12 0 25 = 0 ∧ bkSv S ∧ (∀ j, 0 ≤ j → j < 437 → ¬ (121 ≤ j ∧ j < 127) → M' 58 0 j = bkSR S j) ∧ (∀ y, 0 ≤ y → y < S 3 → M' 58 0 (121 + y) = bkBd (fun c => S (6 + c)) (S 2) (S 3) (S 4) y) ∧ (∀ c, 0 ≤ c → c < 36 → M' 69 0 c = 0) ∧
      (∀ f, 0 ≤ f → f < S 0 → M' 63 0 f = bkCv 7 (S (200 + f))) ∧ (∀ m, 0 ≤ m → m < S 1 → M' 63 0 (10 + m) = bkCv 7 (S (210 + m))) ∧
      bkFr (fun k a => bkFa k a ∨ ((k = 58 ∨ k = 63 ∨ k = 69 ∨ k = 70 ∨ k = 71) ∧ a = 0)) M M')) := by
  have pb := bkPb_tx (T := T) (c := c) (L := 900) hc2.2 (by omega) 900 0 0 bkS0 (by omega) bkS0_v
  refine S159c hT hc hc2 (fun w q M' eO f o z0 z2 e1 e2 => ?_) (fun n S M1 eO f1 o1 z0 z2 e1 R hS => ?_)
  · have hq := pb w q eO
    refine ⟨by unfold bk_r32; omega, rfl, z0, z2, fun j q => o j (by omega), fun w' q' e => ?_, fun n S e => by rw [eO] at e; cases e⟩
    rw [eO] at e
    cases e
    exact ⟨rfl, e1, o 25 (by omega), f⟩
  · refine S159b (fun M2 f2 v2 n2 => ?_)
    have r59 : M2 59 0 = M1 59 0 := f2 59 0 (by omega)
    refine bk_use (d := d + 7) (S151c (d := d + 1) (S := S) (fun j j0 j1 => by rw [v2 j j0 j1]; exact R.1 j j0 j1) hS) (fun r M3 hM3 => ⟨rfl, fun M4 e4 => ?_⟩)
    obtain ⟨f3, a3, b3, i3⟩ := hM3
    have q12 : M3 12 0 = M1 12 0 := by rw [f3 12 0 (by omega), f2 12 0 (by omega)]
    have o4 : ∀ j, j ≠ 25 → M4 12 0 j = M1 12 0 j := fun j q => by rw [e4, bk_up_s q, q12]
    have u : ∀ k a, ¬ (k = 12 ∧ a = 0) → M4 k a = M3 k a := fun k a w => by
      funext j
      rw [e4, bk_up_ne (by simp only [ne_eq, Prod.mk.injEq]; omega)]
    have s0 := hS.2.2.1
    have s1 := hS.2.2.2.1
    refine ⟨rfl, by rw [o4 0 (by decide), z0], by rw [o4 2 (by decide), z2], fun j q => by rw [o4 j (by omega), o1 j (by omega)], fun w' q' e => (by rw [eO] at e; cases e), fun n' S' e => ?_⟩
    rw [eO] at e
    cases e
    refine ⟨rfl, by rw [o4 10 (by decide), e1], by rw [e4, bk_up_e], hS, by rw [u 58 0 (by omega)]; exact a3, by rw [u 58 0 (by omega)]; exact b3, by rw [u 69 0 (by omega)]; exact i3, fun g g0 g1 => ?_, fun m m0 m1 => ?_, fun k a w => ?_⟩
    · rw [u 63 0 (by omega), f3 63 0 (by omega), n2 g g0 (by omega)]; exact R.2.2.2.2.1 g g0 g1
    · rw [u 63 0 (by omega), f3 63 0 (by omega), n2 (10 + m) (by omega) (by omega)]; exact R.2.2.2.2.2 m m0 m1
    · unfold bkFa at w
      rw [u k a (by omega), f3 k a (by omega), f2 k a (by omega), f1 k a (by unfold bkFa; omega)]
