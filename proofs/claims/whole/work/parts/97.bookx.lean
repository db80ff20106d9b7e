/-! The class's book, whole. -/
theorem bkKeep_congr {M M' : bk_M} {j : Nat} (h3 : M' 3 0 = M 3 0) (hp : ∀ k, (k = 5 ∨ (28 ≤ k ∧ k ≤ 39)) → M' k j = M k j) {k b : Nat} (hb : M' k b = M k b) : bkKeep M' j k b = bkKeep M j k b := by
  funext c
  unfold bkKeep bk_up bkCopy
  rw [h3, hb, hp 5 (.inl rfl)]
  by_cases hk : 28 ≤ k ∧ k ≤ 39
  · rw [hp k (.inr hk)]
  · rw [if_neg (show ¬ (28 ≤ k ∧ k ≤ 39 ∧ b = 3 + (M 3 0 1).toNat ∧ 0 ≤ c ∧ c < bkLenP k) by omega), if_neg (show ¬ (28 ≤ k ∧ k ≤ 39 ∧ b = 3 + (M 3 0 1).toNat ∧ 0 ≤ c ∧ c < bkLenP k) by omega)]
theorem bkKeep_3 {M : bk_M} {j b : Nat} (h : b ≠ 0) : bkKeep M j 3 b = M 3 b := by
  funext c
  unfold bkKeep
  rw [bk_up_ne (by simp only [ne_eq, Prod.mk.injEq]; omega), bk_up_ne (by simp only [ne_eq, Prod.mk.injEq]; omega), bkCopy_o (.inr (by omega))]
theorem bkKeep_p {M : bk_M} {j k b : Nat} {c : Int} (hk : k ≠ 3) (h : ¬ ((k = 5 ∨ (28 ≤ k ∧ k ≤ 39)) ∧ 3 ≤ b ∧ b ≤ 10)) (h1 : 0 ≤ M 3 0 1 ∧ M 3 0 1 < 8) : bkKeep M j k b c = M k b c := by
  unfold bkKeep
  rw [bk_up_k hk, bk_up_k hk, bkCopy_o (by omega)]
def bkA111 (k a : Nat) : Prop := bkBa k a ∨ ((k = 11 ∨ k = 56 ∨ k = 8 ∨ (45 ≤ k ∧ k ≤ 48)) ∧ a = 0) ∨ ((k = 5 ∨ (28 ≤ k ∧ k ≤ 39)) ∧ a = 2)
def bkEc (M : bk_M) (p : Nat) (a : Int) (W : Int × Int × (Int → Int)) (r : Int) (M' : bk_M) : Prop :=
  r = (if W.1 = 0 then -1 else W.2.1) ∧ M' 11 0 16 = 0 ∧ M' 11 0 15 = 1 ∧ (∀ j, j ≠ 15 → j ≠ 16 → M' 11 0 j = M 11 0 j) ∧ (M' 56 0 0 = W.1 ∧ M' 56 0 1 = W.2.1 ∧ M' 56 0 2 = W.2.2 80 ∧ M' 56 0 3 = bkFld W.2.2 0) ∧
  (¬ (a = 1 ∧ 0 < W.2.1) → bkFr bkA111 M M') ∧ (a = 1 ∧ 0 < W.2.1 → bkRel M' p W.2.2 ∧ (∀ j, 0 ≤ j → j < 10 → M' 33 p j = M 33 p j) ∧ (∀ j, 0 ≤ j → j < 3 → M' 36 p j = M 36 p j) ∧ M' 3 0 = bkKeep M p 3 0 ∧ (∀ k b, 3 ≤ b → b ≤ 10 → M' k b = bkKeep M p k b) ∧ bkFr (fun k b => bkA111 k b ∨ (k = 3 ∧ b = 0) ∨ ((k = 5 ∨ (28 ≤ k ∧ k ≤ 39)) ∧ (b = p ∨ (3 ≤ b ∧ b ≤ 10)))) M M')
theorem S111c {d p m : Nat} {M : bk_M} {T N S0 : Int → Int} {c a : Int} (hT : M 53 0 = T) (hc : M 10 0 1 = c) (hc2 : 0 ≤ c ∧ c ≤ 940) (hw : ∀ w : Nat, w < 25 → M 54 0 w = bkWt w) (hR : bkRel M p N) (hp : (M 11 0 1).toNat = p) (hp2 : p < 2) (hm : N 1 = m) (h30 : 0 ≤ M 3 0 0 ∧ M 3 0 0 ≤ 8) (h31 : 0 ≤ M 3 0 1 ∧ M 3 0 1 < 8) (ha : a = 0 ∨ a = 1) :
    bk_C (d + 8) 0 111 [bk_c 11 0, bk_i a] M (fun t r M' => t = 0 ∧ M' 10 0 1 = 0 ∧
      (∀ w q, bkBTx (M 36 p) m T c 400 41 0 S0 0 = .inl (w, q) → r = -2 - q ∧ M' 11 0 16 = w ∧ (∀ j, j ≠ 16 → M' 11 0 j = M 11 0 j) ∧ bkFr (fun k a => bkBa k a ∨ (k = 11 ∧ a = 0)) M M') ∧
      (∀ n S, bkBTx (M 36 p) m T c 400 41 0 S0 0 = .inr (n, S) → bkEc M p a (bkLvs S n 41 0 N) r M')) := by
  have hN := bkRel_md hR
  have m3 := hN.2.2.2.2.2.1
  have b2 : M 5 p 11 = N 1 := hR.2.1.2.1
  have tm : (M 5 p 11).toNat = m := by omega
  rw [E_111, hp]
  refine (fun tx => ⟨fun _ => tx, fun _ => ⟨fun _ => tx, fun z => absurd ha (by omega)⟩⟩) ?_
  refine bk_use (S112c (S0 := S0) hT hc hc2 hw (by omega)) (fun r M2 hM2 => ⟨rfl, ?_⟩)
  rw [tm] at hM2
  obtain ⟨f2, o2, g1, g2⟩ := hM2
  have e11 : M2 11 0 = M 11 0 := f2 11 0 (by unfold bkBa; omega)
  have pb := bkBk_tx (f := M 36 p) (m := m) (T := T) (c := c) (L := 400) (by omega) hc2.2 41 0 0 S0 (by omega) (by omega) (fun j _ _ => by omega)
  rw [E_31]
  intro M3 e3 M5 e5
  have m1 : M5 10 0 1 = 0 := by rw [e5, bk_up_e]
  have m16 : M5 11 0 16 = M2 10 0 6 := by rw [e5, bk_up_k (by decide), e3, bk_up_e]
  have m11 : ∀ j, j ≠ 16 → M5 11 0 j = M 11 0 j := fun j q => by rw [e5, bk_up_k (by decide), e3, bk_up_s q, e11]
  have u : ∀ k a, ¬ (k = 10 ∧ a = 0) → ¬ (k = 11 ∧ a = 0) → M5 k a = M2 k a := fun k a w1 w2 => by
    funext j
    rw [e5, e3, bk_up_ne (by simp only [ne_eq, Prod.mk.injEq]; omega), bk_up_ne (by simp only [ne_eq, Prod.mk.injEq]; omega)]
  have F5 : bkFr (fun k a => bkBa k a ∨ (k = 11 ∧ a = 0)) M M5 := fun k a w => by
    rw [u k a (fun q => w (.inl ⟨.inl q.1, q.2⟩)) (fun q => w (.inr q)), f2 k a fun q => w (.inl q)]
  rcases eO : bkBTx (M 36 p) m T c 400 41 0 S0 0 with ⟨w, q⟩ | ⟨n, S⟩
  · obtain ⟨a1, a2, a3⟩ := g1 w q eO
    have hq := pb.1 w q eO
    have m7 : M5 10 0 7 = q := by rw [e5, bk_up_s (by decide), e3, bk_up_k (by decide), a3]
    rw [m7]
    refine ⟨rfl, fun z => absurd a1 z, fun _ => ⟨by unfold bk_r32; omega, rfl, m1, fun w' q' e => ?_, fun n S e => (by cases e)⟩⟩
    cases e
    exact ⟨rfl, by rw [m16, a2], m11, F5⟩
  · obtain ⟨a1, a2, a3, a4⟩ := g2 n S eO
    obtain ⟨b0, b40, bv⟩ := pb.2 n S eO
    have p5 : (M5 11 0 1).toNat = p := by rw [m11 1 (by decide), hp]
    refine ⟨rfl, fun _ => ?_, fun z => absurd a1 (by omega)⟩
    rw [p5, S58 (by omega)]
    have R5 : bkRel M5 p N := bkRel_fr hR fun k hk => F5 k p (by unfold bkBa; omega)
    have R6 : bkRel (bkCopy M5 2 p) 2 N := bkRel_copy R5
    have C6 : bkFr (bkACopy 2) M5 (bkCopy M5 2 p) := bkCopy_fr M5 2 p
    have n33 : ∀ j, 0 ≤ j → j < 10 → bkCopy M5 2 p 33 2 j = M 33 p j := fun j j0 j1 => by rw [bkCopy_a (by decide) j0 (by unfold bkLenP; simpa using j1), F5 33 p (by unfold bkBa; omega)]
    have n36 : ∀ j, 0 ≤ j → j < 3 → bkCopy M5 2 p 36 2 j = M 36 p j := fun j j0 j1 => by rw [bkCopy_a (by decide) j0 (by unfold bkLenP; simpa using j1), F5 36 p (by unfold bkBa; omega)]
    generalize bkCopy M5 2 p = M6 at *
    have C6' : ∀ k b, ¬ ((k = 5 ∨ (28 ≤ k ∧ k ≤ 39)) ∧ b = 2) → M6 k b = M5 k b := fun k b w => C6 k b (by unfold bkACopy; omega)
    have F6 : bkFr bkA111 M M6 := bkFr_trans (bkFr_mono F5 fun k b w => w.elim .inl fun w => .inr (.inl ⟨.inl w.1, w.2⟩)) (fun k b w => C6' k b (by unfold bkA111 at w; omega))
    have u6 : ∀ k b, k ≠ 10 → k ≠ 11 → (¬ bkBa k b) → b ≠ 2 → M6 k b = M k b := fun k b w1 w2 w3 w4 => by rw [C6' k b (by omega), u k b (by omega) (by omega), f2 k b w3]
    refine ⟨rfl, bk_use (S117c (i := 0) (p := 2) (S := S) (n := n) R6 (bkBc_e a4 fun k k0 k1 => by rw [C6' k 0 (by omega), u k 0 (by omega) (by omega)]) bv hm (by rw [C6' 0 0 (by omega), u 0 0 (by omega) (by omega)]; exact a3) ⟨b0, b40⟩) (fun r M11 hM11 => ⟨rfl, ?_⟩)⟩
    obtain ⟨f11, w0, w1, R11⟩ := hM11
    generalize hW : bkLvs S n 41 0 N = W at *
    have l11 : ∀ k b, ¬ (k = 0 ∧ b = 0) → ¬ ((k = 8 ∨ (45 ≤ k ∧ k ≤ 48)) ∧ b = 0) → ¬ ((k = 5 ∨ (28 ≤ k ∧ k ≤ 39)) ∧ b = 2) → M11 k b = M6 k b := fun k b q1 q2 q3 => f11 k b (by unfold bkLb bkLa bkA65; omega)
    have F11 : bkFr bkA111 M M11 := bkFr_trans F6 (fun k b w => l11 k b (by unfold bkA111 bkBa at w; omega) (by unfold bkA111 at w; omega) (by unfold bkA111 at w; omega))
    have x33 : M11 33 2 = M6 33 2 := f11 33 2 (by unfold bkLb bkLa bkA65; omega)
    have x36 : M11 36 2 = M6 36 2 := f11 36 2 (by unfold bkLb bkLa bkA65; omega)
    refine ⟨by omega, fun M13 e13 => ⟨by omega, fun M14 e14 => ⟨by omega, fun M15 e15 => ?_⟩⟩⟩
    have v15 : ∀ k b, k ≠ 56 → M15 k b = M11 k b := fun k b w => by rw [e15, e14, e13, bk_up_f w, bk_up_f w, bk_up_f w]
    have R15 : bkRel M15 2 W.2.2 := bkRel_fr R11 fun k hk => v15 k 2 (by omega)
    rw [S48r R15]
    refine ⟨rfl, by omega, fun M19 e19 => ⟨.inr rfl, fun M20 e20 => ?_⟩⟩
    have v20 : ∀ k b, k ≠ 56 → k ≠ 11 → M20 k b = M11 k b := fun k b w w2 => by rw [e20, bk_up_f w2, e19, bk_up_f w, v15 k b w]
    have x11 : ∀ j, j ≠ 15 → M20 11 0 j = M5 11 0 j := fun j q => by rw [e20, bk_up_s q, e19, bk_up_k (by decide), v15 11 0 (by decide), l11 11 0 (by omega) (by omega) (by omega), C6' 11 0 (by omega)]
    have y0 : M20 0 0 0 = W.1 := by rw [v20 0 0 (by decide) (by decide), w0]
    have t56 : M20 56 0 0 = W.1 ∧ M20 56 0 1 = W.2.1 ∧ M20 56 0 2 = W.2.2 80 ∧ M20 56 0 3 = bkFld W.2.2 0 := by
      have s17 : M14 5 2 17 = W.2.2 80 := by rw [e14, e13, bk_up_k (by decide), bk_up_k (by decide)]; exact R11.2.2.1
      refine ⟨?_, ?_, ?_, ?_⟩
      · rw [e20, bk_up_k (by decide), e19, bk_up_s (by decide), e15, bk_up_s (by decide), e14, bk_up_s (by decide), e13, bk_up_e, w0]
      · rw [e20, bk_up_k (by decide), e19, bk_up_s (by decide), e15, bk_up_s (by decide), e14, bk_up_e, w1]
      · rw [e20, bk_up_k (by decide), e19, bk_up_s (by decide), e15, bk_up_e, s17]
      · rw [e20, bk_up_k (by decide), e19, bk_up_e]
    have F20 : bkFr bkA111 M M20 := by
      have A : bkA111 56 0 := .inr (.inl ⟨by omega, rfl⟩)
      rw [e20, e19, e15, e14, e13]
      exact bkFr_up (bkFr_up (bkFr_up (bkFr_up (bkFr_up F11 A) A) A) A) (.inr (.inl ⟨by omega, rfl⟩))
    have c16 : M20 11 0 16 = 0 := by rw [x11 16 (by decide), m16, a2]
    have c15 : M20 11 0 15 = 1 := by rw [e20, bk_up_e]
    have cj : ∀ j, j ≠ 15 → j ≠ 16 → M20 11 0 j = M 11 0 j := fun j q1 q2 => by rw [x11 j q1, m11 j q2]
    have z10 : M20 10 0 1 = 0 := by rw [v20 10 0 (by decide) (by decide), l11 10 0 (by omega) (by omega) (by omega), C6' 10 0 (by omega), m1]
    have fin : ∀ (r' : Int) (M' : bk_M), M' 10 0 1 = 0 → bkEc M p a W r' M' → (0 : Nat) = 0 ∧ M' 10 0 1 = 0 ∧ (∀ w q, (Sum.inr (n, S) : (Int × Int) ⊕ (Int × (Int → Int))) = .inl (w, q) → r' = -2 - q ∧ M' 11 0 16 = w ∧ (∀ j, j ≠ 16 → M' 11 0 j = M 11 0 j) ∧ bkFr (fun k a => bkBa k a ∨ (k = 11 ∧ a = 0)) M M') ∧ (∀ n' S', (Sum.inr (n, S) : (Int × Int) ⊕ (Int × (Int → Int))) = .inr (n', S') → bkEc M p a (bkLvs S' n' 41 0 N) r' M') := fun r' M' z h => ⟨rfl, z, fun w q e => (by cases e), fun n' S' e => (by cases e; rw [hW]; exact h)⟩
    have out : ¬ (a = 1 ∧ 0 < W.2.1) → ∀ r', r' = (if W.1 = 0 then -1 else W.2.1) → bkEc M p a W r' M20 := fun z r' er => ⟨er, c16, c15, cj, t56, fun _ => F20, fun q => absurd q z⟩
    have rn : W.1 ≠ 0 → r = (if W.1 = 0 then -1 else W.2.1) := fun w => by rw [if_neg w, w1]
    have rz : ¬ W.1 ≠ 0 → (-1 : Int) = (if W.1 = 0 then -1 else W.2.1) := fun w => by rw [if_pos (Decidable.not_not.1 w)]
    rw [y0]
    refine ⟨fun za => ⟨fun w => fin _ _ z10 (out (by omega) _ (rn w)), fun w => fin _ _ z10 (out (by omega) _ (rz w))⟩, fun za => ⟨fun zr => ⟨fun w => fin _ _ z10 (out (by omega) _ (rn w)), fun w => fin _ _ z10 (out (by omega) _ (rz w))⟩, fun zr => ?_⟩⟩
    have p20 : (M20 11 0 1).toNat = p := by rw [cj 1 (by decide) (by decide), hp]
    have h3 : M20 3 0 = M 3 0 := F20 3 0 (by unfold bkA111 bkBa; omega)
    rw [p20, S57 (by omega) (by rw [h3]; exact h30) (by rw [h3]; exact h31)]
    have kp : (bkKeep M20 p 11 0 1).toNat = p := by rw [bkKeep_o (by decide) (.inl (by omega)), p20]
    rw [kp]
    refine ⟨rfl, ?_⟩
    rw [S58 (by omega)]
    have pp : ∀ k, k = 5 ∨ (28 ≤ k ∧ k ≤ 39) → M20 k p = M k p := fun k hk => F20 k p (by unfold bkA111 bkBa; omega)
    have KR : bkRel (bkKeep M20 p) 2 W.2.2 := bkRel_fr R11 fun k hk => by
      funext j
      rw [bkKeep_o (by omega) (.inl (by omega)), v20 k 2 (by omega) (by omega)]
    have o25 : ∀ k b, ¬ ((k = 5 ∨ (28 ≤ k ∧ k ≤ 39)) ∧ b = p) → bkCopy (bkKeep M20 p) p 2 k b = bkKeep M20 p k b := fun k b w => by
      funext j
      exact bkCopy_o (by omega)
    have e11' : ∀ j, bkCopy (bkKeep M20 p) p 2 11 0 j = M20 11 0 j := fun j => by rw [o25 11 0 (by omega), bkKeep_o (by decide) (.inl (by omega))]
    have e0' : bkCopy (bkKeep M20 p) p 2 0 0 0 = W.1 := by rw [o25 0 0 (by omega), bkKeep_o (by decide) (.inl (by omega)), y0]
    have e10' : bkCopy (bkKeep M20 p) p 2 10 0 1 = 0 := by rw [o25 10 0 (by omega), bkKeep_o (by decide) (.inl (by omega)), z10]
    have e56' : ∀ j, bkCopy (bkKeep M20 p) p 2 56 0 j = M20 56 0 j := fun j => by rw [o25 56 0 (by omega), bkKeep_o (by decide) (.inl (by omega))]
    have stay : ∀ r', r' = (if W.1 = 0 then -1 else W.2.1) → bkEc M p a W r' (bkCopy (bkKeep M20 p) p 2) := fun r' er => by
      refine ⟨er, by rw [e11']; exact c16, by rw [e11']; exact c15, fun j q1 q2 => by rw [e11']; exact cj j q1 q2, by rw [e56', e56', e56', e56']; exact t56, fun z => absurd (show a = 1 ∧ 0 < W.2.1 by omega) z, fun _ => ⟨bkRel_copy KR, fun j j0 j1 => ?_, fun j j0 j1 => ?_, ?_, fun k b b0 b1 => ?_, fun k b w => ?_⟩⟩
      · rw [bkCopy_a (by decide) j0 (by unfold bkLenP; simpa using j1), bkKeep_o (by decide) (.inl (by omega)), v20 33 2 (by decide) (by decide), x33, n33 j j0 j1]
      · rw [bkCopy_a (by decide) j0 (by unfold bkLenP; simpa using j1), bkKeep_o (by decide) (.inl (by omega)), v20 36 2 (by decide) (by decide), x36, n36 j j0 j1]
      · rw [o25 3 0 (by omega)]; exact bkKeep_congr h3 pp h3
      · rw [o25 k b (by omega)]
        exact bkKeep_congr h3 pp (F20 k b (by unfold bkA111 bkBa; omega))
      · rw [o25 k b (by omega)]
        by_cases k3 : k = 3
        · subst k3
          exact (bkKeep_3 (by omega)).trans (F20 3 b (fun q => w (.inl q)))
        · funext j
          rw [bkKeep_p k3 (by omega) (by rw [h3]; exact h31), F20 k b (fun q => w (.inl q))]
    rw [e0']
    exact ⟨rfl, fun w => fin _ _ e10' (stay _ (rn w)), fun w => fin _ _ e10' (stay _ (rz w))⟩
