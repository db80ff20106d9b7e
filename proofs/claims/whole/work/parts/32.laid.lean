/-! The bed that the reference lays. -/
theorem bk_loopS {W : Int → bk_M → Prop} {s n : Int} (I : Int → bk_M → Prop) (h1 : s ≤ n) (hs : ∀ k M, s ≤ k → k < n → I k M → (∀ M', I (k + 1) M' → W (k + 1) M') → W k M) (he : ∀ M, I n M → W n M) {M : bk_M} (h : I s M) : W s M := by
  have key : ∀ (j : Nat) (k : Int), s ≤ k → k + j = n → ∀ M, I k M → W k M := by
    intro j
    induction j with
    | zero => intro k _ e M hI; rw [show k = n by omega] at hI ⊢; exact he M hI
    | succ j ih => intro k h0 e M hI; exact hs k M h0 (by omega) hI (ih (k + 1) (by omega) (by omega))
  exact key (n - s).toNat s (Int.le_refl _) (by omega) M h
theorem S155 {d : Nat} {Q : bk_Q} {x y : Int} {M : bk_M} {R : Int → Int} (hN : bkMd (M 58 0)) (hy : 0 ≤ y ∧ y < M 58 0 3) (hR : ∀ z, 0 ≤ z → z < M 58 0 2 → M 70 0 (6 * y + z) = R z) (ho : ∀ z, ¬ (0 ≤ z ∧ z < M 58 0 2) → R z = 100000) : bk_C (d + 3) 0 155 [bk_c 12 0, bk_i x, bk_i y] M Q ↔ Q 0 (R x) M := by
  refine bk_det (fun Q hQ => ?_) Q
  obtain ⟨n1, n2, -⟩ := hN
  rw [E_155, S156 n1 n2]
  by_cases z : 0 ≤ x ∧ x < M 58 0 2
  · rw [if_pos ⟨z.1, z.2, hy⟩]
    unfold bk_r32
    rw [hR x z.1 z.2]
    exact ⟨rfl, fun w => absurd w (by decide), fun _ => ⟨by omega, by omega, by omega, hQ⟩⟩
  · rw [if_neg (fun w => z ⟨w.1, w.2.1⟩)]
    rw [ho x z] at hQ
    exact ⟨rfl, fun _ => hQ, fun w => absurd rfl w⟩
theorem S154 {d : Nat} {Q : bk_Q} {x y : Int} {M : bk_M} {R : Int → Int} (hN : bkMd (M 58 0)) (hx : -10 ≤ x ∧ x ≤ 10) (hy : 0 ≤ y ∧ y < M 58 0 3) (hR : ∀ z, 0 ≤ z → z < M 58 0 2 → M 70 0 (6 * y + z) = R z) (ho : ∀ z, ¬ (0 ≤ z ∧ z < M 58 0 2) → R z = 100000) : bk_C (d + 4) 0 154 [bk_c 12 0, bk_i x, bk_i y] M Q ↔ Q 0 (R (bkNx R x)) M := by
  refine bk_det (fun Q hQ => ?_) Q
  rw [bkNx_is R x] at hQ
  rw [E_154]
  unfold bk_r32
  refine ⟨by omega, ?_⟩
  rw [S155 hN hy hR ho]
  refine ⟨rfl, ?_⟩
  rw [S155 hN hy hR ho]
  refine ⟨rfl, by omega, ?_⟩
  rw [S155 hN hy hR ho]
  refine ⟨rfl, ?_⟩
  rw [S158]
  refine ⟨rfl, ?_⟩
  rw [S158]
  exact ⟨rfl, hQ⟩
def bkA153 (k a : Nat) : Prop := (k = 70 ∨ k = 71) ∧ a = 0
/-- the ground of the reference -/
def bkGd (M : bk_M) : Int → Int := fun c => M 58 0 (85 + c) + M 69 0 c
def bkLaid (M : bk_M) (r : Int) (M' : bk_M) : Prop :=
  bkFr bkA153 M M' ∧ r = bkRow (bkGd M) (M 58 0 2) (M 58 0 3) 0 (M 58 0 4) ∧ ∀ y, 0 ≤ y → y < M 58 0 3 → M' 71 0 y = bkBd (bkGd M) (M 58 0 2) (M 58 0 3) (M 58 0 4) y
def bkCst (g : Int → Int) (W H : Int) (C : Int → Int) (y : Int) : Prop := ∀ x, 0 ≤ x → x < W → C (6 * y + x) = bkRow g W H y x
theorem LG_153_9 {d : Nat} {Q : bk_Q} (x1 : Int) (v2 : bk_V) (v3 : bk_V) (M : bk_M) : bk_wp (bk_C d) P_153 Q 0 9 [bk_c 12 0, bk_i x1, v2, v3] [] M ↔ ((x1 < (0 : Int) → ((0 : Int) ≤ (4 : Int) ∧ (4 : Int) < (437 : Int)) ∧ ((0 : Int) ≤ (0 : Int) ∧ (0 : Int) < (6 : Int)) ∧ ∀ M1 : bk_M, M1 = bk_up M 71 0 (0 : Int) (M 58 0 (4 : Int)) → bk_wp (bk_C d) P_153 Q 0 105 [bk_c 12 0, bk_i (1 : Int), v2, v3] [] M1) ∧ (¬ (x1 < (0 : Int)) → bk_wp (bk_C d) P_153 Q 0 15 [bk_c 12 0, bk_i x1, bk_i (0 : Int), v3] [] M)) := bk_iff [9, 15, 105, 128] 40
theorem LG_153_15 {d : Nat} {Q : bk_Q} (x1 : Int) (x2 : Int) (v3 : bk_V) (M : bk_M) : bk_wp (bk_C d) P_153 Q 0 15 [bk_c 12 0, bk_i x1, bk_i x2, v3] [] M ↔ ((0 : Int) ≤ (2 : Int) ∧ (2 : Int) < (437 : Int)) ∧ ((M 58 0 (2 : Int) ≤ x2 → bk_r32 (x1 + (-1 : Int)) ∧ bk_wp (bk_C d) P_153 Q 0 9 [bk_c 12 0, bk_i (x1 + (-1 : Int)), bk_i x2, v3] [] M) ∧ (¬ (M 58 0 (2 : Int) ≤ x2) → bk_r32 ((6 : Int) * x1) ∧ bk_r32 (((6 : Int) * x1) + x2) ∧ bk_r32 ((85 : Int) + (((6 : Int) * x1) + x2)) ∧ ((0 : Int) ≤ (85 : Int) + (((6 : Int) * x1) + x2) ∧ (85 : Int) + (((6 : Int) * x1) + x2) < (437 : Int)) ∧ ((0 : Int) ≤ ((6 : Int) * x1) + x2 ∧ ((6 : Int) * x1) + x2 < (36 : Int)) ∧ bk_r32 ((M 58 0 ((85 : Int) + (((6 : Int) * x1) + x2))) + (M 69 0 (((6 : Int) * x1) + x2))) ∧ ((0 : Int) ≤ (3 : Int) ∧ (3 : Int) < (437 : Int)) ∧ bk_r32 ((M 58 0 (3 : Int)) - (1 : Int)) ∧ ((x1 ≠ (M 58 0 (3 : Int)) - (1 : Int) → bk_r32 (x1 + (1 : Int)) ∧ bk_C d 0 154 [bk_c 12 0, bk_i x2, bk_i (x1 + (1 : Int))] M (fun t3 r1 M2 => t3 = 0 ∧ bk_r32 (((M 58 0 ((85 : Int) + (((6 : Int) * x1) + x2))) + (M 69 0 (((6 : Int) * x1) + x2))) + r1) ∧ ((0 : Int) ≤ ((6 : Int) * x1) + x2 ∧ ((6 : Int) * x1) + x2 < (36 : Int)) ∧ ∀ M4 : bk_M, M4 = bk_up M2 70 0 (((6 : Int) * x1) + x2) (((M 58 0 ((85 : Int) + (((6 : Int) * x1) + x2))) + (M 69 0 (((6 : Int) * x1) + x2))) + r1) → bk_r32 (x2 + (1 : Int)) ∧ bk_wp (bk_C d) P_153 Q 0 15 [bk_c 12 0, bk_i x1, bk_i (x2 + (1 : Int)), bk_i (((6 : Int) * x1) + x2)] [] M4)) ∧ (¬ (x1 ≠ (M 58 0 (3 : Int)) - (1 : Int)) → bk_r32 (((M 58 0 ((85 : Int) + (((6 : Int) * x1) + x2))) + (M 69 0 (((6 : Int) * x1) + x2))) + (0 : Int)) ∧ ((0 : Int) ≤ ((6 : Int) * x1) + x2 ∧ ((6 : Int) * x1) + x2 < (36 : Int)) ∧ ∀ M5 : bk_M, M5 = bk_up M 70 0 (((6 : Int) * x1) + x2) (((M 58 0 ((85 : Int) + (((6 : Int) * x1) + x2))) + (M 69 0 (((6 : Int) * x1) + x2))) + (0 : Int)) → bk_r32 (x2 + (1 : Int)) ∧ bk_wp (bk_C d) P_153 Q 0 15 [bk_c 12 0, bk_i x1, bk_i (x2 + (1 : Int)), bk_i (((6 : Int) * x1) + x2)] [] M5)))) := bk_iff [9, 15, 105, 128] 40
theorem LG_153_105 {d : Nat} {Q : bk_Q} (x1 : Int) (v2 : bk_V) (v3 : bk_V) (M : bk_M) : bk_wp (bk_C d) P_153 Q 0 105 [bk_c 12 0, bk_i x1, v2, v3] [] M ↔ ((0 : Int) ≤ (3 : Int) ∧ (3 : Int) < (437 : Int)) ∧ ((M 58 0 (3 : Int) ≤ x1 → ((0 : Int) ≤ (4 : Int) ∧ (4 : Int) < (437 : Int)) ∧ ((0 : Int) ≤ M 58 0 (4 : Int) ∧ M 58 0 (4 : Int) < (36 : Int)) ∧ Q 0 (M 70 0 (M 58 0 (4 : Int))) M) ∧ (¬ (M 58 0 (3 : Int) ≤ x1) → bk_r32 (x1 - (1 : Int)) ∧ ((0 : Int) ≤ x1 - (1 : Int) ∧ x1 - (1 : Int) < (6 : Int)) ∧ bk_r32 ((M 71 0 (x1 - (1 : Int))) - (1 : Int)) ∧ bk_wp (bk_C d) P_153 Q 0 128 [bk_c 12 0, bk_i x1, bk_i (M 71 0 (x1 - (1 : Int))), bk_i ((M 71 0 (x1 - (1 : Int))) - (1 : Int))] [] M)) := bk_iff [9, 15, 105, 128] 40
theorem L153_15 {d : Nat} {Q : bk_Q} {y : Int} {M M1 : bk_M} (hN : bkMd (M 58 0)) (hg : bkGr (bkGd M) (M 58 0 2) (M 58 0 3)) (hy : 0 ≤ y ∧ y < M 58 0 3)
    (hF : bkFr bkA153 M M1) (hR : ∀ z, y < z → z < M 58 0 3 → bkCst (bkGd M) (M 58 0 2) (M 58 0 3) (M1 70 0) z)
    (hQ : ∀ M2 v2 v3, bkFr bkA153 M M2 → (∀ z, y + -1 < z → z < M 58 0 3 → bkCst (bkGd M) (M 58 0 2) (M 58 0 3) (M2 70 0) z) → bk_wp (bk_C (d + 4)) P_153 Q 0 9 [bk_c 12 0, bk_i (y + -1), v2, v3] [] M2) (v3 : bk_V) :
    bk_wp (bk_C (d + 4)) P_153 Q 0 15 [bk_c 12 0, bk_i y, bk_i 0, v3] [] M1 := by
  obtain ⟨n1, n2, n3, n4, -⟩ := id hN
  have key := bk_loopS (W := fun x M2 => ∀ v3, bk_wp (bk_C (d + 4)) P_153 Q 0 15 [bk_c 12 0, bk_i y, bk_i x, v3] [] M2) (s := 0) (n := M 58 0 2)
    (fun x M2 => bkFr bkA153 M M2 ∧ (∀ z, y < z → z < M 58 0 3 → bkCst (bkGd M) (M 58 0 2) (M 58 0 3) (M2 70 0) z) ∧ ∀ u, 0 ≤ u → u < x → M2 70 0 (6 * y + u) = bkRow (bkGd M) (M 58 0 2) (M 58 0 3) y u) (by omega) ?_ ?_ (M := M1) ⟨hF, hR, fun u z1 z2 => absurd z1 (by omega)⟩
  · exact key v3
  · rintro x M2 h0 h1 ⟨F, R, U⟩ ih v3
    have g58 : M2 58 0 = M 58 0 := F 58 0 (by unfold bkA153; omega)
    have g69 : M2 69 0 = M 69 0 := F 69 0 (by unfold bkA153; omega)
    have gx := hg y x (by omega) (by omega) (by omega) (by omega)
    have egx : M 58 0 (85 + (6 * y + x)) + M 69 0 (6 * y + x) = bkGd M (6 * y + x) := rfl
    rw [LG_153_15, g58, g69, egx]
    unfold bk_r32
    refine ⟨by omega, fun z => absurd z (by omega), fun _ => ⟨by omega, by omega, by omega, by omega, by omega, by omega, by omega, by omega, fun hl => ⟨by omega, ?_⟩, fun hl => ⟨by omega, by omega, ?_⟩⟩⟩
    · have hin := bkNx_in hg (W := M 58 0 2) (H := M 58 0 3) (y := y + 1) (x := x) (by omega) (by omega) (by omega) (by omega) (by omega)
      have hlt := bkRow_lt hg (W := M 58 0 2) (H := M 58 0 3) (y := y + 1) (by omega) (by omega) (by omega) (by omega) hin
      rw [S154 (R := bkRow (bkGd M) (M 58 0 2) (M 58 0 3) (y + 1)) (by rw [g58]; exact hN) (by omega) (by rw [g58]; omega) (by rw [g58]; exact R (y + 1) (by omega) (by omega)) (by rw [g58]; exact fun z w => bkRow_out _ _ w)]
      refine ⟨rfl, by omega, by omega, ?_⟩
      intro M4 hM4
      have q70 : ∀ j, M4 70 0 j = if j = 6 * y + x then bkGd M (6 * y + x) + bkRow (bkGd M) (M 58 0 2) (M 58 0 3) (y + 1) (bkNx (bkRow (bkGd M) (M 58 0 2) (M 58 0 3) (y + 1)) x) else M2 70 0 j := fun j => by rw [hM4, bk_up_w]
      refine ⟨by omega, ih M4 ⟨by rw [hM4]; exact bkFr_up F (by unfold bkA153; omega), fun z z1 z2 u w1 w2 => ?_, fun u z1 z2 => ?_⟩ _⟩
      · rw [q70, if_neg (by omega)]
        exact R z z1 z2 u w1 w2
      · rw [q70]
        by_cases e : u = x
        · rw [e, if_pos rfl, bkRow_s (bkGd M) (M 58 0 2) (y := y) x (by omega), if_pos ⟨h0, h1⟩]
        · rw [if_neg (by omega)]; exact U u z1 (by omega)
    · intro M4 hM4
      have q70 : ∀ j, M4 70 0 j = if j = 6 * y + x then bkGd M (6 * y + x) + 0 else M2 70 0 j := fun j => by rw [hM4, bk_up_w]
      refine ⟨by omega, ih M4 ⟨by rw [hM4]; exact bkFr_up F (by unfold bkA153; omega), fun z z1 z2 u w1 w2 => ?_, fun u z1 z2 => ?_⟩ _⟩
      · rw [q70, if_neg (by omega)]
        exact R z z1 z2 u w1 w2
      · rw [q70]
        by_cases e : u = x
        · have hl2 : y = M 58 0 3 - 1 := by omega
          rw [e, if_pos rfl, hl2, bkRow_last, if_pos ⟨h0, h1⟩, Int.add_zero]
        · rw [if_neg (by omega)]; exact U u z1 (by omega)
  · rintro M2 ⟨F, R, U⟩ v3
    have g58 : M2 58 0 = M 58 0 := F 58 0 (by unfold bkA153; omega)
    rw [LG_153_15, g58]
    unfold bk_r32
    refine ⟨by omega, fun _ => ⟨by omega, hQ M2 _ _ F fun z z1 z2 x w1 w2 => ?_⟩, fun z => absurd (Int.le_refl _) z⟩
    by_cases e : z = y
    · rw [e]; exact U x w1 w2
    · exact R z (by omega) z2 x w1 w2
theorem L153_105 {d : Nat} {M M1 : bk_M} (hN : bkMd (M 58 0)) (hg : bkGr (bkGd M) (M 58 0 2) (M 58 0 3)) (hF : bkFr bkA153 M M1) (hR : ∀ z, 0 ≤ z → z < M 58 0 3 → bkCst (bkGd M) (M 58 0 2) (M 58 0 3) (M1 70 0) z) (h71 : M1 71 0 0 = M 58 0 4) (v2 v3 : bk_V) :
    bk_wp (bk_C (d + 4)) P_153 (fun t r M' => t = 0 ∧ bkLaid M r M') 0 105 [bk_c 12 0, bk_i 1, v2, v3] [] M1 := by
  obtain ⟨n1, n2, n3, n4, -⟩ := id hN
  have key := bk_loopS (W := fun y M2 => ∀ v2 v3, bk_wp (bk_C (d + 4)) P_153 (fun t r M' => t = 0 ∧ bkLaid M r M') 0 105 [bk_c 12 0, bk_i y, v2, v3] [] M2) (s := 1) (n := M 58 0 3)
    (fun y M2 => bkFr bkA153 M M2 ∧ M2 70 0 = M1 70 0 ∧ ∀ z, 0 ≤ z → z < y → M2 71 0 z = bkBd (bkGd M) (M 58 0 2) (M 58 0 3) (M 58 0 4) z) (by omega) ?_ ?_ (M := M1) ⟨hF, rfl, fun z z1 z2 => by rw [show z = 0 by omega, h71, bkBd_0]⟩
  · exact key v2 v3
  · rintro y M2 h0 h1 ⟨F, E, U⟩ ih v2 v3
    have g58 : M2 58 0 = M 58 0 := F 58 0 (by unfold bkA153; omega)
    have hb := bkBd_r hg (W := M 58 0 2) (H := M 58 0 3) (S := M 58 0 4) (y := y - 1) (by omega) (by omega) (by omega) (by omega) (by omega)
    have u1 := U (y - 1) (by omega) (by omega)
    have hbs := bkBd_s (bkGd M) (M 58 0 2) (M 58 0 3) (M 58 0 4) (y := y - 1) (by omega)
    rw [show y - 1 + 1 = y by omega] at hbs
    rw [LG_153_105, g58, u1]
    unfold bk_r32
    generalize bkBd (bkGd M) (M 58 0 2) (M 58 0 3) (M 58 0 4) (y - 1) = b at *
    refine ⟨by omega, fun z => absurd z (by omega), fun _ => ⟨by omega, by omega, by omega, ?_⟩⟩
    have hn := bkNx_near (bkRow (bkGd M) (M 58 0 2) (M 58 0 3) y) b
    have hf := bkNx_first (bkRow (bkGd M) (M 58 0 2) (M 58 0 3) y) b
    refine bk_loopS (W := fun x M3 => bk_wp (bk_C (d + 4)) P_153 (fun t r M' => t = 0 ∧ bkLaid M r M') 0 128 [bk_c 12 0, bk_i y, bk_i b, bk_i x] [] M3) (s := b - 1) (n := bkNx (bkRow (bkGd M) (M 58 0 2) (M 58 0 3) y) b) (fun x M3 => M3 = M2) (by omega) ?_ ?_ rfl
    · rintro x M3 z0 z1 rfl ih2
      have c1 : ∀ z, 0 ≤ z → z < M3 58 0 2 → M3 70 0 (6 * y + z) = bkRow (bkGd M) (M 58 0 2) (M 58 0 3) y z := by rw [g58, E]; exact hR y (by omega) h1
      have c2 : ∀ z, ¬ (0 ≤ z ∧ z < M3 58 0 2) → bkRow (bkGd M) (M 58 0 2) (M 58 0 3) y z = 100000 := by rw [g58]; exact fun z w => bkRow_out _ _ w
      rw [L_153_128, S155 (R := bkRow (bkGd M) (M 58 0 2) (M 58 0 3) y) (by rw [g58]; exact hN) (by rw [g58]; omega) c1 c2]
      refine ⟨rfl, ?_⟩
      rw [S154 (R := bkRow (bkGd M) (M 58 0 2) (M 58 0 3) y) (by rw [g58]; exact hN) (by omega) (by rw [g58]; omega) c1 c2]
      unfold bk_r32
      refine ⟨rfl, fun w => ?_, fun w => ⟨by omega, ih2 M3 rfl⟩⟩
      exfalso
      have hx : x = b - 1 ∨ x = b := by omega
      rcases hx with hx | hx
      · have := hf.1 (by omega); rw [hx] at w; omega
      · have := hf.2 (by omega); rw [hx] at w; omega
    · rintro M3 rfl
      have c1 : ∀ z, 0 ≤ z → z < M3 58 0 2 → M3 70 0 (6 * y + z) = bkRow (bkGd M) (M 58 0 2) (M 58 0 3) y z := by rw [g58, E]; exact hR y (by omega) h1
      have c2 : ∀ z, ¬ (0 ≤ z ∧ z < M3 58 0 2) → bkRow (bkGd M) (M 58 0 2) (M 58 0 3) y z = 100000 := by rw [g58]; exact fun z w => bkRow_out _ _ w
      rw [L_153_128, S155 (R := bkRow (bkGd M) (M 58 0 2) (M 58 0 3) y) (by rw [g58]; exact hN) (by rw [g58]; omega) c1 c2]
      refine ⟨rfl, ?_⟩
      rw [S154 (R := bkRow (bkGd M) (M 58 0 2) (M 58 0 3) y) (by rw [g58]; exact hN) (by omega) (by rw [g58]; omega) c1 c2]
      unfold bk_r32
      refine ⟨rfl, fun _ => ⟨by omega, ?_⟩, fun w => absurd rfl w⟩
      intro M4 hM4
      refine ⟨by omega, ih M4 ⟨by rw [hM4]; exact bkFr_up F (by unfold bkA153; omega), by rw [hM4, bk_up_f (by decide)]; exact E, fun z z1 z2 => ?_⟩ _ _⟩
      rw [hM4, bk_up_w]
      by_cases e : z = y
      · rw [if_pos e, e, hbs]
      · rw [if_neg e]; exact U z z1 (by omega)
  · rintro M2 ⟨F, E, U⟩ v2 v3
    have g58 : M2 58 0 = M 58 0 := F 58 0 (by unfold bkA153; omega)
    have r0 := hR 0 (by omega) (by omega) (M 58 0 4) (by omega) (by omega)
    rw [show 6 * 0 + M 58 0 4 = M 58 0 4 by omega] at r0
    rw [LG_153_105, g58]
    refine ⟨by omega, fun _ => ⟨by omega, by omega, rfl, F, ?_, U⟩, fun z => absurd (Int.le_refl _) z⟩
    rw [E]; exact r0
theorem S153 {d : Nat} {M : bk_M} (hN : bkMd (M 58 0)) (hg : bkGr (bkGd M) (M 58 0 2) (M 58 0 3)) : bk_C (d + 5) 0 153 [bk_c 12 0] M (fun t r M' => t = 0 ∧ bkLaid M r M') := by
  obtain ⟨n1, n2, n3, n4, -⟩ := id hN
  rw [E_153]
  unfold bk_r32
  refine ⟨by omega, by omega, ?_⟩
  have key := bk_loopD (W := fun y M1 => ∀ v2 v3, bk_wp (bk_C (d + 4)) P_153 (fun t r M' => t = 0 ∧ bkLaid M r M') 0 9 [bk_c 12 0, bk_i y, v2, v3] [] M1)
    (fun y M1 => y < M 58 0 3 ∧ bkFr bkA153 M M1 ∧ ∀ z, y < z → z < M 58 0 3 → bkCst (bkGd M) (M 58 0 2) (M 58 0 3) (M1 70 0) z) ?_ ?_ (s := M 58 0 3 - 1) (by omega) (M := M) ⟨by omega, bkFr_refl _ _, fun z z1 z2 => absurd z1 (by omega)⟩
  · exact key _ _
  · rintro y M1 h0 ⟨h1, F, R⟩ ih v2 v3
    rw [LG_153_9]
    refine ⟨fun z => absurd z (by omega), fun _ => ?_⟩
    exact L153_15 hN hg ⟨h0, h1⟩ F R (fun M2 v2 v3 F2 R2 => ih M2 ⟨by omega, F2, R2⟩ v2 v3) _
  · rintro M1 ⟨-, F, R⟩ v2 v3
    have g58 : M1 58 0 = M 58 0 := F 58 0 (by unfold bkA153; omega)
    rw [LG_153_9, g58]
    refine ⟨fun _ => ⟨by omega, by omega, ?_⟩, fun z => absurd (by decide) z⟩
    intro M2 hM2
    refine L153_105 hN hg (by rw [hM2]; exact bkFr_up F (by unfold bkA153; omega)) (fun z z1 z2 => ?_) (by rw [hM2, bk_up_e]) _ _
    rw [hM2, bk_up_f (by decide)]
    exact R z (by omega) z2
