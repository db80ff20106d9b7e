/-! ran: the class counts beds, keeps the first. -/
def bkLn (ok : Int → Int → Bool) (H : Int) (n : Nat) (z : Int) : Int := (bkSt ok H n z).length
theorem bkLn_b (ok : Int → Int → Bool) (H : Int) {n : Nat} (hn : n ≤ 6) (z : Int) : 0 ≤ bkLn ok H n z ∧ bkLn ok H n z ≤ 729 := by
  have h1 := bkSt_len ok H n z
  have h2 : 3 ^ n ≤ 3 ^ 6 := Nat.pow_le_pow_right (by omega) hn
  have h3 : 3 ^ 6 = 729 := by decide
  unfold bkLn
  omega
theorem bkLn_out {N T : Int → Int} {q : Nat} {H : Int} {n : Nat} {z : Int} (h : ¬ (0 ≤ z ∧ z < N 2)) : bkLn (bkOkR N T q) H n z = 0 := by
  unfold bkLn bkSt bkOkR
  rw [if_neg]
  · rfl
  · rw [Bool.and_eq_true, decide_eq_true_eq]
    exact fun w => h w.1
theorem bkLn_fo (ok : Int → Int → Bool) (H : Int) (n : Nat) (x : Int) : ((bkFo ok H (n + 1) x).length : Int) = bkLn ok H n (x - 1) + bkLn ok H n x + bkLn ok H n (x + 1) := by
  rw [bkFo_s, List.length_append, List.length_append]
  unfold bkLn
  omega
theorem S97 {d p : Nat} {Q : bk_Q} {x y : Int} {M : bk_M} {N T : Int → Int} {q : Nat} (hR : bkRel M p N) (hx : 0 ≤ x ∧ x < N 2) (hy : 0 ≤ y ∧ y < N 3)
    (hW : y < N 3 - 1 → ∀ z, 0 ≤ z → z < N 2 → M 24 0 (6 * (y + 1) + z) = bkLn (bkOkR N T q) (N 3) (N 3 - 2 - y).toNat z) :
    bk_C (d + 1) 0 97 [bk_c 1 0, bk_c 5 p, bk_i x, bk_i y] M Q ↔ Q 0 ((bkFo (bkOkR N T q) (N 3) (N 3 - 1 - y).toNat x).length : Int) M := by
  refine bk_det (fun Q hQ => ?_) Q
  obtain ⟨n1, n2, -⟩ := bkRel_md hR
  obtain ⟨b1, b2, b3, b4, -⟩ := hR.2.1
  rw [E_97, b4]
  unfold bk_r32
  refine ⟨by omega, fun z => ⟨by omega, ?_⟩, fun z => ?_⟩
  · have hn : (N 3 - 1 - y).toNat = (N 3 - 2 - y).toNat + 1 := by omega
    rw [hn, bkLn_fo] at hQ
    have hW := hW (by omega)
    have hb := fun z => bkLn_b (bkOkR N T q) (N 3) (n := (N 3 - 2 - y).toNat) (by omega) z
    have ho := fun (z : Int) (h : ¬ (0 ≤ z ∧ z < N 2)) => bkLn_out (N := N) (T := T) (q := q) (H := N 3) (n := (N 3 - 2 - y).toNat) h
    generalize bkLn (bkOkR N T q) (N 3) (N 3 - 2 - y).toNat = L at *
    generalize hs : (if x - 1 ≤ 0 then (0 : Int) else x - 1) = s
    have hs2 : (x = 0 ∧ s = 0) ∨ (0 < x ∧ s = x - 1) := by split at hs <;> omega
    have he : ∃ e : Int, (x + 1 < N 2 ∧ e = x + 2) ∨ (x + 1 = N 2 ∧ e = x + 1) := by
      by_cases w : x + 1 < N 2
      · exact ⟨_, .inl ⟨w, rfl⟩⟩
      · exact ⟨_, .inr ⟨by omega, rfl⟩⟩
    obtain ⟨e, he⟩ := he
    have hm := ho (-1) (by omega)
    have key := bk_loopS (W := fun z M1 => bk_wp (bk_C d) P_97 Q 0 24 [bk_c 1 0, bk_c 5 p, bk_i x, bk_i y, bk_i ((if x - 1 < z then L (x - 1) else 0) + (if x < z then L x else 0) + (if x + 1 < z then L (x + 1) else 0)), bk_i z] [] M1) (s := s) (n := e) (fun _ M1 => M1 = M) (by omega) ?_ ?_ rfl
    · have : (if x - 1 < s then L (x - 1) else 0) + (if x < s then L x else 0) + (if x + 1 < s then L (x + 1) else 0) = 0 := by
        rcases hs2 with ⟨rfl, rfl⟩ | ⟨-, rfl⟩
        · rw [if_pos (by decide), if_neg (by decide), if_neg (by decide), show (0 : Int) - 1 = -1 by rfl, hm]; rfl
        · rw [if_neg (by omega), if_neg (by omega), if_neg (by omega)]; rfl
      rw [this] at key
      exact key
    · rintro z M1 h0 h1 rfl ih
      have ih := ih M1 rfl
      have w := hW z (by omega) (by omega)
      have h1b := hb (x - 1)
      have h2b := hb x
      have h3b := hb z
      rw [L_97_24, b3, w]
      have hz : z = x - 1 ∨ z = x ∨ z = x + 1 := by omega
      unfold bk_r32
      refine ⟨by omega, fun q => absurd q (by omega), fun _ => ⟨fun q => absurd q (by omega), fun _ => ⟨by omega, by omega, by omega, by omega, ?_⟩⟩⟩
      rcases hz with rfl | rfl | rfl
      · rw [if_pos (by omega), if_neg (by omega), if_neg (by omega)] at ih
        rw [if_neg (by omega), if_neg (by omega), if_neg (by omega)]
        exact ⟨by omega, by omega, by rw [show (0 : Int) + 0 + 0 + L (x - 1) = L (x - 1) + 0 + 0 by omega]; exact ih⟩
      · rw [if_pos (by omega), if_pos (by omega), if_neg (by omega)] at ih
        rw [if_pos (by omega), if_neg (by omega), if_neg (by omega)]
        exact ⟨by omega, by omega, by rw [show L (z - 1) + 0 + 0 + L z = L (z - 1) + L z + 0 by omega]; exact ih⟩
      · rw [if_pos (by omega), if_pos (by omega), if_pos (by omega)] at ih
        rw [if_pos (by omega), if_pos (by omega), if_neg (by omega)]
        exact ⟨by omega, by omega, by rw [show L (x - 1) + L x + 0 + L (x + 1) = L (x - 1) + L x + L (x + 1) by omega]; exact ih⟩
    · rintro M1 rfl
      rw [L_97_24, b3]
      unfold bk_r32
      rcases he with ⟨he1, rfl⟩ | ⟨he1, rfl⟩
      · rw [if_pos (by omega), if_pos (by omega), if_pos (by omega)]
        exact ⟨by omega, fun _ => hQ, fun q => absurd (by omega) q⟩
      · rw [if_pos (by omega), if_pos (by omega), if_neg (by omega)]
        rw [ho (x + 1) (by omega)] at hQ
        exact ⟨by omega, fun q => absurd q (by omega), fun _ => ⟨fun _ => hQ, fun q => absurd (by omega) q⟩⟩
  · rw [show (N 3 - 1 - y).toNat = 0 by omega] at hQ
    exact hQ
theorem LG_96_9 {d : Nat} {Q : bk_Q} (i1 : Nat) (x2 : Int) (x3 : Int) (v4 : bk_V) (v5 : bk_V) (M : bk_M) : bk_wp (bk_C d) P_96 Q 0 9 [bk_c 1 0, bk_c 5 i1, bk_i x2, bk_i x3, v4, v5] [] M ↔ ((x3 < (0 : Int) → Q 0 x2 M) ∧ (¬ (x3 < (0 : Int)) → bk_wp (bk_C d) P_96 Q 0 18 [bk_c 1 0, bk_c 5 i1, bk_i (0 : Int), bk_i x3, bk_i (0 : Int), v5] [] M)) := bk_iff [9, 18] 40
theorem LG_96_18 {d : Nat} {Q : bk_Q} (i1 : Nat) (x2 : Int) (x3 : Int) (x4 : Int) (v5 : bk_V) (M : bk_M) : bk_wp (bk_C d) P_96 Q 0 18 [bk_c 1 0, bk_c 5 i1, bk_i x2, bk_i x3, bk_i x4, v5] [] M ↔ ((M 5 i1 (0 : Int) ≤ x4 → bk_r32 (x3 + (-1 : Int)) ∧ bk_wp (bk_C d) P_96 Q 0 9 [bk_c 1 0, bk_c 5 i1, bk_i x2, bk_i (x3 + (-1 : Int)), bk_i x4, v5] [] M) ∧ (¬ (M 5 i1 (0 : Int) ≤ x4) → bk_r32 ((6 : Int) * x3) ∧ bk_r32 (((6 : Int) * x3) + x4) ∧ ((0 : Int) ≤ x3 ∧ x3 < (6 : Int)) ∧ ((x4 < M 22 0 x3 → ((0 : Int) ≤ ((6 : Int) * x3) + x4 ∧ ((6 : Int) * x3) + x4 < (36 : Int)) ∧ ∀ M1 : bk_M, M1 = bk_up M 24 0 (((6 : Int) * x3) + x4) (0 : Int) → ((0 : Int) ≤ ((6 : Int) * x3) + x4 ∧ ((6 : Int) * x3) + x4 < (36 : Int)) ∧ bk_r32 (x2 + (M1 24 0 (((6 : Int) * x3) + x4))) ∧ bk_r32 (x4 + (1 : Int)) ∧ bk_wp (bk_C d) P_96 Q 0 18 [bk_c 1 0, bk_c 5 i1, bk_i (x2 + (M1 24 0 (((6 : Int) * x3) + x4))), bk_i x3, bk_i (x4 + (1 : Int)), bk_i (((6 : Int) * x3) + x4)] [] M1) ∧ (¬ (x4 < M 22 0 x3) → ((0 : Int) ≤ x3 ∧ x3 < (6 : Int)) ∧ ((x4 ≤ M 23 0 x3 → bk_C d 0 97 [bk_c 1 0, bk_c 5 i1, bk_i x4, bk_i x3] M (fun t4 r2 M3 => t4 = 0 ∧ ((0 : Int) ≤ ((6 : Int) * x3) + x4 ∧ ((6 : Int) * x3) + x4 < (36 : Int)) ∧ ∀ M5 : bk_M, M5 = bk_up M3 24 0 (((6 : Int) * x3) + x4) r2 → ((0 : Int) ≤ ((6 : Int) * x3) + x4 ∧ ((6 : Int) * x3) + x4 < (36 : Int)) ∧ bk_r32 (x2 + (M5 24 0 (((6 : Int) * x3) + x4))) ∧ bk_r32 (x4 + (1 : Int)) ∧ bk_wp (bk_C d) P_96 Q 0 18 [bk_c 1 0, bk_c 5 i1, bk_i (x2 + (M5 24 0 (((6 : Int) * x3) + x4))), bk_i x3, bk_i (x4 + (1 : Int)), bk_i (((6 : Int) * x3) + x4)] [] M5)) ∧ (¬ (x4 ≤ M 23 0 x3) → ((0 : Int) ≤ ((6 : Int) * x3) + x4 ∧ ((6 : Int) * x3) + x4 < (36 : Int)) ∧ ∀ M6 : bk_M, M6 = bk_up M 24 0 (((6 : Int) * x3) + x4) (0 : Int) → ((0 : Int) ≤ ((6 : Int) * x3) + x4 ∧ ((6 : Int) * x3) + x4 < (36 : Int)) ∧ bk_r32 (x2 + (M6 24 0 (((6 : Int) * x3) + x4))) ∧ bk_r32 (x4 + (1 : Int)) ∧ bk_wp (bk_C d) P_96 Q 0 18 [bk_c 1 0, bk_c 5 i1, bk_i (x2 + (M6 24 0 (((6 : Int) * x3) + x4))), bk_i x3, bk_i (x4 + (1 : Int)), bk_i (((6 : Int) * x3) + x4)] [] M6)))))) := bk_iff [9, 18] 40
def bkA96 (k a : Nat) : Prop := k = 24 ∧ a = 0
theorem bkFl_lenS (ok : Int → Int → Bool) (H : Int) (n : Nat) (k : Nat) : ((bkFl ok H n 0 (k + 1)).length : Int) = (bkFl ok H n 0 k).length + bkLn ok H n k := by
  show ((bkFl ok H n 0 k ++ bkSt ok H n (0 + (k : Nat))).length : Int) = _
  rw [List.length_append, show (0 : Int) + (k : Nat) = k by omega]
  unfold bkLn
  omega
theorem L96_18 {d p : Nat} {Q : bk_Q} {y : Int} {M M1 : bk_M} {N T : Int → Int} {q : Nat} (hR : bkRel M p N) (hy : 0 ≤ y ∧ y < N 3) (hI : bkFitI N T q (M 22 0) (M 23 0)) (hF : bkFr bkA96 M M1)
    (hW : ∀ r, y < r → r < N 3 → ∀ z, 0 ≤ z → z < N 2 → M1 24 0 (6 * r + z) = bkLn (bkOkR N T q) (N 3) (N 3 - 1 - r).toNat z)
    (hQ : ∀ M2 v4 v5, bkFr bkA96 M M2 → (∀ r, y + -1 < r → r < N 3 → ∀ z, 0 ≤ z → z < N 2 → M2 24 0 (6 * r + z) = bkLn (bkOkR N T q) (N 3) (N 3 - 1 - r).toNat z) → bk_wp (bk_C (d + 1)) P_96 Q 0 9 [bk_c 1 0, bk_c 5 p, bk_i ((bkFl (bkOkR N T q) (N 3) (N 3 - 1 - y).toNat 0 (N 2).toNat).length : Int), bk_i (y + -1), v4, v5] [] M2) (v5 : bk_V) :
    bk_wp (bk_C (d + 1)) P_96 Q 0 18 [bk_c 1 0, bk_c 5 p, bk_i 0, bk_i y, bk_i 0, v5] [] M1 := by
  obtain ⟨n1, n2, -⟩ := bkRel_md hR
  obtain ⟨b1, b2, b3, b4, -⟩ := hR.2.1
  have key := bk_loopS (W := fun x M2 => ∀ v5, bk_wp (bk_C (d + 1)) P_96 Q 0 18 [bk_c 1 0, bk_c 5 p, bk_i ((bkFl (bkOkR N T q) (N 3) (N 3 - 1 - y).toNat 0 x.toNat).length : Int), bk_i y, bk_i x, v5] [] M2) (s := 0) (n := N 2)
    (fun x M2 => bkFr bkA96 M M2 ∧ (∀ r, y < r → r < N 3 → ∀ z, 0 ≤ z → z < N 2 → M2 24 0 (6 * r + z) = bkLn (bkOkR N T q) (N 3) (N 3 - 1 - r).toNat z) ∧ ∀ z, 0 ≤ z → z < x → M2 24 0 (6 * y + z) = bkLn (bkOkR N T q) (N 3) (N 3 - 1 - y).toNat z) (by omega) ?_ ?_ (M := M1) ⟨hF, hW, fun z q1 q2 => absurd q1 (by omega)⟩
  · exact key v5
  · rintro x M2 h0 h1 ⟨F, W, U⟩ ih v5
    have e5 : M2 5 p = M 5 p := F 5 p (by unfold bkA96; omega)
    have e22 : M2 22 0 = M 22 0 := F 22 0 (by unfold bkA96; omega)
    have e23 : M2 23 0 = M 23 0 := F 23 0 (by unfold bkA96; omega)
    have R2 : bkRel M2 p N := bkRel_fr hR fun k hk => F k p (by unfold bkA96; omega)
    have hfit := hI y x hy.1 (by omega) h0 h1
    have hok : bkOkR N T q (N 3 - 1 - ((N 3 - 1 - y).toNat : Nat)) x = true ↔ bkFit N T y x q = true := by
      rw [show N 3 - 1 - (((N 3 - 1 - y).toNat : Nat) : Int) = y by omega]
      unfold bkOkR
      rw [Bool.and_eq_true, decide_eq_true_eq]
      exact ⟨fun w => w.2, fun w => ⟨⟨h0, h1⟩, w⟩⟩
    have hlb := bkLn_b (bkOkR N T q) (N 3) (n := (N 3 - 1 - y).toNat) (by omega) x
    have hlen := bkFl_lenS (bkOkR N T q) (N 3) (N 3 - 1 - y).toNat x.toNat
    rw [show ((x.toNat : Nat) : Int) = x by omega] at hlen
    have hfb := bkFl_len (bkOkR N T q) (N 3) (N 3 - 1 - y).toNat 0 x.toNat
    have hp3 : 3 ^ (N 3 - 1 - y).toNat ≤ 3 ^ 5 := Nat.pow_le_pow_right (by omega) (by omega)
    have hfb2 : x.toNat * 3 ^ (N 3 - 1 - y).toNat ≤ 6 * 3 ^ 5 := Nat.mul_le_mul (by omega) hp3
    have h35 : 6 * 3 ^ 5 = 1458 := by decide
    -- one cell
    have step : ∀ (v : Int) (M4 : bk_M) (v5 : bk_V), v = bkLn (bkOkR N T q) (N 3) (N 3 - 1 - y).toNat x → M4 = bk_up M2 24 0 (6 * y + x) v → bk_wp (bk_C (d + 1)) P_96 Q 0 18 [bk_c 1 0, bk_c 5 p, bk_i (((bkFl (bkOkR N T q) (N 3) (N 3 - 1 - y).toNat 0 x.toNat).length : Int) + M4 24 0 (6 * y + x)), bk_i y, bk_i (x + 1), v5] [] M4 := by
      intro v M4 v5 hv hM4
      have e24 : M4 24 0 (6 * y + x) = v := by rw [hM4, bk_up_e]
      have ih := ih M4 ⟨by rw [hM4]; exact bkFr_up F ⟨rfl, rfl⟩, fun r q1 q2 z q3 q4 => ?_, fun z q1 q2 => ?_⟩ v5
      · rw [e24, hv, ← hlen, show x.toNat + 1 = (x + 1).toNat by omega]
        exact ih
      · rw [hM4, bk_up_w, if_neg (by omega)]; exact W r q1 q2 z q3 q4
      · rw [hM4, bk_up_w]
        by_cases e : z = x
        · rw [if_pos (by omega), e]; exact hv
        · rw [if_neg (by omega)]; exact U z q1 (by omega)
    have zero : ¬ (M 22 0 y ≤ x ∧ x ≤ M 23 0 y) → (0 : Int) = bkLn (bkOkR N T q) (N 3) (N 3 - 1 - y).toNat x := fun w => by
      have : ¬ (bkOkR N T q (N 3 - 1 - ((N 3 - 1 - y).toNat : Nat)) x = true) := fun v => w (hfit.2 (hok.1 v))
      unfold bkLn bkSt
      rw [if_neg this]
      rfl
    rw [LG_96_18, e5, b3, e22, e23]
    unfold bk_r32
    refine ⟨fun z => absurd z (by omega), fun _ => ⟨by omega, by omega, by omega, fun z => ⟨by omega, ?_⟩, fun z => ⟨by omega, fun z2 => ?_, fun z2 => ⟨by omega, ?_⟩⟩⟩⟩
    · intro M4 hM4
      have e24 : M4 24 0 (6 * y + x) = 0 := by rw [hM4, bk_up_e]
      refine ⟨by omega, by rw [e24]; omega, by omega, step 0 M4 _ (zero (by omega)) hM4⟩
    · rw [S97 (d := d) (T := T) (q := q) R2 ⟨h0, h1⟩ hy (fun hl z q3 q4 => by rw [W (y + 1) (by omega) (by omega) z q3 q4, show (N 3 - 1 - (y + 1)).toNat = (N 3 - 2 - y).toNat by omega])]
      have hv : ((bkFo (bkOkR N T q) (N 3) (N 3 - 1 - y).toNat x).length : Int) = bkLn (bkOkR N T q) (N 3) (N 3 - 1 - y).toNat x := by
        unfold bkLn bkSt
        rw [if_pos (hok.2 (hfit.1 ⟨by omega, z2⟩)), List.length_map]
      refine ⟨rfl, by omega, ?_⟩
      intro M4 hM4
      have e24 : M4 24 0 (6 * y + x) = bkLn (bkOkR N T q) (N 3) (N 3 - 1 - y).toNat x := by rw [hM4, bk_up_e, hv]
      refine ⟨by omega, by rw [e24]; omega, by omega, step _ M4 _ hv hM4⟩
    · intro M4 hM4
      have e24 : M4 24 0 (6 * y + x) = 0 := by rw [hM4, bk_up_e]
      refine ⟨by omega, by rw [e24]; omega, by omega, step 0 M4 _ (zero (by omega)) hM4⟩
  · rintro M2 ⟨F, W, U⟩ v5
    have e5 : M2 5 p = M 5 p := F 5 p (by unfold bkA96; omega)
    rw [LG_96_18, e5, b3]
    refine ⟨fun _ => ⟨by unfold bk_r32; omega, hQ M2 _ _ F fun r q1 q2 z q3 q4 => ?_⟩, fun z => absurd (Int.le_refl _) z⟩
    by_cases e : r = y
    · rw [e]; exact U z q3 q4
    · exact W r (by omega) q2 z q3 q4
theorem S96 {d p : Nat} {M : bk_M} {N T : Int → Int} {c : Int} (hR : bkRel M p N) (hI : bkFitI N T (c / 2).toNat (M 22 0) (M 23 0)) :
    bk_C (d + 2) 0 96 [bk_c 1 0, bk_c 5 p] M (fun t r M' => t = 0 ∧ bkFr bkA96 M M' ∧ r = (bkAll N T c).length ∧ ∀ y z, 0 ≤ y → y < N 3 → 0 ≤ z → z < N 2 → M' 24 0 (6 * y + z) = bkLn (bkOkR N T (c / 2).toNat) (N 3) (N 3 - 1 - y).toNat z) := by
  obtain ⟨n1, n2, -⟩ := bkRel_md hR
  obtain ⟨b1, b2, b3, b4, -⟩ := hR.2.1
  rw [E_96, b4]
  refine ⟨by unfold bk_r32; omega, ?_⟩
  have key := bk_loopD (W := fun y M1 => ∀ v4 v5 acc, acc = (if y = N 3 - 1 then 0 else ((bkFl (bkOkR N T (c / 2).toNat) (N 3) (N 3 - 2 - y).toNat 0 (N 2).toNat).length : Int)) → bk_wp (bk_C (d + 1)) P_96 (fun t r M' => t = 0 ∧ bkFr bkA96 M M' ∧ r = (bkAll N T c).length ∧ ∀ y z, 0 ≤ y → y < N 3 → 0 ≤ z → z < N 2 → M' 24 0 (6 * y + z) = bkLn (bkOkR N T (c / 2).toNat) (N 3) (N 3 - 1 - y).toNat z) 0 9 [bk_c 1 0, bk_c 5 p, bk_i acc, bk_i y, v4, v5] [] M1)
    (fun y M1 => y < N 3 ∧ bkFr bkA96 M M1 ∧ ∀ r, y < r → r < N 3 → ∀ z, 0 ≤ z → z < N 2 → M1 24 0 (6 * r + z) = bkLn (bkOkR N T (c / 2).toNat) (N 3) (N 3 - 1 - r).toNat z) ?_ ?_ (s := N 3 - 1) (by omega) (M := M) ⟨by omega, bkFr_refl _ _, fun r q1 q2 => absurd q1 (by omega)⟩
  · exact key _ _ 0 (if_pos rfl).symm
  · rintro y M1 h0 ⟨h1, F, W⟩ ih v4 v5 acc -
    rw [LG_96_9]
    refine ⟨fun z => absurd z (by omega), fun _ => L96_18 hR ⟨h0, h1⟩ hI F W (fun M2 v4 v5 F2 W2 => ?_) _⟩
    refine ih M2 ⟨by omega, F2, W2⟩ v4 v5 _ ?_
    rw [if_neg (by omega), show N 3 - 2 - (y + -1) = N 3 - 1 - y by omega]
  · rintro M1 ⟨-, F, W⟩ v4 v5 acc hacc
    rw [if_neg (by omega), show N 3 - 2 - -1 = N 3 - 1 by omega] at hacc
    rw [LG_96_9]
    exact ⟨fun _ => ⟨rfl, F, hacc, fun y z q1 q2 q3 q4 => W y (by omega) q2 z q3 q4⟩, fun z => absurd (by decide) z⟩
