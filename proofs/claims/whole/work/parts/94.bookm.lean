/-! The class lives a BOOK. -/
theorem bkMd_lw {N : Int → Int} {w s x y : Int} (h : bkMd N) (hw : w = 0 ∨ w = 1) (hs : 0 ≤ s ∧ s ≤ 1) (hx : 0 ≤ x ∧ x < N 2) (hy : 0 ≤ y ∧ y < N 3) (h0 : bkWhyW N w s x y = 0) : bkMd (bkLwN N w s x y) ∧ ∀ q, (q < 81 ∨ 121 ≤ q) → bkLwN N w s x y q = N q := by
  obtain ⟨n1, n2, n3, n4, n5, n6, n7, n8, n9, n10, n11, n12, n13, n14⟩ := h
  have kk : N (81 + s) ≠ 0 ∧ N (85 + 6 * y + x) ≠ (if w = 0 then 0 else 9) := by
    unfold bkWhyW at h0
    by_cases z1 : N (81 + s) = 0
    · rw [if_pos z1] at h0; omega
    rw [if_neg z1] at h0
    by_cases z2 : bkSide x (N (121 + y)) = 1 - s
    · rw [if_pos z2] at h0; omega
    rw [if_neg z2] at h0
    refine ⟨z1, fun z3 => ?_⟩
    rw [if_pos z3] at h0; omega
  have g : ∀ q, (q < 81 ∨ 121 ≤ q) → bkLwN N w s x y q = N q := fun q hq => by
    unfold bkLwN
    rw [if_neg (by omega), if_neg (by omega), if_neg (by omega)]
  refine ⟨?_, g⟩
  unfold bkMd
  rw [g 2 (by omega), g 3 (by omega), g 4 (by omega), g 5 (by omega), g 0 (by omega), g 1 (by omega), g 80 (by omega), g 194 (by omega)]
  refine ⟨n1, n2, n3, n4, n5, n6, n7, fun c c0 c1 => ?_, fun y y0 y1 => by rw [g _ (by omega)]; exact n9 y y0 y1, fun f f0 f1 => by rw [g _ (by omega), g _ (by omega), g _ (by omega), g _ (by omega)]; exact n10 f f0 f1, fun m m0 m1 => by rw [g _ (by omega), g _ (by omega)]; exact n11 m m0 m1, fun t t0 t1 => ?_, fun f f0 f1 f2 => by rw [g _ (by omega)]; exact n13 f f0 f1 f2, n14⟩
  · have q := n8 c c0 c1
    unfold bkLwN
    by_cases e : 85 + c = 85 + 6 * y + x
    · rw [if_pos e]
      rw [← e] at kk
      have ek := kk.2
      rcases hw with rfl | rfl
      · rw [if_pos rfl] at ek ⊢; omega
      · rw [if_neg (by decide)] at ek ⊢; omega
    · rw [if_neg e, if_neg (by omega), if_neg (by omega)]; exact q
  · have q := n12 t t0 t1
    unfold bkLwN
    rw [if_neg (by omega), if_neg (by omega)]
    by_cases e : 81 + t = 81 + s
    · rw [if_pos e]
      rw [← e] at kk
      omega
    · rw [if_neg e]; exact q
theorem bkMd_rl {N : Int → Int} {m x y : Int} (h : bkMd N) (hm : 0 ≤ m ∧ m < N 1) (hx : 0 ≤ x ∧ x < N 2) (hy : 0 ≤ y ∧ y < N 3) : bkMd (bkRlN N m x y) ∧ ∀ q, (q < 127 ∨ 136 ≤ q) → bkRlN N m x y q = N q := by
  obtain ⟨n1, n2, n3, n4, n5, n6, n7, n8, n9, n10, n11, n12, n13, n14⟩ := h
  have g : ∀ q, (q < 127 ∨ 136 ≤ q) → bkRlN N m x y q = N q := fun q hq => by
    unfold bkRlN
    rw [if_neg (by omega), if_neg (by omega), if_neg (by omega)]
  refine ⟨?_, g⟩
  unfold bkMd
  rw [g 2 (by omega), g 3 (by omega), g 4 (by omega), g 5 (by omega), g 0 (by omega), g 1 (by omega), g 80 (by omega), g 194 (by omega)]
  refine ⟨n1, n2, n3, n4, n5, n6, n7, fun c c0 c1 => by rw [g _ (by omega)]; exact n8 c c0 c1, fun y y0 y1 => by rw [g _ (by omega)]; exact n9 y y0 y1, fun f f0 f1 => by rw [g _ (by omega), g _ (by omega), g _ (by omega), g _ (by omega)]; exact n10 f f0 f1, fun t m0 m1 => ?_, fun t t0 t1 => by rw [g _ (by omega)]; exact n12 t t0 t1, fun f f0 f1 f2 => by rw [g _ (by omega)]; exact n13 f f0 f1 f2, n14⟩
  have q := n11 t m0 m1
  unfold bkRlN
  rw [if_neg (show ¬ 127 + t = 133 + m by omega), if_neg (show ¬ 127 + t = 130 + m by omega), if_neg (show ¬ 130 + t = 133 + m by omega)]
  by_cases e : t = m
  · rw [if_pos (by omega), if_pos (by omega)]; exact ⟨hx.1, hx.2, hy.1, hy.2⟩
  · rw [if_neg (by omega), if_neg (by omega), if_neg (by omega)]; exact q
theorem bkGo_md {m : Nat} {N S : Int → Int} {j : Int} (h : bkMd N) (hm : N 1 = m) (hv : bkBw m S j) : bkMd (bkGo N S j).2 ∧ ∀ q, (q < 80 ∨ 195 ≤ q) → (bkGo N S j).2 q = N q := by
  obtain ⟨v1, v2, v3, v4⟩ := hv
  unfold bkGo
  by_cases k3 : S (4 * j) = 3
  · rw [if_pos k3]
    have v4 := v4 k3
    by_cases z : N 80 + S (4 * j + 1) ≤ 400
    · rw [if_pos z]
      obtain ⟨q1, q2, q3⟩ := bkYrN_b h (S (4 * j + 2)) (S (4 * j + 1)).toNat (by omega)
      exact ⟨q1, q3⟩
    · rw [if_neg z]; exact ⟨h, fun _ _ => rfl⟩
  · rw [if_neg k3]
    by_cases hc : 0 ≤ S (4 * j + 2) ∧ S (4 * j + 2) < N 2 ∧ 0 ≤ S (4 * j + 3) ∧ S (4 * j + 3) < N 3
    · rw [if_pos hc]
      by_cases k4 : S (4 * j) = 4
      · rw [if_pos k4]
        have v3 := v3 k4
        split
        · have q := bkMd_rl h (m := S (4 * j + 1)) (by omega) ⟨hc.1, hc.2.1⟩ ⟨hc.2.2.1, hc.2.2.2⟩
          exact ⟨q.1, fun q' hq => q.2 q' (by omega)⟩
        · exact ⟨h, fun _ _ => rfl⟩
      · rw [if_neg k4]
        split
        · rename_i z
          have q := bkMd_lw h (by omega) (v2 (by omega)) ⟨hc.1, hc.2.1⟩ ⟨hc.2.2.1, hc.2.2.2⟩ z
          exact ⟨q.1, fun q' hq => q.2 q' (by omega)⟩
        · exact ⟨h, fun _ _ => rfl⟩
    · rw [if_neg hc]; exact ⟨h, fun _ _ => rfl⟩
def bkLa (i p : Nat) (k a : Nat) : Prop := bkA65 i p k a ∨ ((k = 28 ∨ k = 34 ∨ k = 35 ∨ k = 38) ∧ a = p)
theorem bkWrk_fr {M : bk_M} {p : Nat} {s c ch : Int} (i : Nat) : bkFr (bkLa i p) M (bkWrk M p s c ch) := by
  unfold bkWrk
  exact bkFr_up (bkFr_up (bkFr_up (bkFr_refl _ _) (.inr (by omega))) (.inl (.inr (by omega)))) (.inr (by omega))
theorem bkRol_fr {M : bk_M} {p : Nat} {m c : Int} (i : Nat) : bkFr (bkLa i p) M (bkRol M p m c) := by
  unfold bkRol
  exact bkFr_up (bkFr_up (bkFr_refl _ _) (.inr (by omega))) (.inr (by omega))
def bkGq (i p : Nat) (N S : Int → Int) (j : Int) (M : bk_M) (r : Int) (M' : bk_M) : Prop := bkFr (bkLa i p) M M' ∧ r = (bkGo N S j).1 ∧ bkRel M' p (bkGo N S j).2
theorem bkGq_i {i p : Nat} {N N' S : Int → Int} {j r : Int} {M M' : bk_M} (e : bkGo N S j = (r, N')) (f : bkFr (bkLa i p) M M') (h : bkRel M' p N') : bkGq i p N S j M r M' := by
  unfold bkGq
  rw [e]
  exact ⟨f, rfl, h⟩
theorem S119c {d i p m : Nat} {M : bk_M} {N S : Int → Int} {j w ch mo : Int} (hR : bkRel M p N) (hq : bkBq M S j) (hS : S (4 * j) = w) (hw : w = 0 ∨ w = 1) (hv : bkBw m S j) (hj : 0 ≤ j ∧ j < 40) (hch : ch = if w = 0 then -1 else 1) (hmo : mo = 10 * w) : bk_C (d + 3) 0 119 [bk_c 0 0, bk_c 5 p, bk_i j, bk_i ch, bk_i mo] M (fun t r M' => t = 0 ∧ bkGq i p N S j M r M') := by
  obtain ⟨q18, q17, -⟩ := hq
  have q17 := q17 (by omega)
  have hs := hv.2.1 (by omega)
  obtain ⟨n1, n2, n3, n4, n5, n6, n7, n8, n9, n10, n11, n12, -⟩ := bkRel_md hR
  obtain ⟨hP, ⟨b1, b2, b3, b4, -⟩, ⟨c1, c2, c3, -⟩⟩ := id hR
  have hb := bkWhyW_b N w (S (4 * j + 1)) (S (4 * j + 2)) (S (4 * j + 3))
  rw [E_119, q18, q17.2, S20 hP, b3, b4]
  refine ⟨hj, hj, rfl, ?_⟩
  by_cases hc : 0 ≤ S (4 * j + 2) ∧ S (4 * j + 2) < N 2 ∧ 0 ≤ S (4 * j + 3) ∧ S (4 * j + 3) < N 3
  · have eg : bkGo N S j = (if bkWhyW N w (S (4 * j + 1)) (S (4 * j + 2)) (S (4 * j + 3)) = 0 then (0, bkLwN N w (S (4 * j + 1)) (S (4 * j + 2)) (S (4 * j + 3))) else (10 * w + bkWhyW N w (S (4 * j + 1)) (S (4 * j + 2)) (S (4 * j + 3)), N)) := by
      unfold bkGo
      rw [if_neg (by omega), if_pos hc, if_neg (by omega), hS]
    generalize S (4 * j + 1) = s at *
    generalize S (4 * j + 2) = x at *
    generalize S (4 * j + 3) = y at *
    have k3 := c3 (6 * y + x) (by omega) (by omega)
    have k8 := n8 (6 * y + x) (by omega) (by omega)
    have k2 := c2 s hs.1 (by omega)
    have k12 := n12 s hs.1 (by omega)
    rw [if_pos hc, q17.1]
    refine ⟨fun _ => ⟨hj, ?_⟩, fun z => absurd (show 6 * y + x ≠ -1 by omega) z⟩
    rw [hch, S56r hR hw hs ⟨hc.1, hc.2.1⟩ ⟨hc.2.2.1, hc.2.2.2⟩]
    refine ⟨rfl, fun z => ⟨hj, ?_⟩, fun z => ?_⟩
    · rw [q17.1, S59 hs (by omega) (by rw [k3]; split <;> omega) (by rw [k2.1]; exact k12)]
      rw [if_pos z] at eg
      exact ⟨rfl, rfl, bkGq_i eg (bkWrk_fr i) (bkRel_wrk hR hw hs ⟨hc.1, hc.2.1⟩ ⟨hc.2.2.1, hc.2.2.2⟩ z)⟩
    · rw [if_neg z] at eg
      exact ⟨by unfold bk_r32; omega, rfl, bkGq_i (by rw [eg, hmo]) (bkFr_refl _ _) hR⟩
  · rw [if_neg hc]
    refine ⟨fun z => absurd rfl z, fun _ => ⟨by unfold bk_r32; omega, rfl, bkGq_i ?_ (bkFr_refl _ _) hR⟩⟩
    unfold bkGo
    rw [if_neg (by omega), if_neg hc, hS, hmo]
theorem S120c {d i p m : Nat} {M : bk_M} {N S : Int → Int} {j : Int} (hR : bkRel M p N) (hq : bkBq M S j) (hS : S (4 * j) = 4) (hm : N 1 = m) (hv : bkBw m S j) (hj : 0 ≤ j ∧ j < 40) : bk_C (d + 3) 0 120 [bk_c 0 0, bk_c 5 p, bk_i j] M (fun t r M' => t = 0 ∧ bkGq i p N S j M r M') := by
  obtain ⟨q18, q17, -⟩ := hq
  have q17 := q17 (by omega)
  have hs := hv.2.2.1 hS
  obtain ⟨n1, n2, n3, n4, n5, n6, n7, n8, n9, n10, n11, n12, -⟩ := bkRel_md hR
  obtain ⟨hP, ⟨b1, b2, b3, b4, -⟩, ⟨c1, c2, c3, -⟩⟩ := id hR
  have hb := bkWhyR_b N (S (4 * j + 1)) (S (4 * j + 2)) (S (4 * j + 3))
  rw [E_120, q18, q17.2, S20 hP, b3, b4]
  refine ⟨hj, hj, rfl, ?_⟩
  by_cases hc : 0 ≤ S (4 * j + 2) ∧ S (4 * j + 2) < N 2 ∧ 0 ≤ S (4 * j + 3) ∧ S (4 * j + 3) < N 3
  · have eg : bkGo N S j = (if bkWhyR N (S (4 * j + 1)) (S (4 * j + 2)) (S (4 * j + 3)) = 0 then (0, bkRlN N (S (4 * j + 1)) (S (4 * j + 2)) (S (4 * j + 3))) else (40 + bkWhyR N (S (4 * j + 1)) (S (4 * j + 2)) (S (4 * j + 3)), N)) := by
      unfold bkGo
      rw [if_neg (by omega), if_pos hc, if_pos hS]
    generalize S (4 * j + 1) = s at *
    generalize S (4 * j + 2) = x at *
    generalize S (4 * j + 3) = y at *
    rw [if_pos hc, q17.1]
    refine ⟨fun _ => ⟨hj, ?_⟩, fun z => absurd (show 6 * y + x ≠ -1 by omega) z⟩
    rw [S62r hR (by omega) ⟨hc.1, hc.2.1⟩ ⟨hc.2.2.1, hc.2.2.2⟩]
    refine ⟨rfl, fun z => ⟨hj, ?_⟩, fun z => ?_⟩
    · rw [q17.1, S63 (by omega)]
      rw [if_pos z] at eg
      exact ⟨rfl, rfl, bkGq_i eg (bkRol_fr i) (bkRel_rol hR (by omega) ⟨hc.1, hc.2.1⟩ ⟨hc.2.2.1, hc.2.2.2⟩)⟩
    · rw [if_neg z] at eg
      exact ⟨by unfold bk_r32; omega, rfl, bkGq_i eg (bkFr_refl _ _) hR⟩
  · rw [if_neg hc]
    refine ⟨fun z => absurd rfl z, fun _ => ⟨rfl, bkGq_i ?_ (bkFr_refl _ _) hR⟩⟩
    unfold bkGo
    rw [if_neg (by omega), if_neg hc, hS]
    rfl
theorem bk121 {d i p : Nat} {M M1 : bk_M} {N S : Int → Int} {j n s : Int} (hR : bkRel M1 p N) (hF : bkFr (bkLa i p) M M1) (hs : M1 8 i 3 = s) (hn : 0 ≤ n ∧ n ≤ 30) (h4 : N 80 + n ≤ 400) (eg : bkGo N S j = (0, bkYrN N s n.toNat)) : bk_wp (bk_C (d + 4)) P_121 (fun t r M' => t = 0 ∧ bkGq i p N S j M r M') 0 52 [bk_c 0 0, bk_c 5 p, bk_c 8 i, bk_i j, bk_i n, bk_i 0] [] M1 := by
  have hN := bkRel_md hR
  refine bk_loopS (W := fun k M1 => bk_wp (bk_C (d + 4)) P_121 (fun t r M' => t = 0 ∧ bkGq i p N S j M r M') 0 52 [bk_c 0 0, bk_c 5 p, bk_c 8 i, bk_i j, bk_i n, bk_i k] [] M1) (s := 0) (n := n)
    (fun k M1 => bkFr (bkLa i p) M M1 ∧ bkRel M1 p (bkYrN N s k.toNat) ∧ M1 8 i 3 = bkYrX N s k.toNat) (by omega) ?_ ?_ ⟨hF, hR, ?_⟩
  · rintro k M1 h0 h1 ⟨F, R, e⟩ ih
    obtain ⟨i1, i2, i3⟩ := bkYrN_b hN s k.toNat (by omega)
    rw [L_121_52]
    refine ⟨fun z => absurd z (by omega), fun _ => ?_⟩
    refine bk_use (S65 (d := d) R (by omega) e) ?_
    rintro r M2 ⟨F2, R2, -, e2⟩
    refine ⟨rfl, by unfold bk_r32; omega, ih M2 ⟨bkFr_trans F (bkFr_mono F2 fun k a w => .inl w), ?_, ?_⟩⟩
    · rw [show (k + 1).toNat = k.toNat + 1 by omega]; exact R2
    · rw [show (k + 1).toNat = k.toNat + 1 by omega, ← bkYrX_s, e2, i3 2 (by omega), i3 3 (by omega)]
  · rintro M1 ⟨F, R, e⟩
    rw [L_121_52]
    exact ⟨fun _ => ⟨rfl, bkGq_i eg F R⟩, fun z => absurd (Int.le_refl _) z⟩
  · rw [hs]; unfold bkYrX; rw [show (0 : Int).toNat = 0 by rfl, Nat.zero_mul]; rfl
theorem S121c {d i p m : Nat} {M : bk_M} {N S : Int → Int} {j : Int} (hR : bkRel M p N) (hq : bkBq M S j) (hS : S (4 * j) = 3) (hv : bkBw m S j) (hj : 0 ≤ j ∧ j < 40) : bk_C (d + 5) 0 121 [bk_c 0 0, bk_c 5 p, bk_c 8 i, bk_i j] M (fun t r M' => t = 0 ∧ bkGq i p N S j M r M') := by
  obtain ⟨q18, -, -, -, -, q16⟩ := hq
  have q16 := q16 hS
  have hs := hv.2.2.2 hS
  have hN := bkRel_md hR
  have n7 := hN.2.2.2.2.2.2.1
  have c1 := hR.2.2.1
  rw [E_121, q18, c1]
  have e1 : ∀ s, bkRel (bk_up M 8 i 3 s) p N := fun s => bkRel_fr hR fun k hk => bk_up_f (by omega)
  have f1 : ∀ s, bkFr (bkLa i p) M (bk_up M 8 i 3 s) := fun s => bkFr_up (bkFr_refl _ _) (.inl (.inl (by omega)))
  have bad : ¬ N 80 + S (4 * j + 1) ≤ 400 → bkGq i p N S j M 31 M := fun z => bkGq_i (by unfold bkGo; rw [if_pos hS, if_neg z]) (bkFr_refl _ _) hR
  refine ⟨hj, fun z => ⟨hj, by unfold bk_r32; omega, fun w => ⟨hj, fun M1 hM => ?_⟩, fun w => ⟨rfl, bad (by omega)⟩⟩, fun z => ⟨by unfold bk_r32; omega, fun w => ⟨hj, fun M1 hM => ?_⟩, fun w => ⟨rfl, bad (by omega)⟩⟩⟩
  · subst hM
    exact bk121 (e1 _) (f1 _) bk_up_e (by omega) w (by unfold bkGo; rw [if_pos hS, if_pos (by omega), show S (4 * j + 1) = S (4 * j + 2) by omega])
  · subst hM
    exact bk121 (e1 _) (f1 _) bk_up_e (by omega) w (by unfold bkGo; rw [if_pos hS, if_pos (by omega), show S (4 * j + 1) = 1 by omega])
theorem S118c {d i p m : Nat} {M : bk_M} {N S : Int → Int} {j : Int} (hR : bkRel M p N) (hq : bkBq M S j) (hm : N 1 = m) (hv : bkBw m S j) (hj : 0 ≤ j ∧ j < 40) : bk_C (d + 6) 0 118 [bk_c 0 0, bk_c 5 p, bk_c 8 i, bk_i j] M (fun t r M' => t = 0 ∧ bkGq i p N S j M r M') := by
  obtain ⟨-, -, q0, q1, q4, q3⟩ := id hq
  have hk := hv.1
  rw [E_118]
  refine ⟨hj, fun z => ?_, fun z => ⟨fun z2 => ?_, fun z2 => ⟨fun z3 => ?_, fun z3 => ?_⟩⟩⟩
  · exact bk_use (S119c (i := i) hR hq rfl (by omega) hv hj (by rw [if_pos (by omega)]) (by omega)) fun r M' h => ⟨rfl, rfl, h⟩
  · exact bk_use (S119c (i := i) hR hq rfl (by omega) hv hj (by rw [if_neg (by omega)]) (by omega)) fun r M' h => ⟨rfl, rfl, h⟩
  · exact bk_use (S120c (i := i) hR hq (by omega) hm hv hj) fun r M' h => ⟨rfl, rfl, h⟩
  · exact bk_use (S121c (i := i) hR hq (by omega) hv hj) fun r M' h => ⟨rfl, rfl, h⟩
def bkLb (i p : Nat) (k a : Nat) : Prop := bkLa i p k a ∨ (k = 0 ∧ a = 0)
theorem S117c {d i p m : Nat} {M : bk_M} {N S : Int → Int} {n : Int} (hR : bkRel M p N) (hc : bkBc M S n) (hv : bkBv m S n) (hm : N 1 = m) (hl : M 0 0 1 = n) (hn : 0 ≤ n ∧ n ≤ 40) : bk_C (d + 7) 0 117 [bk_c 0 0, bk_c 5 p, bk_c 8 i] M (fun t r M' => t = 0 ∧ bkFr (bkLb i p) M M' ∧ M' 0 0 0 = (bkLvs S n 41 0 N).1 ∧ r = (bkLvs S n 41 0 N).2.1 ∧ bkRel M' p (bkLvs S n 41 0 N).2.2) := by
  rw [E_117]
  intro M1 e1
  generalize hO : bkLvs S n 41 0 N = O
  have key : ∀ (k j : Nat) (N' : Int → Int) (M' : bk_M), k + j = 41 → j ≤ n → bkRel M' p N' → N' 1 = m → bkFr (bkLb i p) M M' → M' 0 0 0 = 0 → M' 0 0 1 = n → bkLvs S n k j N' = O → bk_wp (bk_C (d + 6)) P_117 (fun t r M' => t = 0 ∧ bkFr (bkLb i p) M M' ∧ M' 0 0 0 = O.1 ∧ r = O.2.1 ∧ bkRel M' p O.2.2) 0 7 [bk_c 0 0, bk_c 5 p, bk_c 8 i, bk_i j] [] M' := by
    intro k
    induction k with
    | zero => intro j N' M' hj h2; omega
    | succ k ih =>
      intro j N' M' hj h2 hR' hm' hF h0 hl' hO
      rw [bkLvs_s] at hO
      rw [L_117_7, hl']
      refine ⟨fun z => ?_, fun z => ?_⟩
      · rw [if_pos z] at hO
        subst hO
        exact ⟨rfl, hF, h0, (show n = (j : Int) by omega), hR'⟩
      · rw [if_neg z] at hO
        have hvj := hv j (by omega) (by omega)
        refine bk_use (S118c (i := i) hR' (bkBc_e hc (fun k k0 k1 => hF k 0 (by unfold bkLb bkLa bkA65; omega)) j (by omega) (by omega)) hm' hvj (by omega)) (fun r M2 hM2 => ⟨rfl, fun M4 e4 => ?_⟩)
        obtain ⟨f2, er, R2⟩ := hM2
        obtain ⟨g1, g2⟩ := bkGo_md (bkRel_md hR') hm' hvj
        have R4 : bkRel M4 p (bkGo N' S j).2 := bkRel_fr R2 fun k hk => by rw [e4, bk_up_f (by omega)]
        have F4 : bkFr (bkLb i p) M M4 := bkFr_trans hF (bkFr_trans (bkFr_mono f2 fun k a w => .inl w) (by rw [e4]; exact bkFr_up (bkFr_refl _ _) (.inr ⟨rfl, rfl⟩)))
        have l4 : M4 0 0 1 = n := by rw [e4, bk_up_s (by decide), f2 0 0 (by unfold bkLa bkA65; omega), hl']
        have z4 : M4 0 0 0 = (bkGo N' S j).1 := by rw [e4, bk_up_e, er]
        rw [z4]
        refine ⟨fun w => ?_, fun w => ?_⟩
        · rw [if_pos w] at hO
          refine ⟨by unfold bk_r32; omega, ?_⟩
          have e' : ((j + 1 : Nat) : Int) = j + 1 := by omega
          have := ih (j + 1) _ M4 (by omega) (by omega) R4 (by rw [g2 1 (by omega)]; exact hm') F4 (by rw [z4]; exact w) l4 (by rw [e']; exact hO)
          rwa [e'] at this
        · rw [if_neg w] at hO
          subst hO
          exact ⟨rfl, F4, rfl, rfl, R4⟩
  exact key 41 0 N M1 rfl (by omega) (bkRel_fr hR fun k hk => by rw [e1, bk_up_f (by omega)]) hm (by rw [e1]; exact bkFr_up (bkFr_refl _ _) (.inr ⟨rfl, rfl⟩)) (by rw [e1, bk_up_e]) (by rw [e1, bk_up_s (by decide)]; exact hl) hO
