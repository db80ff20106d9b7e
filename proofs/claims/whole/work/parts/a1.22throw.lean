/-! The two calls that may throw: field, duel. -/
theorem E1_141 {d : Nat} {Q : bk_Q} (a1 : Int) (a2 : Int) (M : bk_M) : bk_C (d + 1) 1 141 [bk_c 11 0, bk_i a1, bk_i a2] M Q ↔ bk_C d 0 77 [bk_c 11 0, bk_i a1] M (fun t3 r1 M2 => t3 = 0 ∧ ((r1 = (0 : Int) → Q 1 0 M2) ∧ (¬ (r1 = (0 : Int)) → ((a2 < (0 : Int) → Q 1 0 M2) ∧ (¬ (a2 < (0 : Int)) → ((a2 ≤ (4 : Int) → ((0 : Int) ≤ a1 ∧ a1 < (10 : Int)) ∧ ((a2 = (0 : Int) → ((0 : Int) ≤ M2 30 ((M2 11 0 (1 : Int)).toNat) a1 ∧ (0 : Int) < (6 : Int)) ∧ Q 0 ((M2 30 ((M2 11 0 (1 : Int)).toNat) a1) % (6 : Int)) M2) ∧ (a2 ≠ (0 : Int) → ((a2 = (1 : Int) → ((0 : Int) ≤ M2 30 ((M2 11 0 (1 : Int)).toNat) a1 ∧ (0 : Int) < (6 : Int)) ∧ Q 0 ((M2 30 ((M2 11 0 (1 : Int)).toNat) a1) / (6 : Int)) M2) ∧ (a2 ≠ (1 : Int) → ((a2 = (2 : Int) → ((0 : Int) ≤ a1 ∧ a1 < (10 : Int)) ∧ Q 0 (M2 31 ((M2 11 0 (1 : Int)).toNat) a1) M2) ∧ (a2 ≠ (2 : Int) → ((a2 = (3 : Int) → bk_C d 0 41 [bk_c 29 ((M2 11 0 (1 : Int)).toNat), bk_i (M2 30 ((M2 11 0 (1 : Int)).toNat) a1)] M2 (fun t6 r4 M5 => t6 = 0 ∧ Q 0 r4 M5)) ∧ (a2 ≠ (3 : Int) → ((0 : Int) ≤ a1 ∧ a1 < (10 : Int)) ∧ Q 0 (M2 32 ((M2 11 0 (1 : Int)).toNat) a1) M2))))))))) ∧ (¬ (a2 ≤ (4 : Int)) → Q 1 0 M2))))))) := bk_iff (d := d) (P := P_141) (b := 1) (l := 0) (ls := [bk_c 11 0, bk_i a1, bk_i a2, bk_x]) (st := []) (M := M) [] 40
theorem E1_142 {d : Nat} {Q : bk_Q} (a1 : Int) (M : bk_M) : bk_C (d + 1) 1 142 [bk_c 11 0, bk_i a1] M Q ↔ bk_C d 0 47 [bk_i a1] M (fun t3 r1 M2 => t3 = 0 ∧ ((r1 ≠ (0 : Int) → bk_C d 0 143 [bk_c 7 0, bk_c 5 ((M2 11 0 (1 : Int)).toNat), bk_i a1] M2 (fun t6 r4 M5 => t6 = 0 ∧ Q 0 r4 M5)) ∧ (¬ (r1 ≠ (0 : Int)) → Q 1 0 M2))) := bk_iff (d := d) (P := P_142) (b := 1) (l := 0) (ls := [bk_c 11 0, bk_i a1]) (st := []) (M := M) [] 40
/-- class method c, which may throw, and reference method m: they answer alike, or the one throws and the other says so -/
def bkStT (c m : Nat) (as : List bk_V) : Prop := ∀ (d : Nat) (M : bk_M), bkInv M → bk_C (d + 60) 1 c (bk_c 11 0 :: as) M (fun t r M1 =>
  (t = 0 → ∀ M2, M2 = bk_up M1 86 0 0 r → bk_C (d + 60) 0 m (bk_c 12 0 :: as) M2 (fun t2 r2 M3 => t2 = 0 ∧ M3 12 0 0 = 0 ∧ M3 86 0 0 = r2 ∧ bkInv M3)) ∧
  (t = 1 → bk_C (d + 60) 0 m (bk_c 12 0 :: as) M1 (fun t2 _ M3 => t2 = 0 ∧ M3 12 0 0 = 1 ∧ bkInv M3)))
theorem bkQt_out {M : bk_M} {v : Int} : bkQt M (bk_up M 86 0 0 v) := by
  refine ⟨fun k a q => bk_up_f (by unfold bkQk at q; omega), bk_up_k (by decide), ⟨bk_up_k (by decide), bk_up_k (by decide), bk_up_k (by decide)⟩, fun j q => bk_up_k (by decide), fun q => ?_⟩
  unfold bkIcy at *
  intro c c0 c1
  rw [bk_up_k (by decide)]
  exact q c c0 c1
def bkFv (N : Int → Int) (f a : Int) : Int := if a = 0 then N (42 + f) else if a = 1 then N (52 + f) else if a = 2 then N (62 + f) else if a = 3 then bkWho N f else N (136 + f)
theorem S141 {d p : Nat} {Q : bk_Q} {f a : Int} {M : bk_M} {N : Int → Int} (hp : (M 11 0 1).toNat = p) (hR : bkRel M p N) (hN : ∀ x, 0 ≤ x → x < 10 → N (136 + x) = if x < M 5 p 6 then M 32 p x else 0) (hF : M 5 p 6 = N 0 ∧ ∀ x, 0 ≤ x → x < M 5 p 6 → M 30 p x = 6 * N (52 + x) + N (42 + x) ∧ M 31 p x = N (62 + x) ∧ 0 ≤ N (42 + x) ∧ N (42 + x) < 6 ∧ 0 ≤ N (52 + x))
    (h : if (0 ≤ f ∧ f < N 0) ∧ 0 ≤ a ∧ a ≤ 4 then Q 0 (bkFv N f a) M else Q 1 0 M) : bk_C (d + 3) 1 141 [bk_c 11 0, bk_i f, bk_i a] M Q := by
  have hm := (bkRel_md hR).2.2.2.2.1
  obtain ⟨h0, hF⟩ := hF
  rw [E1_141, S77 hp, h0]
  by_cases w : 0 ≤ f ∧ f < N 0
  · rw [if_pos w]
    obtain ⟨b1, b2, b3⟩ := bkBank_rel hR w.1 w.2
    obtain ⟨c1, c2, c3, c4, c5⟩ := hF f w.1 (by omega)
    refine ⟨rfl, fun z => absurd z (by decide), fun _ => ⟨fun z => ?_, fun z => ⟨fun z2 => ⟨⟨w.1, by omega⟩, ?_⟩, fun z2 => ?_⟩⟩⟩
    · rw [if_neg (by omega)] at h
      exact h
    · rw [if_pos ⟨w, by omega⟩] at h
      rw [hp]
      unfold bkFv at h
      refine ⟨fun q => ?_, fun q => ⟨fun q1 => ?_, fun q1 => ⟨fun q2 => ?_, fun q2 => ⟨fun q3 => ?_, fun q3 => ?_⟩⟩⟩⟩
      · rw [if_pos q] at h
        exact ⟨⟨b2, by decide⟩, by rw [show M 30 p f % 6 = N (42 + f) by omega]; exact h⟩
      · rw [if_neg q, if_pos q1] at h
        exact ⟨⟨b2, by decide⟩, by rw [show M 30 p f / 6 = N (52 + f) by omega]; exact h⟩
      · rw [if_neg q, if_neg q1, if_pos q2] at h
        exact ⟨⟨w.1, by omega⟩, by rw [c2]; exact h⟩
      · rw [if_neg q, if_neg q1, if_neg q2, if_pos q3] at h
        rw [S41 (.inl rfl) b2 b3, b1]
        exact ⟨rfl, h⟩
      · rw [if_neg q, if_neg q1, if_neg q2, if_neg q3, hN f w.1 (by omega), if_pos (by omega)] at h
        exact ⟨⟨w.1, by omega⟩, h⟩
    · rw [if_neg (by omega)] at h
      exact h
  · rw [if_neg w]
    rw [if_neg (by omega)] at h
    exact ⟨rfl, fun _ => h, fun z => absurd rfl z⟩
theorem S191 {d : Nat} {Q : bk_Q} {f a : Int} {M : bk_M} (hN : bkMd (M 58 0)) (h : if (0 ≤ f ∧ f < M 58 0 0) ∧ 0 ≤ a ∧ a ≤ 4 then Q 0 (bkFv (M 58 0) f a) (bk_up M 12 0 0 0) else Q 0 0 (bk_up (bk_up M 12 0 0 0) 12 0 0 1)) : bk_C (d + 4) 0 191 [bk_c 12 0, bk_i f, bk_i a] M Q := by
  have hm := hN.2.2.2.2.1
  rw [E_191]
  intro M1 hM1
  have e58 : M1 58 0 = M 58 0 := by rw [hM1, bk_up_f (by decide)]
  rw [S192 (d := d + 1) (by rw [e58]; exact hN), e58]
  by_cases w : 0 ≤ f ∧ f < M 58 0 0
  · rw [if_pos w]
    refine ⟨rfl, fun _ => ?_, fun z => absurd (by decide) z⟩
    unfold bkFv at h
    refine ⟨fun q => ?_, fun q => ⟨fun q1 => ?_, fun q1 => ⟨fun q2 => ?_, fun q2 => ⟨fun q3 => ?_, fun q3 => ⟨fun q4 => ?_, fun q4 => ?_⟩⟩⟩⟩⟩
    · rw [if_pos ⟨w, by omega⟩, if_pos q] at h
      exact ⟨by unfold bk_r32; omega, by omega, by rw [hM1]; exact h⟩
    · rw [if_pos ⟨w, by omega⟩, if_neg q, if_pos q1] at h
      exact ⟨by unfold bk_r32; omega, by omega, by rw [hM1]; exact h⟩
    · rw [if_pos ⟨w, by omega⟩, if_neg q, if_neg q1, if_pos q2] at h
      exact ⟨by unfold bk_r32; omega, by omega, by rw [hM1]; exact h⟩
    · rw [if_pos ⟨w, by omega⟩, if_neg q, if_neg q1, if_neg q2, if_pos q3] at h
      rw [S194 (by rw [e58]; exact hN) w.1 (by rw [e58]; exact w.2), e58]
      exact ⟨rfl, by rw [hM1]; exact h⟩
    · rw [if_pos ⟨w, by omega⟩, if_neg q, if_neg q1, if_neg q2, if_neg q3] at h
      exact ⟨by unfold bk_r32; omega, by omega, by rw [hM1]; exact h⟩
    · rw [if_neg (by omega)] at h
      rw [E_193]
      intro M2 hM2
      exact ⟨rfl, by rw [hM2, hM1]; exact h⟩
  · rw [if_neg w]
    rw [if_neg (by omega)] at h
    refine ⟨rfl, fun z => absurd rfl z, fun _ => ?_⟩
    rw [E_193]
    intro M2 hM2
    exact ⟨rfl, by rw [hM2, hM1]; exact h⟩
theorem T4 (f a : Int) : bkStT 141 191 [bk_i f, bk_i a] := fun d M h => by
  have hn := bkNow_e (bkInv_now h)
  obtain ⟨-, -, ⟨n0, -, -, -, -, -, n1⟩, -, -, -, -, -, n2, -, -⟩ := hn
  refine S141 (d := d + 57) rfl (bkInv_R h) n2 ⟨n0, n1⟩ ?_
  by_cases w : (0 ≤ f ∧ f < M 58 0 0) ∧ 0 ≤ a ∧ a ≤ 4
  · rw [if_pos w]
    refine ⟨fun _ M2 hM2 => ?_, fun z => absurd z (by decide)⟩
    have e58 : M2 58 0 = M 58 0 := by
      funext c
      rw [hM2, bk_up_k (by decide)]
    refine S191 (d := d + 56) (by rw [e58]; exact bkInv_md h) ?_
    rw [e58, if_pos w]
    refine ⟨rfl, bk_up_e, ?_, bkInv_q (bkInv_q h bkQt_out) (by rw [hM2]; exact bkQt_mark)⟩
    rw [bk_up_k (by decide), hM2, bk_up_e]
  · rw [if_neg w]
    refine ⟨fun z => absurd z (by decide), fun _ => ?_⟩
    refine S191 (d := d + 56) (bkInv_md h) ?_
    rw [if_neg w]
    exact ⟨rfl, bk_up_e, bkInv_q (bkInv_q h bkQt_mark) bkQt_mark⟩
theorem T22 (s : Int) : bkStT 142 234 [bk_i s] := fun d M h => by
  rw [E1_142, S47 (d := d + 58)]
  by_cases hs : 0 ≤ s ∧ s ≤ 1
  · rw [if_pos hs]
    refine ⟨rfl, fun _ => ?_, fun z => absurd (by decide) z⟩
    refine bk_use (S143 (d := d + 54) (bkInv_R h) hs) (fun r M1 hM1 => ⟨rfl, ?_⟩)
    obtain ⟨F, o, k3, er, t0, t1⟩ := hM1
    refine ⟨fun _ M2 hM2 => ?_, fun z => absurd z (by decide)⟩
    have e2 : ∀ k a, k ≠ 86 → M2 k a = M1 k a := fun k a w => by
      funext c
      rw [hM2, bk_up_k w]
    have u1 : ∀ k a, (12 ≤ k ∨ k = 10) → k ≠ 41 → k ≠ 43 → k ≠ 44 → k ≠ 45 → k ≠ 46 → k ≠ 47 → k ≠ 48 → k ≠ 86 → M2 k a = M k a := fun k a w1 w2 w3 w4 w5 w6 w7 w8 w9 => by
      rw [e2 k a w9, F k a (by unfold bkA144; omega)]
    have e58 : M2 58 0 = M 58 0 := u1 58 0 (by omega) (by decide) (by decide) (by decide) (by decide) (by decide) (by decide) (by decide) (by decide)
    have e69 : M2 69 0 = M 69 0 := u1 69 0 (by omega) (by decide) (by decide) (by decide) (by decide) (by decide) (by decide) (by decide) (by decide)
    refine bk_use (S234 (d := d + 52) (by rw [e58]; exact bkInv_md h) (fun c c0 c1 => by rw [e69]; exact bkInv_icy h c c0 c1) hs) (fun r2 M3 hM3 => ⟨rfl, ?_⟩)
    obtain ⟨F2, q58, o2, m0, k35, er2, v0, v1⟩ := hM3
    rw [e58] at er2 v0 v1 q58
    have e12 : ∀ j, j ≠ 0 → j ≠ 35 → j ≠ 36 → M3 12 0 j = M 12 0 j := fun j q1 q2 q3 => by rw [o2 j q1 q2 q3, u1 12 0 (by omega) (by decide) (by decide) (by decide) (by decide) (by decide) (by decide) (by decide) (by decide)]
    have e : ∀ k a, bkQk k a ∨ (k = 10 ∧ a = 0) → k ≠ 41 → k ≠ 74 → M3 k a = M k a := fun k a q w1 w2 => by
      unfold bkQk at q
      by_cases z : k = 58
      · by_cases za : a = 0
        · rw [z, za]; exact q58
        · rw [F2 k a (by unfold bkA235; omega), e2 k a (by omega), F k a (by unfold bkA144; omega)]
      · rw [F2 k a (by unfold bkA235; omega), e2 k a (by omega), F k a (by unfold bkA144; omega)]
    have r7 : ∀ j, M3 7 0 j = M1 7 0 j := fun j => by rw [F2 7 0 (by unfold bkA235; omega), e2 7 0 (by decide)]
    have r41 : M3 41 0 = M1 41 0 := by rw [F2 41 0 (by unfold bkA235; omega), e2 41 0 (by decide)]
    obtain ⟨r1, r2', r3, r4, r5, r6⟩ := bkInv_res' h
    refine ⟨m0, ?_, bkInv_res h (fun k a q w _ _ => e k a (.inl q) (by unfold bkRsK at w; omega) (by unfold bkRsK at w; omega)) (bkTap_e (bkInv_tap h) (e _ _ (by unfold bkQk; omega) (by decide) (by decide)) (e _ _ (by unfold bkQk; omega) (by decide) (by decide)) (e _ _ (by unfold bkQk; omega) (by decide) (by decide)) (by rw [e 10 0 (by omega) (by decide) (by decide)]) (e12 2 (by decide) (by decide) (by decide))) (e12 _ (by decide) (by decide) (by decide)) (e12 _ (by decide) (by decide) (by decide)) ⟨?_, ?_, ?_, ?_, ?_, ?_⟩ ?_⟩
    · rw [F2 86 0 (by unfold bkA235; omega), hM2, bk_up_e, er, er2]
    · exact bkR1_e r1 (by rw [r7, o 1 (by decide) (by decide) (by decide)]) (e12 _ (by decide) (by decide) (by decide)) (e _ _ (by unfold bkQk; omega) (by decide) (by decide)) (e _ _ (by unfold bkQk; omega) (by decide) (by decide))
    · unfold bkR2
      rw [r7, k3, k35, r41]
      refine ⟨rfl, fun _ k k0 k1 => ?_⟩
      obtain rfl | rfl : k = 0 ∨ k = 1 := by omega
      · rw [t0, v0]
      · rw [t1, v1]
    · exact bkR3_e r3 (by rw [r7, o 5 (by decide) (by decide) (by decide)]) (e12 _ (by decide) (by decide) (by decide)) (e _ _ (by unfold bkQk; omega) (by decide) (by decide)) (e _ _ (by unfold bkQk; omega) (by decide) (by decide))
    · exact bkR4_e r4 (by rw [e 1 0 (by unfold bkQk; omega) (by decide) (by decide)]) (e12 _ (by decide) (by decide) (by decide)) (e _ _ (by unfold bkQk; omega) (by decide) (by decide)) (e _ _ (by unfold bkQk; omega) (by decide) (by decide)) (e _ _ (by unfold bkQk; omega) (by decide) (by decide)) (e _ _ (by unfold bkQk; omega) (by decide) (by decide))
    · exact bkR5_e r5 (by rw [e 2 0 (by unfold bkQk; omega) (by decide) (by decide)]) (e12 _ (by decide) (by decide) (by decide)) (e _ _ (by unfold bkQk; omega) (by decide) (by decide)) (e _ _ (by unfold bkQk; omega) (by decide) (by decide))
    · exact bkR6_e r6 (by rw [e 11 0 (by unfold bkQk; omega) (by decide) (by decide)]) (e12 _ (by decide) (by decide) (by decide)) (e _ _ (by unfold bkQk; omega) (by decide) (by decide)) (e _ _ (by unfold bkQk; omega) (by decide) (by decide))
    · have := bkInv_icy h
      unfold bkIcy
      rw [F2 69 0 (by unfold bkA235; omega), e69]
      exact this
  · rw [if_neg hs]
    refine ⟨rfl, fun z => absurd rfl z, fun _ => ⟨fun z => absurd z (by decide), fun _ => ?_⟩⟩
    refine bk_use (S234n (d := d + 52) hs) (fun r2 M3 hM3 => ⟨rfl, ?_⟩)
    obtain ⟨F2, o2, m1⟩ := hM3
    have e : ∀ k a, bkQk k a ∨ (k = 10 ∧ a = 0) ∨ k = 7 ∨ k = 69 → M3 k a = M k a := fun k a q => F2 k a (by unfold bkQk at q; omega)
    refine ⟨m1, bkInv_q h ⟨fun k a q => e k a (.inl q), by rw [e 10 0 (by omega)], ⟨by rw [e 7 0 (by omega)], by rw [e 7 0 (by omega)], by rw [e 7 0 (by omega)]⟩, fun j q => o2 j (by unfold bkQj at q; omega), fun q => ?_⟩⟩
    unfold bkIcy at *
    rw [e 69 0 (by omega)]
    exact q
