/-! restore; sentence. -/
theorem L282 {d k : Nat} {M : bk_M} {Q : bk_Q} (hk : k < 2) (hQ : ∀ M', bkFr (fun k a => (k = 58 ∨ k = 63 ∨ k = 12) ∧ a = 0) M M' → (∀ q, M' 58 0 q = if 0 ≤ q ∧ q < 437 then M 60 0 (437 * k + q) else M 58 0 q) → (∀ q, M' 63 0 q = if 0 ≤ q ∧ q < 13 then M 65 0 (13 * k + q) else M 63 0 q) → M' 12 0 25 = 0 → (∀ j, j ≠ 25 → M' 12 0 j = M 12 0 j) → Q 0 1 M') : bk_wp (bk_C d) P_282 Q 0 27 [bk_c 12 0, bk_i k, bk_i 0] [] M := by
  refine bk_loopS (W := fun j M' => bk_wp (bk_C d) P_282 Q 0 27 [bk_c 12 0, bk_i k, bk_i j] [] M') (s := 0) (n := 437) (fun j M' => bkFr (fun k a => k = 58 ∧ a = 0) M M' ∧ ∀ q, M' 58 0 q = if 0 ≤ q ∧ q < j then M 60 0 (437 * k + q) else M 58 0 q) (by decide) ?_ ?_ ⟨bkFr_refl _ _, fun q => by rw [if_neg (by omega)]⟩
  · rintro j M' j0 j1 ⟨F, V⟩ ih
    rw [L_282_27]
    unfold bk_r32
    refine ⟨fun z => absurd z (by omega), fun _ => ⟨by omega, by omega, by omega, by omega, fun P1 f1 => ⟨by omega, ih P1 ⟨bkFr_trans F (by rw [f1]; exact bkFr_up (bkFr_refl _ _) ⟨rfl, rfl⟩), fun q => ?_⟩⟩⟩⟩
    rw [f1, F 60 0 (by omega), bk_up_w]
    by_cases w : q = j
    · rw [if_pos w, if_pos (by omega), w]
    · rw [if_neg w, V q]
      by_cases w2 : 0 ≤ q ∧ q < j
      · rw [if_pos w2, if_pos (by omega)]
      · rw [if_neg w2, if_neg (by omega)]
  · rintro M1 ⟨F1, V1⟩
    rw [L_282_27]
    refine ⟨fun _ => ?_, fun z => absurd (by decide) z⟩
    refine bk_loopS (W := fun j M' => bk_wp (bk_C d) P_282 Q 0 60 [bk_c 12 0, bk_i k, bk_i j] [] M') (s := 0) (n := 13) (fun j M' => bkFr (fun k a => k = 63 ∧ a = 0) M1 M' ∧ ∀ q, M' 63 0 q = if 0 ≤ q ∧ q < j then M 65 0 (13 * k + q) else M 63 0 q) (by decide) ?_ ?_ ⟨bkFr_refl _ _, fun q => by rw [if_neg (by omega), F1 63 0 (by omega)]⟩
    · rintro j M' j0 j1 ⟨F, V⟩ ih
      rw [L_282_60]
      unfold bk_r32
      refine ⟨fun z => absurd z (by omega), fun _ => ⟨by omega, by omega, by omega, by omega, fun P1 f1 => ⟨by omega, ih P1 ⟨bkFr_trans F (by rw [f1]; exact bkFr_up (bkFr_refl _ _) ⟨rfl, rfl⟩), fun q => ?_⟩⟩⟩⟩
      rw [f1, F 65 0 (by omega), F1 65 0 (by omega), bk_up_w]
      by_cases w : q = j
      · rw [if_pos w, if_pos (by omega), w]
      · rw [if_neg w, V q]
        by_cases w2 : 0 ≤ q ∧ q < j
        · rw [if_pos w2, if_pos (by omega)]
        · rw [if_neg w2, if_neg (by omega)]
    · rintro M2 ⟨F2, V2⟩
      rw [L_282_60]
      refine ⟨fun _ M3 e3 => ⟨.inr rfl, hQ M3 ?_ (fun q => ?_) (fun q => ?_) (by rw [e3, bk_up_e]) (fun j hj => ?_)⟩, fun z => absurd (by decide) z⟩
      · exact bkFr_trans (bkFr_mono F1 fun k a w => ⟨.inl w.1, w.2⟩) (bkFr_trans (bkFr_mono F2 fun k a w => ⟨.inr (.inl w.1), w.2⟩) (by rw [e3]; exact bkFr_up (bkFr_refl _ _) ⟨.inr (.inr rfl), rfl⟩))
      · rw [e3, bk_up_k (by decide), F2 58 0 (by omega)]; exact V1 q
      · rw [e3, bk_up_k (by decide)]; exact V2 q
      · rw [e3, bk_up_s hj, F2 12 0 (by omega), F1 12 0 (by omega)]
theorem T40 (a : Int) : bkStp 139 282 [bk_i a] := fun d M h => by
  have hid := bkIds_p h.1
  have hh := bkInv_his h
  have i0 := h.2.2.2.2.2.1
  have i1 := h.2.2.2.2.2.2.1
  have no : (¬ (0 ≤ a ∧ a ≤ 1) ∨ M 66 0 a = 0) → bk_C (d + 60) 0 282 [bk_c 12 0, bk_i a] M (fun t2 r2 M2 => t2 = 0 ∧ (0 : Int) = r2 ∧ bkInv M2) := fun z => by
    rw [E_282]
    intro N1 g1
    have iq : bkInv N1 := by rw [g1]; exact bkInv_q h bkQt_mark
    rw [S157 (d := d + 58)]
    by_cases w : 0 ≤ a ∧ a ≤ 1
    · rw [if_pos w]
      have z := z.resolve_left (fun q => q w)
      rw [show N1 66 0 a = 0 by rw [g1, bk_up_k (by decide)]; exact z]
      exact ⟨rfl, fun q => absurd q (by decide), fun _ => ⟨by omega, fun q => absurd rfl q, fun _ => ⟨.inl rfl, rfl, rfl, iq⟩⟩⟩
    · rw [if_neg w]
      exact ⟨rfl, fun _ => ⟨.inl rfl, rfl, rfl, iq⟩, fun q => absurd rfl q⟩
  rw [E_139]
  refine ⟨fun z => ⟨.inl rfl, rfl, no (.inl (by omega))⟩, fun z0 => ⟨fun z1 => ⟨.inl rfl, rfl, no (.inl (by omega))⟩, fun z1 => ⟨by omega, ?_⟩⟩⟩
  obtain ⟨k, rfl⟩ : ∃ k : Nat, a = k := ⟨a.toNat, by omega⟩
  have k2 : k < 2 := by omega
  have im : bkImg M k := by
    have : k = 0 ∨ k = 1 := by omega
    rcases this with rfl | rfl
    · exact i0
    · exact i1
  obtain ⟨m4, mA⟩ := im
  generalize hp : (M 11 0 1).toNat = p at *
  generalize hs : (M 11 0 7).toNat = s at *
  rw [show 0 + (k : Int).toNat + 11 = 11 + k by omega, show 0 + (k : Int).toNat + 2 = 2 + k by omega, show 0 + (k : Int).toNat = k by omega, m4]
  refine ⟨fun z => ⟨by omega, ?_⟩, fun z => ⟨.inl rfl, rfl, no (.inr (Decidable.not_not.1 z))⟩⟩
  obtain ⟨m66, mA⟩ := mA.resolve_left z
  refine (S58 (d := d + 58) (by omega)).2 ⟨rfl, by omega, ?_⟩
  have cf := bkCopy_fr M p (11 + k)
  generalize hC : bkCopy M p (11 + k) = C at *
  have uC : ∀ i b, ¬ (bkPk i ∧ b = p) → C i b = M i b := fun i b w => cf i b (by unfold bkACopy; unfold bkPk at w; exact w)
  rw [show (C 11 0 7).toNat = s by rw [uC 11 0 (by unfold bkPk; omega)]; exact hs]
  refine bk_use (S138o (d := d + 58) (i := s) (j := 2 + k) (by omega)) (fun r M5 hM5 => ⟨rfl, ?_⟩)
  obtain ⟨F5, s0, s1, s4⟩ := hM5
  rw [E_38]
  intro M7 e7
  refine ⟨rfl, .inr rfl, rfl, ?_⟩
  have u7 : ∀ i b, i ≠ 3 → ¬ (bkSk i ∧ b = s) → ¬ (bkPk i ∧ b = p) → M7 i b = M i b := fun i b w1 w2 w3 => by rw [e7, bk_up_f w1, F5 i b w2, uC i b w3]
  rw [E_282]
  intro N1 g1
  rw [S157 (d := d + 58), if_pos (show 0 ≤ (k : Int) ∧ (k : Int) ≤ 1 by omega)]
  have un : ∀ i b, i ≠ 3 → i ≠ 12 → ¬ (bkSk i ∧ b = s) → ¬ (bkPk i ∧ b = p) → N1 i b = M i b := fun i b w1 w2 w3 w4 => by rw [g1, bk_up_f w2, u7 i b w1 w3 w4]
  refine ⟨rfl, fun q => absurd q (by decide), fun _ => ⟨by omega, fun _ => ?_, fun q => absurd (show N1 66 0 (k : Int) ≠ 0 by rw [un 66 0 (by decide) (by decide) (by unfold bkSk; omega) (by unfold bkPk; omega)]; exact z) q⟩⟩
  refine L282 k2 (fun Y FY y58 y63 y25 y12' => ⟨rfl, rfl, ?_⟩)
  rw [un 58 0 (by decide) (by decide) (by unfold bkSk; omega) (by unfold bkPk; omega), un 60 0 (by decide) (by decide) (by unfold bkSk; omega) (by unfold bkPk; omega)] at y58
  rw [un 63 0 (by decide) (by decide) (by unfold bkSk; omega) (by unfold bkPk; omega), un 65 0 (by decide) (by decide) (by unfold bkSk; omega) (by unfold bkPk; omega)] at y63
  have uY : ∀ i b, i ≠ 3 → i ≠ 12 → i ≠ 58 → i ≠ 63 → ¬ (bkSk i ∧ b = s) → ¬ (bkPk i ∧ b = p) → Y i b = M i b := fun i b w1 w2 w3 w4 w5 w6 => by rw [FY i b (by omega), un i b w1 w2 w5 w6]
  have y12 : ∀ j, j ≠ 0 → j ≠ 25 → Y 12 0 j = M 12 0 j := fun j q1 q2 => by rw [y12' j q2, g1, bk_up_s q1, u7 12 0 (by decide) (by unfold bkSk; omega) (by unfold bkPk; omega)]
  have Ysk : ∀ i, bkSk i → Y i s = M5 i s := fun i hi => by
    unfold bkSk at hi
    rw [FY i _ (by omega), g1, bk_up_f (by omega), e7, bk_up_f (by omega)]
  have Csk : ∀ i c, bkSk i → C i c = M i c := fun i c hi => uC i c (by unfold bkSk at hi; unfold bkPk; omega)
  refine bkInv_put h hp hs (fun i b q w1 w2 w3 w4 w5 w6 => uY i b w3 (by unfold bkQk at q; omega) w1 w4 w6 (fun z => w5 ⟨z.1, .inl z.2⟩)) (fun j q q2 => y12 j (by unfold bkQj at q; omega) q2) (bkAllP_cp mA (fun i hi => ?_) (by rw [Ysk 9 (.inl rfl), s0, Csk 9 _ (.inl rfl)]) (by rw [Ysk 9 (.inl rfl), s1, Csk 9 _ (.inl rfl)]) (fun i q w0 w1 q0 q1 => by rw [Ysk i (.inr ⟨w0, w1⟩), s4 i q w0 w1 q0 q1, Csk i _ (.inr ⟨w0, w1⟩)]) (fun q q0 q1 => by rw [y58, if_pos ⟨q0, q1⟩]) (fun j j0 j1 => by rw [y63, if_pos ⟨j0, j1⟩])) ?_ ?_
  · unfold bkPk at hi
    rw [FY i _ (by omega), g1, bk_up_f (by omega), e7, bk_up_f (by omega), F5 i _ (by unfold bkSk; omega), hC]
  · have f3 : ∀ j, Y 3 0 j = if j = 0 then 0 else M 3 0 j := fun j => by
      rw [FY 3 0 (by omega), g1, bk_up_k (by decide), e7, bk_up_w, F5 3 0 (by unfold bkSk; omega), uC 3 0 (by unfold bkPk; omega)]
    refine ⟨by rw [f3, if_pos rfl]; omega, by rw [f3, if_neg (by decide)]; exact hh.2.1, by rw [y25, f3, if_pos rfl], fun j j1 j2 => ?_⟩
    rw [f3, if_pos rfl] at j2
    omega
  · have := bkInv_icy h
    unfold bkIcy
    rw [uY 69 0 (by decide) (by decide) (by decide) (by decide) (by unfold bkSk; omega) (by unfold bkPk; omega)]
    exact this
theorem T37 : bkStp 123 268 [] := fun d M h => by
  have hid := bkIds_p h.1
  have hN := bkInv_md h
  have n0 := hN.2.2.2.2.1
  have hA := h.2.2.2.1
  have hR := bkInv_R h
  obtain ⟨t1, t2, t3, t4, t5⟩ := id (bkInv_tap h)
  unfold bkNowI at hA
  have hh := bkInv_his h
  have b1 := hR.2.1.1
  refine bk_use (S123c (d := d + 18) (m := (M 58 0 0).toNat) rfl rfl t3 t5 rfl (by rw [b1]; omega) (by omega) (by omega) (by omega)) (fun r M1 hM1 => ⟨rfl, ?_⟩)
  generalize hp : (M 11 0 1).toNat = p at *
  generalize hs : (M 11 0 7).toNat = s at *
  generalize hu : (M 11 0 8).toNat = u at *
  obtain ⟨z1, F1, c1, c2⟩ := hM1
  have u1 : ∀ k a, k ≠ 10 → k ≠ 11 → ¬ (bkSk k ∧ a = u) → M1 k a = M k a := fun k a w1 w2 w3 => F1 k a (by unfold bkSa; unfold bkSk at w3; omega)
  have k1 : ∀ k, k ≠ 10 → k ≠ 11 → ¬ bkSk k → ∀ a, M1 k a = M k a := fun k w1 w2 w3 a => u1 k a w1 w2 fun q => w3 q.1
  have e58 : M1 58 0 = M 58 0 := k1 58 (by decide) (by decide) (by unfold bkSk; omega) 0
  refine bk_use (S268c (d := d + 19) (m := (M 58 0 0).toNat) (f := M 33 p) (T := M 53 0) (c := M 10 0 1) (by rw [k1 57 (by decide) (by decide) (by unfold bkSk; omega)]; exact t1.symm) (by rw [k1 12 (by decide) (by decide) (by unfold bkSk; omega)]; exact t2.symm) t3 (by rw [← hp]; exact bkInv_nmF h (k1 63 (by decide) (by decide) (by unfold bkSk; omega) 0) e58) (by omega)) (fun r2 Y hY => ⟨rfl, ?_⟩)
  obtain ⟨y0, y2, o2, F2, lo, d1, d2⟩ := hY
  rw [e58] at lo d1
  have uY : ∀ k a, k ≠ 10 → k ≠ 11 → k ≠ 12 → k ≠ 85 → k ≠ 58 → ¬ (bkSk k ∧ a = u) → Y k a = M k a := fun k a w1 w2 w3 w4 w5 w6 => by rw [F2 k a (by omega), u1 k a w1 w2 w6]
  have y12 : ∀ j, (14 ≤ j ∧ j < 55) ∨ j = 1 → Y 12 0 j = M 12 0 j := fun j hj => by rw [o2 j hj, k1 12 (by decide) (by decide) (by unfold bkSk; omega)]
  have y11 : ∀ j, Y 11 0 j = M1 11 0 j := fun j => by rw [F2 11 0 (by omega)]
  have ob : ∀ i, (i = 1 ∨ i = 2 ∨ i = 3 ∨ i = 4 ∨ i = 7 ∨ i = 20 ∨ i = 21 ∨ i = 26 ∨ (40 ≤ i ∧ i ≤ 42) ∨ (53 ≤ i ∧ i ≤ 57) ∨ (60 ≤ i ∧ i ≤ 84)) → ∀ a, Y i a = M i a := fun i hi a => uY i a (by omega) (by omega) (by omega) (by omega) (by omega) (by unfold bkSk; omega)
  have pl : ∀ i b, bkPk i → Y i b = M i b := fun i b hi => by
    unfold bkPk at hi
    exact uY i b (by omega) (by omega) (by omega) (by omega) (by omega) (by unfold bkSk; omega)
  have sk : ∀ i b, bkSk i → b ≠ u → Y i b = M i b := fun i b hi hb => by
    unfold bkSk at hi
    exact uY i b (by omega) (by omega) (by omega) (by omega) (by omega) (by omega)
  have tap : bkTap Y := bkTap_0 (bkInv_tap h) (ob _ (by omega) 0) (ob _ (by omega) 0) (ob _ (by omega) 0) (by rw [F2 10 0 (by omega), z1]) y2
  have his : bkHis Y p := bkHis_e hh (fun i b hi b0 b1 => pl i b hi) (fun g _ => by rw [pl 33 p (.inr (by omega))]) (fun g _ => by rw [pl 36 p (.inr (by omega))]) (ob _ (by omega) 0) (ob _ (by omega) 0) (y12 _ (by omega)) (fun q hq => lo q (by omega))
  have im0 : bkImg Y 0 := bkImg_e h.2.2.2.2.2.1 (fun i hi => pl i _ hi) (fun i hi => sk i _ hi (by omega)) (by rw [ob 4 (by omega)]) (by rw [ob 66 (by omega)]) (ob _ (by omega) 0) (ob _ (by omega) 0)
  have im1 : bkImg Y 1 := bkImg_e h.2.2.2.2.2.2.1 (fun i hi => pl i _ hi) (fun i hi => sk i _ hi (by omega)) (by rw [ob 4 (by omega)]) (by rw [ob 66 (by omega)]) (ob _ (by omega) 0) (ob _ (by omega) 0)
  have icy : bkIcy Y := by
    have := bkInv_icy h
    unfold bkIcy
    rw [ob 69 (by omega)]
    exact this
  have res : Y 11 0 15 = M 11 0 15 → bkRes Y := fun e15 => by
    obtain ⟨r1, r2, r3, r4, r5, r6⟩ := bkInv_res' h
    exact ⟨bkR1_e r1 (by rw [ob 7 (by omega)]) (y12 _ (by omega)) (ob _ (by omega) 0) (ob _ (by omega) 0), bkR2_e r2 (by rw [ob 7 (by omega)]) (y12 _ (by omega)) (ob _ (by omega) 0) (ob _ (by omega) 0), bkR3_e r3 (by rw [ob 7 (by omega)]) (y12 _ (by omega)) (ob _ (by omega) 0) (ob _ (by omega) 0), bkR4_e r4 (by rw [ob 1 (by omega)]) (y12 _ (by omega)) (ob _ (by omega) 0) (ob _ (by omega) 0) (ob _ (by omega) 0) (ob _ (by omega) 0), bkR5_e r5 (by rw [ob 2 (by omega)]) (y12 _ (by omega)) (ob _ (by omega) 0) (ob _ (by omega) 0), bkR6_e r6 e15 (y12 _ (by omega)) (ob _ (by omega) 0) (ob _ (by omega) 0)⟩
  rcases eO : bkSTx (M 33 p) (M 58 0 0).toNat (M 53 0) (M 10 0 1) 200 with ⟨w, q⟩ | ⟨j, S⟩
  · obtain ⟨a1, a2, a3⟩ := c1 w q eO
    obtain ⟨a4, a5, a6⟩ := d1 w q eO
    have v11 : ∀ j, j ≠ 16 → Y 11 0 j = M 11 0 j := fun j hj => by rw [y11, a3 j hj]
    refine ⟨by rw [a1, a4], ?_, tap, by rw [y11, a2, a5], ?_, ?_, im0, im1, res (v11 15 (by decide)), icy⟩
    · unfold bkIds; rw [v11 1 (by decide), v11 2 (by decide), v11 7 (by decide), v11 8 (by decide)]; exact h.1
    · unfold bkNowI
      rw [v11 1 (by decide), v11 7 (by decide), hp, hs]
      exact bkAllP_e hA (fun i hi => pl i p hi) (fun i hi => sk i s hi (by omega)) (ob _ (by omega) 0) a6
    · rw [v11 1 (by decide), hp]; exact his
  · obtain ⟨a1, a2, a3, a4, a5, a6, a7⟩ := c2 j S eO
    obtain ⟨b1', b2, b3⟩ := d2 j S eO
    have v11 : ∀ j, j ≠ 7 → j ≠ 8 → j ≠ 16 → Y 11 0 j = M 11 0 j := fun j h1 h2 h3 => by rw [y11, a5 j h1 h2 h3]
    have v7 : Y 11 0 7 = M 11 0 8 := by rw [y11, a3]
    have v8 : Y 11 0 8 = M 11 0 7 := by rw [y11, a4]
    refine ⟨by rw [a1, b1'], ?_, tap, by rw [y11, a2, b2], ?_, ?_, im0, im1, res (v11 15 (by decide) (by decide) (by decide)), icy⟩
    · unfold bkIds; rw [v11 1 (by decide) (by decide) (by decide), v11 2 (by decide) (by decide) (by decide), v7, v8]; have := h.1; unfold bkIds at this; omega
    · unfold bkNowI
      rw [v11 1 (by decide) (by decide) (by decide), v7, hp, hu]
      obtain ⟨R, Nm, -⟩ := hA
      refine ⟨bkRel_row (bkRel_fr R fun i hi => pl i p hi) (fun q q0 q1 => lo q (by omega)), bkNam_e Nm (fun j _ => by rw [pl 33 p (.inr (by omega))]) (fun j _ => by rw [pl 36 p (.inr (by omega))]) (ob _ (by omega) 0) (lo 0 (by omega)) (lo 1 (by omega)), .inr ⟨S, bkSnC_e a6 fun i hi => F2 i u (by omega), b3, by rw [lo 0 (by omega)]; exact a7⟩⟩
    · rw [v11 1 (by decide) (by decide) (by decide), hp]; exact his
