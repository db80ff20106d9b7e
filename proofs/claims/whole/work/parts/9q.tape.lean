/-! The tape; images. -/
def bkAd (T : Int → Int) (c w : Int) : Int → Int := bkPut (bkPut (bkPut (bkPut T c (bk_and (bk_ushr w 24) 255)) (c + 1) (bk_and (bk_ushr w 16) 255)) (c + 2) (bk_and (bk_ushr w 8) 255)) (c + 3) (bk_and (bk_ushr w 0) 255)
theorem bkAd_0 {T : Int → Int} {c w : Int} (h : ∀ j, 0 ≤ T j) : ∀ j, 0 ≤ bkAd T c w j := fun j => by
  unfold bkAd bkPut
  rw [bk_and255, bk_and255, bk_and255, bk_and255]
  have := h j
  (repeat' split) <;> omega
theorem bk_up_put {M : bk_M} {k i : Nat} {j v : Int} : bk_up M k i j v k i = bkPut (M k i) j v := by
  funext q
  rw [bk_up_w]
  rfl
theorem S2c {d : Nat} {M : bk_M} {T : Int → Int} {c w : Int} (hT : M 53 0 = T) (hc : M 10 0 1 = c) (h0 : 0 ≤ c ∧ c + 4 ≤ 940) : bk_C (d + 1) 0 2 [bk_c 10 0, bk_i w] M (fun t r M' => t = 0 ∧ bkFr (fun k a => (k = 10 ∨ k = 53) ∧ a = 0) M M' ∧ M' 10 0 1 = c + 4 ∧ M' 53 0 = bkAd T c w) := by
  have one : ∀ (Q : bk_Q) (x s : Int) (M1 : bk_M), M1 10 0 1 = s → 0 ≤ s ∧ s < 940 → 0 ≤ x ∧ x < 32 → (∀ M2, bkFr (fun k a => (k = 10 ∨ k = 53) ∧ a = 0) M1 M2 → M2 10 0 1 = s + 1 → M2 53 0 = bkPut (M1 53 0) s (bk_and (bk_ushr w x) 255) → bk_wp (bk_C d) P_2 Q 0 3 [bk_c 10 0, bk_i w, bk_i (x + -8)] [] M2) → bk_wp (bk_C d) P_2 Q 0 3 [bk_c 10 0, bk_i w, bk_i x] [] M1 := fun Q x s M1 hs s0 x0 go => by
    rw [L_2_3, hs]
    refine ⟨fun z => absurd z (by omega), fun _ => ⟨fun z => absurd z (by omega), fun _ => ⟨x0, by omega, fun M2 e2 => ?_⟩⟩⟩
    rw [show M2 10 0 1 = s by rw [e2, bk_up_k (by decide), hs]]
    refine ⟨by unfold bk_r32; omega, fun M3 e3 => ⟨by unfold bk_r32; omega, go M3 ?_ (by rw [e3, bk_up_e]) (by rw [e3, bk_up_f (by decide), e2, bk_up_put])⟩⟩
    rw [e3, e2]
    exact bkFr_up (bkFr_up (bkFr_refl _ _) ⟨.inr rfl, rfl⟩) ⟨.inl rfl, rfl⟩
  rw [E_2]
  refine one _ 24 c M hc (by omega) (by decide) fun M1 F1 s1 t1 => ?_
  refine one _ 16 (c + 1) M1 s1 (by omega) (by decide) fun M2 F2 s2 t2 => ?_
  refine one _ 8 (c + 2) M2 (by rw [s2]; omega) (by omega) (by decide) fun M3 F3 s3 t3 => ?_
  refine one _ 0 (c + 3) M3 (by rw [s3]; omega) (by omega) (by decide) fun M4 F4 s4 t4 => ?_
  rw [L_2_3]
  refine ⟨fun _ => ⟨rfl, bkFr_trans F1 (bkFr_trans F2 (bkFr_trans F3 F4)), by rw [s4]; omega, ?_⟩, fun z => absurd (by decide) z⟩
  rw [t4, t3, t2, t1, hT]
  rfl
theorem S148c {d : Nat} {M : bk_M} {T : Int → Int} {c w : Int} (hT : M 57 0 = T) (hc : M 12 0 2 = c) (h0 : 0 ≤ c ∧ c + 4 ≤ 940) : bk_C (d + 1) 0 148 [bk_c 12 0, bk_i w] M (fun t r M' => t = 0 ∧ bkFr (fun k a => (k = 12 ∨ k = 57) ∧ a = 0) M M' ∧ (∀ j, j ≠ 2 → M' 12 0 j = M 12 0 j) ∧ M' 12 0 2 = c + 4 ∧ M' 57 0 = bkAd T c w) := by
  have one : ∀ (Q : bk_Q) (x s : Int) (M1 : bk_M), M1 12 0 2 = s → 0 ≤ s ∧ s < 940 → 0 ≤ x ∧ x < 32 → (∀ M2, bkFr (fun k a => (k = 12 ∨ k = 57) ∧ a = 0) M1 M2 → (∀ j, j ≠ 2 → M2 12 0 j = M1 12 0 j) → M2 12 0 2 = s + 1 → M2 57 0 = bkPut (M1 57 0) s (bk_and (bk_ushr w x) 255) → bk_wp (bk_C d) P_148 Q 0 3 [bk_c 12 0, bk_i w, bk_i (x + -8)] [] M2) → bk_wp (bk_C d) P_148 Q 0 3 [bk_c 12 0, bk_i w, bk_i x] [] M1 := fun Q x s M1 hs s0 x0 go => by
    rw [L_148_3, hs]
    refine ⟨fun z => absurd z (by omega), fun _ => ⟨x0, by omega, fun M2 e2 => ?_⟩⟩
    rw [show M2 12 0 2 = s by rw [e2, bk_up_k (by decide), hs]]
    refine ⟨by unfold bk_r32; omega, fun M3 e3 => ⟨by unfold bk_r32; omega, go M3 ?_ (fun j hj => by rw [e3, bk_up_s hj, e2, bk_up_k (by decide)]) (by rw [e3, bk_up_e]) (by rw [e3, bk_up_f (by decide), e2, bk_up_put])⟩⟩
    rw [e3, e2]
    exact bkFr_up (bkFr_up (bkFr_refl _ _) ⟨.inr rfl, rfl⟩) ⟨.inl rfl, rfl⟩
  rw [E_148]
  refine one _ 24 c M hc (by omega) (by decide) fun M1 F1 o1 s1 t1 => ?_
  refine one _ 16 (c + 1) M1 s1 (by omega) (by decide) fun M2 F2 o2 s2 t2 => ?_
  refine one _ 8 (c + 2) M2 (by rw [s2]; omega) (by omega) (by decide) fun M3 F3 o3 s3 t3 => ?_
  refine one _ 0 (c + 3) M3 (by rw [s3]; omega) (by omega) (by decide) fun M4 F4 o4 s4 t4 => ?_
  rw [L_148_3]
  refine ⟨fun _ => ⟨rfl, bkFr_trans F1 (bkFr_trans F2 (bkFr_trans F3 F4)), fun j hj => by rw [o4 j hj, o3 j hj, o2 j hj, o1 j hj], by rw [s4]; omega, ?_⟩, fun z => absurd (by decide) z⟩
  rw [t4, t3, t2, t1, hT]
  rfl
/-- only the tape differs -/
theorem bkInv_tp {M Y : bk_M} (h : bkInv M) (hc : bkFr (fun k a => (k = 10 ∨ k = 12 ∨ k = 53 ∨ k = 57) ∧ a = 0) M Y) (h12 : ∀ j, j ≠ 0 → j ≠ 2 → Y 12 0 j = M 12 0 j) (hT : bkTap Y) : bkInv Y := by
  obtain ⟨r1, r2, r3, r4, r5, r6⟩ := bkInv_res' h
  have e : ∀ k, k ≠ 10 → k ≠ 12 → k ≠ 53 → k ≠ 57 → Y k 0 = M k 0 := fun k w1 w2 w3 w4 => hc k 0 (by omega)
  have e7 := e 7 (by decide) (by decide) (by decide) (by decide)
  refine bkInv_res h (fun k a q w w1 w2 => hc k a (by unfold bkQk at q; omega)) hT (h12 _ (by decide) (by decide)) (h12 _ (by decide) (by decide)) ⟨bkR1_e r1 (by rw [e7]) (h12 _ (by decide) (by decide)) (e _ (by decide) (by decide) (by decide) (by decide)) (e _ (by decide) (by decide) (by decide) (by decide)), bkR2_e r2 (by rw [e7]) (h12 _ (by decide) (by decide)) (e _ (by decide) (by decide) (by decide) (by decide)) (e _ (by decide) (by decide) (by decide) (by decide)), bkR3_e r3 (by rw [e7]) (h12 _ (by decide) (by decide)) (e _ (by decide) (by decide) (by decide) (by decide)) (e _ (by decide) (by decide) (by decide) (by decide)), bkR4_e r4 (by rw [e 1 (by decide) (by decide) (by decide) (by decide)]) (h12 _ (by decide) (by decide)) (e _ (by decide) (by decide) (by decide) (by decide)) (e _ (by decide) (by decide) (by decide) (by decide)) (e _ (by decide) (by decide) (by decide) (by decide)) (e _ (by decide) (by decide) (by decide) (by decide)), bkR5_e r5 (by rw [e 2 (by decide) (by decide) (by decide) (by decide)]) (h12 _ (by decide) (by decide)) (e _ (by decide) (by decide) (by decide) (by decide)) (e _ (by decide) (by decide) (by decide) (by decide)), bkR6_e r6 (by rw [e 11 (by decide) (by decide) (by decide) (by decide)]) (h12 _ (by decide) (by decide)) (e _ (by decide) (by decide) (by decide) (by decide)) (e _ (by decide) (by decide) (by decide) (by decide))⟩ ?_
  have := bkInv_icy h
  unfold bkIcy
  rw [e 69 (by decide) (by decide) (by decide) (by decide)]
  exact this
theorem T0 (a b c e f : Int) : bkStp 1 147 [bk_i a, bk_i b, bk_i c, bk_i e, bk_i f] := fun d M h => by
  obtain ⟨t1, t2, t3, t4, t5⟩ := id (bkInv_tap h)
  generalize hs : M 10 0 1 = s at *
  generalize hT : M 53 0 = T at *
  rw [E_1, hs]
  refine ⟨fun z => ?_, fun z => ⟨rfl, ?_⟩⟩
  · refine bk_use (S2c (d := d + 58) hT hs (by omega)) (fun r M2 hM2 => ⟨rfl, ?_⟩)
    obtain ⟨F2, s2, q2⟩ := hM2
    refine bk_use (S2c (d := d + 58) q2 s2 (by omega)) (fun r M5 hM5 => ⟨rfl, ?_⟩)
    obtain ⟨F5, s5, q5⟩ := hM5
    refine bk_use (S2c (d := d + 58) q5 s5 (by omega)) (fun r M8 hM8 => ⟨rfl, ?_⟩)
    obtain ⟨F8, s8, q8⟩ := hM8
    refine bk_use (S2c (d := d + 58) q8 s8 (by omega)) (fun r M11 hM11 => ⟨rfl, ?_⟩)
    obtain ⟨F11, s11, q11⟩ := hM11
    refine bk_use (S2c (d := d + 58) q11 s11 (by omega)) (fun r M14 hM14 => ⟨rfl, rfl, ?_⟩)
    obtain ⟨F14, s14, q14⟩ := hM14
    have F := bkFr_trans F2 (bkFr_trans F5 (bkFr_trans F8 (bkFr_trans F11 F14)))
    rw [E_147]
    intro N1 g1
    have n2 : N1 12 0 2 = s := by rw [g1, bk_up_s (by decide), F 12 0 (by omega)]; exact t2.symm
    have nT : N1 57 0 = T := by rw [g1, bk_up_f (by decide), F 57 0 (by omega)]; exact t1.symm
    rw [n2]
    refine ⟨by unfold bk_r32; omega, fun _ => ?_, fun q => absurd (show s + 20 ≤ 940 by omega) q⟩
    refine bk_use (S148c (d := d + 58) nT n2 (by omega)) (fun r P2 hP2 => ⟨rfl, ?_⟩)
    obtain ⟨G2, o2, u2, p2⟩ := hP2
    refine bk_use (S148c (d := d + 58) p2 u2 (by omega)) (fun r P5 hP5 => ⟨rfl, ?_⟩)
    obtain ⟨G5, o5, u5, p5⟩ := hP5
    refine bk_use (S148c (d := d + 58) p5 u5 (by omega)) (fun r P8 hP8 => ⟨rfl, ?_⟩)
    obtain ⟨G8, o8, u8, p8⟩ := hP8
    refine bk_use (S148c (d := d + 58) p8 u8 (by omega)) (fun r P11 hP11 => ⟨rfl, ?_⟩)
    obtain ⟨G11, o11, u11, p11⟩ := hP11
    refine bk_use (S148c (d := d + 58) p11 u11 (by omega)) (fun r P14 hP14 => ⟨rfl, rfl, ?_⟩)
    obtain ⟨G14, o14, u14, p14⟩ := hP14
    have G := bkFr_trans G2 (bkFr_trans G5 (bkFr_trans G8 (bkFr_trans G11 G14)))
    have FF : bkFr (fun k a => (k = 10 ∨ k = 12 ∨ k = 53 ∨ k = 57) ∧ a = 0) M P14 := bkFr_trans (bkFr_mono F fun k a w => ⟨by omega, w.2⟩) (bkFr_trans (by rw [g1]; exact bkFr_up (bkFr_refl _ _) ⟨by omega, rfl⟩) (bkFr_mono G fun k a w => ⟨by omega, w.2⟩))
    have f10 : P14 10 0 = M14 10 0 := by rw [G 10 0 (by omega), g1, bk_up_f (by decide)]
    have f53 : P14 53 0 = M14 53 0 := by rw [G 53 0 (by omega), g1, bk_up_f (by decide)]
    refine ⟨by rw [s14, u14], bkInv_tp h FF (fun j q0 q1 => by rw [o14 j q1, o11 j q1, o8 j q1, o5 j q1, o2 j q1, g1, bk_up_s q0, F 12 0 (by omega)]) ⟨by rw [f53, q14, p14], by rw [f10, s14, u14], by rw [f10, s14]; omega, ?_, fun w hw => by rw [FF 54 0 (by omega)]; exact t5 w hw⟩⟩
    rw [f53, q14]
    exact bkAd_0 (bkAd_0 (bkAd_0 (bkAd_0 (bkAd_0 t4))))
  · rw [E_147]
    intro N1 g1
    rw [show N1 12 0 2 = s by rw [g1, bk_up_s (by decide)]; exact t2.symm]
    exact ⟨by unfold bk_r32; omega, fun q => absurd q (by omega), fun _ => ⟨rfl, rfl, by rw [g1]; exact bkInv_q h bkQt_mark⟩⟩
theorem T1 (n : Int) : bkStp 3 149 [bk_i n] := fun d M h => by
  obtain ⟨t1, t2, t3, t4, t5⟩ := id (bkInv_tap h)
  have no : (n < 0 ∨ ¬ n ≤ M 10 0 1) → bk_C (d + 60) 0 149 [bk_c 12 0, bk_i n] M (fun t2 r2 M2 => t2 = 0 ∧ (0 : Int) = r2 ∧ bkInv M2) := fun z => by
    rw [E_149]
    intro N1 g1
    have iq : bkInv N1 := by rw [g1]; exact bkInv_q h bkQt_mark
    rw [show N1 12 0 2 = M 10 0 1 by rw [g1, bk_up_s (by decide)]; exact t2.symm]
    exact ⟨fun _ => ⟨.inl rfl, rfl, rfl, iq⟩, fun w => ⟨fun q => absurd z (by omega), fun _ => ⟨.inl rfl, rfl, rfl, iq⟩⟩⟩
  rw [E_3]
  refine ⟨fun z => ⟨.inl rfl, rfl, no (.inl z)⟩, fun z => ⟨fun z2 M1 e1 => ⟨.inr rfl, rfl, ?_⟩, fun z2 => ⟨.inl rfl, rfl, no (.inr z2)⟩⟩⟩
  rw [E_149]
  intro N1 g1
  rw [show N1 12 0 2 = M 10 0 1 by rw [g1, bk_up_s (by decide), e1, bk_up_k (by decide)]; exact t2.symm]
  refine ⟨fun q => absurd q z, fun _ => ⟨fun _ N2 g2 => ⟨.inr rfl, rfl, rfl, ?_⟩, fun q => absurd z2 q⟩⟩
  have FF : bkFr (fun k a => (k = 10 ∨ k = 12 ∨ k = 53 ∨ k = 57) ∧ a = 0) M N2 := by
    rw [g2, g1, e1]
    exact bkFr_up (bkFr_up (bkFr_up (bkFr_refl _ _) ⟨by omega, rfl⟩) ⟨by omega, rfl⟩) ⟨by omega, rfl⟩
  have o : ∀ k a, k ≠ 10 → k ≠ 12 → N2 k a = M k a := fun k a w1 w2 => by rw [g2, bk_up_f w2, g1, bk_up_f w2, e1, bk_up_f w1]
  have u10 : N2 10 0 1 = n := by rw [g2, bk_up_k (by decide), g1, bk_up_k (by decide), e1, bk_up_e]
  exact bkInv_tp h FF (fun j q0 q2 => by rw [g2, bk_up_s q2, g1, bk_up_s q0, e1, bk_up_k (by decide)]) ⟨by rw [o 53 0 (by decide) (by decide), o 57 0 (by decide) (by decide)]; exact t1, by rw [u10, g2, bk_up_e], by rw [u10]; omega, by rw [o 53 0 (by decide) (by decide)]; exact t4, fun w hw => by rw [o 54 0 (by decide) (by decide)]; exact t5 w hw⟩
