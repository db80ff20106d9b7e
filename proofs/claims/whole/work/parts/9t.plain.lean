/-! plain. -/
theorem T2 : bkStp 4 159 [] := fun d M h => by
  have hid := bkIds_p h.1
  have hA := h.2.2.2.1
  obtain ⟨t1, t2, t3, t4, t5⟩ := id (bkInv_tap h)
  unfold bkNowI at hA
  have hh := bkInv_his h
  refine bk_use (S4c (d := d + 52) (T := M 53 0) (c := M 10 0 1) rfl rfl t3 t5 ⟨by omega, by omega⟩) (fun r M1 hM1 => ⟨rfl, ?_⟩)
  generalize hp : (M 11 0 1).toNat = p at *
  generalize hs : (M 11 0 7).toNat = s at *
  generalize hu : (M 11 0 2).toNat = u at *
  obtain ⟨z1, c1, c2⟩ := hM1
  have F1 : bkFr (fun k a => bkCa u k a ∨ (k = 11 ∧ a = 0) ∨ ((k = 8 ∨ k = 45 ∨ k = 46 ∨ k = 47 ∨ k = 48) ∧ a = 0) ∨ (k = 3 ∧ a = 0) ∨ (k = 9 ∧ a = s)) M M1 := by
    rcases eO : bkTx (M 53 0) (M 10 0 1) 900 900 0 bkS0 0 with ⟨w, q⟩ | ⟨n, S⟩
    · exact bkFr_mono (c1 w q eO).2.2.2 fun k a z => z.elim .inl fun z => .inr (.inl z)
    · exact (c2 n S eO).2.2.2.2.2.2.2.2.2.2.2.2
  have f57 : M1 57 0 = M 53 0 := by rw [F1 57 0 (by unfold bkCa; omega)]; exact t1.symm
  have f12 : ∀ j, M1 12 0 j = M 12 0 j := fun j => by rw [F1 12 0 (by unfold bkCa; omega)]
  refine bk_use (S159d (d := d + 52) (T := M 53 0) (c := M 10 0 1) f57 (by rw [f12]; exact t2.symm) t3) (fun r2 Y hY => ⟨rfl, ?_⟩)
  obtain ⟨y0, y2, o2, d1, d2⟩ := hY
  have y12 : ∀ j, ((14 ≤ j ∧ j ≠ 25 ∧ j ≠ 26) ∨ j = 1) → Y 12 0 j = M 12 0 j := fun j hj => by rw [o2 j hj, f12]
  have F2 : bkFr (fun k a => bkFa k a ∨ ((k = 58 ∨ k = 63 ∨ k = 69 ∨ k = 70 ∨ k = 71) ∧ a = 0)) M1 Y := by
    rcases eO : bkTx (M 53 0) (M 10 0 1) 900 900 0 bkS0 0 with ⟨w, q⟩ | ⟨n, S⟩
    · exact bkFr_mono (d1 w q eO).2.2.2 fun k a z => .inl z
    · exact (d2 n S eO).2.2.2.2.2.2.2.2.2
  have uY : ∀ k a, ¬ (k = 10 ∨ k = 6 ∨ k = 11 ∨ k = 8 ∨ (45 ≤ k ∧ k ≤ 48) ∨ k = 3 ∨ (k = 9 ∧ a = s) ∨ k = 12 ∨ k = 59 ∨ k = 64 ∨ k = 67 ∨ k = 68 ∨ k = 58 ∨ k = 63 ∨ (69 ≤ k ∧ k ≤ 71)) → ¬ (bkPk k ∧ a = u) → Y k a = M k a := fun k a w w2 => by
    unfold bkPk at w2
    rw [F2 k a (by unfold bkFa; omega), F1 k a (by unfold bkCa; omega)]
  have y11 : ∀ j, Y 11 0 j = M1 11 0 j := fun j => by rw [F2 11 0 (by unfold bkFa; omega)]
  have ob : ∀ i, (i = 1 ∨ i = 2 ∨ i = 4 ∨ i = 7 ∨ i = 20 ∨ i = 21 ∨ i = 26 ∨ (40 ≤ i ∧ i ≤ 42) ∨ (49 ≤ i ∧ i ≤ 57) ∨ (60 ≤ i ∧ i ≤ 62) ∨ i = 65 ∨ i = 66 ∨ (72 ≤ i ∧ i ≤ 84)) → ∀ a, Y i a = M i a := fun i hi a => uY i a (by omega) (by unfold bkPk; omega)
  have pl : ∀ i b, bkPk i → b ≠ u → Y i b = M i b := fun i b hi hb => by
    unfold bkPk at hi
    exact uY i b (by omega) (by omega)
  have sk : ∀ i b, bkSk i → b ≠ s → Y i b = M i b := fun i b hi hb => by
    unfold bkSk at hi
    exact uY i b (by omega) (by unfold bkPk; omega)
  have tap : bkTap Y := bkTap_0 (bkInv_tap h) (ob _ (by omega) 0) (ob _ (by omega) 0) (ob _ (by omega) 0) (by rw [F2 10 0 (by unfold bkFa; omega), z1]) y2
  have im0 : bkImg Y 0 := bkImg_e h.2.2.2.2.2.1 (fun i hi => pl i _ hi (by omega)) (fun i hi => sk i _ hi (by omega)) (by rw [ob 4 (by omega)]) (by rw [ob 66 (by omega)]) (ob _ (by omega) 0) (ob _ (by omega) 0)
  have im1 : bkImg Y 1 := bkImg_e h.2.2.2.2.2.2.1 (fun i hi => pl i _ hi (by omega)) (fun i hi => sk i _ hi (by omega)) (by rw [ob 4 (by omega)]) (by rw [ob 66 (by omega)]) (ob _ (by omega) 0) (ob _ (by omega) 0)
  have res : Y 11 0 15 = M 11 0 15 → bkRes Y := fun e15 => by
    obtain ⟨r1, r2, r3, r4, r5, r6⟩ := bkInv_res' h
    exact ⟨bkR1_e r1 (by rw [ob 7 (by omega)]) (y12 _ (by omega)) (ob _ (by omega) 0) (ob _ (by omega) 0), bkR2_e r2 (by rw [ob 7 (by omega)]) (y12 _ (by omega)) (ob _ (by omega) 0) (ob _ (by omega) 0), bkR3_e r3 (by rw [ob 7 (by omega)]) (y12 _ (by omega)) (ob _ (by omega) 0) (ob _ (by omega) 0), bkR4_e r4 (by rw [ob 1 (by omega)]) (y12 _ (by omega)) (ob _ (by omega) 0) (ob _ (by omega) 0) (ob _ (by omega) 0) (ob _ (by omega) 0), bkR5_e r5 (by rw [ob 2 (by omega)]) (y12 _ (by omega)) (ob _ (by omega) 0) (ob _ (by omega) 0), bkR6_e r6 e15 (y12 _ (by omega)) (ob _ (by omega) 0) (ob _ (by omega) 0)⟩
  rcases eO : bkTx (M 53 0) (M 10 0 1) 900 900 0 bkS0 0 with ⟨w, q⟩ | ⟨n, S⟩
  · obtain ⟨a1, a2, a3, a4⟩ := c1 w q eO
    obtain ⟨b1, b2, b3, b4⟩ := d1 w q eO
    have v11 : ∀ j, j ≠ 16 → Y 11 0 j = M 11 0 j := fun j hj => by rw [y11, a3 j hj]
    have f58 : Y 58 0 = M 58 0 := by rw [b4 58 0 (by unfold bkFa; omega), a4 58 0 (by unfold bkCa; omega)]
    have f63 : Y 63 0 = M 63 0 := by rw [b4 63 0 (by unfold bkFa; omega), a4 63 0 (by unfold bkCa; omega)]
    have f3 : Y 3 0 = M 3 0 := by rw [b4 3 0 (by unfold bkFa; omega), a4 3 0 (by unfold bkCa; omega)]
    have f69 : Y 69 0 = M 69 0 := by rw [b4 69 0 (by unfold bkFa; omega), a4 69 0 (by unfold bkCa; omega)]
    have fs : ∀ i, bkSk i → Y i s = M i s := fun i hi => by
      unfold bkSk at hi
      rw [b4 i s (by unfold bkFa; omega), a4 i s (by unfold bkCa; omega)]
    refine ⟨by rw [a1, b1], ?_, tap, by rw [y11, a2, b2], ?_, ?_, im0, im1, res (v11 15 (by decide)), by have := bkInv_icy h; unfold bkIcy; rw [f69]; exact this⟩
    · unfold bkIds; rw [v11 1 (by decide), v11 2 (by decide), v11 7 (by decide), v11 8 (by decide)]; exact h.1
    · unfold bkNowI
      rw [v11 1 (by decide), v11 7 (by decide), hp, hs]
      exact bkAllP_e hA (fun i hi => pl i p hi (by omega)) fs f63 f58
    · rw [v11 1 (by decide), hp]
      exact bkHis_e hh (fun i b hi b0 b1 => pl i b hi (by omega)) (fun g _ => by rw [pl 33 p (.inr (by omega)) (by omega)]) (fun g _ => by rw [pl 36 p (.inr (by omega)) (by omega)]) f3 (ob _ (by omega) 0) (by rw [b3, f12]) (fun q _ => by rw [f58])
  · obtain ⟨a1, a2, a3, a4, a5, a6, a6', a7, a8, a9, ⟨M2, P2, g2⟩, a10, -⟩ := c2 n S eO
    obtain ⟨b1, b2, b3, b4, b5, b6, b7, b8, b9, -⟩ := d2 n S eO
    have v11 : ∀ j, j ≠ 1 → j ≠ 2 → j ≠ 16 → Y 11 0 j = M 11 0 j := fun j h1 h2 h3 => by rw [y11, a5 j h1 h2 h3]
    have v1 : Y 11 0 1 = M 11 0 2 := by rw [y11, a3]
    have v2 : Y 11 0 2 = M 11 0 1 := by rw [y11, a4]
    have f3 : ∀ j, Y 3 0 j = M1 3 0 j := fun j => by rw [F2 3 0 (by unfold bkFa; omega)]
    have fu : ∀ i, bkPk i → Y i u = M1 i u := fun i hi => by unfold bkPk at hi; exact F2 i u (by unfold bkFa; omega)
    have fs9 : Y 9 s = M1 9 s := F2 9 s (by unfold bkFa; omega)
    have s0 := a9.2.2.1
    have s1 := a9.2.2.2.1
    have sf := a9.2.2.2.2.2.2.2.2.2.1
    have sm := a9.2.2.2.2.2.2.2.2.2.2.1
    have R : bkRel Y u (Y 58 0) := bkRdP_rel (B := fun y => bkBd (fun c => S (6 + c)) (S 2) (S 3) (S 4) y) P2 a9 (fun k k1 k2 => by rw [fu k k2, g2 k k1 k2]) (fun y y0 y1 => by rw [fu 29 (.inr (by omega))]; exact a10 y y0 y1) b5 b6
    have n0 : Y 58 0 0 = S 0 := by rw [b5 0 (by decide) (by decide) (by decide), bkSR_a (by decide)]
    have n1 : Y 58 0 1 = S 1 := by rw [b5 1 (by decide) (by decide) (by decide), bkSR_a (by decide)]
    have n195 : Y 58 0 195 = 0 := by rw [b5 195 (by decide) (by decide) (by decide), bkSR_z (by omega)]
    refine ⟨by rw [a1, b1], ?_, tap, by rw [y11, a2, b2], ?_, ?_, im0, im1, res (v11 15 (by decide) (by decide) (by decide)), b7⟩
    · unfold bkIds; rw [v1, v2, v11 7 (by decide) (by decide) (by decide), v11 8 (by decide) (by decide) (by decide)]; have := h.1; unfold bkIds at this; omega
    · unfold bkNowI
      rw [v1, v11 7 (by decide) (by decide) (by decide), hs, hu]
      refine ⟨R, ⟨fun j hj => ?_, fun j hj => ?_⟩, .inl ⟨by rw [fs9]; exact a7, n195⟩⟩
      · rw [n0] at hj
        have e : Y 33 u j = S (200 + j) := by rw [fu 33 (.inr (by omega)), g2 33 (by decide) (.inr (by omega))]; exact (P2.2.2.2.2.1 j (by omega) hj).2.2.2
        rw [e]
        exact ⟨(sf j (by omega) hj).2.2.2.2.2.2, b8 j (by omega) hj⟩
      · rw [n1] at hj
        have e : Y 36 u j = S (210 + j) := by rw [fu 36 (.inr (by omega)), g2 36 (by decide) (.inr (by omega))]; exact (P2.2.2.2.2.2 j (by omega) hj).2.2
        rw [e]
        exact ⟨(sm j (by omega) hj).2.2.2.2, b9 j (by omega) hj⟩
    · rw [v1, hu]
      refine ⟨by rw [f3, a6]; omega, by rw [f3, a6' 1 (by decide)]; exact hh.2.1, by rw [b3, f3, a6], fun j j1 j2 => ?_⟩
      rw [f3, a6] at j2
      omega
