/-! Acts: spring, years, undo. -/
theorem T14 (x : Int) : bkStp 64 218 [bk_i x] := fun d M h => by
  have hid := bkIds_p h.1
  have hh := bkInv_his h
  have hR := bkInv_R h
  have hN := bkInv_md h
  have n7 := hN.2.2.2.2.2.2.1
  generalize hp : (M 11 0 1).toNat = p at *
  have e17 : M 5 p 17 = M 58 0 80 := hR.2.2.1
  rw [E_64, hp, e17]
  refine ⟨fun z => ?_, fun z => ⟨rfl, ?_⟩⟩
  · rw [S57 (d := d + 57) (by omega) hh.1 hh.2.1]
    refine ⟨rfl, fun M4 e4 => ?_⟩
    have k4 : ∀ k a, k ≠ 8 → M4 k a = bkKeep M p k a := fun k a q => by rw [e4, bk_up_f q]
    have e11 : M4 11 0 = M 11 0 := by rw [k4 11 0 (by decide), bkKeep_oo (by decide) (.inr (by unfold bkPk; omega))]
    rw [e11, hp]
    have R4 : bkRel M4 p (M 58 0) := bkRel_fr hR fun k hk => by rw [k4 k p (by omega), bkKeep_oo (by omega) (.inl (by omega))]
    refine bk_use (S65 (d := d + 55) R4 z (by rw [e4, bk_up_e])) (fun r M6 hM6 => ⟨rfl, rfl, ?_⟩)
    obtain ⟨F6, R6, er, -⟩ := hM6
    have f6 : ∀ k a, k ≠ 3 → ¬ bkPk k → ¬ (k = 8 ∨ k = 45 ∨ k = 46 ∨ k = 47 ∨ k = 48) → M6 k a = M k a := fun k a w1 w2 w3 => by
      unfold bkPk at w2
      rw [F6 k a (by unfold bkA65; omega), k4 k a (by omega), bkKeep_oo w1 (.inr (by unfold bkPk; omega))]
    rw [E_218]
    intro N1 g1
    have g58 : N1 58 0 = M 58 0 := by rw [g1, bk_up_f (by decide), f6 58 0 (by decide) (by unfold bkPk; omega) (by decide)]
    rw [g58]
    refine ⟨by omega, fun _ => ?_, fun q => absurd (show M 58 0 80 ≠ 400 by omega) q⟩
    have g12 : ∀ j, j ≠ 0 → N1 12 0 j = M 12 0 j := fun j q => by rw [g1, bk_up_s q, f6 12 0 (by decide) (by unfold bkPk; omega) (by decide)]
    rw [S213 (d := d + 58) (by rw [g12 25 (by decide)]; exact bkInv_25 h)]
    refine ⟨rfl, fun N5 g5 => ?_⟩
    have s58 : N5 58 0 = M 58 0 := by
      rw [g5, bk_up_f (by decide)]
      funext c
      rw [bkSnap_o (by decide) (by omega), g58]
    refine bk_use (S219 (d := d + 53) (s := x) (by rw [s58]; exact hN) (by rw [s58]; exact z) (by rw [g5, bk_up_e])) (fun r2 N7 hN7 => ⟨rfl, rfl, ?_⟩)
    obtain ⟨F7, e7, er2, o7, -, i7⟩ := hN7
    rw [s58] at e7 er2
    have fin : ∀ k a, k ≠ 58 → k ≠ 61 → ¬ ((k = 12 ∨ k = 69 ∨ k = 70 ∨ k = 71) ∧ a = 0) → k ≠ 12 → N7 k a = M6 k a := fun k a w1 w2 w3 w4 => by
      rw [F7 k a (by unfold bkA219; omega), g5, bk_up_f w4]
      funext c
      rw [bkSnap_o w2 (by omega), g1, bk_up_k w4]
    refine ⟨er.trans er2.symm, bkInv_keep h hp (fun k a q w1 w2 w3 => ?_) (fun j _ => ?_) (fun j _ => ?_) ?_ ?_ (fun j q q2 => ?_) ?_ (fun j hj => ?_) i7⟩
    · unfold bkQk at q
      unfold bkPk at w3
      rw [fin k a w1 w2 (by omega) (by omega), F6 k a (by unfold bkA65; omega), k4 k a (by omega)]
    · rw [fin 33 p (by decide) (by decide) (by omega) (by decide), F6 33 p (by unfold bkA65; omega), k4 33 p (by decide), bkKeep_oo (by decide) (.inl (by omega))]
    · rw [fin 36 p (by decide) (by decide) (by omega) (by decide), F6 36 p (by unfold bkA65; omega), k4 36 p (by decide), bkKeep_oo (by decide) (.inl (by omega))]
    · rw [F7 61 0 (by unfold bkA219; omega), g5, bk_up_f (by decide)]
      funext c
      unfold bkSnap
      rw [if_pos ⟨rfl, rfl⟩, bkSn_congr (g12 25 (by decide)) (by rw [g1, bk_up_f (by decide), f6 61 0 (by decide) (by unfold bkPk; omega) (by decide)]) g58]
    · rw [o7 25 (by decide), g5, bk_up_s (by decide)]
      unfold bkSnap
      rw [if_neg (by decide), if_pos ⟨rfl, rfl, rfl⟩, g12 25 (by decide)]
    · unfold bkQj at q
      rw [o7 j (by omega), g5, bk_up_s (by omega), bkSnap_o (by decide) (by omega), g12 j (by omega)]
    · rw [e7]
      exact bkRel_fr R6 fun k hk => fin k p (by omega) (by omega) (by omega) (by omega)
    · rw [e7, bkSpr_lo hN x hj]
  · rw [E_218]
    intro N1 g1
    have g58 : N1 58 0 = M 58 0 := by rw [g1, bk_up_f (by decide)]
    rw [g58]
    exact ⟨by omega, fun q => absurd (show M 58 0 80 = 400 by omega) q, fun _ => ⟨rfl, rfl, by rw [g1]; exact bkInv_q h bkQt_mark⟩⟩
theorem T15 (n x : Int) : bkStp 69 224 [bk_i n, bk_i x] := fun d M h => by
  have hid := bkIds_p h.1
  have hh := bkInv_his h
  have hR := bkInv_R h
  have hN := bkInv_md h
  have n7 := hN.2.2.2.2.2.2.1
  -- where nothing comes
  have no : ∀ v : Int, (1 ≤ n ∧ n ≤ 30 → M 58 0 80 = 400 ∧ v = 0) → (¬ (1 ≤ n ∧ n ≤ 30) → v = -1) → bk_C (d + 60) 0 224 [bk_c 12 0, bk_i n, bk_i x] M (fun t2 r2 M2 => t2 = 0 ∧ v = r2 ∧ bkInv M2) := fun v v1 v2 => by
    rw [E_224]
    intro N1 g1
    have g58 : N1 58 0 = M 58 0 := by rw [g1, bk_up_f (by decide)]
    have iq : bkInv N1 := by rw [g1]; exact bkInv_q h bkQt_mark
    rw [S157 (d := d + 58)]
    by_cases z : 1 ≤ n ∧ n ≤ 30
    · rw [if_pos z, g58]
      exact ⟨rfl, fun _ => ⟨by omega, fun q => absurd (v1 z).1 q, fun _ => ⟨rfl, (v1 z).2, iq⟩⟩, fun q => absurd (show (1 : Int) ≠ 0 by decide) q⟩
    · rw [if_neg z]
      exact ⟨rfl, fun q => absurd rfl q, fun _ => ⟨rfl, v2 z, iq⟩⟩
  generalize hp : (M 11 0 1).toNat = p at *
  have e17 : M 5 p 17 = M 58 0 80 := hR.2.2.1
  rw [E_69, hp, e17]
  refine ⟨fun z0 => ⟨rfl, no _ (fun q => by omega) (fun _ => rfl)⟩, fun z0 => ⟨fun z1 => ⟨fun z => ?_, fun z => ⟨rfl, no _ (fun _ => ⟨by omega, rfl⟩) (fun q => absurd (show 1 ≤ n ∧ n ≤ 30 by omega) q)⟩⟩, fun z1 => ⟨rfl, no _ (fun q => by omega) (fun _ => rfl)⟩⟩⟩
  rw [S57 (d := d + 57) (by omega) hh.1 hh.2.1]
  refine ⟨rfl, fun M4 e4 => ?_⟩
  have k4 : ∀ k a, k ≠ 8 → M4 k a = bkKeep M p k a := fun k a q => by rw [e4, bk_up_f q]
  have e11 : M4 11 0 = M 11 0 := by rw [k4 11 0 (by decide), bkKeep_oo (by decide) (.inr (by unfold bkPk; omega))]
  rw [e11, hp]
  have R4 : bkRel M4 p (M 58 0) := bkRel_fr hR fun k hk => by rw [k4 k p (by omega), bkKeep_oo (by omega) (.inl (by omega))]
  refine bk_use (S70 (d := d + 54) (n := n) R4 (by omega) (by rw [e4, bk_up_e])) (fun r M6 hM6 => ⟨rfl, rfl, ?_⟩)
  obtain ⟨F6, R6, er, -⟩ := hM6
  have f6 : ∀ k a, k ≠ 3 → ¬ bkPk k → ¬ (k = 8 ∨ k = 45 ∨ k = 46 ∨ k = 47 ∨ k = 48) → M6 k a = M k a := fun k a w1 w2 w3 => by
    unfold bkPk at w2
    rw [F6 k a (by unfold bkA65; omega), k4 k a (by omega), bkKeep_oo w1 (.inr (by unfold bkPk; omega))]
  rw [E_224]
  intro N1 g1
  have g58 : N1 58 0 = M 58 0 := by rw [g1, bk_up_f (by decide), f6 58 0 (by decide) (by unfold bkPk; omega) (by decide)]
  rw [S157 (d := d + 58), if_pos (show 1 ≤ n ∧ n ≤ 30 by omega), g58]
  refine ⟨rfl, fun _ => ⟨by omega, fun _ => ?_, fun q => absurd (show M 58 0 80 ≠ 400 by omega) q⟩, fun q => absurd (show (1 : Int) ≠ 0 by decide) q⟩
  have g12 : ∀ j, j ≠ 0 → N1 12 0 j = M 12 0 j := fun j q => by rw [g1, bk_up_s q, f6 12 0 (by decide) (by unfold bkPk; omega) (by decide)]
  rw [S213 (d := d + 58) (by rw [g12 25 (by decide)]; exact bkInv_25 h)]
  refine ⟨rfl, ?_⟩
  have s58 : bkSnap N1 58 0 = M 58 0 := by
    funext c
    rw [bkSnap_o (by decide) (by omega), g58]
  have si : ∀ c, 0 ≤ c → c < 36 → bkSnap N1 69 0 c = 0 := fun c c0 c1 => by
    rw [bkSnap_o (by decide) (by omega), g1, bk_up_f (by decide), f6 69 0 (by decide) (by unfold bkPk; omega) (by decide)]
    exact bkInv_icy h c c0 c1
  refine bk_use (S225 (d := d + 52) (s := x) (n := n) (by rw [s58]; exact hN) (by omega) si) (fun r2 N7 hN7 => ⟨rfl, rfl, ?_⟩)
  obtain ⟨F7, e7, er2, o7, i7⟩ := hN7
  rw [s58] at e7 er2
  have fin : ∀ k a, k ≠ 58 → k ≠ 61 → ¬ ((k = 12 ∨ k = 69 ∨ k = 70 ∨ k = 71) ∧ a = 0) → k ≠ 12 → N7 k a = M6 k a := fun k a w1 w2 w3 w4 => by
    rw [F7 k a (by unfold bkA219; omega)]
    funext c
    rw [bkSnap_o w2 (by omega), g1, bk_up_k w4]
  have yl := (bkYrN_b hN x (bkCm (M 58 0) n).toNat (by unfold bkCm; split <;> omega)).2.2
  refine ⟨er.trans er2.symm, bkInv_keep h hp (fun k a q w1 w2 w3 => ?_) (fun j _ => ?_) (fun j _ => ?_) ?_ ?_ (fun j q q2 => ?_) ?_ (fun j hj => ?_) i7⟩
  · unfold bkQk at q
    unfold bkPk at w3
    rw [fin k a w1 w2 (by omega) (by omega), F6 k a (by unfold bkA65; omega), k4 k a (by omega)]
  · rw [fin 33 p (by decide) (by decide) (by omega) (by decide), F6 33 p (by unfold bkA65; omega), k4 33 p (by decide), bkKeep_oo (by decide) (.inl (by omega))]
  · rw [fin 36 p (by decide) (by decide) (by omega) (by decide), F6 36 p (by unfold bkA65; omega), k4 36 p (by decide), bkKeep_oo (by decide) (.inl (by omega))]
  · rw [F7 61 0 (by unfold bkA219; omega)]
    funext c
    unfold bkSnap
    rw [if_pos ⟨rfl, rfl⟩, bkSn_congr (g12 25 (by decide)) (by rw [g1, bk_up_f (by decide), f6 61 0 (by decide) (by unfold bkPk; omega) (by decide)]) g58]
  · rw [o7 25 (by decide)]
    unfold bkSnap
    rw [if_neg (by decide), if_pos ⟨rfl, rfl, rfl⟩, g12 25 (by decide)]
  · unfold bkQj at q
    rw [o7 j (by omega), bkSnap_o (by decide) (by omega), g12 j (by omega)]
  · rw [e7]
    exact bkRel_fr R6 fun k hk => fin k p (by omega) (by omega) (by omega) (by omega)
  · rw [e7, yl j hj]
/-- another plain is now, or another sentence; all else stays -/
theorem bkInv_put {M Y : bk_M} {p s : Nat} (h : bkInv M) (hp : (M 11 0 1).toNat = p) (hs : (M 11 0 7).toNat = s) (hY : ∀ k a, bkQk k a ∨ ((k = 10 ∨ k = 7) ∧ a = 0) → k ≠ 58 → k ≠ 61 → k ≠ 3 → k ≠ 63 → ¬ (bkPk k ∧ (a = p ∨ (3 ≤ a ∧ a ≤ 10))) → ¬ (bkSk k ∧ a = s) → Y k a = M k a) (h12 : ∀ j, bkQj j → j ≠ 25 → Y 12 0 j = M 12 0 j) (hN : bkAllP Y p s (Y 63 0) (Y 58 0)) (hH : bkHis Y p) (hi : bkIcy Y) : bkInv Y := by
  obtain ⟨h1, h2, h3, h4, h5, h6, h7, h8, h9⟩ := h
  have hid := bkIds_p h1
  have eo : ∀ k a, bkQk k a ∨ ((k = 10 ∨ k = 7) ∧ a = 0) → k ≠ 58 → k ≠ 61 → k ≠ 3 → k ≠ 63 → ¬ bkPk k → ¬ bkSk k → Y k a = M k a := fun k a q w1 w2 w3 w4 w5 w6 => hY k a q w1 w2 w3 w4 (fun z => w5 z.1) (fun z => w6 z.1)
  have o : ∀ k a, (k = 1 ∨ k = 2 ∨ k = 4 ∨ k = 11 ∨ k = 20 ∨ k = 21 ∨ k = 26 ∨ (40 ≤ k ∧ k ≤ 42) ∨ k = 53 ∨ k = 54 ∨ (56 ≤ k ∧ k ≤ 57) ∨ k = 60 ∨ k = 65 ∨ k = 66 ∨ k = 73 ∨ k = 74 ∨ k = 76 ∨ k = 78 ∨ k = 79 ∨ k = 82 ∨ k = 84) → Y k a = M k a := fun k a hk => eo k a (.inl (by unfold bkQk; omega)) (by omega) (by omega) (by omega) (by omega) (by unfold bkPk; omega) (by unfold bkSk; omega)
  have e11 : Y 11 0 = M 11 0 := o 11 0 (by omega)
  have e10 : Y 10 0 = M 10 0 := eo 10 0 (by omega) (by decide) (by decide) (by decide) (by decide) (by unfold bkPk; omega) (by unfold bkSk; omega)
  have e7 : Y 7 0 = M 7 0 := eo 7 0 (by omega) (by decide) (by decide) (by decide) (by decide) (by unfold bkPk; omega) (by unfold bkSk; omega)
  have ep : ∀ k a, bkPk k → 11 ≤ a → Y k a = M k a := fun k a hk ha => by
    unfold bkPk at hk
    exact hY k a (by unfold bkQk; omega) (by omega) (by omega) (by omega) (by omega) (by omega) (by unfold bkSk; omega)
  have es : ∀ k a, bkSk k → 2 ≤ a → Y k a = M k a := fun k a hk ha => by
    unfold bkSk at hk
    exact hY k a (by unfold bkQk; omega) (by omega) (by omega) (by omega) (by omega) (by unfold bkPk; omega) (by omega)
  refine ⟨by unfold bkIds; rw [e11]; exact h1, bkTap_e h2 (o _ _ (by omega)) (o _ _ (by omega)) (o _ _ (by omega)) (by rw [e10]) (h12 2 (by unfold bkQj; omega) (by decide)), by rw [e11, h12 10 (by unfold bkQj; omega) (by decide)]; exact h3, ?_, ?_, ?_, ?_, ?_, hi⟩
  · unfold bkNowI
    rw [e11, hp, hs]
    exact hN
  · rw [e11, hp]; exact hH
  · exact bkImg_e h6 (fun k hk => ep k _ hk (by omega)) (fun k hk => es k _ hk (by omega)) (by rw [o 4 0 (by omega)]) (by rw [o 66 0 (by omega)]) (o _ _ (by omega)) (o _ _ (by omega))
  · exact bkImg_e h7 (fun k hk => ep k _ hk (by omega)) (fun k hk => es k _ hk (by omega)) (by rw [o 4 1 (by omega)]) (by rw [o 66 0 (by omega)]) (o _ _ (by omega)) (o _ _ (by omega))
  · obtain ⟨r1, r2, r3, r4, r5, r6⟩ := h8
    exact ⟨bkR1_e r1 (by rw [e7]) (h12 _ (by unfold bkQj; omega) (by decide)) (o _ _ (by omega)) (o _ _ (by omega)), bkR2_e r2 (by rw [e7]) (h12 _ (by unfold bkQj; omega) (by decide)) (o _ _ (by omega)) (o _ _ (by omega)), bkR3_e r3 (by rw [e7]) (h12 _ (by unfold bkQj; omega) (by decide)) (o _ _ (by omega)) (o _ _ (by omega)), bkR4_e r4 (by rw [o 1 0 (by omega)]) (h12 _ (by unfold bkQj; omega) (by decide)) (o _ _ (by omega)) (o _ _ (by omega)) (o _ _ (by omega)) (o _ _ (by omega)), bkR5_e r5 (by rw [o 2 0 (by omega)]) (h12 _ (by unfold bkQj; omega) (by decide)) (o _ _ (by omega)) (o _ _ (by omega)), bkR6_e r6 (by rw [e11]) (h12 _ (by unfold bkQj; omega) (by decide)) (o _ _ (by omega)) (o _ _ (by omega))⟩
theorem T16 : bkStp 71 217 [] := fun d M h => by
  have hid := bkIds_p h.1
  obtain ⟨a1, a2, a3, a4⟩ := id (bkInv_his h)
  have hA := h.2.2.2.1
  unfold bkNowI at hA
  have hN := bkInv_md h
  have n0 := hN.2.2.2.2.1
  have n1 := hN.2.2.2.2.2.1
  generalize hp : (M 11 0 1).toNat = p at *
  generalize hs : (M 11 0 7).toNat = s at *
  rw [E_71, hp]
  refine ⟨fun z => ?_, fun z => ⟨rfl, ?_⟩⟩
  · rw [E_72]
    refine ⟨fun q => absurd q (by omega), fun _ => ⟨by unfold bk_r32; omega, by unfold bk_r32; omega, by omega, fun M1 e1 => ?_⟩⟩
    have m0 : M1 3 0 0 = M 3 0 0 := by rw [e1, bk_up_s (by decide)]
    rw [m0]
    refine ⟨by unfold bk_r32; omega, fun M2 e2 => ?_⟩
    have m1 : M2 3 0 1 = (M 3 0 1 + 8 - 1) % 8 := by rw [e2, bk_up_s (by decide), e1, bk_up_e]
    have m00 : M2 3 0 0 = M 3 0 0 - 1 := by rw [e2, bk_up_e]
    rw [m1]
    have si : 3 + ((M 3 0 1 + 8 - 1) % 8).toNat = 3 + ((M 3 0 1).toNat + 8 - 1) % 8 := by omega
    rw [si]
    have sl := a4 1 (by decide) (by omega)
    generalize hz : 3 + ((M 3 0 1).toNat + 8 - 1) % 8 = zz at *
    have zb : 3 ≤ zz ∧ zz ≤ 10 := by omega
    refine ⟨by omega, (S58 (d := d + 57) (by omega)).2 ⟨rfl, rfl, rfl, ?_⟩⟩
    have u2 : ∀ k a, k ≠ 3 → M2 k a = M k a := fun k a q => by rw [e2, bk_up_f q, e1, bk_up_f q]
    have cf := bkCopy_fr M2 p zz
    have c3 : ∀ j, bkCopy M2 p zz 3 0 j = M2 3 0 j := fun j => by rw [cf 3 0 (by unfold bkACopy; omega)]
    have RC : bkRel (bkCopy M2 p zz) p (bkRowS (M 58 0) (M 61 0) (115 * (M 3 0 0 - 1))) := bkRel_copy (bkRel_fr sl.1 fun k hk => u2 k zz (by omega))
    have c33 : ∀ j : Nat, (j : Int) < M 58 0 0 → bkCopy M2 p zz 33 p j = M 33 p j := fun j hj => by
      rw [bkCopy_a (by decide) (by omega) (by unfold bkLenP; simp; omega), u2 33 zz (by decide), sl.2.1 j hj]
    have c36 : ∀ j : Nat, (j : Int) < M 58 0 1 → bkCopy M2 p zz 36 p j = M 36 p j := fun j hj => by
      rw [bkCopy_a (by decide) (by omega) (by unfold bkLenP; simp; omega), u2 36 zz (by decide), sl.2.2 j hj]
    rw [c3, m00]
    generalize hC : bkCopy M2 p zz = C at *
    have uC : ∀ k a, k ≠ 3 → ¬ (bkPk k ∧ a = p) → C k a = M k a := fun k a w1 w2 => by
      rw [cf k a (by unfold bkACopy; unfold bkPk at w2; exact w2), u2 k a w1]
    rw [E_217]
    intro N1 g1
    have g12 : ∀ j, j ≠ 0 → N1 12 0 j = M 12 0 j := fun j q => by rw [g1, bk_up_s q, uC 12 0 (by decide) (by unfold bkPk; omega)]
    rw [g12 25 (by decide), a3]
    refine ⟨fun _ => ⟨by unfold bk_r32; omega, fun N2 g2 => ?_⟩, fun q => absurd z q⟩
    have h12 : ∀ j, j ≠ 0 → j ≠ 25 → N2 12 0 j = M 12 0 j := fun j q1 q2 => by rw [g2, bk_up_s q2, g12 j q1]
    have h25 : N2 12 0 25 = M 3 0 0 - 1 := by rw [g2, bk_up_e]
    have uN : ∀ k a, k ≠ 12 → N2 k a = C k a := fun k a q => by rw [g2, bk_up_f q, g1, bk_up_f q]
    have r58 : N2 58 0 = M 58 0 := by rw [uN 58 0 (by decide), uC 58 0 (by decide) (by unfold bkPk; omega)]
    have r61 : N2 61 0 = M 61 0 := by rw [uN 61 0 (by decide), uC 61 0 (by decide) (by unfold bkPk; omega)]
    refine bk_loopS (W := fun k M' => bk_wp (bk_C (d + 59)) P_217 _ 0 26 [bk_c 12 0, bk_i k] [] M') (s := 0) (n := 115) (fun k M' => bkFr (fun k a => k = 58 ∧ a = 0) N2 M' ∧ ∀ q, M' 58 0 q = if 80 ≤ q ∧ q < 80 + k then M 61 0 (115 * (M 3 0 0 - 1) + (q - 80)) else M 58 0 q) (by decide) ?_ ?_ ⟨bkFr_refl _ _, fun q => by rw [if_neg (by omega), r58]⟩
    · rintro k M' k0 k1 ⟨F, V⟩ ih
      have f25 : M' 12 0 25 = M 3 0 0 - 1 := by rw [F 12 0 (by omega), h25]
      rw [L_217_26, f25]
      unfold bk_r32
      refine ⟨fun q => absurd q (by omega), fun _ => ⟨by omega, by omega, by omega, by omega, by omega, fun P1 f1 => ⟨by omega, ih P1 ⟨?_, fun q => ?_⟩⟩⟩⟩
      · exact bkFr_trans F (by rw [f1]; exact bkFr_up (bkFr_refl _ _) ⟨rfl, rfl⟩)
      · rw [f1, F 61 0 (by omega), r61]
        by_cases w : q = 80 + k
        · rw [w, bk_up_e, if_pos (by omega), show 80 + k - 80 = k by omega]
        · rw [bk_up_s w, V q]
          by_cases w2 : 80 ≤ q ∧ q < 80 + k
          · rw [if_pos w2, if_pos (by omega)]
          · rw [if_neg w2, if_neg (by omega)]
    · rintro M' ⟨F, V⟩
      have f25 : M' 12 0 25 = M 3 0 0 - 1 := by rw [F 12 0 (by omega), h25]
      have v58 : M' 58 0 = bkRowS (M 58 0) (M 61 0) (115 * (M 3 0 0 - 1)) := by
        funext q
        rw [V q]
        unfold bkRowS
        by_cases w : 80 ≤ q ∧ q < 195
        · rw [if_pos w, if_pos (by omega)]
        · rw [if_neg w, if_neg (by omega)]
      have lo : ∀ q, (q < 80 ∨ 195 ≤ q) → M' 58 0 q = M 58 0 q := fun q hq => by rw [v58, bkRowS_o (by omega)]
      have fC : ∀ k a, k ≠ 12 → k ≠ 58 → M' k a = C k a := fun k a w1 w2 => by rw [F k a (by omega), uN k a w1]
      rw [L_217_26, f25]
      refine ⟨fun _ => ⟨rfl, rfl, bkInv_put h hp hs (fun k a q w1 w2 w3 w4 w5 w6 => ?_) (fun j q q2 => ?_) ⟨?_, ?_, ?_⟩ ?_ ?_⟩, fun q => absurd (by decide) q⟩
      · unfold bkQk at q
        rw [fC k a (by omega) w1, uC k a w3 (fun q => w5 ⟨q.1, .inl q.2⟩)]
      · rw [F 12 0 (by omega), h12 j (by unfold bkQj at q; omega) q2]
      · rw [v58]
        exact bkRel_fr RC fun k hk => fC k p (by omega) (by omega)
      · refine bkNam_e hA.2.1 (fun j hj => ?_) (fun j hj => ?_) ?_ (lo 0 (by omega)) (lo 1 (by omega))
        · rw [fC 33 p (by decide) (by decide)]; exact c33 j hj
        · rw [fC 36 p (by decide) (by decide)]; exact c36 j hj
        · rw [fC 63 0 (by decide) (by decide), uC 63 0 (by decide) (by unfold bkPk; omega)]
      · exact bkSayI_e hA.2.2 (fun k hk => by unfold bkSk at hk; rw [fC k s (by omega) (by omega), uC k s (by omega) (by unfold bkPk; omega)]) (fun q hq => lo q (by omega)) (lo 0 (by omega))
      · have q30 : M' 3 0 0 = M 3 0 0 - 1 := by rw [fC 3 0 (by decide) (by decide), c3, m00]
        have q31 : M' 3 0 1 = (M 3 0 1 + 8 - 1) % 8 := by rw [fC 3 0 (by decide) (by decide), c3, m1]
        unfold bkHis
        rw [q30, q31, f25]
        refine ⟨by omega, by omega, rfl, fun j j1 j2 => bkSlot_e (a4 (j + 1) (by omega) (by omega)) (by omega) (fun k hk => ?_) (fun q q0 q1 => ?_) (fun q hq => lo q (by omega)) (fun g hg => ?_) (fun g hg => ?_)⟩
        · rw [fC k _ (by unfold bkPk at hk; omega) (by unfold bkPk at hk; omega), uC k _ (by unfold bkPk at hk; omega) (by omega)]
        · rw [fC 61 0 (by decide) (by decide), uC 61 0 (by decide) (by unfold bkPk; omega)]
          congr 1
          omega
        · rw [fC 33 p (by decide) (by decide)]; exact c33 g hg
        · rw [fC 36 p (by decide) (by decide)]; exact c36 g hg
      · have := bkInv_icy h
        unfold bkIcy
        rw [fC 69 0 (by decide) (by decide), uC 69 0 (by decide) (by unfold bkPk; omega)]
        exact this
  · have z : M 3 0 0 = 0 := Decidable.not_not.1 z
    rw [E_217]
    intro N1 g1
    rw [show N1 12 0 25 = 0 by rw [g1, bk_up_s (by decide), a3, z]]
    exact ⟨fun q => absurd rfl q, fun _ => ⟨rfl, rfl, by rw [g1]; exact bkInv_q h bkQt_mark⟩⟩
