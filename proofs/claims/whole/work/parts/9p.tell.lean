/-! Calls that keep what they told: tempted, duel, pushed, ran, deed; and the tape. -/
def bkRsK (k : Nat) : Prop := k = 1 ∨ k = 2 ∨ k = 20 ∨ k = 21 ∨ k = 26 ∨ (40 ≤ k ∧ k ≤ 42) ∨ k = 56 ∨ k = 73 ∨ k = 74 ∨ k = 76 ∨ k = 78 ∨ k = 79 ∨ k = 82 ∨ k = 84
theorem bkInv_res {M Y : bk_M} (h : bkInv M) (hY : ∀ k a, bkQk k a → ¬ bkRsK k → k ≠ 53 → k ≠ 57 → Y k a = M k a) (hT : bkTap Y) (h10 : Y 12 0 10 = M 12 0 10) (h25 : Y 12 0 25 = M 12 0 25) (hR : bkRes Y) (hi : bkIcy Y) : bkInv Y := by
  obtain ⟨h1, h2, h3, h4, h5, h6, h7, h8, h9⟩ := h
  have hid := bkIds_p h1
  have e11 : Y 11 0 = M 11 0 := hY 11 0 (by unfold bkQk; omega) (by unfold bkRsK; omega) (by decide) (by decide)
  have e58 : Y 58 0 = M 58 0 := hY 58 0 (by unfold bkQk; omega) (by unfold bkRsK; omega) (by decide) (by decide)
  have ep : ∀ k a, bkPk k → a ≠ 2 → Y k a = M k a := fun k a hk ha => by
    unfold bkPk at hk
    exact hY k a (by unfold bkQk; omega) (by unfold bkRsK; omega) (by omega) (by omega)
  have es : ∀ k a, bkSk k → Y k a = M k a := fun k a hk => by
    unfold bkSk at hk
    exact hY k a (by unfold bkQk; omega) (by unfold bkRsK; omega) (by omega) (by omega)
  have o : ∀ k a, (k = 3 ∨ k = 4 ∨ k = 60 ∨ k = 61 ∨ k = 63 ∨ k = 65 ∨ k = 66) → Y k a = M k a := fun k a hk => hY k a (by unfold bkQk; omega) (by unfold bkRsK; omega) (by omega) (by omega)
  refine ⟨by unfold bkIds; rw [e11]; exact h1, hT, by rw [e11, h10]; exact h3, ?_, ?_, ?_, ?_, hR, hi⟩
  · unfold bkNowI
    rw [e11]
    exact bkAllP_e h4 (fun k hk => ep k _ hk (by omega)) (fun k hk => es k _ hk) (o _ _ (by omega)) e58
  · rw [e11]
    exact bkHis_e h5 (fun k a hk a0 a1 => ep k a hk (by omega)) (fun g _ => by rw [ep 33 _ (.inr (by omega)) (by omega)]) (fun g _ => by rw [ep 36 _ (.inr (by omega)) (by omega)]) (o _ _ (by omega)) (o _ _ (by omega)) h25 (fun q _ => by rw [e58])
  · exact bkImg_e h6 (fun k hk => ep k _ hk (by omega)) (fun k hk => es k _ hk) (by rw [o 4 0 (by omega)]) (by rw [o 66 0 (by omega)]) (o _ _ (by omega)) (o _ _ (by omega))
  · exact bkImg_e h7 (fun k hk => ep k _ hk (by omega)) (fun k hk => es k _ hk) (by rw [o 4 1 (by omega)]) (by rw [o 66 0 (by omega)]) (o _ _ (by omega)) (o _ _ (by omega))
theorem bkInv_tap {M : bk_M} (h : bkInv M) : bkTap M := h.2.1
theorem bkInv_res' {M : bk_M} (h : bkInv M) : bkRes M := h.2.2.2.2.2.2.2.1
theorem bkTempK_2 {o : Option (List Int)} {n n' m m' : Int} {T T' U U' : Int → Int} (h : bkTempK o n T n' T') (g : bkTempK o m U m' U') (hb : n = m ∧ (0 ≤ m ∧ m ≤ 3) ∧ ∀ k, 0 ≤ k → k < m → T k = U k) : n' = m' ∧ (0 ≤ m' ∧ m' ≤ 3) ∧ ∀ k, 0 ≤ k → k < m' → T' k = U' k := by
  cases o with
  | none =>
    obtain ⟨h1, h2⟩ := h
    obtain ⟨g1, g2⟩ := g
    rw [h1, h2, g1, g2]; exact hb
  | some l =>
    obtain ⟨h0, h1, h2⟩ := h
    obtain ⟨g0, g1, g2⟩ := g
    refine ⟨by rw [h1, g1], by omega, fun k k0 k1 => ?_⟩
    have a := h2 k.toNat (by omega)
    have b := g2 k.toNat (by omega)
    rw [Int.toNat_of_nonneg k0] at a b
    rw [a, b]
theorem T20 (f s u : Int) : bkStp 76 231 [bk_i f, bk_i s, bk_i u] := fun d M h => by
  refine bk_use (S76 (d := d + 51) (bkInv_R h) rfl) (fun r M1 hM1 => ⟨rfl, ?_⟩)
  obtain ⟨F, o, er, k⟩ := hM1
  have u1 : ∀ k a, (12 ≤ k ∨ k = 10) → k ≠ 40 → k ≠ 43 → k ≠ 44 → k ≠ 45 → k ≠ 46 → k ≠ 47 → k ≠ 48 → M1 k a = M k a := fun k a w1 w2 w3 w4 w5 w6 w7 w8 => F k a (by unfold bkA78; omega)
  have e58 : M1 58 0 = M 58 0 := u1 58 0 (by omega) (by decide) (by decide) (by decide) (by decide) (by decide) (by decide) (by decide)
  refine bk_use (S231 (d := d + 50) (f := f) (s := s) (u := u) (by rw [e58]; exact bkInv_md h) (fun c c0 c1 => by rw [u1 69 0 (by omega) (by decide) (by decide) (by decide) (by decide) (by decide) (by decide) (by decide)]; exact bkInv_icy h c c0 c1)) (fun r2 M2 hM2 => ⟨rfl, ?_⟩)
  obtain ⟨F2, q58, o2, er2, k2⟩ := hM2
  rw [e58] at er2 k2 q58
  rw [u1 12 0 (by omega) (by decide) (by decide) (by decide) (by decide) (by decide) (by decide) (by decide), u1 73 0 (by omega) (by decide) (by decide) (by decide) (by decide) (by decide) (by decide) (by decide)] at k2
  have e12 : ∀ j, j ≠ 0 → j ≠ 33 → M2 12 0 j = M 12 0 j := fun j q1 q2 => by rw [o2 j q1 q2, u1 12 0 (by omega) (by decide) (by decide) (by decide) (by decide) (by decide) (by decide) (by decide)]
  have e : ∀ k a, bkQk k a ∨ (k = 10 ∧ a = 0) → k ≠ 40 → k ≠ 73 → M2 k a = M k a := fun k a q w1 w2 => by
    unfold bkQk at q
    by_cases z : k = 58
    · by_cases za : a = 0
      · rw [z, za]; exact q58
      · rw [F2 k a (by unfold bkA231; omega), F k a (by unfold bkA78; omega)]
    · rw [F2 k a (by unfold bkA231; omega), F k a (by unfold bkA78; omega)]
  have r7 : ∀ j, M2 7 0 j = M1 7 0 j := fun j => by rw [F2 7 0 (by unfold bkA231; omega)]
  obtain ⟨r1, r2', r3, r4, r5, r6⟩ := bkInv_res' h
  refine ⟨er.trans er2.symm, bkInv_res h (fun k a q w _ _ => e k a (.inl q) (by unfold bkRsK at w; omega) (by unfold bkRsK at w; omega)) (bkTap_e (bkInv_tap h) (e _ _ (by unfold bkQk; omega) (by decide) (by decide)) (e _ _ (by unfold bkQk; omega) (by decide) (by decide)) (e _ _ (by unfold bkQk; omega) (by decide) (by decide)) (by rw [e 10 0 (by omega) (by decide) (by decide)]) (e12 2 (by decide) (by decide))) (e12 _ (by decide) (by decide)) (e12 _ (by decide) (by decide)) ⟨?_, ?_, ?_, ?_, ?_, ?_⟩ ?_⟩
  · have := bkTempK_2 k k2 r1
    unfold bkR1
    rw [r7, F2 40 0 (by unfold bkA231; omega)]
    exact this
  · exact bkR2_e r2' (by rw [r7, o 3 (by decide) (by decide) (by decide) (by decide)]) (e12 _ (by decide) (by decide)) (e _ _ (by unfold bkQk; omega) (by decide) (by decide)) (e _ _ (by unfold bkQk; omega) (by decide) (by decide))
  · exact bkR3_e r3 (by rw [r7, o 5 (by decide) (by decide) (by decide) (by decide)]) (e12 _ (by decide) (by decide)) (e _ _ (by unfold bkQk; omega) (by decide) (by decide)) (e _ _ (by unfold bkQk; omega) (by decide) (by decide))
  · exact bkR4_e r4 (by rw [e 1 0 (by unfold bkQk; omega) (by decide) (by decide)]) (e12 _ (by decide) (by decide)) (e _ _ (by unfold bkQk; omega) (by decide) (by decide)) (e _ _ (by unfold bkQk; omega) (by decide) (by decide)) (e _ _ (by unfold bkQk; omega) (by decide) (by decide)) (e _ _ (by unfold bkQk; omega) (by decide) (by decide))
  · exact bkR5_e r5 (by rw [e 2 0 (by unfold bkQk; omega) (by decide) (by decide)]) (e12 _ (by decide) (by decide)) (e _ _ (by unfold bkQk; omega) (by decide) (by decide)) (e _ _ (by unfold bkQk; omega) (by decide) (by decide))
  · exact bkR6_e r6 (by rw [e 11 0 (by unfold bkQk; omega) (by decide) (by decide)]) (e12 _ (by decide) (by decide)) (e _ _ (by unfold bkQk; omega) (by decide) (by decide)) (e _ _ (by unfold bkQk; omega) (by decide) (by decide))
  · have := bkInv_icy h
    unfold bkIcy
    rw [F2 69 0 (by unfold bkA231; omega), u1 69 0 (by omega) (by decide) (by decide) (by decide) (by decide) (by decide) (by decide) (by decide)]
    exact this
theorem bkPushK_2 {N : Int → Int} {s c : Int} {n n' m m' : Int} {T T' U U' : Int → Int} (h : bkPushK N s c n T n' T') (g : bkPushK N s c m U m' U') (hb : n = m ∧ (0 ≤ m ∧ m ≤ 2) ∧ ∀ k, 0 ≤ k → k < m → T k = U k) : n' = m' ∧ (0 ≤ m' ∧ m' ≤ 2) ∧ ∀ k, 0 ≤ k → k < m' → T' k = U' k := by
  unfold bkPushK at h g
  by_cases z : 0 ≤ s ∧ s ≤ 1 ∧ 0 ≤ c ∧ c ≤ 2
  · rw [if_pos z] at h g
    obtain ⟨h0, h1, h2⟩ := h
    obtain ⟨g0, g1, g2⟩ := g
    refine ⟨by rw [h1, g1], by omega, fun k k0 k1 => ?_⟩
    have a := h2 k.toNat (by omega)
    have b := g2 k.toNat (by omega)
    rw [Int.toNat_of_nonneg k0] at a b
    rw [a, b]
  · rw [if_neg z] at h g
    rw [h.1, h.2, g.1, g.2]; exact hb
theorem T24 (s n : Int) : bkStp 86 240 [bk_i s, bk_i n] := fun d M h => by
  refine bk_use (S86 (d := d + 55) (bkInv_R h) rfl) (fun r M1 hM1 => ⟨rfl, ?_⟩)
  obtain ⟨F, o, er, k⟩ := hM1
  have e58 : M1 58 0 = M 58 0 := F 58 0 (by unfold bkA88; omega)
  refine bk_use (S240 (d := d + 50) (s := s) (n := n) (by rw [e58]; exact bkInv_md h) (fun c c0 c1 => by rw [F 69 0 (by unfold bkA88; omega)]; exact bkInv_icy h c c0 c1)) (fun r2 M2 hM2 => ⟨rfl, ?_⟩)
  obtain ⟨F2, q58, o2, er2, k2⟩ := hM2
  rw [e58] at er2 k2 q58
  rw [F 12 0 (by unfold bkA88; omega), F 76 0 (by unfold bkA88; omega)] at k2
  have e12 : ∀ j, j ≠ 0 → j ≠ 39 → j ≠ 40 → M2 12 0 j = M 12 0 j := fun j q1 q2 q3 => by rw [o2 j q1 q2 q3, F 12 0 (by unfold bkA88; omega)]
  have e : ∀ k a, bkQk k a ∨ (k = 10 ∧ a = 0) → k ≠ 42 → k ≠ 76 → M2 k a = M k a := fun k a q w1 w2 => by
    unfold bkQk at q
    by_cases z : k = 58
    · by_cases za : a = 0
      · rw [z, za]; exact q58
      · rw [F2 k a (by unfold bkA241; omega), F k a (by unfold bkA88; omega)]
    · rw [F2 k a (by unfold bkA241; omega), F k a (by unfold bkA88; omega)]
  have r7 : ∀ j, M2 7 0 j = M1 7 0 j := fun j => by rw [F2 7 0 (by unfold bkA241; omega)]
  obtain ⟨r1, r2', r3, r4, r5, r6⟩ := bkInv_res' h
  refine ⟨er.trans er2.symm, bkInv_res h (fun k a q w _ _ => e k a (.inl q) (by unfold bkRsK at w; omega) (by unfold bkRsK at w; omega)) (bkTap_e (bkInv_tap h) (e _ _ (by unfold bkQk; omega) (by decide) (by decide)) (e _ _ (by unfold bkQk; omega) (by decide) (by decide)) (e _ _ (by unfold bkQk; omega) (by decide) (by decide)) (by rw [e 10 0 (by omega) (by decide) (by decide)]) (e12 2 (by decide) (by decide) (by decide))) (e12 _ (by decide) (by decide) (by decide)) (e12 _ (by decide) (by decide) (by decide)) ⟨?_, ?_, ?_, ?_, ?_, ?_⟩ ?_⟩
  · exact bkR1_e r1 (by rw [r7, o 1 (by decide) (by decide) (by decide)]) (e12 _ (by decide) (by decide) (by decide)) (e _ _ (by unfold bkQk; omega) (by decide) (by decide)) (e _ _ (by unfold bkQk; omega) (by decide) (by decide))
  · exact bkR2_e r2' (by rw [r7, o 3 (by decide) (by decide) (by decide)]) (e12 _ (by decide) (by decide) (by decide)) (e _ _ (by unfold bkQk; omega) (by decide) (by decide)) (e _ _ (by unfold bkQk; omega) (by decide) (by decide))
  · have := bkPushK_2 k k2 r3
    unfold bkR3
    rw [r7, F2 42 0 (by unfold bkA241; omega)]
    exact this
  · exact bkR4_e r4 (by rw [e 1 0 (by unfold bkQk; omega) (by decide) (by decide)]) (e12 _ (by decide) (by decide) (by decide)) (e _ _ (by unfold bkQk; omega) (by decide) (by decide)) (e _ _ (by unfold bkQk; omega) (by decide) (by decide)) (e _ _ (by unfold bkQk; omega) (by decide) (by decide)) (e _ _ (by unfold bkQk; omega) (by decide) (by decide))
  · exact bkR5_e r5 (by rw [e 2 0 (by unfold bkQk; omega) (by decide) (by decide)]) (e12 _ (by decide) (by decide) (by decide)) (e _ _ (by unfold bkQk; omega) (by decide) (by decide)) (e _ _ (by unfold bkQk; omega) (by decide) (by decide))
  · exact bkR6_e r6 (by rw [e 11 0 (by unfold bkQk; omega) (by decide) (by decide)]) (e12 _ (by decide) (by decide) (by decide)) (e _ _ (by unfold bkQk; omega) (by decide) (by decide)) (e _ _ (by unfold bkQk; omega) (by decide) (by decide))
  · have := bkInv_icy h
    unfold bkIcy
    rw [F2 69 0 (by unfold bkA241; omega), F 69 0 (by unfold bkA88; omega)]
    exact this
theorem bkRanK_2 {N T : Int → Int} {c n n' m m' : Int} {A A' B B' C C' D D' : Int → Int} (h : bkRanK N T c n A B n' A' B') (g : bkRanK N T c m C D m' C' D') (hN : 2 ≤ N 3 ∧ N 3 ≤ 6) (hb : n = m ∧ (0 ≤ m ∧ m ≤ 6) ∧ ∀ k, 0 ≤ k → k < m → A k = C k ∧ B k = D k) : n' = m' ∧ (0 ≤ m' ∧ m' ≤ 6) ∧ ∀ k, 0 ≤ k → k < m' → A' k = C' k ∧ B' k = D' k := by
  have old : (¬ bkRanOk N T c ∨ bkAll N T c = []) → n' = m' ∧ (0 ≤ m' ∧ m' ≤ 6) ∧ ∀ k, 0 ≤ k → k < m' → A' k = C' k ∧ B' k = D' k := fun z => by
    obtain ⟨h1, h2, h3⟩ := h.2 z
    obtain ⟨g1, g2, g3⟩ := g.2 z
    rw [h1, h2, h3, g1, g2, g3]; exact hb
  rcases bkRanOk_dec N T c with z | z
  · rcases e : bkAll N T c with _ | ⟨b, Y⟩
    · exact old (.inr e)
    · obtain ⟨h1, h2⟩ := h.1 z b Y e
      obtain ⟨g1, g2⟩ := g.1 z b Y e
      refine ⟨by rw [h1, g1], by omega, fun k k0 k1 => ?_⟩
      have a := h2 k.toNat (by omega)
      have b := g2 k.toNat (by omega)
      rw [Int.toNat_of_nonneg k0] at a b
      rw [a.1, a.2, b.1, b.2]
      exact ⟨rfl, rfl⟩
  · exact old (.inl z)
theorem bkRanR_2 {N T : Int → Int} {c r s : Int} (h : bkRanR N T c r) (g : bkRanR N T c s) : r = s := by
  rcases bkRanOk_dec N T c with z | z
  · rw [h.1 z, g.1 z]
  · rw [h.2 z, g.2 z]
theorem T28 : bkStp 93 247 [] := fun d M h => by
  have hN := bkInv_md h
  obtain ⟨t1, t2, t3, t4, t5⟩ := id (bkInv_tap h)
  refine bk_use (S93 (d := d + 56) (T := M 53 0) (bkInv_R h) rfl rfl (fun j _ _ => ⟨rfl, t4 j⟩)) (fun r M1 hM1 => ⟨rfl, ?_⟩)
  obtain ⟨F, o, z1, er, k⟩ := hM1
  refine bk_use (S247 (d := d + 48) (T := M 53 0) hN (F 58 0 (by unfold bkA93; omega)) (by rw [F 57 0 (by unfold bkA93; omega)]; exact t1.symm) rfl (by rw [F 12 0 (by unfold bkA93; omega), ← t2]; exact t3) (fun j _ _ => t4 j)) (fun r2 M2 hM2 => ⟨rfl, ?_⟩)
  obtain ⟨F2, o2, z2, er2, k2⟩ := hM2
  rw [F 12 0 (by unfold bkA93; omega), ← t2] at er2 k2
  rw [F 78 0 (by unfold bkA93; omega), F 79 0 (by unfold bkA93; omega)] at k2
  have e12 : ∀ j, j ≠ 0 → j ≠ 2 → j ≠ 44 → j ≠ 45 → M2 12 0 j = M 12 0 j := fun j q1 q2 q3 q4 => by rw [o2 j q1 q2 q3 q4, F 12 0 (by unfold bkA93; omega)]
  have e : ∀ k a, bkQk k a ∨ (k = 7 ∧ a = 0) → k ≠ 1 → k ≠ 20 → k ≠ 21 → k ≠ 78 → k ≠ 79 → M2 k a = M k a := fun k a q w1 w2 w3 w4 w5 => by
    unfold bkQk at q
    rw [F2 k a (by unfold bkA247; omega), F k a (by unfold bkA93; omega)]
  obtain ⟨r1, r2', r3, r4, r5, r6⟩ := bkInv_res' h
  have e7 := e 7 0 (by omega) (by decide) (by decide) (by decide) (by decide) (by decide)
  refine ⟨bkRanR_2 er er2, bkInv_res h (fun k a q w _ _ => e k a (.inl q) (by unfold bkRsK at w; omega) (by unfold bkRsK at w; omega) (by unfold bkRsK at w; omega) (by unfold bkRsK at w; omega) (by unfold bkRsK at w; omega)) (bkTap_0 (bkInv_tap h) (e _ _ (by unfold bkQk; omega) (by decide) (by decide) (by decide) (by decide) (by decide)) (e _ _ (by unfold bkQk; omega) (by decide) (by decide) (by decide) (by decide) (by decide)) (e _ _ (by unfold bkQk; omega) (by decide) (by decide) (by decide) (by decide) (by decide)) (by rw [F2 10 0 (by unfold bkA247; omega), z1]) z2) (e12 _ (by decide) (by decide) (by decide) (by decide)) (e12 _ (by decide) (by decide) (by decide) (by decide)) ⟨?_, ?_, ?_, ?_, ?_, ?_⟩ ?_⟩
  · exact bkR1_e r1 (by rw [e7]) (e12 _ (by decide) (by decide) (by decide) (by decide)) (e _ _ (by unfold bkQk; omega) (by decide) (by decide) (by decide) (by decide) (by decide)) (e _ _ (by unfold bkQk; omega) (by decide) (by decide) (by decide) (by decide) (by decide))
  · exact bkR2_e r2' (by rw [e7]) (e12 _ (by decide) (by decide) (by decide) (by decide)) (e _ _ (by unfold bkQk; omega) (by decide) (by decide) (by decide) (by decide) (by decide)) (e _ _ (by unfold bkQk; omega) (by decide) (by decide) (by decide) (by decide) (by decide))
  · exact bkR3_e r3 (by rw [e7]) (e12 _ (by decide) (by decide) (by decide) (by decide)) (e _ _ (by unfold bkQk; omega) (by decide) (by decide) (by decide) (by decide) (by decide)) (e _ _ (by unfold bkQk; omega) (by decide) (by decide) (by decide) (by decide) (by decide))
  · have := bkRanK_2 k k2 hN.2.1 r4
    unfold bkR4
    rw [F2 1 0 (by unfold bkA247; omega), F2 20 0 (by unfold bkA247; omega), F2 21 0 (by unfold bkA247; omega)]
    exact this
  · exact bkR5_e r5 (by rw [e 2 0 (by unfold bkQk; omega) (by decide) (by decide) (by decide) (by decide) (by decide)]) (e12 _ (by decide) (by decide) (by decide) (by decide)) (e _ _ (by unfold bkQk; omega) (by decide) (by decide) (by decide) (by decide) (by decide)) (e _ _ (by unfold bkQk; omega) (by decide) (by decide) (by decide) (by decide) (by decide))
  · exact bkR6_e r6 (by rw [e 11 0 (by unfold bkQk; omega) (by decide) (by decide) (by decide) (by decide) (by decide)]) (e12 _ (by decide) (by decide) (by decide) (by decide)) (e _ _ (by unfold bkQk; omega) (by decide) (by decide) (by decide) (by decide) (by decide)) (e _ _ (by unfold bkQk; omega) (by decide) (by decide) (by decide) (by decide) (by decide))
  · have := bkInv_icy h
    unfold bkIcy
    rw [F2 69 0 (by unfold bkA247; omega), F 69 0 (by unfold bkA93; omega)]
    exact this
theorem bkWr_2 {g g' : Int → Int} {A : List Int} (h : bkWr g A) (h' : bkWr g' A) : ∀ k, 0 ≤ k → k < (A.length : Int) → g k = g' k := fun k k0 k1 => by
  have a := h k.toNat (by omega)
  have b := h' k.toNat (by omega)
  rw [Int.toNat_of_nonneg k0] at a b
  rw [a, b]
theorem bkInv_nmF {M M1 : bk_M} (h : bkInv M) (h63 : M1 63 0 = M 63 0) (h58 : M1 58 0 = M 58 0) : bkNmF M1 (M 33 (M 11 0 1).toNat) (M 58 0 0).toNat := by
  have hn := h.2.2.2.1.2.1.1
  have n0 := (bkInv_md h).2.2.2.2.1
  unfold bkNmF
  rw [h63, h58]
  refine ⟨fun j hj => ?_, by omega⟩
  rw [Int.zero_add]
  exact hn j (by omega)
theorem T33 (f : Int) : bkStp 105 253 [bk_i f] := fun d M h => by
  have hN := bkInv_md h
  have n0 := hN.2.2.2.2.1
  have hn := h.2.2.2.1.2.1.1
  refine bk_use (S105c (d := d + 56) (f := f) (bkInv_R h) rfl (fun g g0 g1 => by have := (hn g.toNat (by omega)).1.2.2; rwa [Int.toNat_of_nonneg g0] at this)) (fun r M1 hM1 => ⟨rfl, ?_⟩)
  obtain ⟨c1, c2⟩ := hM1
  have F : bkDc M M1 := by
    by_cases z : 0 ≤ f ∧ f < M 58 0 0
    · exact (c2 z).2.2
    · rw [(c1 z).2]; exact bkFr_refl _ _
  have e58 : M1 58 0 = M 58 0 := F 58 0 (by omega)
  refine bk_use (S253c (d := d + 49) (f := f) (nm := M 33 (M 11 0 1).toNat) (m := (M 58 0 0).toNat) (by rw [e58]; exact hN) (bkInv_nmF h (F 63 0 (by omega)) e58)) (fun r2 M2 hM2 => ⟨rfl, ?_⟩)
  obtain ⟨z0, o2, F2, d1, d2⟩ := hM2
  rw [e58] at d1 d2
  have e12 : ∀ j, j ≠ 0 → j ≠ 49 → M2 12 0 j = M 12 0 j := fun j q1 q2 => by rw [o2 j q1 q2, F 12 0 (by omega)]
  have e : ∀ k a, bkQk k a ∨ ((k = 7 ∨ k = 10) ∧ a = 0) → k ≠ 2 → k ≠ 26 → k ≠ 82 → M2 k a = M k a := fun k a q w1 w2 w3 => by
    unfold bkQk at q
    rw [F2 k a (by omega), F k a (by omega)]
  have e7 := e 7 0 (by omega) (by decide) (by decide) (by decide)
  obtain ⟨r1, r2', r3, r4, r5, r6⟩ := bkInv_res' h
  have hl := bkDeed_l (M 58 0) (M 33 (M 11 0 1).toNat f) f
  refine ⟨?_, bkInv_res h (fun k a q w _ _ => e k a (.inl q) (by unfold bkRsK at w; omega) (by unfold bkRsK at w; omega) (by unfold bkRsK at w; omega)) (bkTap_e (bkInv_tap h) (e _ _ (by unfold bkQk; omega) (by decide) (by decide) (by decide)) (e _ _ (by unfold bkQk; omega) (by decide) (by decide) (by decide)) (e _ _ (by unfold bkQk; omega) (by decide) (by decide) (by decide)) (by rw [e 10 0 (by omega) (by decide) (by decide) (by decide)]) (e12 2 (by decide) (by decide))) (e12 _ (by decide) (by decide)) (e12 _ (by decide) (by decide)) ⟨?_, ?_, ?_, ?_, ?_, ?_⟩ ?_⟩
  · by_cases z : 0 ≤ f ∧ f < M 58 0 0
    · rw [(c2 z).1, (d2 z).1]
    · rw [(c1 z).1, (d1 z).1]
  · exact bkR1_e r1 (by rw [e7]) (e12 _ (by decide) (by decide)) (e _ _ (by unfold bkQk; omega) (by decide) (by decide) (by decide)) (e _ _ (by unfold bkQk; omega) (by decide) (by decide) (by decide))
  · exact bkR2_e r2' (by rw [e7]) (e12 _ (by decide) (by decide)) (e _ _ (by unfold bkQk; omega) (by decide) (by decide) (by decide)) (e _ _ (by unfold bkQk; omega) (by decide) (by decide) (by decide))
  · exact bkR3_e r3 (by rw [e7]) (e12 _ (by decide) (by decide)) (e _ _ (by unfold bkQk; omega) (by decide) (by decide) (by decide)) (e _ _ (by unfold bkQk; omega) (by decide) (by decide) (by decide))
  · exact bkR4_e r4 (by rw [e 1 0 (by unfold bkQk; omega) (by decide) (by decide) (by decide)]) (e12 _ (by decide) (by decide)) (e _ _ (by unfold bkQk; omega) (by decide) (by decide) (by decide)) (e _ _ (by unfold bkQk; omega) (by decide) (by decide) (by decide)) (e _ _ (by unfold bkQk; omega) (by decide) (by decide) (by decide)) (e _ _ (by unfold bkQk; omega) (by decide) (by decide) (by decide))
  · have f2 : M2 2 0 = M1 2 0 := F2 2 0 (by omega)
    have f26 : M2 26 0 = M1 26 0 := F2 26 0 (by omega)
    by_cases z : 0 ≤ f ∧ f < M 58 0 0
    · obtain ⟨-, ⟨a1, a2⟩, -⟩ := c2 z
      obtain ⟨-, b1, b2⟩ := d2 z
      unfold bkR5
      rw [f2, f26, a1, b1]
      exact ⟨rfl, by omega, bkWr_2 a2 b2⟩
    · have q1 := (c1 z).2
      obtain ⟨-, q2, q3⟩ := d1 z
      refine bkR5_e r5 (by rw [f2, q1]) (by rw [q2, q1]) (by rw [f26, q1]) (by rw [q3, q1])
  · exact bkR6_e r6 (by rw [e 11 0 (by unfold bkQk; omega) (by decide) (by decide) (by decide)]) (e12 _ (by decide) (by decide)) (e _ _ (by unfold bkQk; omega) (by decide) (by decide) (by decide)) (e _ _ (by unfold bkQk; omega) (by decide) (by decide) (by decide))
  · have := bkInv_icy h
    unfold bkIcy
    rw [F2 69 0 (by omega), F 69 0 (by omega)]
    exact this
