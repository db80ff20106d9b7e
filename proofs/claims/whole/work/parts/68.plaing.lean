theorem bkTk_s {T : Int → Int} {c L i : Int} (h : bkTk T c L i = 2) : bkNv (bkTw 32 T c i) := (bkTw_v h).1
theorem S22c {d p : Nat} {M : bk_M} {T : Int → Int} {c L i : Int} {S : Int → Int} (h : bkCt M T c L) (hx : M 10 0 10 = i) (h0 : 0 ≤ i ∧ i ≤ c) (hS : bkSv S) (hR : bkRdC M p S) : bk_C (d + 5) 0 22 [bk_c 6 0, bk_c 10 0, bk_c 5 p] M (fun t r M' => t = 0 ∧ bkPo p M r M' (bkLField T c L S i (M 10 0 11))) := by
  have s0 := hS.2.2.1
  have s1 := hS.2.2.2.1
  have s2 := hS.1
  have s3 := hS.2.1
  have hn := @bkTn_b T c L i h0.2
  have hn2 := @bkTn_b T c L (bkTn T c L i) hn.2
  have hn3 := @bkTn_b T c L (bkTn T c L (bkTn T c L i)) hn2.2
  obtain ⟨⟨p1, p2, p3, p4, p5, p6, p7⟩, P2, P3, P4, P5, P6⟩ := hR.1
  rw [E_22, p5]
  refine ⟨fun z => ?_, fun z => bk16 (O := bkLField T c L S i (M 10 0 11)) (a := 4) (by unfold bkLField; rw [if_pos (by omega)]) (bkCp_refl M) rfl⟩
  have z10 : ¬ 10 ≤ S 0 := by omega
  refine bk23 h hx h0 hS hR.1 (fun w q M' e f e6 e7 => ⟨rfl, fun w => absurd rfl w, fun _ => ⟨.inl rfl, rfl, bkPo_l (by unfold bkLField; rw [if_neg z10]; exact e _) (bkCp_c f) rfl e6 e7⟩⟩) (fun M2 eN t2 f K e6 => ⟨rfl, fun _ => ⟨by omega, fun M4 e4 => ?_⟩, fun w => absurd (by decide) w⟩)
  rw [(K.2.2.2.1 t2).1] at e4
  have f4 : bkCp p M M4 := by rw [e4]; exact bkCp_trans (bkCp_c f) (bkCp_up (by unfold bkCa; omega) (by decide))
  have g5 : M4 5 p = M 5 p := by rw [e4, bk_up_f (by decide), f.1 5 p (by omega)]
  refine bk19 (bkCt_p h f4) (i := bkTn T c L i) (by rw [e4, bk_up_k (by decide)]; exact K.2.1) (by omega) hS (by rw [g5]; exact ⟨p1, p2⟩) (fun w q M' e f' e6' e7' => ⟨rfl, fun w => absurd rfl w, fun _ => ⟨.inl rfl, rfl, bkPo_l (by unfold bkLField; rw [if_neg z10, eN]; exact e _) (bkCp_trans f4 (bkCp_c f')) rfl e6' e7'⟩⟩) (fun x y M' e hb f' K' e6' => ⟨rfl, fun _ => ?_, fun w => absurd (by omega) w⟩)
  have eO : bkLField T c L S i (M 10 0 11) = (if bkTaken S x y (S 0).toNat = true then .inl (3, bkTf T c L (bkTn T c L (bkTn T c L i))) else match bkNu T c L 1 20 (bkTn T c L (bkTn T c L (bkTn T c L i))) with
    | .inl e => .inl e
    | .inr v => .inr (bkTn T c L (bkTn T c L (bkTn T c L (bkTn T c L i))), bkPut (bkPut (bkPut (bkPut (bkPut (bkPut S (200 + S 0) (bkTw 32 T c i)) 170 1) (42 + S 0) x) (52 + S 0) y) (62 + S 0) v) 0 (S 0 + 1))) := by
    unfold bkLField; rw [if_neg z10, eN]; exact e _
  have f6 : bkCp p M (bk_up M' 6 0 3 1) := bkCp_trans (bkCp_trans f4 (bkCp_c f')) (bkCp_up (by unfold bkCa; omega) (by decide))
  have u : ∀ k, k ≠ 33 → k = 5 ∨ (28 ≤ k ∧ k ≤ 39) → bk_up M' 6 0 3 1 k p = M k p := fun k k1 k2 => by rw [bk_up_f (by omega), f'.1 k p (by omega), e4, bk_up_f k1, f.1 k p (by omega)]
  rw [S25c hS (by rw [u 5 (by decide) (by omega)]; exact p5) (fun g g0 g1 => by rw [u 30 (by decide) (by omega)]; exact (P5 g g0 g1).1) (by omega)]
  refine ⟨rfl, fun z2 => ?_, fun z2 => bk16 (O := bkLField T c L S i (M 10 0 11)) (a := 3) (by rw [eO, if_pos (by by_cases q : bkTaken S x y (S 0).toNat = true; (exact q); (rw [if_neg q] at z2; exact absurd rfl z2))]) f6 (by rw [bk_up_k (by decide)]; exact K'.2.2.1)⟩
  have nt : ¬ bkTaken S x y (S 0).toNat = true := fun q => by rw [if_pos q] at z2; exact absurd z2 (by decide)
  rw [if_neg nt] at eO
  refine bk17 (bkCt_p h f6) (i := bkTn T c L (bkTn T c L (bkTn T c L i))) (by rw [bk_up_k (by decide)]; exact K'.2.1) (by omega) (fun w q M6 e' f' e6' e7' => ⟨rfl, fun w => absurd rfl w, fun _ => ⟨.inl rfl, rfl, bkPo_l (by rw [eO, e']) (bkCp_trans f6 (bkCp_c f')) rfl e6' e7'⟩⟩) (fun v M12 e' f12 K12 e5' e12 => ⟨rfl, fun _ => ⟨by omega, fun M14 e14 => ⟨by omega, fun M15 e15 => ⟨by omega, fun M16 e16 => ?_⟩⟩⟩, fun w => absurd (by decide) w⟩)
  rw [e14, bk_up_k (by decide), e5', ← e14] at e15
  have m6 : M16 5 p 6 = S 0 := by rw [e16, e15, e14, bk_up_k (by decide), bk_up_k (by decide), bk_up_k (by decide), f12.1 5 p (by omega), u 5 (by decide) (by omega)]; exact p5
  rw [m6]
  refine ⟨by unfold bk_r32; omega, fun M17 e17 => ⟨.inr rfl, rfl, ?_⟩⟩
  have f17 : bkCp p M12 M17 := by rw [e17, e16, e15, e14]; exact bkCp_trans (bkCp_trans (bkCp_trans (bkCp_up (by unfold bkCa; omega) (by decide)) (bkCp_up (by unfold bkCa; omega) (by decide))) (bkCp_up (by unfold bkCa; omega) (by decide))) (bkCp_up (by unfold bkCa; omega) (by decide))
  have o10 : ∀ j, M17 10 0 j = M12 10 0 j := fun j => by rw [e17, e16, e15, e14, bk_up_k (by decide), bk_up_k (by decide), bk_up_k (by decide), bk_up_k (by decide)]
  refine bkPo_r (by rw [eO, e']) (bkCp_trans (bkCp_trans f6 (bkCp_c f12)) f17) rfl (by rw [o10]; exact K12.2.1) (by rw [o10, e12, bk_up_k (by decide), e6', e4, bk_up_k (by decide), e6]) ?_
  have w : ∀ k, k ≠ 5 → k ≠ 30 → k ≠ 31 → k ≠ 32 → k ≠ 33 → 28 ≤ k → k ≤ 39 → M17 k p = M k p := fun k k1 k2 k3 k4 k5 k6 k7 => by rw [e17, e16, e15, e14, bk_up_f k1, bk_up_f k4, bk_up_f k3, bk_up_f k2, f12.1 k p (by omega), u k k5 (by omega)]
  have w5 : ∀ j, j ≠ 6 → M17 5 p j = M 5 p j := fun j j1 => by rw [e17, bk_up_s j1, e16, e15, e14, bk_up_f (by decide), bk_up_f (by decide), bk_up_f (by decide), f12.1 5 p (by omega), u 5 (by decide) (by omega)]
  have w56 : M17 5 p 6 = S 0 + 1 := by rw [e17, bk_up_e]
  have w30 : ∀ j, M17 30 p j = if j = S 0 then 6 * y + x else M 30 p j := fun j => by rw [e17, e16, e15, bk_up_f (by decide), bk_up_f (by decide), bk_up_f (by decide), e14, bk_up_w, f12.1 30 p (by omega), u 30 (by decide) (by omega)]
  have w31 : ∀ j, M17 31 p j = if j = S 0 then v else M 31 p j := fun j => by rw [e17, e16, bk_up_f (by decide), bk_up_f (by decide), e15, bk_up_w, e14, bk_up_f (by decide), f12.1 31 p (by omega), u 31 (by decide) (by omega)]
  have w32 : ∀ j, M17 32 p j = if j = S 0 then 0 else M 32 p j := fun j => by rw [e17, bk_up_f (by decide), e16, bk_up_w, e15, e14, bk_up_f (by decide), bk_up_f (by decide), f12.1 32 p (by omega), u 32 (by decide) (by omega)]
  have w33 : ∀ j, M17 33 p j = if j = S 0 then bkTw 32 T c i else M 33 p j := fun j => by rw [e17, e16, e15, e14, bk_up_f (by decide), bk_up_f (by decide), bk_up_f (by decide), bk_up_f (by decide), f12.1 33 p (by omega), bk_up_f (by decide), f'.1 33 p (by omega), e4, bk_up_w, f.1 33 p (by omega)]
  have o6 : M17 6 0 = (bk_up M' 6 0 3 1) 6 0 := by rw [e17, e16, e15, e14, bk_up_f (by decide), bk_up_f (by decide), bk_up_f (by decide), bk_up_f (by decide), f12.1 6 0 (by omega)]
  have o6a : ∀ j, j ≠ 3 → M17 6 0 j = M 6 0 j := fun j j1 => by rw [o6, bk_up_s j1, f'.1 6 0 (by omega), e4, bk_up_f (by decide), f.1 6 0 (by omega)]
  have o63 : M17 6 0 3 = 1 := by rw [o6, bk_up_e]
  have P : ∀ j, j ≠ 0 → j ≠ 42 + S 0 → j ≠ 52 + S 0 → j ≠ 62 + S 0 → j ≠ 170 → j ≠ 200 + S 0 → bkPut (bkPut (bkPut (bkPut (bkPut (bkPut S (200 + S 0) (bkTw 32 T c i)) 170 1) (42 + S 0) x) (52 + S 0) y) (62 + S 0) v) 0 (S 0 + 1) j = S j := fun j q1 q2 q3 q4 q5 q6 => by rw [bkPut_o q1, bkPut_o q4, bkPut_o q3, bkPut_o q2, bkPut_o q5, bkPut_o q6]
  have E0 : bkPut (bkPut (bkPut (bkPut (bkPut (bkPut S (200 + S 0) (bkTw 32 T c i)) 170 1) (42 + S 0) x) (52 + S 0) y) (62 + S 0) v) 0 (S 0 + 1) 0 = S 0 + 1 := bkPut_e
  have E42 : bkPut (bkPut (bkPut (bkPut (bkPut (bkPut S (200 + S 0) (bkTw 32 T c i)) 170 1) (42 + S 0) x) (52 + S 0) y) (62 + S 0) v) 0 (S 0 + 1) (42 + S 0) = x := by rw [bkPut_o (by omega), bkPut_o (by omega), bkPut_o (by omega), bkPut_e]
  have E52 : bkPut (bkPut (bkPut (bkPut (bkPut (bkPut S (200 + S 0) (bkTw 32 T c i)) 170 1) (42 + S 0) x) (52 + S 0) y) (62 + S 0) v) 0 (S 0 + 1) (52 + S 0) = y := by rw [bkPut_o (by omega), bkPut_o (by omega), bkPut_e]
  have E62 : bkPut (bkPut (bkPut (bkPut (bkPut (bkPut S (200 + S 0) (bkTw 32 T c i)) 170 1) (42 + S 0) x) (52 + S 0) y) (62 + S 0) v) 0 (S 0 + 1) (62 + S 0) = v := by rw [bkPut_o (by omega), bkPut_e]
  have E170 : bkPut (bkPut (bkPut (bkPut (bkPut (bkPut S (200 + S 0) (bkTw 32 T c i)) 170 1) (42 + S 0) x) (52 + S 0) y) (62 + S 0) v) 0 (S 0 + 1) 170 = 1 := by rw [bkPut_o (by omega), bkPut_o (by omega), bkPut_o (by omega), bkPut_o (by omega), bkPut_e]
  have E200 : bkPut (bkPut (bkPut (bkPut (bkPut (bkPut S (200 + S 0) (bkTw 32 T c i)) 170 1) (42 + S 0) x) (52 + S 0) y) (62 + S 0) v) 0 (S 0 + 1) (200 + S 0) = bkTw 32 T c i := by rw [bkPut_o (by omega), bkPut_o (by omega), bkPut_o (by omega), bkPut_o (by omega), bkPut_o (by omega), bkPut_e]
  generalize bkPut (bkPut (bkPut (bkPut (bkPut (bkPut S (200 + S 0) (bkTw 32 T c i)) 170 1) (42 + S 0) x) (52 + S 0) y) (62 + S 0) v) 0 (S 0 + 1) = S' at *
  have N : ∀ j, 0 ≤ j → j < 42 → j ≠ 0 → S' j = S j := fun j q1 q2 q3 => P j q3 (by omega) (by omega) (by omega) (by omega) (by omega)
  have N2 : ∀ j, 72 ≤ j → j < 170 → S' j = S j := fun j q1 q2 => P j (by omega) (by omega) (by omega) (by omega) (by omega) (by omega)
  obtain ⟨r1, r2, r3, r4, n, n1, n2, n3⟩ := hR.2
  refine ⟨⟨⟨by rw [w5 0 (by decide), N 2 (by decide) (by decide) (by decide)]; exact p1, by rw [w5 1 (by decide), N 3 (by decide) (by decide) (by decide)]; exact p2, by rw [w5 2 (by decide), N 4 (by decide) (by decide) (by decide)]; exact p3, by rw [w5 3 (by decide), N 5 (by decide) (by decide) (by decide)]; exact p4, by rw [w56, E0], by rw [w5 11 (by decide), N 1 (by decide) (by decide) (by decide)]; exact p6, by rw [w5 17 (by decide)]; exact p7⟩, fun k k0 k1 => ?_, ?_, ?_, fun g g0 g1 => ?_, fun m m0 m1 => ?_⟩, ?_, ?_, ?_, ?_, n, n1, ?_, fun k hk => ?_⟩
  · rw [w 28 (by decide) (by decide) (by decide) (by decide) (by decide) (by decide) (by decide), N (6 + k) (by omega) (by omega) (by omega)]; exact P2 k k0 k1
  · rw [w 29 (by decide) (by decide) (by decide) (by decide) (by decide) (by decide) (by decide)]; exact P3
  · rw [w 37 (by decide) (by decide) (by decide) (by decide) (by decide) (by decide) (by decide), w 38 (by decide) (by decide) (by decide) (by decide) (by decide) (by decide) (by decide), N2 78 (by decide) (by decide), N2 79 (by decide) (by decide)]; exact P4
  · rw [E0] at g1
    rw [w30, w31, w32, w33]
    by_cases q : g = S 0
    · rw [if_pos q, if_pos q, if_pos q, if_pos q, q, E42, E52, E62, E200]; exact ⟨rfl, rfl, rfl, rfl⟩
    · rw [if_neg q, if_neg q, if_neg q, if_neg q, P (52 + g) (by omega) (by omega) (by omega) (by omega) (by omega) (by omega), P (42 + g) (by omega) (by omega) (by omega) (by omega) (by omega) (by omega), P (62 + g) (by omega) (by omega) (by omega) (by omega) (by omega) (by omega), P (200 + g) (by omega) (by omega) (by omega) (by omega) (by omega) (by omega)]
      exact P5 g g0 (by omega)
  · rw [N 1 (by decide) (by decide) (by decide)] at m1
    rw [w 34 (by decide) (by decide) (by decide) (by decide) (by decide) (by decide) (by decide), w 35 (by decide) (by decide) (by decide) (by decide) (by decide) (by decide) (by decide), w 36 (by decide) (by decide) (by decide) (by decide) (by decide) (by decide) (by decide), N2 (75 + m) (by omega) (by omega), N2 (72 + m) (by omega) (by omega), P (210 + m) (by omega) (by omega) (by omega) (by omega) (by omega) (by omega)]
    exact P6 m m0 m1
  · rw [o6a 0 (by decide), N2 120 (by decide) (by decide), N2 121 (by decide) (by decide), N2 122 (by decide) (by decide)]; exact r1
  · rw [o6a 1 (by decide), N2 123 (by decide) (by decide), N2 124 (by decide) (by decide)]; exact r2
  · exact .inr o63
  · rw [E170, o63]; omega
  · rw [o6a 2 (by decide)]; exact n2
  · rw [N2 (130 + k) (by omega) (by omega)]; exact n3 k hk
