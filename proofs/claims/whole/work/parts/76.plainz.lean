theorem S179c {d : Nat} {M : bk_M} {T : Int → Int} {c L i : Int} {S : Int → Int} (h : bkRt M T c L) (hA : bkAtR M T c L i) (h0 : 0 ≤ i ∧ i ≤ c) (ht : bkTk T c L i ≠ 1) (hS : bkSv S) (hR : bkRdF M S) : bk_C (d + 5) 0 179 [bk_c 12 0] M (fun t r M' => t = 0 ∧ bkQr T c L M r M' (bkLField T c L S (bkTn T c L i) (bkTf T c L i))) := by
  have hn := @bkTn_b T c L i h0.2
  have hn2 := @bkTn_b T c L (bkTn T c L i) hn.2
  have hn3 := @bkTn_b T c L (bkTn T c L (bkTn T c L i)) hn2.2
  have hn4 := @bkTn_b T c L (bkTn T c L (bkTn T c L (bkTn T c L i))) hn3.2
  have s0 := hS.2.2.1
  have s1 := hS.2.2.2.1
  have s2 := hS.1
  have s3 := hS.2.1
  have g0 := hR.1 0 (by omega) (by omega)
  rw [E_179]
  refine bk180 h hA h0 ht (by omega) (fun z M' f e1 e2 => ⟨rfl, fun w => absurd rfl w, fun _ => ⟨.inl rfl, rfl, bkQr_l (by unfold bkLField; rw [if_pos (by omega)]) (bkFp_o f) rfl e1 e2⟩⟩) (fun z M2 f2 k2 a2 => ⟨rfl, fun _ => ⟨by omega, ?_⟩, fun w => absurd (by decide) w⟩)
  have z10 : ¬ 10 ≤ S 0 := by omega
  have R2 := bkRdF_o hR f2
  rw [R2.1 0 (by omega) (by omega)]
  refine bk181 (bkRt_o h f2) a2 (by omega) hS R2 (by omega) (fun w q M' e f e1 e2 => ⟨rfl, fun _ => ⟨.inl rfl, rfl, bkQr_l (by unfold bkLField; rw [if_neg z10]; exact e _) (bkFp_trans (bkFp_o f2) (bkFp_o f)) rfl e1 e2⟩, fun w => absurd rfl w⟩) (fun eN M5 f5 k5 a5 => ⟨rfl, fun w => absurd w (by decide), fun _ => ⟨by unfold bk_r32; omega, ?_⟩⟩)
  generalize hk : bkTw 32 T c (bkTn T c L i) = key at *
  have F5 : bkFp M M5 := bkFp_trans (bkFp_o f2) (bkFp_trans (bkFp_up (by unfold bkFa; omega) (by decide)) (bkFp_o f5))
  have R5 : bkRdF M5 S := bkRdF_o (bkRdF_64 R2 (.inl ⟨rfl, by omega⟩) s0.2 s1.1) f5
  have n5 : M5 64 0 (S 0) = bkCv 7 key := by rw [f5.1 64 0 (by omega), bk_up_e]
  refine bk177 (bkRt_p h F5) a5 (by omega) hS (R5.1 2 (by omega) (by omega)) (fun w q M' e f e1 e2 => ⟨rfl, ?_⟩) (fun x M8 e f8 e13 k8 a8 => ⟨rfl, ?_⟩)
  · rw [E_175]
    exact ⟨fun _ => ⟨.inl rfl, rfl, fun _ => ⟨.inl rfl, rfl, bkQr_l (by unfold bkLField; rw [if_neg z10, eN]; unfold bkCell; rw [e]) (bkFp_trans F5 (bkFp_trans bkFp_26 (bkFp_o f))) rfl e1 e2⟩, fun w => absurd rfl w⟩, fun w => absurd rfl w⟩
  rw [E_175]
  refine ⟨fun w => absurd w (by decide), fun _ => ⟨by omega, fun M11 e11 => ⟨.inr rfl, rfl, fun w => absurd w (by decide), fun _ => ⟨by omega, ?_⟩⟩⟩⟩
  rw [e13] at e11
  have F8 : bkFp M M8 := bkFp_trans F5 (bkFp_trans bkFp_26 (bkFp_o f8))
  have R8 : bkRdF M8 (bkPut S 170 1) := bkRdF_o (bkRdF_c R5) f8
  have F11 : bkFp M M11 := by rw [e11]; exact bkFp_trans F8 (bkFp_up (by unfold bkFa; omega) (by decide))
  have R11 : bkRdF M11 (bkPut (bkPut S 170 1) (42 + S 0) x) := by rw [e11]; exact bkRdF_v R8 (by omega)
  have A11 := bkAtR_e (M' := M11) a8 (by rw [e11, bk_up_f (by decide)])
  have n11 : M11 64 0 (S 0) = bkCv 7 key := by rw [e11, bk_up_f (by decide), f8.1 64 0 (by omega), bk_up_f (by decide)]; exact n5
  have w3 : M11 59 0 3 = S 3 := by rw [R11.1 3 (by omega) (by omega), bkPut_o (by omega), bkPut_o (by omega)]
  have k11 : M11 12 0 10 = M 12 0 10 := by rw [e11, bk_up_k (by decide), k8, k5, k2]
  rw [w3]
  refine bk178 A11 (fun w q M' e' f e1 e2 => ⟨rfl, fun w => absurd rfl w, fun _ => ⟨.inl rfl, rfl, bkQr_l (by unfold bkLField; rw [if_neg z10, eN]; unfold bkCell; rw [e]; dsimp only; rw [e']) (bkFp_trans F11 (bkFp_o f)) rfl e1 e2⟩⟩) (fun y e' ey => ⟨rfl, fun _ => ⟨by unfold bk_r32; omega, by omega, ?_⟩, fun w => absurd (by decide) w⟩)
  have bx := bkNu_r e
  have b' := bkNu_r e'
  have x11 : M11 59 0 (42 + S 0) = x := by rw [R11.1 (42 + S 0) (by omega) (by omega), bkPut_e]
  rw [x11, ey]
  have eO : bkLField T c L S (bkTn T c L i) (bkTf T c L i) = (if bkTaken S x y (S 0).toNat = true then .inl (3, bkTf T c L (bkTn T c L (bkTn T c L (bkTn T c L i)))) else match bkNu T c L 1 20 (bkTn T c L (bkTn T c L (bkTn T c L (bkTn T c L i)))) with
    | .inl e => .inl e
    | .inr v => .inr (bkTn T c L (bkTn T c L (bkTn T c L (bkTn T c L (bkTn T c L i)))), bkPut (bkPut (bkPut (bkPut (bkPut (bkPut S (200 + S 0) key) 170 1) (42 + S 0) x) (52 + S 0) y) (62 + S 0) v) 0 (S 0 + 1))) := by
    unfold bkLField; rw [if_neg z10, eN]; unfold bkCell; rw [e]; dsimp only; rw [e']; rfl
  refine (S184c (S := S) s0 (by rw [R11.1 0 (by omega) (by omega), bkPut_o (by omega), bkPut_o (by omega)]) (fun f f0 f1 => ⟨by rw [R11.1 (42 + f) (by omega) (by omega), bkPut_o (by omega), bkPut_o (by omega)], by rw [R11.1 (52 + f) (by omega) (by omega), bkPut_o (by omega), bkPut_o (by omega)]⟩)).2 ⟨rfl, fun z2 => ⟨by unfold bk_r32; omega, by omega, fun M19 e19 => ?_⟩, fun z2 => bk171 A11 (.inl (by omega)) (fun M' f e1 e2 => ⟨rfl, .inl rfl, rfl, bkQr_l (by rw [eO, if_pos (by by_cases q : bkTaken S x y (S 0).toNat = true; (exact q); (exact absurd (if_neg q) z2))]) (bkFp_trans F11 (bkFp_o f)) rfl e1 e2⟩)⟩
  have nt : ¬ bkTaken S x y (S 0).toNat = true := fun q => by rw [if_pos q] at z2; exact absurd z2 (by decide)
  rw [if_neg nt] at eO
  rw [ey] at e19
  have F19 : bkFp M M19 := by rw [e19]; exact bkFp_trans F11 (bkFp_up (by unfold bkFa; omega) (by decide))
  have R19 : bkRdF M19 (bkPut (bkPut (bkPut S 170 1) (42 + S 0) x) (52 + S 0) y) := by rw [e19]; exact bkRdF_v R11 (by omega)
  have n19 : M19 64 0 (S 0) = bkCv 7 key := by rw [e19, bk_up_f (by decide)]; exact n11
  refine bk_use (S162c (bkRt_p h F19) (i := bkTn T c L (bkTn T c L (bkTn T c L (bkTn T c L i)))) (by rw [e19, bk_up_k (by decide)]; exact A11.2.2.2.1) (by omega)) (fun r M21 hM21 => ⟨rfl, by unfold bk_r32; omega, ?_⟩)
  obtain ⟨f21, ⟨k21, -⟩, a21⟩ := hM21
  have F21 := bkFp_trans F19 (bkFp_o f21)
  refine bk174 (bkRt_p h F21) a21 (by omega) (fun w q M' e'' f e1 e2 => ⟨rfl, ?_⟩) (fun v M24 e'' f24 e13' k24 a24 => ⟨rfl, ?_⟩)
  · rw [E_175]
    exact ⟨fun _ => ⟨.inl rfl, rfl, fun w => absurd rfl w, fun _ => ⟨.inl rfl, rfl, bkQr_l (by rw [eO, e'']) (bkFp_trans F21 (bkFp_o f)) rfl e1 e2⟩⟩, fun w => absurd rfl w⟩
  rw [E_175]
  refine ⟨fun w => absurd w (by decide), fun _ => ⟨by omega, fun M27 e27 => ⟨.inr rfl, rfl, fun _ => ⟨by omega, ?_⟩, fun w => absurd (by decide) w⟩⟩⟩
  rw [e13'] at e27
  have F27 : bkFp M M27 := by rw [e27]; exact bkFp_trans (bkFp_trans F21 (bkFp_o f24)) (bkFp_up (by unfold bkFa; omega) (by decide))
  have R27 : bkRdF M27 (bkPut (bkPut (bkPut (bkPut S 170 1) (42 + S 0) x) (52 + S 0) y) (62 + S 0) v) := by rw [e27]; exact bkRdF_v (bkRdF_o (bkRdF_o R19 f21) f24) (by omega)
  have n27 : M27 64 0 (S 0) = bkCv 7 key := by rw [e27, bk_up_f (by decide), f24.1 64 0 (by omega), f21.1 64 0 (by omega)]; exact n19
  have z27 : bkPut (bkPut (bkPut (bkPut S 170 1) (42 + S 0) x) (52 + S 0) y) (62 + S 0) v 0 = S 0 := by rw [bkPut_o (by omega), bkPut_o (by omega), bkPut_o (by omega), bkPut_o (by omega)]
  have m27 : M27 59 0 0 = S 0 := by rw [R27.1 0 (by omega) (by omega), z27]
  rw [m27]
  refine ⟨by unfold bk_r32; omega, by omega, fun M29 e29 => ⟨.inr rfl, rfl, ?_⟩⟩
  have R29 := bkRdF_n (v := key) R27 (by omega) (by rw [z27]; exact n27)
  rw [z27, ← e29] at R29
  refine bkQr_r (by rw [eO, e'']) (by rw [e29]; exact bkFp_trans F27 (bkFp_up (by unfold bkFa; omega) (by decide))) rfl (by rw [e29, bk_up_k (by decide), e27, bk_up_k (by decide), k24, k21, e19, bk_up_k (by decide), k11]) (bkAtR_e a24 (by rw [e29, bk_up_f (by decide), e27, bk_up_f (by decide)])) ?_
  have ext : bkPut (bkPut (bkPut (bkPut (bkPut (bkPut S (200 + S 0) key) 170 1) (42 + S 0) x) (52 + S 0) y) (62 + S 0) v) 0 (S 0 + 1) = bkPut (bkPut (bkPut (bkPut (bkPut (bkPut S 170 1) (42 + S 0) x) (52 + S 0) y) (62 + S 0) v) (200 + S 0) key) 0 (S 0 + 1) := by
    funext j
    unfold bkPut
    (repeat' split) <;> first | rfl | omega
  rw [ext]; exact R29
theorem S185c {d : Nat} {M : bk_M} {T : Int → Int} {c L i : Int} {S : Int → Int} (h : bkRt M T c L) (hA : bkAtR M T c L i) (h0 : 0 ≤ i ∧ i ≤ c) (ht : bkTk T c L i ≠ 1) (hS : bkSv S) (hR : bkRdF M S) : bk_C (d + 5) 0 185 [bk_c 12 0] M (fun t r M' => t = 0 ∧ bkQr T c L M r M' (bkLMill T c L S (bkTn T c L i) (bkTf T c L i))) := by
  have hn := @bkTn_b T c L i h0.2
  have hn2 := @bkTn_b T c L (bkTn T c L i) hn.2
  have hn3 := @bkTn_b T c L (bkTn T c L (bkTn T c L i)) hn2.2
  have s0 := hS.2.2.1
  have s1 := hS.2.2.2.1
  have s2 := hS.1
  have s3 := hS.2.1
  have g1 := hR.1 1 (by omega) (by omega)
  rw [E_185]
  refine bk180 h hA h0 ht (by omega) (fun z M' f e1 e2 => ⟨rfl, fun w => absurd rfl w, fun _ => ⟨.inl rfl, rfl, bkQr_l (by unfold bkLMill; rw [if_pos (by omega)]) (bkFp_o f) rfl e1 e2⟩⟩) (fun z M2 f2 k2 a2 => ⟨rfl, fun _ => ⟨by omega, ?_⟩, fun w => absurd (by decide) w⟩)
  have z10 : ¬ 3 ≤ S 1 := by omega
  have R2 := bkRdF_o hR f2
  rw [R2.1 1 (by omega) (by omega)]
  refine ⟨by unfold bk_r32; omega, bk181 (bkRt_o h f2) a2 (by omega) hS R2 (by omega) (fun w q M' e f e1 e2 => ⟨rfl, fun _ => ⟨.inl rfl, rfl, bkQr_l (by unfold bkLMill; rw [if_neg z10]; exact e _) (bkFp_trans (bkFp_o f2) (bkFp_o f)) rfl e1 e2⟩, fun w => absurd rfl w⟩) (fun eN M5 f5 k5 a5 => ⟨rfl, fun w => absurd w (by decide), fun _ => ⟨by unfold bk_r32; omega, ?_⟩⟩)⟩
  generalize hk : bkTw 32 T c (bkTn T c L i) = key at *
  have F5 : bkFp M M5 := bkFp_trans (bkFp_o f2) (bkFp_trans (bkFp_up (by unfold bkFa; omega) (by decide)) (bkFp_o f5))
  have R5 : bkRdF M5 S := bkRdF_o (bkRdF_64 R2 (.inr rfl) s0.2 s1.1) f5
  have n5 : M5 64 0 (10 + S 1) = bkCv 7 key := by rw [f5.1 64 0 (by omega), bk_up_e]
  refine bk177 (bkRt_p h F5) a5 (by omega) hS (R5.1 2 (by omega) (by omega)) (fun w q M' e f e1 e2 => ⟨rfl, ?_⟩) (fun x M8 e f8 e13 k8 a8 => ⟨rfl, ?_⟩)
  · rw [E_175]
    exact ⟨fun _ => ⟨.inl rfl, rfl, fun _ => ⟨.inl rfl, rfl, bkQr_l (by unfold bkLMill; rw [if_neg z10, eN]; unfold bkCell; rw [e]) (bkFp_trans F5 (bkFp_trans bkFp_26 (bkFp_o f))) rfl e1 e2⟩, fun w => absurd rfl w⟩, fun w => absurd rfl w⟩
  rw [E_175]
  refine ⟨fun w => absurd w (by decide), fun _ => ⟨by omega, fun M11 e11 => ⟨.inr rfl, rfl, fun w => absurd w (by decide), fun _ => ⟨by unfold bk_r32; omega, by omega, ?_⟩⟩⟩⟩
  rw [e13] at e11
  have F8 : bkFp M M8 := bkFp_trans F5 (bkFp_trans bkFp_26 (bkFp_o f8))
  have R8 : bkRdF M8 (bkPut S 170 1) := bkRdF_o (bkRdF_c R5) f8
  have F11 : bkFp M M11 := by rw [e11]; exact bkFp_trans F8 (bkFp_up (by unfold bkFa; omega) (by decide))
  have R11 : bkRdF M11 (bkPut (bkPut S 170 1) (72 + S 1) x) := by rw [e11]; exact bkRdF_v R8 (by omega)
  have A11 := bkAtR_e (M' := M11) a8 (by rw [e11, bk_up_f (by decide)])
  have n11 : M11 64 0 (10 + S 1) = bkCv 7 key := by rw [e11, bk_up_f (by decide), f8.1 64 0 (by omega), bk_up_f (by decide)]; exact n5
  have w3 : M11 59 0 3 = S 3 := by rw [R11.1 3 (by omega) (by omega), bkPut_o (by omega), bkPut_o (by omega)]
  have k11 : M11 12 0 10 = M 12 0 10 := by rw [e11, bk_up_k (by decide), k8, k5, k2]
  rw [w3]
  refine ⟨by unfold bk_r32; omega, bk174 (bkRt_p h F11) A11 (by omega) (fun w q M' e' f e1 e2 => ⟨rfl, ?_⟩) (fun y M14 e' f14 e13' k14 a14 => ⟨rfl, ?_⟩)⟩
  · rw [E_175]
    exact ⟨fun _ => ⟨.inl rfl, rfl, fun w => absurd rfl w, fun _ => ⟨.inl rfl, rfl, bkQr_l (by unfold bkLMill; rw [if_neg z10, eN]; unfold bkCell; rw [e]; dsimp only; rw [e']) (bkFp_trans F11 (bkFp_o f)) rfl e1 e2⟩⟩, fun w => absurd rfl w⟩
  rw [E_175]
  refine ⟨fun w => absurd w (by decide), fun _ => ⟨by omega, fun M17 e17 => ⟨.inr rfl, rfl, fun _ => ⟨by omega, ?_⟩, fun w => absurd (by decide) w⟩⟩⟩
  rw [e13'] at e17
  have F17 : bkFp M M17 := by rw [e17]; exact bkFp_trans (bkFp_trans F11 (bkFp_o f14)) (bkFp_up (by unfold bkFa; omega) (by decide))
  have R17 : bkRdF M17 (bkPut (bkPut (bkPut S 170 1) (72 + S 1) x) (75 + S 1) y) := by rw [e17]; exact bkRdF_v (bkRdF_o R11 f14) (by omega)
  have n17 : M17 64 0 (10 + S 1) = bkCv 7 key := by rw [e17, bk_up_f (by decide), f14.1 64 0 (by omega)]; exact n11
  have z17 : bkPut (bkPut (bkPut S 170 1) (72 + S 1) x) (75 + S 1) y 1 = S 1 := by rw [bkPut_o (by omega), bkPut_o (by omega), bkPut_o (by omega)]
  have z170 : bkPut (bkPut (bkPut S 170 1) (72 + S 1) x) (75 + S 1) y 0 = S 0 := by rw [bkPut_o (by omega), bkPut_o (by omega), bkPut_o (by omega)]
  have m17 : M17 59 0 1 = S 1 := by rw [R17.1 1 (by omega) (by omega), z17]
  rw [m17]
  refine ⟨by unfold bk_r32; omega, by omega, fun M19 e19 => ⟨.inr rfl, rfl, ?_⟩⟩
  have R19 := bkRdF_m (v := key) R17 (by omega) (by omega) (by rw [z17]; exact n17)
  rw [z17, ← e19] at R19
  refine bkQr_r (by unfold bkLMill; rw [if_neg z10, eN]; unfold bkCell; rw [e]; dsimp only; rw [e']) (by rw [e19]; exact bkFp_trans F17 (bkFp_up (by unfold bkFa; omega) (by decide))) rfl (by rw [e19, bk_up_k (by decide), e17, bk_up_k (by decide), k14, k11]) (bkAtR_e a14 (by rw [e19, bk_up_f (by decide), e17, bk_up_f (by decide)])) ?_
  have ext : bkPut (bkPut (bkPut (bkPut (bkPut S (210 + S 1) key) 170 1) (72 + S 1) x) (75 + S 1) y) 1 (S 1 + 1) = bkPut (bkPut (bkPut (bkPut (bkPut S 170 1) (72 + S 1) x) (75 + S 1) y) (210 + S 1) key) 1 (S 1 + 1) := by
    funext j
    unfold bkPut
    (repeat' split) <;> first | rfl | omega
  rw [ext]; exact R19
