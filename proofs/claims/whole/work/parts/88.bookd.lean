/-! The class reads a BOOK's line. -/
theorem bk113e {d p : Nat} {M0 M : bk_M} {T : Int → Int} {c L i n x3 y0 : Int} {S : Int → Int} {O : (Int × Int) ⊕ (Int × (Int → Int))} (h : bkCt M T c L) (hK : bkCk M T c L i) (h0 : 0 ≤ i ∧ i ≤ c) (hn : M 0 0 1 = n) (hn2 : 0 ≤ n ∧ n < 40) (hp : bkBp M0 M) (h6 : M 10 0 6 = M0 10 0 6) (hB : bkBc M0 S n) (ho : M 17 0 = M0 17 0 ∧ M 18 0 = M0 18 0 ∧ M 19 0 = M0 19 0) (h16 : ∀ j, j < n → M 16 0 j = M0 16 0 j)
    (hO : (x3 = -1 ∧ O = bkBSide T c L S n y0 (bkTn T c L i)) ∨ (x3 ≠ -1 ∧ O = bkBRoll T c L S n y0 (bkTn T c L i))) : bk_wp (bk_C (d + 5)) P_113 (fun t r M' => t = 0 ∧ bkBO n M0 r M' O) 0 159 [bk_c 0 0, bk_c 10 0, bk_c 5 p, bk_i x3, bk_x] [bk_i y0, bk_i n, bk_c 17 0] M := by
  have hn' := @bkTn_b T c L i h0.2
  have hn'' := @bkTn_b T c L (bkTn T c L i) hn'.2
  rw [L_113_159]
  refine ⟨hn2, fun M1 e1 => ?_⟩
  have u1 : bkBp M M1 := by rw [e1]; exact bkBp_up (by omega)
  refine bk_use (S7c (i := bkTn T c L i) (bkCt_b h u1) (by rw [e1, bk_up_k (by decide)]; exact hK.2.1) (by omega)) (fun r M3 hM3 => ⟨rfl, ?_⟩)
  obtain ⟨f3, k6, K3⟩ := hM3
  have p3 : bkBp M0 M3 := bkBp_trans hp (bkBp_trans u1 (bkBp_c f3))
  have C3 : bkCt M3 T c L := bkCt_b (bkCt_b h u1) (bkBp_c f3)
  have n3 : M3 0 0 1 = n := by rw [f3.1 0 0 (by omega), u1.2.2, hn]
  have m6 : M3 10 0 6 = M0 10 0 6 := by rw [k6, e1, bk_up_k (by decide), h6]
  have a16 : M3 16 0 = M 16 0 := by rw [f3.1 16 0 (by omega), e1, bk_up_f (by decide)]
  have a17 : M3 17 0 = bkPut (M0 17 0) n y0 := by rw [f3.1 17 0 (by omega), e1, bk_up_p, ho.1]
  have a18 : M3 18 0 = M0 18 0 := by rw [f3.1 18 0 (by omega), e1, bk_up_f (by decide), ho.2.1]
  have a19 : M3 19 0 = M0 19 0 := by rw [f3.1 19 0 (by omega), e1, bk_up_f (by decide), ho.2.2]
  have no : ∀ {a : Int}, (if bkIsW T c L (bkTn T c L i) a = true then (1 : Int) else 0) = 0 → ¬ bkIsW T c L (bkTn T c L i) a = true := fun z q => by rw [if_pos q] at z; exact absurd z (by decide)
  have ye : ∀ {a : Int}, ¬ (if bkIsW T c L (bkTn T c L i) a = true then (1 : Int) else 0) = 0 → bkIsW T c L (bkTn T c L i) a = true := fun {a} z => by
    by_cases q : bkIsW T c L (bkTn T c L i) a = true
    · exact q
    · exact absurd (if_neg q) z
  have bad : O = .inl (1, bkTf T c L (bkTn T c L i)) → bk_C (d + 5) 0 16 [bk_c 10 0, bk_i 1] M3 (fun t r M' => t = 0 ∧ (r = 0 ∨ r = 1) ∧ (0 : Nat) = 0 ∧ bkBO n M0 r M' O) := fun e => bk_use S16c (fun r M' hM' => by
    obtain ⟨q1, q2, q3, q4, q5⟩ := hM'
    exact ⟨rfl, bkBO_l e (bkBp_trans p3 (bkBp_c q2)) q1 q3 (q4.trans K3.2.2.1)⟩)
  have pl : ∀ (k w : Int), ((k = 0 ∧ w = 9) ∨ (k = 1 ∧ w = 10) ∨ (k = 4 ∧ w = 11)) → bkIsW T c L (bkTn T c L i) w = true → O = bkBPl T c L S n k y0 (bkTn T c L (bkTn T c L i)) → bk_C (d + 5) 0 116 [bk_c 0 0, bk_c 10 0] M3 (fun t r M' => t = 0 ∧ (r = 0 ∨ r = 1) ∧ (0 : Nat) = 0 ∧ bkBO n M0 r M' O) := fun k w hk hw e => by
    have w4 : M3 10 0 4 = w := by
      unfold bkIsW at hw
      rw [decide_eq_true_eq] at hw
      rw [(K3.2.2.2.1 hw.1).2]; exact hw.2
    refine bk116 C3 K3.2.1 (by omega) n3 hn2 (fun w q M' e' f e1 e2 => ⟨rfl, bkBO_l (e.trans (e' S k y0)) (bkBp_trans p3 f) rfl e1 e2⟩) (fun x y M' e' f e10 e6 hu => ⟨rfl, bkBO_r (e.trans (e' S k y0)) (bkBp_trans p3 f) rfl e10 (e6.trans m6) ?_⟩)
    obtain ⟨u16, u17, u18, u19⟩ := hu
    obtain ⟨v1, v2, v3, v4, v5⟩ := @bkB4_v S n k y0 x y
    refine bkBc_s hB v5 (fun k k0 k1 j hj => ?_) ?_
    · have hk : k = 16 ∨ k = 17 ∨ k = 18 ∨ k = 19 := by omega
      rcases hk with rfl | rfl | rfl | rfl
      · rw [u16, bkPut_o (by omega), a16, h16 j hj]
      · rw [u17, a17, bkPut_o (by omega)]
      · rw [u18, bkPut_o (by omega), a18]
      · rw [u19, bkPut_o (by omega), a19]
    · unfold bkBq
      rw [u16, u17, u18, u19, a17, bkPut_e, bkPut_e, bkPut_e, bkPut_e, v1, v2, v3, v4, w4]
      omega
  refine ⟨fun z => ?_, fun z => ?_⟩
  · have hO : O = bkBSide T c L S n y0 (bkTn T c L i) := by
      rcases hO with hO | hO
      · exact hO.2
      · exact absurd z hO.1
    refine (S28c K3).2 ⟨rfl, fun z9 => ⟨fun q => absurd q (by decide), fun _ => ?_⟩, fun z9 => (S28c K3).2 ⟨rfl, fun z10 => ⟨fun _ => ?_, fun q => absurd rfl q⟩, fun z10 => ⟨fun q => absurd q (by decide), fun _ => ?_⟩⟩⟩
    · have z9 := ye z9
      exact pl 0 9 (by omega) z9 (by rw [hO]; unfold bkBSide; rw [if_pos z9])
    · have z9 : ¬ bkIsW T c L (bkTn T c L i) 9 = true := fun q => z9 (by rw [if_pos q]; decide)
      exact bad (by rw [hO]; unfold bkBSide; rw [if_neg z9, if_neg (no z10)])
    · have z9 : ¬ bkIsW T c L (bkTn T c L i) 9 = true := fun q => z9 (by rw [if_pos q]; decide)
      exact pl 1 10 (by omega) (ye z10) (by rw [hO]; unfold bkBSide; rw [if_neg z9, if_pos (ye z10)])
  · have hO : O = bkBRoll T c L S n y0 (bkTn T c L i) := by
      rcases hO with hO | hO
      · exact absurd hO.1 z
      · exact hO.2
    refine (S28c K3).2 ⟨rfl, fun z11 => ?_, fun z11 => ?_⟩
    · exact bad (by rw [hO]; unfold bkBRoll; rw [if_neg (no z11)])
    · exact pl 4 11 (by omega) (ye z11) (by rw [hO]; unfold bkBRoll; rw [if_pos (ye z11)])
def bkBRest (T : Int → Int) (c L n : Int) (S : Int → Int) (s i : Int) : (Int × Int) ⊕ (Int × (Int → Int)) :=
  if 40 ≤ n then .inl (4, bkTf T c L i) else
  if bkIsW T c L i 12 = true then bkBSp T c L S n (bkTn T c L i) else
  if bkIsW T c L i 13 = true then bkBYr T c L S n (bkTn T c L i) else
  if bkIsW T c L i 6 = true then bkBSide T c L S n 0 (bkTn T c L i) else
  if bkIsW T c L i 7 = true then bkBSide T c L S n 1 (bkTn T c L i) else bkBRoll T c L S n s (bkTn T c L i)
theorem bk113d {d p : Nat} {M : bk_M} {T : Int → Int} {c L i n x3 : Int} {S : Int → Int} (h : bkCt M T c L) (hK : bkCk M T c L i) (h0 : 0 ≤ i ∧ i ≤ c) (hn : M 0 0 1 = n) (hn0 : 0 ≤ n) (hB : bkBc M S n)
    (hx : (x3 = -1 ∧ (bkIsW T c L i 6 = true ∨ bkIsW T c L i 7 = true ∨ bkIsW T c L i 12 = true ∨ bkIsW T c L i 13 = true)) ∨ (x3 ≠ -1 ∧ bkIsW T c L i (-1) = true)) : bk_wp (bk_C (d + 5)) P_113 (fun t r M' => t = 0 ∧ bkBO n M r M' (bkBRest T c L n S x3 i)) 0 63 [bk_c 0 0, bk_c 10 0, bk_c 5 p, bk_i x3, bk_x] [] M := by
  have hn' := @bkTn_b T c L i h0.2
  rw [L_113_63, hn]
  unfold bkBRest
  refine ⟨fun z => ⟨⟨hn0, z⟩, fun M1 e1 => ?_⟩, fun z => bk_use S16c (fun r M' hM' => ?_)⟩
  · rw [if_neg (show ¬ 40 ≤ n by omega)]
    have u1 : bkBp M M1 := by rw [e1]; exact bkBp_up (by omega)
    have t1 : M1 10 0 = M 10 0 := by rw [e1, bk_up_f (by decide)]
    have K1 := bkCk_e hK t1
    have C1 := bkCt_b h u1
    have n1 : M1 0 0 1 = n := by rw [u1.2.2, hn]
    have wd : ∀ {a}, bkIsW T c L i a = true → M 10 0 4 = a := fun w => by
      unfold bkIsW at w; rw [decide_eq_true_eq] at w; rw [(hK.2.2.2.1 w.1).2]; exact w.2
    have no : ∀ {a : Int}, (if bkIsW T c L i a = true then (1 : Int) else 0) = 0 → ¬ bkIsW T c L i a = true := fun z q => by rw [if_pos q] at z; exact absurd z (by decide)
    have ye : ∀ {a : Int}, ¬ (if bkIsW T c L i a = true then (1 : Int) else 0) = 0 → bkIsW T c L i a = true := fun {a} z => by
      by_cases q : bkIsW T c L i a = true
      · exact q
      · exact absurd (if_neg q) z
    have sp : ∀ (M' : bk_M) (k v : Int), bkCf M1 M' → ((M 10 0 4 = 12 ∧ k = 1) ∨ (M 10 0 4 = 13 ∧ k = v)) → bkBc (bk_up M' 18 0 n v) (bkB3 S n k v) (n + 1) := fun M' k v f hk => by
      obtain ⟨v1, v2, v3, v5⟩ := @bkB3_v S n k v
      have a16 : M' 16 0 = bkPut (M 16 0) n (M 10 0 4) := by rw [f.1 16 0 (by omega), e1, bk_up_p]
      have a17 : M' 17 0 = M 17 0 := by rw [f.1 17 0 (by omega), e1, bk_up_f (by decide)]
      have a18 : M' 18 0 = M 18 0 := by rw [f.1 18 0 (by omega), e1, bk_up_f (by decide)]
      have a19 : M' 19 0 = M 19 0 := by rw [f.1 19 0 (by omega), e1, bk_up_f (by decide)]
      refine bkBc_s hB v5 (fun k k0 k1 j hj => ?_) ?_
      · have hk : k = 16 ∨ k = 17 ∨ k = 18 ∨ k = 19 := by omega
        rcases hk with rfl | rfl | rfl | rfl
        · rw [bk_up_f (by decide), a16, bkPut_o (by omega)]
        · rw [bk_up_f (by decide), a17]
        · rw [bk_up_p, bkPut_o (by omega), a18]
        · rw [bk_up_f (by decide), a19]
      · unfold bkBq
        rw [bk_up_p, bkPut_e, v1, v2, v3, bk_up_f (by decide), bk_up_f (by decide), bk_up_f (by decide), a16, bkPut_e]
        refine ⟨rfl, fun q => absurd rfl q, fun q => absurd q (by decide), fun q => absurd q (by decide), fun q => absurd q (by decide), fun _ => hk⟩
    refine (S28c K1).2 ⟨rfl, fun z12 => (S28c K1).2 ⟨rfl, fun z13 => ?_, fun z13 => ?_⟩, fun z12 => ?_⟩
    · rw [if_neg (no z12), if_neg (no z13), n1, t1]
      have h16 : ∀ j, j < n → M1 16 0 j = M 16 0 j := fun j hj => by rw [e1, bk_up_s (by omega)]
      have ho : M1 17 0 = M 17 0 ∧ M1 18 0 = M 18 0 ∧ M1 19 0 = M 19 0 := ⟨by rw [e1, bk_up_f (by decide)], by rw [e1, bk_up_f (by decide)], by rw [e1, bk_up_f (by decide)]⟩
      refine ⟨fun w => ⟨fun w6 => ?_, fun w6 => ?_⟩, fun w => ?_⟩
      · have q6 : ¬ bkIsW T c L i 6 = true := fun q => w6 (wd q)
        have q7 : bkIsW T c L i 7 = true := by
          rcases hx with hx | hx
          · rcases hx.2 with q | q | q | q
            · exact absurd q q6
            · exact q
            · exact absurd q (no z12)
            · exact absurd q (no z13)
          · exact absurd w hx.1
        rw [if_neg q6, if_pos q7]
        exact bk113e C1 K1 h0 n1 ⟨hn0, z⟩ u1 (by rw [t1]) hB ho h16 (.inl ⟨w, rfl⟩)
      · have q6 : bkIsW T c L i 6 = true := by
          rcases hx with hx | hx
          · rcases hx.2 with q | q | q | q
            · exact q
            · have := wd q; omega
            · exact absurd q (no z12)
            · exact absurd q (no z13)
          · exact absurd w hx.1
        rw [if_pos q6]
        exact bk113e C1 K1 h0 n1 ⟨hn0, z⟩ u1 (by rw [t1]) hB ho h16 (.inl ⟨w, rfl⟩)
      · have q : bkIsW T c L i (-1) = true := by
          rcases hx with hx | hx
          · exact absurd hx.1 w
          · exact hx.2
        rw [if_neg (fun e => by have := bkIsW_u q e; omega), if_neg (fun e => by have := bkIsW_u q e; omega)]
        exact bk113e C1 K1 h0 n1 ⟨hn0, z⟩ u1 (by rw [t1]) hB ho h16 (.inr ⟨w, rfl⟩)
    · rw [if_neg (no z12), if_pos (ye z13)]
      unfold bkBYr
      refine bk115 (i := bkTn T c L i) C1 (by rw [t1]; exact hK.2.1) (by omega) n1 ⟨hn0, z⟩ (fun w q M' e f e2 e3 => ⟨rfl, bkBO_l (by rw [e]) (bkBp_trans u1 (bkBp_c f)) rfl e2 e3⟩) (fun v M' e f K e6 => ⟨rfl, bkBO_r (by rw [e]) (bkBp_trans u1 (bkBp_trans (bkBp_c f) (bkBp_up (by omega)))) rfl (by rw [bk_up_k (by decide)]; exact K.2.1) (by rw [bk_up_k (by decide), e6, t1]) (sp M' v v f (.inr ⟨wd (ye z13), rfl⟩))⟩)
    · have z12 := ye z12
      rw [if_pos z12]
      unfold bkBSp
      refine bk115 (i := bkTn T c L i) C1 (by rw [t1]; exact hK.2.1) (by omega) n1 ⟨hn0, z⟩ (fun w q M' e f e2 e3 => ⟨rfl, bkBO_l (by rw [e]) (bkBp_trans u1 (bkBp_c f)) rfl e2 e3⟩) (fun v M' e f K e6 => ⟨rfl, bkBO_r (by rw [e]) (bkBp_trans u1 (bkBp_trans (bkBp_c f) (bkBp_up (by omega)))) rfl (by rw [bk_up_k (by decide)]; exact K.2.1) (by rw [bk_up_k (by decide), e6, t1]) (sp M' 1 v f (.inl ⟨wd z12, rfl⟩))⟩)
  · obtain ⟨q1, q2, q3, q4, q5⟩ := hM'
    exact ⟨rfl, bkBO_l (by rw [if_pos (by omega)]) (bkBp_c q2) q1 q3 (q4.trans hK.2.2.1)⟩
theorem S113c {d p : Nat} {M : bk_M} {T : Int → Int} {c L i n : Int} {S : Int → Int} (h : bkCt M T c L) (hK : bkCk M T c L i) (h0 : 0 ≤ i ∧ i ≤ c) (hn : M 0 0 1 = n) (hn0 : 0 ≤ n) (hm : 0 ≤ M 5 p 11 ∧ M 5 p 11 ≤ 3) (hB : bkBc M S n) : bk_C (d + 6) 0 113 [bk_c 0 0, bk_c 10 0, bk_c 5 p] M (fun t r M' => t = 0 ∧ bkBO n M r M' (bkBLine (M 36 p) (M 5 p 11).toNat T c L n S i)) := by
  have bad : ∀ (a : Int) {O : (Int × Int) ⊕ (Int × (Int → Int))}, O = .inl (a, bkTf T c L i) → bk_C (d + 5) 0 16 [bk_c 10 0, bk_i a] M (fun t r M' => t = 0 ∧ (r = 0 ∨ r = 1) ∧ (0 : Nat) = 0 ∧ bkBO n M r M' O) := fun a O e => bk_use S16c (fun r M' hM' => by
    obtain ⟨q1, q2, q3, q4, q5⟩ := hM'
    exact ⟨rfl, bkBO_l e (bkBp_c q2) q1 q3 (q4.trans hK.2.2.1)⟩)
  have go : ∀ x3, bkBLine (M 36 p) (M 5 p 11).toNat T c L n S i = bkBRest T c L n S x3 i → ((x3 = -1 ∧ (bkIsW T c L i 6 = true ∨ bkIsW T c L i 7 = true ∨ bkIsW T c L i 12 = true ∨ bkIsW T c L i 13 = true)) ∨ (x3 ≠ -1 ∧ bkIsW T c L i (-1) = true)) → bk_wp (bk_C (d + 5)) P_113 (fun t r M' => t = 0 ∧ bkBO n M r M' (bkBLine (M 36 p) (M 5 p 11).toNat T c L n S i)) 0 63 [bk_c 0 0, bk_c 10 0, bk_c 5 p, bk_i x3, bk_x] [] M := fun x3 e hx => by
    rw [e]
    exact bk113d h hK h0 hn hn0 hB hx
  rw [E_113]
  by_cases nm : bkIsW T c L i (-1) = true
  · refine (S24c hK).2 ⟨rfl, fun z => ?_, fun _ => ?_⟩
    · rw [if_pos nm] at z; exact absurd z (by decide)
    have k2 : bkTk T c L i = 2 := by unfold bkIsW at nm; rw [decide_eq_true_eq] at nm; exact nm.1
    rw [(hK.2.2.2.1 k2).1, S11m hm]
    have em : bkBMl (M 36 p) (M 5 p 11).toNat T c L i = bkIx (M 36 p) (bkTw 32 T c i) (M 5 p 11).toNat := by unfold bkBMl; rw [if_pos nm]
    generalize hx : bkIx (M 36 p) (bkTw 32 T c i) (M 5 p 11).toNat = x3 at *
    refine ⟨rfl, ?_⟩
    rw [L_113_26]
    refine (S24c hK).2 ⟨rfl, fun z => ?_, fun _ => ⟨fun z => ?_, fun z => ?_⟩⟩
    · rw [if_pos nm] at z; exact absurd z (by decide)
    · rw [L_113_45]
      refine ⟨fun _ => go x3 ?_ (.inr ⟨z, nm⟩), fun w => absurd z w⟩
      unfold bkBLine bkBRest
      rw [em, if_neg (fun w => z w.2), if_neg (fun w => z w.1)]
    · refine bad 3 ?_
      unfold bkBLine
      rw [em, if_pos ⟨nm, Decidable.not_not.1 z⟩]
  · refine (S24c hK).2 ⟨rfl, fun _ => ?_, fun z => absurd (if_neg nm) z⟩
    have em : bkBMl (M 36 p) (M 5 p 11).toNat T c L i = -1 := by unfold bkBMl; rw [if_neg nm]
    rw [L_113_26]
    refine (S24c hK).2 ⟨rfl, fun _ => ?_, fun z => absurd (if_neg nm) z⟩
    rw [L_113_45]
    refine ⟨fun w => absurd rfl w, fun _ => (S114c hK).2 ⟨rfl, fun z => ?_, fun z => ?_⟩⟩
    · have q : bkIsW T c L i 6 = true ∨ bkIsW T c L i 7 = true ∨ bkIsW T c L i 12 = true ∨ bkIsW T c L i 13 = true := by
        by_cases q : bkIsW T c L i 6 = true ∨ bkIsW T c L i 7 = true ∨ bkIsW T c L i 12 = true ∨ bkIsW T c L i 13 = true
        · exact q
        · exact absurd (if_neg q) z
      refine go (-1) ?_ (.inl ⟨rfl, q⟩)
      unfold bkBLine bkBRest
      rw [em, if_neg (fun w => nm w.1), if_neg (fun w => w.2 q)]
    · have q : ¬ (bkIsW T c L i 6 = true ∨ bkIsW T c L i 7 = true ∨ bkIsW T c L i 12 = true ∨ bkIsW T c L i 13 = true) := fun q => z (by rw [if_pos q]; decide)
      refine bad 1 ?_
      unfold bkBLine
      rw [em, if_neg (fun w => nm w.1), if_pos ⟨rfl, q⟩]
