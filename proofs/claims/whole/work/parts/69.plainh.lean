theorem S26c {d p : Nat} {M : bk_M} {T : Int → Int} {c L i : Int} {S : Int → Int} (h : bkCt M T c L) (hx : M 10 0 10 = i) (h0 : 0 ≤ i ∧ i ≤ c) (hS : bkSv S) (hR : bkRdC M p S) : bk_C (d + 5) 0 26 [bk_c 6 0, bk_c 10 0, bk_c 5 p] M (fun t r M' => t = 0 ∧ bkPo p M r M' (bkLMill T c L S i (M 10 0 11))) := by
  have s0 := hS.2.2.1
  have s1 := hS.2.2.2.1
  have s2 := hS.1
  have s3 := hS.2.1
  have hn := @bkTn_b T c L i h0.2
  have hn2 := @bkTn_b T c L (bkTn T c L i) hn.2
  obtain ⟨⟨p1, p2, p3, p4, p5, p6, p7⟩, P2, P3, P4, P5, P6⟩ := hR.1
  rw [E_26, p6]
  refine ⟨fun z => ?_, fun z => bk16 (O := bkLMill T c L S i (M 10 0 11)) (a := 4) (by unfold bkLMill; rw [if_pos (by omega)]) (bkCp_refl M) rfl⟩
  have z10 : ¬ 3 ≤ S 1 := by omega
  refine bk23 h hx h0 hS hR.1 (fun w q M' e f e6 e7 => ⟨rfl, fun w => absurd rfl w, fun _ => ⟨.inl rfl, rfl, bkPo_l (by unfold bkLMill; rw [if_neg z10]; exact e _) (bkCp_c f) rfl e6 e7⟩⟩) (fun M2 eN t2 f K e6 => ⟨rfl, fun _ => ⟨by omega, fun M4 e4 => ?_⟩, fun w => absurd (by decide) w⟩)
  rw [(K.2.2.2.1 t2).1] at e4
  have f4 : bkCp p M M4 := by rw [e4]; exact bkCp_trans (bkCp_c f) (bkCp_up (by unfold bkCa; omega) (by decide))
  have g5 : M4 5 p = M 5 p := by rw [e4, bk_up_f (by decide), f.1 5 p (by omega)]
  refine bk19 (bkCt_p h f4) (i := bkTn T c L i) (by rw [e4, bk_up_k (by decide)]; exact K.2.1) (by omega) hS (by rw [g5]; exact ⟨p1, p2⟩) (fun w q M' e f' e6' e7' => ⟨rfl, fun w => absurd rfl w, fun _ => ⟨.inl rfl, rfl, bkPo_l (by unfold bkLMill; rw [if_neg z10, eN]; exact e _) (bkCp_trans f4 (bkCp_c f')) rfl e6' e7'⟩⟩) (fun x y M' e hb f' K' e6' => ⟨rfl, fun _ => ⟨by omega, fun M8 e8 => ⟨by omega, fun M9 e9 => ?_⟩⟩, fun w => absurd (by omega) w⟩)
  have eO : bkLMill T c L S i (M 10 0 11) = .inr (bkTn T c L (bkTn T c L (bkTn T c L i)), bkPut (bkPut (bkPut (bkPut (bkPut S (210 + S 1) (bkTw 32 T c i)) 170 1) (72 + S 1) x) (75 + S 1) y) 1 (S 1 + 1)) := by
    unfold bkLMill; rw [if_neg z10, eN]; exact e _
  have f6 : bkCp p M (bk_up M' 6 0 3 1) := bkCp_trans (bkCp_trans f4 (bkCp_c f')) (bkCp_up (by unfold bkCa; omega) (by decide))
  have u : ∀ k, k ≠ 36 → k = 5 ∨ (28 ≤ k ∧ k ≤ 39) → bk_up M' 6 0 3 1 k p = M k p := fun k k1 k2 => by rw [bk_up_f (by omega), f'.1 k p (by omega), e4, bk_up_f k1, f.1 k p (by omega)]
  have m6 : M9 5 p 11 = S 1 := by rw [e9, e8, bk_up_k (by decide), bk_up_k (by decide), u 5 (by decide) (by omega)]; exact p6
  rw [m6]
  refine ⟨by unfold bk_r32; omega, fun M10 e10 => ⟨.inr rfl, rfl, ?_⟩⟩
  have f10 : bkCp p (bk_up M' 6 0 3 1) M10 := by rw [e10, e9, e8]; exact bkCp_trans (bkCp_trans (bkCp_up (by unfold bkCa; omega) (by decide)) (bkCp_up (by unfold bkCa; omega) (by decide))) (bkCp_up (by unfold bkCa; omega) (by decide))
  have o10 : ∀ j, M10 10 0 j = M' 10 0 j := fun j => by rw [e10, e9, e8, bk_up_k (by decide), bk_up_k (by decide), bk_up_k (by decide), bk_up_k (by decide)]
  refine bkPo_r eO (bkCp_trans f6 f10) rfl (by rw [o10]; exact K'.2.1) (by rw [o10, e6', e4, bk_up_k (by decide), e6]) ?_
  have w : ∀ k, k ≠ 5 → k ≠ 34 → k ≠ 35 → k ≠ 36 → 28 ≤ k → k ≤ 39 → M10 k p = M k p := fun k k1 k2 k3 k4 k5 k6 => by rw [e10, e9, e8, bk_up_f k1, bk_up_f k3, bk_up_f k2, u k k4 (by omega)]
  have w5 : ∀ j, j ≠ 11 → M10 5 p j = M 5 p j := fun j j1 => by rw [e10, bk_up_s j1, e9, e8, bk_up_f (by decide), bk_up_f (by decide), u 5 (by decide) (by omega)]
  have w56 : M10 5 p 11 = S 1 + 1 := by rw [e10, bk_up_e]
  have w34 : ∀ j, M10 34 p j = if j = S 1 then 6 * y + x else M 34 p j := fun j => by rw [e10, e9, bk_up_f (by decide), bk_up_f (by decide), e8, bk_up_w, u 34 (by decide) (by omega)]
  have w35 : ∀ j, M10 35 p j = if j = S 1 then 0 else M 35 p j := fun j => by rw [e10, bk_up_f (by decide), e9, bk_up_w, e8, bk_up_f (by decide), u 35 (by decide) (by omega)]
  have w36 : ∀ j, M10 36 p j = if j = S 1 then bkTw 32 T c i else M 36 p j := fun j => by rw [e10, e9, e8, bk_up_f (by decide), bk_up_f (by decide), bk_up_f (by decide), bk_up_f (by decide), f'.1 36 p (by omega), e4, bk_up_w, f.1 36 p (by omega)]
  have o6 : M10 6 0 = (bk_up M' 6 0 3 1) 6 0 := by rw [e10, e9, e8, bk_up_f (by decide), bk_up_f (by decide), bk_up_f (by decide)]
  have o6a : ∀ j, j ≠ 3 → M10 6 0 j = M 6 0 j := fun j j1 => by rw [o6, bk_up_s j1, f'.1 6 0 (by omega), e4, bk_up_f (by decide), f.1 6 0 (by omega)]
  have o63 : M10 6 0 3 = 1 := by rw [o6, bk_up_e]
  have P : ∀ j, j ≠ 1 → j ≠ 72 + S 1 → j ≠ 75 + S 1 → j ≠ 170 → j ≠ 210 + S 1 → bkPut (bkPut (bkPut (bkPut (bkPut S (210 + S 1) (bkTw 32 T c i)) 170 1) (72 + S 1) x) (75 + S 1) y) 1 (S 1 + 1) j = S j := fun j q1 q2 q3 q5 q6 => by rw [bkPut_o q1, bkPut_o q3, bkPut_o q2, bkPut_o q5, bkPut_o q6]
  have E1 : bkPut (bkPut (bkPut (bkPut (bkPut S (210 + S 1) (bkTw 32 T c i)) 170 1) (72 + S 1) x) (75 + S 1) y) 1 (S 1 + 1) 1 = S 1 + 1 := bkPut_e
  have E72 : bkPut (bkPut (bkPut (bkPut (bkPut S (210 + S 1) (bkTw 32 T c i)) 170 1) (72 + S 1) x) (75 + S 1) y) 1 (S 1 + 1) (72 + S 1) = x := by rw [bkPut_o (by omega), bkPut_o (by omega), bkPut_e]
  have E75 : bkPut (bkPut (bkPut (bkPut (bkPut S (210 + S 1) (bkTw 32 T c i)) 170 1) (72 + S 1) x) (75 + S 1) y) 1 (S 1 + 1) (75 + S 1) = y := by rw [bkPut_o (by omega), bkPut_e]
  have E170 : bkPut (bkPut (bkPut (bkPut (bkPut S (210 + S 1) (bkTw 32 T c i)) 170 1) (72 + S 1) x) (75 + S 1) y) 1 (S 1 + 1) 170 = 1 := by rw [bkPut_o (by omega), bkPut_o (by omega), bkPut_o (by omega), bkPut_e]
  have E210 : bkPut (bkPut (bkPut (bkPut (bkPut S (210 + S 1) (bkTw 32 T c i)) 170 1) (72 + S 1) x) (75 + S 1) y) 1 (S 1 + 1) (210 + S 1) = bkTw 32 T c i := by rw [bkPut_o (by omega), bkPut_o (by omega), bkPut_o (by omega), bkPut_o (by omega), bkPut_e]
  generalize bkPut (bkPut (bkPut (bkPut (bkPut S (210 + S 1) (bkTw 32 T c i)) 170 1) (72 + S 1) x) (75 + S 1) y) 1 (S 1 + 1) = S' at *
  have N : ∀ j, (0 ≤ j ∧ j < 72 ∧ j ≠ 1) ∨ (78 ≤ j ∧ j < 170) ∨ (200 ≤ j ∧ j < 210) → S' j = S j := fun j q => P j (by omega) (by omega) (by omega) (by omega) (by omega)
  obtain ⟨r1, r2, r3, r4, n, n1, n2, n3⟩ := hR.2
  refine ⟨⟨⟨by rw [w5 0 (by decide), N 2 (by omega)]; exact p1, by rw [w5 1 (by decide), N 3 (by omega)]; exact p2, by rw [w5 2 (by decide), N 4 (by omega)]; exact p3, by rw [w5 3 (by decide), N 5 (by omega)]; exact p4, by rw [w5 6 (by decide), N 0 (by omega)]; exact p5, by rw [w56, E1], by rw [w5 17 (by decide)]; exact p7⟩, fun k k0 k1 => ?_, ?_, ?_, fun g g0 g1 => ?_, fun m m0 m1 => ?_⟩, ?_, ?_, ?_, ?_, n, n1, ?_, fun k hk => ?_⟩
  · rw [w 28 (by decide) (by decide) (by decide) (by decide) (by decide) (by decide), N (6 + k) (by omega)]; exact P2 k k0 k1
  · rw [w 29 (by decide) (by decide) (by decide) (by decide) (by decide) (by decide)]; exact P3
  · rw [w 37 (by decide) (by decide) (by decide) (by decide) (by decide) (by decide), w 38 (by decide) (by decide) (by decide) (by decide) (by decide) (by decide), N 78 (by omega), N 79 (by omega)]; exact P4
  · rw [N 0 (by omega)] at g1
    rw [w 30 (by decide) (by decide) (by decide) (by decide) (by decide) (by decide), w 31 (by decide) (by decide) (by decide) (by decide) (by decide) (by decide), w 32 (by decide) (by decide) (by decide) (by decide) (by decide) (by decide), w 33 (by decide) (by decide) (by decide) (by decide) (by decide) (by decide), N (52 + g) (by omega), N (42 + g) (by omega), N (62 + g) (by omega), N (200 + g) (by omega)]
    exact P5 g g0 g1
  · rw [E1] at m1
    rw [w34, w35, w36]
    by_cases q : m = S 1
    · rw [if_pos q, if_pos q, if_pos q, q, E72, E75, E210]; exact ⟨rfl, rfl, rfl⟩
    · rw [if_neg q, if_neg q, if_neg q, P (75 + m) (by omega) (by omega) (by omega) (by omega) (by omega), P (72 + m) (by omega) (by omega) (by omega) (by omega) (by omega), P (210 + m) (by omega) (by omega) (by omega) (by omega) (by omega)]
      exact P6 m m0 (by omega)
  · rw [o6a 0 (by decide), N 120 (by omega), N 121 (by omega), N 122 (by omega)]; exact r1
  · rw [o6a 1 (by decide), N 123 (by omega), N 124 (by omega)]; exact r2
  · exact .inr o63
  · rw [E170, o63]; omega
  · rw [o6a 2 (by decide)]; exact n2
  · rw [N (130 + k) (by omega)]; exact n3 k hk
/-- a line of the class, its first token read -/
theorem S13c {d p : Nat} {M : bk_M} {T : Int → Int} {c L i : Int} {S : Int → Int} (h : bkCt M T c L) (K : bkCk M T c L i) (h0 : 0 ≤ i ∧ i ≤ c) (hS : bkSv S) (hR : bkRdC M p S) : bk_C (d + 6) 0 13 [bk_c 6 0, bk_c 10 0, bk_c 5 p] M (fun t r M' => t = 0 ∧ bkPo p M r M' (bkLine T c L S i)) := by
  have K' := K
  obtain ⟨k1, k2, k3, k4, k5⟩ := K'
  have hn := @bkTn_b T c L i h0.2
  have hn0 : 0 ≤ bkTn T c L i ∧ bkTn T c L i ≤ c := by omega
  have rb : ∀ {O : (Int × Int) ⊕ (Int × (Int → Int))} {r : Int} {M' : bk_M}, bkPo p M r M' O → r = 0 ∨ r = 1 := fun {O r M'} q => by
    rcases O with ⟨w, q'⟩ | ⟨i', S'⟩
    · exact .inl (q.2.1 w q' rfl).1
    · exact .inr (q.2.2 i' S' rfl).1
  have fin : ∀ {O : (Int × Int) ⊕ (Int × (Int → Int))} {m : Nat} {as : List bk_V}, bkLine T c L S i = O → bk_C (d + 5) 0 m as M (fun t r M' => t = 0 ∧ bkPo p M r M' O) → bk_C (d + 5) 0 m as M (fun t r M' => t = 0 ∧ (r = 0 ∨ r = 1) ∧ (0 : Nat) = 0 ∧ bkPo p M r M' (bkLine T c L S i)) := fun {O m as} e q => bk_use q fun r M' hM' => ⟨rfl, rb hM', rfl, by rw [e]; exact hM'⟩
  rw [E_13, k1]
  have W : ∀ a, bkTk T c L i = 2 → (bkIsW T c L i a = true ↔ bkWi (bkTw 32 T c i) = a) := fun a t => by
    unfold bkIsW; rw [decide_eq_true_eq]; exact ⟨fun q => q.2, fun q => ⟨t, q⟩⟩
  refine ⟨fun z => ?_, fun z => ?_⟩
  · have no : ∀ a, ¬ bkIsW T c L i a = true := fun a q => z (by unfold bkIsW at q; rw [decide_eq_true_eq] at q; exact q.1)
    have bad := bk16 (d := d + 4) (p := p) (M0 := M) (M := M) (O := bkLine T c L S i) (a := 1) (q := bkTf T c L i) (by unfold bkLine; rw [if_neg (no _), if_neg (no _), if_neg (no _), if_neg (no _), if_neg (no _), if_neg (no _), if_neg (no _)]) (bkCp_refl M) k3
    exact ⟨fun w => absurd w (by decide), fun _ => ⟨fun w => absurd w (by decide), fun _ => ⟨fun w => absurd w (by decide), fun _ => ⟨fun w => absurd w (by decide), fun _ => ⟨fun w => absurd w (by decide), fun _ => ⟨fun w => absurd w (by decide), fun _ => ⟨fun w => absurd w (by decide), fun _ => ⟨fun w => absurd w (by decide), fun _ => ⟨fun w => absurd w (by decide), fun _ => bad⟩⟩⟩⟩⟩⟩⟩⟩⟩
  · have t2 : bkTk T c L i = 2 := by omega
    have W := fun a => W a t2
    rw [(k4 t2).2]
    have bad : ∀ w, bkWi (bkTw 32 T c i) = w → w ≠ 0 → w ≠ 1 → w ≠ 2 → w ≠ 3 → w ≠ 4 → w ≠ 5 → w ≠ 8 → bk_C (d + 5) 0 16 [bk_c 10 0, bk_i 1] M (fun t r M' => t = 0 ∧ (r = 0 ∨ r = 1) ∧ (0 : Nat) = 0 ∧ bkPo p M r M' (bkLine T c L S i)) := fun w hw q0 q1 q2 q3 q4 q5 q8 => by
      have no : ∀ a, a ≠ w → ¬ bkIsW T c L i a = true := fun a q r => q (by rw [← hw]; exact ((W a).1 r).symm)
      exact bk16 (d := d + 4) (q := bkTf T c L i) (by unfold bkLine; rw [if_neg (no _ q0.symm), if_neg (no _ q1.symm), if_neg (no _ q2.symm), if_neg (no _ q3.symm), if_neg (no _ q4.symm), if_neg (no _ q5.symm), if_neg (no _ q8.symm)]) (bkCp_refl M) k3
    have no : ∀ a, bkWi (bkTw 32 T c i) ≠ a → ¬ bkIsW T c L i a = true := fun a q r => q ((W a).1 r)
    refine ⟨fun w => ?_, fun n0 => ⟨fun w => ?_, fun n1 => ⟨fun w => ?_, fun n2 => ⟨fun w => ?_, fun n3 => ⟨fun w => ?_, fun n4 => ⟨fun w => ?_, fun n5 => ⟨fun w => bad _ w (by decide) (by decide) (by decide) (by decide) (by decide) (by decide) (by decide), fun n6 => ⟨fun w => bad _ w (by decide) (by decide) (by decide) (by decide) (by decide) (by decide) (by decide), fun n7 => ⟨fun w => ?_, fun n8 => bad _ rfl n0 n1 n2 n3 n4 n5 n8⟩⟩⟩⟩⟩⟩⟩⟩⟩
    · refine fin (O := bkLSize T c L S (bkTn T c L i) (bkTf T c L i)) (by unfold bkLine; rw [if_pos ((W 0).2 w)]) ?_
      have := S14c (d := d + 1) h k2 hn0 hS hR
      rwa [k3] at this
    · refine fin (O := bkLLand T c L S (bkTn T c L i)) (by unfold bkLine; rw [if_neg (no 0 n0), if_pos ((W 1).2 w)]) ?_
      exact S18c (d := d) h k2 hn0 hS hR
    · refine fin (O := bkLSource T c L S (bkTn T c L i) (bkTf T c L i)) (by unfold bkLine; rw [if_neg (no 0 n0), if_neg (no 1 n1), if_pos ((W 2).2 w)]) ?_
      have := S21c (d := d + 1) h k2 hn0 hS hR
      rwa [k3] at this
    · refine fin (O := bkLField T c L S (bkTn T c L i) (bkTf T c L i)) (by unfold bkLine; rw [if_neg (no 0 n0), if_neg (no 1 n1), if_neg (no 2 n2), if_pos ((W 3).2 w)]) ?_
      have := S22c (d := d) h k2 hn0 hS hR
      rwa [k3] at this
    · refine fin (O := bkLMill T c L S (bkTn T c L i) (bkTf T c L i)) (by unfold bkLine; rw [if_neg (no 0 n0), if_neg (no 1 n1), if_neg (no 2 n2), if_neg (no 3 n3), if_pos ((W 4).2 w)]) ?_
      have := S26c (d := d) h k2 hn0 hS hR
      rwa [k3] at this
    · refine fin (O := bkLPurse T c L S (bkTn T c L i)) (by unfold bkLine; rw [if_neg (no 0 n0), if_neg (no 1 n1), if_neg (no 2 n2), if_neg (no 3 n3), if_neg (no 4 n4), if_pos ((W 5).2 w)]) ?_
      exact S27c (d := d + 1) h k2 hn0 hS hR
    · refine fin (O := bkLIce T c L S (bkTn T c L i) (bkTf T c L i)) (by unfold bkLine; rw [if_neg (no 0 n0), if_neg (no 1 n1), if_neg (no 2 n2), if_neg (no 3 n3), if_neg (no 4 n4), if_neg (no 5 n5), if_pos ((W 8).2 w)]) ?_
      have := S29c (d := d + 1) h k2 hn0 hS hR
      rwa [k3] at this
