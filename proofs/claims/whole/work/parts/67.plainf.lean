/-! The class reads a PLAIN's lines: fields, mills, and which line it is. -/
theorem S11f {d p : Nat} {Q : bk_Q} {k n : Int} {M : bk_M} (hn : 0 ≤ n ∧ n ≤ 10) : bk_C (d + 1) 0 11 [bk_c 33 p, bk_i n, bk_l k] M Q ↔ Q 0 (bkIx (M 33 p) k n.toNat) M := by
  refine bk_det (fun Q hQ => ?_) Q
  rw [E_11k33]
  have key : ∀ (m j : Nat), (j : Int) + m = n → (∀ i : Nat, i < j → M 33 p i ≠ k) → bk_wp (bk_C d) P_11 Q 0 3 [bk_c 33 p, bk_i n, bk_l k, bk_x, bk_i j] [] M := by
    intro m
    induction m with
    | zero =>
      intro j hj h
      rw [L_11_3k33]
      rw [bkIx_no (n := n.toNat) fun i hi => h i (by omega)] at hQ
      exact ⟨fun _ => hQ, fun z => absurd (by omega) z⟩
    | succ m ih =>
      intro j hj h
      rw [L_11_3k33]
      refine ⟨fun z => absurd z (by omega), fun _ => ⟨fun z => absurd z (by omega), fun _ => ⟨by omega, fun z => ⟨by unfold bk_r32; omega, ?_⟩, fun z => ?_⟩⟩⟩
      · rw [bkLc] at z
        have := ih (j + 1) (by omega) (fun i hi => by
          by_cases e : i = j
          · rw [e]; exact z
          · exact h i (by omega))
        rwa [show ((j + 1 : Nat) : Int) = j + 1 by omega] at this
      · have z : M 33 p j = k := Classical.not_not.1 fun w => z (bkLc.2 w)
        rwa [bkIx_at z h (by omega)] at hQ
  exact key n.toNat 0 (by omega) (fun j hj => by omega)
theorem S11m {d p : Nat} {Q : bk_Q} {k n : Int} {M : bk_M} (hn : 0 ≤ n ∧ n ≤ 3) : bk_C (d + 1) 0 11 [bk_c 36 p, bk_i n, bk_l k] M Q ↔ Q 0 (bkIx (M 36 p) k n.toNat) M := by
  refine bk_det (fun Q hQ => ?_) Q
  rw [E_11k36]
  have key : ∀ (m j : Nat), (j : Int) + m = n → (∀ i : Nat, i < j → M 36 p i ≠ k) → bk_wp (bk_C d) P_11 Q 0 3 [bk_c 36 p, bk_i n, bk_l k, bk_x, bk_i j] [] M := by
    intro m
    induction m with
    | zero =>
      intro j hj h
      rw [L_11_3k36]
      rw [bkIx_no (n := n.toNat) fun i hi => h i (by omega)] at hQ
      exact ⟨fun _ => hQ, fun z => absurd (by omega) z⟩
    | succ m ih =>
      intro j hj h
      rw [L_11_3k36]
      refine ⟨fun z => absurd z (by omega), fun _ => ⟨fun z => absurd z (by omega), fun _ => ⟨by omega, fun z => ⟨by unfold bk_r32; omega, ?_⟩, fun z => ?_⟩⟩⟩
      · rw [bkLc] at z
        have := ih (j + 1) (by omega) (fun i hi => by
          by_cases e : i = j
          · rw [e]; exact z
          · exact h i (by omega))
        rwa [show ((j + 1 : Nat) : Int) = j + 1 by omega] at this
      · have z : M 36 p j = k := Classical.not_not.1 fun w => z (bkLc.2 w)
        rwa [bkIx_at z h (by omega)] at hQ
  exact key n.toNat 0 (by omega) (fun j hj => by omega)
theorem bk23 {d p : Nat} {M : bk_M} {T : Int → Int} {c L i : Int} {S : Int → Int} {Q : bk_Q} (h : bkCt M T c L) (hx : M 10 0 10 = i) (h0 : 0 ≤ i ∧ i ≤ c) (hS : bkSv S) (hP : bkRdP M p S)
    (hl : ∀ w q M', (∀ f, bkLName T c L S i f = .inl (w, q)) → bkCf M M' → M' 10 0 6 = w → M' 10 0 7 = q → Q 0 0 M')
    (hr : ∀ M', (∀ f, bkLName T c L S i f = f (bkTw 32 T c i)) → bkTk T c L i = 2 → bkCf M M' → bkCk M' T c L i → M' 10 0 6 = M 10 0 6 → Q 0 1 M') : bk_C (d + 3) 0 23 [bk_c 6 0, bk_c 10 0, bk_c 5 p] M Q := by
  have s0 := hS.2.2.1
  have s1 := hS.2.2.2.1
  rw [E_23]
  refine bk_use (S7c h hx h0) (fun r M2 hM2 => ?_)
  obtain ⟨f, f6, K⟩ := hM2
  have K' := K
  obtain ⟨k1, k2, k3, k4, k5⟩ := K'
  obtain ⟨⟨p1, p2, p3, p4, p5, p6, p7⟩, P2, P3, P4, P5, P6⟩ := hP
  have ff : bkIx (M 33 p) (bkTw 32 T c i) (S 0).toNat = bkIx (fun j => S (200 + j)) (bkTw 32 T c i) (S 0).toNat := bkIx_congr fun j hj => (P5 j (by omega) (by omega)).2.2.2
  have fm : bkIx (M 36 p) (bkTw 32 T c i) (S 1).toNat = bkIx (fun j => S (210 + j)) (bkTw 32 T c i) (S 1).toNat := bkIx_congr fun j hj => (P6 j (by omega) (by omega)).2.2
  have bad3 : bkIsW T c L i (-1) = true → bkKnown S (bkTw 32 T c i) = true → bk_C (d + 2) 0 16 [bk_c 10 0, bk_i 3] M2 (fun t r M' => t = 0 ∧ ((r = 0 → ((0 : Int) = 0 ∨ (0 : Int) = 1) ∧ Q 0 0 M') ∧ (¬ r = 0 → ((1 : Int) = 0 ∨ (1 : Int) = 1) ∧ Q 0 1 M'))) := fun w w2 => by
    refine bk_use S16c (fun r M5 hM5 => ?_)
    obtain ⟨q1, q2, q3, q4, q5⟩ := hM5
    exact ⟨rfl, fun _ => ⟨.inl rfl, hl _ _ M5 (fun g => by unfold bkLName; rw [if_pos w, if_pos w2]) (bkCf_trans f q2) q3 (q4.trans k3)⟩, fun w => absurd q1 w⟩
  refine ⟨rfl, (S24c K).2 ⟨rfl, fun z => ?_, fun z => ?_⟩⟩
  · have w : bkIsW T c L i (-1) = true := by
      by_cases q : bkIsW T c L i (-1) = true
      · exact q
      · rw [if_neg q] at z; exact absurd rfl z
    have t2 : bkTk T c L i = 2 := by unfold bkIsW at w; rw [decide_eq_true_eq] at w; exact w.1
    rw [(k4 t2).1, show M2 5 p 6 = S 0 by rw [f.1 5 p (by omega)]; exact p5, S11f s0, show M2 33 p = M 33 p from f.1 33 p (by omega), ff]
    refine ⟨rfl, fun z1 => ⟨fun z2 => absurd z2 (by decide), fun _ => bad3 w (by unfold bkKnown; rw [decide_eq_true_eq]; exact .inl z1)⟩, fun z1 => ?_⟩
    rw [(k4 t2).1, show M2 5 p 11 = S 1 by rw [f.1 5 p (by omega)]; exact p6, S11m s1, show M2 36 p = M 36 p from f.1 36 p (by omega), fm]
    refine ⟨rfl, fun z2 => ⟨fun _ => ⟨.inr rfl, hr M2 (fun g => ?_) t2 f K f6⟩, fun z3 => absurd rfl z3⟩, fun z2 => ⟨fun z3 => absurd z3 (by decide), fun _ => bad3 w (by unfold bkKnown; rw [decide_eq_true_eq]; exact .inr z2)⟩⟩
    have : ¬ bkKnown S (bkTw 32 T c i) = true := by
      unfold bkKnown; rw [decide_eq_true_eq]
      intro q
      rcases q with q | q
      · exact z1 q
      · exact q z2
    unfold bkLName; rw [if_pos w, if_neg this]
  · have w : ¬ bkIsW T c L i (-1) = true := fun q => z (by rw [if_pos q]; decide)
    refine bk_use S16c (fun r M5 hM5 => ?_)
    obtain ⟨q1, q2, q3, q4, q5⟩ := hM5
    refine ⟨rfl, .inl q1, ?_⟩
    rw [q1]
    exact hl _ _ M5 (fun g => by unfold bkLName; rw [if_neg w]) (bkCf_trans f q2) q3 (q4.trans k3)
theorem S25c {d p : Nat} {Q : bk_Q} {M : bk_M} {S : Int → Int} {x y : Int} (hS : bkSv S) (h6 : M 5 p 6 = S 0) (hF : ∀ f, 0 ≤ f → f < S 0 → M 30 p f = 6 * S (52 + f) + S (42 + f)) (hx : 0 ≤ x ∧ x < 6) : bk_C (d + 1) 0 25 [bk_c 5 p, bk_i (6 * y + x)] M Q ↔ Q 0 (if bkTaken S x y (S 0).toNat = true then 1 else 0) M := by
  obtain ⟨s1, s2, s3, s4, s5, s6, s7, s8, s9, s10, -⟩ := hS
  refine bk_det (fun Q hQ => ?_) Q
  rw [E_25]
  have key : ∀ (m j : Nat), (j : Int) + m = S 0 → bkTaken S x y j = false → bk_wp (bk_C d) P_25 Q 0 2 [bk_c 5 p, bk_i (6 * y + x), bk_i j] [] M := by
    intro m
    induction m with
    | zero =>
      intro j hj h
      rw [L_25_2, h6]
      rw [show (S 0).toNat = j by omega, if_neg (by rw [h]; decide)] at hQ
      exact ⟨fun _ => ⟨.inl rfl, hQ⟩, fun z => absurd (by omega) z⟩
    | succ m ih =>
      intro j hj h
      rw [L_25_2, h6, hF j (by omega) (by omega)]
      have b := s10 j (by omega) (by omega)
      have st : bkTaken S x y (j + 1) = decide (S (42 + j) = x ∧ S (52 + j) = y) := by
        show (bkTaken S x y j || _) = _
        rw [h, Bool.false_or]
      refine ⟨fun z => absurd z (by omega), fun _ => ⟨by omega, fun z => ⟨by unfold bk_r32; omega, ?_⟩, fun z => ⟨.inr rfl, ?_⟩⟩⟩
      · have := ih (j + 1) (by omega) (by rw [st, decide_eq_false_iff_not]; omega)
        rwa [show ((j + 1 : Nat) : Int) = j + 1 by omega] at this
      · have st : bkTaken S x y (j + 1) = true := by rw [st, decide_eq_true_eq]; omega
        have up : ∀ n : Nat, bkTaken S x y (j + 1 + n) = true := by
          intro n
          induction n with
          | zero => exact st
          | succ n ih2 =>
            show (bkTaken S x y (j + 1 + n) || _) = true
            rw [ih2, Bool.true_or]
        have := up ((S 0).toNat - (j + 1))
        rw [show j + 1 + ((S 0).toNat - (j + 1)) = (S 0).toNat by omega] at this
        rwa [if_pos this] at hQ
  exact key (S 0).toNat 0 (by omega) rfl
