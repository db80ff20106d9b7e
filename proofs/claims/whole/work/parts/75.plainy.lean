theorem bkIx_inj {f g : Int → Int} {k : Int} (hk : bkNv k) : ∀ {n : Nat}, (∀ j : Nat, j < n → bkNv (g j) ∧ f j = bkCv 7 (g j)) → bkIx f (bkCv 7 k) n = bkIx g k n
  | 0, _ => rfl
  | n + 1, h => by
    show (if bkIx f (bkCv 7 k) n = -1 then (if f n = bkCv 7 k then (n : Int) else -1) else bkIx f (bkCv 7 k) n) = (if bkIx g k n = -1 then (if g n = k then (n : Int) else -1) else bkIx g k n)
    rw [bkIx_inj hk (n := n) fun j hj => h j (by omega)]
    have hh := h n (by omega)
    have e : f n = bkCv 7 k ↔ g n = k := by rw [hh.2]; exact bkNv_inj hh.1 hk
    by_cases w : g n = k
    · rw [if_pos w, if_pos (e.2 w)]
    · rw [if_neg w, if_neg fun q => w (e.1 q)]
theorem S183c {d k1 : Nat} {Q : bk_Q} {a n k : Int} {M : bk_M} (hk1 : k1 = 64 ∨ k1 = 63) (ha : 0 ≤ a) (hn : 0 ≤ n ∧ a + n ≤ 13) : bk_C (d + 1) 0 183 [bk_c k1 0, bk_i a, bk_i n, bk_l k] M Q ↔ Q 0 (bkIx (fun j => M k1 0 (a + j)) k n.toNat) M := by
  refine bk_det (fun Q hQ => ?_) Q
  rw [GE_183 hk1]
  have key : ∀ (m j : Nat), (j : Int) + m = n → (∀ i : Nat, i < j → M k1 0 (a + i) ≠ k) → bk_wp (bk_C d) P_183 Q 0 3 [bk_c k1 0, bk_i a, bk_i n, bk_l k, bk_x, bk_i j] [] M := by
    intro m
    induction m with
    | zero =>
      intro j hj h
      rw [GL_183_3 hk1]
      rw [bkIx_no (n := n.toNat) fun i hi => h i (by omega)] at hQ
      exact ⟨fun _ => hQ, fun z => absurd (by omega) z⟩
    | succ m ih =>
      intro j hj h
      rw [GL_183_3 hk1]
      refine ⟨fun z => absurd z (by omega), fun _ => ⟨by unfold bk_r32; omega, by omega, fun z => ⟨by unfold bk_r32; omega, ?_⟩, fun z => ?_⟩⟩
      · rw [bkLc] at z
        have := ih (j + 1) (by omega) (fun i hi => by
          by_cases e : i = j
          · rw [e]; exact z
          · exact h i (by omega))
        rwa [show ((j + 1 : Nat) : Int) = j + 1 by omega] at this
      · have z : M k1 0 (a + j) = k := Classical.not_not.1 fun w => z (bkLc.2 w)
        rwa [bkIx_at (f := fun j => M k1 0 (a + j)) z h (by omega)] at hQ
  exact key n.toNat 0 (by omega) (fun j hj => by omega)
theorem bk180 {d : Nat} {M : bk_M} {T : Int → Int} {c L i k n : Int} {Q : bk_Q} (h : bkRt M T c L) (hA : bkAtR M T c L i) (h0 : 0 ≤ i ∧ i ≤ c) (ht : bkTk T c L i ≠ 1) (hk : 0 ≤ k ∧ k < 80) (hl : M 59 0 k = n → ∀ M', bkRo M M' → M' 12 0 10 = 4 → M' 12 0 11 = bkTf T c L i → Q 0 0 M') (hr : M 59 0 k ≠ n → ∀ M', bkRo M M' → M' 12 0 10 = M 12 0 10 → bkAtR M' T c L (bkTn T c L i) → Q 0 1 M') : bk_C (d + 3) 0 180 [bk_c 12 0, bk_i k, bk_i n] M Q := by
  have hn := @bkTn_b T c L i h0.2
  rw [E_180]
  refine ⟨hk, fun z => ?_, fun z => bk171 hA (.inl ht) (fun M' f e1 e2 => ⟨rfl, .inl rfl, hl (Classical.not_not.1 z) M' f e1 e2⟩)⟩
  refine bk_use (S162c h hA.2.2.2.1 (by omega)) (fun r M' hM' => ⟨rfl, .inr rfl, ?_⟩)
  obtain ⟨f, ⟨k10, -⟩, a6⟩ := hM'
  exact hr z M' f k10 a6
theorem bk181 {d : Nat} {M : bk_M} {T : Int → Int} {c L i k : Int} {S : Int → Int} {Q : bk_Q} (h : bkRt M T c L) (hA : bkAtR M T c L i) (h0 : 0 ≤ i ∧ i ≤ c) (hS : bkSv S) (hR : bkRdF M S) (hk : 0 ≤ k ∧ k < 13) (hl : ∀ w q M', (∀ f, bkLName T c L S i f = .inl (w, q)) → bkRo M M' → M' 12 0 10 = w → M' 12 0 11 = q → Q 0 0 M') (hr : (∀ f, bkLName T c L S i f = f (bkTw 32 T c i)) → ∀ M', bkRo (bk_up M 64 0 k (bkCv 7 (bkTw 32 T c i))) M' → M' 12 0 10 = M 12 0 10 → bkAtR M' T c L (bkTn T c L i) → Q 0 1 M') : bk_C (d + 4) 0 181 [bk_c 12 0, bk_i k] M Q := by
  have hn := @bkTn_b T c L i h0.2
  have s0 := hS.2.2.1
  have s1 := hS.2.2.2.1
  obtain ⟨h1, h2, h3, h4, h5, h6⟩ := hR
  rw [E_181]
  refine (S182c hA).2 ⟨rfl, fun z => ?_, fun z => ?_⟩
  · have w : bkIsW T c L i (-1) = true := by
      by_cases q : bkIsW T c L i (-1) = true
      · exact q
      · exact absurd (if_neg q) z
    have t2 : bkTk T c L i = 2 := by unfold bkIsW at w; rw [decide_eq_true_eq] at w; exact w.1
    obtain ⟨v1, v2⟩ := bkTw_v t2
    rw [hA.2.2.2.2.1 t2, v2, h1 0 (by omega) (by omega)]
    have ff : bkIx (fun j => M 64 0 (0 + j)) (bkCv 7 (bkTw 32 T c i)) (S 0).toNat = bkIx (fun j => S (200 + j)) (bkTw 32 T c i) (S 0).toNat := bkIx_inj v1 fun j hj => ⟨(hS.2.2.2.2.2.2.2.2.2.1 j (by omega) (by omega)).2.2.2.2.2.2, by rw [Int.zero_add]; exact h5 j (by omega) (by omega)⟩
    have fm : bkIx (fun j => M 64 0 (10 + j)) (bkCv 7 (bkTw 32 T c i)) (S 1).toNat = bkIx (fun j => S (210 + j)) (bkTw 32 T c i) (S 1).toNat := bkIx_inj v1 fun j hj => ⟨(hS.2.2.2.2.2.2.2.2.2.2.1 j (by omega) (by omega)).2.2.2.2, h6 j (by omega) (by omega)⟩
    refine ⟨by omega, (S183c (.inl rfl) (by omega) (by omega)).2 ?_⟩
    rw [ff]
    refine ⟨rfl, fun z1 => bk171 hA (.inl (by omega)) (fun M' f e1 e2 => ⟨rfl, .inl rfl, hl 3 _ M' (fun g => by unfold bkLName; rw [if_pos w, if_pos (by unfold bkKnown; rw [decide_eq_true_eq]; exact .inl z1)]) f e1 e2⟩), fun z1 => ⟨by omega, ?_⟩⟩
    rw [h1 1 (by omega) (by omega), hA.2.2.2.2.1 t2, v2]
    refine (S183c (.inl rfl) (by omega) (by omega)).2 ?_
    rw [fm]
    refine ⟨rfl, fun z2 => ⟨hk, fun M13 e13 => ?_⟩, fun z2 => bk171 hA (.inl (by omega)) (fun M' f e1 e2 => ⟨rfl, .inl rfl, hl 3 _ M' (fun g => by unfold bkLName; rw [if_pos w, if_pos (by unfold bkKnown; rw [decide_eq_true_eq]; exact .inr z2)]) f e1 e2⟩)⟩
    have f13 : bkFp M M13 := by rw [e13]; exact bkFp_up (by unfold bkFa; omega) (by decide)
    refine bk_use (S162c (bkRt_p h f13) (i := bkTn T c L i) (by rw [e13, bk_up_k (by decide)]; exact hA.2.2.2.1) (by omega)) (fun r M' hM' => ⟨rfl, .inr rfl, ?_⟩)
    obtain ⟨f, ⟨k10, -⟩, a6⟩ := hM'
    rw [e13, hA.2.2.2.2.1 t2, v2] at f
    refine hr (fun g => ?_) M' f (by rw [k10, e13, bk_up_k (by decide)]) a6
    unfold bkLName
    rw [if_pos w, if_neg]
    unfold bkKnown; rw [decide_eq_true_eq]
    rintro (q | q)
    · exact z1 q
    · exact q z2
  · have w : ¬ bkIsW T c L i (-1) = true := fun q => z (by rw [if_pos q]; decide)
    exact bk171 hA (.inr rfl) (fun M' f e1 e2 => ⟨rfl, .inl rfl, hl 1 _ M' (fun g => by unfold bkLName; rw [if_neg w]) f e1 e2⟩)
theorem S184c {d : Nat} {Q : bk_Q} {M : bk_M} {S : Int → Int} {x y : Int} (s0 : 0 ≤ S 0 ∧ S 0 ≤ 10) (h0 : M 59 0 0 = S 0) (hF : ∀ f, 0 ≤ f → f < S 0 → M 59 0 (42 + f) = S (42 + f) ∧ M 59 0 (52 + f) = S (52 + f)) : bk_C (d + 1) 0 184 [bk_c 12 0, bk_i x, bk_i y] M Q ↔ Q 0 (if bkTaken S x y (S 0).toNat = true then 1 else 0) M := by
  refine bk_det (fun Q hQ => ?_) Q
  rw [E_184]
  have key : ∀ (m j : Nat), (j : Int) + m = S 0 → bkTaken S x y j = false → bk_wp (bk_C d) P_184 Q 0 2 [bk_c 12 0, bk_i x, bk_i y, bk_i j] [] M := by
    intro m
    induction m with
    | zero =>
      intro j hj h
      rw [L_184_2, h0]
      rw [show (S 0).toNat = j by omega, if_neg (by rw [h]; decide)] at hQ
      exact ⟨by omega, fun _ => ⟨.inl rfl, hQ⟩, fun z => absurd (by omega) z⟩
    | succ m ih =>
      intro j hj h
      have b := hF j (by omega) (by omega)
      rw [L_184_2, h0, b.1, b.2]
      have st : bkTaken S x y (j + 1) = decide (S (42 + j) = x ∧ S (52 + j) = y) := by
        show (bkTaken S x y j || _) = _
        rw [h, Bool.false_or]
      have nx : ¬ (S (42 + j) = x ∧ S (52 + j) = y) → bk_r32 ((j : Int) + 1) ∧ bk_wp (bk_C d) P_184 Q 0 2 [bk_c 12 0, bk_i x, bk_i y, bk_i ((j : Int) + 1)] [] M := fun z => by
        have := ih (j + 1) (by omega) (by rw [st, decide_eq_false_iff_not]; exact z)
        rw [show ((j + 1 : Nat) : Int) = j + 1 by omega] at this
        exact ⟨by unfold bk_r32; omega, this⟩
      refine ⟨by omega, fun z => absurd z (by omega), fun _ => ⟨by unfold bk_r32; omega, by omega, fun z => nx fun w => z w.1, fun z => ⟨by unfold bk_r32; omega, by omega, fun z2 => nx fun w => z2 w.2, fun z2 => ⟨.inr rfl, ?_⟩⟩⟩⟩
      have st : bkTaken S x y (j + 1) = true := by rw [st, decide_eq_true_eq]; exact ⟨Classical.not_not.1 z, Classical.not_not.1 z2⟩
      have up : ∀ n : Nat, bkTaken S x y (j + 1 + n) = true := by
        intro n
        induction n with
        | zero => exact st
        | succ n ih2 =>
          show (bkTaken S x y (j + 1 + n) || _) = true
          rw [ih2, Bool.true_or]
      have := up ((S 0).toNat - (j + 1))
      rw [show j + 1 + ((S 0).toNat - (j + 1)) = (S 0).toNat by omega] at this
      rwa [if_pos this] at hQ
  exact key (S 0).toNat 0 (by omega) rfl
/-- a name that is not yet counted does not matter -/
theorem bkRdF_64 {M : bk_M} {S : Int → Int} {k v : Int} (h : bkRdF M S) (hk : (k = S 0 ∧ S 0 < 10) ∨ k = 10 + S 1) (s0 : S 0 ≤ 10) (s1 : 0 ≤ S 1) : bkRdF (bk_up M 64 0 k v) S := by
  obtain ⟨h1, h2, h3, h4, h5, h6⟩ := h
  unfold bkRdF
  rw [bk_up_f (k' := 59) (by decide), bk_up_f (k' := 67) (by decide), bk_up_f (k' := 68) (by decide), bk_up_f (k' := 12) (by decide)]
  exact ⟨h1, h2, h3, h4, fun f f0 f1 => by rw [bk_up_s (by omega)]; exact h5 f f0 f1, fun f f0 f1 => by rw [bk_up_s (by omega)]; exact h6 f f0 f1⟩
theorem bkRdF_n {M : bk_M} {S : Int → Int} {v : Int} (h : bkRdF M S) (s0 : 0 ≤ S 0 ∧ S 0 < 10) (hv : M 64 0 (S 0) = bkCv 7 v) : bkRdF (bk_up M 59 0 0 (S 0 + 1)) (bkPut (bkPut S (200 + S 0) v) 0 (S 0 + 1)) := by
  obtain ⟨h1, h2, h3, h4, h5, h6⟩ := h
  have P : ∀ j, j ≠ 0 → j ≠ 200 + S 0 → bkPut (bkPut S (200 + S 0) v) 0 (S 0 + 1) j = S j := fun j q q2 => by rw [bkPut_o q, bkPut_o q2]
  have E0 : bkPut (bkPut S (200 + S 0) v) 0 (S 0 + 1) 0 = S 0 + 1 := bkPut_e
  have E200 : bkPut (bkPut S (200 + S 0) v) 0 (S 0 + 1) (200 + S 0) = v := by rw [bkPut_o (by omega), bkPut_e]
  unfold bkRdF
  rw [E0, P 1 (by omega) (by omega), P 170 (by omega) (by omega), bk_up_f (k' := 67) (by decide), bk_up_f (k' := 68) (by decide), bk_up_f (k' := 12) (by decide), bk_up_f (k' := 64) (by decide)]
  refine ⟨fun j j0 j1 => ?_, fun j j0 j1 => by rw [P (120 + j) (by omega) (by omega)]; exact h2 j j0 j1, fun j j0 j1 => by rw [P (130 + j) (by omega) (by omega)]; exact h3 j j0 j1, h4, fun f f0 f1 => ?_, fun f f0 f1 => by rw [P (210 + f) (by omega) (by omega)]; exact h6 f f0 f1⟩
  · rw [bk_up_w]
    by_cases w : j = 0
    · rw [if_pos w, w, E0]
    · rw [if_neg w, P j w (by omega)]; exact h1 j j0 j1
  · by_cases w : f = S 0
    · rw [w, hv, E200]
    · rw [P (200 + f) (by omega) (by omega)]; exact h5 f f0 (by omega)
theorem bkRdF_m {M : bk_M} {S : Int → Int} {v : Int} (h : bkRdF M S) (s0 : S 0 ≤ 10) (s1 : 0 ≤ S 1 ∧ S 1 < 3) (hv : M 64 0 (10 + S 1) = bkCv 7 v) : bkRdF (bk_up M 59 0 1 (S 1 + 1)) (bkPut (bkPut S (210 + S 1) v) 1 (S 1 + 1)) := by
  obtain ⟨h1, h2, h3, h4, h5, h6⟩ := h
  have P : ∀ j, j ≠ 1 → j ≠ 210 + S 1 → bkPut (bkPut S (210 + S 1) v) 1 (S 1 + 1) j = S j := fun j q q2 => by rw [bkPut_o q, bkPut_o q2]
  have E1 : bkPut (bkPut S (210 + S 1) v) 1 (S 1 + 1) 1 = S 1 + 1 := bkPut_e
  have E210 : bkPut (bkPut S (210 + S 1) v) 1 (S 1 + 1) (210 + S 1) = v := by rw [bkPut_o (by omega), bkPut_e]
  unfold bkRdF
  rw [E1, P 0 (by omega) (by omega), P 170 (by omega) (by omega), bk_up_f (k' := 67) (by decide), bk_up_f (k' := 68) (by decide), bk_up_f (k' := 12) (by decide), bk_up_f (k' := 64) (by decide)]
  refine ⟨fun j j0 j1 => ?_, fun j j0 j1 => by rw [P (120 + j) (by omega) (by omega)]; exact h2 j j0 j1, fun j j0 j1 => by rw [P (130 + j) (by omega) (by omega)]; exact h3 j j0 j1, h4, fun f f0 f1 => by rw [P (200 + f) (by omega) (by omega)]; exact h5 f f0 f1, fun f f0 f1 => ?_⟩
  · rw [bk_up_w]
    by_cases w : j = 1
    · rw [if_pos w, w, E1]
    · rw [if_neg w, P j w (by omega)]; exact h1 j j0 j1
  · by_cases w : f = S 1
    · rw [w, hv, E210]
    · rw [P (210 + f) (by omega) (by omega)]; exact h6 f f0 (by omega)
