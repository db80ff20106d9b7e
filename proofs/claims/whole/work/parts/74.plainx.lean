theorem bk177 {d : Nat} {M : bk_M} {T : Int → Int} {c L i : Int} {S : Int → Int} {Q : bk_Q} (h : bkRt M T c L) (hA : bkAtR M T c L i) (h0 : 0 ≤ i ∧ i ≤ c) (hS : bkSv S) (h2 : M 59 0 2 = S 2) (hl : ∀ w q M', bkNu T c L 0 (S 2 - 1) i = .inl (w, q) → bkRo (bk_up M 12 0 26 1) M' → M' 12 0 10 = w → M' 12 0 11 = q → Q 0 0 M') (hr : ∀ v M', bkNu T c L 0 (S 2 - 1) i = .inr v → bkRo (bk_up M 12 0 26 1) M' → M' 12 0 13 = v → M' 12 0 10 = M 12 0 10 → bkAtR M' T c L (bkTn T c L i) → Q 0 1 M') : bk_C (d + 4) 0 177 [bk_c 12 0] M Q := by
  have s2 := hS.1
  rw [E_177]
  refine ⟨.inr rfl, fun M1 e1 => ?_⟩
  rw [show M1 59 0 2 = S 2 by rw [e1, bk_up_k (by decide)]; exact h2]
  refine ⟨by omega, by unfold bk_r32; omega, bk174 (bkRt_p h (by rw [e1]; exact bkFp_26)) (bkAtR_10 hA fun j _ _ _ q => by rw [e1, bk_up_s q]) h0 (fun w q M' e f e1' e2 => ⟨rfl, .inl rfl, hl w q M' e (by rw [← e1]; exact f) e1' e2⟩) (fun v M' e f e13 e10 a => ⟨rfl, .inr rfl, hr v M' e (by rw [← e1]; exact f) e13 (by rw [e10, e1, bk_up_s (by decide)]) a⟩)⟩
theorem bk178 {d : Nat} {M : bk_M} {T : Int → Int} {c L i a : Int} {Q : bk_Q} (hA : bkAtR M T c L i) (hl : ∀ w q M', bkNu T c L 0 (a - 1) i = .inl (w, q) → bkRo M M' → M' 12 0 10 = w → M' 12 0 11 = q → Q 0 0 M') (hr : ∀ v, bkNu T c L 0 (a - 1) i = .inr v → M 12 0 8 = v → Q 0 1 M) : bk_C (d + 2) 0 178 [bk_c 12 0, bk_i a] M Q := by
  have K := bkAtR_k hA
  rw [E_178]
  refine ⟨fun z => ?_, fun z => bk171 hA (.inr rfl) (fun M' f e1 e2 => ⟨rfl, .inl rfl, hl 1 _ M' (by unfold bkNu; rw [if_neg fun q => z (K.2.2.1.2 q)]) f e1 e2⟩)⟩
  have t3 := K.2.2.1.1 z
  have b := bkTv_b t3
  rw [hA.2.2.2.2.2 t3]
  refine ⟨fun w => ⟨.inr rfl, hr _ (by unfold bkNu; rw [if_pos t3, if_pos (by omega)]) (hA.2.2.2.2.2 t3)⟩, fun w => bk171 hA (.inl (by omega)) (fun M' f e1 e2 => ⟨rfl, fun _ => ⟨.inl rfl, hl 2 _ M' (by unfold bkNu; rw [if_pos t3, if_neg (by omega)]) f e1 e2⟩, fun w => absurd rfl w⟩)⟩
theorem S176c {d : Nat} {M : bk_M} {T : Int → Int} {c L i : Int} {S : Int → Int} (h : bkRt M T c L) (hA : bkAtR M T c L i) (h0 : 0 ≤ i ∧ i ≤ c) (hS : bkSv S) (hR : bkRdF M S) : bk_C (d + 5) 0 176 [bk_c 12 0] M (fun t r M' => t = 0 ∧ bkQr T c L M r M' (bkLLand T c L S (bkTn T c L i))) := by
  have hn := @bkTn_b T c L i h0.2
  have hn2 := @bkTn_b T c L (bkTn T c L i) hn.2
  have hn3 := @bkTn_b T c L (bkTn T c L (bkTn T c L i)) hn2.2
  have fl := hS.2.2.2.2.2.2.1
  have s2 := hS.1
  have s3 := hS.2.1
  rw [E_176]
  refine bk_use (S162c h hA.2.2.2.1 (by omega)) (fun r M2 hM2 => ⟨rfl, ?_⟩)
  obtain ⟨f2, ⟨k2, -⟩, a2⟩ := hM2
  have R2 := bkRdF_o hR f2
  refine bk177 (bkRt_o h f2) a2 (by omega) hS (R2.1 2 (by omega) (by omega)) (fun w q M' e f e1 e2 => ⟨rfl, fun w => absurd rfl w, fun _ => ⟨.inl rfl, rfl, bkQr_l (by unfold bkLLand bkCell; rw [e]) (bkFp_trans (bkFp_o f2) (bkFp_trans bkFp_26 (bkFp_o f))) rfl e1 e2⟩⟩) (fun x M5 e f5 e13 e10 a5 => ⟨rfl, fun _ => ⟨by omega, ?_⟩, fun w => absurd (by decide) w⟩)
  have F5 : bkFp M M5 := bkFp_trans (bkFp_o f2) (bkFp_trans bkFp_26 (bkFp_o f5))
  have R5 : bkRdF M5 (bkPut S 170 1) := bkRdF_o (bkRdF_c R2) f5
  have w3 : M5 59 0 3 = S 3 := by rw [R5.1 3 (by omega) (by omega), bkPut_o (by decide)]
  rw [w3]
  refine bk178 a5 (fun w q M' e' f e1 e2 => ⟨rfl, fun w => absurd rfl w, fun _ => ⟨.inl rfl, rfl, bkQr_l (by unfold bkLLand bkCell; rw [e]; dsimp only; rw [e']) (bkFp_trans F5 (bkFp_o f)) rfl e1 e2⟩⟩) (fun y e' e8 => ⟨rfl, fun _ => ?_, fun w => absurd (by decide) w⟩)
  have bx := bkNu_r e
  have b' := bkNu_r e'
  rw [e8, e13]
  obtain ⟨k, hk⟩ : ∃ k : Int, 6 * y + x = k := ⟨_, rfl⟩
  rw [hk]
  have g68 : M5 68 0 k = S (130 + k) := by rw [R5.2.2.1 k (by omega) (by omega), bkPut_o (by omega)]
  have gk := fl (130 + k) (by omega) (by omega)
  have eO : bkLLand T c L S (bkTn T c L i) = (if S (130 + k) = 1 then .inl (3, bkTf T c L (bkTn T c L (bkTn T c L i))) else match bkNu T c L 0 9 (bkTn T c L (bkTn T c L (bkTn T c L i))) with
    | .inl e => .inl e
    | .inr v => .inr (bkTn T c L (bkTn T c L (bkTn T c L (bkTn T c L i))), bkPut (bkPut (bkPut S 170 1) (130 + k) 1) (6 + k) v)) := by
    rw [← hk]; unfold bkLLand bkCell; rw [e]; dsimp only; rw [e']; rfl
  rw [g68]
  refine ⟨by unfold bk_r32; omega, by unfold bk_r32; omega, by omega, fun z => ⟨by omega, .inr rfl, fun M10 e10' => ?_⟩, fun z => bk171 a5 (.inl (by omega)) (fun M' f e1 e2 => ⟨rfl, .inl rfl, rfl, bkQr_l (by rw [eO, if_pos (by omega)]) (bkFp_trans F5 (bkFp_o f)) rfl e1 e2⟩)⟩
  rw [if_neg (by omega)] at eO
  have F10 : bkFp M M10 := by rw [e10']; exact bkFp_trans F5 (bkFp_up (by unfold bkFa; omega) (by decide))
  have R10 : bkRdF M10 (bkPut (bkPut S 170 1) (130 + k) 1) := by rw [e10']; exact bkRdF_l R5 (by omega) (by rw [bkPut_o (by decide)]; exact hS.2.2.1.2)
  refine bk_use (S162c (bkRt_p h F10) (i := bkTn T c L (bkTn T c L (bkTn T c L i))) (by rw [e10', bk_up_k (by decide)]; exact a5.2.2.2.1) (by omega)) (fun r M12 hM12 => ⟨rfl, by unfold bk_r32; omega, ?_⟩)
  obtain ⟨f12, ⟨k12, -⟩, a12⟩ := hM12
  have F12 := bkFp_trans F10 (bkFp_o f12)
  refine bk174 (bkRt_p h F12) a12 (by omega) (fun w q M' e' f e1 e2 => ⟨rfl, ?_⟩) (fun v M15 e'' f15 e13' e10'' a15 => ⟨rfl, ?_⟩)
  · rw [E_175]
    refine ⟨fun _ => ⟨.inl rfl, rfl, .inl rfl, rfl, bkQr_l (by rw [eO, e']) (bkFp_trans F12 (bkFp_o f)) rfl e1 e2⟩, fun w => absurd rfl w⟩
  · rw [E_175]
    refine ⟨fun w => absurd w (by decide), fun _ => ⟨by omega, fun M18 e18 => ⟨.inr rfl, rfl, .inr rfl, rfl, ?_⟩⟩⟩
    rw [e13'] at e18
    refine bkQr_r (by rw [eO, e'']) (by rw [e18]; exact bkFp_trans (bkFp_trans F12 (bkFp_o f15)) (bkFp_up (by unfold bkFa; omega) (by decide))) rfl (by rw [e18, bk_up_k (by decide), e10'', k12, e10', bk_up_k (by decide), e10, k2]) (bkAtR_e a15 (by rw [e18, bk_up_f (by decide)])) (by rw [e18]; exact bkRdF_v (bkRdF_o (bkRdF_o R10 f12) f15) (by omega))
/-- a purse, its side known -/
theorem bk186 {d : Nat} {M0 M : bk_M} {T : Int → Int} {c L i s : Int} {S : Int → Int} (hs : s = 0 ∨ s = 1) (h : bkRt M T c L) (f0 : bkFp M0 M) (e10 : M 12 0 10 = M0 12 0 10) (hA : bkAtR M T c L i) (h0 : 0 ≤ i ∧ i ≤ c) (ht : bkTk T c L i = 2) (hS : bkSv S) (hR : bkRdF M S) {O : (Int × Int) ⊕ (Int × (Int → Int))} (hO : O = bkLOne T c L S (bkTn T c L i) (bkTf T c L i) (123 + s) (78 + s) 99 S) :
    bk_C (d + 4) 0 172 [bk_c 12 0, bk_i (3 + s)] M (fun t12 r10 M11 => t12 = 0 ∧ ((r10 = 0 → ((0 : Int) = 0 ∨ (0 : Int) = 1) ∧ ((0 : Nat) = 0 ∧ bkQr T c L M0 0 M11 O)) ∧ (¬ (r10 = 0) → bk_r32 (78 + s) ∧ bk_C (d + 4) 0 174 [bk_c 12 0, bk_i 0, bk_i 99] M11 (fun t15 r13 M14 => t15 = 0 ∧ bk_C (d + 4) 0 175 [bk_c 12 0, bk_i (78 + s), bk_i r13] M14 (fun t18 r16 M17 => t18 = 0 ∧ ((r16 = 0 → ((0 : Int) = 0 ∨ (0 : Int) = 1) ∧ ((0 : Nat) = 0 ∧ bkQr T c L M0 0 M17 O)) ∧ (¬ (r16 = 0) → ((1 : Int) = 0 ∨ (1 : Int) = 1) ∧ ((0 : Nat) = 0 ∧ bkQr T c L M0 1 M17 O)))))))) := by
  have hn := @bkTn_b T c L i h0.2
  have gs := hS.2.2.2.2.2.2.1 (123 + s) (by omega) (by omega)
  have g : M 67 0 (3 + s) = S (123 + s) := by rw [hR.2.1 (3 + s) (by omega) (by omega), show (120 : Int) + (3 + s) = 123 + s by omega]
  refine bk172 (k := 3 + s) h hA h0 (by omega) (by omega) (fun z M' f e1 e2 => ⟨rfl, fun _ => ⟨.inl rfl, rfl, bkQr_l (by rw [hO]; unfold bkLOne; rw [if_pos (by omega)]) (bkFp_trans f0 (bkFp_o f)) rfl e1 e2⟩, fun w => absurd rfl w⟩) (fun z M11 f11 k11 a11 => ⟨rfl, fun w => absurd w (by decide), fun _ => ⟨by unfold bk_r32; omega, ?_⟩⟩)
  have F11 : bkFp M0 M11 := bkFp_trans f0 (bkFp_trans (bkFp_up (by unfold bkFa; omega) (by decide)) (bkFp_o f11))
  have R11 : bkRdF M11 (bkPut S (123 + s) 1) := by
    have := bkRdF_o (bkRdF_1 (k := 3 + s) hR (by omega)) f11
    rwa [show (120 : Int) + (3 + s) = 123 + s by omega] at this
  have no : ¬ S (123 + s) = 1 := by omega
  refine bk174 (bkRt_p h (bkFp_trans (bkFp_up (by unfold bkFa; omega) (by decide)) (bkFp_o f11))) a11 (by omega) (fun w q M' e f e1 e2 => ⟨rfl, ?_⟩) (fun v M14 e f14 e13 e10' a14 => ⟨rfl, ?_⟩)
  · rw [E_175]
    exact ⟨fun _ => ⟨.inl rfl, rfl, fun _ => ⟨.inl rfl, rfl, bkQr_l (by rw [hO]; unfold bkLOne; rw [if_neg no, e]) (bkFp_trans F11 (bkFp_o f)) rfl e1 e2⟩, fun w => absurd rfl w⟩, fun w => absurd rfl w⟩
  · rw [E_175]
    refine ⟨fun w => absurd w (by decide), fun _ => ⟨by omega, fun M17 e17 => ⟨.inr rfl, rfl, fun w => absurd w (by decide), fun _ => ⟨.inr rfl, rfl, ?_⟩⟩⟩⟩
    rw [e13] at e17
    exact bkQr_r (by rw [hO]; unfold bkLOne; rw [if_neg no, e]) (by rw [e17]; exact bkFp_trans (bkFp_trans F11 (bkFp_o f14)) (bkFp_up (by unfold bkFa; omega) (by decide))) rfl (by rw [e17, bk_up_k (by decide), e10', k11, e10]) (bkAtR_e a14 (by rw [e17, bk_up_f (by decide)])) (by rw [e17]; exact bkRdF_v (bkRdF_o R11 f14) (by omega))
theorem S187c {d : Nat} {Q : bk_Q} {M : bk_M} {T : Int → Int} {c L i : Int} (h : bkAtR M T c L i) : bk_C (d + 4) 0 187 [bk_c 12 0] M Q ↔ Q 0 (if bkIsW T c L i 6 = true ∨ bkIsW T c L i 7 = true then 1 else 0) M := by
  refine bk_det (fun Q hQ => ?_) Q
  rw [E_187, S167c (w := 6) (a := 15) h (by decide) rfl]
  refine ⟨rfl, fun z => ⟨.inr rfl, ?_⟩, fun z => ?_⟩
  · have w : bkIsW T c L i 6 = true := by
      by_cases q : bkIsW T c L i 6 = true
      · exact q
      · exact absurd (if_neg q) z
    rwa [if_pos (.inl w)] at hQ
  · have w6 : ¬ bkIsW T c L i 6 = true := fun q => z (by rw [show ((6 : Nat) : Int) = 6 from rfl, if_pos q]; decide)
    rw [S167c (w := 7) (a := 16) h (by decide) rfl]
    refine ⟨rfl, fun z2 => ⟨.inl rfl, ?_⟩, fun z2 => ⟨.inr rfl, ?_⟩⟩
    · have w7 : ¬ bkIsW T c L i 7 = true := fun q => by rw [show ((7 : Nat) : Int) = 7 from rfl, if_pos q] at z2; exact absurd z2 (by decide)
      rwa [if_neg (by rintro (q | q); exact w6 q; exact w7 q)] at hQ
    · have w : bkIsW T c L i 7 = true := by
        by_cases q : bkIsW T c L i 7 = true
        · exact q
        · exact absurd (if_neg q) z2
      rwa [if_pos (.inr w)] at hQ
theorem S186c {d : Nat} {M : bk_M} {T : Int → Int} {c L i : Int} {S : Int → Int} (h : bkRt M T c L) (hA : bkAtR M T c L i) (h0 : 0 ≤ i ∧ i ≤ c) (hS : bkSv S) (hR : bkRdF M S) : bk_C (d + 5) 0 186 [bk_c 12 0] M (fun t r M' => t = 0 ∧ bkQr T c L M r M' (bkLPurse T c L S (bkTn T c L i))) := by
  have hn := @bkTn_b T c L i h0.2
  rw [E_186]
  refine bk_use (S162c h hA.2.2.2.1 (by omega)) (fun r M2 hM2 => ⟨rfl, ?_⟩)
  obtain ⟨f2, ⟨k2, -⟩, a2⟩ := hM2
  have R2 := bkRdF_o hR f2
  have t2 : ∀ {a}, bkIsW T c L (bkTn T c L i) a = true → bkTk T c L (bkTn T c L i) = 2 := fun w => by unfold bkIsW at w; rw [decide_eq_true_eq] at w; exact w.1
  refine (S187c a2).2 ⟨rfl, fun z => (S167c (w := 6) (a := 15) a2 (by decide) rfl).2 ⟨rfl, fun z2 => ?_, fun z2 => ?_⟩, fun z => bk171 a2 (.inr rfl) (fun M' f e1 e2 => ⟨rfl, .inl rfl, rfl, bkQr_l ?_ (bkFp_trans (bkFp_o f2) (bkFp_o f)) rfl e1 e2⟩)⟩
  · have w6 : ¬ bkIsW T c L (bkTn T c L i) 6 = true := fun q => by rw [show ((6 : Nat) : Int) = 6 from rfl, if_pos q] at z2; exact absurd z2 (by decide)
    have w7 : bkIsW T c L (bkTn T c L i) 7 = true := by
      by_cases q : bkIsW T c L (bkTn T c L i) 7 = true
      · exact q
      · exact absurd (if_neg (by rintro (r | r); exact w6 r; exact q r)) z
    exact ⟨by unfold bk_r32; omega, bk186 (s := 1) (.inr rfl) (bkRt_o h f2) (bkFp_o f2) k2 a2 (by omega) (t2 w7) hS R2 (by unfold bkLPurse; rw [if_neg w6, if_pos w7]; rfl)⟩
  · have w6 : bkIsW T c L (bkTn T c L i) 6 = true := by
      by_cases q : bkIsW T c L (bkTn T c L i) 6 = true
      · exact q
      · exact absurd (if_neg q) z2
    exact ⟨by unfold bk_r32; omega, bk186 (s := 0) (.inl rfl) (bkRt_o h f2) (bkFp_o f2) k2 a2 (by omega) (t2 w6) hS R2 (by unfold bkLPurse; rw [if_pos w6]; rfl)⟩
  · have no : ¬ (bkIsW T c L (bkTn T c L i) 6 = true ∨ bkIsW T c L (bkTn T c L i) 7 = true) := fun q => z (by rw [if_pos q]; decide)
    unfold bkLPurse
    rw [if_neg fun q => no (.inl q), if_neg fun q => no (.inr q)]
