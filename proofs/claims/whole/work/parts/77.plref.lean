theorem S167d {d : Nat} {Q : bk_Q} {M : bk_M} {T : Int → Int} {c L i : Int} (h : bkAtR M T c L i) {w : Nat} {b : Int} (hw : w < 25) (hb : b = w) {a : Int} (ha : a = bkWn w) : bk_C (d + 3) 0 167 [bk_c 12 0, bk_i a] M Q ↔ Q 0 (if bkIsW T c L i b = true then 1 else 0) M := by
  rw [S167c h hw ha, hb]
/-- source and ice, as the reference reads them -/
theorem bk166o {d : Nat} {M : bk_M} {T : Int → Int} {c L i : Int} {S : Int → Int} (h : bkRt M T c L) (hA : bkAtR M T c L i) (h0 : 0 ≤ i ∧ i ≤ c) (ht : bkTk T c L i = 2) (hS : bkSv S) (hR : bkRdF M S) (hw : bkLine T c L S i = bkLIce T c L S (bkTn T c L i) (bkTf T c L i)) : bk_C (d + 5) 0 172 [bk_c 12 0, bk_i 2] M (fun t27 r25 M26 => t27 = 0 ∧ ((r25 = 0 → ((0 : Int) = 0 ∨ (0 : Int) = 1) ∧ ((0 : Nat) = 0 ∧ bkQr T c L M 0 M26 (bkLine T c L S i))) ∧ (¬ (r25 = 0) → bk_C (d + 5) 0 174 [bk_c 12 0, bk_i 0, bk_i 5] M26 (fun t30 r28 M29 => t30 = 0 ∧ bk_C (d + 5) 0 175 [bk_c 12 0, bk_i 5, bk_i r28] M29 (fun t33 r31 M32 => t33 = 0 ∧ ((r31 = 0 → ((0 : Int) = 0 ∨ (0 : Int) = 1) ∧ ((0 : Nat) = 0 ∧ bkQr T c L M 0 M32 (bkLine T c L S i))) ∧ (¬ (r31 = 0) → ((1 : Int) = 0 ∨ (1 : Int) = 1) ∧ ((0 : Nat) = 0 ∧ bkQr T c L M 1 M32 (bkLine T c L S i))))))))) := by
  have hn := @bkTn_b T c L i h0.2
  have gs := hS.2.2.2.2.2.2.1 122 (by omega) (by omega)
  have g : M 67 0 2 = S 122 := hR.2.1 2 (by omega) (by omega)
  rw [hw]
  refine bk172 h hA h0 (by omega) (by omega) (fun z M' f e1 e2 => ⟨rfl, fun _ => ⟨.inl rfl, rfl, bkQr_l (by unfold bkLIce bkLOne; rw [if_pos (by omega)]) (bkFp_o f) rfl e1 e2⟩, fun w => absurd rfl w⟩) (fun z M11 f11 k11 a11 => ⟨rfl, fun w => absurd w (by decide), fun _ => ?_⟩)
  have F11 : bkFp M M11 := bkFp_trans (bkFp_up (by unfold bkFa; omega) (by decide)) (bkFp_o f11)
  have R11 : bkRdF M11 (bkPut S 122 1) := bkRdF_o (bkRdF_1 (k := 2) hR (by omega)) f11
  have no : ¬ S 122 = 1 := by omega
  refine bk174 (bkRt_p h F11) a11 (by omega) (fun w q M' e f e1 e2 => ⟨rfl, ?_⟩) (fun v M14 e f14 e13 e10' a14 => ⟨rfl, ?_⟩)
  · rw [E_175]
    exact ⟨fun _ => ⟨.inl rfl, rfl, fun _ => ⟨.inl rfl, rfl, bkQr_l (by unfold bkLIce bkLOne; rw [if_neg no, e]) (bkFp_trans F11 (bkFp_o f)) rfl e1 e2⟩, fun w => absurd rfl w⟩, fun w => absurd rfl w⟩
  · rw [E_175]
    refine ⟨fun w => absurd w (by decide), fun _ => ⟨by omega, fun M17 e17 => ⟨.inr rfl, rfl, fun w => absurd w (by decide), fun _ => ⟨.inr rfl, rfl, ?_⟩⟩⟩⟩
    rw [e13] at e17
    exact bkQr_r (by unfold bkLIce bkLOne; rw [if_neg no, e]) (by rw [e17]; exact bkFp_trans (bkFp_trans F11 (bkFp_o f14)) (bkFp_up (by unfold bkFa; omega) (by decide))) rfl (by rw [e17, bk_up_k (by decide), e10', k11]) (bkAtR_e a14 (by rw [e17, bk_up_f (by decide)])) (by rw [e17]; exact bkRdF_v (bkRdF_o R11 f14) (by omega))
theorem bk166s {d : Nat} {M : bk_M} {T : Int → Int} {c L i : Int} {S : Int → Int} (h : bkRt M T c L) (hA : bkAtR M T c L i) (h0 : 0 ≤ i ∧ i ≤ c) (ht : bkTk T c L i = 2) (hS : bkSv S) (hR : bkRdF M S) (hw : bkLine T c L S i = bkLSource T c L S (bkTn T c L i) (bkTf T c L i)) : bk_C (d + 5) 0 172 [bk_c 12 0, bk_i 1] M (fun t27 r25 M26 => t27 = 0 ∧ ((r25 = 0 → ((0 : Int) = 0 ∨ (0 : Int) = 1) ∧ ((0 : Nat) = 0 ∧ bkQr T c L M 0 M26 (bkLine T c L S i))) ∧ (¬ (r25 = 0) → bk_C (d + 5) 0 177 [bk_c 12 0] M26 (fun t30 r28 M29 => t30 = 0 ∧ bk_C (d + 5) 0 175 [bk_c 12 0, bk_i 4, bk_i r28] M29 (fun t33 r31 M32 => t33 = 0 ∧ ((r31 = 0 → ((0 : Int) = 0 ∨ (0 : Int) = 1) ∧ ((0 : Nat) = 0 ∧ bkQr T c L M 0 M32 (bkLine T c L S i))) ∧ (¬ (r31 = 0) → ((1 : Int) = 0 ∨ (1 : Int) = 1) ∧ ((0 : Nat) = 0 ∧ bkQr T c L M 1 M32 (bkLine T c L S i))))))))) := by
  have hn := @bkTn_b T c L i h0.2
  have gs := hS.2.2.2.2.2.2.1 121 (by omega) (by omega)
  have g : M 67 0 1 = S 121 := hR.2.1 1 (by omega) (by omega)
  rw [hw]
  refine bk172 h hA h0 (by omega) (by omega) (fun z M' f e1 e2 => ⟨rfl, fun _ => ⟨.inl rfl, rfl, bkQr_l (by unfold bkLSource bkLOne; rw [if_pos (by omega)]) (bkFp_o f) rfl e1 e2⟩, fun w => absurd rfl w⟩) (fun z M11 f11 k11 a11 => ⟨rfl, fun w => absurd w (by decide), fun _ => ?_⟩)
  have F11 : bkFp M M11 := bkFp_trans (bkFp_up (by unfold bkFa; omega) (by decide)) (bkFp_o f11)
  have R11 : bkRdF M11 (bkPut S 121 1) := bkRdF_o (bkRdF_1 (k := 1) hR (by omega)) f11
  have no : ¬ S 121 = 1 := by omega
  refine bk177 (bkRt_p h F11) a11 (by omega) hS (by rw [R11.1 2 (by omega) (by omega), bkPut_o (by decide)]) (fun w q M' e f e1 e2 => ⟨rfl, ?_⟩) (fun v M14 e f14 e13 e10' a14 => ⟨rfl, ?_⟩)
  · rw [E_175]
    exact ⟨fun _ => ⟨.inl rfl, rfl, fun _ => ⟨.inl rfl, rfl, bkQr_l (by unfold bkLSource bkLOne; rw [if_neg no, e]) (bkFp_trans F11 (bkFp_trans bkFp_26 (bkFp_o f))) rfl e1 e2⟩, fun w => absurd rfl w⟩, fun w => absurd rfl w⟩
  · rw [E_175]
    refine ⟨fun w => absurd w (by decide), fun _ => ⟨by omega, fun M17 e17 => ⟨.inr rfl, rfl, fun w => absurd w (by decide), fun _ => ⟨.inr rfl, rfl, ?_⟩⟩⟩⟩
    rw [e13] at e17
    have ext : bkPut (bkPut (bkPut S 170 1) 121 1) 4 v = bkPut (bkPut (bkPut S 121 1) 170 1) 4 v := by
      funext j
      unfold bkPut
      (repeat' split) <;> first | rfl | omega
    refine bkQr_r (by unfold bkLSource bkLOne; rw [if_neg no, e]) (by rw [e17]; exact bkFp_trans (bkFp_trans F11 (bkFp_trans bkFp_26 (bkFp_o f14))) (bkFp_up (by unfold bkFa; omega) (by decide))) rfl (by rw [e17, bk_up_k (by decide), e10', k11]) (bkAtR_e a14 (by rw [e17, bk_up_f (by decide)])) (by rw [ext, e17]; exact bkRdF_v (bkRdF_o (bkRdF_c R11) f14) (by omega))
theorem S166c {d : Nat} {M : bk_M} {T : Int → Int} {c L i : Int} {S : Int → Int} (h : bkRt M T c L) (hA : bkAtR M T c L i) (h0 : 0 ≤ i ∧ i ≤ c) (hS : bkSv S) (hR : bkRdF M S) : bk_C (d + 6) 0 166 [bk_c 12 0] M (fun t r M' => t = 0 ∧ bkQr T c L M r M' (bkLine T c L S i)) := by
  have tk : ∀ {a}, bkIsW T c L i a = true → bkTk T c L i = 2 := fun w => by unfold bkIsW at w; rw [decide_eq_true_eq] at w; exact w.1
  have no : ∀ {a : Int}, (if bkIsW T c L i a = true then (1 : Int) else 0) = 0 → ¬ bkIsW T c L i a = true := fun z q => by rw [if_pos q] at z; exact absurd z (by decide)
  have ye : ∀ {a : Int}, ¬ (if bkIsW T c L i a = true then (1 : Int) else 0) = 0 → bkIsW T c L i a = true := fun {a} z => by
    by_cases q : bkIsW T c L i a = true
    · exact q
    · exact absurd (if_neg q) z
  have fin : ∀ {O : (Int × Int) ⊕ (Int × (Int → Int))} {m : Nat} {as : List bk_V}, bkLine T c L S i = O → bk_C (d + 5) 0 m as M (fun t r M' => t = 0 ∧ bkQr T c L M r M' O) → bk_C (d + 5) 0 m as M (fun t r M' => t = 0 ∧ (r = 0 ∨ r = 1) ∧ (0 : Nat) = 0 ∧ bkQr T c L M r M' (bkLine T c L S i)) := fun {O m as} e q => bk_use q fun r M' hM' => ⟨rfl, bkQr_b hM', rfl, by rw [e]; exact hM'⟩
  rw [E_166]
  refine (S167d (w := 0) (b := 0) (a := 0) hA (by decide) rfl rfl).2 ⟨rfl, fun z0 => (S167d (w := 1) (b := 1) (a := 1) hA (by decide) rfl rfl).2 ⟨rfl, fun z1 => (S167d (w := 2) (b := 2) (a := 2) hA (by decide) rfl rfl).2 ⟨rfl, fun z2 => (S167d (w := 3) (b := 3) (a := 3) hA (by decide) rfl rfl).2 ⟨rfl, fun z3 => (S167d (w := 4) (b := 4) (a := 4) hA (by decide) rfl rfl).2 ⟨rfl, fun z4 => (S167d (w := 5) (b := 5) (a := 5) hA (by decide) rfl rfl).2 ⟨rfl, fun z5 => (S167d (w := 8) (b := 8) (a := 6) hA (by decide) rfl rfl).2 ⟨rfl, fun z8 => ?_, fun z8 => ?_⟩, fun z5 => ?_⟩, fun z4 => ?_⟩, fun z3 => ?_⟩, fun z2 => ?_⟩, fun z1 => ?_⟩, fun z0 => ?_⟩
  · refine bk171 hA (.inr rfl) (fun M' f e1 e2 => ⟨rfl, .inl rfl, rfl, bkQr_l ?_ (bkFp_o f) rfl e1 e2⟩)
    unfold bkLine
    rw [if_neg (no z0), if_neg (no z1), if_neg (no z2), if_neg (no z3), if_neg (no z4), if_neg (no z5), if_neg (no z8)]
  · exact bk166o h hA h0 (tk (ye z8)) hS hR (by unfold bkLine; rw [if_neg (no z0), if_neg (no z1), if_neg (no z2), if_neg (no z3), if_neg (no z4), if_neg (no z5), if_pos (ye z8)])
  · exact fin (by unfold bkLine; rw [if_neg (no z0), if_neg (no z1), if_neg (no z2), if_neg (no z3), if_neg (no z4), if_pos (ye z5)]) (S186c h hA h0 hS hR)
  · exact fin (by unfold bkLine; rw [if_neg (no z0), if_neg (no z1), if_neg (no z2), if_neg (no z3), if_pos (ye z4)]) (S185c h hA h0 (by have := tk (ye z4); omega) hS hR)
  · exact fin (by unfold bkLine; rw [if_neg (no z0), if_neg (no z1), if_neg (no z2), if_pos (ye z3)]) (S179c h hA h0 (by have := tk (ye z3); omega) hS hR)
  · exact bk166s h hA h0 (tk (ye z2)) hS hR (by unfold bkLine; rw [if_neg (no z0), if_neg (no z1), if_pos (ye z2)])
  · exact fin (by unfold bkLine; rw [if_neg (no z0), if_pos (ye z1)]) (S176c h hA h0 hS hR)
  · exact fin (by unfold bkLine; rw [if_pos (ye z0)]) (S170c h hA h0 (by have := tk (ye z0); omega) hS hR)
