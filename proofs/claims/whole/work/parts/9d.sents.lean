/-! The reference reads a ONE. -/
theorem bk276 {d m : Nat} {M : bk_M} {f T : Int → Int} {c L j : Int} {Q : bk_Q} (h : bkRt M T c L) (hA : bkAtR M T c L j) (h0 : 0 ≤ j ∧ j ≤ c) (hf : bkNmF M f m) (hm : m ≤ 10)
    (hl : ∀ a M', ((a = 1 ∧ ¬ bkIsW T c L j (-1) = true) ∨ (a = 3 ∧ bkIsW T c L j (-1) = true ∧ bkIx f (bkTw 32 T c j) m = -1)) → bkRo M M' → M' 12 0 10 = a → M' 12 0 11 = bkTf T c L j → Q 0 0 M')
    (hr : bkIsW T c L j (-1) = true → bkIx f (bkTw 32 T c j) m ≠ -1 → ∀ M', bkRo M M' → M' 12 0 13 = bkIx f (bkTw 32 T c j) m → M' 12 0 10 = M 12 0 10 → bkAtR M' T c L (bkTn T c L j) → Q 0 1 M') : bk_C (d + 4) 0 276 [bk_c 12 0] M Q := by
  have hn := @bkTn_b T c L j h0.2
  rw [E_276]
  refine (S182c hA).2 ⟨rfl, fun z => ⟨by omega, ?_⟩, fun z => bk171 hA (.inr rfl) (fun M' f' e1 e2 => ⟨rfl, .inl rfl, hl 1 M' (.inl ⟨rfl, fun w => z (by rw [if_pos w]; decide)⟩) f' e1 e2⟩)⟩
  have nm : bkIsW T c L j (-1) = true := by
    by_cases q : bkIsW T c L j (-1) = true
    · exact q
    · exact absurd (if_neg q) z
  have k2 : bkTk T c L j = 2 := by unfold bkIsW at nm; rw [decide_eq_true_eq] at nm; exact nm.1
  have v := bkTw_v k2
  have ix : bkIx (fun j => M 63 0 (0 + j)) (M 12 0 12) (M 58 0 0).toNat = bkIx f (bkTw 32 T c j) m := by
    rw [hA.2.2.2.2.1 k2, v.2, hf.2, show (m : Int).toNat = m by omega]
    exact bkIx_inj v.1 hf.1
  rw [S183c (.inr rfl) (by omega) (by rw [hf.2]; omega), ix]
  refine ⟨rfl, fun M7 e7 => ?_⟩
  have f7 : bkRo M M7 := ⟨by rw [e7]; exact bkFr_up (bkFr_refl _ _) ⟨rfl, rfl⟩, fun j' _ _ _ _ _ _ _ _ q => by rw [e7, bk_up_s q]⟩
  have A7 : bkAtR M7 T c L j := bkAtR_10 hA fun q _ _ q3 _ => by rw [e7, bk_up_s q3]
  rw [show M7 12 0 13 = bkIx f (bkTw 32 T c j) m by rw [e7, bk_up_e]]
  refine ⟨fun w => bk_use (S162c (i := bkTn T c L j) (bkRt_o h f7) A7.2.2.2.1 (by omega)) (fun r M9 hM9 => ⟨rfl, .inr rfl, ?_⟩), fun w => bk171 A7 (.inl (by omega)) (fun M' f' e1 e2 => ⟨rfl, .inl rfl, hl 3 M' (.inr ⟨rfl, nm, Decidable.not_not.1 w⟩) (bkRo_trans f7 f') e1 e2⟩)⟩
  obtain ⟨f9, ⟨k10, -, k13⟩, A9⟩ := hM9
  exact hr nm w M9 (bkRo_trans f7 f9) (by rw [k13, e7, bk_up_e]) (by rw [k10, e7, bk_up_s (by decide)]) A9
def bkSNm (f : Int → Int) (m : Nat) (T : Int → Int) (c L : Int) (S : Int → Int) (w j : Int) : (Int × Int) ⊕ (Int × (Int → Int)) :=
  if bkIsW T c L j (-1) = true then (if bkIx f (bkTw 32 T c j) m = -1 then .inl (3, bkTf T c L j) else .inr (bkTn T c L j, bkNp S w (bkIx f (bkTw 32 T c j) m) 0 0)) else .inl (1, bkTf T c L j)
def bkSCm (T : Int → Int) (c L : Int) (S : Int → Int) (w j : Int) : (Int × Int) ⊕ (Int × (Int → Int)) :=
  if bkTk T c L j = 60 ∨ bkTk T c L j = 61 ∨ bkTk T c L j = 62 then
      (if bkTk T c L (bkTn T c L j) = 3 then .inr (bkTn T c L (bkTn T c L j), bkNp S w 0 (bkTv T c (bkTn T c L j)) (bkTk T c L j)) else .inl (1, bkTf T c L (bkTn T c L j)))
      else .inl (1, bkTf T c L j)
theorem S275c {d m : Nat} {M : bk_M} {f T : Int → Int} {c L j w a1 : Int} {S : Int → Int} (h : bkRt M T c L) (hA : bkAtR M T c L j) (h0 : 0 ≤ j ∧ j ≤ c) (hf : bkNmF M f m) (hm : m ≤ 10) (hS : bkSnR M S) (hn : 0 ≤ S 1 ∧ S 1 < 60) (hw : 50 + a1 = bkNc w) (ha : 0 ≤ a1 ∧ a1 ≤ 24) : bk_C (d + 5) 0 275 [bk_c 12 0, bk_i a1] M (fun t r M' => t = 0 ∧ bkSR' T c L M r M' (bkSNm f m T c L S w j)) := by
  rw [E_275]
  refine bk276 h hA h0 hf hm (fun a M' ha' f' e1 e2 => ⟨rfl, fun z => absurd rfl z, fun _ => bkSR'_l (w := a) ?_ (bkSq_o f') (bkRo_j f' (by decide)) rfl e1 e2⟩) (fun nm q M2 f2 e13 e10 A2 => ⟨rfl, fun _ => ⟨by unfold bk_r32; omega, ?_⟩, fun z => absurd (by decide) z⟩)
  · unfold bkSNm
    rcases ha' with ha' | ha'
    · rw [if_neg ha'.2, ha'.1]
    · rw [if_pos ha'.2.1, if_pos ha'.2.2, ha'.1]
  · refine bk_use (S274c (w := w) (bkSnR_o hS f2) hn hw) (fun r M5 hM5 => ⟨rfl, fun M7 e7 => ?_⟩)
    obtain ⟨er, f5, o5, s5⟩ := hM5
    have o7 : ∀ q, q ≠ 58 → M7 12 0 q = M5 12 0 q := fun q hq => by rw [e7, bk_up_s hq]
    have v := (@bkNp_v S w (bkIx f (bkTw 32 T c j) m) 0 0 hn.1).2.1
    rw [e13] at s5
    refine bkSR'_r (by unfold bkSNm; rw [if_pos nm, if_neg q]) (bkSq_trans (bkSq_o f2) (bkSq_trans f5 (by rw [e7]; exact bkSq_up (by omega)))) (by rw [o7 57 (by decide), o5 57 (by decide), bkRo_j f2 (by decide)]) rfl (by rw [o7 10 (by decide), o5 10 (by decide), e10]) (bkAtR_sq A2 fun q hq => by rw [o7 q (by omega), o5 q (by omega)]) ?_ (by rw [e7, bk_up_e, er, v]; omega)
    unfold bkSnR
    rw [o7 55 (by decide), o7 56 (by decide), e7, bk_up_f (by decide)]
    exact s5
theorem S277c {d : Nat} {M : bk_M} {T : Int → Int} {c L j w a1 : Int} {S : Int → Int} (h : bkRt M T c L) (hA : bkAtR M T c L j) (h0 : 0 ≤ j ∧ j ≤ c) (hS : bkSnR M S) (hn : 0 ≤ S 1 ∧ S 1 < 60) (hw : 50 + a1 = bkNc w) (ha : 0 ≤ a1 ∧ a1 ≤ 24) : bk_C (d + 4) 0 277 [bk_c 12 0, bk_i a1] M (fun t r M' => t = 0 ∧ bkSR' T c L M r M' (bkSCm T c L S w j)) := by
  have nb := @bkTn_b T c L j h0.2
  have cmp : (bkTk T c L j = 60 ∨ bkTk T c L j = 61 ∨ bkTk T c L j = 62) → bk_C (d + 3) 0 162 [bk_c 12 0] M (fun t6 r4 M5 => t6 = 0 ∧ bk_C (d + 3) 0 174 [bk_c 12 0, bk_i (0 : Int), bk_i (999 : Int)] M5 (fun t9 r7 M8 => t9 = 0 ∧ ((r7 ≠ (0 : Int) → bk_r32 ((50 : Int) + a1) ∧ bk_C (d + 3) 0 274 [bk_c 12 0, bk_i ((50 : Int) + a1), bk_i (0 : Int), bk_i (M8 12 0 (13 : Int)), bk_i (M 12 0 (9 : Int))] M8 (fun t12 r10 M11 => t12 = 0 ∧ ∀ M13 : bk_M, M13 = bk_up M11 12 0 (58 : Int) r10 → ((1 : Int) = 0 ∨ (1 : Int) = 1) ∧ ((0 : Nat) = 0 ∧ bkSR' T c L M 1 M13 (bkSCm T c L S w j)))) ∧ (¬ (r7 ≠ (0 : Int)) → ((0 : Int) = 0 ∨ (0 : Int) = 1) ∧ ((0 : Nat) = 0 ∧ bkSR' T c L M 0 M8 (bkSCm T c L S w j)))))) := fun sg => by
    refine bk_use (S162c (i := bkTn T c L j) h hA.2.2.2.1 (by omega)) (fun r M5 hM5 => ⟨rfl, ?_⟩)
    obtain ⟨f5, ⟨k10, -⟩, A5⟩ := hM5
    refine bk174 (bkRt_o h f5) A5 (by omega) (fun w' q M8 e f8 e1 e2 => ⟨rfl, fun z => absurd rfl z, fun _ => bkSR'_l (w := 1) (q := bkTf T c L (bkTn T c L j)) ?_ (bkSq_o (bkRo_trans f5 f8)) (by rw [bkRo_j f8 (by decide), bkRo_j f5 (by decide)]) rfl ?_ ?_⟩) (fun v M8 e f8 e13 e10 A8 => ⟨rfl, fun _ => ⟨by unfold bk_r32; omega, ?_⟩, fun z => absurd (by decide) z⟩)
    · have nk : ¬ bkTk T c L (bkTn T c L j) = 3 := fun k3 => by
        have vb := bkTv_b k3
        unfold bkNu at e
        rw [if_pos k3, if_pos (by omega)] at e
        cases e
      unfold bkSCm
      rw [if_pos sg, if_neg nk]
    · unfold bkNu at e
      by_cases k3 : bkTk T c L (bkTn T c L j) = 3
      · have vb := bkTv_b k3
        rw [if_pos k3, if_pos (by omega)] at e
        cases e
      · rw [if_neg k3] at e
        cases e; exact e1
    · unfold bkNu at e
      by_cases k3 : bkTk T c L (bkTn T c L j) = 3
      · have vb := bkTv_b k3
        rw [if_pos k3, if_pos (by omega)] at e
        cases e
      · rw [if_neg k3] at e
        cases e; exact e2
    · obtain ⟨-, -, k3, ev, -⟩ := bkNu_r e
      have k9 : M 12 0 9 = bkTk T c L j := hA.2.1 (by omega)
      rw [e13, k9]
      refine bk_use (S274c (w := w) (bkSnR_o hS (bkRo_trans f5 f8)) hn hw) (fun r M11 hM11 => ⟨rfl, fun M13 e13' => ?_⟩)
      obtain ⟨er, f11, o11, s11⟩ := hM11
      have o7 : ∀ q, q ≠ 58 → M13 12 0 q = M11 12 0 q := fun q hq => by rw [e13', bk_up_s hq]
      have v' := (@bkNp_v S w 0 v (bkTk T c L j) hn.1).2.1
      refine bkSR'_r (by unfold bkSCm; rw [if_pos sg, if_pos k3]) (bkSq_trans (bkSq_o (bkRo_trans f5 f8)) (bkSq_trans f11 (by rw [e13']; exact bkSq_up (by omega)))) (by rw [o7 57 (by decide), o11 57 (by decide), bkRo_j f8 (by decide), bkRo_j f5 (by decide)]) rfl (by rw [o7 10 (by decide), o11 10 (by decide), e10, k10]) (bkAtR_sq A8 fun q hq => by rw [o7 q (by omega), o11 q (by omega)]) ?_ ?_
      · rw [← ev]
        unfold bkSnR
        rw [o7 55 (by decide), o7 56 (by decide), e13', bk_up_f (by decide)]
        exact s11
      · rw [← ev, e13', bk_up_e, er, v']; omega
  have ye : ∀ {a : Int}, (if bkTk T c L j = a then (1 : Int) else 0) ≠ 0 → bkTk T c L j = a := fun {a} z => by
    by_cases q : bkTk T c L j = a
    · exact q
    · exact absurd (if_neg q) z
  rw [E_277]
  refine (S189c hA (by decide)).2 ⟨rfl, fun z => cmp (.inl (ye z)), fun z => (S189c hA (by decide)).2 ⟨rfl, fun z2 => cmp (.inr (.inl (ye z2))), fun z2 => (S189c hA (by decide)).2 ⟨rfl, fun z3 => cmp (.inr (.inr (ye z3))), fun z3 => bk171 hA (.inr rfl) (fun M' f' e1 e2 => ⟨rfl, bkSR'_l ?_ (bkSq_o f') (bkRo_j f' (by decide)) rfl e1 e2⟩)⟩⟩⟩
  have no : ∀ {a : Int}, ¬ (if bkTk T c L j = a then (1 : Int) else 0) ≠ 0 → ¬ bkTk T c L j = a := fun {a} z q => z (by rw [if_pos q]; decide)
  unfold bkSCm
  rw [if_neg (fun q => q.elim (no z) fun q => q.elim (no z2) (no z3))]
def bkBr (T : Int → Int) (c L : Int) (O1 : (Int × Int) ⊕ (Int × (Int → Int))) : (Int × Int) ⊕ (Int × (Int → Int)) := match O1 with
  | .inl e => .inl e
  | .inr (j, S') => if bkTk T c L j = 41 then .inr (bkTn T c L j, S') else .inl (1, bkTf T c L j)
def bkNo (O1 : (Int × Int) ⊕ (Int × (Int → Int))) : (Int × Int) ⊕ (Int × (Int → Int)) := match O1 with
  | .inl e => .inl e
  | .inr (j, S') => .inr (j, bkNp S' 16 (S' 1 - 1) 0 0)
theorem S272c {d : Nat} {M : bk_M} {T : Int → Int} {c L : Int} {O1 : (Int × Int) ⊕ (Int × (Int → Int))} (hh : bk_C (d + 3) 0 269 [bk_c 12 0] M (fun t r M' => t = 0 ∧ bkSR' T c L M r M' O1)) (hb : ∀ j S', O1 = .inr (j, S') → 0 ≤ j ∧ j ≤ c) (h : bkRt M T c L) : bk_C (d + 4) 0 272 [bk_c 12 0] M (fun t r M' => t = 0 ∧ bkSR' T c L M r M' (bkBr T c L O1)) := by
  rw [E_272]
  refine bk_use hh (fun r M2 hM2 => ⟨rfl, ?_⟩)
  obtain ⟨F2, i2, g1, g2⟩ := hM2
  rcases O1 with ⟨w, q⟩ | ⟨j, S'⟩
  · obtain ⟨a1, a2, a3⟩ := g1 w q rfl
    exact ⟨fun z => absurd a1 z, fun _ => bkSR'_l rfl F2 i2 rfl a2 a3⟩
  · obtain ⟨a1, a2, a3, a4, a5⟩ := g2 j S' rfl
    have hj := hb j S' rfl
    have nj := @bkTn_b T c L j hj.2
    refine ⟨fun _ => (S189c a3 (by decide)).2 ⟨rfl, fun z => ?_, fun z => bk171 a3 (.inr rfl) (fun M' f' e1 e2 => ⟨rfl, bkSR'_l ?_ (bkSq_trans F2 (bkSq_o f')) (by rw [bkRo_j f' (by decide), i2]) rfl e1 e2⟩)⟩, fun z => absurd (show r ≠ 0 by omega) z⟩
    · have k : bkTk T c L j = 41 := by
        by_cases q : bkTk T c L j = 41
        · exact q
        · exact absurd (if_neg q) z
      refine bk_use (S162c (i := bkTn T c L j) (bkRt_sq h F2) a3.2.2.2.1 (by omega)) (fun r M8 hM8 => ⟨rfl, ?_⟩)
      obtain ⟨f8, ⟨k10, -⟩, A8⟩ := hM8
      exact bkSR'_r (by unfold bkBr; dsimp only; rw [if_pos k]) (bkSq_trans F2 (bkSq_o f8)) (by rw [bkRo_j f8 (by decide), i2]) rfl (by rw [k10, a2]) A8 (bkSnR_o a4 f8) (by rw [bkRo_j f8 (by decide), a5])
    · have k : ¬ bkTk T c L j = 41 := fun q => z (by rw [if_pos q]; decide)
      unfold bkBr
      dsimp only
      rw [if_neg k]
theorem S273c {d : Nat} {M : bk_M} {T : Int → Int} {c L : Int} {O1 : (Int × Int) ⊕ (Int × (Int → Int))} (hh : bk_C (d + 3) 0 271 [bk_c 12 0] M (fun t r M' => t = 0 ∧ bkSR' T c L M r M' O1)) (hb : ∀ j S', O1 = .inr (j, S') → 0 ≤ S' 1 ∧ S' 1 < 60) : bk_C (d + 4) 0 273 [bk_c 12 0] M (fun t r M' => t = 0 ∧ bkSR' T c L M r M' (bkNo O1)) := by
  rw [E_273]
  refine bk_use hh (fun r M2 hM2 => ⟨rfl, ?_⟩)
  obtain ⟨F2, i2, g1, g2⟩ := hM2
  rcases O1 with ⟨w, q⟩ | ⟨j, S'⟩
  · obtain ⟨a1, a2, a3⟩ := g1 w q rfl
    exact ⟨fun z => absurd a1 z, fun _ => bkSR'_l rfl F2 i2 rfl a2 a3⟩
  · obtain ⟨a1, a2, a3, a4, a5⟩ := g2 j S' rfl
    have hn := hb j S' rfl
    rw [a5]
    refine ⟨fun _ => bk_use (S274c (w := 16) a4 hn rfl) (fun r M5 hM5 => ⟨rfl, fun M7 e7 => ?_⟩), fun z => absurd (show r ≠ 0 by omega) z⟩
    obtain ⟨er, f5, o5, s5⟩ := hM5
    have o7 : ∀ q, q ≠ 58 → M7 12 0 q = M5 12 0 q := fun q hq => by rw [e7, bk_up_s hq]
    have v := (@bkNp_v S' 16 (S' 1 - 1) 0 0 hn.1).2.1
    refine bkSR'_r rfl (bkSq_trans F2 (bkSq_trans f5 (by rw [e7]; exact bkSq_up (by omega)))) (by rw [o7 57 (by decide), o5 57 (by decide), i2]) rfl (by rw [o7 10 (by decide), o5 10 (by decide), a2]) (bkAtR_sq a3 fun q hq => by rw [o7 q (by omega), o5 q (by omega)]) ?_ (by rw [e7, bk_up_e, er, v]; omega)
    unfold bkSnR
    rw [o7 55 (by decide), o7 56 (by decide), e7, bk_up_f (by decide)]
    exact s5
