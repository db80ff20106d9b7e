/-! The reference reads a ONE, whole. -/
def bkCw (n : Nat) : Nat := if n = 14 then 16 else if n = 15 then 6 else if n = 16 then 7 else n
theorem bkCw_v : ∀ n : Nat, n < 25 → 14 ≤ n → bkCw n < 25 ∧ bkWn (bkCw n) = n := by decide
theorem bkCw_w : ∀ w : Nat, w < 25 → (w = 6 ∨ w = 7 ∨ 16 ≤ w) → 14 ≤ bkWn w ∧ bkWn w < 25 ∧ bkCw (bkWn w).toNat = w := by decide
theorem bkNc_w : ∀ w : Nat, w < 25 → (w = 6 ∨ w = 7 ∨ 17 ≤ w) → 50 + bkWn w = bkNc w ∧ (17 ≤ w → bkWn w = w) ∧ (w < 17 → bkWn w < 17) ∧ bkWn w ≠ 14 := by decide
/-- the reference's number of the word here, if a ONE begins with it; else 25 -/
def bkXv (T : Int → Int) (c L i : Int) : Int := if bkTk T c L i = 2 ∧ (bkWd T c i = 6 ∨ bkWd T c i = 7 ∨ 16 ≤ bkWd T c i) then bkWn (bkWd T c i).toNat else 25
theorem bkXv_b {T : Int → Int} {c L i : Int} : bkXv T c L i = 25 ∨ (14 ≤ bkXv T c L i ∧ bkXv T c L i ≤ 24 ∧ bkTk T c L i = 2 ∧ (bkWd T c i = 6 ∨ bkWd T c i = 7 ∨ 16 ≤ bkWd T c i) ∧ bkXv T c L i = bkWn (bkWd T c i).toNat) := by
  have b := @bkWd_b T c i
  unfold bkXv
  by_cases z : bkTk T c L i = 2 ∧ (bkWd T c i = 6 ∨ bkWd T c i = 7 ∨ 16 ≤ bkWd T c i)
  · rw [if_pos z]
    have := bkCw_w (bkWd T c i).toNat (by omega) (by omega)
    exact .inr ⟨by omega, by omega, z.1, z.2, rfl⟩
  · rw [if_neg z]; exact .inl rfl
theorem bkBeg_x {T : Int → Int} {c L i : Int} : bkBeg T c L i = true ↔ (bkTk T c L i = 40 ∨ bkXv T c L i ≠ 25) := by
  have b := @bkWd_b T c i
  unfold bkBeg bkXv
  rw [decide_eq_true_eq]
  by_cases z : bkTk T c L i = 2 ∧ (bkWd T c i = 6 ∨ bkWd T c i = 7 ∨ 16 ≤ bkWd T c i)
  · rw [if_pos z]
    have := bkCw_w (bkWd T c i).toNat (by omega) (by omega)
    exact ⟨fun _ => .inr (by omega), fun _ => .inr z⟩
  · rw [if_neg z]
    exact ⟨fun q => q.elim .inl fun q => absurd q z, fun q => q.elim .inl fun q => absurd rfl q⟩
theorem L271_10 {d : Nat} {Q : bk_Q} {M : bk_M} {T : Int → Int} {c L i x1 : Int} (hA : bkAtR M T c L i) (h30 : bk_wp (bk_C (d + 3)) P_271 Q 0 30 [bk_c 12 0, bk_i x1, bk_i (bkXv T c L i), bk_x] [] M) : bk_wp (bk_C (d + 3)) P_271 Q 0 10 [bk_c 12 0, bk_i x1, bk_i 14, bk_x] [] M := by
  have key : ∀ (m n : Nat), n + m = 25 → 14 ≤ n → (∀ v : Nat, 14 ≤ v → v < n → ¬ bkIsW T c L i (bkCw v) = true) → bk_wp (bk_C (d + 3)) P_271 Q 0 10 [bk_c 12 0, bk_i x1, bk_i n, bk_x] [] M := by
    intro m
    induction m with
    | zero =>
      intro n hn h14 hv
      have e : bkXv T c L i = 25 := by
        rcases @bkXv_b T c L i with e | ⟨q1, q2, q3, q4, q5⟩
        · exact e
        · exfalso
          have b := @bkWd_b T c i
          have w := bkCw_w (bkWd T c i).toNat (by omega) (by omega)
          refine hv (bkWn (bkWd T c i).toNat).toNat (by omega) (by omega) ?_
          rw [w.2.2]
          unfold bkIsW
          rw [decide_eq_true_eq]
          refine ⟨q3, ?_⟩
          show bkWd T c i = _
          omega
      rw [e] at h30
      rw [L_271_10]
      refine ⟨fun _ => ?_, fun z => absurd (by omega) z⟩
      rwa [show (n : Int) = 25 by omega]
    | succ m ih =>
      intro n hn h14 hv
      obtain ⟨c1, c2⟩ := bkCw_v n (by omega) h14
      rw [L_271_10]
      refine ⟨fun z => absurd z (by omega), fun _ => (S167d (w := bkCw n) (b := (bkCw n : Nat)) hA c1 rfl c2.symm).2 ⟨rfl, fun z => ?_, fun z => ⟨by unfold bk_r32; omega, ?_⟩⟩⟩
      · have z : bkIsW T c L i (bkCw n : Nat) = true := by
          by_cases q : bkIsW T c L i (bkCw n : Nat) = true
          · exact q
          · exact absurd (if_neg q) z
        unfold bkIsW at z
        rw [decide_eq_true_eq] at z
        have zw : bkWd T c i = (bkCw n : Nat) := z.2
        have cases' : bkCw n = 6 ∨ bkCw n = 7 ∨ 16 ≤ bkCw n := by
          unfold bkCw
          (repeat' split) <;> omega
        have e : bkXv T c L i = n := by
          unfold bkXv
          rw [if_pos ⟨z.1, by omega⟩, zw, Int.toNat_natCast, c2]
        rwa [e] at h30
      · have := ih (n + 1) (by omega) (by omega) (fun v v0 v1 => by
          by_cases e : v = n
          · rw [e]
            intro q
            exact z (by rw [if_pos q]; decide)
          · exact hv v v0 (by omega))
        rwa [show ((n + 1 : Nat) : Int) = n + 1 by omega] at this
  exact key 11 14 rfl (by omega) (fun v v0 v1 => by omega)
theorem bkRR_271 {f : Int → Int} {m : Nat} {T : Int → Int} {c L : Int} (hL : 0 ≤ L ∧ L ≤ 940) (hm : m ≤ 10) : ∀ (k : Nat) (wi : Int), k ≤ 8 → wi = 8 - k → bkRR f m T c L (4 * k + 2) 271 wi (bkSOne f m T c L k) := by
  have ye : ∀ {i a : Int}, (if bkTk T c L i = a then (1 : Int) else 0) ≠ 0 → bkTk T c L i = a := fun {i a} z => by
    by_cases q : bkTk T c L i = a
    · exact q
    · exact absurd (if_neg q) z
  intro k
  induction k with
  | zero =>
    intro wi _ hd d M S i hC hA hH hS h57 hf
    show bk_C (d + 5 + 1) 0 271 _ _ _
    have bad : ∀ (a : Int) {O : (Int × Int) ⊕ (Int × (Int → Int))}, (bkTk T c L i ≠ 1 ∨ a = 1) → O = .inl (a, bkTf T c L i) → bk_C (d + 5) 0 171 [bk_c 12 0, bk_i a] M (fun t r M' => t = 0 ∧ (r = 0 ∨ r = 1) ∧ (0 : Nat) = 0 ∧ bkSR' T c L M r M' O) := fun a O ha e => bk171 hA ha (fun M' f' e1 e2 => ⟨rfl, bkSR'_l e (bkSq_o f') (bkRo_j f' (by decide)) rfl e1 e2⟩)
    rw [E_271]
    refine (S189c hA (by decide)).2 ⟨rfl, L271_10 hA ?_⟩
    rw [L_271_30, h57]
    have xb := @bkXv_b T c L i
    by_cases bg : bkBeg T c L i = true
    · have tx : bkSOne f m T c L 0 S i = .inl (4, bkTf T c L i) := by unfold bkSOne; rw [if_pos bg]
      have bx := bkBeg_x.1 bg
      have nk : bkTk T c L i ≠ 1 := by omega
      refine (fun tx => ⟨fun _ => tx, fun q => ⟨fun _ => tx, fun q2 => ?_⟩⟩) ?_
      rotate_left
      · rcases bx with bx | bx
        · rw [if_pos bx] at q; exact absurd (by decide) q
        · omega
      · exact ⟨fun _ => bad 4 (.inl nk) tx, fun _ => ⟨fun q => absurd (show wi = 8 by omega) q, fun _ => bad 4 (.inl nk) tx⟩⟩
    · have nx : ¬ (bkTk T c L i = 40 ∨ bkXv T c L i ≠ 25) := fun q => bg (bkBeg_x.2 q)
      refine ⟨fun q => absurd (.inl (ye q)) nx, fun _ => ⟨fun q => absurd (.inr (by omega)) nx, fun _ => bad 1 (.inr rfl) ?_⟩⟩
      unfold bkSOne; rw [if_neg bg]
  | succ k ih =>
    intro wi hk8 hd d M S i hC hA hH hS h57 hf
    show bk_C (d + (4 * k + 2) + 7 + 1) 0 271 _ _ _
    have ih := ih (wi + 1) (by omega) (by omega)
    have n1 := @bkTn_b T c L i hH.2.1
    have i0 := hH.1
    have hg := bkSG_one (f := f) (m := m) (T := T) (c := c) (L := L) hL k
    have wb := @bkWd_b T c i
    have bad : ∀ (a : Int) {O : (Int × Int) ⊕ (Int × (Int → Int))}, (bkTk T c L i ≠ 1 ∨ a = 1) → O = .inl (a, bkTf T c L i) → bk_C (d + (4 * k + 2) + 7) 0 171 [bk_c 12 0, bk_i a] M (fun t r M' => t = 0 ∧ (r = 0 ∨ r = 1) ∧ (0 : Nat) = 0 ∧ bkSR' T c L M r M' O) := fun a O ha e => bk171 hA ha (fun M' f' e1 e2 => ⟨rfl, bkSR'_l e (bkSq_o f') (bkRo_j f' (by decide)) rfl e1 e2⟩)
    rw [E_271]
    refine (S189c hA (by decide)).2 ⟨rfl, L271_10 hA ?_⟩
    rw [L_271_30, h57, hS.2.1]
    have xb := @bkXv_b T c L i
    by_cases bg : bkBeg T c L i = true
    · have bx := bkBeg_x.1 bg
      have nk : bkTk T c L i ≠ 1 := by omega
      have h0 := hH.2.2
      generalize hO : bkSOne f m T c L (k + 1) S i = O
      rw [bkSOne_s, if_neg (fun q => q bg)] at hO
      refine (fun tx => ⟨fun _ => tx, fun q => ⟨fun _ => tx, fun q2 => ?_⟩⟩) ?_
      rotate_left
      · rcases bx with bx | bx
        · rw [if_pos bx] at q; exact absurd (by decide) q
        · omega
      refine ⟨fun z => bad 4 (.inl nk) (by rw [← hO, if_pos (by omega)]), fun z => ⟨fun _ => ⟨by unfold bk_r32; omega, fun M4 e4 => ?_⟩, fun q => absurd (by omega) q⟩⟩
      have m57 : M4 12 0 57 = wi := by rw [e4, bk_up_s (by decide)]; exact h57
      rw [m57]
      refine ⟨by unfold bk_r32; omega, fun M5 e5 => ?_⟩
      rw [if_neg (by omega)] at hO
      have o5 : ∀ q, q ≠ 56 → q ≠ 57 → M5 12 0 q = M 12 0 q := fun q q1 q2 => by rw [e5, bk_up_s q2, e4, bk_up_s q1]
      have F5 : bkSq M M5 := by rw [e5, e4]; exact bkSq_trans (bkSq_up (by omega)) (bkSq_up (by omega))
      have e0 : bkPut S 0 (S 0 + 1) 0 = S 0 + 1 := bkPut_e
      have e1 : bkPut S 0 (S 0 + 1) 1 = S 1 := bkPut_o (by decide)
      have S5 : bkSnR M5 (bkPut S 0 (S 0 + 1)) := by
        obtain ⟨q1, q2, q3⟩ := hS
        unfold bkSnR
        rw [o5 55 (by decide) (by decide), e1, e0, show M5 12 0 56 = S 0 + 1 by rw [e5, bk_up_s (by decide), e4, bk_up_e], show M5 85 0 = M 85 0 by rw [e5, e4, bk_up_f (by decide), bk_up_f (by decide)]]
        refine ⟨q1, rfl, fun k k0 k1 => ?_⟩
        rw [bkPut_o (by omega), bkPut_o (by omega), bkPut_o (by omega), bkPut_o (by omega)]
        exact q3 k k0 k1
      have H5 : bkSH c (bkPut S 0 (S 0 + 1)) i := by
        unfold bkSH at *
        rw [e0, e1]
        omega
      generalize bkPut S 0 (S 0 + 1) = S1 at *
      refine bk_use (S162c (i := bkTn T c L i) (bkRt_sq hC F5) (by rw [o5 5 (by decide) (by decide)]; exact hA.2.2.2.1) (by omega)) (fun r6 M7 hM7 => ⟨rfl, ?_⟩)
      obtain ⟨f7, ⟨k10, -⟩, A7⟩ := hM7
      have F7 := bkSq_trans F5 (bkSq_o f7)
      have C7 := bkRt_sq hC F7
      have S7 := bkSnR_o S5 f7
      have w7 : M7 12 0 57 = wi + 1 := by rw [bkRo_j f7 (by decide), e5, bk_up_e]
      have t7 : M7 12 0 10 = M 12 0 10 := by rw [k10, o5 10 (by decide) (by decide)]
      have N7 := bkNmF_e hf F7
      have H7 := bkSH_n (T := T) (L := L) H5
      have close : ∀ {μ : Nat} {as : List bk_V}, bk_C (d + (4 * k + 2) + 7) 0 μ as M7 (fun t r M' => t = 0 ∧ bkSR' T c L M7 r M' O) → bk_C (d + (4 * k + 2) + 7) 0 μ as M7 (fun t28 r26 M27 => t28 = 0 ∧ bk_r32 ((M27 12 0 (57 : Int)) - (1 : Int)) ∧ ∀ M29 : bk_M, M29 = bk_up M27 12 0 (57 : Int) ((M27 12 0 (57 : Int)) - (1 : Int)) → (r26 = 0 ∨ r26 = 1) ∧ ((0 : Nat) = 0 ∧ bkSR' T c L M r26 M29 O)) := fun {μ as} hcl => bk_use hcl (fun r M' hM' => by
        obtain ⟨F', i', g1, g2⟩ := hM'
        rw [i', w7]
        refine ⟨rfl, by unfold bk_r32; omega, fun M29 e29 => ?_⟩
        have o29 : ∀ q, q ≠ 57 → M29 12 0 q = M' 12 0 q := fun q hq => by rw [e29, bk_up_s hq]
        have F29 : bkSq M M29 := bkSq_trans F7 (bkSq_trans F' (by rw [e29]; exact bkSq_up (by omega)))
        have z57 : M29 12 0 57 = M 12 0 57 := by rw [e29, bk_up_e, h57]; omega
        rcases O with ⟨w, q⟩ | ⟨j, S'⟩
        · obtain ⟨a1, a2, a3⟩ := g1 w q rfl
          exact bkSR'_l rfl F29 z57 a1 (by rw [o29 10 (by decide)]; exact a2) (by rw [o29 11 (by decide)]; exact a3)
        · obtain ⟨a1, a2, a3, a4, a5⟩ := g2 j S' rfl
          refine bkSR'_r rfl F29 z57 a1 (by rw [o29 10 (by decide), a2, t7]) (bkAtR_sq a3 fun q hq => o29 q (by omega)) ?_ (by rw [o29 58 (by decide)]; exact a5)
          unfold bkSnR
          rw [o29 55 (by decide), o29 56 (by decide), e29, bk_up_f (by decide)]
          exact a4)
      refine ⟨fun nb => ?_, fun nb => ?_⟩
      · have nb : ¬ bkTk T c L i = 40 := fun q => by rw [if_pos q] at nb; exact absurd nb (by decide)
        have bx : bkXv T c L i ≠ 25 := bx.resolve_left nb
        obtain ⟨x1, x2, x3, x4, x5⟩ := xb.resolve_left bx
        rw [if_neg nb] at hO
        refine ⟨fun nt => ?_, fun nt => ?_⟩
        · have nw : bkWd T c i ≠ 16 := fun q => by rw [q] at x5; exact nt (x5.trans (by decide))
          rw [if_neg nw] at hO
          obtain ⟨c1, c2, c3, c4⟩ := bkNc_w (bkWd T c i).toNat (by omega) (by omega)
          rw [show (((bkWd T c i).toNat : Nat) : Int) = bkWd T c i by omega] at c1
          have hw : 50 + bkXv T c L i = bkNc (bkWd T c i) := by rw [x5]; exact c1
          unfold bkSLeaf at hO
          refine ⟨fun z19 => ⟨fun z21 => close ?_, fun z21 => close ?_⟩, fun z19 => ?_⟩
          · rw [if_neg (by omega), if_pos (by omega)] at hO
            have := S277c (w := bkWd T c i) (d := d + (4 * k + 2) + 3) C7 A7 (by omega) S7 (by omega) hw (by omega)
            rw [← hO]; exact this
          · rw [if_pos (by omega)] at hO
            have := S275c (w := bkWd T c i) (d := d + (4 * k + 2) + 2) C7 A7 (by omega) N7 hm S7 (by omega) hw (by omega)
            rw [← hO]; exact this
          · rw [if_neg (by omega), if_neg (by omega)] at hO
            refine ⟨by unfold bk_r32; omega, bk_use (S274c (w := bkWd T c i) S7 (by omega) hw) (fun r17 M18 hM18 => ⟨rfl, fun M20 e20 => ?_⟩)⟩
            obtain ⟨er, f18, o18, s18⟩ := hM18
            have z20 : M20 12 0 57 = wi + 1 := by rw [e20, bk_up_s (by decide), o18 57 (by decide), w7]
            rw [z20]
            refine ⟨by unfold bk_r32; omega, fun M21 e21 => ?_⟩
            have o21 : ∀ q, q ≠ 57 → q ≠ 58 → M21 12 0 q = M18 12 0 q := fun q q1 q2 => by rw [e21, bk_up_s q1, e20, bk_up_s q2]
            have v := (@bkNp_v S1 (bkWd T c i) 0 0 0 (by omega)).2.1
            refine bkSR'_r hO.symm (bkSq_trans F7 (bkSq_trans f18 (by rw [e21, e20]; exact bkSq_trans (bkSq_up (by omega)) (bkSq_up (by omega))))) (by rw [e21, bk_up_e, h57]; omega) rfl (by rw [o21 10 (by decide) (by decide), o18 10 (by decide), t7]) (bkAtR_sq A7 fun q hq => by rw [o21 q (by omega) (by omega), o18 q (by omega)]) ?_ (by rw [e21, bk_up_s (by decide), e20, bk_up_e, er, v]; omega)
            unfold bkSnR
            rw [o21 55 (by decide) (by decide), o21 56 (by decide) (by decide), e21, e20, bk_up_f (by decide), bk_up_f (by decide)]
            exact s18
        · have nw : bkWd T c i = 16 := by
            have hc := bkCw_w (bkWd T c i).toNat (by omega) (by omega)
            have e14 : bkWn (bkWd T c i).toNat = 14 := by omega
            have h3 := hc.2.2
            rw [e14] at h3
            have : bkCw (14 : Int).toNat = 16 := by decide
            omega
          rw [if_pos nw] at hO
          refine close ?_
          have hh := ih (d + 2) M7 S1 _ C7 A7 H7 S7 w7 N7
          rw [show d + 2 + (4 * k + 2) + 4 = d + (4 * k + 2) + 3 + 3 by omega] at hh
          have := S273c hh (fun j S' e => by
            have hI := (hg S1 _ H7).2 j S' e
            have q1 := hI.2.2.1
            have q2 := hI.2.2.2.1
            have q3 := hI.2.2.2.2.1
            have q4 := hI.2.2.2.2.2.1
            have h7 := H7.2.2
            omega)
          have eO : bkNo (bkSOne f m T c L k S1 (bkTn T c L i)) = O := hO
          rw [eO] at this
          exact this
      · have nb : bkTk T c L i = 40 := by
          by_cases q : bkTk T c L i = 40
          · exact q
          · exact absurd (if_neg q) nb
        rw [if_pos nb] at hO
        refine close ?_
        have hh := bkRR_269 (bkRR_270 ih hg) (bkSG_seq (T := T) (L := L) hg (.inr rfl)) d M7 S1 _ C7 A7 H7 S7 w7 N7
        rw [show d + (4 * k + 2 + 1 + 1) + 4 = d + (4 * k + 2) + 3 + 3 by omega] at hh
        have := S272c hh (fun j S' e => by
          have hI := (bkSG_seq (T := T) (L := L) (bkSG_seq (T := T) (L := L) hg (.inr rfl)) (.inl rfl) S1 _ H7).2 j S' e
          have q0 := hI.1
          have q1 := hI.2.1
          omega) C7
        have eO : bkBr T c L (bkSSeq T c L (bkSSeq T c L (bkSOne f m T c L k) 15) 14 S1 (bkTn T c L i)) = O := hO
        rw [eO] at this
        exact this
    · have nx : ¬ (bkTk T c L i = 40 ∨ bkXv T c L i ≠ 25) := fun q => bg (bkBeg_x.2 q)
      refine ⟨fun q => absurd (.inl (ye q)) nx, fun _ => ⟨fun q => absurd (.inr (by omega)) nx, fun _ => bad 1 (.inr rfl) ?_⟩⟩
      rw [bkSOne_s, if_pos bg]
