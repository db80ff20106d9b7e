/-! What may be said: the reference. -/
def bkB : Bool → Int
  | true => 1
  | false => 0
theorem bkB_t {p : Prop} {h : Decidable p} (q : p) : bkB (decide p) = 1 := by rw [decide_eq_true q]; rfl
theorem bkB_f {p : Prop} {h : Decidable p} (q : ¬ p) : bkB (decide p) = 0 := by rw [decide_eq_false q]; rfl
theorem bkNc_k1 : ∀ w : Nat, w < 25 → (w = 6 ∨ w = 7 ∨ 14 ≤ w) → (bkNc w = 1 ↔ w = 16) ∧ (bkNc w = 2 ↔ w = 15) ∧ (bkNc w = 3 ↔ w = 14) ∧ (bkNc w = 65 ↔ w = 6) ∧ (bkNc w = 66 ↔ w = 7) := by decide
theorem bkNc_k2 : ∀ w : Nat, w < 25 → (w = 6 ∨ w = 7 ∨ 14 ≤ w) → (bkNc w = 67 ↔ w = 17) ∧ (bkNc w = 68 ↔ w = 18) ∧ (bkNc w = 69 ↔ w = 19) ∧ (bkNc w = 70 ↔ w = 20) ∧ (21 ≤ w → bkNc w = 50 + w) := by decide
theorem bkNc_k (w : Nat) (h : w < 25) (g : w = 6 ∨ w = 7 ∨ 14 ≤ w) : (bkNc w = 1 ↔ w = 16) ∧ (bkNc w = 2 ↔ w = 15) ∧ (bkNc w = 3 ↔ w = 14) ∧ (bkNc w = 65 ↔ w = 6) ∧ (bkNc w = 66 ↔ w = 7) ∧ (bkNc w = 67 ↔ w = 17) ∧ (bkNc w = 68 ↔ w = 18) ∧ (bkNc w = 69 ↔ w = 19) ∧ (bkNc w = 70 ↔ w = 20) ∧ (21 ≤ w → bkNc w = 50 + w) := by
  obtain ⟨a1, a2, a3, a4, a5⟩ := bkNc_k1 w h g
  exact ⟨a1, a2, a3, a4, a5, bkNc_k2 w h g⟩
theorem L279_382c {d : Nat} {Q : bk_Q} {x1 x2 x3 x4 x5 x6 y0 r : Int} {M : bk_M} (hx : 0 ≤ x3 ∧ x3 ≤ 430) (hr : M 58 0 (x3 + 3) = r) (h60 : 60 ≤ r ∧ r ≤ 62) (h : Q 0 (bkB (bkCm2 r y0 x5)) M) : bk_wp (bk_C d) P_279 Q 0 382 [bk_c 12 0, bk_i x1, bk_i x2, bk_i x3, bk_i x4, bk_i x5, bk_i x6, bk_x] [bk_i y0] M := by
  rw [L_279_382, hr]
  unfold bkCm2 at h
  refine ⟨by unfold bk_r32; omega, by omega, fun z => ⟨by unfold bk_r32; omega, by omega, fun z2 => ?_, fun z2 => ?_⟩, fun z => ?_⟩
  · rw [if_neg z, if_pos (by omega)] at h
    refine ⟨fun z3 => (L_279_452 ..).2 ⟨.inl rfl, ?_⟩, fun z3 => (L_279_452 ..).2 ⟨.inr rfl, ?_⟩⟩
    · rwa [bkB_f (by omega)] at h
    · rwa [bkB_t (by omega)] at h
  · rw [if_neg z, if_neg (by omega)] at h
    refine ⟨fun z3 => (L_279_452 ..).2 ⟨.inl rfl, ?_⟩, fun z3 => (L_279_452 ..).2 ⟨.inr rfl, ?_⟩⟩
    · rwa [bkB_f (by omega)] at h
    · rwa [bkB_t (by omega)] at h
  · rw [if_pos (by omega)] at h
    refine ⟨fun z3 => (L_279_452 ..).2 ⟨.inl rfl, ?_⟩, fun z3 => (L_279_452 ..).2 ⟨.inr rfl, ?_⟩⟩
    · rwa [bkB_f (by omega)] at h
    · rwa [bkB_t (by omega)] at h
theorem S279c {m : Nat} {M : bk_M} {S : Int → Int} (hN : bkMd (M 58 0)) (hS : bkSnN (M 58 0) S) (hv : bkSvS m S) (hm : M 58 0 0 = m) : ∀ (n d : Nat) (k f : Int) (Q : bk_Q), 0 ≤ k → k < n → k < S 1 → 0 ≤ f → f < M 58 0 0 → (bk_C (d + n + 4) 0 279 [bk_c 12 0, bk_i k, bk_i f] M Q ↔ Q 0 (bkB (bkEn (M 58 0) S n k f)) M) := by
  obtain ⟨-, v1, vw, vr⟩ := hv
  obtain ⟨n1, n2, n3, n4, n5, n6, n7, n8, n9, n10, -⟩ := id hN
  intro n
  induction n with
  | zero => intro d k f Q k0 k1; omega
  | succ n ih =>
    intro d k f Q k0 kn k1 f0 f1
    show bk_C (d + n + 4 + 1) 0 279 _ _ _ ↔ _
    refine bk_det (fun Q hQ => ?_) Q
    obtain ⟨s1, s2, s3, s4⟩ := hS.2.2 k k0 k1
    obtain ⟨w1, w2, w3⟩ := vw k k0 k1
    obtain ⟨c1, c2⟩ := bkRoots_ch vr k0 (by omega)
    have ff := n10 f f0 f1
    rw [bkEn_s] at hQ
    rw [E_279, show 197 + 4 * k + 1 = 198 + 4 * k by omega, show 197 + 4 * k + 2 = 199 + 4 * k by omega, s1, s2, s3]
    unfold bkLf at hQ
    generalize hw : S (10 + 4 * k) = w at *
    generalize ha : S (11 + 4 * k) = a at *
    generalize hb : S (12 + 4 * k) = b at *
    have hk := bkNc_k w.toNat (by omega) (by omega)
    rw [show ((w.toNat : Nat) : Int) = w by omega] at hk
    obtain ⟨t1, t2, t3, t4, t5, t6, t7, t8, t9, t10⟩ := hk
    unfold bk_r32
    refine ⟨by omega, by omega, by omega, by omega, by omega, by omega, by omega, fun z => ?_, fun z => ⟨fun z2 => ?_, fun z2 => ⟨fun z3 => ?_, fun z3 => ⟨fun z4 => ?_, fun z4 => ⟨fun z5 => ?_, fun z5 => ⟨fun z6 => ?_, fun z6 => ⟨fun z7 => ?_, fun z7 => ⟨fun z8 => ?_, fun z8 => ⟨fun z9 => ?_, fun z9 => ⟨by omega, by omega, fun u1 => ⟨fun u2 => ⟨fun u3 => ?_, fun u3 => ⟨by omega, by omega, ?_⟩⟩, fun u2 => ⟨by omega, by omega, by omega, by omega, by omega, by omega, by omega, by omega, ?_⟩⟩, fun u1 => ⟨by omega, by omega, ?_⟩⟩⟩⟩⟩⟩⟩⟩⟩⟩⟩
    · have w16 : w = 16 := by omega
      rw [if_pos w16] at hQ
      have cc := c1 (by omega)
      refine (ih d a f _ cc.1 (by omega) (by omega) f0 f1).2 ⟨rfl, ?_⟩
      cases e : bkEn (M 58 0) S n a f with
      | true => rw [e] at hQ; exact ⟨fun _ => (L_279_131 ..).2 ⟨.inl rfl, hQ⟩, fun q => absurd (show bkB true ≠ 0 by decide) q⟩
      | false => rw [e] at hQ; exact ⟨fun q => absurd rfl q, fun _ => (L_279_131 ..).2 ⟨.inr rfl, hQ⟩⟩
    · have w15 : w = 15 := by omega
      rw [if_neg (by omega), if_pos w15] at hQ
      have cc := c1 (by omega)
      have cc2 := c2 (by omega)
      refine (ih d a f _ cc.1 (by omega) (by omega) f0 f1).2 ⟨rfl, ?_⟩
      cases e : bkEn (M 58 0) S n a f with
      | false => rw [e] at hQ; exact ⟨fun _ => (L_279_156 ..).2 ((L_279_157 ..).2 ⟨.inl rfl, hQ⟩), fun q => absurd rfl q⟩
      | true =>
        rw [e] at hQ
        refine ⟨fun q => absurd q (by decide), fun _ => (ih d b f _ cc2.1 (by omega) (by omega) f0 f1).2 ⟨rfl, ?_⟩⟩
        cases e2 : bkEn (M 58 0) S n b f with
        | false => rw [e2] at hQ; exact ⟨fun _ => (L_279_156 ..).2 ((L_279_157 ..).2 ⟨.inl rfl, hQ⟩), fun q => absurd rfl q⟩
        | true => rw [e2] at hQ; exact ⟨fun q => absurd q (by decide), fun _ => (L_279_157 ..).2 ⟨.inr rfl, hQ⟩⟩
    · have w14 : w = 14 := by omega
      rw [if_neg (by omega), if_neg (by omega), if_pos w14] at hQ
      have cc := c1 (by omega)
      have cc2 := c2 (by omega)
      refine (ih d a f _ cc.1 (by omega) (by omega) f0 f1).2 ⟨rfl, ?_⟩
      cases e : bkEn (M 58 0) S n a f with
      | true => rw [e] at hQ; exact ⟨fun _ => (L_279_178 ..).2 ((L_279_183 ..).2 ⟨.inr rfl, hQ⟩), fun q => absurd (show bkB true ≠ 0 by decide) q⟩
      | false =>
        rw [e] at hQ
        refine ⟨fun q => absurd rfl q, fun _ => (ih d b f _ cc2.1 (by omega) (by omega) f0 f1).2 ⟨rfl, ?_⟩⟩
        cases e2 : bkEn (M 58 0) S n b f with
        | false => rw [e2] at hQ; exact ⟨fun _ => (L_279_183 ..).2 ⟨.inl rfl, hQ⟩, fun q => absurd rfl q⟩
        | true => rw [e2] at hQ; exact ⟨fun q => absurd q (by decide), fun _ => (L_279_178 ..).2 ((L_279_183 ..).2 ⟨.inr rfl, hQ⟩)⟩
    · rw [if_neg (by omega), if_neg (by omega), if_neg (by omega), if_pos (by omega)] at hQ
      refine (S194 hN f0 f1).2 ⟨rfl, fun q => (L_279_197 ..).2 ⟨.inl rfl, ?_⟩, fun q => (L_279_197 ..).2 ⟨.inr rfl, ?_⟩⟩
      · rwa [bkB_f q] at hQ
      · rwa [bkB_t (Decidable.not_not.1 q)] at hQ
    · rw [if_neg (by omega), if_neg (by omega), if_neg (by omega), if_neg (by omega), if_pos (by omega)] at hQ
      refine (S194 hN f0 f1).2 ⟨rfl, fun q => (L_279_212 ..).2 ⟨.inl rfl, ?_⟩, fun q => (L_279_212 ..).2 ⟨.inr rfl, ?_⟩⟩
      · rwa [bkB_f q] at hQ
      · rwa [bkB_t (Decidable.not_not.1 q)] at hQ
    · rw [if_neg (by omega), if_neg (by omega), if_neg (by omega), if_neg (by omega), if_neg (by omega), if_pos (by omega)] at hQ
      refine (S194 hN f0 f1).2 ⟨rfl, fun q => (L_279_227 ..).2 ⟨.inl rfl, ?_⟩, fun q => (L_279_227 ..).2 ⟨.inr rfl, ?_⟩⟩
      · rwa [bkB_f q] at hQ
      · rwa [bkB_t (Decidable.not_not.1 q)] at hQ
    · rw [if_neg (by omega), if_neg (by omega), if_neg (by omega), if_neg (by omega), if_neg (by omega), if_neg (by omega), if_pos (by omega)] at hQ
      have q9 := n9 (M 58 0 (52 + f)) (by omega) (by omega)
      rw [E_280]
      unfold bk_r32
      refine ⟨by omega, by omega, by omega, by omega, by omega, by omega, by omega, (S211 (by omega)).2 ⟨rfl, fun q => ⟨.inl rfl, rfl, .inl rfl, ?_⟩, fun q => ⟨.inr rfl, rfl, .inr rfl, ?_⟩⟩⟩
      · rwa [bkB_f q] at hQ
      · rwa [bkB_t (Decidable.not_not.1 q)] at hQ
    · have w19 : w = 19 := by omega
      have wa := w2 (by omega)
      rw [if_neg (by omega), if_neg (by omega), if_neg (by omega), if_neg (by omega), if_neg (by omega), if_neg (by omega), if_neg (by omega), if_pos (by omega)] at hQ
      refine (S194 hN f0 f1).2 ⟨rfl, fun q => (L_279_261 ..).2 ((L_279_262 ..).2 ⟨.inl rfl, ?_⟩), fun q => (S194 hN f0 f1).2 ⟨rfl, (S194 hN (by omega) (by omega)).2 ⟨rfl, fun q2 => (L_279_261 ..).2 ((L_279_262 ..).2 ⟨.inl rfl, ?_⟩), fun q2 => (L_279_262 ..).2 ⟨.inr rfl, ?_⟩⟩⟩⟩
      · rwa [bkB_f (fun r => r.1 q)] at hQ
      · rwa [bkB_f (fun r => q2 r.2)] at hQ
      · rwa [bkB_t ⟨q, Decidable.not_not.1 q2⟩] at hQ
    · have w20 : w = 20 := by omega
      have wa := w2 (by omega)
      rw [if_neg (by omega), if_neg (by omega), if_neg (by omega), if_neg (by omega), if_neg (by omega), if_neg (by omega), if_neg (by omega), if_neg (by omega), if_pos (by omega)] at hQ
      refine ⟨by omega, by omega, by omega, by omega, fun q => (L_279_290 ..).2 ⟨.inl rfl, ?_⟩, fun q => (L_279_290 ..).2 ⟨.inr rfl, ?_⟩⟩
      · rwa [bkB_f (by omega)] at hQ
      · rwa [bkB_t (by omega)] at hQ
    all_goals
      have w21 : 21 ≤ w := by omega
      have w3 := w3 w21
      have t10 := t10 (by omega)
      rw [if_neg (by omega), if_neg (by omega), if_neg (by omega), if_neg (by omega), if_neg (by omega), if_neg (by omega), if_neg (by omega), if_neg (by omega), if_neg (by omega)] at hQ
      refine L279_382c (by omega) (by rw [show 197 + 4 * k + 3 = 200 + 4 * k by omega]; exact s4) w3.2.2 ?_
    · rw [if_neg (by omega), if_neg (by omega), if_neg (by omega)] at hQ
      exact hQ
    · rw [if_neg (by omega), if_neg (by omega), if_pos (by omega)] at hQ
      exact hQ
    · rw [if_neg (by omega), if_pos (by omega)] at hQ
      exact hQ
    · rw [if_pos (by omega)] at hQ
      exact hQ
theorem S278c {d m : Nat} {M : bk_M} {k : Int} (hN : bkMd (M 58 0)) (hm : M 58 0 0 = m) {Q : bk_Q} :
    (M 58 0 195 = 0 → (bk_C (d + 45) 0 278 [bk_c 12 0, bk_i k] M Q ↔ Q 0 (-1) (bk_up M 12 0 0 0))) ∧
    (∀ S, bkSnN (M 58 0) S → bkSvS m S → (bk_C (d + 45) 0 278 [bk_c 12 0, bk_i k] M Q ↔ Q 0 (if k = -1 then bkSaN (fun f => bkEn (M 58 0) S 40 (S 1 - 1) f) m else bkSaK (fun f => bkEn (M 58 0) S 40 (S 1 - 1) f) m k (m + 1) 0 0) (bk_up M 12 0 0 0))) := by
  refine ⟨fun h => bk_det (fun Q hQ => ?_) Q, fun S hS hv => bk_det (fun Q hQ => ?_) Q⟩
  · rw [E_278]
    intro M1 e1
    rw [show M1 58 0 195 = 0 by rw [e1, bk_up_k (by decide)]; exact h]
    exact ⟨by omega, fun z => absurd rfl z, fun _ => by rw [e1]; exact hQ⟩
  · rw [E_278]
    intro M1 e1
    have f1 : M1 58 0 = M 58 0 := by rw [e1, bk_up_f (by decide)]
    rw [← e1] at hQ
    rw [← f1] at hN hm hS hQ
    rw [hS.1]
    refine ⟨by omega, fun _ => ?_, fun z => absurd (show (1 : Int) ≠ 0 by decide) z⟩
    have n5 := hN.2.2.2.2.1
    have v1 := hv.2.1
    have key : ∀ (j f n : Nat), f + j = m → (n : Int) = bkSaN (fun f => bkEn (M1 58 0) S 40 (S 1 - 1) f) f → Q 0 (if k = -1 then bkSaN (fun f => bkEn (M1 58 0) S 40 (S 1 - 1) f) m else bkSaK (fun f => bkEn (M1 58 0) S 40 (S 1 - 1) f) m k (j + 1) f n) M1 → bk_wp (bk_C (d + 44)) P_278 Q 0 22 [bk_c 12 0, bk_i k, bk_i n, bk_i f] [] M1 := by
      intro j
      induction j with
      | zero =>
        intro f n hj hn hQ
        rw [L_278_22, hm]
        refine ⟨by omega, fun _ => ⟨fun z => ?_, fun z => ?_⟩, fun z => absurd (by omega) z⟩
        · rw [if_neg z, bkSaK_s, if_pos (by omega)] at hQ
          exact hQ
        · rw [if_pos (Decidable.not_not.1 z)] at hQ
          rw [hn, show f = m by omega]
          exact hQ
      | succ j ih =>
        intro f n hj hn hQ
        have nb := @bkSaN_b (fun f => bkEn (M1 58 0) S 40 (S 1 - 1) f) f
        have es : bkSaN (fun f => bkEn (M1 58 0) S 40 (S 1 - 1) f) (f + 1) = bkSaN (fun f => bkEn (M1 58 0) S 40 (S 1 - 1) f) f + (if bkEn (M1 58 0) S 40 (S 1 - 1) f then 1 else 0) := rfl
        have ef : ((f + 1 : Nat) : Int) = f + 1 := by omega
        have en : ((n + 1 : Nat) : Int) = n + 1 := by omega
        rw [L_278_22, hm, hS.2.1]
        refine ⟨by omega, fun z => absurd z (by omega), fun _ => ⟨by omega, (S279c hN hS hv hm 40 d (S 1 - 1) f _ (by omega) (by omega) (by omega) (by omega) (by omega)).2 ⟨rfl, ?_⟩⟩⟩
        rw [bkSaK_s, if_neg (show ¬ (m : Int) ≤ f by omega)] at hQ
        cases e : bkEn (M1 58 0) S 40 (S 1 - 1) f with
        | true =>
          rw [e] at hQ es
          rw [if_pos rfl] at hQ es
          refine ⟨fun _ => ⟨fun z => ⟨by unfold bk_r32; omega, by unfold bk_r32; omega, ?_⟩, fun z => ?_⟩, fun q => absurd (show bkB true ≠ 0 by decide) q⟩
          · have := ih (f + 1) (n + 1) (by omega) (by rw [es]; omega) (by rw [if_neg z] at hQ; rw [ef, en]; exact hQ)
            rwa [ef, en] at this
          · have z : (n : Int) = k := Decidable.not_not.1 z
            rw [if_neg (by omega), if_pos z] at hQ
            exact hQ
        | false =>
          rw [e] at hQ es
          rw [if_neg (show ¬ (false = true) by decide)] at hQ es
          refine ⟨fun q => absurd rfl q, fun _ => ⟨by unfold bk_r32; omega, ?_⟩⟩
          have := ih (f + 1) n (by omega) (by rw [es]; omega) (by rw [ef]; exact hQ)
          rwa [ef] at this
    exact key m 0 0 (by omega) rfl hQ
theorem bkSaK_neg {p : Int → Bool} {m k : Int} (hk : k < 0) : ∀ (j : Nat) (f n : Int), 0 ≤ n → bkSaK p m k j f n = -1
  | 0, _, _, _ => rfl
  | j + 1, f, n, h => by
    rw [bkSaK_s]
    by_cases z : m ≤ f
    · rw [if_pos z]
    rw [if_neg z]
    cases p f with
    | true => rw [if_pos rfl, if_neg (by omega)]; exact bkSaK_neg hk j _ _ (by omega)
    | false => rw [if_neg (by decide)]; exact bkSaK_neg hk j _ _ h
