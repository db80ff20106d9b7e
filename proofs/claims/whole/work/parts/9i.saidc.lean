/-! What may be said: the class. -/
theorem LG_132_14 {d : Nat} {Q : bk_Q} (i0 : Nat) (i1 : Nat) (x2 : Int) (x3 : Int) (x4 : Int) (v5 : bk_V) (M : bk_M) : bk_wp (bk_C d) P_132 Q 0 14 [bk_c 9 i0, bk_c 5 i1, bk_i x2, bk_i x3, bk_i x4, v5] [] M ↔ ((M 9 i0 (0 : Int) ≤ x4 → ((x3 ≠ (1 : Int) → Q 0 (0 : Int) M) ∧ (¬ (x3 ≠ (1 : Int)) → ((0 : Int) ≤ (0 : Int) ∧ (0 : Int) < (20 : Int)) ∧ Q 0 (M 52 i0 (0 : Int)) M))) ∧ (¬ (M 9 i0 (0 : Int) ≤ x4) → ((0 : Int) ≤ x4 ∧ x4 < (40 : Int)) ∧ ((M 49 i0 x4 ≠ (16 : Int) → ((0 : Int) ≤ x4 ∧ x4 < (40 : Int)) ∧ ((M 49 i0 x4 = (15 : Int) → ((x3 ≤ (1 : Int) → bk_r32 (x4 + (1 : Int)) ∧ bk_wp (bk_C d) P_132 Q 0 14 [bk_c 9 i0, bk_c 5 i1, bk_i x2, bk_i x3, bk_i (x4 + (1 : Int)), v5] [] M) ∧ (¬ (x3 ≤ (1 : Int)) → bk_r32 (x3 + (-1 : Int)) ∧ bk_r32 ((x3 + (-1 : Int)) - (1 : Int)) ∧ ((0 : Int) ≤ (x3 + (-1 : Int)) - (1 : Int) ∧ (x3 + (-1 : Int)) - (1 : Int) < (20 : Int)) ∧ ((0 : Int) ≤ x3 + (-1 : Int) ∧ x3 + (-1 : Int) < (20 : Int)) ∧ bk_r32 ((x3 + (-1 : Int)) - (1 : Int)) ∧ ((0 : Int) ≤ x4 ∧ x4 < (40 : Int)) ∧ ((M 49 i0 x4 ≠ (15 : Int) → bk_r32 ((x3 + (-1 : Int)) - (1 : Int)) ∧ ((0 : Int) ≤ (x3 + (-1 : Int)) - (1 : Int) ∧ (x3 + (-1 : Int)) - (1 : Int) < (20 : Int)) ∧ ((0 : Int) ≤ x3 + (-1 : Int) ∧ x3 + (-1 : Int) < (20 : Int)) ∧ ((0 : Int) ≤ (x3 + (-1 : Int)) - (1 : Int) ∧ (x3 + (-1 : Int)) - (1 : Int) < (20 : Int)) ∧ ∀ M1 : bk_M, M1 = bk_up M 52 i0 ((x3 + (-1 : Int)) - (1 : Int)) (bk_or (M 52 i0 ((x3 + (-1 : Int)) - (1 : Int))) (M 52 i0 (x3 + (-1 : Int)))) → bk_r32 (x4 + (1 : Int)) ∧ bk_wp (bk_C d) P_132 Q 0 14 [bk_c 9 i0, bk_c 5 i1, bk_i x2, bk_i (x3 + (-1 : Int)), bk_i (x4 + (1 : Int)), bk_i (bk_and (M 52 i0 ((x3 + (-1 : Int)) - (1 : Int))) (M 52 i0 (x3 + (-1 : Int))))] [] M1) ∧ (¬ (M 49 i0 x4 ≠ (15 : Int)) → ((0 : Int) ≤ (x3 + (-1 : Int)) - (1 : Int) ∧ (x3 + (-1 : Int)) - (1 : Int) < (20 : Int)) ∧ ∀ M2 : bk_M, M2 = bk_up M 52 i0 ((x3 + (-1 : Int)) - (1 : Int)) (bk_and (M 52 i0 ((x3 + (-1 : Int)) - (1 : Int))) (M 52 i0 (x3 + (-1 : Int)))) → bk_r32 (x4 + (1 : Int)) ∧ bk_wp (bk_C d) P_132 Q 0 14 [bk_c 9 i0, bk_c 5 i1, bk_i x2, bk_i (x3 + (-1 : Int)), bk_i (x4 + (1 : Int)), bk_i (bk_and (M 52 i0 ((x3 + (-1 : Int)) - (1 : Int))) (M 52 i0 (x3 + (-1 : Int))))] [] M2))))) ∧ (¬ (M 49 i0 x4 = (15 : Int)) → ((0 : Int) ≤ x4 ∧ x4 < (40 : Int)) ∧ ((M 49 i0 x4 ≠ (14 : Int) → (((20 : Int) ≤ x3 → bk_r32 (x4 + (1 : Int)) ∧ bk_wp (bk_C d) P_132 Q 0 14 [bk_c 9 i0, bk_c 5 i1, bk_i x2, bk_i x3, bk_i (x4 + (1 : Int)), v5] [] M) ∧ (¬ ((20 : Int) ≤ x3) → bk_C d 0 133 [bk_c 9 i0, bk_c 5 i1, bk_i x4] M (fun t5 r3 M4 => t5 = 0 ∧ ((0 : Int) ≤ x3 ∧ x3 < (20 : Int)) ∧ ∀ M6 : bk_M, M6 = bk_up M4 52 i0 x3 r3 → bk_r32 (x3 + (1 : Int)) ∧ bk_r32 (x4 + (1 : Int)) ∧ bk_wp (bk_C d) P_132 Q 0 14 [bk_c 9 i0, bk_c 5 i1, bk_i x2, bk_i (x3 + (1 : Int)), bk_i (x4 + (1 : Int)), v5] [] M6)))) ∧ (¬ (M 49 i0 x4 ≠ (14 : Int)) → ((x3 ≤ (1 : Int) → bk_r32 (x4 + (1 : Int)) ∧ bk_wp (bk_C d) P_132 Q 0 14 [bk_c 9 i0, bk_c 5 i1, bk_i x2, bk_i x3, bk_i (x4 + (1 : Int)), v5] [] M) ∧ (¬ (x3 ≤ (1 : Int)) → bk_r32 (x3 + (-1 : Int)) ∧ bk_r32 ((x3 + (-1 : Int)) - (1 : Int)) ∧ ((0 : Int) ≤ (x3 + (-1 : Int)) - (1 : Int) ∧ (x3 + (-1 : Int)) - (1 : Int) < (20 : Int)) ∧ ((0 : Int) ≤ x3 + (-1 : Int) ∧ x3 + (-1 : Int) < (20 : Int)) ∧ bk_r32 ((x3 + (-1 : Int)) - (1 : Int)) ∧ ((0 : Int) ≤ x4 ∧ x4 < (40 : Int)) ∧ ((M 49 i0 x4 ≠ (15 : Int) → bk_r32 ((x3 + (-1 : Int)) - (1 : Int)) ∧ ((0 : Int) ≤ (x3 + (-1 : Int)) - (1 : Int) ∧ (x3 + (-1 : Int)) - (1 : Int) < (20 : Int)) ∧ ((0 : Int) ≤ x3 + (-1 : Int) ∧ x3 + (-1 : Int) < (20 : Int)) ∧ ((0 : Int) ≤ (x3 + (-1 : Int)) - (1 : Int) ∧ (x3 + (-1 : Int)) - (1 : Int) < (20 : Int)) ∧ ∀ M7 : bk_M, M7 = bk_up M 52 i0 ((x3 + (-1 : Int)) - (1 : Int)) (bk_or (M 52 i0 ((x3 + (-1 : Int)) - (1 : Int))) (M 52 i0 (x3 + (-1 : Int)))) → bk_r32 (x4 + (1 : Int)) ∧ bk_wp (bk_C d) P_132 Q 0 14 [bk_c 9 i0, bk_c 5 i1, bk_i x2, bk_i (x3 + (-1 : Int)), bk_i (x4 + (1 : Int)), bk_i (bk_and (M 52 i0 ((x3 + (-1 : Int)) - (1 : Int))) (M 52 i0 (x3 + (-1 : Int))))] [] M7) ∧ (¬ (M 49 i0 x4 ≠ (15 : Int)) → ((0 : Int) ≤ (x3 + (-1 : Int)) - (1 : Int) ∧ (x3 + (-1 : Int)) - (1 : Int) < (20 : Int)) ∧ ∀ M8 : bk_M, M8 = bk_up M 52 i0 ((x3 + (-1 : Int)) - (1 : Int)) (bk_and (M 52 i0 ((x3 + (-1 : Int)) - (1 : Int))) (M 52 i0 (x3 + (-1 : Int)))) → bk_r32 (x4 + (1 : Int)) ∧ bk_wp (bk_C d) P_132 Q 0 14 [bk_c 9 i0, bk_c 5 i1, bk_i x2, bk_i (x3 + (-1 : Int)), bk_i (x4 + (1 : Int)), bk_i (bk_and (M 52 i0 ((x3 + (-1 : Int)) - (1 : Int))) (M 52 i0 (x3 + (-1 : Int))))] [] M8))))))))) ∧ (¬ (M 49 i0 x4 ≠ (16 : Int)) → ((x3 ≤ (0 : Int) → bk_r32 (x4 + (1 : Int)) ∧ bk_wp (bk_C d) P_132 Q 0 14 [bk_c 9 i0, bk_c 5 i1, bk_i x2, bk_i x3, bk_i (x4 + (1 : Int)), v5] [] M) ∧ (¬ (x3 ≤ (0 : Int)) → bk_r32 (x3 - (1 : Int)) ∧ bk_r32 (x3 - (1 : Int)) ∧ ((0 : Int) ≤ x3 - (1 : Int) ∧ x3 - (1 : Int) < (20 : Int)) ∧ ((0 : Int) ≤ x3 - (1 : Int) ∧ x3 - (1 : Int) < (20 : Int)) ∧ ∀ M9 : bk_M, M9 = bk_up M 52 i0 (x3 - (1 : Int)) (bk_and x2 (bk_xor (M 52 i0 (x3 - (1 : Int))) (-1 : Int))) → bk_r32 (x4 + (1 : Int)) ∧ bk_wp (bk_C d) P_132 Q 0 14 [bk_c 9 i0, bk_c 5 i1, bk_i x2, bk_i x3, bk_i (x4 + (1 : Int)), v5] [] M9)))))) := bk_iff [14] 40
theorem S135c {d s : Nat} {Q : bk_Q} {M : bk_M} {k v b r : Int} (hk : 0 ≤ k ∧ k < 40) (hb : M 50 s k = b) (hr : M 51 s k = r) (h60 : 60 ≤ r ∧ r ≤ 62) : bk_C (d + 1) 0 135 [bk_c 9 s, bk_i v, bk_i k] M Q ↔ Q 0 (bkB (bkCm2 r v b)) M := by
  refine bk_det (fun Q h => ?_) Q
  rw [E_135, hb, hr]
  unfold bkCm2 at h
  refine ⟨hk, fun z => ⟨hk, fun z2 => ⟨hk, fun z3 => ⟨.inl rfl, ?_⟩, fun z3 => ⟨.inr rfl, ?_⟩⟩, fun z2 => ⟨hk, fun z3 => ⟨.inl rfl, ?_⟩, fun z3 => ⟨.inr rfl, ?_⟩⟩⟩, fun z => ⟨hk, fun z3 => ⟨.inl rfl, ?_⟩, fun z3 => ⟨.inr rfl, ?_⟩⟩⟩
  · rwa [if_neg z, if_neg z2, bkB_f z3] at h
  · rwa [if_neg z, if_neg z2, bkB_t (Decidable.not_not.1 z3)] at h
  · rwa [if_neg z, if_pos (Decidable.not_not.1 z2), bkB_f (by omega)] at h
  · rwa [if_neg z, if_pos (Decidable.not_not.1 z2), bkB_t (by omega)] at h
  · rwa [if_pos (Decidable.not_not.1 z), bkB_f (by omega)] at h
  · rwa [if_pos (Decidable.not_not.1 z), bkB_t (by omega)] at h
theorem S134c {d s p m : Nat} {Q : bk_Q} {M : bk_M} {N S : Int → Int} {k f : Int} (hR : bkRel M p N) (hS : bkSnC M s S) (hm : N 0 = m) (hw : bkNw m S k) (hk : 0 ≤ k ∧ k < S 1 ∧ S 1 ≤ 39) (hl : ¬ (14 ≤ S (10 + 4 * k) ∧ S (10 + 4 * k) ≤ 16)) (f0 : 0 ≤ f) (f1 : f < N 0) : bk_C (d + 2) 0 134 [bk_c 9 s, bk_c 5 p, bk_i f, bk_i k] M Q ↔ Q 0 (bkB (bkLf N S k f)) M := by
  refine bk_det (fun Q hQ => ?_) Q
  have hN := bkRel_md hR
  obtain ⟨n1, n2, n3, n4, n5, n6, n7, n8, n9, n10, -⟩ := id hN
  obtain ⟨b0, bc0, bc1⟩ := bkBank_rel hR f0 f1
  obtain ⟨hP, ⟨b1, b2, b3, b4, b5, b6, b7⟩, ⟨c1, c2, c3, c4, c5, c6, c7, c8⟩⟩ := id hR
  have q7 := b7 f f0 (by omega)
  have q10 := n10 f f0 f1
  have k40 : 0 ≤ k ∧ k < 40 := by omega
  obtain ⟨e49, e50a, e5x⟩ := hS.2.2 k hk.1 hk.2.1
  obtain ⟨w1, w2, w3⟩ := hw
  have dv : M 30 p f / 6 = N (52 + f) := by rw [q7.1]; omega
  have md : M 30 p f % 6 = N (42 + f) := by rw [q7.1]; omega
  have bd := c4 (N (52 + f)) (by omega) (by omega)
  have q9 := n9 (N (52 + f)) (by omega) (by omega)
  rw [E_134]
  refine ⟨by omega, (S41 (.inl rfl) bc0 bc1).2 ⟨rfl, k40, ?_⟩⟩
  rw [b0, e49]
  unfold bkLf at hQ
  generalize hw' : S (10 + 4 * k) = w at *
  generalize ha : S (11 + 4 * k) = a at *
  generalize hb : S (12 + 4 * k) = b at *
  refine ⟨fun z => ?_, fun z => ⟨fun z2 => ?_, fun z2 => ?_⟩⟩
  · rw [if_pos z] at hQ
    refine ⟨fun q => ⟨.inl rfl, ?_⟩, fun q => ⟨.inr rfl, ?_⟩⟩
    · rwa [bkB_f q] at hQ
    · rwa [bkB_t (Decidable.not_not.1 q)] at hQ
  · rw [if_neg z, if_pos z2] at hQ
    refine ⟨fun q => ⟨.inl rfl, ?_⟩, fun q => ⟨.inr rfl, ?_⟩⟩
    · rwa [bkB_f q] at hQ
    · rwa [bkB_t (Decidable.not_not.1 q)] at hQ
  rw [if_neg z, if_neg z2] at hQ
  iterate 9 (refine ⟨fun z => absurd z (by omega), fun _ => ?_⟩)
  refine ⟨fun z3 => ?_, fun z3 => ⟨fun z4 => ?_, fun z4 => ⟨fun z5 => ?_, fun z5 => ⟨fun z6 => ?_, fun z6 => ⟨fun z7 => ?_, fun z7 => ⟨fun z8 => ?_, fun z8 => ⟨fun z9 => ?_, fun z9 => ?_⟩⟩⟩⟩⟩⟩⟩
  · rw [if_pos z3] at hQ
    refine ⟨fun q => ⟨.inl rfl, ?_⟩, fun q => ⟨.inr rfl, ?_⟩⟩
    · rwa [bkB_f q] at hQ
    · rwa [bkB_t (Decidable.not_not.1 q)] at hQ
  · rw [if_neg z3, if_pos z4] at hQ
    rw [dv, md, bd]
    unfold bk_r32
    unfold bkAbs at hQ
    refine ⟨by omega, by omega, by omega, by omega, by omega, fun q => ⟨.inl rfl, ?_⟩, fun q => ⟨.inr rfl, ?_⟩⟩
    · rwa [bkB_f (by split at q <;> split <;> omega)] at hQ
    · rwa [bkB_t (by split at q <;> split <;> omega)] at hQ
  · have wa := w2 (.inl z5)
    rw [if_neg z3, if_neg z4, if_pos z5] at hQ
    rw [e50a (.inl z5)]
    obtain ⟨d0, dc0, dc1⟩ := bkBank_rel hR (f := a) (by omega) (by omega)
    refine ⟨fun q => ⟨.inl rfl, ?_⟩, fun q => ⟨k40, by omega, (S41 (.inl rfl) dc0 dc1).2 ⟨rfl, ?_⟩⟩⟩
    · rwa [bkB_f (fun r => r.1 q)] at hQ
    · rw [d0]
      refine ⟨fun q2 => ⟨.inl rfl, ?_⟩, fun q2 => ⟨.inr rfl, ?_⟩⟩
      · rwa [bkB_f (fun r => q2 r.2)] at hQ
      · rwa [bkB_t ⟨q, Decidable.not_not.1 q2⟩] at hQ
  · have wa := w2 (.inr z6)
    rw [if_neg z3, if_neg z4, if_neg z5, if_pos z6] at hQ
    rw [e50a (.inr z6)]
    have qa := b7 a (by omega) (by omega)
    have da : M 30 p a / 6 = N (52 + a) := by rw [qa.1]; omega
    rw [da, dv]
    refine ⟨by omega, k40, by omega, by omega, fun q => ⟨.inl rfl, ?_⟩, fun q => ⟨.inr rfl, ?_⟩⟩
    · rwa [bkB_f (by omega)] at hQ
    · rwa [bkB_t (by omega)] at hQ
  all_goals
    have w21 : 21 ≤ w := by omega
    have w3 := w3 w21
    have e5 := e5x w21
    rw [if_neg z3, if_neg z4, if_neg z5, if_neg z6] at hQ
  · rw [if_pos z7] at hQ
    rw [q7.2.1]
    refine ⟨by omega, (S135c k40 e5.1 e5.2 w3.2.2).2 ⟨rfl, ?_, hQ⟩⟩
    cases bkCm2 (S (13 + 4 * k)) (N (62 + f)) b <;> first | exact .inl rfl | exact .inr rfl
  · rw [if_neg z7, if_pos z8] at hQ
    rw [c3 _ bc0 (by omega), q7.1, show 85 + (6 * N (52 + f) + N (42 + f)) = 85 + 6 * N (52 + f) + N (42 + f) by omega]
    refine ⟨by omega, (S135c k40 e5.1 e5.2 w3.2.2).2 ⟨rfl, ?_, hQ⟩⟩
    cases bkCm2 (S (13 + 4 * k)) (N (85 + 6 * N (52 + f) + N (42 + f))) b <;> first | exact .inl rfl | exact .inr rfl
  · rw [if_neg z7, if_neg z8, if_pos z9] at hQ
    have q6 := c6 f f0 (by omega)
    rw [if_pos (by omega)] at q6
    rw [← q6]
    refine ⟨by omega, (S135c k40 e5.1 e5.2 w3.2.2).2 ⟨rfl, ?_, hQ⟩⟩
    cases bkCm2 (S (13 + 4 * k)) (N (136 + f)) b <;> first | exact .inl rfl | exact .inr rfl
  · rw [if_neg z7, if_neg z8, if_neg z9] at hQ
    refine (S135c k40 e5.1 e5.2 w3.2.2).2 ⟨rfl, ?_, hQ⟩
    cases bkCm2 (S (13 + 4 * k)) f b <;> first | exact .inl rfl | exact .inr rfl
theorem S133c {d s p m : Nat} {Q : bk_Q} {M : bk_M} {N S : Int → Int} {k : Int} (hR : bkRel M p N) (hS : bkSnC M s S) (hm : N 0 = m) (hw : bkNw m S k) (hk : 0 ≤ k ∧ k < S 1 ∧ S 1 ≤ 39) (hl : ¬ (14 ≤ S (10 + 4 * k) ∧ S (10 + 4 * k) ≤ 16)) : bk_C (d + 3) 0 133 [bk_c 9 s, bk_c 5 p, bk_i k] M Q ↔ Q 0 (bkBits (bkLf N S k) m) M := by
  refine bk_det (fun Q hQ => ?_) Q
  have n5 := (bkRel_md hR).2.2.2.2.1
  have b1 := hR.2.1.1
  rw [E_133]
  have key : ∀ (j f : Nat), f + j = m → bk_wp (bk_C (d + 2)) P_133 Q 0 5 [bk_c 9 s, bk_c 5 p, bk_i k, bk_i (bkBits (bkLf N S k) f), bk_i f] [] M := by
    intro j
    induction j with
    | zero =>
      intro f hf
      rw [L_133_5]
      refine ⟨fun _ => ?_, fun q => absurd (by omega) q⟩
      rw [show f = m by omega]; exact hQ
    | succ j ih =>
      intro f hf
      rw [L_133_5]
      refine ⟨fun q => absurd q (by omega), fun _ => (S134c hR hS hm hw hk hl (by omega) (by omega)).2 ⟨rfl, ?_⟩⟩
      have ih := ih (f + 1) (by omega)
      rw [bkBits_succ] at ih
      have e : ((f + 1 : Nat) : Int) = (f : Int) + 1 := by omega
      rw [e] at ih
      have hb := bkBits_lt (bkLf N S k) f
      have hp : (2 : Int) ^ f ≤ 1024 := by
        have key : ∀ f : Nat, f < 10 → (2 : Int) ^ f ≤ 1024 := by decide
        exact key f (by omega)
      cases ev : bkLf N S k f with
      | true =>
        rw [ev, if_pos rfl] at ih
        rw [Int.toNat_natCast, Int.one_mul, bkBits_or (by omega)]
        unfold bk_r32
        exact ⟨fun q => absurd q (by decide), fun _ => ⟨by omega, by omega, ih⟩⟩
      | false =>
        rw [ev, if_neg (by decide), Int.add_zero] at ih
        exact ⟨fun _ => ⟨by unfold bk_r32; omega, ih⟩, fun q => absurd rfl q⟩
  exact key m 0 (by omega)
/-- the stack of masks -/
def bkStk (A P : Int → Int) : List Int → Prop
  | [] => True
  | x :: t => A t.length = P x ∧ bkStk A P t
theorem bkStk_e {A A' P : Int → Int} : ∀ {l : List Int}, bkStk A P l → (∀ q, 0 ≤ q → q < l.length → A' q = A q) → bkStk A' P l
  | [], _, _ => trivial
  | x :: t, h, e => by
    have le : ((x :: t).length : Int) = t.length + 1 := by rw [List.length_cons]; omega
    exact ⟨by rw [e _ (by omega) (by omega)]; exact h.1, bkStk_e h.2 fun q q0 q1 => e q q0 (by omega)⟩
def bkPm (N S : Int → Int) (m : Nat) (k : Int) : Int := bkBits (fun f => bkEn N S 40 k f) m
theorem S132c {d s p m : Nat} {M : bk_M} {N S : Int → Int} (hR : bkRel M p N) (hS : bkSnC M s S) (hm : N 0 = m) (hv : bkSvS m S) : bk_C (d + 4) 0 132 [bk_c 9 s, bk_c 5 p] M (fun t r M' => t = 0 ∧ r = bkPm N S m (S 1 - 1) ∧ bkFr (fun k a => k = 52 ∧ a = s) M M') := by
  have hN := bkRel_md hR
  have n5 := hN.2.2.2.2.1
  have b1 := hR.2.1.1
  obtain ⟨-, v1, vw, vr⟩ := hv
  have hm10 : m ≤ 10 := by omega
  have e2m : (2 : Int) ^ m ≤ 1024 ∧ 0 < (2 : Int) ^ m := by
    have key : ∀ f : Nat, f < 11 → (2 : Int) ^ f ≤ 1024 ∧ 0 < (2 : Int) ^ f := by decide
    exact key m (by omega)
  rw [E_132, b1, hm, Int.toNat_natCast]
  refine ⟨by unfold bk_r32; omega, by unfold bk_r32; omega, ?_⟩
  have key : ∀ (j i : Nat) (l : List Int) (v5 : bk_V) (M' : bk_M), (i : Int) + j = S 1 → bkRoots S i l → bkStk (M' 52 s) (bkPm N S m) l → bkFr (fun k a => k = 52 ∧ a = s) M M' → bk_wp (bk_C (d + 3)) P_132 (fun t r M' => t = 0 ∧ r = bkPm N S m (S 1 - 1) ∧ bkFr (fun k a => k = 52 ∧ a = s) M M') 0 14 [bk_c 9 s, bk_c 5 p, bk_i (1 * 2 ^ m - 1), bk_i l.length, bk_i i, v5] [] M' := by
    intro j
    induction j with
    | zero =>
      intro i l v5 M' hi hl hA F
      have e9 : M' 9 s 0 = S 1 := by rw [F 9 s (by omega)]; exact hS.1
      have ei : i = (S 1).toNat := by omega
      subst ei
      have el := bkRoots_u hl vr
      subst el
      rw [LG_132_14, e9]
      refine ⟨fun _ => ⟨fun q => absurd rfl q, fun _ => ⟨by omega, rfl, ?_, F⟩⟩, fun q => absurd (by omega) q⟩
      exact hA.1
    | succ j ih =>
      intro i l v5 M' hi hl hA F
      have e9 : M' 9 s 0 = S 1 := by rw [F 9 s (by omega)]; exact hS.1
      have S' : bkSnC M' s S := bkSnC_e hS fun k hk => F k s (by omega)
      have R' : bkRel M' p N := bkRel_fr hR fun k hk => F k p (by omega)
      have e49 : M' 49 s i = S (10 + 4 * i) := (S'.2.2 i (by omega) (by omega)).1
      have ew := vw i (by omega) (by omega)
      have hi40 : (0 : Int) ≤ i ∧ (i : Int) < 40 := by omega
      obtain ⟨l2, g⟩ := bkRoots_le vr (i + 1) (by omega)
      obtain ⟨l', g1, g2⟩ := id g
      have el := bkRoots_u g1 hl
      subst el
      have r1 : bk_r32 ((i : Int) + 1) := by unfold bk_r32; omega
      have ei : ((i + 1 : Nat) : Int) = (i : Int) + 1 := by omega
      have evs := fun f => @bkEn_s N S 39 i f
      rw [LG_132_14, e9, e49]
      refine ⟨fun q => absurd q (by omega), fun _ => ⟨hi40, fun z => ⟨hi40, fun z2 => ?_, fun z2 => ⟨hi40, fun z3 => ?_, fun z3 => ?_⟩⟩, fun z => ?_⟩⟩
      · -- and
        rcases g2 with ⟨z', -⟩ | ⟨-, t, f1, f2⟩ | ⟨z', -⟩
        · omega
        · subst f1
          obtain ⟨h1, h2, h3⟩ := hA
          have c := bkRoots_ch vr (k := i) (by omega) (by omega)
          have c1 := c.1 (by omega)
          have c2 := c.2 (by omega)
          have lt := bkLvJn g1
          have len : (((S (12 + 4 * i)) :: (S (11 + 4 * i)) :: t).length : Int) = t.length + 2 := by rw [List.length_cons, List.length_cons]; omega
          have len1 : (((S (11 + 4 * i)) :: t).length : Int) = t.length + 1 := by rw [List.length_cons]; omega
          have t20 : (t.length : Int) + 2 ≤ 20 := by
            have a1 := bkLvJn vr
            have c3 := bkLv_m (S := S) (n := i) ((S 1).toNat - i)
            rw [show i + ((S 1).toNat - i) = (S 1).toNat by omega] at c3
            have e1 : ([S 1 - 1] : List Int).length = 1 := rfl
            rw [e1] at a1
            omega
          rw [len1] at h1
          rw [len]
          have ep : bkPm N S m i = bk_and (bkPm N S m (S (11 + 4 * i))) (bkPm N S m (S (12 + 4 * i))) := by
            unfold bkPm
            rw [bkBits_and hm10]
            refine bkBits_congr fun f hf => ?_
            rw [evs, if_neg (by omega), if_pos z2, bkEn_n vr 39 40 _ c1.1 (by omega) (by omega) (by omega), bkEn_n vr 39 40 _ c2.1 (by omega) (by omega) (by omega)]
          have go : ∀ (v5 : bk_V) (M1 : bk_M), M1 = bk_up M' 52 s t.length (bk_and (M' 52 s t.length) (M' 52 s (t.length + 1))) → bk_wp (bk_C (d + 3)) P_132 (fun t r M' => t = 0 ∧ r = bkPm N S m (S 1 - 1) ∧ bkFr (fun k a => k = 52 ∧ a = s) M M') 0 14 [bk_c 9 s, bk_c 5 p, bk_i (1 * 2 ^ m - 1), bk_i ((t.length : Int) + 1), bk_i ((i : Int) + 1), v5] [] M1 := fun v5 M1 e1 => by
            have := ih (i + 1) l2 v5 M1 (by omega) g (by
              rw [f2]
              refine ⟨?_, bkStk_e h3 fun q q0 q1 => by rw [e1, bk_up_s (by omega)]⟩
              rw [e1, bk_up_e, h1, h2, ep]) (bkFr_trans F (by rw [e1]; exact bkFr_up (bkFr_refl _ _) ⟨rfl, rfl⟩))
            rw [f2, List.length_cons, ei, show ((t.length + 1 : Nat) : Int) = (t.length : Int) + 1 by omega] at this
            exact this
          rw [show (t.length : Int) + 2 + -1 = t.length + 1 by omega, show (t.length : Int) + 1 - 1 = t.length by omega]
          unfold bk_r32
          refine ⟨fun q => absurd q (by omega), fun _ => ⟨by omega, by omega, by omega, by omega, by omega, hi40, fun q => absurd z2 q, fun _ => ⟨by omega, fun M1 e1 => ⟨by omega, go _ M1 e1⟩⟩⟩⟩
        · omega
      · -- a ONE without others
        have hl14 : ¬ (14 ≤ S (10 + 4 * (i : Int)) ∧ S (10 + 4 * (i : Int)) ≤ 16) := by
          have := ew.1; omega
        have l20 := bkRoots_20 vr (by omega) (by omega) hl hl14
        rcases g2 with ⟨z', -⟩ | ⟨z', -⟩ | ⟨-, f2⟩
        · omega
        · omega
        · have ep : bkPm N S m i = bkBits (bkLf N S i) m := bkBits_congr fun f hf => by
            rw [evs, if_neg (by omega), if_neg (by omega), if_neg (by omega)]
          refine ⟨fun q => absurd q (by omega), fun _ => (S133c R' S' hm ew (by omega) hl14).2 ⟨rfl, by omega, fun M1 e1 => ⟨by unfold bk_r32; omega, r1, ?_⟩⟩⟩
          have := ih (i + 1) l2 v5 M1 (by omega) g (by
            rw [f2]
            refine ⟨?_, bkStk_e hA fun q q0 q1 => by rw [e1, bk_up_s (by omega)]⟩
            rw [e1, bk_up_e, ep]) (bkFr_trans F (by rw [e1]; exact bkFr_up (bkFr_refl _ _) ⟨rfl, rfl⟩))
          rw [f2, List.length_cons, ei, show ((l'.length + 1 : Nat) : Int) = (l'.length : Int) + 1 by omega] at this
          exact this
      · -- or
        have z3 : S (10 + 4 * (i : Int)) = 14 := Decidable.not_not.1 z3
        rcases g2 with ⟨z', -⟩ | ⟨-, t, f1, f2⟩ | ⟨z', -⟩
        · omega
        · subst f1
          obtain ⟨h1, h2, h3⟩ := hA
          have c := bkRoots_ch vr (k := i) (by omega) (by omega)
          have c1 := c.1 (by omega)
          have c2 := c.2 (by omega)
          have lt := bkLvJn g1
          have len : (((S (12 + 4 * i)) :: (S (11 + 4 * i)) :: t).length : Int) = t.length + 2 := by rw [List.length_cons, List.length_cons]; omega
          have len1 : (((S (11 + 4 * i)) :: t).length : Int) = t.length + 1 := by rw [List.length_cons]; omega
          have t20 : (t.length : Int) + 2 ≤ 20 := by
            have a1 := bkLvJn vr
            have c3 := bkLv_m (S := S) (n := i) ((S 1).toNat - i)
            rw [show i + ((S 1).toNat - i) = (S 1).toNat by omega] at c3
            have e1 : ([S 1 - 1] : List Int).length = 1 := rfl
            rw [e1] at a1
            omega
          rw [len1] at h1
          rw [len]
          have ep : bkPm N S m i = bk_or (bkPm N S m (S (11 + 4 * i))) (bkPm N S m (S (12 + 4 * i))) := by
            unfold bkPm
            rw [bkBits_orr hm10]
            refine bkBits_congr fun f hf => ?_
            rw [evs, if_neg (by omega), if_neg (by omega), if_pos z3, bkEn_n vr 39 40 _ c1.1 (by omega) (by omega) (by omega), bkEn_n vr 39 40 _ c2.1 (by omega) (by omega) (by omega)]
          have go : ∀ (v5 : bk_V) (M1 : bk_M), M1 = bk_up M' 52 s t.length (bk_or (M' 52 s t.length) (M' 52 s (t.length + 1))) → bk_wp (bk_C (d + 3)) P_132 (fun t r M' => t = 0 ∧ r = bkPm N S m (S 1 - 1) ∧ bkFr (fun k a => k = 52 ∧ a = s) M M') 0 14 [bk_c 9 s, bk_c 5 p, bk_i (1 * 2 ^ m - 1), bk_i ((t.length : Int) + 1), bk_i ((i : Int) + 1), v5] [] M1 := fun v5 M1 e1 => by
            have := ih (i + 1) l2 v5 M1 (by omega) g (by
              rw [f2]
              refine ⟨?_, bkStk_e h3 fun q q0 q1 => by rw [e1, bk_up_s (by omega)]⟩
              rw [e1, bk_up_e, h1, h2, ep]) (bkFr_trans F (by rw [e1]; exact bkFr_up (bkFr_refl _ _) ⟨rfl, rfl⟩))
            rw [f2, List.length_cons, ei, show ((t.length + 1 : Nat) : Int) = (t.length : Int) + 1 by omega] at this
            exact this
          rw [show (t.length : Int) + 2 + -1 = t.length + 1 by omega, show (t.length : Int) + 1 - 1 = t.length by omega]
          unfold bk_r32
          refine ⟨fun q => absurd q (by omega), fun _ => ⟨by omega, by omega, by omega, by omega, by omega, hi40, fun _ => ⟨by omega, by omega, by omega, by omega, fun M1 e1 => ⟨by omega, go _ M1 e1⟩⟩, fun q => absurd (show S (10 + 4 * (i : Int)) ≠ 15 by omega) q⟩⟩
        · omega
      · -- not
        have z : S (10 + 4 * (i : Int)) = 16 := Decidable.not_not.1 z
        rcases g2 with ⟨-, t, f1, f2⟩ | ⟨z', -⟩ | ⟨z', -⟩
        · subst f1
          obtain ⟨h1, h3⟩ := hA
          have c := bkRoots_ch vr (k := i) (by omega) (by omega)
          have c1 := c.1 (by omega)
          have len1 : (((S (11 + 4 * i)) :: t).length : Int) = t.length + 1 := by rw [List.length_cons]; omega
          have t20 : (t.length : Int) + 1 ≤ 20 := by
            have lt := bkLvJn g1
            have a1 := bkLvJn vr
            have c3 := bkLv_m (S := S) (n := i) ((S 1).toNat - i)
            rw [show i + ((S 1).toNat - i) = (S 1).toNat by omega] at c3
            have e1 : ([S 1 - 1] : List Int).length = 1 := rfl
            rw [e1] at a1
            omega
          rw [len1]
          have ep : bkPm N S m i = bk_and (1 * 2 ^ m - 1) (bk_xor (bkPm N S m (S (11 + 4 * i))) (-1)) := by
            unfold bkPm
            rw [bkBits_nt hm10]
            refine bkBits_congr fun f hf => ?_
            rw [evs, if_pos z, bkEn_n vr 39 40 _ c1.1 (by omega) (by omega) (by omega)]
          rw [show (t.length : Int) + 1 - 1 = t.length by omega]
          unfold bk_r32
          refine ⟨fun q => absurd q (by omega), fun _ => ⟨by omega, by omega, by omega, by omega, fun M1 e1 => ⟨by omega, ?_⟩⟩⟩
          have := ih (i + 1) l2 v5 M1 (by omega) g (by
            rw [f2]
            refine ⟨?_, bkStk_e h3 fun q q0 q1 => by rw [e1, bk_up_s (by omega)]⟩
            rw [e1, bk_up_e, h1, ep]) (bkFr_trans F (by rw [e1]; exact bkFr_up (bkFr_refl _ _) ⟨rfl, rfl⟩))
          rw [f2, List.length_cons, ei, show ((t.length + 1 : Nat) : Int) = (t.length : Int) + 1 by omega] at this
          exact this
        · omega
        · omega
  exact key (S 1).toNat 0 [] bk_x M (by omega) rfl trivial (bkFr_refl _ _)
theorem S131c {d s p m : Nat} {M : bk_M} {N : Int → Int} {k : Int} (hR : bkRel M p N) (hp : (M 11 0 1).toNat = p) (hs : (M 11 0 7).toNat = s) (hm : N 0 = m) :
    (M 9 s 0 = 0 → bk_C (d + 5) 0 131 [bk_c 11 0, bk_i k] M (fun t r M' => t = 0 ∧ r = -1 ∧ bkFr (fun k a => k = 52 ∧ a = s) M M')) ∧
    (∀ S, bkSnC M s S → bkSvS m S → bk_C (d + 5) 0 131 [bk_c 11 0, bk_i k] M (fun t r M' => t = 0 ∧ r = (if k = -1 then bkSaN (fun f => bkEn N S 40 (S 1 - 1) f) m else bkSaK (fun f => bkEn N S 40 (S 1 - 1) f) m k (m + 1) 0 0) ∧ bkFr (fun k a => k = 52 ∧ a = s) M M')) := by
  have n5 := (bkRel_md hR).2.2.2.2.1
  have b1 := hR.2.1.1
  refine ⟨fun h => ?_, fun S hS hv => ?_⟩
  · rw [E_131, hs]
    exact ⟨fun _ => ⟨rfl, rfl, bkFr_refl _ _⟩, fun z => absurd h z⟩
  have v1 := hv.2.1
  rw [E_131, hs, hp, hS.1]
  refine ⟨fun z => absurd z (by omega), fun _ => ⟨fun k0 => bk_use (S132c hR hS hm hv) (fun r M2 hM2 => ⟨rfl, ?_⟩), fun k0 => ⟨rfl, ?_, bkFr_refl _ _⟩⟩⟩
  · obtain ⟨er, F⟩ := hM2
    rw [er]
    unfold bkPm
    generalize hP : (fun f => bkEn N S 40 (S 1 - 1) f) = P
    refine ⟨fun k1 => ?_, fun k1 => (S136c (by omega)).2 ⟨rfl, rfl, by rw [if_pos (Decidable.not_not.1 k1)], F⟩⟩
    rw [if_neg k1]
    have g11 : (M2 11 0 1).toNat = p := by rw [F 11 0 (by omega)]; exact hp
    have g5 : M2 5 p 6 = m := by rw [F 5 p (by omega), b1, hm]
    have key : ∀ (j f n : Nat), f + j = m → n ≤ f → bk_wp (bk_C (d + 4)) P_131 (fun t r M' => t = 0 ∧ r = bkSaK P m k (j + 1) f n ∧ bkFr (fun k a => k = 52 ∧ a = s) M M') 0 44 [bk_c 11 0, bk_i k, bk_i (bkBits P m), bk_i n, bk_i f] [] M2 := by
      intro j
      induction j with
      | zero =>
        intro f n hj hn
        rw [L_131_44, g11, g5]
        exact ⟨fun _ => ⟨rfl, by rw [bkSaK_s, if_pos (by omega)], F⟩, fun z => absurd (by omega) z⟩
      | succ j ih =>
        intro f n hj hn
        have ef : ((f + 1 : Nat) : Int) = f + 1 := by omega
        have en : ((n + 1 : Nat) : Int) = n + 1 := by omega
        rw [L_131_44, g11, g5, Int.toNat_natCast, bk_and1, bkBits_get, bkSaK_s, if_neg (show ¬ (m : Int) ≤ f by omega)]
        refine ⟨fun z => absurd z (by omega), fun _ => ⟨by omega, ?_⟩⟩
        unfold bk_r32
        cases e : P f with
        | true =>
          rw [if_pos (show f < m ∧ true = true from ⟨by omega, rfl⟩), if_pos rfl]
          refine ⟨fun q => absurd rfl q, fun _ => ⟨fun z => ⟨by omega, by omega, ?_⟩, fun z => ⟨rfl, ?_, F⟩⟩⟩
          · have := ih (f + 1) (n + 1) (by omega) (by omega)
            rw [ef, en] at this
            rw [if_neg z]
            exact this
          · rw [if_pos (Decidable.not_not.1 z)]
        | false =>
          rw [if_neg (show ¬ (f < m ∧ false = true) from fun q => absurd q.2 (by decide)), if_neg (by decide)]
          refine ⟨fun _ => ⟨by omega, ?_⟩, fun q => absurd (show (0 : Int) ≠ 1 by decide) q⟩
          have := ih (f + 1) n (by omega) (by omega)
          rw [ef] at this
          exact this
    exact key m 0 0 (by omega) (by omega)
  · rw [if_neg (by omega), bkSaK_neg (by omega) _ _ _ (by omega)]
