/-! The class reads a ONE. -/
theorem S128c {d : Nat} {Q : bk_Q} {M : bk_M} {T : Int → Int} {c L i : Int} (h : bkCk M T c L i) : bk_C (d + 1) 0 128 [bk_c 10 0] M Q ↔ Q 0 (if bkBeg T c L i = true then 1 else 0) M := by
  obtain ⟨k1, k2, k3, k4, k5⟩ := h
  refine bk_det (fun Q hQ => ?_) Q
  unfold bkBeg at hQ
  simp only [decide_eq_true_eq] at hQ
  have k4' : bkTk T c L i = 2 → M 10 0 4 = bkWd T c i := fun z => (k4 z).2
  rw [E_128, k1]
  refine ⟨fun z => ⟨.inr rfl, by rwa [if_pos (.inl z)] at hQ⟩, fun z => ⟨fun z2 => ⟨.inl rfl, by rwa [if_neg (by omega)] at hQ⟩, fun z2 => ?_⟩⟩
  have z2 : bkTk T c L i = 2 := by omega
  rw [k4' z2]
  exact ⟨fun w => ⟨.inr rfl, by rwa [if_pos (by omega)] at hQ⟩, fun w => ⟨fun w2 => ⟨.inr rfl, by rwa [if_pos (by omega)] at hQ⟩, fun w2 => ⟨fun w3 => ⟨.inr rfl, by rwa [if_pos (by omega)] at hQ⟩, fun w3 => ⟨fun w4 => ⟨.inl rfl, by rwa [if_neg (by omega)] at hQ⟩, fun w4 => ⟨.inr rfl, by rwa [if_pos (by omega)] at hQ⟩⟩⟩⟩⟩
/-- what the reader of a plain ONE has done: the class stands on its last token -/
def bkSL (s : Nat) (M : bk_M) (r : Int) (M' : bk_M) (O : (Int × Int) ⊕ (Int × (Int → Int))) : Prop := bkSp s M M' ∧ (∀ w q, O = .inl (w, q) → r = 0 ∧ M' 10 0 6 = w ∧ M' 10 0 7 = q) ∧ (∀ j S, O = .inr (j, S) → r = 1 ∧ M' 10 0 10 = j ∧ M' 10 0 6 = M 10 0 6 ∧ bkSnC M' s S)
theorem bkSL_l {s : Nat} {M M' : bk_M} {r w q : Int} {O : (Int × Int) ⊕ (Int × (Int → Int))} (hO : O = .inl (w, q)) (f : bkSp s M M') (hr : r = 0) (h6 : M' 10 0 6 = w) (h7 : M' 10 0 7 = q) : (r = 0 ∨ r = 1) ∧ (0 : Nat) = 0 ∧ bkSL s M r M' O := by
  subst hO
  exact ⟨.inl hr, rfl, f, fun w q e => (by cases e; exact ⟨hr, h6, h7⟩), fun i S e => (by cases e)⟩
theorem bkSL_r {s : Nat} {M M' : bk_M} {r j : Int} {S : Int → Int} {O : (Int × Int) ⊕ (Int × (Int → Int))} (hO : O = .inr (j, S)) (f : bkSp s M M') (hr : r = 1) (h10 : M' 10 0 10 = j) (h6 : M' 10 0 6 = M 10 0 6) (hR : bkSnC M' s S) : (r = 0 ∨ r = 1) ∧ (0 : Nat) = 0 ∧ bkSL s M r M' O := by
  subst hO
  exact ⟨.inr hr, rfl, f, fun w q e => (by cases e), fun i S e => (by cases e; exact ⟨hr, h10, h6, hR⟩)⟩
theorem S130c {d s p m : Nat} {M : bk_M} {f : Int → Int} {T : Int → Int} {c L i : Int} {S : Int → Int} (hC : bkCt M T c L) (hK : bkCk M T c L i) (hH : bkSH c S i) (hn : S 1 < 40) (hS : bkSnC M s S) (hf : M 33 p = f ∧ M 5 p 6 = m) (hm : m ≤ 10) (ht : bkTk T c L i = 2) : bk_C (d + 3) 0 130 [bk_c 9 s, bk_c 10 0, bk_c 5 p] M (fun t r M' => t = 0 ∧ bkSL s M r M' (bkSLeaf f m T c L S i)) := by
  have w4 : M 10 0 4 = bkWd T c i := (hK.2.2.2.1 ht).2
  have hb := @bkWd_b T c i
  have n1 := @bkTn_b T c L i hH.2.1
  have n2 := @bkTn_b T c L _ n1.2
  have i0 := hH.1
  have s1 := hH.2.2.2.2.1
  have ye : ∀ {j a : Int}, (if bkIsW T c L j a = true then (1 : Int) else 0) ≠ 0 → bkIsW T c L j a = true := fun {j a} z => by
    by_cases q : bkIsW T c L j a = true
    · exact q
    · exact absurd (if_neg q) z
  -- a node is put, nothing read behind it
  have put : ∀ (M1 : bk_M) (w a b r a2 a3 j : Int), bkSp s M M1 → bkSnC M1 s S → M1 10 0 10 = j → M1 10 0 6 = M 10 0 6 → (w = 19 ∨ w = 20 → a2 = a) → (21 ≤ w → a2 = b ∧ a3 = r) → bkSLeaf f m T c L S i = .inr (j, bkNp S w a b r) → bk_C (d + 2) 0 129 [bk_c 9 s, bk_i w, bk_i a2, bk_i a3] M1 (fun t r M' => t = 0 ∧ (r = 0 ∨ r = 1) ∧ (0 : Nat) = 0 ∧ bkSL s M r M' (bkSLeaf f m T c L S i)) := fun M1 w a b r a2 a3 j F hS' h10 h6 h1 h2 e => bk_use (S129c (a := a) (b := b) (r := r) hS' ⟨s1, hn⟩ h1 h2) (fun r' M' hM' => by
    obtain ⟨q1, q2, q3⟩ := hM'
    exact ⟨rfl, bkSL_r e (bkSp_trans F (bkSp_fr q2)) q1 (by rw [q2 10 0 (by omega)]; exact h10) (by rw [q2 10 0 (by omega)]; exact h6) q3⟩)
  have bad : ∀ (M1 : bk_M) (a j : Int), bkSp s M M1 → bkCk M1 T c L j → bkSLeaf f m T c L S i = .inl (a, bkTf T c L j) → bk_C (d + 2) 0 16 [bk_c 10 0, bk_i a] M1 (fun t r M' => t = 0 ∧ (r = 0 ∨ r = 1) ∧ (0 : Nat) = 0 ∧ bkSL s M r M' (bkSLeaf f m T c L S i)) := fun M1 a j F K e => bk_use S16c (fun r M' hM' => by
    obtain ⟨q1, q2, q3, q4, q5⟩ := hM'
    exact ⟨rfl, bkSL_l e (bkSp_trans F (bkSp_c q2)) q1 q3 (q4.trans K.2.2.1)⟩)
  rw [E_130, w4]
  by_cases z : bkWd T c i = 19 ∨ bkWd T c i = 20
  · refine (fun tx => ⟨fun _ => tx, fun q => ⟨fun q2 => absurd z (by omega), fun _ => tx⟩⟩) ?_
    refine bk_use (S7c hC hK.2.1 (by omega)) (fun r M2 hM2 => ⟨rfl, ?_⟩)
    obtain ⟨f2, k6, K2⟩ := hM2
    have F2 : bkSp s M M2 := bkSp_c f2
    refine (S24c K2).2 ⟨rfl, fun q => ?_, fun q => ?_⟩
    · have nm := ye q
      have k2 : bkTk T c L (bkTn T c L i) = 2 := by unfold bkIsW at nm; rw [decide_eq_true_eq] at nm; exact nm.1
      have g33 : M2 33 p = f := by rw [f2.1 33 p (by omega)]; exact hf.1
      have g5 : M2 5 p 6 = m := by rw [f2.1 5 p (by omega)]; exact hf.2
      rw [(K2.2.2.2.1 k2).1, g5, S11f (by omega), g33, show (m : Int).toNat = m by omega]
      refine ⟨rfl, fun w => ?_, fun w => bad M2 3 _ F2 K2 ?_⟩
      · refine put M2 _ (bkIx f (bkTw 32 T c (bkTn T c L i)) m) 0 0 _ _ _ F2 (bkSnC_c hS f2) K2.2.1 k6 (fun _ => rfl) (fun q => by omega) ?_
        unfold bkSLeaf
        rw [if_pos z, if_pos nm, if_neg w]
      · unfold bkSLeaf
        rw [if_pos z, if_pos nm, if_pos (Decidable.not_not.1 w)]
    · have nm : ¬ bkIsW T c L (bkTn T c L i) (-1) = true := fun w => q (by rw [if_pos w]; decide)
      refine bad M2 1 _ F2 K2 ?_
      unfold bkSLeaf
      rw [if_pos z, if_neg nm]
  refine ⟨fun q => absurd (.inl q) z, fun _ => ⟨fun _ => ⟨fun z2 => ?_, fun z2 => ?_⟩, fun q => absurd (.inr (Decidable.not_not.1 q)) z⟩⟩
  · refine put M _ 0 0 0 _ _ _ (bkSp_c (bkCf_refl M)) hS hK.2.1 rfl (fun q => absurd q z) (fun q => by omega) ?_
    unfold bkSLeaf
    rw [if_neg z, if_neg (by omega)]
  refine bk_use (S7c hC hK.2.1 (by omega)) (fun r M2 hM2 => ⟨rfl, ?_⟩)
  obtain ⟨f2, k6, K2⟩ := hM2
  have F2 : bkSp s M M2 := bkSp_c f2
  have ks := K2.1
  by_cases sg : bkTk T c L (bkTn T c L i) = 60 ∨ bkTk T c L (bkTn T c L i) = 61 ∨ bkTk T c L (bkTn T c L i) = 62
  · refine (fun tx => ⟨fun _ => tx, fun _ => ⟨fun _ => tx, fun _ => ⟨fun _ => tx, fun q => absurd sg (by rw [ks] at *; omega)⟩⟩⟩) ?_
    refine bk_use (S7c (bkCt_s hC F2) K2.2.1 (by omega)) (fun r M3 hM3 => ⟨rfl, ?_⟩)
    obtain ⟨f3, k63, K3⟩ := hM3
    have F3 : bkSp s M M3 := bkSp_trans F2 (bkSp_c f3)
    refine ⟨fun q => bad M3 1 _ F3 K3 ?_, fun q => ?_⟩
    · unfold bkSLeaf
      rw [if_neg z, if_pos (by omega), if_pos sg, if_neg (by rw [← K3.1]; exact q)]
    · have nu : bkTk T c L (bkTn T c L (bkTn T c L i)) = 3 := by rw [← K3.1]; omega
      refine put M3 _ 0 (bkTv T c (bkTn T c L (bkTn T c L i))) (bkTk T c L (bkTn T c L i)) _ _ _ F3 (bkSnC_c (bkSnC_c hS f2) f3) K3.2.1 (k63.trans k6) (fun q => absurd q z) (fun _ => ⟨K3.2.2.2.2 nu, ks⟩) ?_
      unfold bkSLeaf
      rw [if_neg z, if_pos (by omega), if_pos sg, if_pos nu]
  · refine ⟨fun q => absurd (.inl (ks.symm.trans q)) sg, fun _ => ⟨fun q => absurd (.inr (.inl (ks.symm.trans q))) sg, fun _ => ⟨fun q => absurd (.inr (.inr (ks.symm.trans q))) sg, fun _ => bad M2 1 _ F2 K2 ?_⟩⟩⟩
    unfold bkSLeaf
    rw [if_neg z, if_pos (by omega), if_neg sg]
theorem bkCR_127 {s p : Nat} {f : Int → Int} {m : Nat} {T : Int → Int} {c L : Int} (hL : 0 ≤ L ∧ L ≤ 940) (hm : m ≤ 10) : ∀ (k : Nat) (dep : Int), k ≤ 8 → dep = 9 - k → bkCR s p f m T c L (4 * k + 3) 127 dep (bkSOne f m T c L k) := by
  have ye : ∀ {i : Int}, (if bkBeg T c L i = true then (1 : Int) else 0) ≠ 0 → bkBeg T c L i = true := fun {i} z => by
    by_cases q : bkBeg T c L i = true
    · exact q
    · exact absurd (if_neg q) z
  intro k
  induction k with
  | zero =>
    intro dep hk8 hd d M S i hC hK hH hS hf
    have bad : ∀ (a : Int) {O : (Int × Int) ⊕ (Int × (Int → Int))}, O = .inl (a, bkTf T c L i) → bk_C (d + 5) 0 16 [bk_c 10 0, bk_i a] M (fun t r M' => t = 0 ∧ (r = 0 ∨ r = 1) ∧ (0 : Nat) = 0 ∧ bkSO s T c L M r M' O) := fun a O e => bk_use S16c (fun r M' hM' => by
      obtain ⟨q1, q2, q3, q4, q5⟩ := hM'
      exact ⟨rfl, bkSO_l e (bkSp_c q2) q1 q3 (q4.trans hK.2.2.1)⟩)
    show bk_C (d + 5 + 1) 0 127 _ _ _
    rw [E_127]
    refine (S128c hK).2 ⟨rfl, fun z => ⟨fun _ => bad 4 ?_, fun _ => ⟨fun q => absurd q (by omega), fun _ => bad 4 ?_⟩⟩, fun z => bad 1 ?_⟩
    · unfold bkSOne; rw [if_pos (ye z)]
    · unfold bkSOne; rw [if_pos (ye z)]
    · unfold bkSOne; rw [if_neg (fun q => z (by rw [if_pos q]; decide))]
  | succ k ih =>
    intro dep hk8 hd d M S i hC hK hH hS hf
    show bk_C (d + (4 * k + 3) + 6 + 1) 0 127 _ _ _
    have ih := ih (dep + 1) (by omega) (by omega)
    have n1 := @bkTn_b T c L i hH.2.1
    have i0 := hH.1
    have hg := bkSG_one (f := f) (m := m) (T := T) (c := c) (L := L) hL k
    have bad : ∀ (M1 : bk_M) (a j : Int) {O : (Int × Int) ⊕ (Int × (Int → Int))}, bkSp s M M1 → bkCk M1 T c L j → O = .inl (a, bkTf T c L j) → bk_C (d + (4 * k + 3) + 6) 0 16 [bk_c 10 0, bk_i a] M1 (fun t r M' => t = 0 ∧ (r = 0 ∨ r = 1) ∧ (0 : Nat) = 0 ∧ bkSO s T c L M r M' O) := fun M1 a j O F K e => bk_use S16c (fun r M' hM' => by
      obtain ⟨q1, q2, q3, q4, q5⟩ := hM'
      exact ⟨rfl, bkSO_l e (bkSp_trans F (bkSp_c q2)) q1 q3 (q4.trans K.2.2.1)⟩)
    rw [E_127, S128c hK, hS.2.1]
    have F0 : bkSp s M M := bkSp_c (bkCf_refl M)
    refine ⟨rfl, fun z => ⟨fun z2 => bad M 4 i F0 hK ?_, fun z2 => ⟨fun _ => ?_, fun q => absurd (by omega) q⟩⟩, fun z => bad M 1 i F0 hK ?_⟩
    · rw [bkSOne_s, if_neg (fun q => q (ye z)), if_pos z2]
    · have bg := ye z
      have h0 := hH.2.2
      refine ⟨by unfold bk_r32; omega, fun M7 e7 => ?_⟩
      have F7 : bkSp s M M7 := bkSp_fr (by rw [e7]; exact bkFr_up (bkFr_refl _ _) ⟨.inl rfl, rfl⟩)
      have t7 : M7 10 0 = M 10 0 := by rw [e7, bk_up_f (by decide)]
      have K7 := bkCk_e hK t7
      have C7 := bkCt_s hC F7
      have e0 : bkPut S 0 (S 0 + 1) 0 = S 0 + 1 := bkPut_e
      have e1 : bkPut S 0 (S 0 + 1) 1 = S 1 := bkPut_o (by decide)
      have S7 : bkSnC M7 s (bkPut S 0 (S 0 + 1)) := by
        obtain ⟨q1, q2, q3⟩ := hS
        refine ⟨by rw [e7, bk_up_s (by decide), q1, e1], by rw [e7, bk_up_e, e0], fun k k0 k1 => ?_⟩
        rw [e1] at k1
        have := q3 k k0 k1
        unfold bkNq at *
        rw [e7, bk_up_k (by decide), bk_up_k (by decide), bk_up_k (by decide), bkPut_o (by omega), bkPut_o (by omega), bkPut_o (by omega), bkPut_o (by omega)]
        exact this
      have H7 : bkSH c (bkPut S 0 (S 0 + 1)) i := by
        unfold bkSH at *
        rw [e0, e1]
        omega
      have f7 : M7 33 p = f ∧ M7 5 p 6 = m := by rw [F7.1 33 p (by unfold bkSa; omega), F7.1 5 p (by unfold bkSa; omega)]; exact hf
      rw [bkSOne_s, if_neg (fun q => q bg), if_neg z2, K7.1]
      generalize bkPut S 0 (S 0 + 1) = S1 at *
      have fr : ∀ M', bkSp s M M' → M' 33 p = f ∧ M' 5 p 6 = m := fun M' F => by rw [F.1 33 p (by unfold bkSa; omega), F.1 5 p (by unfold bkSa; omega)]; exact hf
      refine ⟨fun nb => ?_, fun nb => ?_⟩
      · rw [if_neg nb]
        have bg2 := bg
        unfold bkBeg at bg2
        rw [decide_eq_true_eq] at bg2
        have ht : bkTk T c L i = 2 := by omega
        rw [show M7 10 0 4 = bkWd T c i from (K7.2.2.2.1 ht).2]
        refine ⟨fun nt => ?_, fun nt => ?_⟩
        · rw [if_neg nt]
          refine bk_use (S130c (m := m) C7 K7 H7 (by omega) S7 f7 hm ht) (fun r8 M9 hM9 => ⟨rfl, ?_⟩)
          obtain ⟨F9, g1, g2⟩ := hM9
          rcases e : bkSLeaf f m T c L S1 i with ⟨w, q⟩ | ⟨j, S'⟩
          · obtain ⟨a1, a2, a3⟩ := g1 w q e
            exact ⟨fun _ => by rw [a1]; exact bkSO_l rfl (bkSp_trans F7 F9) rfl a2 a3, fun q => absurd a1 q⟩
          · obtain ⟨a1, a2, a3, a4⟩ := g2 j S' e
            have hI := (bkSLeaf_g (So := fun q => if q = 0 then S1 0 - 1 else S1 q) hL H7 (by rw [if_pos rfl]; omega) (by rw [if_neg (by decide)]) (fun q q0 => by rw [if_neg (by omega)]) (by omega)).2 j S' e
            refine ⟨fun q => absurd q (by omega), fun _ => bk_use (S7c (bkCt_s C7 F9) a2 (by have := hI.1; have := hI.2.1; omega)) (fun r11 M12 hM12 => ⟨rfl, ?_⟩)⟩
            obtain ⟨f12, k6, K12⟩ := hM12
            exact bkSO_r rfl (bkSp_trans F7 (bkSp_trans F9 (bkSp_c f12))) a1 K12 (by rw [k6, a3, t7]) (bkSnC_c a4 f12)
        · have nt : bkWd T c i = 16 := Decidable.not_not.1 nt
          rw [if_pos nt]
          rw [E_286]
          refine bk_use (S7c C7 K7.2.1 (by omega)) (fun r14 M15 hM15 => ⟨rfl, by unfold bk_r32; omega, ?_⟩)
          obtain ⟨f15, k6, K15⟩ := hM15
          have F15 := bkSp_trans F7 (bkSp_c f15)
          have H15 := bkSH_n (T := T) (L := L) H7
          have hh := ih (d + 2) M15 S1 _ (bkCt_s hC F15) K15 H15 (bkSnC_c S7 f15) (fr M15 F15)
          rw [show d + 2 + (4 * k + 3) + 3 = d + (4 * k + 3) + 5 by omega] at hh
          refine bk_use hh (fun r17 M18 hM18 => ⟨rfl, ?_⟩)
          obtain ⟨F18, g1, g2⟩ := hM18
          rcases e : bkSOne f m T c L k S1 (bkTn T c L i) with ⟨w, q⟩ | ⟨j, S'⟩
          · obtain ⟨a1, a2, a3⟩ := g1 w q e
            exact ⟨fun _ => ⟨.inl rfl, rfl, bkSO_l rfl (bkSp_trans F15 F18) rfl a2 a3⟩, fun q => absurd a1 q⟩
          · obtain ⟨a1, a2, a3, a4⟩ := g2 j S' e
            have hI := (hg S1 _ H15).2 j S' e
            have q1 := hI.2.2.1
            have q2 := hI.2.2.2.1
            have q3 := hI.2.2.2.2.1
            have q4 := hI.2.2.2.2.2.1
            have h7 := H7.2.2
            refine ⟨fun q => absurd q (by omega), fun _ => bk_use (S129c (a := S' 1 - 1) (b := 0) (r := 0) a4 (by omega) (fun q => by omega) (fun q => by omega)) (fun r20 M21 hM21 => ⟨rfl, ?_⟩)⟩
            obtain ⟨b1, b2, b3⟩ := hM21
            exact ⟨fun q => absurd q (by omega), fun _ => ⟨.inr rfl, rfl, bkSO_r rfl (bkSp_trans F15 (bkSp_trans F18 (bkSp_fr b2))) rfl (bkCk_e a2 (b2 10 0 (by omega))) (by rw [b2 10 0 (by omega), a3, k6, t7]) b3⟩⟩
      · have nb : bkTk T c L i = 40 := Decidable.not_not.1 nb
        rw [if_pos nb, E_285]
        have bad2 : ∀ (M1 : bk_M) (a j : Int) {O : (Int × Int) ⊕ (Int × (Int → Int))}, bkSp s M M1 → bkCk M1 T c L j → O = .inl (a, bkTf T c L j) → bk_C (d + (4 * k + 3) + 5) 0 16 [bk_c 10 0, bk_i a] M1 (fun t r M' => t = 0 ∧ (r = 0 ∨ r = 1) ∧ (0 : Nat) = 0 ∧ (r = 0 ∨ r = 1) ∧ (0 : Nat) = 0 ∧ bkSO s T c L M r M' O) := fun M1 a j O F K e => bk_use S16c (fun r M' hM' => by
          obtain ⟨q1, q2, q3, q4, q5⟩ := hM'
          have h := bkSO_l (T := T) (c := c) (L := L) e (bkSp_trans F (bkSp_c q2)) q1 q3 (q4.trans K.2.2.1)
          exact ⟨rfl, h.1, rfl, h⟩)
        refine bk_use (S7c C7 K7.2.1 (by omega)) (fun r23 M24 hM24 => ⟨rfl, by unfold bk_r32; omega, ?_⟩)
        obtain ⟨f24, k6, K24⟩ := hM24
        have F24 := bkSp_trans F7 (bkSp_c f24)
        have H24 := bkSH_n (T := T) (L := L) H7
        have hh := bkCR_125 (bkCR_126 ih hg) (bkSG_seq (T := T) (L := L) hg (.inr rfl)) d M24 S1 _ (bkCt_s hC F24) K24 H24 (bkSnC_c S7 f24) (fr M24 F24)
        rw [show d + (4 * k + 3 + 1 + 1) + 3 = d + (4 * k + 3) + 5 by omega] at hh
        refine bk_use hh (fun r26 M27 hM27 => ⟨rfl, ?_⟩)
        obtain ⟨F27, g1, g2⟩ := hM27
        rcases e : bkSSeq T c L (bkSSeq T c L (bkSOne f m T c L k) 15) 14 S1 (bkTn T c L i) with ⟨w, q⟩ | ⟨j, S'⟩
        · obtain ⟨a1, a2, a3⟩ := g1 w q e
          exact ⟨fun q => absurd a1 q, fun _ => ⟨.inl rfl, rfl, bkSO_l rfl (bkSp_trans F24 F27) rfl a2 a3⟩⟩
        · obtain ⟨a1, a2, a3, a4⟩ := g2 j S' e
          have hI := (bkSG_seq (T := T) (L := L) (bkSG_seq (T := T) (L := L) hg (.inr rfl)) (.inl rfl) S1 _ H24).2 j S' e
          have nj := @bkTn_b T c L j hI.2.1
          have q0 := hI.1
          rw [a2.1]
          refine ⟨fun _ => ⟨fun q => ?_, fun q => bad2 M27 1 j (bkSp_trans F24 F27) a2 (by dsimp only; rw [if_neg q])⟩, fun q => absurd (show r26 ≠ 0 by omega) q⟩
          refine bk_use (S7c (bkCt_s hC (bkSp_trans F24 F27)) a2.2.1 (by omega)) (fun r29 M30 hM30 => ⟨rfl, ?_⟩)
          obtain ⟨f30, k30, K30⟩ := hM30
          exact ⟨.inr rfl, rfl, bkSO_r (by dsimp only; rw [if_pos q]) (bkSp_trans F24 (bkSp_trans F27 (bkSp_c f30))) rfl K30 (by rw [k30, a3, k6, t7]) (bkSnC_c a4 f30)⟩
    · rw [bkSOne_s, if_pos (fun q => z (by rw [if_pos q]; decide))]
/-- the class's sentence reader -/
theorem S124c {d s p m : Nat} {M : bk_M} {f T : Int → Int} {c : Int} (hT : M 53 0 = T) (hc : M 10 0 1 = c) (hc2 : 0 ≤ c ∧ c ≤ 940) (hw : ∀ w : Nat, w < 25 → M 54 0 w = bkWt w) (hf : M 33 p = f ∧ M 5 p 6 = m) (hm : m ≤ 10) : bk_C (d + 41) 0 124 [bk_c 9 s, bk_c 10 0, bk_c 5 p] M (fun t r M' => t = 0 ∧ bkFr (bkSa s) M M' ∧ (∀ j, j ≠ 2 → j ≠ 3 → j ≠ 4 → j ≠ 5 → j ≠ 6 → j ≠ 7 → j ≠ 9 → j ≠ 10 → j ≠ 11 → M' 10 0 j = M 10 0 j) ∧ (∀ w q, bkSTx f m T c 200 = .inl (w, q) → r = 0 ∧ M' 10 0 6 = w ∧ M' 10 0 7 = q) ∧ (∀ j S, bkSTx f m T c 200 = .inr (j, S) → r = 1 ∧ M' 10 0 6 = 0 ∧ bkSnC M' s S)) := by
  rw [E_124, E_37]
  intro M1 e1 M2 e2
  have f2 : bkFr (fun k a => (k = 9 ∨ (49 ≤ k ∧ k ≤ 51)) ∧ a = s) M M2 := by rw [e2, e1]; exact bkFr_up (bkFr_up (bkFr_refl _ _) ⟨.inl rfl, rfl⟩) ⟨.inl rfl, rfl⟩
  refine ⟨rfl, bk_use (S6c (by rw [f2 10 0 (by omega), hc]; exact hc2) (fun w hw' => by rw [f2 54 0 (by omega)]; exact hw w hw')) (fun r M5 hM5 => ⟨rfl, ?_⟩)⟩
  obtain ⟨f5, o5, C5, K5, z6, z7⟩ := hM5
  rw [f2 53 0 (by omega), f2 10 0 (by omega), hT, hc] at C5 K5
  have F5 : bkFr (bkSa s) M M5 := bkFr_trans (bkFr_mono f2 fun k a w => .inr w) (bkFr_mono f5 fun k a w => .inl w)
  have O5 : ∀ j, j ≠ 2 → j ≠ 3 → j ≠ 4 → j ≠ 5 → j ≠ 6 → j ≠ 7 → j ≠ 9 → j ≠ 10 → j ≠ 11 → M5 10 0 j = M 10 0 j := fun j q1 q2 q3 q4 q5 q6 q7 q8 q9 => by rw [o5 j q1 q2 q3 q4 q5 q6 q7 q8 q9, f2 10 0 (by omega)]
  have S5 : bkSnC M5 s bkS00 := by
    unfold bkSnC
    rw [f5 9 s (by omega), e2, bk_up_s (by decide), bk_up_e, e1, bk_up_e]
    exact ⟨rfl, rfl, fun k k0 k1 => by rw [show bkS00 1 = 0 from rfl] at k1; omega⟩
  have hH : bkSH c bkS00 0 := by unfold bkSH bkS00; omega
  have hg := bkSG_one (f := f) (m := m) (T := T) (c := c) (L := 200) (by omega) 8
  have hh := bkCR_125 (bkCR_126 (bkCR_127 (s := s) (p := p) (f := f) (m := m) (T := T) (c := c) (L := 200) (by omega) hm 8 1 (by omega) (by omega)) hg) (bkSG_seq (T := T) (L := 200) hg (.inr rfl)) d M5 bkS00 0 C5 K5 hH S5 (by rw [F5 33 p (by unfold bkSa; omega), F5 5 p (by unfold bkSa; omega)]; exact hf)
  refine bk_use hh (fun r M8 hM8 => ⟨rfl, ?_⟩)
  obtain ⟨F8, g1, g2⟩ := hM8
  have F8' := bkFr_trans F5 F8.1
  have O8 : ∀ j, j ≠ 2 → j ≠ 3 → j ≠ 4 → j ≠ 5 → j ≠ 6 → j ≠ 7 → j ≠ 9 → j ≠ 10 → j ≠ 11 → M8 10 0 j = M 10 0 j := fun j q1 q2 q3 q4 q5 q6 q7 q8 q9 => by rw [F8.2 j q1 q2 q3 q4 q5 q6 q8 q9, O5 j q1 q2 q3 q4 q5 q6 q7 q8 q9]
  generalize hO : bkSTx f m T c 200 = O
  unfold bkSTx at hO
  rcases e : bkSSeq T c 200 (bkSSeq T c 200 (bkSOne f m T c 200 8) 15) 14 bkS00 0 with ⟨w, q⟩ | ⟨j, S'⟩
  · rw [e] at hO
    obtain ⟨a1, a2, a3⟩ := g1 w q e
    exact ⟨fun _ => ⟨.inl rfl, rfl, F8', O8, fun w q e => (by rw [← hO] at e; cases e; exact ⟨rfl, a2, a3⟩), fun j S e => (by rw [← hO] at e; cases e)⟩, fun q => absurd a1 q⟩
  · rw [e] at hO
    obtain ⟨a1, a2, a3, a4⟩ := g2 j S' e
    rw [a2.1]
    refine ⟨fun q => absurd q (by omega), fun _ => ⟨fun z => ?_, fun z => bk_use S16c (fun r10 M11 hM11 => ⟨rfl, ?_⟩)⟩⟩
    · dsimp only at hO
      rw [if_pos z] at hO
      exact ⟨.inr rfl, rfl, F8', O8, fun w q e => (by rw [← hO] at e; cases e), fun j S e => (by rw [← hO] at e; cases e; exact ⟨rfl, a3.trans z6, a4⟩)⟩
    · dsimp only at hO
      rw [if_neg z] at hO
      obtain ⟨q1, q2, q3, q4, q5⟩ := hM11
      exact ⟨fun _ => ⟨.inl rfl, rfl, bkFr_trans F8' (bkFr_mono q2.1 fun k a w => .inl w), fun j r1 r2 r3 r4 r5 r6 r7 r8 r9 => by rw [q2.2 j r1 r2 r3 r4 r5 r6 r8 r9, O8 j r1 r2 r3 r4 r5 r6 r7 r8 r9], fun w q e => (by rw [← hO] at e; cases e; exact ⟨rfl, q3, q4.trans a2.2.2.1⟩), fun j S e => (by rw [← hO] at e; cases e)⟩, fun q => absurd q1 q⟩
