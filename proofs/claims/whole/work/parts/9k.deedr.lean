/-! A DEED: the reference. -/
theorem S169i {d : Nat} {Q : bk_Q} {M : bk_M} : bk_C (d + 1) 0 169 [bk_i 105, bk_i 115, bk_i 0, bk_i 0, bk_i 0, bk_i 0, bk_i 0] M Q ↔ Q 0 (bkCv 7 307) M := by
  rw [show bkCv 7 307 = 262 by decide]
  refine bk_det (fun Q hQ => ?_) Q
  simpa [E_169, L_169_38, bk_r64] using hQ
theorem S169a {d : Nat} {Q : bk_Q} {M : bk_M} : bk_C (d + 1) 0 169 [bk_i 97, bk_i 116, bk_i 0, bk_i 0, bk_i 0, bk_i 0, bk_i 0] M Q ↔ Q 0 (bkCv 7 52) M := by
  rw [show bkCv 7 52 = 47 by decide]
  refine bk_det (fun Q hQ => ?_) Q
  simpa [E_169, L_169_38, bk_r64] using hQ
theorem S253c {d m : Nat} {M : bk_M} {nm : Int → Int} {f : Int} (hN : bkMd (M 58 0)) (hnm : bkNmF M nm m) :
    bk_C (d + 11) 0 253 [bk_c 12 0, bk_i f] M (fun t r M' => t = 0 ∧ M' 12 0 0 = 0 ∧ (∀ j, j ≠ 0 → j ≠ 49 → M' 12 0 j = M 12 0 j) ∧ bkFr (fun k a => (k = 12 ∨ k = 82) ∧ a = 0) M M' ∧ (¬ (0 ≤ f ∧ f < M 58 0 0) → r = -1 ∧ M' 12 0 49 = M 12 0 49 ∧ M' 82 0 = M 82 0) ∧ (0 ≤ f ∧ f < M 58 0 0 → r = (bkDeed (M 58 0) (nm f) f).length ∧ bkTxR M' (bkDeed (M 58 0) (nm f) f))) := by
  obtain ⟨n1, n2, n3, n4, n5, n6, n7, n8, n9, n10, -⟩ := id hN
  rw [E_253]
  intro M1 e1
  have g58 : M1 58 0 = M 58 0 := by rw [e1, bk_up_f (by decide)]
  rw [S192 (by rw [g58]; exact hN), g58]
  by_cases hf : 0 ≤ f ∧ f < M 58 0 0
  · rw [if_pos hf]
    refine ⟨rfl, fun _ => ?_, fun z => absurd (show (1 : Int) ≠ 0 by decide) z⟩
    intro M5 e5
    have q10 := n10 f hf.1 hf.2
    have hb := bkWho_b (M 58 0) f
    obtain ⟨nv, en⟩ := hnm.1 f.toNat (by have := hnm.2; omega)
    rw [show ((f.toNat : Nat) : Int) = f by omega, show 0 + f = f by omega] at en
    rw [show ((f.toNat : Nat) : Int) = f by omega] at nv
    have e63 : M5 63 0 f = bkCv 7 (nm f) := by rw [e5, bk_up_f (by decide), e1, bk_up_f (by decide), en]
    have T5 : bkTxR M5 [] := ⟨by rw [e5, bk_up_e]; rfl, fun q hq => absurd hq (by simp)⟩
    have F5 : bkFr (fun k a => (k = 12 ∨ k = 82) ∧ a = 0) M M5 := by rw [e5, e1]; exact bkFr_up (bkFr_up (bkFr_refl _ _) ⟨.inl rfl, rfl⟩) ⟨.inl rfl, rfl⟩
    have o5 : M5 12 0 0 = 0 ∧ ∀ j, j ≠ 0 → j ≠ 49 → M5 12 0 j = M 12 0 j := ⟨by rw [e5, bk_up_s (by decide), e1, bk_up_e], fun j q1 q2 => by rw [e5, bk_up_s q2, e1, bk_up_s q1]⟩
    rw [e63]
    refine ⟨by omega, bk_use (S254c (d := d + 2) (Nat.le_refl _) nv.2.2 T5 (by decide)) (fun r M7 hM7 => ⟨rfl, S169i.2 ⟨rfl, ?_⟩⟩)⟩
    obtain ⟨T7, F7⟩ := hM7
    rw [List.nil_append] at T7
    have s7 := bkSpl_l 7 (nm f)
    refine bk_use (S256c (d := d + 1) (by decide) T7 (by omega)) (fun r M13 hM13 => ⟨rfl, ?_⟩)
    obtain ⟨T13, F13⟩ := hM13
    have l13 : (bkSpl 7 (nm f) ++ ([32] ++ bkSpl 7 307)).length ≤ 10 := by
      rw [List.length_append, show ([32] ++ bkSpl 7 307 : List Int).length = 3 by decide]; omega
    have f13 : bkFr (fun k a => (k = 12 ∨ k = 82) ∧ a = 0) M M13 := bkFr_trans F5 (bkFr_trans F7.1 F13.1)
    have g13 : M13 58 0 = M 58 0 := f13 58 0 (by omega)
    refine (S194 (by rw [g13]; exact hN) hf.1 (by rw [g13]; exact hf.2)).2 ⟨rfl, ?_⟩
    rw [g13]
    have go : ∀ (w : Nat) (i : Nat), w < 25 → 15 + bkWho (M 58 0) f = bkWn w → bkWho (M 58 0) f = i → ([32] ++ bkSpl 7 307) ++ ([32] ++ bkSpl 7 (bkWt w)) = bk_txt i → (bk_txt i).length ≤ 9 → bk_r32 (15 + bkWho (M 58 0) f) ∧ bk_C (d + 10) 0 168 [bk_i (15 + bkWho (M 58 0) f)] M13 (fun t20 r18 M19 => t20 = 0 ∧ bk_C (d + 10) 0 256 [bk_c 12 0, bk_l r18] M19 (fun t23 r21 M22 => t23 = 0 ∧ bk_C (d + 10) 0 169 [bk_i (97 : Int), bk_i (116 : Int), bk_i (0 : Int), bk_i (0 : Int), bk_i (0 : Int), bk_i (0 : Int), bk_i (0 : Int)] M22 (fun t26 r24 M25 => t26 = 0 ∧ bk_C (d + 10) 0 256 [bk_c 12 0, bk_l r24] M25 (fun t29 r27 M28 => t29 = 0 ∧ bk_C (d + 10) 0 255 [bk_c 12 0, bk_i (32 : Int)] M28 (fun t32 r30 M31 => t32 = 0 ∧ bk_r32 ((42 : Int) + f) ∧ ((0 : Int) ≤ (42 : Int) + f ∧ (42 : Int) + f < (437 : Int)) ∧ bk_r32 ((48 : Int) + (M31 58 0 ((42 : Int) + f))) ∧ bk_C (d + 10) 0 255 [bk_c 12 0, bk_i ((48 : Int) + (M31 58 0 ((42 : Int) + f)))] M31 (fun t35 r33 M34 => t35 = 0 ∧ bk_C (d + 10) 0 255 [bk_c 12 0, bk_i (32 : Int)] M34 (fun t38 r36 M37 => t38 = 0 ∧ bk_r32 ((52 : Int) + f) ∧ ((0 : Int) ≤ (52 : Int) + f ∧ (52 : Int) + f < (437 : Int)) ∧ bk_r32 ((48 : Int) + (M37 58 0 ((52 : Int) + f))) ∧ bk_C (d + 10) 0 255 [bk_c 12 0, bk_i ((48 : Int) + (M37 58 0 ((52 : Int) + f)))] M37 (fun t41 r39 M40 => t41 = 0 ∧ ((0 : Nat) = 0 ∧ M40 12 0 0 = 0 ∧ (∀ j, j ≠ 0 → j ≠ 49 → M40 12 0 j = M 12 0 j) ∧ bkFr (fun k a => (k = 12 ∨ k = 82) ∧ a = 0) M M40 ∧ (¬ (0 ≤ f ∧ f < M 58 0 0) → M40 12 0 49 = -1 ∧ M40 12 0 49 = M 12 0 49 ∧ M40 82 0 = M 82 0) ∧ (0 ≤ f ∧ f < M 58 0 0 → M40 12 0 49 = (bkDeed (M 58 0) (nm f) f).length ∧ bkTxR M40 (bkDeed (M 58 0) (nm f) f))))))))))) := by
      intro w i hw ew hi et hl
      obtain ⟨wv, wz⟩ := bkWt_v w hw
      refine ⟨by unfold bk_r32; omega, (S168 hw ew).2 ⟨rfl, ?_⟩⟩
      rw [← wz]
      refine bk_use (S256c (d := d + 1) wv.2.2 T13 (by omega)) (fun r M22 hM22 => ⟨rfl, S169a.2 ⟨rfl, ?_⟩⟩)
      obtain ⟨T22, F22⟩ := hM22
      rw [List.append_assoc (bkSpl 7 (nm f)), et] at T22
      have l22 : (bkSpl 7 (nm f) ++ bk_txt i).length ≤ 19 := by rw [List.length_append]; omega
      refine bk_use (S256c (d := d + 1) (by decide) T22 (by omega)) (fun r M28 hM28 => ⟨rfl, ?_⟩)
      obtain ⟨T28, F28⟩ := hM28
      have l28 : (bkSpl 7 (nm f) ++ bk_txt i ++ ([32] ++ bkSpl 7 52)).length ≤ 22 := by
        rw [List.length_append, show ([32] ++ bkSpl 7 52 : List Int).length = 3 by decide]; omega
      refine bk_use (S255c T28 (by omega)) (fun r M31 hM31 => ⟨rfl, ?_⟩)
      obtain ⟨T31, F31⟩ := hM31
      have g31 : M31 58 0 = M 58 0 := by rw [F31.1 58 0 (by omega), F28.1 58 0 (by omega), F22.1 58 0 (by omega), g13]
      rw [g31]
      refine ⟨by unfold bk_r32; omega, by omega, by unfold bk_r32; omega, bk_use (S255c T31 (by rw [List.length_append, List.length_singleton]; omega)) (fun r M34 hM34 => ⟨rfl, ?_⟩)⟩
      obtain ⟨T34, F34⟩ := hM34
      refine bk_use (S255c T34 (by rw [List.length_append, List.length_append, List.length_singleton, List.length_singleton]; omega)) (fun r M37 hM37 => ⟨rfl, ?_⟩)
      obtain ⟨T37, F37⟩ := hM37
      have g37 : M37 58 0 = M 58 0 := by rw [F37.1 58 0 (by omega), F34.1 58 0 (by omega), g31]
      rw [g37]
      refine ⟨by unfold bk_r32; omega, by omega, by unfold bk_r32; omega, bk_use (S255c T37 (by rw [List.length_append, List.length_append, List.length_append, List.length_singleton, List.length_singleton]; omega)) (fun r M40 hM40 => ⟨rfl, ?_⟩)⟩
      obtain ⟨T40, F40⟩ := hM40
      have e : bkSpl 7 (nm f) ++ bk_txt i ++ ([32] ++ bkSpl 7 52) ++ [32] ++ [48 + M 58 0 (42 + f)] ++ [32] ++ [48 + M 58 0 (52 + f)] = bkDeed (M 58 0) (nm f) f := by
        unfold bkDeed
        rw [hi, Int.toNat_natCast, show bkSpl 7 52 = [97, 116] by decide]
        simp
      rw [e] at T40
      have D := bkDr_trans F7 (bkDr_trans F13 (bkDr_trans F22 (bkDr_trans F28 (bkDr_trans F31 (bkDr_trans F34 (bkDr_trans F37 F40))))))
      exact ⟨rfl, by rw [D.2 0 (by decide)]; exact o5.1, fun j q1 q2 => by rw [D.2 j q2]; exact o5.2 j q1 q2, bkFr_trans F5 D.1, fun z => absurd hf z, fun _ => ⟨T40.1, T40⟩⟩
    have hc : bkWho (M 58 0) f = 0 ∨ bkWho (M 58 0) f = 1 ∨ bkWho (M 58 0) f = 2 := by omega
    rcases hc with h | h | h
    · exact go 6 0 (by decide) (by rw [h]; decide) h (by decide) (by decide)
    · exact go 7 1 (by decide) (by rw [h]; decide) h (by decide) (by decide)
    · exact go 17 2 (by decide) (by rw [h]; decide) h (by decide) (by decide)
  · rw [if_neg hf]
    exact ⟨rfl, fun z => absurd rfl z, fun _ => ⟨rfl, by rw [e1, bk_up_e], fun j q1 q2 => by rw [e1, bk_up_s q1], by rw [e1]; exact bkFr_up (bkFr_refl _ _) ⟨.inl rfl, rfl⟩, fun _ => ⟨rfl, by rw [e1, bk_up_s (by decide)], by rw [e1, bk_up_f (by decide)]⟩, fun q => absurd q hf⟩⟩
