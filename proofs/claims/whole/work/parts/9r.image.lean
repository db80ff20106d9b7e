/-! Images; a sentence. -/
theorem S138c {d i j : Nat} {M : bk_M} (hij : i ≠ j) : bk_C (d + 1) 0 138 [bk_c 9 i, bk_c 9 j] M (fun t r M' => t = 0 ∧ bkFr (fun k a => bkSk k ∧ a = i) M M' ∧ M' 9 i 0 = M 9 j 0 ∧ ∀ k q, 49 ≤ k → k ≤ 51 → 0 ≤ q → q < 40 → M' k i q = M k j q) := by
  rw [E_138]
  intro M1 e1 M2 e2
  refine ⟨by omega, fun M3 e3 => ⟨by omega, fun M4 e4 => ⟨by omega, fun M5 e5 => ⟨rfl, fun k a w => ?_, ?_, fun k q k0 k1 q0 q1 => ?_⟩⟩⟩⟩
  · unfold bkSk at w
    funext c
    rw [e5, e4, e3, e2, e1]
    unfold bk_cpy bk_up
    rw [if_neg (by omega), if_neg (by omega), if_neg (by omega), if_neg (by omega), if_neg (by omega)]
  · rw [e5, e4, e3]
    unfold bk_cpy
    rw [if_neg (by omega), if_neg (by omega), if_neg (by omega), e2, bk_up_s (by decide), e1, bk_up_e]
  · have u : ∀ k, k ≠ 9 → M2 k j = M k j := fun k w => by rw [e2, bk_up_f w, e1, bk_up_f w]
    have hk : k = 49 ∨ k = 50 ∨ k = 51 := by omega
    rw [e5]
    unfold bk_cpy
    rcases hk with rfl | rfl | rfl
    · rw [if_neg (by omega), e4]
      unfold bk_cpy
      rw [if_neg (by omega), e3]
      unfold bk_cpy
      rw [if_pos (by omega), u 49 (by decide)]
      congr 1
      omega
    · rw [if_neg (by omega), e4]
      unfold bk_cpy
      rw [if_pos (by omega), e3]
      unfold bk_cpy
      rw [if_neg (by omega), u 50 (by decide)]
      congr 1
      omega
    · rw [if_pos (by omega), e4]
      unfold bk_cpy
      rw [if_neg (by omega), e3]
      unfold bk_cpy
      rw [if_neg (by omega), u 51 (by decide)]
      congr 1
      omega
theorem bkSayI_c {M M' : bk_M} {s t : Nat} {N N' : Int → Int} (h : bkSayI M t N) (h9 : M' 9 s 0 = M 9 t 0) (h49 : ∀ k q, 49 ≤ k → k ≤ 51 → 0 ≤ q → q < 40 → M' k s q = M k t q) (hN : ∀ q, 0 ≤ q → q < 437 → N' q = N q) (ho : ∀ S, bkSnC M t S → M' 9 s 1 = S 0) : bkSayI M' s N' := by
  rcases h with ⟨h1, h2⟩ | ⟨S, ⟨k1, k2, k3⟩, ⟨g1, g2, g3⟩, h3⟩
  · exact .inl ⟨by rw [h9]; exact h1, by rw [hN 195 (by decide) (by decide)]; exact h2⟩
  · have v := h3.2.1
    refine .inr ⟨S, ⟨by rw [h9]; exact k1, ho S ⟨k1, k2, k3⟩, fun k k0 k1 => ?_⟩, ⟨by rw [hN _ (by decide) (by decide)]; exact g1, by rw [hN _ (by decide) (by decide)]; exact g2, fun k k0 k1 => ?_⟩, by rw [hN 0 (by decide) (by decide)]; exact h3⟩
    · have := k3 k k0 k1
      unfold bkNq at *
      rw [h49 49 k (by decide) (by decide) k0 (by omega), h49 50 k (by decide) (by decide) k0 (by omega), h49 51 k (by decide) (by decide) k0 (by omega)]
      exact this
    · rw [hN _ (by omega) (by omega), hN _ (by omega) (by omega), hN _ (by omega) (by omega), hN _ (by omega) (by omega)]
      exact g3 k k0 k1
/-- a plain and its sentence are copied -/
theorem bkAllP_cp {M M' : bk_M} {p z s t : Nat} {K K' N N' : Int → Int} (h : bkAllP M z t K N) (hp : ∀ k, bkPk k → M' k p = bkCopy M p z k p) (h9 : M' 9 s 0 = M 9 t 0) (ho : M' 9 s 1 = M 9 t 1) (h49 : ∀ k q, 49 ≤ k → k ≤ 51 → 0 ≤ q → q < 40 → M' k s q = M k t q) (hN : ∀ q, 0 ≤ q → q < 437 → N' q = N q) (hK : ∀ j, 0 ≤ j → j < 13 → K' j = K j) : bkAllP M' p s K' N' := by
  obtain ⟨R, ⟨n1, n2⟩, Sy⟩ := h
  have md := bkRel_md R
  have m0 := md.2.2.2.2.1
  have m1 := md.2.2.2.2.2.1
  refine ⟨bkRel_row (bkRel_fr (bkRel_copy (i := p) R) hp) fun q q0 q1 => hN q q0 (by omega), ⟨fun j hj => ?_, fun j hj => ?_⟩, bkSayI_c Sy h9 h49 hN fun S hS => by rw [ho]; exact hS.2.1⟩
  · rw [hN 0 (by decide) (by decide)] at hj
    rw [hp 33 (.inr (by omega)), bkCopy_a (by decide) (by omega) (by unfold bkLenP; simp; omega), hK j (by omega) (by omega)]
    exact n1 j hj
  · rw [hN 1 (by decide) (by decide)] at hj
    rw [hp 36 (.inr (by omega)), bkCopy_a (by decide) (by omega) (by unfold bkLenP; simp; omega), hK _ (by omega) (by omega)]
    exact n2 j hj
theorem bkAllP_r {M M' : bk_M} {p s : Nat} {K K' N N' : Int → Int} (h : bkAllP M p s K N) (e : ∀ k, bkPk k → M' k p = M k p) (e2 : ∀ k, bkSk k → M' k s = M k s) (hN : ∀ q, 0 ≤ q → q < 437 → N' q = N q) (hK : ∀ j, 0 ≤ j → j < 13 → K' j = K j) : bkAllP M' p s K' N' := by
  obtain ⟨R, ⟨n1, n2⟩, Sy⟩ := h
  have md := bkRel_md R
  have m0 := md.2.2.2.2.1
  have m1 := md.2.2.2.2.2.1
  refine ⟨bkRel_row (bkRel_fr R e) fun q q0 q1 => hN q q0 (by omega), ⟨fun j hj => ?_, fun j hj => ?_⟩, bkSayI_c Sy (by rw [e2 9 (.inl rfl)]) (fun k q k0 k1 _ _ => by rw [e2 k (.inr ⟨k0, k1⟩)]) hN fun S hS => by rw [e2 9 (.inl rfl)]; exact hS.2.1⟩
  · rw [hN 0 (by decide) (by decide)] at hj
    rw [e 33 (.inr (by omega)), hK j (by omega) (by omega)]
    exact n1 j hj
  · rw [hN 1 (by decide) (by decide)] at hj
    rw [e 36 (.inr (by omega)), hK _ (by omega) (by omega)]
    exact n2 j hj
theorem S138o {d i j : Nat} {M : bk_M} (hij : i ≠ j) : bk_C (d + 1) 0 138 [bk_c 9 i, bk_c 9 j] M (fun t r M' => t = 0 ∧ bkFr (fun k a => bkSk k ∧ a = i) M M' ∧ M' 9 i 0 = M 9 j 0 ∧ M' 9 i 1 = M 9 j 1 ∧ ∀ k q, 49 ≤ k → k ≤ 51 → 0 ≤ q → q < 40 → M' k i q = M k j q) := by
  have a := S138c (d := d) (M := M) hij
  have b : bk_C (d + 1) 0 138 [bk_c 9 i, bk_c 9 j] M (fun t r M' => M' 9 i 1 = M 9 j 1) := by
    rw [E_138]
    intro M1 e1 M2 e2
    refine ⟨by omega, fun M3 e3 => ⟨by omega, fun M4 e4 => ⟨by omega, fun M5 e5 => ?_⟩⟩⟩
    rw [e5, e4, e3]
    unfold bk_cpy
    rw [if_neg (by omega), if_neg (by omega), if_neg (by omega), e2, bk_up_e, e1, bk_up_ii (fun q => hij q.symm)]
  exact bk_C_mono (d + 1) 0 138 _ M _ _ (fun t r M' q => ⟨q.1.1, q.1.2.1, q.1.2.2.1, q.2, q.1.2.2.2⟩) (bk_C_and (d + 1) 0 138 _ M _ _ a b)
theorem bkImg_r {M M' : bk_M} {k : Nat} (h : bkImg M k) (e : ∀ i, bkPk i → M' i (11 + k) = M i (11 + k)) (e2 : ∀ i, bkSk i → M' i (2 + k) = M i (2 + k)) (h4 : M' 4 k 2 = M 4 k 2) (h66 : M' 66 0 k = M 66 0 k) (h65 : ∀ j, 0 ≤ j → j < 13 → M' 65 0 (13 * k + j) = M 65 0 (13 * k + j)) (h60 : ∀ q, 0 ≤ q → q < 437 → M' 60 0 (437 * k + q) = M 60 0 (437 * k + q)) : bkImg M' k := by
  unfold bkImg at *
  rw [h4, h66]
  exact ⟨h.1, h.2.imp id fun w => ⟨w.1, bkAllP_r w.2 e e2 h60 h65⟩⟩
theorem L281 {d k : Nat} {M : bk_M} {Q : bk_Q} (hk : k < 2) (hQ : ∀ M', bkFr (fun k a => (k = 60 ∨ k = 65 ∨ k = 66) ∧ a = 0) M M' → (∀ q, M' 60 0 q = if 437 * (k : Int) ≤ q ∧ q < 437 * k + 437 then M 58 0 (q - 437 * k) else M 60 0 q) → (∀ q, M' 65 0 q = if 13 * (k : Int) ≤ q ∧ q < 13 * k + 13 then M 63 0 (q - 13 * k) else M 65 0 q) → (∀ q, M' 66 0 q = if q = (k : Int) then 1 else M 66 0 q) → Q 0 1 M') : bk_wp (bk_C d) P_281 Q 0 18 [bk_c 12 0, bk_i k, bk_i 0] [] M := by
  refine bk_loopS (W := fun j M' => bk_wp (bk_C d) P_281 Q 0 18 [bk_c 12 0, bk_i k, bk_i j] [] M') (s := 0) (n := 437) (fun j M' => bkFr (fun k a => k = 60 ∧ a = 0) M M' ∧ ∀ q, M' 60 0 q = if 437 * (k : Int) ≤ q ∧ q < 437 * k + j then M 58 0 (q - 437 * k) else M 60 0 q) (by decide) ?_ ?_ ⟨bkFr_refl _ _, fun q => by rw [if_neg (by omega)]⟩
  · rintro j M' j0 j1 ⟨F, V⟩ ih
    rw [L_281_18]
    unfold bk_r32
    refine ⟨fun z => absurd z (by omega), fun _ => ⟨by omega, by omega, by omega, by omega, fun P1 f1 => ⟨by omega, ih P1 ⟨bkFr_trans F (by rw [f1]; exact bkFr_up (bkFr_refl _ _) ⟨rfl, rfl⟩), fun q => ?_⟩⟩⟩⟩
    rw [f1, F 58 0 (by omega), bk_up_w]
    by_cases w : q = 437 * k + j
    · rw [if_pos w, if_pos (by omega), w]
      congr 1
      omega
    · rw [if_neg w, V q]
      by_cases w2 : 437 * (k : Int) ≤ q ∧ q < 437 * k + j
      · rw [if_pos w2, if_pos (by omega)]
      · rw [if_neg w2, if_neg (by omega)]
  · rintro M1 ⟨F1, V1⟩
    rw [L_281_18]
    refine ⟨fun _ => ?_, fun z => absurd (by decide) z⟩
    refine bk_loopS (W := fun j M' => bk_wp (bk_C d) P_281 Q 0 51 [bk_c 12 0, bk_i k, bk_i j] [] M') (s := 0) (n := 13) (fun j M' => bkFr (fun k a => k = 65 ∧ a = 0) M1 M' ∧ ∀ q, M' 65 0 q = if 13 * (k : Int) ≤ q ∧ q < 13 * k + j then M 63 0 (q - 13 * k) else M 65 0 q) (by decide) ?_ ?_ ⟨bkFr_refl _ _, fun q => by rw [if_neg (by omega), F1 65 0 (by omega)]⟩
    · rintro j M' j0 j1 ⟨F, V⟩ ih
      rw [L_281_51]
      unfold bk_r32
      refine ⟨fun z => absurd z (by omega), fun _ => ⟨by omega, by omega, by omega, by omega, fun P1 f1 => ⟨by omega, ih P1 ⟨bkFr_trans F (by rw [f1]; exact bkFr_up (bkFr_refl _ _) ⟨rfl, rfl⟩), fun q => ?_⟩⟩⟩⟩
      rw [f1, F 63 0 (by omega), F1 63 0 (by omega), bk_up_w]
      by_cases w : q = 13 * k + j
      · rw [if_pos w, if_pos (by omega), w]
        congr 1
        omega
      · rw [if_neg w, V q]
        by_cases w2 : 13 * (k : Int) ≤ q ∧ q < 13 * k + j
        · rw [if_pos w2, if_pos (by omega)]
        · rw [if_neg w2, if_neg (by omega)]
    · rintro M2 ⟨F2, V2⟩
      rw [L_281_51]
      refine ⟨fun _ => ⟨by omega, .inr rfl, fun M3 e3 => ⟨.inr rfl, hQ M3 ?_ (fun q => ?_) (fun q => ?_) (fun q => ?_)⟩⟩, fun z => absurd (by decide) z⟩
      · exact bkFr_trans (bkFr_mono F1 fun k a w => ⟨.inl w.1, w.2⟩) (bkFr_trans (bkFr_mono F2 fun k a w => ⟨.inr (.inl w.1), w.2⟩) (by rw [e3]; exact bkFr_up (bkFr_refl _ _) ⟨.inr (.inr rfl), rfl⟩))
      · rw [e3, bk_up_k (by decide), F2 60 0 (by omega)]; exact V1 q
      · rw [e3, bk_up_k (by decide)]; exact V2 q
      · rw [e3, bk_up_w, F2 66 0 (by omega), F1 66 0 (by omega)]
theorem T39 (a : Int) : bkStp 137 281 [bk_i a] := fun d M h => by
  have hid := bkIds_p h.1
  have no : ¬ (0 ≤ a ∧ a ≤ 1) → bk_C (d + 60) 0 281 [bk_c 12 0, bk_i a] M (fun t2 r2 M2 => t2 = 0 ∧ (0 : Int) = r2 ∧ bkInv M2) := fun z => by
    rw [E_281]
    intro N1 g1
    rw [S157 (d := d + 58), if_neg z]
    exact ⟨rfl, fun q => absurd rfl q, fun _ => ⟨.inl rfl, rfl, rfl, by rw [g1]; exact bkInv_q h bkQt_mark⟩⟩
  rw [E_137]
  refine ⟨fun z => ⟨.inl rfl, rfl, no (by omega)⟩, fun z0 => ⟨fun z1 => ⟨by omega, ?_⟩, fun z1 => ⟨.inl rfl, rfl, no (by omega)⟩⟩⟩
  obtain ⟨k, rfl⟩ : ∃ k : Nat, a = k := ⟨a.toNat, by omega⟩
  have k2 : k < 2 := by omega
  have hA := h.2.2.2.1
  have i0 := h.2.2.2.2.2.1
  have i1 := h.2.2.2.2.2.2.1
  unfold bkNowI at hA
  generalize hp : (M 11 0 1).toNat = p at *
  generalize hs : (M 11 0 7).toNat = s at *
  rw [show 0 + (k : Int).toNat + 11 = 11 + k by omega, show 0 + (k : Int).toNat + 2 = 2 + k by omega, show 0 + (k : Int).toNat = k by omega]
  refine (S58 (d := d + 58) (by omega)).2 ⟨rfl, by omega, ?_⟩
  have cf := bkCopy_fr M (11 + k) p
  generalize hC : bkCopy M (11 + k) p = C at *
  have uC : ∀ i b, ¬ (bkPk i ∧ b = 11 + k) → C i b = M i b := fun i b w => cf i b (by unfold bkACopy; unfold bkPk at w; exact w)
  rw [show (C 11 0 7).toNat = s by rw [uC 11 0 (by omega)]; exact hs]
  refine bk_use (S138o (d := d + 58) (i := 2 + k) (j := s) (by omega)) (fun r M5 hM5 => ⟨rfl, by omega, .inr rfl, fun M7 e7 => ⟨.inr rfl, rfl, ?_⟩⟩)
  obtain ⟨F5, s0, s1, s4⟩ := hM5
  have u7 : ∀ i b, i ≠ 4 → ¬ (bkSk i ∧ b = 2 + k) → ¬ (bkPk i ∧ b = 11 + k) → M7 i b = M i b := fun i b w1 w2 w3 => by rw [e7, bk_up_f w1, F5 i b w2, uC i b w3]
  rw [E_281]
  intro N1 g1
  rw [S157 (d := d + 58), if_pos (show 0 ≤ (k : Int) ∧ (k : Int) ≤ 1 by omega)]
  refine ⟨rfl, fun _ => ?_, fun q => absurd (show (1 : Int) ≠ 0 by decide) q⟩
  have un : ∀ i b, i ≠ 4 → i ≠ 12 → ¬ (bkSk i ∧ b = 2 + k) → ¬ (bkPk i ∧ b = 11 + k) → N1 i b = M i b := fun i b w1 w2 w3 w4 => by rw [g1, bk_up_f w2, u7 i b w1 w3 w4]
  refine L281 k2 (fun Y FY y60 y65 y66 => ⟨rfl, rfl, ?_⟩)
  rw [un 58 0 (by decide) (by decide) (by unfold bkSk; omega) (by unfold bkPk; omega), un 60 0 (by decide) (by decide) (by unfold bkSk; omega) (by unfold bkPk; omega)] at y60
  rw [un 63 0 (by decide) (by decide) (by unfold bkSk; omega) (by unfold bkPk; omega), un 65 0 (by decide) (by decide) (by unfold bkSk; omega) (by unfold bkPk; omega)] at y65
  rw [un 66 0 (by decide) (by decide) (by unfold bkSk; omega) (by unfold bkPk; omega)] at y66
  have uY : ∀ i b, i ≠ 4 → i ≠ 12 → i ≠ 60 → i ≠ 65 → i ≠ 66 → ¬ (bkSk i ∧ b = 2 + k) → ¬ (bkPk i ∧ b = 11 + k) → Y i b = M i b := fun i b w1 w2 w3 w4 w5 w6 w7 => by rw [FY i b (by omega), un i b w1 w2 w6 w7]
  have y12 : ∀ j, j ≠ 0 → Y 12 0 j = M 12 0 j := fun j q => by rw [FY 12 0 (by omega), g1, bk_up_s q, u7 12 0 (by decide) (by unfold bkSk; omega) (by unfold bkPk; omega)]
  have o : ∀ i, ¬ bkSk i → ¬ bkPk i → i ≠ 4 → i ≠ 12 → i ≠ 60 → i ≠ 65 → i ≠ 66 → Y i 0 = M i 0 := fun i w1 w2 w3 w4 w5 w6 w7 => uY i 0 w3 w4 w5 w6 w7 (fun q => w1 q.1) (fun q => w2 q.1)
  have ob : ∀ i, (i = 1 ∨ i = 2 ∨ i = 3 ∨ i = 7 ∨ i = 10 ∨ i = 11 ∨ i = 20 ∨ i = 21 ∨ i = 26 ∨ (40 ≤ i ∧ i ≤ 42) ∨ (53 ≤ i ∧ i ≤ 58) ∨ i = 61 ∨ i = 63 ∨ i = 69 ∨ (73 ≤ i ∧ i ≤ 84)) → Y i 0 = M i 0 := fun i hi => o i (by unfold bkSk; omega) (by unfold bkPk; omega) (by omega) (by omega) (by omega) (by omega) (by omega)
  have y4 : ∀ b, Y 4 b 2 = if b = k then 1 else M 4 b 2 := fun b => by
    rw [FY 4 b (by omega), g1, bk_up_k (by decide), e7]
    by_cases w : b = k
    · rw [w, bk_up_e, if_pos rfl]
    · rw [bk_up_ii w, if_neg w, F5 4 b (by unfold bkSk; omega), uC 4 b (by unfold bkPk; omega)]
  have img : ∀ b : Nat, b < 2 → bkImg M b → bkImg Y b := fun b b2 hb => by
    by_cases w : b = k
    · subst w
      refine ⟨by rw [y4, if_pos rfl, y66, if_pos rfl], .inr ⟨by rw [y66, if_pos rfl], ?_⟩⟩
      have Ysk : ∀ i, bkSk i → Y i (2 + b) = M5 i (2 + b) := fun i hi => by
        unfold bkSk at hi
        rw [FY i _ (by omega), g1, bk_up_f (by omega), e7, bk_up_f (by omega)]
      have Csk : ∀ i c, bkSk i → C i c = M i c := fun i c hi => uC i c (by unfold bkSk at hi; unfold bkPk; omega)
      refine bkAllP_cp hA (fun i hi => ?_) (by rw [Ysk 9 (.inl rfl), s0, Csk 9 s (.inl rfl)]) (by rw [Ysk 9 (.inl rfl), s1, Csk 9 s (.inl rfl)]) (fun i q w0 w1 q0 q1 => by rw [Ysk i (.inr ⟨w0, w1⟩), s4 i q w0 w1 q0 q1, Csk i s (.inr ⟨w0, w1⟩)]) (fun q q0 q1 => ?_) (fun j j0 j1 => ?_)
      · unfold bkPk at hi
        rw [FY i _ (by omega), g1, bk_up_f (by omega), e7, bk_up_f (by omega), F5 i _ (by unfold bkSk; omega), hC]
      · rw [y60, if_pos (by omega)]; congr 1; omega
      · rw [y65, if_pos (by omega)]; congr 1; omega
    · refine bkImg_r hb (fun i hi => uY i _ (by unfold bkPk at hi; omega) (by unfold bkPk at hi; omega) (by unfold bkPk at hi; omega) (by unfold bkPk at hi; omega) (by unfold bkPk at hi; omega) (by omega) (by omega)) (fun i hi => uY i _ (by unfold bkSk at hi; omega) (by unfold bkSk at hi; omega) (by unfold bkSk at hi; omega) (by unfold bkSk at hi; omega) (by unfold bkSk at hi; omega) (by omega) (by omega)) (by rw [y4, if_neg w]) (by rw [y66, if_neg (by omega)]) (fun j j0 j1 => by rw [y65, if_neg (by omega)]) (fun q q0 q1 => by rw [y60, if_neg (by omega)])
  obtain ⟨r1, r2, r3, r4, r5, r6⟩ := bkInv_res' h
  have pl : ∀ i b, bkPk i → b < 11 → Y i b = M i b := fun i b hi hb => by
    unfold bkPk at hi
    exact uY i b (by omega) (by omega) (by omega) (by omega) (by omega) (by unfold bkSk; omega) (by omega)
  refine ⟨by unfold bkIds; rw [ob 11 (by omega)]; exact h.1, bkTap_e (bkInv_tap h) (ob _ (by omega)) (ob _ (by omega)) (ob _ (by omega)) (by rw [ob 10 (by omega)]) (y12 2 (by decide)), by rw [ob 11 (by omega), y12 10 (by decide)]; exact h.2.2.1, ?_, ?_, img 0 (by decide) i0, img 1 (by decide) i1, ⟨bkR1_e r1 (by rw [ob 7 (by omega)]) (y12 _ (by decide)) (ob _ (by omega)) (ob _ (by omega)), bkR2_e r2 (by rw [ob 7 (by omega)]) (y12 _ (by decide)) (ob _ (by omega)) (ob _ (by omega)), bkR3_e r3 (by rw [ob 7 (by omega)]) (y12 _ (by decide)) (ob _ (by omega)) (ob _ (by omega)), bkR4_e r4 (by rw [ob 1 (by omega)]) (y12 _ (by decide)) (ob _ (by omega)) (ob _ (by omega)) (ob _ (by omega)) (ob _ (by omega)), bkR5_e r5 (by rw [ob 2 (by omega)]) (y12 _ (by decide)) (ob _ (by omega)) (ob _ (by omega)), bkR6_e r6 (by rw [ob 11 (by omega)]) (y12 _ (by decide)) (ob _ (by omega)) (ob _ (by omega))⟩, ?_⟩
  · unfold bkNowI
    rw [ob 11 (by omega), hp, hs]
    exact bkAllP_e hA (fun i hi => pl i p hi (by omega)) (fun i hi => uY i s (by unfold bkSk at hi; omega) (by unfold bkSk at hi; omega) (by unfold bkSk at hi; omega) (by unfold bkSk at hi; omega) (by unfold bkSk at hi; omega) (by omega) (by unfold bkSk at hi; unfold bkPk; omega)) (ob _ (by omega)) (ob _ (by omega))
  · rw [ob 11 (by omega), hp]
    have hh := bkInv_his h
    rw [hp] at hh
    exact bkHis_e hh (fun i b hi b0 b1 => pl i b hi (by omega)) (fun g _ => by rw [pl 33 p (.inr (by omega)) (by omega)]) (fun g _ => by rw [pl 36 p (.inr (by omega)) (by omega)]) (ob _ (by omega)) (ob _ (by omega)) (y12 _ (by decide)) (fun q _ => by rw [ob 58 (by omega)])
  · have := bkInv_icy h
    unfold bkIcy
    rw [ob 69 (by omega)]
    exact this
