def bkA247 (k a : Nat) : Prop := (k = 12 ∨ k = 77 ∨ k = 78 ∨ k = 79 ∨ k = 80 ∨ k = 81) ∧ a = 0
theorem S161 {d : Nat} {Q : bk_Q} {M : bk_M} : bk_C (d + 1) 0 161 [bk_c 12 0] M Q ↔ Q 0 (M 12 0 2) (bk_up M 12 0 2 0) := by
  rw [E_161]
  simp only [forall_eq]
theorem bkAll_comp (N T : Int → Int) (c : Int) (h : 2 ≤ N 3) : bkComp (bkOkR N T (c / 2).toNat) (N 2) (N 3) [] (N 3).toNat = bkAll N T c := by
  rw [show (N 3).toNat = (N 3 - 1).toNat + 1 by omega]
  have e : ∀ n, bkComp (bkOkR N T (c / 2).toNat) (N 2) (N 3) [] (n + 1) = bkFl (bkOkR N T (c / 2).toNat) (N 3) n 0 (N 2).toNat := fun n => by simp [bkComp]
  rw [e]
  rfl
theorem bkAll_len {N : Int → Int} (h : bkMd N) (T : Int → Int) (c : Int) : (bkAll N T c).length ≤ 6 * 243 := by
  obtain ⟨n1, n2, -⟩ := h
  have h1 := bkFl_len (bkOkR N T (c / 2).toNat) (N 3) (N 3 - 1).toNat 0 (N 2).toNat
  have h2 : 3 ^ (N 3 - 1).toNat ≤ 3 ^ 5 := Nat.pow_le_pow_right (by omega) (by omega)
  have h3 : (N 2).toNat * 3 ^ (N 3 - 1).toNat ≤ 6 * 3 ^ 5 := Nat.mul_le_mul (by omega) h2
  unfold bkAll
  omega
theorem S247 {d : Nat} {M : bk_M} {N T : Int → Int} {c : Int} (hN : bkMd N) (h58 : M 58 0 = N) (h57 : M 57 0 = T) (hc : M 12 0 2 = c) (hc0 : 0 ≤ c ∧ c ≤ 940) (hT : ∀ j, 0 ≤ j → j < c → 0 ≤ T j) :
    bk_C (d + 12) 0 247 [bk_c 12 0] M (fun t r M' => t = 0 ∧ bkFr bkA247 M M' ∧ (∀ j, j ≠ 0 → j ≠ 2 → j ≠ 44 → j ≠ 45 → M' 12 0 j = M 12 0 j) ∧ M' 12 0 2 = 0 ∧ bkRanR N T c r ∧ bkRanK N T c (M 12 0 44) (M 78 0) (M 79 0) (M' 12 0 44) (M' 78 0) (M' 79 0)) := by
  have n0 := hN.2.2.2.2.1
  have n2 := hN.2.1
  rw [E_247]
  intro M1 hM1
  rw [S161]
  have e2 : M1 12 0 2 = c := by rw [hM1, bk_up_s (by decide), hc]
  rw [e2]
  generalize hM3 : bk_up M1 12 0 2 0 = M3
  have F3 : bkFr bkA247 M M3 := by rw [← hM3, hM1]; exact bkFr_up (bkFr_up (bkFr_refl _ _) (by unfold bkA247; omega)) (by unfold bkA247; omega)
  have k12 : ∀ j, j ≠ 0 → j ≠ 2 → M3 12 0 j = M 12 0 j := fun j q0 q2 => by rw [← hM3, bk_up_s q2, hM1, bk_up_s q0]
  have k2 : M3 12 0 2 = 0 := by rw [← hM3, bk_up_e]
  have k78 : M3 78 0 = M 78 0 := by rw [← hM3, bk_up_f (by decide), hM1, bk_up_f (by decide)]
  have k79 : M3 79 0 = M 79 0 := by rw [← hM3, bk_up_f (by decide), hM1, bk_up_f (by decide)]
  have bad : ¬ bkRanOk N T c → (0 : Nat) = 0 ∧ bkFr bkA247 M M3 ∧ (∀ j, j ≠ 0 → j ≠ 2 → j ≠ 44 → j ≠ 45 → M3 12 0 j = M 12 0 j) ∧ M3 12 0 2 = 0 ∧ bkRanR N T c (-1) ∧ bkRanK N T c (M 12 0 44) (M 78 0) (M 79 0) (M3 12 0 44) (M3 78 0) (M3 79 0) := fun w =>
    ⟨rfl, F3, fun j q0 q2 _ _ => k12 j q0 q2, k2, ⟨fun q => absurd q w, fun _ => rfl⟩, fun q => absurd q w, fun _ => ⟨k12 44 (by decide) (by decide), k78, k79⟩⟩
  refine ⟨rfl, by omega, fun z => bad fun w => z w.1, fun z => ⟨by omega, ?_⟩⟩
  rw [S157]
  by_cases hr : 1 ≤ c / 2 ∧ c / 2 ≤ 10
  · rw [if_pos hr]
    refine ⟨rfl, fun _ => ?_, fun w => absurd (by decide) w⟩
    have hce : c = 2 * (c / 2) := by omega
    -- behind the pairs
    have go : bkPrs N T (c / 2).toNat = true → bk_wp (bk_C (d + 11)) P_247 (fun t r M' => t = 0 ∧ bkFr bkA247 M M' ∧ (∀ j, j ≠ 0 → j ≠ 2 → j ≠ 44 → j ≠ 45 → M' 12 0 j = M 12 0 j) ∧ M' 12 0 2 = 0 ∧ bkRanR N T c r ∧ bkRanK N T c (M 12 0 44) (M 78 0) (M 79 0) (M' 12 0 44) (M' 78 0) (M' 79 0)) 0 32 [bk_c 12 0, bk_i c, bk_i c] [] M3 := by
      intro hp
      have hok : bkRanOk N T c := ⟨by omega, by omega, by omega, hp⟩
      rw [L_247_32]
      refine ⟨fun _ => ?_, fun w => absurd (Int.le_refl _) w⟩
      intro M4 hM4
      -- the copies
      refine bk_loopS (W := fun y M5 => bk_wp (bk_C (d + 11)) P_247 (fun t r M' => t = 0 ∧ bkFr bkA247 M M' ∧ (∀ j, j ≠ 0 → j ≠ 2 → j ≠ 44 → j ≠ 45 → M' 12 0 j = M 12 0 j) ∧ M' 12 0 2 = 0 ∧ bkRanR N T c r ∧ bkRanK N T c (M 12 0 44) (M 78 0) (M 79 0) (M' 12 0 44) (M' 78 0) (M' 79 0)) 0 77 [bk_c 12 0, bk_i c, bk_i y] [] M5) (s := 0) (n := 6)
        (fun y M5 => bkFr (fun k a => (k = 80 ∨ k = 81) ∧ a = 0) M4 M5 ∧ ∀ j, 0 ≤ j → j < y → M5 80 0 j = M 78 0 j ∧ M5 81 0 j = M 79 0 j) (by omega) ?_ ?_ (M := M4) ⟨bkFr_refl _ _, fun j q0 q1 => absurd q1 (by omega)⟩
      · rintro y M5 h0 h1 ⟨F5, U⟩ ih
        have e78 : M5 78 0 = M 78 0 := by rw [F5 78 0 (by omega), hM4, bk_up_f (by decide), k78]
        have e79 : M5 79 0 = M 79 0 := by rw [F5 79 0 (by omega), hM4, bk_up_f (by decide), k79]
        rw [L_247_77, e78]
        refine ⟨fun w => absurd w (by omega), fun _ => ⟨by omega, by omega, ?_⟩⟩
        intro M6 hM6
        refine ⟨by omega, by omega, ?_⟩
        intro M7 hM7
        refine ⟨by unfold bk_r32; omega, ih M7 ⟨by rw [hM7, hM6]; exact bkFr_up (bkFr_up F5 ⟨.inl rfl, rfl⟩) ⟨.inr rfl, rfl⟩, fun j q0 q1 => ?_⟩⟩
        by_cases e : j = y
        · subst e
          rw [hM7, bk_up_f (by decide), hM6, bk_up_e, bk_up_e, bk_up_f (by decide), e79]
          exact ⟨rfl, rfl⟩
        · rw [hM7, bk_up_f (by decide), bk_up_s e, hM6, bk_up_s e, bk_up_f (by decide)]
          exact U j q0 (by omega)
      · rintro M5 ⟨F5, U⟩
        have F45 : bkFr bkA247 M M5 := by
          refine bkFr_trans F3 (bkFr_trans (M' := M4) ?_ (bkFr_mono F5 fun k a w => by unfold bkA247; omega))
          rw [hM4]; exact bkFr_up (bkFr_refl _ _) (by unfold bkA247; omega)
        have e58 : M5 58 0 = N := by rw [F45 58 0 (by unfold bkA247; omega), h58]
        have e57 : M5 57 0 = T := by rw [F45 57 0 (by unfold bkA247; omega), h57]
        have e78 : M5 78 0 = M 78 0 := by rw [F5 78 0 (by omega), hM4, bk_up_f (by decide), k78]
        have e79 : M5 79 0 = M 79 0 := by rw [F5 79 0 (by omega), hM4, bk_up_f (by decide), k79]
        have e12 : ∀ j, j ≠ 0 → j ≠ 2 → j ≠ 45 → M5 12 0 j = M 12 0 j := fun j q0 q2 q45 => by rw [F5 12 0 (by omega), hM4, bk_up_s q45, k12 j q0 q2]
        have e122 : M5 12 0 2 = 0 := by rw [F5 12 0 (by omega), hM4, bk_up_s (by decide), k2]
        have e45 : M5 12 0 45 = 0 := by rw [F5 12 0 (by omega), hM4, bk_up_e]
        rw [L_247_77]
        refine ⟨fun _ => ?_, fun w => absurd (Int.le_refl _) w⟩
        have hal := bkAll_len hN T c
        have call := S248 (N := N) (T := T) (q := (c / 2).toNat) (R0 := M 78 0) (S0 := M 79 0) hN (by omega) (fun k hk => ⟨hT _ (by omega) (by omega), (bkPrs_at hp hk).1⟩) (N 3).toNat (d + 11 - ((N 3).toNat + 5)) [] M5 [] e58 e57 (by show (0 : Int) + _ = _; omega) (fun i hi => absurd hi (by simp)) ⟨e45, fun _ => ⟨e78, e79⟩, fun b Y e => absurd e (by simp)⟩ (by rw [bkAll_comp N T c n2.1]; show 0 + _ ≤ _; omega)
        rw [bkAll_comp N T c n2.1, show d + 11 - ((N 3).toNat + 5) + (N 3).toNat + 5 = d + 11 by omega, show (([] : List Int).length : Int) = 0 by rfl, show (2 * (((c / 2).toNat : Nat) : Int)) = c by omega] at call
        refine bk_use (P := fun _ M' => _) call ?_
        rintro r M6 ⟨F6, K6, -, RS⟩
        have hmap : ([] ++ (bkAll N T c).map (([] : List Int) ++ ·)) = bkAll N T c := by
          rw [List.nil_append]
          exact List.map_id' _
        rw [hmap] at RS
        obtain ⟨r1, r2, r3⟩ := RS
        have F56 : bkFr bkA247 M M6 := bkFr_trans F45 (bkFr_mono F6 fun k a w => by unfold bkA248 at w; unfold bkA247; omega)
        have e658 : M6 58 0 3 = N 3 := by rw [F56 58 0 (by unfold bkA247; omega), h58]
        have e680 : ∀ j, 0 ≤ j → j < 6 → M6 80 0 j = M 78 0 j ∧ M6 81 0 j = M 79 0 j := fun j q0 q1 => by rw [F6 80 0 (by unfold bkA248; omega), F6 81 0 (by unfold bkA248; omega)]; exact U j q0 q1
        rw [r1, e658]
        refine ⟨rfl, fun z0 => ?_, fun z0 => ⟨by omega, ?_⟩⟩
        · have hnil : bkAll N T c = [] := List.eq_nil_of_length_eq_zero (by omega)
          have q := r2 hnil
          -- the copies go back
          refine bk_loopS (W := fun y M7 => bk_wp (bk_C (d + 11)) P_247 (fun t r M' => t = 0 ∧ bkFr bkA247 M M' ∧ (∀ j, j ≠ 0 → j ≠ 2 → j ≠ 44 → j ≠ 45 → M' 12 0 j = M 12 0 j) ∧ M' 12 0 2 = 0 ∧ bkRanR N T c r ∧ bkRanK N T c (M 12 0 44) (M 78 0) (M 79 0) (M' 12 0 44) (M' 78 0) (M' 79 0)) 0 138 [bk_c 12 0, bk_i c, bk_i y] [] M7) (s := 0) (n := 6)
            (fun y M7 => M7 = M6) (by omega) ?_ ?_ rfl
          · rintro y M7 h0 h1 rfl ih
            rw [L_247_138, r1, hnil]
            refine ⟨fun w => absurd w (by omega), fun _ => ⟨fun w => absurd rfl w, fun _ => ⟨by omega, by omega, ?_⟩⟩⟩
            intro M8 hM8
            have e8 : M8 = M7 := by
              rw [hM8, (e680 y h0 h1).1, ← q.1]
              funext k a j
              unfold bk_up
              by_cases w : k = 78 ∧ a = 0 ∧ j = y
              · rw [if_pos w, w.1, w.2.1, w.2.2]
              · rw [if_neg w]
            rw [e8]
            refine ⟨by omega, by omega, ?_⟩
            intro M9 hM9
            have e9 : M9 = M7 := by
              rw [hM9, (e680 y h0 h1).2, ← q.2]
              funext k a j
              unfold bk_up
              by_cases w : k = 79 ∧ a = 0 ∧ j = y
              · rw [if_pos w, w.1, w.2.1, w.2.2]
              · rw [if_neg w]
            rw [e9]
            exact ⟨by unfold bk_r32; omega, ih M7 rfl⟩
          · rintro M7 rfl
            rw [L_247_138]
            refine ⟨fun _ => ⟨rfl, F56, fun j q0 q2 _ q45 => by rw [K6 j q45, e12 j q0 q2 q45], by rw [K6 2 (by decide), e122], ⟨fun _ => r1, fun w => absurd hok w⟩, ⟨fun _ b Y e => absurd (hnil.symm.trans e) (by simp), fun _ => ⟨by rw [K6 44 (by decide), e12 44 (by decide) (by decide) (by decide)], q.1, q.2⟩⟩⟩, fun w => absurd (Int.le_refl _) w⟩
        · intro M7 hM7
          have e745 : M7 12 0 45 = (bkAll N T c).length := by rw [hM7, bk_up_s (by decide), r1]
          obtain ⟨b, Y, eb⟩ : ∃ b Y, bkAll N T c = b :: Y := by
            cases h : bkAll N T c with
            | nil => rw [h] at z0; exact absurd (Int.le_refl _) z0
            | cons b Y => exact ⟨b, Y, rfl⟩
          have r3b := r3 b Y eb
          rw [L_247_138, e745]
          refine ⟨fun w => absurd w (by decide), fun _ => ⟨fun _ => ⟨rfl, ?_, fun j q0 q2 q44 q45 => ?_, ?_, ⟨fun _ => rfl, fun w => absurd hok w⟩, ⟨fun _ b' Y' e' => ⟨by rw [hM7, bk_up_e], fun i hi => ?_⟩, fun w => ?_⟩⟩, fun w => absurd (by omega) w⟩⟩
          · rw [hM7]; exact bkFr_up F56 (by unfold bkA247; omega)
          · rw [hM7, bk_up_s q44, K6 j q45, e12 j q0 q2 q45]
          · rw [hM7, bk_up_s (by decide), K6 2 (by decide), e122]
          · rw [eb] at e'
            have : b' = b := by simp at e'; exact e'.1.symm
            rw [this, hM7, bk_up_f (by decide), bk_up_f (by decide)]
            exact r3b i hi
          · rcases w with w | w
            · exact absurd hok w
            · rw [eb] at w; exact absurd w (by simp)
    -- the pairs
    have key := bk_loopS (W := fun i M4 => bk_wp (bk_C (d + 11)) P_247 (fun t r M' => t = 0 ∧ bkFr bkA247 M M' ∧ (∀ j, j ≠ 0 → j ≠ 2 → j ≠ 44 → j ≠ 45 → M' 12 0 j = M 12 0 j) ∧ M' 12 0 2 = 0 ∧ bkRanR N T c r ∧ bkRanK N T c (M 12 0 44) (M 78 0) (M 79 0) (M' 12 0 44) (M' 78 0) (M' 79 0)) 0 32 [bk_c 12 0, bk_i c, bk_i (2 * i)] [] M4) (s := 0) (n := c / 2)
      (fun i M4 => M4 = M3 ∧ bkPrs N T i.toNat = true) (by omega) ?_ ?_ (M := M3) ⟨rfl, rfl⟩
    · exact key
    · rintro i M4 h0 h1 ⟨rfl, hp⟩ ih
      have e57 : M4 57 0 = T := by rw [F3 57 0 (by unfold bkA247; omega), h57]
      have e58 : M4 58 0 = N := by rw [F3 58 0 (by unfold bkA247; omega), h58]
      have t0 := hT (2 * i) (by omega) (by omega)
      have ei : (2 * ((i.toNat : Nat) : Int)) = 2 * i := by omega
      rw [L_247_32, S192 (M := M4) (by rw [e58]; exact hN), e58, e57]
      refine ⟨fun w => absurd w (by omega), fun _ => ⟨by omega, rfl, fun w => bad fun ok => ?_, fun w => ⟨by unfold bk_r32; omega, by omega, fun w2 => ⟨by unfold bk_r32; omega, ?_⟩, fun w2 => bad fun ok => ?_⟩⟩⟩
      · have hno : ¬ (T (2 * ((i.toNat : Nat) : Int)) < N 0 ∧ T (2 * ((i.toNat : Nat) : Int) + 1) ≤ 2) := fun q => by
          rw [ei] at q
          rw [if_pos ⟨t0, q.1⟩] at w
          exact absurd w (by decide)
        have := bkPrs_no hno (n := (c / 2).toNat) (by omega)
        rw [ok.2.2.2] at this
        exact absurd this (by decide)
      · have hin : 0 ≤ T (2 * i) ∧ T (2 * i) < N 0 := Classical.byContradiction fun q => w (if_neg q)
        rw [show 2 * i + 2 = 2 * (i + 1) by omega]
        refine ih M4 ⟨rfl, ?_⟩
        rw [show (i + 1).toNat = i.toNat + 1 by omega]
        show (bkPrs N T i.toNat && decide (T (2 * ((i.toNat : Nat) : Int)) < N 0 ∧ T (2 * ((i.toNat : Nat) : Int) + 1) ≤ 2)) = true
        rw [hp, ei, Bool.true_and, decide_eq_true_eq]
        exact ⟨hin.2, w2⟩
      · have hno : ¬ (T (2 * ((i.toNat : Nat) : Int)) < N 0 ∧ T (2 * ((i.toNat : Nat) : Int) + 1) ≤ 2) := fun q => by
          rw [ei] at q
          exact w2 q.2
        have := bkPrs_no hno (n := (c / 2).toNat) (by omega)
        rw [ok.2.2.2] at this
        exact absurd this (by decide)
    · rintro M4 ⟨rfl, hp⟩
      rw [← hce]
      exact go hp
  · rw [if_neg hr]
    exact ⟨rfl, fun w => absurd rfl w, fun _ => bad fun w => hr ⟨by have := w.2.1; omega, by have := w.2.2.1; omega⟩⟩
