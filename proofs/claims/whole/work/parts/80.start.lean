/-! The reference takes over what it read. -/
theorem S159b {d : Nat} {M : bk_M} {n : Int} {Q : bk_Q} (hr : ∀ M', bkFr (fun k a => (k = 58 ∨ k = 63) ∧ a = 0) M M' → (∀ j, 0 ≤ j → j < 80 → M' 58 0 j = M 59 0 j) → (∀ j, 0 ≤ j → j < 13 → M' 63 0 j = M 64 0 j) → bk_C d 0 151 [bk_c 12 0] M' (fun t3 r1 M2 => t3 = 0 ∧ ∀ M4 : bk_M, M4 = bk_up M2 12 0 25 0 → Q 0 n M4)) : bk_wp (bk_C d) P_159 Q 0 49 [bk_c 12 0, bk_i n, bk_i 0] [] M := by
  refine bk_loopS (W := fun k M' => bk_wp (bk_C d) P_159 Q 0 49 [bk_c 12 0, bk_i n, bk_i k] [] M') (s := 0) (n := 80) (fun k M' => bkFr (fun k a => (k = 58 ∨ k = 63) ∧ a = 0) M M' ∧ ∀ j, 0 ≤ j → j < k → M' 58 0 j = M 59 0 j) (by omega) (fun k M' k0 k1 hI nx => ?_) (fun M' hI => ?_) ⟨bkFr_refl _ _, fun j _ _ => by omega⟩
  · obtain ⟨i1, i2⟩ := hI
    rw [L_159_49]
    refine ⟨fun w => absurd w (by omega), fun _ => ⟨by omega, by omega, fun M8 e8 => ⟨by unfold bk_r32; omega, nx M8 ⟨by rw [e8]; exact bkFr_up i1 ⟨.inl rfl, rfl⟩, fun j j0 j1 => ?_⟩⟩⟩⟩
    rw [e8, bk_up_w, i1 59 0 (by omega)]
    by_cases w : j = k
    · rw [if_pos w, w]
    · rw [if_neg w]; exact i2 j j0 (by omega)
  obtain ⟨i1, i2⟩ := hI
  rw [L_159_49]
  refine ⟨fun _ => ?_, fun w => absurd (by omega) w⟩
  refine bk_loopS (W := fun k M' => bk_wp (bk_C d) P_159 Q 0 75 [bk_c 12 0, bk_i n, bk_i k] [] M') (s := 0) (n := 13) (fun k M' => bkFr (fun k a => (k = 58 ∨ k = 63) ∧ a = 0) M M' ∧ (∀ j, 0 ≤ j → j < 80 → M' 58 0 j = M 59 0 j) ∧ ∀ j, 0 ≤ j → j < k → M' 63 0 j = M 64 0 j) (by omega) (fun k M' k0 k1 hI nx => ?_) (fun M' hI => ?_) ⟨i1, i2, fun j _ _ => by omega⟩
  · obtain ⟨i1, i2, i3⟩ := hI
    rw [L_159_75]
    refine ⟨fun w => absurd w (by omega), fun _ => ⟨by omega, by omega, fun M8 e8 => ⟨by unfold bk_r32; omega, nx M8 ⟨by rw [e8]; exact bkFr_up i1 ⟨.inr rfl, rfl⟩, by rw [e8, bk_up_f (by decide)]; exact i2, fun j j0 j1 => ?_⟩⟩⟩⟩
    rw [e8, bk_up_w, i1 64 0 (by omega)]
    by_cases w : j = k
    · rw [if_pos w, w]
    · rw [if_neg w]; exact i3 j j0 (by omega)
  obtain ⟨i1, i2, i3⟩ := hI
  rw [L_159_75]
  exact ⟨fun _ => hr M' i1 i2 i3, fun w => absurd (by omega) w⟩
/-- the row of a plain just read, its beds not yet told -/
def bkSR (S : Int → Int) : Int → Int := fun j => if j < 80 then S j else if 81 ≤ j ∧ j < 83 then S (j - 3) else if 85 ≤ j ∧ j < 121 then S (j - 79) else if 127 ≤ j ∧ j < 133 then S (j - 55) else 0
theorem S151a {d : Nat} {M : bk_M} {S : Int → Int} {Q : bk_Q} (hS : ∀ j, 0 ≤ j → j < 80 → M 58 0 j = S j) (hr : ∀ M', bkFr (fun k a => k = 58 ∧ a = 0) M M' → (∀ j, 0 ≤ j → j < 437 → M' 58 0 j = bkSR S j) → bk_C d 0 152 [bk_c 12 0] M' (fun t3 r1 M2 => t3 = 0 ∧ bk_C d 0 153 [bk_c 12 0] M2 (fun t6 r4 M5 => t6 = 0 ∧ bk_wp (bk_C d) P_151 Q 0 147 [bk_c 12 0, bk_i 0] [] M5))) : bk_C (d + 1) 0 151 [bk_c 12 0] M Q := by
  rw [E_151]
  refine bk_loopS (W := fun k M' => bk_wp (bk_C d) P_151 Q 0 3 [bk_c 12 0, bk_i k] [] M') (s := 80) (n := 437) (fun k M' => bkFr (fun k a => k = 58 ∧ a = 0) M M' ∧ ∀ j, 0 ≤ j → j < k → M' 58 0 j = if j < 80 then S j else 0) (by omega) (fun k M' k0 k1 hI nx => ?_) (fun M' hI => ?_) ⟨bkFr_refl _ _, fun j j0 j1 => by rw [if_pos (by omega)]; exact hS j j0 (by omega)⟩
  · obtain ⟨i1, i2⟩ := hI
    rw [L_151_3]
    refine ⟨fun w => absurd w (by omega), fun _ => ⟨by omega, fun M8 e8 => ⟨by unfold bk_r32; omega, nx M8 ⟨by rw [e8]; exact bkFr_up i1 ⟨rfl, rfl⟩, fun j j0 j1 => ?_⟩⟩⟩⟩
    rw [e8, bk_up_w]
    by_cases w : j = k
    · rw [if_pos w, if_neg (by omega)]
    · rw [if_neg w]; exact i2 j j0 (by omega)
  obtain ⟨i1, i2⟩ := hI
  rw [L_151_3]
  refine ⟨fun _ => ?_, fun w => absurd (by omega) w⟩
  refine bk_loopS (W := fun k M' => bk_wp (bk_C d) P_151 Q 0 25 [bk_c 12 0, bk_i k] [] M') (s := 0) (n := 2) (fun k M' => bkFr (fun k a => k = 58 ∧ a = 0) M M' ∧ ∀ j, 0 ≤ j → j < 437 → M' 58 0 j = if j < 80 then S j else if 81 ≤ j ∧ j < 81 + k then S (j - 3) else 0) (by omega) (fun k M' k0 k1 hI nx => ?_) (fun M' hI => ?_) ⟨i1, fun j j0 j1 => by rw [i2 j j0 j1, if_neg (c := 81 ≤ j ∧ j < 81 + 0) (by omega)]⟩
  · obtain ⟨i1, i2⟩ := hI
    rw [L_151_25]
    refine ⟨fun w => absurd w (by omega), fun _ => ⟨by unfold bk_r32; omega, by unfold bk_r32; omega, by omega, by omega, fun M8 e8 => ⟨by unfold bk_r32; omega, nx M8 ⟨by rw [e8]; exact bkFr_up i1 ⟨rfl, rfl⟩, fun j j0 j1 => ?_⟩⟩⟩⟩
    rw [e8, bk_up_w, i2 j j0 j1, i2 (78 + k) (by omega) (by omega), if_pos (c := 78 + k < 80) (by omega)]
    by_cases w : j = 81 + k
    · rw [if_pos w, if_neg (by omega), if_pos (by omega), show j - 3 = 78 + k by omega]
    · rw [if_neg w]
      (repeat' split) <;> first | rfl | omega
  obtain ⟨i1, i2⟩ := hI
  rw [L_151_25]
  refine ⟨fun _ => ?_, fun w => absurd (by omega) w⟩
  refine bk_loopS (W := fun k M' => bk_wp (bk_C d) P_151 Q 0 56 [bk_c 12 0, bk_i k] [] M') (s := 0) (n := 36) (fun k M' => bkFr (fun k a => k = 58 ∧ a = 0) M M' ∧ ∀ j, 0 ≤ j → j < 437 → M' 58 0 j = if j < 80 then S j else if 81 ≤ j ∧ j < 83 then S (j - 3) else if 85 ≤ j ∧ j < 85 + k then S (j - 79) else 0) (by omega) (fun k M' k0 k1 hI nx => ?_) (fun M' hI => ?_) ⟨i1, fun j j0 j1 => by rw [i2 j j0 j1, if_neg (c := 85 ≤ j ∧ j < 85 + 0) (by omega)]; rfl⟩
  · obtain ⟨i1, i2⟩ := hI
    rw [L_151_56]
    refine ⟨fun w => absurd w (by omega), fun _ => ⟨by unfold bk_r32; omega, by unfold bk_r32; omega, by omega, by omega, fun M8 e8 => ⟨by unfold bk_r32; omega, nx M8 ⟨by rw [e8]; exact bkFr_up i1 ⟨rfl, rfl⟩, fun j j0 j1 => ?_⟩⟩⟩⟩
    rw [e8, bk_up_w, i2 j j0 j1, i2 (6 + k) (by omega) (by omega), if_pos (c := 6 + k < 80) (by omega)]
    by_cases w : j = 85 + k
    · rw [if_pos w, if_neg (by omega), if_neg (by omega), if_pos (by omega), show j - 79 = 6 + k by omega]
    · rw [if_neg w]
      (repeat' split) <;> first | rfl | omega
  obtain ⟨i1, i2⟩ := hI
  rw [L_151_56]
  refine ⟨fun _ => ?_, fun w => absurd (by omega) w⟩
  refine bk_loopS (W := fun k M' => bk_wp (bk_C d) P_151 Q 0 88 [bk_c 12 0, bk_i k] [] M') (s := 0) (n := 3) (fun k M' => bkFr (fun k a => k = 58 ∧ a = 0) M M' ∧ ∀ j, 0 ≤ j → j < 437 → M' 58 0 j = if j < 80 then S j else if 81 ≤ j ∧ j < 83 then S (j - 3) else if 85 ≤ j ∧ j < 121 then S (j - 79) else if (127 ≤ j ∧ j < 127 + k) ∨ (130 ≤ j ∧ j < 130 + k) then S (j - 55) else 0) (by omega) (fun k M' k0 k1 hI nx => ?_) (fun M' hI => ?_) ⟨i1, fun j j0 j1 => by rw [i2 j j0 j1, if_neg (c := (127 ≤ j ∧ j < 127 + 0) ∨ (130 ≤ j ∧ j < 130 + 0)) (by omega)]; rfl⟩
  · obtain ⟨i1, i2⟩ := hI
    rw [L_151_88]
    refine ⟨fun w => absurd w (by omega), fun _ => ⟨by unfold bk_r32; omega, by unfold bk_r32; omega, by omega, by omega, fun M7 e7 => ⟨by unfold bk_r32; omega, by unfold bk_r32; omega, by omega, by omega, fun M8 e8 => ⟨by unfold bk_r32; omega, nx M8 ⟨by rw [e8, e7]; exact bkFr_up (bkFr_up i1 ⟨rfl, rfl⟩) ⟨rfl, rfl⟩, fun j j0 j1 => ?_⟩⟩⟩⟩⟩
    have h7 : M7 58 0 (75 + k) = S (75 + k) := by rw [e7, bk_up_s (by omega), i2 (75 + k) (by omega) (by omega), if_pos (by omega)]
    rw [e8, bk_up_w, h7, e7, bk_up_w, i2 j j0 j1, i2 (72 + k) (by omega) (by omega), if_pos (c := 72 + k < 80) (by omega)]
    by_cases w : j = 130 + k
    · rw [if_pos w, if_neg (by omega), if_neg (by omega), if_neg (by omega), if_pos (by omega), show j - 55 = 75 + k by omega]
    · rw [if_neg w]
      by_cases w2 : j = 127 + k
      · rw [if_pos w2, if_neg (by omega), if_neg (by omega), if_neg (by omega), if_pos (by omega), show j - 55 = 72 + k by omega]
      · rw [if_neg w2]
        (repeat' split) <;> first | rfl | omega
  obtain ⟨i1, i2⟩ := hI
  rw [L_151_88]
  refine ⟨fun _ => hr M' i1 fun j j0 j1 => ?_, fun w => absurd (by omega) w⟩
  rw [i2 j j0 j1]
  unfold bkSR
  (repeat' split) <;> first | rfl | omega
