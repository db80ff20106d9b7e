theorem L213b {d : Nat} {Q : bk_Q} {M : bk_M} (h : M 12 0 25 = 8) (hQ : bk_wp (bk_C d) P_213 Q 0 51 [bk_c 12 0, bk_i 0] [] (bk_up (bkFill M 61 0 0 805 (fun c => M 61 0 (c + 115))) 12 0 25 7)) : bk_wp (bk_C d) P_213 Q 0 11 [bk_c 12 0, bk_i 0] [] M := by
  have key : ∀ n : Int, bkFill M 61 0 0 n (fun c => M 61 0 (c + 115)) 12 0 25 = 8 := fun n => by
    unfold bkFill; rw [if_neg (by omega), h]
  have key2 : ∀ c : Int, bkFill M 61 0 0 c (fun c => M 61 0 (c + 115)) 61 0 (c + 115) = M 61 0 (c + 115) := fun c => by
    unfold bkFill; rw [if_neg (by omega)]
  have := bk_for (W := fun c => bk_wp (bk_C d) P_213 Q 0 11 [bk_c 12 0, bk_i c] [] (bkFill M 61 0 0 c (fun c => M 61 0 (c + 115)))) (n := 805) (by omega) (fun c h0 h1 ih => ?_) ?_
  · rwa [bkFill_0] at this
  · rw [L_213_11]
    simp only [forall_eq, key, key2]
    rw [bkFill_s _ _ _ _ _ h0, Int.zero_add] at ih
    unfold bk_r32
    exact ⟨fun z => absurd z (by omega), fun _ => ⟨by omega, by omega, by omega, by omega, ih⟩⟩
  · rw [L_213_11]
    simp only [forall_eq, key]
    unfold bk_r32
    exact ⟨fun _ => ⟨by omega, hQ⟩, fun z => absurd (Int.le_refl _) z⟩
theorem S213 {d : Nat} {Q : bk_Q} {M : bk_M} (h : 0 ≤ M 12 0 25 ∧ M 12 0 25 ≤ 8) : bk_C (d + 1) 0 213 [bk_c 12 0] M Q ↔ Q 0 0 (bkSnap M) := by
  refine bk_det (fun Q hQ => ?_) Q
  rw [E_213]
  refine ⟨fun z => ?_, fun z => ?_⟩
  · refine L213 (by omega) ?_
    refine Eq.mp (congrArg (Q 0 0) (?_ : bkSnap M = _)) hQ
    funext k a c
    unfold bkSnap bkSn bk_up bkFill
    rw [if_neg z, if_neg z]
    by_cases e : k = 12 ∧ a = 0 ∧ c = 25
    · rw [if_neg (by omega), if_pos e, if_pos e]
    · rw [if_neg e, if_neg e]
      by_cases e2 : k = 61 ∧ a = 0
      · rw [if_pos e2]
        by_cases e3 : 115 * M 12 0 25 ≤ c ∧ c < 115 * M 12 0 25 + 115
        · rw [if_pos e3, if_pos ⟨e2.1, e2.2, e3.1, e3.2⟩]
        · rw [if_neg e3, if_neg (fun w => e3 w.2.2), e2.1, e2.2]
      · rw [if_neg e2, if_neg (fun w => e2 ⟨w.1, w.2.1⟩)]
  · have z := Decidable.not_not.1 z
    refine L213b z ?_
    have k1 : bk_up (bkFill M 61 0 0 805 (fun c => M 61 0 (c + 115))) 12 0 25 7 12 0 25 = 7 := bk_up_e
    refine L213 (by rw [k1]; omega) ?_
    rw [k1]
    refine Eq.mp (congrArg (Q 0 0) (?_ : bkSnap M = _)) hQ
    funext k a c
    unfold bkSnap bkSn
    rw [if_pos z, if_pos z]
    by_cases e : k = 12 ∧ a = 0 ∧ c = 25
    · rw [if_neg (by omega), if_pos e]
      unfold bk_up bkFill
      rw [if_pos e]
      rfl
    · rw [if_neg e]
      have e4 : ∀ X v, bk_up X 12 0 25 v k a c = X k a c := fun X v => by unfold bk_up; rw [if_neg e]
      rw [e4]
      have e5 : ∀ X v c, bk_up X 12 0 25 v 58 0 c = X 58 0 c := fun X v c => by unfold bk_up; rw [if_neg (by omega)]
      simp only [e5]
      by_cases e2 : k = 61 ∧ a = 0
      · obtain ⟨rfl, rfl⟩ := e2
        rw [if_pos ⟨rfl, rfl⟩]
        by_cases e3 : 805 ≤ c ∧ c < 920
        · rw [if_neg (by omega), if_pos e3]
          show _ = bkFill _ 61 0 (115 * 7) 115 _ 61 0 c
          rw [bkFill, if_pos (by omega)]
          rw [bkFill, if_neg (by omega)]
          rfl
        · have e6 : bkFill (bk_up (bkFill M 61 0 0 805 (fun c => M 61 0 (c + 115))) 12 0 25 7) 61 0 (115 * 7) 115 (fun c => bkFill M 61 0 0 805 (fun c => M 61 0 (c + 115)) 58 0 (80 + c)) 61 0 c = bkFill M 61 0 0 805 (fun c => M 61 0 (c + 115)) 61 0 c := by
            rw [bkFill, if_neg (by omega), e4]
          rw [e6, bkFill]
          by_cases e7 : 0 ≤ c ∧ c < 805
          · rw [if_pos e7, if_pos (by omega), Int.sub_zero]
          · rw [if_neg e7, if_neg e3, if_neg (by omega)]
      · rw [if_neg e2]
        rw [bkFill, if_neg (fun w => e2 ⟨w.1, w.2.1⟩), e4, bkFill, if_neg (fun w => e2 ⟨w.1, w.2.1⟩)]
