/-! The draws. -/
def bkSeed (s : Int) : Int := bk_w32 (bk_w32 (s * 1103515245) + 12345)
theorem bk_ushr8 (x : Int) : 0 ≤ bk_ushr x 8 := by
  unfold bk_ushr
  rw [if_neg (by decide)]
  exact Int.ediv_nonneg (Int.emod_nonneg _ (by decide)) (by decide)
theorem S66 {d i : Nat} {Q : bk_Q} {n : Int} {M : bk_M} (hn : 0 < n) : bk_C (d + 1) 0 66 [bk_c 8 i, bk_i n] M Q ↔ Q 0 (bk_ushr (bkSeed (M 8 i 3)) 8 % n) (bk_up M 8 i 3 (bkSeed (M 8 i 3))) := by
  refine bk_det (fun Q hQ => ?_) Q
  rw [E_66]
  simp only [forall_eq, bk_up_e]
  have := bk_ushr8 (bkSeed (M 8 i 3))
  unfold bkSeed at hQ this
  exact ⟨fun _ => ⟨by omega, ⟨this, hn⟩, hQ⟩, fun z => absurd z (by omega)⟩
theorem S220 {d : Nat} {Q : bk_Q} {n : Int} {M : bk_M} (hn : 0 < n) : bk_C (d + 1) 0 220 [bk_c 12 0, bk_i n] M Q ↔ Q 0 (bk_ushr (bkSeed (M 12 0 30)) 8 % n) (bk_up M 12 0 30 (bkSeed (M 12 0 30))) := by
  refine bk_det (fun Q hQ => ?_) Q
  rw [E_220]
  simp only [forall_eq, bk_up_e]
  have := bk_ushr8 (bkSeed (M 12 0 30))
  unfold bkSeed at hQ this
  exact ⟨by omega, ⟨this, hn⟩, hQ⟩
