/-! now and count. -/
def bkBeds (N : Int → Int) : Int := bkSum (fun y => N (85 + 6 * y + N (121 + y))) (N 3).toNat
def bkBends (N : Int → Int) : Int := bkSum (fun y => if N (121 + (y + 1)) = N (121 + y) then 0 else 1) (N 3 - 1).toNat
def bkChs (N : Int → Int) : Int := bkSum (fun f => N (136 + f)) 10
def bkNowA (N : Int → Int) (a : Int) : Int := if a = 0 then N 80 else if a = 1 then bkFld N 2 else if a = 2 then bkBeds N else if a = 3 then bkBends N else if a = 4 then bkChs N else -1
theorem L60 {d : Nat} {Q : bk_Q} {a : Int} {M : bk_M} (hN : bkMd (M 58 0)) (hQ : Q 0 (bkBeds (M 58 0)) M) : bk_wp (bk_C d) P_207 Q 0 60 [bk_c 12 0, bk_i a, bk_i 0, bk_i 0] [] M := by
  obtain ⟨n1, n2, n3, n4, n5, n6, n7, n8, n9, n10, n11, -⟩ := id hN
  refine bk_forS (W := fun x y => bk_wp (bk_C d) P_207 Q 0 60 [bk_c 12 0, bk_i a, bk_i x, bk_i y] [] M) (g := fun y => M 58 0 (85 + 6 * y + M 58 0 (121 + y))) (c := 9) (n := M 58 0 3) (by omega) (fun k h0 h1 => ?_) (fun k acc h0 h1 p2 p3 h => ?_) ?_
  · have := n9 k h0 h1
    have := n8 (6 * k + M 58 0 (121 + k)) (by omega) (by omega)
    rw [← Int.add_assoc] at this
    exact this
  · have q1 := n9 k h0 h1
    have q2 := n8 (6 * k + M 58 0 (121 + k)) (by omega) (by omega)
    rw [← Int.add_assoc] at q2
    rw [L_207_60]
    unfold bk_r32
    exact ⟨by omega, fun z => absurd z (by omega), fun _ => ⟨by omega, by omega, by omega, by omega, by omega, by omega, by omega, by omega, h⟩⟩
  · rw [L_207_60]; exact ⟨by omega, fun _ => hQ, fun q => absurd (Int.le_refl _) q⟩
theorem L105 {d : Nat} {Q : bk_Q} {a : Int} {M : bk_M} (hN : bkMd (M 58 0)) (hQ : Q 0 (bkBends (M 58 0)) M) : bk_wp (bk_C d) P_207 Q 0 105 [bk_c 12 0, bk_i a, bk_i 0, bk_i 1] [] M := by
  obtain ⟨n1, n2, n3, n4, n5, n6, n7, n8, n9, n10, n11, -⟩ := id hN
  refine bk_forS (W := fun x y => bk_wp (bk_C d) P_207 Q 0 105 [bk_c 12 0, bk_i a, bk_i x, bk_i (y + 1)] [] M) (g := fun y => if M 58 0 (121 + (y + 1)) = M 58 0 (121 + y) then 0 else 1) (c := 1) (n := M 58 0 3 - 1) (by omega) (fun k h0 h1 => ?_) (fun k acc h0 h1 p2 p3 h => ?_) ?_
  · by_cases q : M 58 0 (121 + (k + 1)) = M 58 0 (121 + k) <;> simp [q]
  · rw [L_207_105, show 121 + (k + 1) - 1 = 121 + k by omega]
    unfold bk_r32
    refine ⟨by omega, fun z => absurd z (by omega), fun _ => ⟨by omega, by omega, by omega, by omega, by omega, fun q => ⟨by omega, ?_⟩, fun q => ⟨by omega, by omega, ?_⟩⟩⟩
    · simp only [if_pos q, Int.add_zero] at h
      exact h
    · simp only [if_neg q] at h
      exact h
  · rw [L_207_105]; exact ⟨by omega, fun _ => hQ, fun q => absurd (by omega) q⟩
theorem L151 {d : Nat} {Q : bk_Q} {a : Int} {M : bk_M} (hN : bkMd (M 58 0)) (hQ : Q 0 (bkChs (M 58 0)) M) : bk_wp (bk_C d) P_207 Q 0 151 [bk_c 12 0, bk_i a, bk_i 0, bk_i 0] [] M := by
  obtain ⟨n1, n2, n3, n4, n5, n6, n7, n8, n9, n10, n11, n12, n13, -⟩ := id hN
  have hb : ∀ f, 0 ≤ f → f < 10 → 0 ≤ M 58 0 (136 + f) ∧ M 58 0 (136 + f) ≤ 400 := fun f h0 h1 => by
    by_cases z : f < M 58 0 0
    · have := n10 f h0 z; omega
    · have := n13 f h0 h1 (by omega); omega
  refine bk_forS (W := fun x y => bk_wp (bk_C d) P_207 Q 0 151 [bk_c 12 0, bk_i a, bk_i x, bk_i y] [] M) (g := fun f => M 58 0 (136 + f)) (c := 400) (n := 10) (by omega) hb (fun k acc h0 h1 p2 p3 h => ?_) ?_
  · have := hb k h0 h1
    rw [L_207_151]
    grind [bk_r32]
  · rw [L_207_151]; exact ⟨fun _ => hQ, fun q => absurd (Int.le_refl _) q⟩
theorem S207 {d : Nat} {Q : bk_Q} {a : Int} {M : bk_M} (h : bkMd (M 58 0)) : bk_C (d + 5) 0 207 [bk_c 12 0, bk_i a] M Q ↔ Q 0 (bkNowA (M 58 0) a) (bk_up M 12 0 0 0) := by
  refine bk_det (fun Q hQ => ?_) Q
  have e : bk_up M 12 0 0 0 58 0 = M 58 0 := bk_up58
  rw [← e] at h hQ
  rw [E_207]
  simp only [forall_eq]
  generalize bk_up M 12 0 0 0 = M1 at *
  rw [S204 h]
  unfold bkNowA bkFld at hQ
  clear e
  refine ⟨fun z => ⟨by omega, ?_⟩, fun z0 => ⟨fun z => ⟨rfl, ?_⟩, fun z1 => ⟨fun z => L60 h ?_, fun z2 => ⟨fun z => L105 h ?_, fun z3 => ⟨fun z => L151 h ?_, fun z4 => ?_⟩⟩⟩⟩⟩
  · rwa [if_pos z] at hQ
  · rwa [if_neg z0, if_pos z] at hQ
  · rwa [if_neg z0, if_neg z1, if_pos z] at hQ
  · rwa [if_neg z0, if_neg z1, if_neg z2, if_pos z] at hQ
  · rwa [if_neg z0, if_neg z1, if_neg z2, if_neg z3, if_pos z] at hQ
  · rwa [if_neg z0, if_neg z1, if_neg z2, if_neg z3, if_neg z4] at hQ
theorem S50 {d p : Nat} {Q : bk_Q} {a : Int} {M : bk_M} (h : bkNow M p) : bk_C (d + 3) 0 50 [bk_c 11 0, bk_i a] M Q ↔ Q 0 (bkNowA (M 58 0) a) M := by
  obtain ⟨n1, n2, n3, n4, n5, n6, n7, n8, n9, n10, n11, n12, n13, -⟩ := bkNow_md h
  obtain ⟨hp, hP, ⟨b1, b2, b3, b4, b5, b6, b7⟩, ⟨c1, c2, c3, c4, c5, c6, -⟩⟩ := bkNow_e h
  have e1 : bkSum (fun y => M 28 p (6 * y + M 29 p y)) (M 58 0 3).toNat = bkBeds (M 58 0) := by
    unfold bkBeds
    refine bkSum_congr fun k hk => ?_
    have q1 := n9 k (by omega) (by omega)
    show M 28 p (6 * k + M 29 p k) = _
    rw [c4 k (by omega) (by omega), c3 _ (by omega) (by omega), Int.add_assoc]
  have e2 : bkSum (fun y => if M 29 p (y + 1) = M 29 p y then 0 else 1) (M 58 0 3 - 1).toNat = bkBends (M 58 0) := by
    unfold bkBends
    refine bkSum_congr fun k hk => ?_
    show (if M 29 p (k + 1) = M 29 p k then 0 else 1) = _
    rw [c4 k (by omega) (by omega), c4 (k + 1) (by omega) (by omega)]
  have e3 : bkSum (M 32 p) (M 58 0 0).toNat = bkChs (M 58 0) := by
    unfold bkChs
    rw [bkSum_ext (n := (M 58 0 0).toNat) 10 (by omega) fun k h0 h1 => ?_]
    · refine bkSum_congr fun k hk => ?_
      rw [c6 k (by omega) (by omega), if_pos (by omega)]
    · exact n13 k (by omega) (by omega) (by omega)
  rw [E_50, hp, S48n h, S51 hP, S52 hP, S53 hP, b1, b4, e1, e2, e3, c1]
  unfold bkNowA
  grind
theorem C12 {d p : Nat} {a : Int} {M : bk_M} (h : bkNow M p) : bkBoth (d + 5) 50 207 [bk_i a] M :=
  ⟨_, fun _ => S50 (d := d + 2) h, fun _ => S207 (bkNow_md h)⟩
