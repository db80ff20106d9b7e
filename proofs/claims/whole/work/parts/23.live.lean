/-! A work, a roll: what is now after it. -/
def bkWrk (M : bk_M) (p : Nat) (s c ch : Int) : bk_M := bk_up (bk_up (bk_up M 28 p c (M 28 p c + ch)) 37 p s (M 37 p s - 1)) 38 p s (bk_w32 (M 38 p s + 1))
theorem S59 {d p : Nat} {Q : bk_Q} {s c ch : Int} {M : bk_M} (hs : 0 ≤ s ∧ s ≤ 1) (hc : 0 ≤ c ∧ c < 36) (h : -9 ≤ M 28 p c + ch ∧ M 28 p c + ch ≤ 99) (hp : 0 ≤ M 37 p s ∧ M 37 p s ≤ 999) : bk_C (d + 1) 0 59 [bk_c 5 p, bk_i s, bk_i c, bk_i ch] M Q ↔ Q 0 0 (bkWrk M p s c ch) := by
  refine bk_det (fun Q hQ => ?_) Q
  rw [E_59]
  have e1 : ∀ v, bk_up M 28 p c v 37 p s = M 37 p s := fun v => bk_up_k (by decide)
  have e2 : ∀ v w, bk_up (bk_up M 28 p c v) 37 p s w 38 p s = M 38 p s := fun v w => (bk_up_k (by decide)).trans (bk_up_k (by decide))
  simp only [forall_eq, e1, e2]
  rw [bk_w32_id (by unfold bk_r32; omega)]
  unfold bk_r32
  exact ⟨hc, hc, by omega, by omega, by omega, by omega, by omega, hQ⟩
def bkRol (M : bk_M) (p : Nat) (m c : Int) : bk_M := bk_up (bk_up M 34 p m c) 35 p m (bk_w32 (M 35 p m + 1))
theorem S63 {d p : Nat} {Q : bk_Q} {m c : Int} {M : bk_M} (hm : 0 ≤ m ∧ m < 3) : bk_C (d + 1) 0 63 [bk_c 5 p, bk_i m, bk_i c] M Q ↔ Q 0 0 (bkRol M p m c) := by
  refine bk_det (fun Q hQ => ?_) Q
  rw [E_63]
  have e1 : ∀ v, bk_up M 34 p m v 35 p m = M 35 p m := fun v => bk_up_k (by decide)
  simp only [forall_eq, e1]
  exact ⟨hm, hm, hm, hQ⟩
def bkLivW (M : bk_M) (w s x y : Int) : bk_M := bk_up (bk_up (bk_up M 58 0 (81 + s) (M 58 0 (81 + s) - 1)) 58 0 (83 + s) (bk_w32 (M 58 0 (83 + s) + 1))) 58 0 (85 + 6 * y + x) (M 58 0 (85 + 6 * y + x) + if w = 0 then -1 else 1)
def bkLivR (M : bk_M) (m x y : Int) : bk_M := bk_up (bk_up (bk_up M 58 0 (127 + m) x) 58 0 (130 + m) y) 58 0 (133 + m) (bk_w32 (M 58 0 (133 + m) + 1))
theorem S214w {d : Nat} {Q : bk_Q} {w s x y : Int} {M : bk_M} (h : bkMd (M 58 0)) (hw : w = 0 ∨ w = 1) (hs : 0 ≤ s ∧ s ≤ 1) (hx : 0 ≤ x ∧ x < M 58 0 2) (hy : 0 ≤ y ∧ y < M 58 0 3) : bk_C (d + 1) 0 214 [bk_c 12 0, bk_i w, bk_i s, bk_i x, bk_i y] M Q ↔ Q 0 0 (bkLivW M w s x y) := by
  refine bk_det (fun Q hQ => ?_) Q
  obtain ⟨n1, n2, n3, n4, n5, n6, n7, n8, n9, n10, n11, n12, -⟩ := id h
  have q1 := n12 s hs.1 (by omega)
  have q2 := n8 (6 * y + x) (by omega) (by omega)
  rw [← Int.add_assoc] at q2
  rw [E_214]
  have w1 : bk_w32 (81 + s) = 81 + s := bk_w32_id (by unfold bk_r32; omega)
  have w2 : bk_w32 (83 + s) = 83 + s := bk_w32_id (by unfold bk_r32; omega)
  have w3 : bk_w32 (85 + 6 * y) = 85 + 6 * y := bk_w32_id (by unfold bk_r32; omega)
  have w4 : bk_w32 (85 + 6 * y + x) = 85 + 6 * y + x := bk_w32_id (by unfold bk_r32; omega)
  have w5 : bk_w32 (M 58 0 (85 + 6 * y + x) + 1) = M 58 0 (85 + 6 * y + x) + 1 := bk_w32_id (by unfold bk_r32; omega)
  have w6 : bk_w32 (M 58 0 (85 + 6 * y + x) + -1) = M 58 0 (85 + 6 * y + x) + -1 := bk_w32_id (by unfold bk_r32; omega)
  have e1 : ∀ v, bk_up M 58 0 (81 + s) v 58 0 (83 + s) = M 58 0 (83 + s) := fun v => bk_up_s (by omega)
  have e2 : ∀ v u, bk_up (bk_up M 58 0 (81 + s) v) 58 0 (83 + s) u 58 0 (85 + 6 * y + x) = M 58 0 (85 + 6 * y + x) := fun v u => (bk_up_s (by omega)).trans (bk_up_s (by omega))
  simp only [forall_eq, w1, w2, w3, w4, e1, e2, w5, w6]
  unfold bk_r32
  unfold bkLivW at hQ
  refine ⟨fun _ => ⟨by omega, by omega, by omega, by omega, by omega, by omega, by omega, fun z => ⟨by omega, ?_⟩, fun z => ⟨by omega, ?_⟩⟩, fun z => absurd z (by omega)⟩
  · rwa [if_neg z] at hQ
  · rwa [if_pos (Decidable.not_not.1 z)] at hQ
theorem S214r {d : Nat} {Q : bk_Q} {m x y : Int} {M : bk_M} (hm : 0 ≤ m ∧ m < 3) : bk_C (d + 1) 0 214 [bk_c 12 0, bk_i 4, bk_i m, bk_i x, bk_i y] M Q ↔ Q 0 0 (bkLivR M m x y) := by
  refine bk_det (fun Q hQ => ?_) Q
  rw [E_214]
  have w1 : bk_w32 (127 + m) = 127 + m := bk_w32_id (by unfold bk_r32; omega)
  have w2 : bk_w32 (130 + m) = 130 + m := bk_w32_id (by unfold bk_r32; omega)
  have w3 : bk_w32 (133 + m) = 133 + m := bk_w32_id (by unfold bk_r32; omega)
  have e2 : ∀ v u, bk_up (bk_up M 58 0 (127 + m) v) 58 0 (130 + m) u 58 0 (133 + m) = M 58 0 (133 + m) := fun v u => (bk_up_s (by omega)).trans (bk_up_s (by omega))
  simp only [forall_eq, w1, w2, w3, e2]
  exact ⟨fun z => absurd rfl z, fun _ => ⟨by omega, by omega, by omega, by omega, hQ⟩⟩
theorem bkSnap_58 {M : bk_M} : bkSnap M 58 0 = M 58 0 := by
  funext j
  unfold bkSnap
  rw [if_neg (by omega), if_neg (by omega)]
theorem S209w {d : Nat} {Q : bk_Q} {w s x y : Int} {M : bk_M} (h : bkMd (M 58 0)) (h25 : 0 ≤ M 12 0 25 ∧ M 12 0 25 ≤ 8) (hw : w = 0 ∨ w = 1) (hs : 0 ≤ s ∧ s ≤ 1) (hx : 0 ≤ x ∧ x < M 58 0 2) (hy : 0 ≤ y ∧ y < M 58 0 3) : bk_C (d + 5) 0 209 [bk_c 12 0, bk_i w, bk_i s, bk_i x, bk_i y] M Q ↔ Q 0 (bkWhyW (M 58 0) w s x y) (if bkWhyW (M 58 0) w s x y = 0 then bkLivW (bkSnap M) w s x y else M) := by
  refine bk_det (fun Q hQ => ?_) Q
  rw [E_209, S210w h hw hs hx hy, S213 h25, S214w (by rw [bkSnap_58]; exact h) hw hs (by rw [bkSnap_58]; exact hx) (by rw [bkSnap_58]; exact hy)]
  refine ⟨rfl, fun z => ⟨rfl, rfl, ?_⟩, fun z => ?_⟩
  · rw [if_pos z, z] at hQ
    exact hQ
  · rwa [if_neg z] at hQ
theorem S209r {d : Nat} {Q : bk_Q} {m x y : Int} {M : bk_M} (h : bkMd (M 58 0)) (h25 : 0 ≤ M 12 0 25 ∧ M 12 0 25 ≤ 8) (hm : 0 ≤ m ∧ m < M 58 0 1) (hx : 0 ≤ x ∧ x < M 58 0 2) (hy : 0 ≤ y ∧ y < M 58 0 3) : bk_C (d + 5) 0 209 [bk_c 12 0, bk_i 4, bk_i m, bk_i x, bk_i y] M Q ↔ Q 0 (bkWhyR (M 58 0) m x y) (if bkWhyR (M 58 0) m x y = 0 then bkLivR (bkSnap M) m x y else M) := by
  refine bk_det (fun Q hQ => ?_) Q
  obtain ⟨n1, n2, n3, n4, n5, n6, -⟩ := id h
  rw [E_209, S210r h hm hx hy, S213 h25, S214r (by omega)]
  refine ⟨rfl, fun z => ⟨rfl, rfl, ?_⟩, fun z => ?_⟩
  · rw [if_pos z, z] at hQ
    exact hQ
  · rwa [if_neg z] at hQ
