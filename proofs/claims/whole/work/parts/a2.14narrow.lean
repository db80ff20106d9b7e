/-! What stands beside the cells, seen from a part of them: for the abstract machine inside a constructor. -/
theorem bk_St.narrow {ba ba' : bk_B} {b0 : Nat} {aK : Nat → Nat} {sc : Nat → Int → Int} {U : State} {H : Heap} (h : bk_St ba b0 aK sc U H) (h1 : ba.1 ≤ ba'.1) (hA : ∀ q, bk_A ba' q → bk_A ba q) : bk_St ba' b0 aK sc U H := by
  obtain ⟨⟨g1, g2, g3⟩, g4, g5, ⟨aV, g6⟩, g7, g8, g9, gA, gB, gC⟩ := h
  exact ⟨⟨g1, g2, by omega⟩, g4, g5, ⟨aV, vk_S.narrow g6 hA⟩, vx_Zq.narrow g7 hA, vx_Zq.narrow g8 hA, va_Z.narrow g9 hA, va_Zq.narrow gA hA, gB, gC⟩
/-- a part of the cells, that lies at h0 -/
theorem bk_A_part {ba : bk_B} {h0 n : Nat} {L : List (Nat × Nat)} (h1 : ba.1 ≤ h0) (h2 : h0 + L.length ≤ ba.1 + ba.2.length) : ∀ q, bk_A (h0, L) q → bk_A ba q := fun q h => by
  have h3 : h0 ≤ q ∧ q < h0 + L.length := h
  show ba.1 ≤ q ∧ q < ba.1 + ba.2.length
  omega
/-- kept through what a constructor has done so far -/
theorem bk_St.kept2 {ba : bk_B} {b0 : Nat} {aK : Nat → Nat} {sc : Nat → Int → Int} {U : State} {H H1 : Heap} {h0 q0 : Nat} (h : bk_St ba b0 aK sc U H) (hz : H.size ≤ H1.size) (h1 : ba.1 ≤ h0 ∧ h0 < ba.1 + ba.2.length) (h2 : H.size ≤ q0) (hq : ∀ a : Nat, a < H.size → ¬ bk_Ya h0 q0 a → H1[a]? = H[a]?) : bk_St ba b0 aK sc U H1 :=
  bk_St.kept h hz fun a a1 a2 => hq a a1 fun z => by
    have h3 : ¬ (ba.1 ≤ a ∧ a < ba.1 + ba.2.length) := a2
    have h4 : a = h0 ∨ q0 ≤ a := z
    omega
/-- the cells of one plain, in the order of their making -/
def bk_l5 : List (Nat × Nat) := [(5, 0), (28, 0), (29, 0), (30, 0), (31, 0), (32, 0), (33, 0), (34, 0), (35, 0), (36, 0), (37, 0), (38, 0), (39, 0)]
theorem bk_Lay5 (h0 : Nat) : bk_Lay (h0, bk_l5) := by
  refine ⟨show bk_l5.Nodup by decide +kernel, show ∀ q ∈ bk_l5, q.1 < 13 ∨ 16 ≤ q.1 by decide +kernel, ?_, ?_, ?_⟩
  · exact show ∀ q ∈ bk_l5, q.1 < 13 → ∀ j, j < bk_n q.1 → bk_fd q.1 j % 8 = 2 → (bk_fd q.1 j / 8 % 128, q.2 + bk_fd q.1 j / 1024) ∈ bk_l5 by decide +kernel
  · exact show ∀ q ∈ bk_l5, bk_so q.1 = 3 → 16 ≤ q.1 → ∀ j, j < (bk_sz q.1).toNat → ((bk_aa q.1).1, (bk_aa q.1).2 + j) ∈ bk_l5 by decide +kernel
  · exact show ∀ q ∈ bk_l5, bk_so q.1 = 3 → 16 ≤ q.1 → q.1 = 27 ∨ q.1 = 55 by decide +kernel
theorem bk_LayL (b1 : Nat) : bk_Lay (b1, bk_lay) := by
  refine ⟨show bk_lay.Nodup by decide +kernel, show ∀ q ∈ bk_lay, q.1 < 13 ∨ 16 ≤ q.1 by decide +kernel, ?_, ?_, ?_⟩
  · exact show ∀ q ∈ bk_lay, q.1 < 13 → ∀ j, j < bk_n q.1 → bk_fd q.1 j % 8 = 2 → (bk_fd q.1 j / 8 % 128, q.2 + bk_fd q.1 j / 1024) ∈ bk_lay by decide +kernel
  · exact show ∀ q ∈ bk_lay, bk_so q.1 = 3 → 16 ≤ q.1 → ∀ j, j < (bk_sz q.1).toNat → ((bk_aa q.1).1, (bk_aa q.1).2 + j) ∈ bk_lay by decide +kernel
  · exact show ∀ q ∈ bk_lay, bk_so q.1 = 3 → 16 ≤ q.1 → q.1 = 27 ∨ q.1 = 55 by decide +kernel
