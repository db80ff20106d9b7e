/-! What a side earns (the class). -/
theorem L_68_2i {d : Nat} {Q : bk_Q} (i0 : Nat) (x1 x2 x3 : Int) (M : bk_M) : bk_wp (bk_C d) P_68 Q 0 2 [bk_c 5 i0, bk_i x1, bk_i x2, bk_i x3] [] M ↔ (((1 : Int) < x1 → Q 0 0 M) ∧ (¬ ((1 : Int) < x1) → bk_C d 0 49 [bk_c 5 i0, bk_c 29 i0, bk_i x1] M (fun t3 r1 M2 => t3 = 0 ∧ ((0 : Int) ≤ r1 ∧ (0 : Int) < (4 : Int)) ∧ bk_wp (bk_C d) P_68 Q 0 21 [bk_c 5 i0, bk_i x1, bk_i (r1 / (4 : Int)), bk_i (0 : Int)] [] M2))) := bk_iff [2, 21] 40
def bkMilC (M : bk_M) (p : Nat) (s : Int) : Int → Int := fun m => if bkBank (M 29 p) (M 34 p m) = s then 2 else 0
def bkWorC (M : bk_M) (p : Nat) (s : Int) : Int := bkWorth (M 31 p) (bkIs M p 29 p s) (M 5 p 6).toNat
def bkEarnC (M : bk_M) (p : Nat) (s : Int) : Int := bkWorC M p s / 4 + bkSum (bkMilC M p s) (M 5 p 11).toNat
theorem bkWorC_b {M : bk_M} {p : Nat} (h : bkPl M p) (s : Int) : 0 ≤ bkWorC M p s ∧ bkWorC M p s ≤ 200 := by
  obtain ⟨a1, a2, a3, a4, a5, a6, a7, a8, a9, a10, a11, a12⟩ := h
  have := bkWorth_le (w := M 31 p) (p := bkIs M p 29 p s) (n := (M 5 p 6).toNat) (fun k hk => by have := a10 k (by omega) (by omega); omega)
  unfold bkWorC
  omega
theorem L68 {d p : Nat} {Q : bk_Q} {s : Int} {M : bk_M} (h : bkPl M p) (hs : 0 ≤ s ∧ s ≤ 1)
    (hQ : ∀ x2 x3, bk_wp (bk_C (d + 2)) P_68 Q 0 2 [bk_c 5 p, bk_i (s + 1), bk_i x2, bk_i x3] [] (bk_up M 37 p s (bkMost (M 37 p s + bkEarnC M p s)))) : bk_wp (bk_C (d + 2)) P_68 Q 0 21 [bk_c 5 p, bk_i s, bk_i (bkWorC M p s / 4), bk_i 0] [] M := by
  have hb := bkWorC_b h s
  obtain ⟨a1, a2, a3, a4, a5, a6, a7, a8, a9, a10, a11, a12⟩ := id h
  have hc := a12 s hs.1 (by omega)
  have := bk_forS (W := fun acc k => bk_wp (bk_C (d + 2)) P_68 Q 0 21 [bk_c 5 p, bk_i s, bk_i (bkWorC M p s / 4 + acc), bk_i k] [] M) (g := bkMilC M p s) (c := 2) (n := M 5 p 11) a6.1 (fun k h0 h1 => by unfold bkMilC; split <;> omega) (fun k acc h0 h1 p2 p3 ih => ?_) ?_
  · rwa [Int.add_zero] at this
  · have q2 := a11 k h0 h1
    rw [← Int.add_assoc] at ih
    rw [L_68_21, S41 (.inl rfl) (by omega) (by omega)]
    unfold bk_r32
    unfold bkMilC at ih
    refine ⟨fun z => absurd z (by omega), fun _ => ⟨by omega, rfl, fun z => ⟨by omega, ?_⟩, fun z => ⟨by omega, by omega, ?_⟩⟩⟩
    · rwa [if_neg z, Int.add_zero] at ih
    · rwa [if_pos (Decidable.not_not.1 z)] at ih
  · have := bkSum_le (g := bkMilC M p s) (c := 2) (n := (M 5 p 11).toNat) (fun k hk => by unfold bkMilC; split <;> omega)
    rw [L_68_21]
    unfold bk_r32
    refine ⟨fun _ => ⟨by omega, by omega, by omega, ?_⟩, fun z => absurd (Int.le_refl _) z⟩
    intro M1 hM
    subst hM
    have hQ := hQ (bkWorC M p s / 4 + bkSum (bkMilC M p s) (M 5 p 11).toNat) (M 5 p 11)
    unfold bkMost bkEarnC at hQ
    exact ⟨by omega, hQ⟩
theorem bkMost_b {v : Int} (h : 0 ≤ v) : 0 ≤ bkMost v ∧ bkMost v ≤ 999 := by
  unfold bkMost
  split <;> omega
theorem bk_up_f {M : bk_M} {k i k' i' : Nat} {j v : Int} (h : k' ≠ k) : bk_up M k i j v k' i' = M k' i' := by
  funext c
  exact bk_up_k h
theorem bkPl_37 {M : bk_M} {p : Nat} {s v : Int} (h : bkPl M p) (hv : 0 ≤ v ∧ v ≤ 999) : bkPl (bk_up M 37 p s v) p := by
  obtain ⟨a1, a2, a3, a4, a5, a6, a7, a8, a9, a10, a11, a12⟩ := h
  unfold bkPl
  rw [bk_up_f (show (5 : Nat) ≠ 37 by decide), bk_up_f (show (28 : Nat) ≠ 37 by decide), bk_up_f (show (29 : Nat) ≠ 37 by decide), bk_up_f (show (30 : Nat) ≠ 37 by decide), bk_up_f (show (31 : Nat) ≠ 37 by decide), bk_up_f (show (32 : Nat) ≠ 37 by decide), bk_up_f (show (34 : Nat) ≠ 37 by decide)]
  refine ⟨a1, a2, a3, a4, a5, a6, a7, a8, a9, a10, a11, fun t h0 h1 => ?_⟩
  by_cases e : t = s
  · subst e; rw [bk_up_e]; exact hv
  · rw [bk_up_s e]; exact a12 t h0 h1
theorem bkEarnC_37 {M : bk_M} {p : Nat} {s v t : Int} : bkEarnC (bk_up M 37 p s v) p t = bkEarnC M p t := by
  unfold bkEarnC bkWorC bkMilC bkIs
  simp only [bk_up_f (show (5 : Nat) ≠ 37 by decide), bk_up_f (show (29 : Nat) ≠ 37 by decide), bk_up_f (show (30 : Nat) ≠ 37 by decide), bk_up_f (show (31 : Nat) ≠ 37 by decide), bk_up_f (show (34 : Nat) ≠ 37 by decide)]
theorem bkEarnC_b {M : bk_M} {p : Nat} (h : bkPl M p) (s : Int) : 0 ≤ bkEarnC M p s := by
  have h1 := bkWorC_b h s
  have h2 := bkSum_le (g := bkMilC M p s) (c := 2) (n := (M 5 p 11).toNat) (fun k hk => by unfold bkMilC; split <;> omega)
  unfold bkEarnC
  omega
/-- both sides have earned -/
def bkEarned (M : bk_M) (p : Nat) : bk_M := bk_up (bk_up M 37 p 0 (bkMost (M 37 p 0 + bkEarnC M p 0))) 37 p 1 (bkMost (M 37 p 1 + bkEarnC M p 1))
theorem S68 {d p : Nat} {Q : bk_Q} {M : bk_M} (h : bkPl M p) : bk_C (d + 3) 0 68 [bk_c 5 p] M Q ↔ Q 0 0 (bkEarned M p) := by
  refine bk_det (fun Q hQ => ?_) Q
  have hw := fun (M : bk_M) (h : bkPl M p) (s : Int) (Q : bk_Q) => @S49 d p p 29 Q s M (.inl rfl) h
  have hc := h.2.2.2.2.2.2.2.2.2.2.2 0 (by omega) (by omega)
  have he := bkEarnC_b h 0
  have hv := bkMost_b (v := M 37 p 0 + bkEarnC M p 0) (by omega)
  have hP1 := bkPl_37 (s := 0) h hv
  rw [E_68, L_68_2, hw M h]
  have b0 := bkWorC_b h 0
  refine ⟨fun z => absurd z (by decide), fun _ => ⟨rfl, ⟨b0.1, by decide⟩, L68 h (by omega) fun x2 x3 => ?_⟩⟩
  rw [L_68_2i, hw _ hP1]
  have b1 := bkWorC_b hP1 1
  refine ⟨fun z => absurd z (by decide), fun _ => ⟨rfl, ⟨b1.1, by decide⟩, L68 hP1 (by omega) fun x4 x5 => ?_⟩⟩
  rw [L_68_2i]
  refine ⟨fun _ => ?_, fun z => absurd (by decide) z⟩
  rw [show (0 : Int) + 1 = 1 by rfl, bkEarnC_37, bk_up_s (show (1 : Int) ≠ 0 by decide)]
  exact hQ
