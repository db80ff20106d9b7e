/-! The smallest readers, of the class and of the reference. -/
theorem bkTk_2 {T : Int → Int} {c L i : Int} (h : bkTk T c L i = 2) : bkEv (fun j => bkSm (T j)) (bkTp T c i) (bkTl T c (bkTp T c i)) = true ∧ bkTl T c (bkTp T c i) ≤ 7 := by
  unfold bkTk at h
  split at h
  · omega
  · split at h
    · omega
    · split at h
      · unfold bkRk at h
        split at h
        · rename_i w
          split at h
          · exact ⟨w, by assumption⟩
          · omega
        · split at h <;> omega
      · split at h
        · rename_i w
          unfold bkZn at w
          rw [decide_eq_true_eq] at w
          omega
        · omega
theorem bkTk_3 {T : Int → Int} {c L i : Int} (h : bkTk T c L i = 3) : bkEv (fun j => bkDg (T j)) (bkTp T c i) (bkTl T c (bkTp T c i)) = true ∧ bkTl T c (bkTp T c i) ≤ 3 := by
  unfold bkTk at h
  split at h
  · omega
  · split at h
    · omega
    · split at h
      · unfold bkRk at h
        split at h
        · split at h <;> omega
        · split at h
          · assumption
          · omega
      · split at h
        · rename_i w
          unfold bkZn at w
          rw [decide_eq_true_eq] at w
          omega
        · omega
theorem bkTk_z {T : Int → Int} {c L i : Int} : bkTk T c L i = 0 ∨ bkTk T c L i = 1 ∨ bkTk T c L i = 2 ∨ bkTk T c L i = 3 ∨ (40 ≤ bkTk T c L i ∧ bkTk T c L i ≤ 62) := by
  unfold bkTk
  split
  · omega
  · split
    · omega
    · split
      · have := @bkRk_b T (bkTp T c i) (bkTl T c (bkTp T c i)); omega
      · split
        · rename_i w
          unfold bkZn at w
          rw [decide_eq_true_eq] at w
          omega
        · omega
theorem bkTv_b {T : Int → Int} {c L i : Int} (h : bkTk T c L i = 3) : 0 ≤ bkTv T c i ∧ bkTv T c i ≤ 999 := by
  obtain ⟨h1, h2⟩ := bkTk_3 h
  have := bkVl_b h1
  have h3 := Nat.pow_le_pow_right (n := 10) (by decide) h2
  rw [show 10 ^ 3 = 1000 from rfl] at h3
  unfold bkTv
  omega
theorem bkTw_v {T : Int → Int} {c L i : Int} (h : bkTk T c L i = 2) : bkNv (bkTw 32 T c i) ∧ bkTw 27 T c i = bkCv 7 (bkTw 32 T c i) := by
  obtain ⟨h1, h2⟩ := bkTk_2 h
  have hp : 0 < bkTl T c (bkTp T c i) := by
    by_cases z : 0 < bkTl T c (bkTp T c i)
    · exact z
    exfalso
    have e : bkTl T c (bkTp T c i) = 0 := by omega
    have hlt : bkTp T c i < c ∧ bkAl (T (bkTp T c i)) = true := by
      unfold bkTk at h
      split at h
      · omega
      · split at h
        · omega
        · split at h
          · rename_i w
            exact ⟨by omega, w⟩
          · split at h
            · rename_i w
              unfold bkZn at w
              rw [decide_eq_true_eq] at w
              omega
            · omega
    obtain ⟨r1, r2, r3, r4⟩ := bkEd_ok (fun j => bkAl (T j)) _ (bkTp T c i) rfl (Int.le_of_lt hlt.1)
    have e2 : bkTe T c (bkTp T c i) = bkTp T c i := by
      unfold bkTl at e
      unfold bkTe at *
      omega
    unfold bkTe at e2
    rw [e2] at r4
    rw [hlt.2] at r4
    rcases r4 with r4 | r4
    · omega
    · cases r4
  exact ⟨bkNv_ky hp h2 h1, (bkCv_ky 7 h2 h1).symm⟩
def bkWi (k : Int) : Int := bkIx (fun j => bkWt j.toNat) k 25
theorem bkIx_congr {f g : Int → Int} {k : Int} : ∀ {n : Nat}, (∀ j : Nat, j < n → f j = g j) → bkIx f k n = bkIx g k n
  | 0, _ => rfl
  | n + 1, h => by
    show (if bkIx f k n = -1 then (if f n = k then (n : Int) else -1) else bkIx f k n) = (if bkIx g k n = -1 then (if g n = k then (n : Int) else -1) else bkIx g k n)
    rw [bkIx_congr (n := n) fun j hj => h j (by omega), h n (by omega)]
theorem bkWi_t {k : Int} {w : Nat} (hw : w < 25) : bkWi k = w ↔ k = bkWt w := bkIx_wd (fun w _ => by simp) hw
theorem bkWi_z {k : Int} (hk : bkNv k) {w : Nat} (hw : w < 25) : bkCv 7 k = bkWz w ↔ bkWi k = w := by
  rw [← (bkWt_v w hw).2, bkNv_inj hk (bkWt_v w hw).1, bkWi_t hw]
theorem bkIx_b {f : Int → Int} {k : Int} : ∀ {n : Nat}, -1 ≤ bkIx f k n ∧ bkIx f k n < n
  | 0 => ⟨by unfold bkIx; omega, by unfold bkIx; omega⟩
  | n + 1 => by
    have := @bkIx_b f k n
    show -1 ≤ (if bkIx f k n = -1 then (if f n = k then (n : Int) else -1) else bkIx f k n) ∧ (if bkIx f k n = -1 then (if f n = k then (n : Int) else -1) else bkIx f k n) < _
    (repeat' split) <;> omega
def bkIsW (T : Int → Int) (c L i w : Int) : Bool := decide (bkTk T c L i = 2 ∧ bkWi (bkTw 32 T c i) = w)
/-- a number between two: what is wrong, or the number -/
def bkNu (T : Int → Int) (c L lo hi i : Int) : (Int × Int) ⊕ Int := if bkTk T c L i = 3 then (if lo ≤ bkTv T c i ∧ bkTv T c i ≤ hi then .inr (bkTv T c i) else .inl (2, bkTf T c L i)) else .inl (1, bkTf T c L i)
/-! the class -/
def bkCk (M : bk_M) (T : Int → Int) (c L i : Int) : Prop := M 10 0 2 = bkTk T c L i ∧ M 10 0 10 = bkTn T c L i ∧ M 10 0 11 = bkTf T c L i ∧ (bkTk T c L i = 2 → M 10 0 3 = bkTw 32 T c i ∧ M 10 0 4 = bkWi (bkTw 32 T c i)) ∧ (bkTk T c L i = 3 → M 10 0 5 = bkTv T c i)
def bkCt (M : bk_M) (T : Int → Int) (c L : Int) : Prop := M 53 0 = T ∧ M 10 0 1 = c ∧ M 10 0 9 = L ∧ (0 ≤ c ∧ c ≤ 940) ∧ (∀ w : Nat, w < 25 → M 54 0 w = bkWt w)
def bkCf (M M' : bk_M) : Prop := bkFr (fun k a => k = 10 ∧ a = 0) M M' ∧ ∀ j, j ≠ 2 → j ≠ 3 → j ≠ 4 → j ≠ 5 → j ≠ 6 → j ≠ 7 → j ≠ 10 → j ≠ 11 → M' 10 0 j = M 10 0 j
theorem bkCf_refl (M : bk_M) : bkCf M M := ⟨bkFr_refl _ _, fun _ _ _ _ _ _ _ _ _ => rfl⟩
theorem bkCf_trans {M M' M'' : bk_M} (h : bkCf M M') (h2 : bkCf M' M'') : bkCf M M'' := ⟨bkFr_trans h.1 h2.1, fun j q1 q2 q3 q4 q5 q6 q7 q8 => (h2.2 j q1 q2 q3 q4 q5 q6 q7 q8).trans (h.2 j q1 q2 q3 q4 q5 q6 q7 q8)⟩
theorem bkCt_f {M M' : bk_M} {T : Int → Int} {c L : Int} (h : bkCt M T c L) (f : bkCf M M') : bkCt M' T c L := by
  obtain ⟨h1, h2, h3, h4, h5⟩ := h
  refine ⟨(f.1 53 0 (by omega)).trans h1, (f.2 1 (by decide) (by decide) (by decide) (by decide) (by decide) (by decide) (by decide) (by decide)).trans h2, (f.2 9 (by decide) (by decide) (by decide) (by decide) (by decide) (by decide) (by decide) (by decide)).trans h3, h4, fun w hw => ?_⟩
  rw [f.1 54 0 (by omega)]; exact h5 w hw
theorem S7c {d : Nat} {M : bk_M} {T : Int → Int} {c L i : Int} (h : bkCt M T c L) (hi : M 10 0 10 = i) (h0 : 0 ≤ i ∧ i ≤ c) : bk_C (d + 2) 0 7 [bk_c 10 0] M (fun t r M' => t = 0 ∧ bkCf M M' ∧ M' 10 0 6 = M 10 0 6 ∧ bkCk M' T c L i) := by
  obtain ⟨h1, h2, h3, h4, h5⟩ := h
  refine bk_use (S7 (by omega) (by omega) (by omega)) (fun r M' hM' => ?_)
  obtain ⟨f, o, k1, k2, k3, k4, k5⟩ := hM'
  rw [h1, h2, h3, hi] at k1 k2 k3 k4 k5
  refine ⟨rfl, ⟨f, fun j q1 q2 q3 q4 _ _ q5 q6 => o j q1 q2 q3 q4 q5 q6⟩, o 6 (by decide) (by decide) (by decide) (by decide) (by decide) (by decide), k1, k2, k3, fun w => ⟨(k4 w).1, ?_⟩, k5⟩
  rw [(k4 w).2]
  exact bkIx_congr fun j hj => by rw [h5 j hj]; simp
theorem S16c {d : Nat} {M : bk_M} {a : Int} : bk_C (d + 1) 0 16 [bk_c 10 0, bk_i a] M (fun t r M' => t = 0 ∧ r = 0 ∧ bkCf M M' ∧ M' 10 0 6 = a ∧ M' 10 0 7 = M 10 0 11 ∧ (∀ j, j ≠ 6 → j ≠ 7 → M' 10 0 j = M 10 0 j)) := by
  rw [E_16]
  intro M1 e1 M2 e2
  refine ⟨.inl rfl, rfl, rfl, ⟨by rw [e2, e1]; exact bkFr_up (bkFr_up (bkFr_refl _ _) ⟨rfl, rfl⟩) ⟨rfl, rfl⟩, fun j _ _ _ _ q1 q2 _ _ => by rw [e2, e1, bk_up_s q2, bk_up_s q1]⟩, by rw [e2, e1, bk_up_s (by decide), bk_up_e], by rw [e2, e1, bk_up_e, bk_up_s (by decide)], fun j q1 q2 => by rw [e2, e1, bk_up_s q2, bk_up_s q1]⟩
theorem bkCk_6 {M M' : bk_M} {T : Int → Int} {c L i : Int} (h : bkCk M T c L i) (o : ∀ j, j ≠ 6 → j ≠ 7 → M' 10 0 j = M 10 0 j) : bkCk M' T c L i := by
  obtain ⟨k1, k2, k3, k4, k5⟩ := h
  unfold bkCk
  rw [o 2 (by decide) (by decide), o 3 (by decide) (by decide), o 4 (by decide) (by decide), o 5 (by decide) (by decide), o 10 (by decide) (by decide), o 11 (by decide) (by decide)]
  exact ⟨k1, k2, k3, k4, k5⟩
theorem S28c {d : Nat} {Q : bk_Q} {M : bk_M} {T : Int → Int} {c L i a : Int} (h : bkCk M T c L i) : bk_C (d + 1) 0 28 [bk_c 10 0, bk_i a] M Q ↔ Q 0 (if bkIsW T c L i a = true then 1 else 0) M := by
  obtain ⟨k1, k2, k3, k4, k5⟩ := h
  refine bk_det (fun Q hQ => ?_) Q
  rw [E_28, k1]
  unfold bkIsW at hQ
  simp only [decide_eq_true_eq] at hQ
  refine ⟨fun z => ⟨.inl rfl, by rwa [if_neg fun w => z w.1] at hQ⟩, fun z => ?_⟩
  have z : bkTk T c L i = 2 := by omega
  rw [(k4 z).2]
  exact ⟨fun w => ⟨.inl rfl, by rwa [if_neg fun q => w q.2] at hQ⟩, fun w => ⟨.inr rfl, by rwa [if_pos ⟨z, by omega⟩] at hQ⟩⟩
theorem S24c {d : Nat} {Q : bk_Q} {M : bk_M} {T : Int → Int} {c L i : Int} (h : bkCk M T c L i) : bk_C (d + 1) 0 24 [bk_c 10 0] M Q ↔ Q 0 (if bkIsW T c L i (-1) = true then 1 else 0) M := by
  obtain ⟨k1, k2, k3, k4, k5⟩ := h
  refine bk_det (fun Q hQ => ?_) Q
  rw [E_24, k1]
  unfold bkIsW at hQ
  simp only [decide_eq_true_eq] at hQ
  refine ⟨fun z => ⟨.inl rfl, by rwa [if_neg fun w => z w.1] at hQ⟩, fun z => ?_⟩
  have z : bkTk T c L i = 2 := by omega
  rw [(k4 z).2]
  exact ⟨fun w => ⟨.inl rfl, by rwa [if_neg fun q => w q.2] at hQ⟩, fun w => ⟨.inr rfl, by rwa [if_pos ⟨z, by omega⟩] at hQ⟩⟩
theorem S17c {d : Nat} {M : bk_M} {T : Int → Int} {c L i lo hi : Int} (h : bkCt M T c L) (hx : M 10 0 10 = i) (h0 : 0 ≤ i ∧ i ≤ c) : bk_C (d + 3) 0 17 [bk_c 10 0, bk_i lo, bk_i hi] M (fun t r M' => t = 0 ∧ bkCf M M' ∧ bkCk M' T c L i ∧ (∀ w q, bkNu T c L lo hi i = .inl (w, q) → r = 0 ∧ M' 10 0 6 = w ∧ M' 10 0 7 = q) ∧ (∀ v, bkNu T c L lo hi i = .inr v → r = 1 ∧ M' 10 0 5 = v ∧ M' 10 0 6 = M 10 0 6)) := by
  rw [E_17]
  refine bk_use (S7c h hx h0) (fun r M2 hM2 => ?_)
  obtain ⟨f, f6, K⟩ := hM2
  have K' := K
  obtain ⟨k1, k2, k3, k4, k5⟩ := K'
  rw [k1]
  unfold bkNu
  have bad : ∀ why, bk_C (d + 2) 0 16 [bk_c 10 0, bk_i why] M2 (fun t r M' => t = 0 ∧ (r = 0 ∧ bkCf M M' ∧ bkCk M' T c L i ∧ M' 10 0 6 = why ∧ M' 10 0 7 = bkTf T c L i)) := fun why => bk_use S16c (fun r M5 hM5 => by
    obtain ⟨q1, q2, q3, q4, q5⟩ := hM5
    exact ⟨rfl, q1, bkCf_trans f q2, bkCk_6 K q5, q3, q4.trans k3⟩)
  refine ⟨rfl, fun z => ?_, fun z => bk_use (bad 1) (fun r M5 hM5 => ?_)⟩
  · rw [if_pos z, k5 z]
    refine ⟨fun z2 => bk_use (bad 2) (fun r M5 hM5 => ?_), fun z2 => ⟨fun z3 => ⟨.inr rfl, ?_⟩, fun z3 => bk_use (bad 2) (fun r M5 hM5 => ?_)⟩⟩
    · obtain ⟨q1, q2, q3, q4, q5⟩ := hM5
      rw [if_neg (by omega)]
      refine ⟨rfl, fun _ => ⟨.inl rfl, rfl, q2, q3, fun w q e => ?_, fun v e => by cases e⟩, fun w => absurd q1 w⟩
      cases e; exact ⟨rfl, q4, q5⟩
    · rw [if_pos (by omega)]
      refine ⟨rfl, f, K, fun w q e => (by cases e), fun v e => ?_⟩
      cases e; exact ⟨rfl, rfl, f6⟩
    · obtain ⟨q1, q2, q3, q4, q5⟩ := hM5
      rw [if_neg (by omega)]
      refine ⟨rfl, fun _ => ⟨.inl rfl, rfl, q2, q3, fun w q e => ?_, fun v e => by cases e⟩, fun w => absurd q1 w⟩
      cases e; exact ⟨rfl, q4, q5⟩
  · obtain ⟨q1, q2, q3, q4, q5⟩ := hM5
    rw [if_neg z]
    refine ⟨rfl, by omega, rfl, q2, q3, fun w q e => ?_, fun v e => by cases e⟩
    cases e; exact ⟨q1, q4, q5⟩
theorem S30c {d : Nat} {M : bk_M} {T : Int → Int} {c L i a : Int} (h : bkCt M T c L) (hi : M 10 0 10 = i) (h0 : 0 ≤ i ∧ i ≤ c) : bk_C (d + 3) 0 30 [bk_c 10 0, bk_i a] M (fun t r M' => t = 0 ∧ bkCf M M' ∧ bkCk M' T c L i ∧ (bkTk T c L i = a → r = 1 ∧ M' 10 0 6 = M 10 0 6) ∧ (bkTk T c L i ≠ a → r = 0 ∧ M' 10 0 6 = 1 ∧ M' 10 0 7 = bkTf T c L i)) := by
  rw [E_30]
  refine bk_use (S7c h hi h0) (fun r M2 hM2 => ?_)
  obtain ⟨f, f6, K⟩ := hM2
  have K' := K
  obtain ⟨k1, k2, k3, k4, k5⟩ := K'
  rw [k1]
  refine ⟨rfl, fun z => ⟨.inr rfl, rfl, f, K, fun _ => ⟨rfl, f6⟩, fun w => absurd z w⟩, fun z => bk_use S16c (fun r M5 hM5 => ?_)⟩
  obtain ⟨q1, q2, q3, q4, q5⟩ := hM5
  exact ⟨rfl, fun _ => ⟨.inl rfl, rfl, bkCf_trans f q2, bkCk_6 K q5, fun w => absurd w z, fun _ => ⟨rfl, q3, q4.trans k3⟩⟩, fun w => absurd q1 w⟩
theorem S6c {d : Nat} {M : bk_M} {L : Int} (hc : 0 ≤ M 10 0 1 ∧ M 10 0 1 ≤ 940) (hw : ∀ w : Nat, w < 25 → M 54 0 w = bkWt w) : bk_C (d + 3) 0 6 [bk_c 10 0, bk_i L] M (fun t r M' => t = 0 ∧ bkFr (fun k a => k = 10 ∧ a = 0) M M' ∧ (∀ j, j ≠ 2 → j ≠ 3 → j ≠ 4 → j ≠ 5 → j ≠ 6 → j ≠ 7 → j ≠ 9 → j ≠ 10 → j ≠ 11 → M' 10 0 j = M 10 0 j) ∧ bkCt M' (M 53 0) (M 10 0 1) L ∧ bkCk M' (M 53 0) (M 10 0 1) L 0 ∧ M' 10 0 6 = 0 ∧ M' 10 0 7 = 0) := by
  rw [E_6]
  intro M1 e1 M2 e2 M3 e3 M4 e4
  have f4 : bkFr (fun k a => k = 10 ∧ a = 0) M M4 := by rw [e4, e3, e2, e1]; exact bkFr_up (bkFr_up (bkFr_up (bkFr_up (bkFr_refl _ _) ⟨rfl, rfl⟩) ⟨rfl, rfl⟩) ⟨rfl, rfl⟩) ⟨rfl, rfl⟩
  have o4 : ∀ j, j ≠ 6 → j ≠ 7 → j ≠ 9 → j ≠ 10 → M4 10 0 j = M 10 0 j := fun j q1 q2 q3 q4 => by rw [e4, e3, e2, e1, bk_up_s q2, bk_up_s q1, bk_up_s q4, bk_up_s q3]
  have C4 : bkCt M4 (M 53 0) (M 10 0 1) L := ⟨f4 53 0 (by omega), o4 1 (by decide) (by decide) (by decide) (by decide), by rw [e4, e3, e2, e1, bk_up_s (by decide), bk_up_s (by decide), bk_up_s (by decide), bk_up_e], hc, fun w hw' => by rw [f4 54 0 (by omega)]; exact hw w hw'⟩
  have i4 : M4 10 0 10 = 0 := by rw [e4, e3, e2, bk_up_s (by decide), bk_up_s (by decide), bk_up_e]
  refine bk_use (S7 (by omega) (by rw [i4, C4.2.1]; exact hc.1) (by rw [C4.2.1]; exact hc.2)) (fun r M6 hM6 => ?_)
  obtain ⟨f, o, k1, k2, k3, k4, k5⟩ := hM6
  obtain ⟨h1, h2, h3, h4, h5⟩ := C4
  rw [h1, h2, h3, i4] at k1 k2 k3 k4 k5
  have cf : bkCf M4 M6 := ⟨f, fun j q1 q2 q3 q4 _ _ q5 q6 => o j q1 q2 q3 q4 q5 q6⟩
  refine ⟨rfl, rfl, bkFr_trans f4 f, fun j q1 q2 q3 q4 q5 q6 q7 q8 q9 => by rw [o j q1 q2 q3 q4 q8 q9, o4 j q5 q6 q7 q8], bkCt_f ⟨h1, h2, h3, h4, h5⟩ cf, ⟨k1, k2, k3, fun w => ⟨(k4 w).1, ?_⟩, k5⟩, by rw [o 6 (by decide) (by decide) (by decide) (by decide) (by decide) (by decide), e4, e3, bk_up_s (by decide), bk_up_e], by rw [o 7 (by decide) (by decide) (by decide) (by decide) (by decide) (by decide), e4, bk_up_e]⟩
  rw [(k4 w).2]
  exact bkIx_congr fun j hj => by rw [h5 j hj]; simp
