/-! What is now stays alike after a work. -/
theorem bkNow_work {M M' : bk_M} {p : Nat} (h : bkNow M p) (h11 : M' 11 0 1 = M 11 0 1) (h5 : M' 5 p = M 5 p) (h29 : M' 29 p = M 29 p) (h30 : M' 30 p = M 30 p) (h31 : M' 31 p = M 31 p) (h32 : M' 32 p = M 32 p) (h34 : M' 34 p = M 34 p) (h35 : M' 35 p = M 35 p) (h39 : M' 39 p = M 39 p)
    (lo : ∀ q, q ≤ 80 → M' 58 0 q = M 58 0 q) (hi : ∀ q, 121 ≤ q → M' 58 0 q = M 58 0 q)
    (hs : ∀ s, 0 ≤ s → s < 2 → M' 37 p s = M' 58 0 (81 + s) ∧ M' 38 p s = M' 58 0 (83 + s) ∧ 0 ≤ M' 37 p s ∧ M' 37 p s ≤ 999)
    (hc : ∀ c, 0 ≤ c → c < 36 → M' 28 p c = M' 58 0 (85 + c) ∧ 0 ≤ M' 28 p c ∧ M' 28 p c ≤ 9) : bkNow M' p := by
  obtain ⟨hp, ⟨a1, a2, a3, a4, a5, a6, a7, a8, a9, a10, a11, a12⟩, ⟨b1, b2, b3, b4, b5, b6, b7⟩, ⟨c1, c2, c3, c4, c5, c6, c7, c8⟩⟩ := h
  refine ⟨by rw [h11]; exact hp, ?_, ?_, ?_⟩
  · unfold bkPl
    rw [h5, h29, h30, h31, h32, h34]
    exact ⟨a1, a2, a3, a4, a5, a6, a7, fun c h0 h1 => (hc c h0 h1).2, a9, a10, a11, fun s h0 h1 => (hs s h0 h1).2.2⟩
  · unfold bkHd
    rw [h5, h30, h31]
    refine ⟨by rw [lo _ (by omega)]; exact b1, by rw [lo _ (by omega)]; exact b2, by rw [lo _ (by omega)]; exact b3, by rw [lo _ (by omega)]; exact b4, by rw [lo _ (by omega)]; exact b5, by rw [lo _ (by omega)]; exact b6, fun f h0 h1 => ?_⟩
    rw [lo _ (by omega), lo _ (by omega), lo _ (by omega)]
    exact b7 f h0 h1
  · unfold bkSo
    rw [h5, h29, h32, h34, h35, h39]
    refine ⟨by rw [lo _ (by omega)]; exact c1, fun s h0 h1 => ⟨?_, ?_⟩, fun c h0 h1 => ?_, fun y h0 h1 => ?_, fun m h0 h1 => ?_, fun f h0 h1 => ?_, ?_, fun k y h0 h1 h2 h3 h4 => ?_⟩
    · rw [show (80 : Int) + 1 + s = 81 + s by omega]; exact (hs s h0 h1).1
    · rw [show (80 : Int) + 3 + s = 83 + s by omega]; exact (hs s h0 h1).2.1
    · rw [show (80 : Int) + 5 + c = 85 + c by omega]; exact (hc c h0 h1).1
    · rw [hi _ (by omega)]; exact c4 y h0 h1
    · rw [hi _ (by omega), hi _ (by omega), hi _ (by omega)]; exact c5 m h0 h1
    · rw [hi _ (by omega)]; exact c6 f h0 h1
    · rw [hi _ (by omega)]; exact c7
    · rw [hi _ (by omega)]; exact c8 k y h0 h1 h2 h3 h4
theorem bkNow_roll {M M' : bk_M} {p : Nat} (h : bkNow M p) (h11 : M' 11 0 1 = M 11 0 1) (h5 : M' 5 p = M 5 p) (h28 : M' 28 p = M 28 p) (h29 : M' 29 p = M 29 p) (h30 : M' 30 p = M 30 p) (h31 : M' 31 p = M 31 p) (h32 : M' 32 p = M 32 p) (h37 : M' 37 p = M 37 p) (h38 : M' 38 p = M 38 p) (h39 : M' 39 p = M 39 p)
    (lo : ∀ q, q ≤ 126 → M' 58 0 q = M 58 0 q) (hi : ∀ q, 136 ≤ q → M' 58 0 q = M 58 0 q)
    (hm : ∀ m, 0 ≤ m → m < M 58 0 1 → M' 34 p m = 6 * M' 58 0 (130 + m) + M' 58 0 (127 + m) ∧ 0 ≤ M' 58 0 (127 + m) ∧ M' 58 0 (127 + m) < M 58 0 2 ∧ 0 ≤ M' 58 0 (130 + m) ∧ M' 58 0 (130 + m) < M 58 0 3 ∧ M' 35 p m = M' 58 0 (133 + m)) : bkNow M' p := by
  obtain ⟨hp, ⟨a1, a2, a3, a4, a5, a6, a7, a8, a9, a10, a11, a12⟩, ⟨b1, b2, b3, b4, b5, b6, b7⟩, ⟨c1, c2, c3, c4, c5, c6, c7, c8⟩⟩ := h
  have e1 : M 5 p 11 = M 58 0 1 := b2
  have e2 : M 5 p 0 = M 58 0 2 := b3
  have e3 : M 5 p 1 = M 58 0 3 := b4
  refine ⟨by rw [h11]; exact hp, ?_, ?_, ?_⟩
  · unfold bkPl
    rw [h5, h28, h29, h30, h31, h32, h37]
    refine ⟨a1, a2, a3, a4, a5, a6, a7, a8, a9, a10, fun m h0 h1 => ?_, a12⟩
    have := hm m h0 (by omega)
    omega
  · unfold bkHd
    rw [h5, h30, h31]
    refine ⟨by rw [lo _ (by omega)]; exact b1, by rw [lo _ (by omega)]; exact b2, by rw [lo _ (by omega)]; exact b3, by rw [lo _ (by omega)]; exact b4, by rw [lo _ (by omega)]; exact b5, by rw [lo _ (by omega)]; exact b6, fun f h0 h1 => ?_⟩
    rw [lo _ (by omega), lo _ (by omega), lo _ (by omega)]
    exact b7 f h0 h1
  · unfold bkSo
    rw [h5, h28, h29, h32, h37, h38, h39]
    refine ⟨by rw [lo _ (by omega)]; exact c1, fun s h0 h1 => ?_, fun c h0 h1 => ?_, fun y h0 h1 => ?_, fun m h0 h1 => ?_, fun f h0 h1 => ?_, ?_, fun k y h0 h1 h2 h3 h4 => ?_⟩
    · rw [lo _ (by omega), lo _ (by omega)]; exact c2 s h0 h1
    · rw [lo _ (by omega)]; exact c3 c h0 h1
    · rw [lo _ (by omega)]; exact c4 y h0 h1
    · have := hm m h0 (by omega)
      rw [show (80 : Int) + 50 + m = 130 + m by omega, show (80 : Int) + 47 + m = 127 + m by omega, show (80 : Int) + 53 + m = 133 + m by omega]
      exact ⟨this.1, this.2.1, by omega, this.2.2.2.1, this.2.2.2.2.2⟩
    · rw [hi _ (by omega)]; exact c6 f h0 h1
    · rw [hi _ (by omega)]; exact c7
    · rw [hi _ (by omega)]; exact c8 k y h0 h1 h2 h3 h4
/-- the reference's updates leave what is not its own -/
theorem bkSnap_o {M : bk_M} {k a : Nat} {c : Int} (h : k ≠ 61) (h2 : ¬ (k = 12 ∧ c = 25)) : bkSnap M k a c = M k a c := by
  unfold bkSnap
  rw [if_neg (by omega), if_neg (by omega)]
theorem bkLivW_o {M : bk_M} {w s x y : Int} {k a : Nat} {c : Int} (h : k ≠ 58) : bkLivW M w s x y k a c = M k a c := by
  unfold bkLivW
  rw [bk_up_k h.symm.symm, bk_up_k h, bk_up_k h]
theorem bkLivR_o {M : bk_M} {m x y : Int} {k a : Nat} {c : Int} (h : k ≠ 58) : bkLivR M m x y k a c = M k a c := by
  unfold bkLivR
  rw [bk_up_k h, bk_up_k h, bk_up_k h]
theorem bkWrk_o {M : bk_M} {p : Nat} {s c ch : Int} {k a : Nat} {q : Int} (h : k ≠ 28 ∧ k ≠ 37 ∧ k ≠ 38) : bkWrk M p s c ch k a q = M k a q := by
  unfold bkWrk
  rw [bk_up_k h.2.2, bk_up_k h.2.1, bk_up_k h.1]
theorem bkRol_o {M : bk_M} {p : Nat} {m c : Int} {k a : Nat} {q : Int} (h : k ≠ 34 ∧ k ≠ 35) : bkRol M p m c k a q = M k a q := by
  unfold bkRol
  rw [bk_up_k h.2, bk_up_k h.1]
/-- class and reference have dug or laid -/
theorem bkNow_dig {M : bk_M} {p : Nat} {w s x y : Int} (h : bkNow M p) (hp3 : p < 3) (hw : w = 0 ∨ w = 1) (hs : 0 ≤ s ∧ s ≤ 1) (hx : 0 ≤ x ∧ x < M 58 0 2) (hy : 0 ≤ y ∧ y < M 58 0 3) (h0 : bkWhyW (M 58 0) w s x y = 0) :
    bkNow (bkLivW (bkSnap (bk_up (bkWrk (bkKeep M p) p s (6 * y + x) (if w = 0 then -1 else 1)) 12 0 0 0)) w s x y) p := by
  obtain ⟨n1, n2, n3, n4, n5, n6, n7, n8, n9, n10, n11, n12, -⟩ := bkNow_md h
  obtain ⟨hp, hP, ⟨b1, b2, b3, b4, -⟩, ⟨c1, c2, c3, c4, -⟩⟩ := bkNow_e h
  have hK : ∀ k c, k ≠ 3 → bkKeep M p k p c = M k p c := fun k c hk => bkKeep_o hk (.inl hp3)
  have hK0 : ∀ k a c, k ≠ 3 → k ≠ 5 → (k < 28 ∨ 39 < k) → bkKeep M p k a c = M k a c := fun k a c hk h5 h6 => bkKeep_o hk (.inr ⟨h5, h6⟩)
  have o : ∀ k a c, k ≠ 58 → k ≠ 61 → k ≠ 12 → bkLivW (bkSnap (bk_up (bkWrk (bkKeep M p) p s (6 * y + x) (if w = 0 then -1 else 1)) 12 0 0 0)) w s x y k a c = bkWrk (bkKeep M p) p s (6 * y + x) (if w = 0 then -1 else 1) k a c := fun k a c e1 e2 e3 => by
    rw [bkLivW_o e1, bkSnap_o e2 (fun z => e3 z.1), bk_up_k e3]
  have f : ∀ k, k ≠ 58 → k ≠ 61 → k ≠ 12 → k ≠ 28 → k ≠ 37 → k ≠ 38 → k ≠ 3 → bkLivW (bkSnap (bk_up (bkWrk (bkKeep M p) p s (6 * y + x) (if w = 0 then -1 else 1)) 12 0 0 0)) w s x y k p = M k p := fun k e1 e2 e3 e4 e5 e6 e7 => by
    funext c
    rw [o k p c e1 e2 e3, bkWrk_o ⟨e4, e5, e6⟩, hK k c e7]
  have g : ∀ c, bkSnap (bk_up (bkWrk (bkKeep M p) p s (6 * y + x) (if w = 0 then -1 else 1)) 12 0 0 0) 58 0 c = M 58 0 c := fun c => by
    rw [bkSnap_o (by decide) (by omega), bk_up_k (by decide), bkWrk_o (by decide), hK0 58 0 c (by decide) (by decide) (by decide)]
  have gN : ∀ c, bkLivW (bkSnap (bk_up (bkWrk (bkKeep M p) p s (6 * y + x) (if w = 0 then -1 else 1)) 12 0 0 0)) w s x y 58 0 c = if c = 85 + 6 * y + x then M 58 0 c + (if w = 0 then -1 else 1) else if c = 83 + s then bk_w32 (M 58 0 c + 1) else if c = 81 + s then M 58 0 c - 1 else M 58 0 c := fun c => by
    unfold bkLivW
    by_cases z1 : c = 85 + 6 * y + x
    · subst z1; rw [bk_up_e, g, if_pos rfl]
    · rw [bk_up_s z1, if_neg z1]
      by_cases z2 : c = 83 + s
      · subst z2; rw [bk_up_e, g, if_pos rfl]
      · rw [bk_up_s z2, if_neg z2]
        by_cases z3 : c = 81 + s
        · subst z3; rw [bk_up_e, g, if_pos rfl]
        · rw [bk_up_s z3, if_neg z3, g]
  have kk : bkWhyW (M 58 0) w s x y = 0 → M 58 0 (81 + s) ≠ 0 ∧ M 58 0 (85 + 6 * y + x) ≠ (if w = 0 then 0 else 9) := fun q => by
    unfold bkWhyW at q
    by_cases z1 : M 58 0 (81 + s) = 0
    · rw [if_pos z1] at q; omega
    rw [if_neg z1] at q
    by_cases z2 : bkSide x (M 58 0 (121 + y)) = 1 - s
    · rw [if_pos z2] at q; omega
    rw [if_neg z2] at q
    refine ⟨z1, fun z3 => ?_⟩
    rw [if_pos z3] at q; omega
  have kk := kk h0
  refine bkNow_work h ?_ (f 5 (by decide) (by decide) (by decide) (by decide) (by decide) (by decide) (by decide)) (f 29 (by decide) (by decide) (by decide) (by decide) (by decide) (by decide) (by decide)) (f 30 (by decide) (by decide) (by decide) (by decide) (by decide) (by decide) (by decide)) (f 31 (by decide) (by decide) (by decide) (by decide) (by decide) (by decide) (by decide)) (f 32 (by decide) (by decide) (by decide) (by decide) (by decide) (by decide) (by decide)) (f 34 (by decide) (by decide) (by decide) (by decide) (by decide) (by decide) (by decide)) (f 35 (by decide) (by decide) (by decide) (by decide) (by decide) (by decide) (by decide)) (f 39 (by decide) (by decide) (by decide) (by decide) (by decide) (by decide) (by decide)) (fun q hq => ?_) (fun q hq => ?_) (fun t h0 h1 => ?_) (fun c h0 h1 => ?_)
  · rw [o 11 0 1 (by decide) (by decide) (by decide), bkWrk_o (by decide), hK0 11 0 1 (by decide) (by decide) (by decide)]
  · rw [gN, if_neg (by omega), if_neg (by omega), if_neg (by omega)]
  · rw [gN, if_neg (by omega), if_neg (by omega), if_neg (by omega)]
  · have q1 := c2 t h0 h1
    have q2 := n12 t h0 h1
    rw [o 37 p t (by decide) (by decide) (by decide), o 38 p t (by decide) (by decide) (by decide), gN, gN]
    rw [if_neg (show ¬ 81 + t = 85 + 6 * y + x by omega), if_neg (show ¬ 81 + t = 83 + s by omega), if_neg (show ¬ 83 + t = 85 + 6 * y + x by omega)]
    unfold bkWrk
    rw [bk_up_k (show (37 : Nat) ≠ 38 by decide)]
    by_cases e : t = s
    · subst e
      rw [bk_up_e, bk_up_e, if_pos rfl, if_pos rfl, hK 37 t (by decide), hK 38 t (by decide), q1.1, q1.2]
      exact ⟨rfl, rfl, by omega, by omega⟩
    · rw [bk_up_s e, bk_up_s e, bk_up_k (by decide), bk_up_k (by decide), bk_up_k (by decide), if_neg (by omega), if_neg (by omega), if_neg (by omega), hK 37 t (by decide), hK 38 t (by decide), q1.1, q1.2]
      exact ⟨rfl, rfl, q2⟩
  · have q1 := c3 c h0 h1
    have q2 := n8 c h0 h1
    rw [o 28 p c (by decide) (by decide) (by decide), gN]
    rw [if_neg (show ¬ 85 + c = 83 + s by omega), if_neg (show ¬ 85 + c = 81 + s by omega)]
    unfold bkWrk
    rw [bk_up_k (show (28 : Nat) ≠ 38 by decide), bk_up_k (show (28 : Nat) ≠ 37 by decide)]
    by_cases e : c = 6 * y + x
    · subst e
      rw [bk_up_e, if_pos (show 85 + (6 * y + x) = 85 + 6 * y + x by omega), hK 28 _ (by decide), q1]
      rw [← Int.add_assoc] at q2 ⊢
      refine ⟨rfl, ?_⟩
      rcases hw with rfl | rfl
      · have := kk.2
        rw [if_pos rfl] at this ⊢
        omega
      · have := kk.2
        rw [if_neg (by decide)] at this ⊢
        omega
    · rw [bk_up_s e, if_neg (by omega), hK 28 _ (by decide), q1]
      exact ⟨rfl, q2⟩
