/-! Acts: dig, lay, roll, spring, years. -/
theorem bk_up_ii {M : bk_M} {k k' i i' : Nat} {j v j' : Int} (h : i' ≠ i) : bk_up M k i j v k' i' j' = M k' i' j' := by
  unfold bk_up
  rw [if_neg (fun q => h q.2.1)]
theorem bkSn_congr {M X : bk_M} (h1 : X 12 0 25 = M 12 0 25) (h2 : X 61 0 = M 61 0) (h3 : X 58 0 = M 58 0) : bkSn X = bkSn M := by
  funext c
  unfold bkSn
  rw [h1, h2, h3]
theorem bkInv_keep {M Y : bk_M} {p : Nat} (h : bkInv M) (hp : (M 11 0 1).toNat = p) (hY : ∀ k a, bkQk k a ∨ ((k = 10 ∨ k = 7) ∧ a = 0) → k ≠ 58 → k ≠ 61 → ¬ (bkPk k ∧ a = p) → Y k a = bkKeep M p k a) (h33 : ∀ j : Nat, (j : Int) < M 58 0 0 → Y 33 p j = M 33 p j) (h36 : ∀ j : Nat, (j : Int) < M 58 0 1 → Y 36 p j = M 36 p j) (h61 : Y 61 0 = bkSn M) (h25 : Y 12 0 25 = if M 12 0 25 = 8 then 8 else M 12 0 25 + 1) (h12 : ∀ j, bkQj j → j ≠ 25 → Y 12 0 j = M 12 0 j) (hN : bkRel Y p (Y 58 0)) (h58 : ∀ j, (j < 80 ∨ 195 ≤ j) → Y 58 0 j = M 58 0 j) (hi : bkIcy Y) : bkInv Y := by
  obtain ⟨h1, h2, h3, h4, h5, h6, h7, h8, h9⟩ := h
  have hid := bkIds_p h1
  have e : ∀ k a, bkQk k a ∨ ((k = 10 ∨ k = 7) ∧ a = 0) → k ≠ 58 → k ≠ 61 → k ≠ 3 → ¬ (bkPk k ∧ (a = p ∨ (3 ≤ a ∧ a ≤ 10))) → Y k a = M k a := fun k a q w1 w2 w3 w4 => by
    rw [hY k a q w1 w2 fun z => w4 ⟨z.1, .inl z.2⟩]
    funext c
    unfold bkPk at w4
    exact bkKeep_p w3 (by omega) h5.2.1
  have e11 : Y 11 0 = M 11 0 := e 11 0 (by unfold bkQk; omega) (by decide) (by decide) (by decide) (by unfold bkPk; omega)
  have e10 : Y 10 0 = M 10 0 := e 10 0 (by omega) (by decide) (by decide) (by decide) (by unfold bkPk; omega)
  have e7 : Y 7 0 = M 7 0 := e 7 0 (by omega) (by decide) (by decide) (by decide) (by unfold bkPk; omega)
  have eo : ∀ k a, bkQk k a → k ≠ 58 → k ≠ 61 → k ≠ 3 → ¬ bkPk k → Y k a = M k a := fun k a q w1 w2 w3 w4 => e k a (.inl q) w1 w2 w3 fun z => w4 z.1
  have es : ∀ k a, bkSk k → Y k a = M k a := fun k a hk => by
    unfold bkSk at hk
    exact eo k a (by unfold bkQk; omega) (by omega) (by omega) (by omega) (by unfold bkPk; omega)
  have ei : ∀ k a, bkPk k → 11 ≤ a → Y k a = M k a := fun k a hk ha => by
    unfold bkPk at hk
    exact e k a (by unfold bkQk; omega) (by omega) (by omega) (by omega) (by omega)
  have l0 := h58 0 (by omega)
  have l1 := h58 1 (by omega)
  refine ⟨by unfold bkIds; rw [e11]; exact h1, bkTap_e h2 (eo _ _ (by unfold bkQk; omega) (by decide) (by decide) (by decide) (by unfold bkPk; omega)) (eo _ _ (by unfold bkQk; omega) (by decide) (by decide) (by decide) (by unfold bkPk; omega)) (eo _ _ (by unfold bkQk; omega) (by decide) (by decide) (by decide) (by unfold bkPk; omega)) (by rw [e10]) (h12 2 (by unfold bkQj; omega) (by decide)), by rw [e11, h12 10 (by unfold bkQj; omega) (by decide)]; exact h3, ?_, ?_, ?_, ?_, ?_, hi⟩
  · unfold bkNowI at *
    rw [e11, hp]
    rw [hp] at h4
    exact ⟨hN, bkNam_e h4.2.1 h33 h36 (eo _ _ (by unfold bkQk; omega) (by decide) (by decide) (by decide) (by unfold bkPk; omega)) l0 l1, bkSayI_e h4.2.2 (fun k hk => es k _ hk) (fun q hq => h58 q (by omega)) l0⟩
  · rw [e11, hp]
    rw [hp] at h5
    refine bkHis_keep (by omega) h5 (by rw [← hp]; exact h4.1) (hY 3 0 (by unfold bkQk; omega) (by decide) (by decide) (by unfold bkPk; omega)) (fun k b hk b0 b1 => ?_) h61 h25 (fun q hq => h58 q (by omega)) h33 h36
    unfold bkPk at hk
    exact hY k b (by unfold bkQk; omega) (by omega) (by omega) (by omega)
  · exact bkImg_e h6 (fun k hk => ei k _ hk (by omega)) (fun k hk => es k _ hk) (by rw [eo 4 0 (by unfold bkQk; omega) (by decide) (by decide) (by decide) (by unfold bkPk; omega)]) (by rw [eo 66 0 (by unfold bkQk; omega) (by decide) (by decide) (by decide) (by unfold bkPk; omega)]) (eo _ _ (by unfold bkQk; omega) (by decide) (by decide) (by decide) (by unfold bkPk; omega)) (eo _ _ (by unfold bkQk; omega) (by decide) (by decide) (by decide) (by unfold bkPk; omega))
  · exact bkImg_e h7 (fun k hk => ei k _ hk (by omega)) (fun k hk => es k _ hk) (by rw [eo 4 1 (by unfold bkQk; omega) (by decide) (by decide) (by decide) (by unfold bkPk; omega)]) (by rw [eo 66 0 (by unfold bkQk; omega) (by decide) (by decide) (by decide) (by unfold bkPk; omega)]) (eo _ _ (by unfold bkQk; omega) (by decide) (by decide) (by decide) (by unfold bkPk; omega)) (eo _ _ (by unfold bkQk; omega) (by decide) (by decide) (by decide) (by unfold bkPk; omega))
  · obtain ⟨r1, r2, r3, r4, r5, r6⟩ := h8
    have o : ∀ k, (k = 1 ∨ k = 2 ∨ k = 20 ∨ k = 21 ∨ k = 26 ∨ (40 ≤ k ∧ k ≤ 42) ∨ k = 56 ∨ k = 73 ∨ k = 74 ∨ k = 76 ∨ k = 78 ∨ k = 79 ∨ k = 82 ∨ k = 84) → Y k 0 = M k 0 := fun k hk => eo k 0 (by unfold bkQk; omega) (by omega) (by omega) (by omega) (by unfold bkPk; omega)
    exact ⟨bkR1_e r1 (by rw [e7]) (h12 _ (by unfold bkQj; omega) (by decide)) (o _ (by omega)) (o _ (by omega)), bkR2_e r2 (by rw [e7]) (h12 _ (by unfold bkQj; omega) (by decide)) (o _ (by omega)) (o _ (by omega)), bkR3_e r3 (by rw [e7]) (h12 _ (by unfold bkQj; omega) (by decide)) (o _ (by omega)) (o _ (by omega)), bkR4_e r4 (by rw [o 1 (by omega)]) (h12 _ (by unfold bkQj; omega) (by decide)) (o _ (by omega)) (o _ (by omega)) (o _ (by omega)) (o _ (by omega)), bkR5_e r5 (by rw [o 2 (by omega)]) (h12 _ (by unfold bkQj; omega) (by decide)) (o _ (by omega)) (o _ (by omega)), bkR6_e r6 (by rw [e11]) (h12 _ (by unfold bkQj; omega) (by decide)) (o _ (by omega)) (o _ (by omega))⟩
theorem bkInv_his {M : bk_M} (h : bkInv M) : bkHis M (M 11 0 1).toNat := h.2.2.2.2.1
theorem bkKeep_oo {M : bk_M} {p k a : Nat} (hk : k ≠ 3) (h : a < 3 ∨ ¬ bkPk k) : bkKeep M p k a = M k a := by
  funext c
  unfold bkPk at h
  exact bkKeep_o hk (by omega)
/-- a work on both sides -/
theorem bkInv_dug {M : bk_M} {p : Nat} {w s x y : Int} (h : bkInv M) (hp : (M 11 0 1).toNat = p) (hw : w = 0 ∨ w = 1) (hs : 0 ≤ s ∧ s ≤ 1) (hx : 0 ≤ x ∧ x < M 58 0 2) (hy : 0 ≤ y ∧ y < M 58 0 3) (h0 : bkWhyW (M 58 0) w s x y = 0) : bkInv (bkLivW (bkSnap (bk_up (bkWrk (bkKeep M p) p s (6 * y + x) (if w = 0 then -1 else 1)) 12 0 0 0)) w s x y) := by
  have hid := bkIds_p h.1
  have hN := bkInv_md h
  have n3 := hN.2.1
  have n2 := hN.1
  have hn := bkNow_dig (hp ▸ bkInv_now h) (by omega) hw hs hx hy h0
  generalize hX : bkWrk (bkKeep M p) p s (6 * y + x) (if w = 0 then -1 else 1) = X at *
  have x1 : ∀ k a, ¬ (bkPk k ∧ a = p) → X k a = bkKeep M p k a := fun k a q => by
    rw [← hX]
    funext c
    by_cases z : k = 28 ∨ k = 37 ∨ k = 38
    · have : a ≠ p := fun r => q ⟨by unfold bkPk; omega, r⟩
      unfold bkWrk
      rw [bk_up_ii this, bk_up_ii this, bk_up_ii this]
    · exact bkWrk_o (by omega)
  have x2 : ∀ k, k ≠ 3 → ¬ bkPk k → ∀ a, X k a = M k a := fun k k3 hk a => by rw [x1 k a fun q => hk q.1, bkKeep_oo k3 (.inr hk)]
  have y0 : ∀ k a, k ≠ 58 → k ≠ 61 → k ≠ 12 → bkLivW (bkSnap (bk_up X 12 0 0 0)) w s x y k a = X k a := fun k a w1 w2 w3 => by
    funext c
    rw [bkLivW_o w1, bkSnap_o w2 (by omega), bk_up_k w3]
  have sn : bkSn (bk_up X 12 0 0 0) = bkSn M := bkSn_congr (by rw [bk_up_s (by decide), x2 12 (by decide) (by unfold bkPk; omega)]) (by rw [bk_up_f (by decide), x2 61 (by decide) (by unfold bkPk; omega)]) (by rw [bk_up_f (by decide), x2 58 (by decide) (by unfold bkPk; omega)])
  have x12 : ∀ j, X 12 0 j = M 12 0 j := fun j => by rw [x2 12 (by decide) (by unfold bkPk; omega)]
  have x33 : X 33 p = M 33 p := by rw [← hX]; funext c; rw [bkWrk_o (by omega), bkKeep_oo (by decide) (.inl (by omega))]
  have x36 : X 36 p = M 36 p := by rw [← hX]; funext c; rw [bkWrk_o (by omega), bkKeep_oo (by decide) (.inl (by omega))]
  refine bkInv_keep h hp (fun k a q w1 w2 w3 => ?_) (fun j _ => by rw [y0 33 p (by decide) (by decide) (by decide), x33]) (fun j _ => by rw [y0 36 p (by decide) (by decide) (by decide), x36]) ?_ ?_ (fun j q q2 => ?_) (bkNow_rel hn) (fun j hj => ?_) ?_
  · rw [y0 k a w1 w2 (by unfold bkQk at q; omega), x1 k a w3]
  · funext c
    rw [bkLivW_o (by decide)]
    unfold bkSnap
    rw [if_pos ⟨rfl, rfl⟩, sn]
  · rw [bkLivW_o (by decide)]
    unfold bkSnap
    rw [if_neg (by decide), if_pos ⟨rfl, rfl, rfl⟩, bk_up_s (by decide), x12]
  · rw [bkLivW_o (by decide), bkSnap_o (by decide) (by omega), bk_up_s (by unfold bkQj at q; omega), x12]
  · unfold bkLivW
    rw [bk_up_s (by omega), bk_up_s (by omega), bk_up_s (by omega), bkSnap_o (by decide) (by omega), bk_up_k (by decide), x2 58 (by decide) (by unfold bkPk; omega)]
  · have := bkInv_icy h
    unfold bkIcy
    rw [y0 69 0 (by decide) (by decide) (by decide), x2 69 (by decide) (by unfold bkPk; omega)]
    exact this
theorem bkInv_rol {M : bk_M} {p : Nat} {m x y : Int} (h : bkInv M) (hp : (M 11 0 1).toNat = p) (hm : 0 ≤ m ∧ m < M 58 0 1) (hx : 0 ≤ x ∧ x < M 58 0 2) (hy : 0 ≤ y ∧ y < M 58 0 3) : bkInv (bkLivR (bkSnap (bk_up (bkRol (bkKeep M p) p m (6 * y + x)) 12 0 0 0)) m x y) := by
  have hid := bkIds_p h.1
  have hN := bkInv_md h
  have n6 := hN.2.2.2.2.2.1
  have hn := bkNow_rolled (hp ▸ bkInv_now h) (by omega) hm hx hy
  generalize hX : bkRol (bkKeep M p) p m (6 * y + x) = X at *
  have x1 : ∀ k a, ¬ (bkPk k ∧ a = p) → X k a = bkKeep M p k a := fun k a q => by
    rw [← hX]
    funext c
    by_cases z : k = 34 ∨ k = 35
    · have : a ≠ p := fun r => q ⟨by unfold bkPk; omega, r⟩
      unfold bkRol
      rw [bk_up_ii this, bk_up_ii this]
    · exact bkRol_o (by omega)
  have x2 : ∀ k, k ≠ 3 → ¬ bkPk k → ∀ a, X k a = M k a := fun k k3 hk a => by rw [x1 k a fun q => hk q.1, bkKeep_oo k3 (.inr hk)]
  have y0 : ∀ k a, k ≠ 58 → k ≠ 61 → k ≠ 12 → bkLivR (bkSnap (bk_up X 12 0 0 0)) m x y k a = X k a := fun k a w1 w2 w3 => by
    funext c
    rw [bkLivR_o w1, bkSnap_o w2 (by omega), bk_up_k w3]
  have sn : bkSn (bk_up X 12 0 0 0) = bkSn M := bkSn_congr (by rw [bk_up_s (by decide), x2 12 (by decide) (by unfold bkPk; omega)]) (by rw [bk_up_f (by decide), x2 61 (by decide) (by unfold bkPk; omega)]) (by rw [bk_up_f (by decide), x2 58 (by decide) (by unfold bkPk; omega)])
  have x12 : ∀ j, X 12 0 j = M 12 0 j := fun j => by rw [x2 12 (by decide) (by unfold bkPk; omega)]
  have x33 : X 33 p = M 33 p := by rw [← hX]; funext c; rw [bkRol_o (by omega), bkKeep_oo (by decide) (.inl (by omega))]
  have x36 : X 36 p = M 36 p := by rw [← hX]; funext c; rw [bkRol_o (by omega), bkKeep_oo (by decide) (.inl (by omega))]
  refine bkInv_keep h hp (fun k a q w1 w2 w3 => ?_) (fun j _ => by rw [y0 33 p (by decide) (by decide) (by decide), x33]) (fun j _ => by rw [y0 36 p (by decide) (by decide) (by decide), x36]) ?_ ?_ (fun j q q2 => ?_) (bkNow_rel hn) (fun j hj => ?_) ?_
  · rw [y0 k a w1 w2 (by unfold bkQk at q; omega), x1 k a w3]
  · funext c
    rw [bkLivR_o (by decide)]
    unfold bkSnap
    rw [if_pos ⟨rfl, rfl⟩, sn]
  · rw [bkLivR_o (by decide)]
    unfold bkSnap
    rw [if_neg (by decide), if_pos ⟨rfl, rfl, rfl⟩, bk_up_s (by decide), x12]
  · rw [bkLivR_o (by decide), bkSnap_o (by decide) (by omega), bk_up_s (by unfold bkQj at q; omega), x12]
  · unfold bkLivR
    rw [bk_up_s (by omega), bk_up_s (by omega), bk_up_s (by omega), bkSnap_o (by decide) (by omega), bk_up_k (by decide), x2 58 (by decide) (by unfold bkPk; omega)]
  · have := bkInv_icy h
    unfold bkIcy
    rw [y0 69 0 (by decide) (by decide) (by decide), x2 69 (by decide) (by unfold bkPk; omega)]
    exact this
theorem bkWrk_k {M : bk_M} {p : Nat} {s c ch : Int} {k a : Nat} (hk : k ≠ 3) (h : ¬ bkPk k) : bkWrk (bkKeep M p) p s c ch k a = M k a := by
  funext q
  unfold bkPk at h
  rw [bkWrk_o (by omega), bkKeep_oo hk (.inr (by unfold bkPk; omega))]
theorem bkRol_k {M : bk_M} {p : Nat} {m c : Int} {k a : Nat} (hk : k ≠ 3) (h : ¬ bkPk k) : bkRol (bkKeep M p) p m c k a = M k a := by
  funext q
  unfold bkPk at h
  rw [bkRol_o (by omega), bkKeep_oo hk (.inr (by unfold bkPk; omega))]
theorem bkInv_25 {M : bk_M} (h : bkInv M) : 0 ≤ M 12 0 25 ∧ M 12 0 25 ≤ 8 := by
  obtain ⟨a1, a2, a3, -⟩ := bkInv_his h
  omega
theorem T11 (s x y : Int) : bkStp 54 208 [bk_i s, bk_i x, bk_i y] := fun d M h => by
  have hid := bkIds_p h.1
  have hh := bkInv_his h
  rw [E_54]
  refine (S55 (d := d + 56) (w := 0) (bkInv_now h) (by omega) hh.1 hh.2.1 (.inl rfl)).2 ⟨rfl, rfl, ?_⟩
  by_cases z : bkDo (M 58 0) 0 s x y = 0
  · rw [if_pos z]
    have e58 : bkWrk (bkKeep M (M 11 0 1).toNat) (M 11 0 1).toNat s (6 * y + x) (if (0 : Int) = 0 then -1 else 1) 58 0 = M 58 0 := bkWrk_k (by decide) (by unfold bkPk; omega)
    have e12 : bkWrk (bkKeep M (M 11 0 1).toNat) (M 11 0 1).toNat s (6 * y + x) (if (0 : Int) = 0 then -1 else 1) 12 0 = M 12 0 := bkWrk_k (by decide) (by unfold bkPk; omega)
    refine (S208 (d := d + 54) (by rw [e58]; exact bkInv_md h) (by rw [e12]; exact bkInv_25 h)).2 ⟨rfl, by rw [e58], ?_⟩
    rw [e58, if_pos z]
    unfold bkDo at z
    by_cases c : 0 ≤ s ∧ s ≤ 1 ∧ 0 ≤ x ∧ x < M 58 0 2 ∧ 0 ≤ y ∧ y < M 58 0 3
    · rw [if_pos c] at z
      exact bkInv_dug h rfl (.inl rfl) ⟨c.1, c.2.1⟩ ⟨c.2.2.1, c.2.2.2.1⟩ c.2.2.2.2 z
    · rw [if_neg c] at z; exact absurd z (by decide)
  · rw [if_neg z]
    refine (S208 (d := d + 54) (bkInv_md h) (bkInv_25 h)).2 ⟨rfl, rfl, ?_⟩
    rw [if_neg z]
    exact bkInv_q h bkQt_mark
theorem T12 (s x y : Int) : bkStp 60 215 [bk_i s, bk_i x, bk_i y] := fun d M h => by
  have hid := bkIds_p h.1
  have hh := bkInv_his h
  rw [E_60]
  refine (S55 (d := d + 56) (w := 1) (bkInv_now h) (by omega) hh.1 hh.2.1 (.inr rfl)).2 ⟨rfl, rfl, ?_⟩
  by_cases z : bkDo (M 58 0) 1 s x y = 0
  · rw [if_pos z]
    have e58 : bkWrk (bkKeep M (M 11 0 1).toNat) (M 11 0 1).toNat s (6 * y + x) (if (1 : Int) = 0 then -1 else 1) 58 0 = M 58 0 := bkWrk_k (by decide) (by unfold bkPk; omega)
    have e12 : bkWrk (bkKeep M (M 11 0 1).toNat) (M 11 0 1).toNat s (6 * y + x) (if (1 : Int) = 0 then -1 else 1) 12 0 = M 12 0 := bkWrk_k (by decide) (by unfold bkPk; omega)
    refine (S215 (d := d + 54) (by rw [e58]; exact bkInv_md h) (by rw [e12]; exact bkInv_25 h)).2 ⟨rfl, by rw [e58], ?_⟩
    rw [e58, if_pos z]
    unfold bkDo at z
    by_cases c : 0 ≤ s ∧ s ≤ 1 ∧ 0 ≤ x ∧ x < M 58 0 2 ∧ 0 ≤ y ∧ y < M 58 0 3
    · rw [if_pos c] at z
      exact bkInv_dug h rfl (.inr rfl) ⟨c.1, c.2.1⟩ ⟨c.2.2.1, c.2.2.2.1⟩ c.2.2.2.2 z
    · rw [if_neg c] at z; exact absurd z (by decide)
  · rw [if_neg z]
    refine (S215 (d := d + 54) (bkInv_md h) (bkInv_25 h)).2 ⟨rfl, rfl, ?_⟩
    rw [if_neg z]
    exact bkInv_q h bkQt_mark
theorem T13 (m x y : Int) : bkStp 61 216 [bk_i m, bk_i x, bk_i y] := fun d M h => by
  have hid := bkIds_p h.1
  have hh := bkInv_his h
  refine (S61 (d := d + 57) (bkInv_now h) (by omega) hh.1 hh.2.1).2 ⟨rfl, ?_⟩
  by_cases z : bkDoR (M 58 0) m x y = 0
  · rw [if_pos z]
    have e58 : bkRol (bkKeep M (M 11 0 1).toNat) (M 11 0 1).toNat m (6 * y + x) 58 0 = M 58 0 := bkRol_k (by decide) (by unfold bkPk; omega)
    have e12 : bkRol (bkKeep M (M 11 0 1).toNat) (M 11 0 1).toNat m (6 * y + x) 12 0 = M 12 0 := bkRol_k (by decide) (by unfold bkPk; omega)
    refine (S216 (d := d + 54) (by rw [e58]; exact bkInv_md h) (by rw [e12]; exact bkInv_25 h)).2 ⟨rfl, by rw [e58], ?_⟩
    rw [e58, if_pos z]
    unfold bkDoR at z
    by_cases c : 0 ≤ m ∧ m < M 58 0 1 ∧ 0 ≤ x ∧ x < M 58 0 2 ∧ 0 ≤ y ∧ y < M 58 0 3
    · exact bkInv_rol h rfl ⟨c.1, c.2.1⟩ ⟨c.2.2.1, c.2.2.2.1⟩ c.2.2.2.2
    · rw [if_neg c] at z; exact absurd z (by decide)
  · rw [if_neg z]
    refine (S216 (d := d + 54) (bkInv_md h) (bkInv_25 h)).2 ⟨rfl, rfl, ?_⟩
    rw [if_neg z]
    exact bkInv_q h bkQt_mark
