/-! shares of the reference; odds of both. -/
def bkATryN (k a : Nat) : Prop := (k = 12 ∨ k = 58 ∨ k = 62 ∨ k = 69 ∨ k = 70 ∨ k = 71) ∧ a = 0
/-- what stays of the reference behind a try -/
def bkTryN (M M' : bk_M) : Prop := bkFr bkATryN M M' ∧ (∀ j, j ≠ 0 → j ≠ 30 → M' 12 0 j = M 12 0 j) ∧ ∀ c, 0 ≤ c → c < 36 → M' 69 0 c = 0
theorem bkBack_row {N R A : Int → Int} (hA : ∀ c, 0 ≤ c → c < 115 → A c = N (80 + c)) (hR : ∀ j, (j < 80 ∨ 195 ≤ j) → R j = N j) : (fun j => if 80 ≤ j ∧ j < 195 then A (j - 80) else R j) = N := by
  funext j
  by_cases z : 80 ≤ j ∧ j < 195
  · rw [if_pos z, hA (j - 80) (by omega) (by omega), show 80 + (j - 80) = j by omega]
  · rw [if_neg z, hR j (by omega)]
theorem L243_64 {d : Nat} {Q : bk_Q} {s m n x a i : Int} {M M0 : bk_M} {N : Int → Int} (hN : bkMd N) (e58 : M 58 0 = N) (hm : 1 ≤ m ∧ m ≤ 10) (hi : 0 ≤ i ∧ i < 30) (h12 : M 12 0 30 = x) (hF : bkTryN M0 M) (hA : ∀ c, 0 ≤ c → c < 115 → M 62 0 c = N (80 + c)) (b : Int)
    (hQ : ∀ M' v7, bkTryN M0 M' → M' 58 0 = N → (∀ c, 0 ≤ c → c < 115 → M' 62 0 c = N (80 + c)) → bk_wp (bk_C (d + 7)) P_243 Q 0 46 [bk_c 12 0, bk_i s, bk_i m, bk_i n, bk_i a, bk_i (bkShY N x s (bkCm N m).toNat b), bk_i (i + 1), v7] [] M') :
    bk_wp (bk_C (d + 7)) P_243 Q 0 64 [bk_c 12 0, bk_i s, bk_i m, bk_i n, bk_i a, bk_i b, bk_i i, bk_i 0] [] M := by
  have n7 := hN.2.2.2.2.2.2.1
  have hc : 0 ≤ bkCm N m ∧ bkCm N m ≤ m ∧ bkCm N m ≤ 400 - N 80 ∧ (bkCm N m = m ∨ bkCm N m = 400 - N 80) := by unfold bkCm; split <;> omega
  refine bk_loopS (W := fun k M1 => bk_wp (bk_C (d + 7)) P_243 Q 0 64 [bk_c 12 0, bk_i s, bk_i m, bk_i n, bk_i a, bk_i (bkShY N x s k.toNat b), bk_i i, bk_i k] [] M1) (s := 0) (n := bkCm N m)
    (fun k M1 => bkTryN M0 M1 ∧ M1 58 0 = bkYrN N x k.toNat ∧ M1 12 0 30 = bkYrX N x k.toNat ∧ ∀ c, 0 ≤ c → c < 115 → M1 62 0 c = N (80 + c)) (by omega) ?_ ?_ (M := M) ⟨hF, e58, ?_, hA⟩
  · rintro k M1 h0 h1 ⟨F, R, e, A⟩ ih
    obtain ⟨i1, i2, i3⟩ := bkYrN_b hN x k.toNat (by omega)
    obtain ⟨j1, j2, j3⟩ := bkYrN_b hN x (k.toNat + 1) (by omega)
    rw [L_243_64, R]
    unfold bk_r32
    refine ⟨fun z => absurd z (by omega), fun _ => ⟨by omega, fun z => absurd z (by omega), fun _ => ?_⟩⟩
    refine bk_use (S219 (d := d + 1) (by rw [R]; exact i1) (by rw [R]; omega) e) ?_
    rintro r M2 ⟨F2, R2, -, f12, f30, I2⟩
    have R3 : M2 58 0 = bkYrN N x (k.toNat + 1) := by rw [R2, R]; rfl
    refine ⟨rfl, ?_⟩
    rw [S204 (d := d + 3) (by rw [R3]; exact j1)]
    refine ⟨rfl, ?_⟩
    have e5 := fun Q : bk_Q => @S205s (d + 5) Q s M2 (by rw [R3]; exact j1)
    unfold bkFld at e5
    rw [e5, R3]
    refine ⟨rfl, by omega, ?_⟩
    have ih := ih M2 ⟨⟨bkFr_trans F.1 (bkFr_mono F2 fun k a w => ?_), fun j q1 q2 => ?_, I2⟩, ?_, ?_, fun c q1 q2 => ?_⟩
    · rw [show (k + 1).toNat = k.toNat + 1 by omega] at ih
      exact ih
    · unfold bkA219 at w; unfold bkATryN; omega
    · rw [f12 j q2]; exact F.2.1 j q1 q2
    · rw [show (k + 1).toNat = k.toNat + 1 by omega]; exact R3
    · rw [show (k + 1).toNat = k.toNat + 1 by omega, ← bkYrX_s, f30, R, i3 2 (by omega), i3 3 (by omega)]
    · rw [F2 62 0 (by unfold bkA219; omega)]; exact A c q1 q2
  · rintro M1 ⟨F, R, e, A⟩
    obtain ⟨i1, i2, i3⟩ := bkYrN_b hN x (bkCm N m).toNat (by omega)
    have key : bk_C (d + 7) 0 245 [bk_c 12 0] M1 (fun t3 r1 M2 => t3 = 0 ∧ bk_r32 (i + 1) ∧ bk_wp (bk_C (d + 7)) P_243 Q 0 46 [bk_c 12 0, bk_i s, bk_i m, bk_i n, bk_i a, bk_i (bkShY N x s (bkCm N m).toNat b), bk_i (i + 1), bk_i (bkCm N m)] [] M2) := by
      rw [S245, bkBack_row A (fun j hj => by rw [R]; exact i3 j hj)]
      unfold bk_r32
      refine ⟨rfl, by omega, hQ _ _ ⟨bkRw_fr F.1 (by unfold bkATryN; omega), fun j q1 q2 => ?_, fun c q1 q2 => ?_⟩ bkRw_58 fun c q1 q2 => ?_⟩
      · rw [bkRw_o (by decide)]; exact F.2.1 j q1 q2
      · rw [bkRw_o (by decide)]; exact F.2.2 c q1 q2
      · rw [bkRw_o (by decide)]; exact A c q1 q2
    rw [L_243_64, R]
    exact ⟨fun _ => key, fun z => ⟨by omega, fun _ => key, fun w => absurd w (by omega)⟩⟩
  · rw [h12, show (0 : Int).toNat = 0 by rfl, bkYrX_0]
theorem S243 {d : Nat} {s m n x : Int} {M : bk_M} (hN : bkMd (M 58 0)) (hI : ∀ c, 0 ≤ c → c < 36 → M 69 0 c = 0) :
    bk_C (d + 8) 0 243 [bk_c 12 0, bk_i s, bk_i m, bk_i n, bk_i x] M (fun t r M' => t = 0 ∧ bkTryN M M' ∧ M' 58 0 = M 58 0 ∧ r = bkShr (M 58 0) s m n x) := by
  rw [E_243]
  intro M1 hM1
  have e58 : M1 58 0 = M 58 0 := by rw [hM1, bk_up_f (by decide)]
  have F1 : bkTryN M M1 := by
    refine ⟨by rw [hM1]; exact bkFr_up (bkFr_refl _ _) (by unfold bkATryN; omega), fun j q1 q2 => by rw [hM1, bk_up_s q1], fun c q1 q2 => by rw [hM1, bk_up_f (by decide)]; exact hI c q1 q2⟩
  have hbad : ¬ (0 ≤ s ∧ s ≤ 1 ∧ 1 ≤ m ∧ m ≤ 10 ∧ 1 ≤ n ∧ n ≤ 30) → bkShr (M 58 0) s m n x = -1 := fun w => if_neg w
  rw [S157]
  by_cases hs : 0 ≤ s ∧ s ≤ 1
  · rw [if_pos hs]
    refine ⟨rfl, fun z => absurd z (by decide), fun _ => ?_⟩
    rw [S157]
    by_cases hm : 1 ≤ m ∧ m ≤ 10
    · rw [if_pos hm]
      refine ⟨rfl, fun z => absurd z (by decide), fun _ => ?_⟩
      rw [S157]
      by_cases hn : 1 ≤ n ∧ n ≤ 30
      · rw [if_pos hn, S244]
        refine ⟨rfl, fun _ => ⟨rfl, ?_⟩, fun z => absurd (by decide) z⟩
        have hr : bkShr (M 58 0) s m n x = bkShO (M 58 0) x s m n.toNat := if_pos ⟨hs.1, hs.2, hm.1, hm.2, hn⟩
        rw [hr]
        have key := bk_loopS (W := fun i M1 => ∀ v7, bk_wp (bk_C (d + 7)) P_243 (fun t r M' => t = 0 ∧ bkTryN M M' ∧ M' 58 0 = M 58 0 ∧ r = bkShO (M 58 0) x s m n.toNat) 0 46 [bk_c 12 0, bk_i s, bk_i m, bk_i n, bk_i x, bk_i (bkShO (M 58 0) x s m i.toNat), bk_i i, v7] [] M1) (s := 0) (n := n)
          (fun i M1 => bkTryN M M1 ∧ M1 58 0 = M 58 0 ∧ ∀ c, 0 ≤ c → c < 115 → M1 62 0 c = M 58 0 (80 + c)) (by omega) ?_ ?_ (M := bkFill M1 62 0 0 115 fun c => M1 58 0 (80 + c)) ⟨⟨?_, ?_, ?_⟩, ?_, ?_⟩
        · exact key _
        · rintro i M2 h0 h1 ⟨F, R, A⟩ ih v7
          rw [LG_243_46]
          refine ⟨fun w => absurd w (by omega), fun _ => ?_⟩
          intro M3 hM3
          refine L243_64 (d := d) hN (N := M 58 0) (M0 := M) (by rw [hM3, bk_up_f (by decide), R]) hm (by omega) (x := bk_w32 (x + i)) (by rw [hM3, bk_up_e]) ⟨?_, fun j q1 q2 => ?_, fun c q1 q2 => ?_⟩ (fun c q1 q2 => ?_) _ ?_
          · rw [hM3]; exact bkFr_up F.1 (by unfold bkATryN; omega)
          · rw [hM3, bk_up_s q2]; exact F.2.1 j q1 q2
          · rw [hM3, bk_up_f (by decide)]; exact F.2.2 c q1 q2
          · rw [hM3, bk_up_f (by decide)]; exact A c q1 q2
          · intro M' v7 F' R' A'
            have ih := ih M' ⟨F', R', A'⟩ v7
            rw [show (i + 1).toNat = i.toNat + 1 by omega] at ih
            have e : bkShO (M 58 0) x s m (i.toNat + 1) = bkShY (M 58 0) (bk_w32 (x + i)) s (bkCm (M 58 0) m).toNat (bkShO (M 58 0) x s m i.toNat) := by
              show bkShY (M 58 0) (bk_w32 (x + (i.toNat : Nat))) s _ _ = _
              rw [Int.toNat_of_nonneg h0]
            rw [e] at ih
            exact ih
        · rintro M2 ⟨F, R, A⟩ v7
          rw [LG_243_46]
          exact ⟨fun _ => ⟨rfl, F, R, rfl⟩, fun w => absurd (Int.le_refl _) w⟩
        · intro k a z
          rw [bkFill_o (by unfold bkATryN at z; omega)]
          exact F1.1 k a z
        · intro j q1 q2
          rw [bkFill_o (by omega)]; exact F1.2.1 j q1 q2
        · intro c q1 q2
          rw [bkFill_o (by omega)]; exact F1.2.2 c q1 q2
        · rw [bkFill_o (by omega), e58]
        · intro c q1 q2
          unfold bkFill
          rw [if_pos (by omega), e58, Int.sub_zero]
      · rw [if_neg hn]
        exact ⟨rfl, fun z => absurd rfl z, fun _ => ⟨rfl, F1, e58, (hbad (fun w => hn w.2.2.2.2)).symm⟩⟩
    · rw [if_neg hm]
      exact ⟨rfl, fun _ => ⟨rfl, F1, e58, (hbad (fun w => hm ⟨w.2.2.1, w.2.2.2.1⟩)).symm⟩, fun z => absurd rfl z⟩
  · rw [if_neg hs]
    exact ⟨rfl, fun _ => ⟨rfl, F1, e58, (hbad (fun w => hs ⟨w.1, w.2.1⟩)).symm⟩, fun z => absurd rfl z⟩
def bkOd (N : Int → Int) (f s m x : Int) : Int → Int := fun i => if bkWho (bkYrN N (bk_w32 (x + i)) (bkCm N m).toNat) f = s then 1 else 0
def bkOdds (N : Int → Int) (f s m n x : Int) : Int := if 0 ≤ f ∧ f < N 0 ∧ 0 ≤ s ∧ s ≤ 2 ∧ 1 ≤ m ∧ m ≤ 10 ∧ 1 ≤ n ∧ n ≤ 30 then bkSum (bkOd N f s m x) n.toNat else -1
theorem bkOd_b (N : Int → Int) (f s m x i : Int) : 0 ≤ bkOd N f s m x i ∧ bkOd N f s m x i ≤ 1 := by
  unfold bkOd; split <;> omega
theorem S77 {d p : Nat} {Q : bk_Q} {f : Int} {M : bk_M} (hp : (M 11 0 1).toNat = p) : bk_C (d + 1) 0 77 [bk_c 11 0, bk_i f] M Q ↔ Q 0 (if 0 ≤ f ∧ f < M 5 p 6 then 1 else 0) M := by
  rw [E_77, hp]
  grind
theorem bkBank_rel {M : bk_M} {p : Nat} {N : Int → Int} (h : bkRel M p N) {f : Int} (h0 : 0 ≤ f) (h1 : f < N 0) : bkBank (M 29 p) (M 30 p f) = bkWho N f ∧ 0 ≤ M 30 p f ∧ M 30 p f < 36 := by
  have hN := bkRel_md h
  obtain ⟨n1, n2, n3, n4, n5, n6, n7, n8, n9, n10, -⟩ := hN
  obtain ⟨-, ⟨b1, b2, b3, b4, b5, b6, b7⟩, ⟨-, -, -, c4, -⟩⟩ := h
  have q := b7 f h0 (by omega)
  have q2 := n10 f h0 h1
  rw [q.1]
  refine ⟨?_, by omega, by omega⟩
  rw [bkBank_side (by omega) (by omega), c4 _ (by omega) (by omega)]
  rfl
theorem S103 {d p : Nat} {f s m n x : Int} {M : bk_M} {N : Int → Int} (hR : bkRel M p N) (hp : (M 11 0 1).toNat = p) (hp2 : p < 2) :
    bk_C (d + 7) 0 103 [bk_c 11 0, bk_i f, bk_i s, bk_i m, bk_i n, bk_i x] M (fun t r M' => t = 0 ∧ bkFr bkATry M M' ∧ r = bkOdds N f s m n x) := by
  have hN := bkRel_md hR
  have n0 := hN.2.2.2.2.1
  have n7 := hN.2.2.2.2.2.2.1
  have hbad : ¬ (0 ≤ f ∧ f < N 0 ∧ 0 ≤ s ∧ s ≤ 2 ∧ 1 ≤ m ∧ m ≤ 10 ∧ 1 ≤ n ∧ n ≤ 30) → bkOdds N f s m n x = -1 := fun w => if_neg w
  rw [E_103, S77 hp, hR.2.1.1]
  by_cases hf : 0 ≤ f ∧ f < N 0
  · rw [if_pos hf]
    refine ⟨rfl, fun z => absurd z (by decide), fun _ => ⟨fun z => ⟨rfl, bkFr_refl _ _, (hbad (by omega)).symm⟩, fun z1 => ⟨fun z => ⟨rfl, bkFr_refl _ _, (hbad (by omega)).symm⟩, fun z2 => ?_⟩⟩⟩
    rw [S92]
    refine ⟨rfl, fun z => ?_, fun z => ?_⟩
    · by_cases hm : 1 ≤ m ∧ m ≤ 10 ∧ 1 ≤ n ∧ n ≤ 30
      · have hr : bkOdds N f s m n x = bkSum (bkOd N f s m x) n.toNat := if_pos ⟨hf.1, hf.2, by omega, by omega, hm⟩
        rw [hr]
        have hc : 0 ≤ bkCm N m ∧ bkCm N m ≤ m ∧ bkCm N m ≤ 400 - N 80 := by unfold bkCm; split <;> omega
        refine bk_loopS (W := fun i M1 => bk_wp (bk_C (d + 6)) P_103 (fun t r M' => t = 0 ∧ bkFr bkATry M M' ∧ r = bkSum (bkOd N f s m x) n.toNat) 0 34 [bk_c 11 0, bk_i f, bk_i s, bk_i m, bk_i n, bk_i x, bk_i (bkSum (bkOd N f s m x) i.toNat), bk_i i] [] M1) (s := 0) (n := n)
          (fun i M1 => bkFr bkATry M M1) (by omega) ?_ ?_ (M := M) (bkFr_refl _ _)
        · rintro i M1 h0 h1 F ih
          have e11 : M1 11 0 = M 11 0 := F 11 0 (by unfold bkATry; omega)
          have R1 : bkRel M1 p N := bkRel_fr hR fun k hk => F k p (by unfold bkATry; omega)
          have hs := bkSum_s (bkOd N f s m x) h0
          have hsb := bkSum_le (g := bkOd N f s m x) (c := 1) (n := i.toNat) (fun k _ => bkOd_b N f s m x k)
          obtain ⟨i1, i2, i3⟩ := bkYrN_b hN (bk_w32 (x + i)) (bkCm N m).toNat (by omega)
          rw [L_103_34, e11, hp, S58 (by omega)]
          refine ⟨fun w => absurd w (by omega), fun _ => ⟨rfl, ?_⟩⟩
          intro M4 hM4
          have F4 : bkFr bkATry M M4 := by
            rw [hM4]
            refine bkFr_up (bkFr_trans F (bkFr_mono (bkCopy_fr _ _ _) fun k a w => ?_)) (by unfold bkATry; omega)
            unfold bkACopy at w; unfold bkATry; omega
          have R4 : bkRel M4 2 N := by
            refine bkRel_fr (bkRel_copy (i := 2) R1) fun k hk => ?_
            rw [hM4, bk_up_f (by omega)]
          refine bk_use (S70 (d := d + 1) (s := bk_w32 (x + i)) R4 (by omega) (by rw [hM4, bk_up_e])) ?_
          rintro r M6 ⟨F6, R6, -, -⟩
          have hb := bkBank_rel R6 hf.1 (by rw [i3 0 (by omega)]; exact hf.2)
          rw [S41 (.inl rfl) hb.2.1 hb.2.2, hb.1]
          have F7 : bkFr bkATry M M6 := bkFr_trans F4 (bkFr_mono F6 fun k a w => by unfold bkA65 at w; unfold bkATry; omega)
          have ih := ih M6 F7
          unfold bk_r32
          refine ⟨rfl, by omega, rfl, fun w => ⟨by omega, ?_⟩, fun w => ⟨by omega, by omega, ?_⟩⟩
          · have e : bkOd N f s m x i = 0 := if_neg w
            rw [hs, e, Int.add_zero] at ih
            exact ih
          · have e : bkOd N f s m x i = 1 := if_pos (Decidable.not_not.1 w)
            rw [hs, e] at ih
            exact ih
        · rintro M1 F
          rw [L_103_34]
          exact ⟨fun _ => ⟨rfl, F, rfl⟩, fun w => absurd (Int.le_refl _) w⟩
      · rw [if_neg hm] at z
        exact absurd rfl z
    · have hm : ¬ (1 ≤ m ∧ m ≤ 10 ∧ 1 ≤ n ∧ n ≤ 30) := fun hm => by rw [if_pos hm] at z; exact z (by decide)
      exact ⟨rfl, bkFr_refl _ _, (hbad (fun w => hm w.2.2.2.2)).symm⟩
  · rw [if_neg hf]
    exact ⟨rfl, fun _ => ⟨rfl, bkFr_refl _ _, (hbad (fun w => hf ⟨w.1, w.2.1⟩)).symm⟩, fun z => absurd rfl z⟩
theorem S246 {d : Nat} {f s m n x : Int} {M : bk_M} (hN : bkMd (M 58 0)) (hI : ∀ c, 0 ≤ c → c < 36 → M 69 0 c = 0) :
    bk_C (d + 8) 0 246 [bk_c 12 0, bk_i f, bk_i s, bk_i m, bk_i n, bk_i x] M (fun t r M' => t = 0 ∧ bkTryN M M' ∧ M' 58 0 = M 58 0 ∧ r = bkOdds (M 58 0) f s m n x) := by
  rw [E_246]
  intro M1 hM1
  have n7 := hN.2.2.2.2.2.2.1
  have e58 : M1 58 0 = M 58 0 := by rw [hM1, bk_up_f (by decide)]
  have F1 : bkTryN M M1 := by
    refine ⟨by rw [hM1]; exact bkFr_up (bkFr_refl _ _) (by unfold bkATryN; omega), fun j q1 q2 => by rw [hM1, bk_up_s q1], fun c q1 q2 => by rw [hM1, bk_up_f (by decide)]; exact hI c q1 q2⟩
  have hbad : ¬ (0 ≤ f ∧ f < M 58 0 0 ∧ 0 ≤ s ∧ s ≤ 2 ∧ 1 ≤ m ∧ m ≤ 10 ∧ 1 ≤ n ∧ n ≤ 30) → bkOdds (M 58 0) f s m n x = -1 := fun w => if_neg w
  rw [S192 (by rw [e58]; exact hN), e58]
  by_cases hf : 0 ≤ f ∧ f < M 58 0 0
  · rw [if_pos hf]
    refine ⟨rfl, fun z => absurd z (by decide), fun _ => ?_⟩
    rw [S157]
    by_cases hs : 0 ≤ s ∧ s ≤ 2
    · rw [if_pos hs]
      refine ⟨rfl, fun z => absurd z (by decide), fun _ => ?_⟩
      rw [S157]
      by_cases hm : 1 ≤ m ∧ m ≤ 10
      · rw [if_pos hm]
        refine ⟨rfl, fun z => absurd z (by decide), fun _ => ?_⟩
        rw [S157]
        by_cases hn : 1 ≤ n ∧ n ≤ 30
        · rw [if_pos hn, S244]
          refine ⟨rfl, fun _ => ⟨rfl, ?_⟩, fun z => absurd (by decide) z⟩
          have hr : bkOdds (M 58 0) f s m n x = bkSum (bkOd (M 58 0) f s m x) n.toNat := if_pos ⟨hf.1, hf.2, hs.1, hs.2, hm.1, hm.2, hn⟩
          rw [hr]
          have hc : 0 ≤ bkCm (M 58 0) m ∧ bkCm (M 58 0) m ≤ m ∧ bkCm (M 58 0) m ≤ 400 - M 58 0 80 := by unfold bkCm; split <;> omega
          refine bk_loopS (W := fun i M1 => bk_wp (bk_C (d + 7)) P_246 (fun t r M' => t = 0 ∧ bkTryN M M' ∧ M' 58 0 = M 58 0 ∧ r = bkSum (bkOd (M 58 0) f s m x) n.toNat) 0 55 [bk_c 12 0, bk_i f, bk_i s, bk_i m, bk_i n, bk_i x, bk_i (bkSum (bkOd (M 58 0) f s m x) i.toNat), bk_i i] [] M1) (s := 0) (n := n)
            (fun i M1 => bkTryN M M1 ∧ M1 58 0 = M 58 0 ∧ ∀ c, 0 ≤ c → c < 115 → M1 62 0 c = M 58 0 (80 + c)) (by omega) ?_ ?_ (M := bkFill M1 62 0 0 115 fun c => M1 58 0 (80 + c)) ⟨⟨?_, ?_, ?_⟩, ?_, ?_⟩
          · rintro i M2 h0 h1 ⟨F, R, A⟩ ih
            have hs := bkSum_s (bkOd (M 58 0) f s m x) h0
            have hsb := bkSum_le (g := bkOd (M 58 0) f s m x) (c := 1) (n := i.toNat) (fun k _ => bkOd_b (M 58 0) f s m x k)
            obtain ⟨i1, i2, i3⟩ := bkYrN_b hN (bk_w32 (x + i)) (bkCm (M 58 0) m).toNat (by omega)
            rw [L_246_55]
            refine ⟨fun w => absurd w (by omega), fun _ => ?_⟩
            refine bk_use (S225 (d := d) (s := bk_w32 (x + i)) (by rw [R]; exact hN) (by omega) F.2.2) ?_
            rintro r M3 ⟨F3, R3, -, f12, I3⟩
            rw [R] at R3
            refine ⟨rfl, ?_⟩
            have bk := bkBack_row (N := M 58 0) (A := M3 62 0) (R := M3 58 0) (fun c q1 q2 => by rw [F3 62 0 (by unfold bkA219; omega)]; exact A c q1 q2) (fun j hj => by rw [R3]; exact i3 j hj)
            rw [S194 (d := d + 4) (by rw [R3]; exact i1) hf.1 (by rw [R3, i3 0 (by omega)]; exact hf.2), R3]
            rw [R3] at bk
            have F4 : bkTryN M (bkRw M3 (M 58 0)) := by
              refine ⟨bkRw_fr (bkFr_trans F.1 (bkFr_mono F3 fun k a w => by unfold bkA219 at w; unfold bkATryN; omega)) (by unfold bkATryN; omega), fun j q1 q2 => ?_, fun c q1 q2 => ?_⟩
              · rw [bkRw_o (by decide), f12 j q2]; exact F.2.1 j q1 q2
              · rw [bkRw_o (by decide)]; exact I3 c q1 q2
            have ih := ih _ ⟨F4, bkRw_58, fun c q1 q2 => by rw [bkRw_o (by decide), F3 62 0 (by unfold bkA219; omega)]; exact A c q1 q2⟩
            unfold bk_r32
            refine ⟨rfl, fun w => ?_, fun w => ⟨by omega, ?_⟩⟩
            · rw [S245, R3, bk]
              refine ⟨rfl, by omega, ?_⟩
              have e : bkOd (M 58 0) f s m x i = 0 := if_neg w
              rw [hs, e, Int.add_zero] at ih
              exact ih
            · rw [S245, R3, bk]
              refine ⟨rfl, by omega, ?_⟩
              have e : bkOd (M 58 0) f s m x i = 1 := if_pos (Decidable.not_not.1 w)
              rw [hs, e] at ih
              exact ih
          · rintro M2 ⟨F, R, A⟩
            rw [L_246_55]
            exact ⟨fun _ => ⟨rfl, F, R, rfl⟩, fun w => absurd (Int.le_refl _) w⟩
          · intro k a z
            rw [bkFill_o (by unfold bkATryN at z; omega)]
            exact F1.1 k a z
          · intro j q1 q2
            rw [bkFill_o (by omega)]; exact F1.2.1 j q1 q2
          · intro c q1 q2
            rw [bkFill_o (by omega)]; exact F1.2.2 c q1 q2
          · rw [bkFill_o (by omega), e58]
          · intro c q1 q2
            unfold bkFill
            rw [if_pos (by omega), e58, Int.sub_zero]
        · rw [if_neg hn]
          exact ⟨rfl, fun z => absurd rfl z, fun _ => ⟨rfl, F1, (by first | exact e58 | rfl), (hbad (fun w => hn w.2.2.2.2.2.2)).symm⟩⟩
      · rw [if_neg hm]
        exact ⟨rfl, fun _ => ⟨rfl, F1, (by first | exact e58 | rfl), (hbad (fun w => hm ⟨w.2.2.2.2.1, w.2.2.2.2.2.1⟩)).symm⟩, fun z => absurd rfl z⟩
    · rw [if_neg hs]
      exact ⟨rfl, fun _ => ⟨rfl, F1, (by first | exact e58 | rfl), (hbad (fun w => hs ⟨w.2.2.1, w.2.2.2.1⟩)).symm⟩, fun z => absurd rfl z⟩
  · rw [if_neg hf]
    exact ⟨rfl, fun _ => ⟨rfl, F1, (by first | exact e58 | rfl), (hbad (fun w => hf ⟨w.1, w.2.1⟩)).symm⟩, fun z => absurd rfl z⟩
