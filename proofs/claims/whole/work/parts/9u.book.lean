/-! book. -/
theorem bkLvs_lo {m : Nat} {S : Int → Int} {n : Int} (hv : bkBv m S n) : ∀ (k : Nat) (j : Int) (N : Int → Int), 0 ≤ j → bkMd N → N 1 = m → ∀ q, (q < 80 ∨ 195 ≤ q) → (bkLvs S n k j N).2.2 q = N q
  | 0, j, N, _, _, _, q, _ => rfl
  | k + 1, j, N, h0, hN, hm, q, hq => by
    rw [bkLvs_s]
    by_cases z : n ≤ j
    · rw [if_pos z]
    · rw [if_neg z]
      obtain ⟨g1, g2⟩ := bkGo_md hN hm (hv j h0 (by omega))
      by_cases w : (bkGo N S j).1 = 0
      · rw [if_pos w, bkLvs_lo hv k (j + 1) _ (by omega) g1 (by rw [g2 1 (by omega)]; exact hm) q hq, g2 q hq]
      · rw [if_neg w]; exact g2 q hq
theorem S258t {d m : Nat} {M : bk_M} {T N : Int → Int} {c a : Int} {f : Int → Int} (hT : M 57 0 = T) (hc : M 12 0 2 = c) (hc2 : 0 ≤ c ∧ c ≤ 940) (ha : a = 0 ∨ a = 1) (h58 : M 58 0 = N) (hN : bkMd N) (hm : N 1 = m) (hf : ∀ j : Nat, j < m → bkNv (f j) ∧ M 63 0 (10 + j) = bkCv 7 (f j)) (hi : ∀ c, 0 ≤ c → c < 36 → M 69 0 c = 0) (h25 : 0 ≤ M 12 0 25 ∧ M 12 0 25 ≤ 8) :
    bk_C (d + 10) 0 258 [bk_c 12 0, bk_i a] M (fun t r M' => t = 0 ∧ bkFr bkA258 M M' ∧ (∀ j, ((14 ≤ j ∧ j ≠ 25 ∧ j ≠ 30 ∧ j ≠ 52 ∧ j ≠ 53) ∨ j = 1) → M' 12 0 j = M 12 0 j) ∧ M' 12 0 2 = 0 ∧ (∀ c, 0 ≤ c → c < 36 → M' 69 0 c = 0) ∧
      (∀ w q, bkBTx f m T c 400 41 0 (M 83 0) 0 = .inl (w, q) → r = -2 - q ∧ M' 12 0 10 = w ∧ bkFr bkRa M M' ∧ M' 12 0 25 = M 12 0 25 ∧ M' 12 0 53 = M 12 0 53) ∧
      (∀ n S, bkBTx f m T c 400 41 0 (M 83 0) 0 = .inr (n, S) → M' 12 0 10 = 0 ∧ bkBv m S n ∧ bkEz M N a (bkLvs S n 41 0 N) r M')) := by
  refine S258r (d := d + 2) (f := f) (m := m) hT hc hc2 ha (by rw [h58]; exact hm) (by have := hN.2.2.2.2.2.1; omega) hf (fun w q M' eO F o z0 z2 e1 e2 => ?_) (fun n S M' eO F o z0 z2 e1 hl hS hn hv => ?_)
  · have pb := bkBk_tx (f := f) (m := m) (T := T) (c := c) (L := 400) (by omega) hc2.2 41 0 0 (M 83 0) (by omega) (by omega) (fun j _ _ => by omega)
    have hq := pb.1 w q eO
    refine ⟨by unfold bk_r32; omega, rfl, bkFr_mono F fun k a z => by unfold bkRa at z; unfold bkA258; omega, fun j hj => o j (by omega), z2, fun c c0 c1 => by rw [F 69 0 (by unfold bkRa; omega)]; exact hi c c0 c1, fun w' q' e => ?_, fun n S e => by rw [eO] at e; cases e⟩
    rw [eO] at e
    cases e
    exact ⟨rfl, e1, F, o 25 (by omega), o 53 (by omega)⟩
  · have f58 : M' 58 0 = N := by rw [F 58 0 (by unfold bkRa; omega)]; exact h58
    refine bk_C_mono (d + 9) 0 244 _ M' _ _ (fun t r M2 q => ⟨q.1, bk_wp_mono (bk_C_mono (d + 9)) (fun t r M3 q => ?_) q.2⟩) (S258e (d := d) (Mo := M) hN f58 hS hl hn hm hv ha (fun c c0 c1 => by rw [F 69 0 (by unfold bkRa; omega)]; exact hi c c0 c1) (bkFr_mono F fun k a z => by unfold bkRa at z; unfold bkA258; omega) ⟨h58, F 61 0 (by unfold bkRa; omega), o 25 (by omega)⟩ h25)
    obtain ⟨q1, q2, q3, q4, q5⟩ := q
    refine ⟨q1, q2, fun j hj => by rw [q3 j (by omega) (by omega) (by omega), o j (by omega)], by rw [q3 2 (by decide) (by decide) (by decide), z2], q4, fun w q e => (by rw [eO] at e; cases e), fun n' S' e => ?_⟩
    rw [eO] at e
    cases e
    exact ⟨by rw [q3 10 (by decide) (by decide) (by decide), e1], hv, q5⟩
theorem T35 (a : Int) : bkStp 111 258 [bk_i a] := fun d M h => by
  have hid := bkIds_p h.1
  have hA := h.2.2.2.1
  have hN := bkInv_md h
  have n1 := hN.2.2.2.2.2.1
  have hR := bkInv_R h
  obtain ⟨t1, t2, t3, t4, t5⟩ := id (bkInv_tap h)
  unfold bkNowI at hA
  have hh := bkInv_his h
  by_cases ha : a = 0 ∨ a = 1
  · have S0 := M 83 0
    refine bk_use (S111c (d := d + 52) (m := (M 58 0 1).toNat) (S0 := M 83 0) rfl rfl t3 t5 hR rfl hid.1 (by omega) hh.1 hh.2.1 ha) (fun r M1 hM1 => ⟨rfl, ?_⟩)
    generalize hp : (M 11 0 1).toNat = p at *
    generalize hs : (M 11 0 7).toNat = s at *
    obtain ⟨z1, c1, c2⟩ := hM1
    -- what the class leaves in any case
    have F1 : bkFr (fun k b => bkA111 k b ∨ (k = 3 ∧ b = 0) ∨ ((k = 5 ∨ (28 ≤ k ∧ k ≤ 39)) ∧ (b = p ∨ (3 ≤ b ∧ b ≤ 10)))) M M1 := by
      rcases eO : bkBTx (M 36 p) (M 58 0 1).toNat (M 53 0) (M 10 0 1) 400 41 0 (M 83 0) 0 with ⟨w, q⟩ | ⟨n, S⟩
      · exact bkFr_mono (c1 w q eO).2.2.2 fun k b z => .inl (by unfold bkA111; rcases z with z | z; exact .inl z; exact .inr (.inl ⟨.inl z.1, z.2⟩))
      · obtain ⟨-, -, -, -, -, g1, g2⟩ := c2 n S eO
        by_cases z : a = 1 ∧ 0 < (bkLvs S n 41 0 (M 58 0)).2.1
        · exact (g2 z).2.2.2.2.2
        · exact bkFr_mono (g1 z) fun k b w => .inl w
    have u1 : ∀ k b, ¬ (k = 10 ∨ k = 0 ∨ (16 ≤ k ∧ k ≤ 19) ∨ k = 11 ∨ k = 56 ∨ k = 8 ∨ (45 ≤ k ∧ k ≤ 48) ∨ k = 3) → ¬ (bkPk k ∧ (b = 2 ∨ b = p ∨ (3 ≤ b ∧ b ≤ 10))) → M1 k b = M k b := fun k b w1 w2 => by
      unfold bkPk at w2
      exact F1 k b (by unfold bkA111 bkBa; omega)
    have e58 : M1 58 0 = M 58 0 := u1 58 0 (by omega) (by unfold bkPk; omega)
    have f12 : ∀ j, M1 12 0 j = M 12 0 j := fun j => by rw [u1 12 0 (by omega) (by unfold bkPk; omega)]
    refine bk_use (S258t (d := d + 50) (m := (M 58 0 1).toNat) (T := M 53 0) (N := M 58 0) (c := M 10 0 1) (f := M 36 p) (by rw [u1 57 0 (by omega) (by unfold bkPk; omega)]; exact t1.symm) (by rw [f12]; exact t2.symm) t3 ha e58 hN (by omega) (fun j hj => by rw [u1 63 0 (by omega) (by unfold bkPk; omega)]; exact hA.2.1.2 j (by omega)) (fun c c0 c1 => by rw [u1 69 0 (by omega) (by unfold bkPk; omega)]; exact bkInv_icy h c c0 c1) (by rw [f12]; exact bkInv_25 h)) (fun r2 Y hY => ⟨rfl, ?_⟩)
    obtain ⟨F2, o2, y2, yi, d1, d2⟩ := hY
    have e83 : M1 83 0 = M 83 0 := u1 83 0 (by omega) (by unfold bkPk; omega)
    rw [e83] at d1 d2
    have y12 : ∀ j, ((14 ≤ j ∧ j ≠ 25 ∧ j ≠ 30 ∧ j ≠ 52 ∧ j ≠ 53) ∨ j = 1) → Y 12 0 j = M 12 0 j := fun j hj => by rw [o2 j hj, f12]
    have uY : ∀ k b, ¬ (k = 10 ∨ k = 0 ∨ (16 ≤ k ∧ k ≤ 19) ∨ k = 11 ∨ k = 56 ∨ k = 8 ∨ (45 ≤ k ∧ k ≤ 48) ∨ k = 3 ∨ k = 12 ∨ k = 58 ∨ k = 61 ∨ k = 62 ∨ (69 ≤ k ∧ k ≤ 71) ∨ k = 83 ∨ k = 84) → ¬ (bkPk k ∧ (b = 2 ∨ b = p ∨ (3 ≤ b ∧ b ≤ 10))) → Y k b = M k b := fun k b w1 w2 => by
      rw [F2 k b (by unfold bkA258; omega), u1 k b (by omega) w2]
    have y1 : ∀ k b, ¬ (k = 12 ∨ k = 58 ∨ k = 61 ∨ k = 62 ∨ (69 ≤ k ∧ k ≤ 71) ∨ k = 83 ∨ k = 84) → Y k b = M1 k b := fun k b w => F2 k b (by unfold bkA258; omega)
    have ob : ∀ i, (i = 1 ∨ i = 2 ∨ i = 4 ∨ i = 7 ∨ i = 20 ∨ i = 21 ∨ i = 26 ∨ (40 ≤ i ∧ i ≤ 42) ∨ (49 ≤ i ∧ i ≤ 54) ∨ i = 57 ∨ i = 60 ∨ i = 63 ∨ i = 65 ∨ i = 66 ∨ (72 ≤ i ∧ i ≤ 82)) → ∀ b, Y i b = M i b := fun i hi b => uY i b (by omega) (by unfold bkPk; omega)
    have pl : ∀ i b, bkPk i → 11 ≤ b → Y i b = M i b := fun i b hi hb => by
      have hi' := hi
      unfold bkPk at hi'
      exact uY i b (by omega) (by omega)
    have sk : ∀ i b, bkSk i → Y i b = M i b := fun i b hi => by
      unfold bkSk at hi
      exact uY i b (by omega) (by unfold bkPk; omega)
    have tap : bkTap Y := bkTap_0 (bkInv_tap h) (ob _ (by omega) 0) (ob _ (by omega) 0) (ob _ (by omega) 0) (by rw [y1 10 0 (by omega), z1]) y2
    have im0 : bkImg Y 0 := bkImg_e h.2.2.2.2.2.1 (fun i hi => pl i _ hi (by omega)) (fun i hi => sk i _ hi) (by rw [ob 4 (by omega)]) (by rw [ob 66 (by omega)]) (ob _ (by omega) 0) (ob _ (by omega) 0)
    have im1 : bkImg Y 1 := bkImg_e h.2.2.2.2.2.2.1 (fun i hi => pl i _ hi (by omega)) (fun i hi => sk i _ hi) (by rw [ob 4 (by omega)]) (by rw [ob 66 (by omega)]) (ob _ (by omega) 0) (ob _ (by omega) 0)
    have res : bkR6 Y → bkRes Y := fun e6 => by
      obtain ⟨r1, r2, r3, r4, r5, r6⟩ := bkInv_res' h
      exact ⟨bkR1_e r1 (by rw [ob 7 (by omega)]) (y12 _ (by omega)) (ob _ (by omega) 0) (ob _ (by omega) 0), bkR2_e r2 (by rw [ob 7 (by omega)]) (y12 _ (by omega)) (ob _ (by omega) 0) (ob _ (by omega) 0), bkR3_e r3 (by rw [ob 7 (by omega)]) (y12 _ (by omega)) (ob _ (by omega) 0) (ob _ (by omega) 0), bkR4_e r4 (by rw [ob 1 (by omega)]) (y12 _ (by omega)) (ob _ (by omega) 0) (ob _ (by omega) 0) (ob _ (by omega) 0) (ob _ (by omega) 0), bkR5_e r5 (by rw [ob 2 (by omega)]) (y12 _ (by omega)) (ob _ (by omega) 0) (ob _ (by omega) 0), e6⟩
    rcases eO : bkBTx (M 36 p) (M 58 0 1).toNat (M 53 0) (M 10 0 1) 400 41 0 (M 83 0) 0 with ⟨w, q⟩ | ⟨n, S⟩
    · obtain ⟨a1, a2, a3, a4⟩ := c1 w q eO
      obtain ⟨b1, b2, b3, b4, b5⟩ := d1 w q eO
      have w1 : ∀ k b, ¬ (k = 10 ∨ k = 0 ∨ (16 ≤ k ∧ k ≤ 19) ∨ k = 11 ∨ k = 12 ∨ k = 83) → Y k b = M k b := fun k b z => by rw [b3 k b (by unfold bkRa; omega), a4 k b (by unfold bkBa; omega)]
      have v11 : ∀ j, j ≠ 16 → Y 11 0 j = M 11 0 j := fun j hj => by rw [y1 11 0 (by omega), a3 j hj]
      refine ⟨by rw [a1, b1], ?_, tap, by rw [y1 11 0 (by omega), a2, b2], ?_, ?_, im0, im1, res (bkR6_e (bkInv_res' h).2.2.2.2.2 (v11 15 (by decide)) (by rw [b5, f12]) (w1 56 0 (by omega)) (w1 84 0 (by omega))), yi⟩
      · unfold bkIds; rw [v11 1 (by decide), v11 2 (by decide), v11 7 (by decide), v11 8 (by decide)]; exact h.1
      · unfold bkNowI
        rw [v11 1 (by decide), v11 7 (by decide), hp, hs]
        exact bkAllP_e hA (fun i hi => w1 i p (by unfold bkPk at hi; omega)) (fun i hi => sk i s hi) (w1 63 0 (by omega)) (w1 58 0 (by omega))
      · rw [v11 1 (by decide), hp]
        exact bkHis_e hh (fun i b hi b0 b1 => w1 i b (by unfold bkPk at hi; omega)) (fun g _ => by rw [w1 33 p (by omega)]) (fun g _ => by rw [w1 36 p (by omega)]) (w1 3 0 (by omega)) (w1 61 0 (by omega)) (by rw [b4, f12]) (fun q _ => by rw [w1 58 0 (by omega)])
    · obtain ⟨a1, a2, a3, a4, a5, g1, g2⟩ := c2 n S eO
      obtain ⟨b1, hv, b3, b4, k1, k2⟩ := d2 n S eO
      have lo := bkLvs_lo (m := (M 58 0 1).toNat) hv 41 0 (M 58 0) (Int.le_refl _) hN (by omega)
      generalize hW : bkLvs S n 41 0 (M 58 0) = W at *
      have v11 : ∀ j, j ≠ 15 → j ≠ 16 → Y 11 0 j = M 11 0 j := fun j h1 h2 => by rw [y1 11 0 (by omega), a4 j h1 h2]
      have r6 : bkR6 Y := by
        obtain ⟨p0, p1, p2, p3⟩ := a5
        obtain ⟨q0, q1, q2, q3, q4⟩ := b4
        refine ⟨by rw [y1 11 0 (by omega), a3, q4], fun _ k k0 k1 => ?_⟩
        rw [y1 56 0 (by omega)]
        have hk : k = 0 ∨ k = 1 ∨ k = 2 ∨ k = 3 := by omega
        rcases hk with rfl | rfl | rfl | rfl
        · rw [p0, q0]
        · rw [p1, q1]
        · rw [p2, q2]
        · rw [p3, q3]
      refine ⟨by rw [a1, b3], ?_, tap, by rw [y1 11 0 (by omega), a2, b1], ?_, ?_, im0, im1, res r6, yi⟩
      · unfold bkIds; rw [v11 1 (by decide) (by decide), v11 2 (by decide) (by decide), v11 7 (by decide) (by decide), v11 8 (by decide) (by decide)]; exact h.1
      · unfold bkNowI
        rw [v11 1 (by decide) (by decide), v11 7 (by decide) (by decide), hp, hs]
        by_cases z : a = 1 ∧ 0 < W.2.1
        · obtain ⟨R, x33, x36, -⟩ := g2 z
          obtain ⟨l58, -⟩ := k2 z
          obtain ⟨RA, Nm, Sy⟩ := hA
          have n0 := hN.2.2.2.2.1
          refine ⟨by rw [l58]; exact bkRel_fr R fun i hi => y1 i p (by omega), bkNam_e Nm (fun j hj => by rw [y1 33 p (by omega), x33 j (by omega) (by omega)]) (fun j hj => by rw [y1 36 p (by omega), x36 j (by omega) (by omega)]) (ob _ (by omega) 0) (by rw [l58, lo 0 (by omega)]) (by rw [l58, lo 1 (by omega)]), bkSayI_e Sy (fun i hi => sk i s hi) (fun q hq => by rw [l58, lo q (by omega)]) (by rw [l58, lo 0 (by omega)])⟩
        · obtain ⟨l58, -⟩ := k1 z
          have G := g1 z
          exact bkAllP_e hA (fun i hi => by unfold bkPk at hi; rw [y1 i p (by omega), G i p (by unfold bkA111 bkBa; omega)]) (fun i hi => sk i s hi) (ob _ (by omega) 0) l58
      · rw [v11 1 (by decide) (by decide), hp]
        by_cases z : a = 1 ∧ 0 < W.2.1
        · obtain ⟨R, x33, x36, x3, xk, -⟩ := g2 z
          obtain ⟨l58, l61, l25⟩ := k2 z
          have n0 := hN.2.2.2.2.1
          refine bkHis_keep (by omega) hh hR (by rw [y1 3 0 (by omega), x3]) (fun k b hk b0 b1 => by unfold bkPk at hk; rw [y1 k b (by omega), xk k b b0 b1]) (by rw [l61, bkSn_congr (f12 25) (u1 61 0 (by omega) (by unfold bkPk; omega)) e58]) (by rw [l25, f12]) (fun q hq => by rw [l58, lo q (by omega)]) (fun g hg => by rw [y1 33 p (by omega), x33 g (by omega) (by omega)]) (fun g hg => by rw [y1 36 p (by omega), x36 g (by omega) (by omega)])
        · obtain ⟨l58, l61, l25⟩ := k1 z
          have G := g1 z
          have o : ∀ k b, bkPk k → b ≠ 2 → Y k b = M k b := fun k b hk hb => by
            unfold bkPk at hk
            rw [y1 k b (by omega), G k b (by unfold bkA111 bkBa; omega)]
          exact bkHis_e hh (fun k b hk b0 b1 => o k b hk (by omega)) (fun g _ => by rw [o 33 p (.inr (by omega)) (by omega)]) (fun g _ => by rw [o 36 p (.inr (by omega)) (by omega)]) (by rw [y1 3 0 (by omega), G 3 0 (by unfold bkA111 bkBa; omega)]) (by rw [l61, u1 61 0 (by omega) (by unfold bkPk; omega)]) (by rw [l25, f12]) (fun q _ => by rw [l58])
  · rw [E_111]
    refine ⟨fun z => absurd (.inl z) ha, fun _ => ⟨fun z => absurd (.inr z) ha, fun _ => ⟨rfl, ?_⟩⟩⟩
    rw [E_258]
    intro N1 g1
    rw [S157 (d := d + 58), if_neg (by omega)]
    exact ⟨rfl, fun q => absurd rfl q, fun _ => ⟨rfl, rfl, by rw [g1]; exact bkInv_q h bkQt_mark⟩⟩
