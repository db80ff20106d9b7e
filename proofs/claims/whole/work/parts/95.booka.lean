/-! The reference lives a BOOK's line, and what was lived stays or goes. -/
theorem bkRw_same {M : bk_M} {N : Int → Int} (e : M 58 0 = N) : bkRw M N = M := by
  rw [← e]; exact bkRw_self M
def bkGz (N S : Int → Int) (j : Int) (M : bk_M) (r : Int) (M' : bk_M) : Prop := bkFr bkA219 M M' ∧ M' 58 0 = (bkGo N S j).2 ∧ r = (bkGo N S j).1 ∧ (∀ q, q ≠ 30 → M' 12 0 q = M 12 0 q) ∧ ∀ c, 0 ≤ c → c < 36 → M' 69 0 c = 0
theorem bkGz_i {N N' S : Int → Int} {j r : Int} {M M' : bk_M} (e : bkGo N S j = (r, N')) (f : bkFr bkA219 M M') (h : M' 58 0 = N') (g : ∀ q, q ≠ 30 → M' 12 0 q = M 12 0 q) (i : ∀ c, 0 ≤ c → c < 36 → M' 69 0 c = 0) : bkGz N S j M r M' := by
  unfold bkGz
  rw [e]
  exact ⟨f, h, rfl, g, i⟩
theorem S265c {d m : Nat} {M : bk_M} {N S : Int → Int} {j : Int} (hN : bkMd N) (h58 : M 58 0 = N) (hS : M 83 0 = S) (hm : N 1 = m) (hv : bkBw m S j) (hj : 0 ≤ j ∧ j < 40) (hi : ∀ c, 0 ≤ c → c < 36 → M 69 0 c = 0) : bk_C (d + 8) 0 265 [bk_c 12 0, bk_i (4 * j)] M (fun t r M' => t = 0 ∧ bkGz N S j M r M') := by
  obtain ⟨v1, v2, v3, v4⟩ := hv
  have n1 := hN.1
  have n2 := hN.2.1
  have n7 := hN.2.2.2.2.2.2.1
  have n6 := hN.2.2.2.2.2.1
  rw [E_265, hS]
  refine ⟨by unfold bk_r32; omega, by omega, by unfold bk_r32; omega, by omega, by unfold bk_r32; omega, by omega, by omega, fun k3 => ?_, fun k3 => ?_⟩
  · rw [S156 (by rw [h58]; exact n1) (by rw [h58]; exact n2), h58]
    refine ⟨rfl, ?_⟩
    by_cases hc : 0 ≤ S (4 * j + 2) ∧ S (4 * j + 2) < N 2 ∧ 0 ≤ S (4 * j + 3) ∧ S (4 * j + 3) < N 3
    · rw [if_pos hc]
      refine ⟨fun _ => ⟨by omega, ?_⟩, fun z => absurd (show (1 : Int) ≠ 0 by decide) z⟩
      have hcx : 0 ≤ S (4 * j + 2) ∧ S (4 * j + 2) < M 58 0 2 := by rw [h58]; exact ⟨hc.1, hc.2.1⟩
      have hcy : 0 ≤ S (4 * j + 3) ∧ S (4 * j + 3) < M 58 0 3 := by rw [h58]; exact hc.2.2
      by_cases k4 : S (4 * j) = 4
      · have eg : bkGo N S j = (if bkWhyR N (S (4 * j + 1)) (S (4 * j + 2)) (S (4 * j + 3)) = 0 then (0, bkRlN N (S (4 * j + 1)) (S (4 * j + 2)) (S (4 * j + 3))) else (40 + bkWhyR N (S (4 * j + 1)) (S (4 * j + 2)) (S (4 * j + 3)), N)) := by
          unfold bkGo
          rw [if_neg (by omega), if_pos hc, if_pos k4]
        have hb := bkWhyR_b N (S (4 * j + 1)) (S (4 * j + 2)) (S (4 * j + 3))
        have v3 := v3 k4
        rw [hS, k4, S210r (by rw [h58]; exact hN) (by rw [h58]; omega) hcx hcy, h58, hS]
        refine ⟨rfl, fun z => ⟨by omega, ?_⟩, fun z => ⟨by omega, by unfold bk_r32; omega, by unfold bk_r32; omega, rfl, ?_⟩⟩
        · rw [if_pos z] at eg
          rw [k4, S214r (by omega), bkLivR_rw, h58]
          exact ⟨rfl, rfl, bkGz_i eg (bkRw_fr (bkFr_refl _ _) (by unfold bkA219; omega)) bkRw_58 (fun q hq => by rw [bkRw_o (by omega)]) (fun c c0 c1 => by rw [bkRw_o (by omega)]; exact hi c c0 c1)⟩
        · rw [if_neg z] at eg
          exact bkGz_i (by rw [eg, k4]; rfl) (bkFr_refl _ _) h58 (fun q hq => rfl) hi
      · have kw : S (4 * j) = 0 ∨ S (4 * j) = 1 := by omega
        have eg : bkGo N S j = (if bkWhyW N (S (4 * j)) (S (4 * j + 1)) (S (4 * j + 2)) (S (4 * j + 3)) = 0 then (0, bkLwN N (S (4 * j)) (S (4 * j + 1)) (S (4 * j + 2)) (S (4 * j + 3))) else (10 * S (4 * j) + bkWhyW N (S (4 * j)) (S (4 * j + 1)) (S (4 * j + 2)) (S (4 * j + 3)), N)) := by
          unfold bkGo
          rw [if_neg (by omega), if_pos hc, if_neg k4]
        have hb := bkWhyW_b N (S (4 * j)) (S (4 * j + 1)) (S (4 * j + 2)) (S (4 * j + 3))
        have v2 := v2 (by omega)
        rw [hS, S210w (by rw [h58]; exact hN) kw v2 hcx hcy, h58, hS]
        refine ⟨rfl, fun z => ⟨by omega, ?_⟩, fun z => ⟨by omega, by unfold bk_r32; omega, by unfold bk_r32; omega, rfl, ?_⟩⟩
        · rw [if_pos z] at eg
          rw [S214w (by rw [h58]; exact hN) kw v2 hcx hcy, bkLivW_rw, h58]
          exact ⟨rfl, rfl, bkGz_i eg (bkRw_fr (bkFr_refl _ _) (by unfold bkA219; omega)) bkRw_58 (fun q hq => by rw [bkRw_o (by omega)]) (fun c c0 c1 => by rw [bkRw_o (by omega)]; exact hi c c0 c1)⟩
        · rw [if_neg z] at eg
          exact bkGz_i eg (bkFr_refl _ _) h58 (fun q hq => rfl) hi
    · rw [if_neg hc, hS]
      refine ⟨fun z => absurd rfl z, fun _ => ⟨by omega, by unfold bk_r32; omega, by unfold bk_r32; omega, rfl, ?_⟩⟩
      refine bkGz_i ?_ (bkFr_refl _ _) h58 (fun q hq => rfl) hi
      unfold bkGo
      rw [if_neg (by omega), if_neg hc]
  · have k3 : S (4 * j) = 3 := by omega
    have v4 := v4 k3
    rw [h58]
    refine ⟨by omega, by unfold bk_r32; omega, fun z => ?_, fun z => ⟨rfl, bkGz_i (by unfold bkGo; rw [if_pos k3, if_neg (by omega)]) (bkFr_refl _ _) h58 (fun q hq => rfl) hi⟩⟩
    refine bk_use (S225 (s := S (4 * j + 2)) (by rw [h58]; exact hN) (n := S (4 * j + 1)) (by omega) hi) (fun r M' hM' => ⟨rfl, rfl, ?_⟩)
    obtain ⟨f, e58, -, g, i⟩ := hM'
    rw [h58] at e58
    refine bkGz_i (N' := bkYrN N (S (4 * j + 2)) (S (4 * j + 1)).toNat) (by unfold bkGo; rw [if_pos k3, if_pos (by omega)]) f ?_ g i
    rw [e58]
    unfold bkCm
    rw [if_pos (by omega)]
theorem LG_266_2 {d : Nat} {Q : bk_Q} (x1 : Int) (x2 : Int) (v3 : bk_V) (M : bk_M) : bk_wp (bk_C d) P_266 Q 0 2 [bk_c 12 0, bk_i x1, bk_i x2, v3] [] M ↔ (((115 : Int) ≤ x2 → ((x1 ≠ (0 : Int) → bk_C d 0 213 [bk_c 12 0] M (fun t3 r1 M2 => t3 = 0 ∧ bk_C d 0 245 [bk_c 12 0] M2 (fun t6 r4 M5 => t6 = 0 ∧ Q 0 0 M5))) ∧ (¬ (x1 ≠ (0 : Int)) → Q 0 0 M))) ∧ (¬ ((115 : Int) ≤ x2) → bk_r32 ((80 : Int) + x2) ∧ ((0 : Int) ≤ (80 : Int) + x2 ∧ (80 : Int) + x2 < (437 : Int)) ∧ bk_r32 ((80 : Int) + x2) ∧ ((0 : Int) ≤ x2 ∧ x2 < (115 : Int)) ∧ ((0 : Int) ≤ (80 : Int) + x2 ∧ (80 : Int) + x2 < (437 : Int)) ∧ ∀ M7 : bk_M, M7 = bk_up M 58 0 ((80 : Int) + x2) (M 62 0 x2) → ((0 : Int) ≤ x2 ∧ x2 < (115 : Int)) ∧ ∀ M8 : bk_M, M8 = bk_up M7 62 0 x2 (M 58 0 ((80 : Int) + x2)) → bk_r32 (x2 + (1 : Int)) ∧ bk_wp (bk_C d) P_266 Q 0 2 [bk_c 12 0, bk_i x1, bk_i (x2 + (1 : Int)), bk_i (M 58 0 ((80 : Int) + x2))] [] M8)) := bk_iff [2] 40
def bkA266 (k a : Nat) : Prop := (k = 58 ∨ k = 61 ∨ k = 62 ∨ k = 12) ∧ a = 0
theorem S266c {d : Nat} {M : bk_M} {N N' : Int → Int} {x1 : Int} (h58 : M 58 0 = N') (h62 : ∀ c, 0 ≤ c → c < 115 → M 62 0 c = N (80 + c)) (hN : ∀ q, (q < 80 ∨ 195 ≤ q) → N' q = N q) (h25 : 0 ≤ M 12 0 25 ∧ M 12 0 25 ≤ 8) (Ms : bk_M) (hs : Ms 58 0 = N ∧ Ms 61 0 = M 61 0 ∧ Ms 12 0 25 = M 12 0 25) : bk_C (d + 2) 0 266 [bk_c 12 0, bk_i x1] M (fun t r M' => t = 0 ∧ bkFr bkA266 M M' ∧ (∀ q, q ≠ 25 → M' 12 0 q = M 12 0 q) ∧ (x1 = 0 → M' 58 0 = N ∧ M' 61 0 = M 61 0 ∧ M' 12 0 25 = M 12 0 25) ∧ (x1 ≠ 0 → M' 58 0 = N' ∧ M' 61 0 = bkSn Ms ∧ M' 12 0 25 = (if M 12 0 25 = 8 then 8 else M 12 0 25 + 1))) := by
  rw [E_266]
  have key := bk_loopS (W := fun k M1 => ∀ v3, bk_wp (bk_C (d + 1)) P_266 (fun t r M' => t = 0 ∧ bkFr bkA266 M M' ∧ (∀ q, q ≠ 25 → M' 12 0 q = M 12 0 q) ∧ (x1 = 0 → M' 58 0 = N ∧ M' 61 0 = M 61 0 ∧ M' 12 0 25 = M 12 0 25) ∧ (x1 ≠ 0 → M' 58 0 = N' ∧ M' 61 0 = bkSn Ms ∧ M' 12 0 25 = (if M 12 0 25 = 8 then 8 else M 12 0 25 + 1))) 0 2 [bk_c 12 0, bk_i x1, bk_i k, v3] [] M1) (s := 0) (n := 115)
    (fun k M1 => bkFr (fun k a => (k = 58 ∨ k = 62) ∧ a = 0) M M1 ∧ (∀ c, M1 58 0 c = if 80 ≤ c ∧ c < 80 + k then N c else N' c) ∧ (∀ c, 0 ≤ c → c < 115 → M1 62 0 c = if c < k then N' (80 + c) else N (80 + c))) (by omega) ?_ ?_ (M := M) ⟨bkFr_refl _ _, fun c => by rw [if_neg (by omega), h58], fun c c0 c1 => by rw [if_neg (by omega), h62 c c0 c1]⟩
  · exact key _
  · rintro k M1 k0 k1 ⟨F, e58, e62⟩ ih v3
    rw [LG_266_2]
    refine ⟨fun z => absurd z (by omega), fun _ => ⟨by unfold bk_r32; omega, by omega, by unfold bk_r32; omega, by omega, by omega, fun M7 e7 => ⟨by omega, fun M8 e8 => ⟨by unfold bk_r32; omega, ih M8 ⟨?_, fun c => ?_, fun c c0 c1 => ?_⟩ _⟩⟩⟩⟩
    · rw [e8, e7]; exact bkFr_up (bkFr_up F ⟨.inl rfl, rfl⟩) ⟨.inr rfl, rfl⟩
    · rw [e8, bk_up_k (by decide), e7, bk_up_w, e62 k k0 k1, if_neg (show ¬ k < k by omega), e58]
      by_cases w : c = 80 + k
      · rw [if_pos w, if_pos (by omega), w]
      · rw [if_neg w]
        by_cases w2 : 80 ≤ c ∧ c < 80 + k
        · rw [if_pos w2, if_pos (by omega)]
        · rw [if_neg w2, if_neg (by omega)]
    · rw [e8, bk_up_w, e58, if_neg (show ¬ (80 ≤ 80 + k ∧ 80 + k < 80 + k) by omega), e7, bk_up_k (by decide), e62 c c0 c1]
      by_cases w : c = k
      · rw [if_pos w, if_pos (by omega), w]
      · rw [if_neg w]
        by_cases w2 : c < k
        · rw [if_pos w2, if_pos (by omega)]
        · rw [if_neg w2, if_neg (by omega)]
  · rintro M1 ⟨F, e58, e62⟩ v3
    have g58 : M1 58 0 = N := by
      funext c
      rw [e58]
      by_cases w : 80 ≤ c ∧ c < 80 + 115
      · rw [if_pos w]
      · rw [if_neg w, hN c (by omega)]
    have g12 : M1 12 0 = M 12 0 := F 12 0 (by omega)
    have g61 : M1 61 0 = M 61 0 := F 61 0 (by omega)
    rw [LG_266_2]
    refine ⟨fun _ => ⟨fun z => ?_, fun z => ⟨rfl, bkFr_mono F fun k a w => ⟨by omega, w.2⟩, fun q _ => by rw [g12], fun _ => ⟨g58, g61, by rw [g12]⟩, fun w => absurd w z⟩⟩, fun z => absurd (Int.le_refl _) z⟩
    rw [S213 (by rw [g12]; exact h25)]
    refine ⟨rfl, ?_⟩
    rw [S245]
    have s58 : bkSnap M1 58 0 = N := by funext c; rw [bkSnap_o (by decide) (by omega), g58]
    have s62 : bkSnap M1 62 0 = M1 62 0 := by funext c; rw [bkSnap_o (by decide) (by omega)]
    refine ⟨rfl, rfl, ?_, fun q hq => ?_, fun w => absurd w z, fun _ => ⟨?_, ?_, ?_⟩⟩
    · refine bkRw_fr (fun k a hk => ?_) (by unfold bkA266; omega)
      funext c
      unfold bkSnap
      rw [if_neg (fun w => hk ⟨by omega, w.2⟩), if_neg (fun w => hk ⟨by omega, w.2.1⟩), F k a (fun w => hk ⟨by omega, w.2⟩)]
    · rw [bkRw_o (by omega), bkSnap_o (by decide) (by omega), g12]
    · rw [bkRw_58, s58, s62]
      funext c
      by_cases w : 80 ≤ c ∧ c < 195
      · rw [if_pos w, e62 _ (by omega) (by omega), if_pos (by omega), show 80 + (c - 80) = c by omega]
      · rw [if_neg w, hN c (by omega)]
    · rw [bkRw_o (by omega)]
      funext c
      unfold bkSnap
      rw [if_pos ⟨rfl, rfl⟩]
      unfold bkSn
      rw [g12, g58, g61, hs.1, hs.2.1, hs.2.2]
    · rw [bkRw_o (by omega)]
      unfold bkSnap
      rw [if_neg (by omega), if_pos ⟨rfl, rfl, rfl⟩, g12]
