/-! tempted: the reference. -/
theorem LG_231_36 {d : Nat} {Q : bk_Q} (x1 : Int) (x2 : Int) (x3 : Int) (x4 : Int) (v5 : bk_V) (M : bk_M) : bk_wp (bk_C d) P_231 Q 0 36 [bk_c 12 0, bk_i x1, bk_i x2, bk_i x3, bk_i x4, v5] [] M ↔ (((3 : Int) < x4 → Q 0 (-1 : Int) M) ∧ (¬ ((3 : Int) < x4) → bk_C d 0 232 [bk_c 12 0, bk_i (0 : Int), bk_i x4, bk_i (0 : Int), bk_i x1, bk_i x2, bk_i x3] M (fun t3 r1 M2 => t3 = 0 ∧ ((r1 ≠ (0 : Int) → ∀ M4 : bk_M, M4 = bk_up M2 12 0 (33 : Int) x4 → bk_wp (bk_C d) P_231 Q 0 68 [bk_c 12 0, bk_i x1, bk_i x2, bk_i x3, bk_i x4, bk_i (0 : Int)] [] M4) ∧ (¬ (r1 ≠ (0 : Int)) → bk_r32 (x4 + (1 : Int)) ∧ bk_wp (bk_C d) P_231 Q 0 36 [bk_c 12 0, bk_i x1, bk_i x2, bk_i x3, bk_i (x4 + (1 : Int)), v5] [] M2))))) := bk_iff [36, 68] 40
theorem LG_232_30 {d : Nat} {Q : bk_Q} (x1 : Int) (x2 : Int) (x3 : Int) (x4 : Int) (x5 : Int) (x6 : Int) (x7 : Int) (v8 : bk_V) (v9 : bk_V) (v10 : bk_V) (v11 : bk_V) (M : bk_M) : bk_wp (bk_C d) P_232 Q 0 30 [bk_c 12 0, bk_i x1, bk_i x2, bk_i x3, bk_i x4, bk_i x5, bk_i x6, bk_i x7, v8, v9, v10, v11] [] M ↔ (((36 : Int) ≤ x7 → ((0 : Int) = 0 ∨ (0 : Int) = 1) ∧ Q 0 (0 : Int) M) ∧ (¬ ((36 : Int) ≤ x7) → ((0 : Int) ≤ x7 ∧ (0 : Int) < (6 : Int)) ∧ ((0 : Int) ≤ x7 ∧ (0 : Int) < (6 : Int)) ∧ bk_C d 0 156 [bk_c 12 0, bk_i (x7 % (6 : Int)), bk_i (x7 / (6 : Int))] M (fun t3 r1 M2 => t3 = 0 ∧ ((r1 = (0 : Int) → bk_r32 (x7 + (1 : Int)) ∧ bk_wp (bk_C d) P_232 Q 0 30 [bk_c 12 0, bk_i x1, bk_i x2, bk_i x3, bk_i x4, bk_i x5, bk_i x6, bk_i (x7 + (1 : Int)), bk_i (x7 % (6 : Int)), bk_i (x7 / (6 : Int)), v10, v11] [] M2) ∧ (¬ (r1 = (0 : Int)) → bk_C d 0 212 [bk_c 12 0, bk_i x6, bk_i x5, bk_i (x7 % (6 : Int)), bk_i (x7 / (6 : Int))] M2 (fun t6 r4 M5 => t6 = 0 ∧ ((r4 ≠ (0 : Int) → ((x6 ≠ (0 : Int) → bk_r32 ((85 : Int) + x7) ∧ ((0 : Int) ≤ (85 : Int) + x7 ∧ (85 : Int) + x7 < (437 : Int)) ∧ bk_r32 ((M5 58 0 ((85 : Int) + x7)) + (1 : Int)) ∧ ((0 : Int) ≤ (85 : Int) + x7 ∧ (85 : Int) + x7 < (437 : Int)) ∧ ∀ M7 : bk_M, M7 = bk_up M5 58 0 ((85 : Int) + x7) ((M5 58 0 ((85 : Int) + x7)) + (1 : Int)) → ((0 : Int) ≤ x1 ∧ x1 < (3 : Int)) ∧ ∀ M8 : bk_M, M8 = bk_up M7 72 0 x1 x7 → bk_r32 (x1 + (1 : Int)) ∧ bk_r32 (x7 + (1 : Int)) ∧ bk_C d 0 232 [bk_c 12 0, bk_i (x1 + (1 : Int)), bk_i x2, bk_i (x7 + (1 : Int)), bk_i x4, bk_i x5, bk_i x6] M8 (fun t11 r9 M10 => t11 = 0 ∧ bk_r32 ((85 : Int) + x7) ∧ ((0 : Int) ≤ (85 : Int) + x7 ∧ (85 : Int) + x7 < (437 : Int)) ∧ bk_r32 ((M10 58 0 ((85 : Int) + x7)) - (1 : Int)) ∧ ((0 : Int) ≤ (85 : Int) + x7 ∧ (85 : Int) + x7 < (437 : Int)) ∧ ∀ M12 : bk_M, M12 = bk_up M10 58 0 ((85 : Int) + x7) ((M10 58 0 ((85 : Int) + x7)) - (1 : Int)) → ((r9 = (0 : Int) → bk_r32 (x7 + (1 : Int)) ∧ bk_wp (bk_C d) P_232 Q 0 30 [bk_c 12 0, bk_i x1, bk_i x2, bk_i x3, bk_i x4, bk_i x5, bk_i x6, bk_i (x7 + (1 : Int)), bk_i (x7 % (6 : Int)), bk_i (x7 / (6 : Int)), bk_i (1 : Int), bk_i r9] [] M12) ∧ (¬ (r9 = (0 : Int)) → ((1 : Int) = 0 ∨ (1 : Int) = 1) ∧ Q 0 (1 : Int) M12)))) ∧ (¬ (x6 ≠ (0 : Int)) → bk_r32 ((85 : Int) + x7) ∧ ((0 : Int) ≤ (85 : Int) + x7 ∧ (85 : Int) + x7 < (437 : Int)) ∧ bk_r32 ((M5 58 0 ((85 : Int) + x7)) + (-1 : Int)) ∧ ((0 : Int) ≤ (85 : Int) + x7 ∧ (85 : Int) + x7 < (437 : Int)) ∧ ∀ M13 : bk_M, M13 = bk_up M5 58 0 ((85 : Int) + x7) ((M5 58 0 ((85 : Int) + x7)) + (-1 : Int)) → ((0 : Int) ≤ x1 ∧ x1 < (3 : Int)) ∧ ∀ M14 : bk_M, M14 = bk_up M13 72 0 x1 x7 → bk_r32 (x1 + (1 : Int)) ∧ bk_r32 (x7 + (1 : Int)) ∧ bk_C d 0 232 [bk_c 12 0, bk_i (x1 + (1 : Int)), bk_i x2, bk_i (x7 + (1 : Int)), bk_i x4, bk_i x5, bk_i x6] M14 (fun t17 r15 M16 => t17 = 0 ∧ bk_r32 ((85 : Int) + x7) ∧ ((0 : Int) ≤ (85 : Int) + x7 ∧ (85 : Int) + x7 < (437 : Int)) ∧ bk_r32 ((M16 58 0 ((85 : Int) + x7)) - (-1 : Int)) ∧ ((0 : Int) ≤ (85 : Int) + x7 ∧ (85 : Int) + x7 < (437 : Int)) ∧ ∀ M18 : bk_M, M18 = bk_up M16 58 0 ((85 : Int) + x7) ((M16 58 0 ((85 : Int) + x7)) - (-1 : Int)) → ((r15 = (0 : Int) → bk_r32 (x7 + (1 : Int)) ∧ bk_wp (bk_C d) P_232 Q 0 30 [bk_c 12 0, bk_i x1, bk_i x2, bk_i x3, bk_i x4, bk_i x5, bk_i x6, bk_i (x7 + (1 : Int)), bk_i (x7 % (6 : Int)), bk_i (x7 / (6 : Int)), bk_i (-1 : Int), bk_i r15] [] M18) ∧ (¬ (r15 = (0 : Int)) → ((1 : Int) = 0 ∨ (1 : Int) = 1) ∧ Q 0 (1 : Int) M18)))))) ∧ (¬ (r4 ≠ (0 : Int)) → bk_r32 (x7 + (1 : Int)) ∧ bk_wp (bk_C d) P_232 Q 0 30 [bk_c 12 0, bk_i x1, bk_i x2, bk_i x3, bk_i x4, bk_i x5, bk_i x6, bk_i (x7 + (1 : Int)), bk_i (x7 % (6 : Int)), bk_i (x7 / (6 : Int)), v10, v11] [] M5)))))))) := bk_iff [30] 40
def bkToldR (r : Int) (T : Int → Int) (acc : List Int) : Option (List Int) → Prop
  | none => r = 0
  | some l => r = 1 ∧ ∀ i : Nat, i < (acc ++ l).length → T i = (acc ++ l).getD i 0 % 36
def bkA232 (k a : Nat) : Prop := (k = 58 ∨ k = 70 ∨ k = 71 ∨ k = 72) ∧ a = 0
/-- one work more on the row -/
theorem bkRL_up {N : Int → Int} {acc : List Int} {w : Int} (hw : 0 ≤ w % 36 ∧ w % 36 < 36) : (fun j => if j = 85 + w % 36 then bkRL N acc (85 + w % 36) + bkWk w else bkRL N acc j) = bkRL N (acc ++ [w]) := by
  funext j
  rw [← bkRL_app]
  by_cases e : j = 85 + w % 36
  · rw [if_pos e, e, bkRL_c (N := bkRL N acc) (by omega) (by omega)]
    show _ = _ + ((if w % 36 = w % 36 then bkWk w else 0) + 0)
    rw [if_pos rfl]
    omega
  · rw [if_neg e]
    by_cases z : 85 ≤ j ∧ j < 121
    · have ej : j = 85 + (j - 85) := by omega
      rw [ej, bkRL_c (N := bkRL N acc) (by omega) (by omega)]
      show _ = _ + ((if j - 85 = w % 36 then bkWk w else 0) + 0)
      rw [if_neg (by omega)]
      omega
    · rw [bkRL_o (N := bkRL N acc) z]
theorem bkRL_dn {N : Int → Int} {acc : List Int} {w : Int} (hw : 0 ≤ w % 36 ∧ w % 36 < 36) : (fun j => if j = 85 + w % 36 then bkRL N (acc ++ [w]) (85 + w % 36) - bkWk w else bkRL N (acc ++ [w]) j) = bkRL N acc := by
  rw [← bkRL_up hw]
  funext j
  dsimp only
  by_cases e : j = 85 + w % 36
  · rw [if_pos e, if_pos rfl, e]; omega
  · rw [if_neg e, if_neg e]
theorem bkDl_past {acc : List Int} {c0 c : Int} (h : ∀ v, v ∈ acc → v % 36 < c0) (hc : c0 ≤ c) : bkDl acc c = 0 := bkDl_none fun w hw e => by have := h w hw; omega
theorem bkMay_past {N : Int → Int} {acc : List Int} {s w : Int} (h : ∀ v, v ∈ acc → v % 36 < w % 36) (hw : 0 ≤ w % 36 ∧ w % 36 < 36) : bkMay (bkRL N acc) s w = bkMay N s w := by
  unfold bkMay
  rw [bkRL_o (j := 2) (by omega), bkRL_o (j := 3) (by omega), bkRL_bed (by omega), bkRL_c hw.1 hw.2, bkDl_past h (Int.le_refl _), Int.add_zero]
theorem bk_up_row {M : bk_M} {R R' : Int → Int} {j v : Int} (h : M 58 0 = R) (h2 : (fun c => if c = j then v else R c) = R') : bk_up M 58 0 j v 58 0 = R' := by
  rw [← h2]
  funext c
  rw [bk_up_w, h]
theorem S232 {N : Int → Int} {f s u : Int} (hN : bkMd N) (hf : 0 ≤ f ∧ f < N 0) (hs : 0 ≤ s ∧ s ≤ 1) (hu : u = 0 ∨ u = 1) : ∀ (m d : Nat) (acc : List Int) (fr : Int) (M : bk_M),
    M 58 0 = bkRL N acc → (∀ c, 0 ≤ c → c < 36 → M 69 0 c = 0) → acc.length + m ≤ 3 → 0 ≤ fr → fr ≤ 36 → (∀ v, v ∈ acc → v % 36 < fr) → (∀ l, l.Sublist (bkCd (fun w => bkMay N s w) (36 * u + 36) (36 - fr).toNat) → bkLeg N (acc ++ l)) →
    (∀ i : Nat, i < acc.length → M 72 0 i = acc.getD i 0 % 36) →
    bk_C (d + m + 6) 0 232 [bk_c 12 0, bk_i acc.length, bk_i ((acc.length + m : Nat) : Int), bk_i fr, bk_i f, bk_i s, bk_i u] M (fun t r M' => t = 0 ∧ bkFr bkA232 M M' ∧ M' 58 0 = bkRL N acc ∧ (∀ i : Nat, i < acc.length → M' 72 0 i = acc.getD i 0 % 36) ∧ bkToldR r (M' 72 0) acc ((bkCmb (bkCd (fun w => bkMay N s w) (36 * u + 36) (36 - fr).toNat) m).find? fun l => bkTs N f s (acc ++ l))) := by
  intro m
  induction m with
  | zero =>
    intro d acc fr M h58 hI hlen hfr0 hfr hpast hL hpk
    have hacc : bkLeg N acc := by have := hL [] (List.nil_sublist _); rwa [List.append_nil] at this
    have hNL := bkMd_RL hN hacc
    obtain ⟨n1, n2, n3, n4, n5, n6, n7, n8, n9, n10, -⟩ := id hN
    have q := n10 f hf.1 hf.2
    rw [E_232]
    refine ⟨fun z => absurd (by omega) z, fun _ => ?_⟩
    refine bk_use (S153z (d := d) (by rw [h58]; exact hNL) hI) ?_
    rintro r M2 ⟨F, hr, B⟩
    have e58 : M2 58 0 = bkRL N acc := by rw [F 58 0 (by unfold bkA153; omega), h58]
    rw [h58] at B
    have hb : bkSide (M2 58 0 (42 + f)) (M2 71 0 (M2 58 0 (52 + f))) = bkSide (N (42 + f)) (bkWould (bkRL N acc) (N (52 + f))) := by
      rw [e58, bkRL_o (j := 42 + f) (by omega), bkRL_o (j := 52 + f) (by omega), B _ (by omega) (by rw [bkRL_o (by omega)]; omega)]
    rw [S222 (d := d + 3) (by rw [e58]; exact bkMd_w hNL) hf.1 (by rw [e58, bkRL_o (by omega)]; exact hf.2), hb]
    have F' : bkFr bkA232 M M2 := bkFr_mono F fun k a w => by unfold bkA153 at w; unfold bkA232; omega
    have p' : ∀ i : Nat, i < acc.length → M2 72 0 i = acc.getD i 0 % 36 := fun i hi => by rw [F 72 0 (by unfold bkA153; omega)]; exact hpk i hi
    rw [bkCmb_0, List.find?_cons, List.append_nil]
    refine ⟨rfl, rfl, fun z => ⟨.inl rfl, rfl, F', e58, p', ?_⟩, fun z => ⟨.inr rfl, rfl, F', e58, p', ?_⟩⟩
    · have : bkTs N f s acc = false := by unfold bkTs; simp [z]
      rw [this]
      exact rfl
    · have : bkTs N f s acc = true := by unfold bkTs; simp; exact Decidable.not_not.1 z
      rw [this]
      refine ⟨rfl, fun i hi => ?_⟩
      rw [List.append_nil] at hi ⊢
      exact p' i hi
  | succ m ih =>
    intro d acc fr M h58 hI hlen hfr0 hfr hpast hL hpk
    have hacc : bkLeg N acc := by have := hL [] (List.nil_sublist _); rwa [List.append_nil] at this
    have hNL := bkMd_RL hN hacc
    obtain ⟨n1, n2, n3, n4, n5, n6, n7, n8, n9, n10, -⟩ := id hN
    rw [E_232]
    refine ⟨fun _ => ?_, fun z => absurd (by omega) z⟩
    have key := bk_loopS (W := fun k M1 => ∀ v8 v9 v10 v11, bk_wp (bk_C (d + (m + 1) + 5)) P_232 (fun t r M' => t = 0 ∧ bkFr bkA232 M M' ∧ M' 58 0 = bkRL N acc ∧ (∀ i : Nat, i < acc.length → M' 72 0 i = acc.getD i 0 % 36) ∧ bkToldR r (M' 72 0) acc ((bkCmb (bkCd (fun w => bkMay N s w) (36 * u + 36) (36 - fr).toNat) (m + 1)).find? fun l => bkTs N f s (acc ++ l))) 0 30 [bk_c 12 0, bk_i acc.length, bk_i ((acc.length + (m + 1) : Nat) : Int), bk_i fr, bk_i f, bk_i s, bk_i u, bk_i k, v8, v9, v10, v11] [] M1) (s := fr) (n := 36)
      (fun k M1 => bkFr bkA232 M M1 ∧ M1 58 0 = bkRL N acc ∧ (∀ i : Nat, i < acc.length → M1 72 0 i = acc.getD i 0 % 36) ∧ (∀ l, l.Sublist (bkCd (fun w => bkMay N s w) (36 * u + 36) (36 - k).toNat) → bkLeg N (acc ++ l)) ∧ (bkCmb (bkCd (fun w => bkMay N s w) (36 * u + 36) (36 - fr).toNat) (m + 1)).find? (fun l => bkTs N f s (acc ++ l)) = (bkCmb (bkCd (fun w => bkMay N s w) (36 * u + 36) (36 - k).toNat) (m + 1)).find? (fun l => bkTs N f s (acc ++ l))) hfr ?_ ?_ (M := M) ⟨bkFr_refl _ _, h58, hpk, hL, rfl⟩
    · exact key _ _ _ _
    · rintro k M1 h0 h1 ⟨F, G, P, L, E⟩ ih2 v8 v9 v10 v11
      have hk36 : (36 * u + k) % 36 = k := by rcases hu with rfl | rfl <;> omega
      have hcd := bkCd_s (fun w => bkMay N s w) (top := 36 * u + 36) (w := 36 * u + k) (by omega)
      rw [show (36 * u + 36 - (36 * u + k)).toNat = (36 - k).toNat by omega, show (36 * u + 36 - (36 * u + k + 1)).toNat = (36 - (k + 1)).toNat by omega] at hcd
      have hmp : bkMay (bkRL N acc) s (36 * u + k) = bkMay N s (36 * u + k) := bkMay_past (fun v hv => by have := hpast v hv; omega) (by omega)
      have h2 : bkRL N acc 2 = N 2 := bkRL_o (by omega)
      have h3 : bkRL N acc 3 = N 3 := bkRL_o (by omega)
      have hd : bkDl acc k = 0 := bkDl_past hpast h0
      rw [LG_232_30]
      unfold bk_r32
      refine ⟨fun z => absurd z (by omega), fun _ => ⟨by omega, by omega, ?_⟩⟩
      rw [S156 (by rw [G, h2]; omega) (by rw [G, h3]; omega), G, h2, h3]
      refine ⟨rfl, fun z => ⟨by omega, ?_⟩, fun z => ?_⟩
      · have hno : bkMay N s (36 * u + k) = false := by
          unfold bkMay
          rw [hk36, decide_eq_false_iff_not]
          intro w
          rw [if_pos (by omega)] at z
          exact absurd z (by decide)
        rw [hno] at hcd
        exact ih2 M1 ⟨F, G, P, by rw [hcd] at L; exact L, by rw [E, hcd]; rfl⟩ _ _ _ _
      · have hin : 0 ≤ k % 6 ∧ k % 6 < N 2 ∧ 0 ≤ k / 6 ∧ k / 6 < N 3 := Classical.byContradiction fun w => z (if_neg w)
        rw [S212 (M := M1) (by rw [G]; exact hNL) hs (by rw [G, h2]; exact ⟨hin.1, hin.2.1⟩) (by rw [G, h3]; exact ⟨hin.2.2.1, hin.2.2.2⟩)]
        have e85 : M1 58 0 (85 + 6 * (k / 6) + k % 6) = N (85 + k) := by
          rw [show 85 + 6 * (k / 6) + k % 6 = 85 + k by omega, G, bkRL_c (by omega) (by omega), hd, Int.add_zero]
        have e121 : M1 58 0 (121 + k / 6) = N (121 + k / 6) := by rw [G, bkRL_bed (by omega)]
        have hh := n8 k (by omega) (by omega)
        rw [e85, e121]
        have hmay : bkMay N s (36 * u + k) = true ↔ ¬ (bkSide (k % 6) (N (121 + k / 6)) = 1 - s) ∧ ¬ (N (85 + k) = if u = 0 then 0 else 9) := by
          unfold bkMay
          rw [hk36, decide_eq_true_eq]
          rcases hu with rfl | rfl
          · rw [if_pos (show 36 * (0 : Int) + k < 36 by omega), if_pos rfl]
            refine ⟨fun w => ⟨w.2.2.1, by omega⟩, fun w => ⟨hin.2.1, hin.2.2.2, w.1, by omega⟩⟩
          · rw [if_neg (show ¬ 36 * (1 : Int) + k < 36 by omega), if_neg (show ¬ (1 : Int) = 0 by decide)]
            refine ⟨fun w => ⟨w.2.2.1, by omega⟩, fun w => ⟨hin.2.1, hin.2.2.2, w.1, by omega⟩⟩
        refine ⟨rfl, fun z2 => ?_, fun z2 => ⟨by omega, ?_⟩⟩
        · have hyes : bkMay N s (36 * u + k) = true := by
            rw [hmay]
            refine ⟨fun w => z2 (if_pos w), fun w => ?_⟩
            by_cases e : bkSide (k % 6) (N (121 + k / 6)) = 1 - s
            · exact z2 (if_pos e)
            · exact z2 (by rw [if_neg e, if_pos w])
          rw [hyes, if_pos rfl] at hcd
          have hL1 : bkLeg N (acc ++ [36 * u + k]) := L _ (by rw [hcd]; exact (List.nil_sublist _).cons_cons _)
          have hL1k := hL1 k (by omega) (by omega)
          rw [bkDl_app, hd] at hL1k
          have hL1k : 0 ≤ N (85 + k) + (0 + ((if k = (36 * u + k) % 36 then bkWk (36 * u + k) else 0) + 0)) ∧ N (85 + k) + (0 + ((if k = (36 * u + k) % 36 then bkWk (36 * u + k) else 0) + 0)) ≤ 9 := hL1k
          rw [if_pos hk36.symm] at hL1k
          have eG : M1 58 0 (85 + k) = N (85 + k) := by rw [G, bkRL_c (by omega) (by omega), hd, Int.add_zero]
          have hcmb : bkCmb (bkCd (fun w => bkMay N s w) (36 * u + 36) (36 - k).toNat) (m + 1) = (bkCmb (bkCd (fun w => bkMay N s w) (36 * u + 36) (36 - (k + 1)).toNat) m).map ((36 * u + k) :: ·) ++ bkCmb (bkCd (fun w => bkMay N s w) (36 * u + 36) (36 - (k + 1)).toNat) (m + 1) := by rw [hcd]; rfl
          -- what both signs share
          have go : ∀ by_ : Int, by_ = bkWk (36 * u + k) → bk_r32 (M1 58 0 (85 + k) + by_) ∧ (0 ≤ 85 + k ∧ 85 + k < 437) ∧ ∀ M7 : bk_M, M7 = bk_up M1 58 0 (85 + k) (M1 58 0 (85 + k) + by_) → ((0 : Int) ≤ acc.length ∧ (acc.length : Int) < 3) ∧ ∀ M8 : bk_M, M8 = bk_up M7 72 0 acc.length k → bk_r32 ((acc.length : Int) + 1) ∧ bk_r32 (k + 1) ∧ bk_C (d + (m + 1) + 5) 0 232 [bk_c 12 0, bk_i ((acc.length : Int) + 1), bk_i ((acc.length + (m + 1) : Nat) : Int), bk_i (k + 1), bk_i f, bk_i s, bk_i u] M8 (fun t11 r9 M10 => t11 = 0 ∧ bk_r32 (85 + k) ∧ (0 ≤ 85 + k ∧ 85 + k < 437) ∧ bk_r32 (M10 58 0 (85 + k) - by_) ∧ (0 ≤ 85 + k ∧ 85 + k < 437) ∧ ∀ M12 : bk_M, M12 = bk_up M10 58 0 (85 + k) (M10 58 0 (85 + k) - by_) → ((r9 = 0 → bk_r32 (k + 1) ∧ bk_wp (bk_C (d + (m + 1) + 5)) P_232 (fun t r M' => t = 0 ∧ bkFr bkA232 M M' ∧ M' 58 0 = bkRL N acc ∧ (∀ i : Nat, i < acc.length → M' 72 0 i = acc.getD i 0 % 36) ∧ bkToldR r (M' 72 0) acc ((bkCmb (bkCd (fun w => bkMay N s w) (36 * u + 36) (36 - fr).toNat) (m + 1)).find? fun l => bkTs N f s (acc ++ l))) 0 30 [bk_c 12 0, bk_i acc.length, bk_i ((acc.length + (m + 1) : Nat) : Int), bk_i fr, bk_i f, bk_i s, bk_i u, bk_i (k + 1), bk_i (k % 6), bk_i (k / 6), bk_i by_, bk_i r9] [] M12) ∧ (¬ (r9 = 0) → ((1 : Int) = 0 ∨ (1 : Int) = 1) ∧ ((0 : Nat) = 0 ∧ bkFr bkA232 M M12 ∧ M12 58 0 = bkRL N acc ∧ (∀ i : Nat, i < acc.length → M12 72 0 i = acc.getD i 0 % 36) ∧ bkToldR 1 (M12 72 0) acc ((bkCmb (bkCd (fun w => bkMay N s w) (36 * u + 36) (36 - fr).toNat) (m + 1)).find? fun l => bkTs N f s (acc ++ l)))))) := by
            rintro by_ rfl
            unfold bk_r32
            refine ⟨by omega, by omega, ?_⟩
            intro M7 hM7
            refine ⟨by omega, ?_⟩
            intro M8 hM8
            have F8 : bkFr bkA232 M M8 := by rw [hM8, hM7]; exact bkFr_up (bkFr_up F (by unfold bkA232; omega)) (by unfold bkA232; omega)
            have G8 : M8 58 0 = bkRL N (acc ++ [36 * u + k]) := by
              rw [hM8, bk_up_f (by decide), hM7]
              refine bk_up_row G ?_
              rw [← bkRL_up (by omega), hk36, G]
            have P8 : ∀ i : Nat, i < (acc ++ [36 * u + k]).length → M8 72 0 i = (acc ++ [36 * u + k]).getD i 0 % 36 := fun i hi => by
              rw [hM8, bk_up_w, hM7, bk_up_f (by decide)]
              rw [List.length_append] at hi
              by_cases e : i = acc.length
              · rw [if_pos (by omega), e]; simp; omega
              · have hi2 : i < acc.length := by simp only [List.length_cons, List.length_nil] at hi; omega
                rw [if_neg (by omega), P i hi2]
                simp [List.getD_eq_getElem?_getD, List.getElem?_append_left hi2]
            have call := ih d (acc ++ [36 * u + k]) (k + 1) M8 G8 (fun c q1 q2 => by rw [F8 69 0 (by unfold bkA232; omega)]; exact hI c q1 q2) (by simp only [List.length_append, List.length_cons, List.length_nil]; omega) (by omega) (by omega) (fun v hv => by
              rw [List.mem_append, List.mem_singleton] at hv
              rcases hv with hv | rfl
              · have := hpast v hv; omega
              · omega) (fun l hl => by
              rw [List.append_assoc]
              refine L _ ?_
              rw [hcd]
              exact hl.cons_cons _) P8
            rw [show ((acc ++ [36 * u + k]).length : Int) = (acc.length : Int) + 1 by simp, show (((acc ++ [36 * u + k]).length + m : Nat) : Int) = ((acc.length + (m + 1) : Nat) : Int) by simp; omega] at call
            refine ⟨by omega, by omega, bk_use (P := fun r M' => _) call ?_⟩
            rintro r M10 ⟨F10, G10, P10, T10⟩
            have e10 : M10 58 0 (85 + k) = N (85 + k) + bkWk (36 * u + k) := by
              rw [G10, bkRL_c (by omega) (by omega), bkDl_app, hd]
              show N (85 + k) + (0 + ((if k = (36 * u + k) % 36 then bkWk (36 * u + k) else 0) + 0)) = _
              rw [if_pos hk36.symm]; omega
            refine ⟨rfl, by omega, by omega, by rw [e10]; omega, by omega, ?_⟩
            intro M12 hM12
            have F12 : bkFr bkA232 M M12 := by rw [hM12]; exact bkFr_up (bkFr_trans F8 F10) (by unfold bkA232; omega)
            have G12 : M12 58 0 = bkRL N acc := by
              rw [hM12]
              refine bk_up_row G10 ?_
              rw [← bkRL_dn (N := N) (acc := acc) (w := 36 * u + k) (by omega), hk36, G10]
            have P12 : ∀ i : Nat, i < acc.length → M12 72 0 i = acc.getD i 0 % 36 := fun i hi => by
              rw [hM12, bk_up_f (by decide), P10 i (by simp only [List.length_append]; omega)]
              simp [List.getD_eq_getElem?_getD, List.getElem?_append_left hi]
            refine ⟨fun z5 => ⟨by omega, ih2 M12 ⟨F12, G12, P12, fun l hl => L l (by rw [hcd]; exact hl.cons _), ?_⟩ _ _ _ _⟩, fun z5 => ⟨.inr rfl, rfl, F12, G12, P12, ?_⟩⟩
            · rw [E, hcmb]
              refine bk_find_cons ?_
              generalize (bkCmb (bkCd (fun w => bkMay N s w) (36 * u + 36) (36 - (k + 1)).toNat) m).find? _ = o at T10 ⊢
              cases o with
              | none => rfl
              | some l => exact absurd T10.1 (by omega)
            · rw [E, hcmb]
              generalize ho : (bkCmb (bkCd (fun w => bkMay N s w) (36 * u + 36) (36 - (k + 1)).toNat) m).find? (fun l => bkTs N f s ((acc ++ [36 * u + k]) ++ l)) = o at T10
              cases o with
              | none => exact absurd T10 z5
              | some l =>
                rw [bk_find_cons1 (P := bkTs N f s) ho]
                refine ⟨rfl, fun i hi => ?_⟩
                rw [hM12, bk_up_f (by decide), T10.2 i (by simp only [List.length_append, List.length_cons] at hi ⊢; simp only [List.length_nil]; omega), List.append_assoc]
                rfl
          rcases hu with rfl | rfl
          · refine ⟨fun w => absurd rfl w, fun _ => ?_⟩
            have g := go (-1) (by unfold bkWk; rw [if_pos (by omega)])
            exact ⟨by omega, by omega, g⟩
          · refine ⟨fun _ => ?_, fun w => absurd (by decide) w⟩
            have g := go 1 (by unfold bkWk; rw [if_neg (by omega)])
            exact ⟨by omega, by omega, g⟩
        · have hno : bkMay N s (36 * u + k) = false := by
            cases hc : bkMay N s (36 * u + k)
            · rfl
            · have := hmay.1 hc
              rw [if_neg this.1, if_neg this.2] at z2
              exact absurd z2 (by decide)
          rw [hno] at hcd
          exact ih2 M1 ⟨F, G, P, by rw [hcd] at L; exact L, by rw [E, hcd]; rfl⟩ _ _ _ _
    · rintro M1 ⟨F, G, P, L, E⟩ v8 v9 v10 v11
      rw [LG_232_30]
      refine ⟨fun _ => ⟨.inl rfl, rfl, F, G, P, ?_⟩, fun z => absurd (Int.le_refl _) z⟩
      rw [E]
      exact rfl
