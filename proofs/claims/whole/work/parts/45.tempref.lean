def bkA231 (k a : Nat) : Prop := (k = 12 ∨ k = 58 ∨ k = 70 ∨ k = 71 ∨ k = 72 ∨ k = 73) ∧ a = 0
theorem L231_68 {d : Nat} {Q : bk_Q} {f s u : Int} {l : List Int} {M : bk_M} (hl : l.length ≤ 3) (hT : ∀ i : Nat, i < l.length → M 72 0 i = l.getD i 0 % 36)
    (hQ : ∀ M', bkFr (fun k a => k = 73 ∧ a = 0) M M' → (∀ i : Nat, i < l.length → M' 73 0 i = l.getD i 0 % 36) → Q 0 l.length M') :
    bk_wp (bk_C d) P_231 Q 0 68 [bk_c 12 0, bk_i f, bk_i s, bk_i u, bk_i l.length, bk_i 0] [] M := by
  refine bk_loopS (W := fun k M1 => bk_wp (bk_C d) P_231 Q 0 68 [bk_c 12 0, bk_i f, bk_i s, bk_i u, bk_i l.length, bk_i k] [] M1) (s := 0) (n := (l.length : Int))
    (fun k M1 => bkFr (fun k a => k = 73 ∧ a = 0) M M1 ∧ ∀ i : Nat, (i : Int) < k → M1 73 0 i = l.getD i 0 % 36) (by omega) ?_ ?_ (M := M) ⟨bkFr_refl _ _, fun i hi => absurd hi (by omega)⟩
  · rintro k M1 h0 h1 ⟨F, U⟩ ih
    have hk := hT k.toNat (by omega)
    rw [Int.toNat_of_nonneg h0] at hk
    have e72 : M1 72 0 = M 72 0 := F 72 0 (by omega)
    rw [L_231_68, e72, hk]
    unfold bk_r32
    refine ⟨fun z => absurd z (by omega), fun _ => ⟨by omega, by omega, ?_⟩⟩
    intro M2 hM2
    refine ⟨by omega, ih M2 ⟨by rw [hM2]; exact bkFr_up F ⟨rfl, rfl⟩, fun i hi => ?_⟩⟩
    rw [hM2, bk_up_w]
    by_cases e : (i : Int) = k
    · rw [if_pos e, show i = k.toNat by omega]
    · rw [if_neg e]; exact U i (by omega)
  · rintro M1 ⟨F, U⟩
    rw [L_231_68]
    exact ⟨fun _ => hQ M1 F fun i hi => U i (by omega), fun z => absurd (Int.le_refl _) z⟩
theorem S231 {d : Nat} {f s u : Int} {M : bk_M} (hN : bkMd (M 58 0)) (hI : ∀ c, 0 ≤ c → c < 36 → M 69 0 c = 0) :
    bk_C (d + 10) 0 231 [bk_c 12 0, bk_i f, bk_i s, bk_i u] M (fun t r M' => t = 0 ∧ bkFr bkA231 M M' ∧ M' 58 0 = M 58 0 ∧ (∀ j, j ≠ 0 → j ≠ 33 → M' 12 0 j = M 12 0 j) ∧ r = bkTempR (bkTemp (M 58 0) f s u) ∧ bkTempK (bkTemp (M 58 0) f s u) (M 12 0 33) (M 73 0) (M' 12 0 33) (M' 73 0)) := by
  rw [E_231]
  intro M1 hM1
  have F1 : bkFr bkA231 M M1 := by rw [hM1]; exact bkFr_up (bkFr_refl _ _) (by unfold bkA231; omega)
  have e58 : M1 58 0 = M 58 0 := by rw [hM1, bk_up_f (by decide)]
  have e12 : ∀ j, j ≠ 0 → M1 12 0 j = M 12 0 j := fun j hj => by rw [hM1, bk_up_s hj]
  have e73 : M1 73 0 = M 73 0 := by rw [hM1, bk_up_f (by decide)]
  have hbad : ¬ (0 ≤ f ∧ f < M 58 0 0 ∧ 0 ≤ s ∧ s ≤ 1 ∧ 0 ≤ u ∧ u ≤ 1) → (0 : Nat) = 0 ∧ bkFr bkA231 M M1 ∧ M1 58 0 = M 58 0 ∧ (∀ j, j ≠ 0 → j ≠ 33 → M1 12 0 j = M 12 0 j) ∧ -1 = bkTempR (bkTemp (M 58 0) f s u) ∧ bkTempK (bkTemp (M 58 0) f s u) (M 12 0 33) (M 73 0) (M1 12 0 33) (M1 73 0) := fun w => by
    have e : bkTemp (M 58 0) f s u = none := if_neg w
    rw [e]
    exact ⟨rfl, F1, e58, fun j q1 _ => e12 j q1, rfl, e12 33 (by decide), e73⟩
  rw [S192 (by rw [e58]; exact hN), e58]
  by_cases hf : 0 ≤ f ∧ f < M 58 0 0
  · rw [if_pos hf]
    refine ⟨rfl, fun z => absurd z (by decide), fun _ => ?_⟩
    rw [S157]
    by_cases hs : 0 ≤ s ∧ s ≤ 1
    · rw [if_pos hs]
      refine ⟨rfl, fun z => absurd z (by decide), fun _ => ?_⟩
      rw [S157]
      by_cases hu0 : 0 ≤ u ∧ u ≤ 1
      · rw [if_pos hu0]
        refine ⟨rfl, fun _ => ?_, fun z => absurd (by decide) z⟩
        have hu : u = 0 ∨ u = 1 := by omega
        have e : bkTemp (M 58 0) f s u = bkTm (bkTF (M 58 0) f s (bkTA (M 58 0) s u)) := if_pos ⟨hf.1, hf.2, hs.1, hs.2, hu0.1, hu0.2⟩
        rw [e]
        generalize hT : bkTm (bkTF (M 58 0) f s (bkTA (M 58 0) s u)) = o
        obtain ⟨okm, okl⟩ := bkTA_ok hN (s := s) hu
        have key := bk_loopS (W := fun n M7 => ∀ v5, bk_wp (bk_C (d + 9)) P_231 (fun t r M' => t = 0 ∧ bkFr bkA231 M M' ∧ M' 58 0 = M 58 0 ∧ (∀ j, j ≠ 0 → j ≠ 33 → M' 12 0 j = M 12 0 j) ∧ r = bkTempR o ∧ bkTempK o (M 12 0 33) (M 73 0) (M' 12 0 33) (M' 73 0)) 0 36 [bk_c 12 0, bk_i f, bk_i s, bk_i u, bk_i n, v5] [] M7) (s := 0) (n := 4)
          (fun n M7 => bkFr bkA232 M1 M7 ∧ M7 58 0 = M 58 0 ∧ ∀ k : Nat, (k : Int) < n → bkTF (M 58 0) f s (bkTA (M 58 0) s u) k = none) (by omega) ?_ ?_ (M := M1) ⟨bkFr_refl _ _, e58, fun k hk => absurd hk (by omega)⟩
        · exact key _
        · rintro n M7 h0 h1 ⟨F7, G7, U⟩ ih v5
          rw [LG_231_36]
          refine ⟨fun z => absurd z (by omega), fun _ => ?_⟩
          have call := S232 (N := M 58 0) (f := f) (s := s) (u := u) hN hf hs hu n.toNat (d + 9 - (n.toNat + 6)) [] 0 M7 (by rw [bkRL_nil]; exact G7) (fun c q1 q2 => by rw [F7 69 0 (by unfold bkA232; omega), F1 69 0 (by unfold bkA231; omega)]; exact hI c q1 q2) (by show 0 + n.toNat ≤ 3; omega) (by omega) (by omega) (fun v hv => absurd hv (by simp)) (fun l hl => okl _ hl) (fun i hi => absurd hi (by simp))
          rw [show d + 9 - (n.toNat + 6) + n.toNat + 6 = d + 9 by omega, show (([] : List Int).length : Int) = 0 by rfl, show ((([] : List Int).length + n.toNat : Nat) : Int) = n by show ((0 + n.toNat : Nat) : Int) = n; omega] at call
          refine bk_use (P := fun r M' => _) (call) ?_
          rintro r M8 ⟨F8, G8, -, T8⟩
          rw [bkRL_nil] at G8
          have F18 : bkFr bkA232 M1 M8 := bkFr_trans F7 F8
          have hF : (bkCmb (bkCd (fun w => bkMay (M 58 0) s w) (36 * u + 36) (36 - (0 : Int)).toNat) n.toNat).find? (fun l => bkTs (M 58 0) f s ([] ++ l)) = bkTF (M 58 0) f s (bkTA (M 58 0) s u) n.toNat := rfl
          rw [hF] at T8
          unfold bk_r32
          cases hc : bkTF (M 58 0) f s (bkTA (M 58 0) s u) n.toNat with
          | none =>
            rw [hc] at T8
            refine ⟨rfl, fun z => absurd T8 z, fun _ => ⟨by omega, ih M8 ⟨F18, G8, fun k hk => ?_⟩ _⟩⟩
            by_cases e : (k : Int) = n
            · rw [show k = n.toNat by omega]; exact hc
            · exact U k (by omega)
          | some l =>
            rw [hc] at T8
            refine ⟨rfl, fun _ => ?_, fun z => absurd (by have := T8.1; omega) z⟩
            have ho : o = some l := by
              rw [← hT]
              exact bkTm_some (fun k hk => U k (by omega)) hc (by omega)
            have hml := (bkCmb_mem _ _ _).1 (List.mem_of_find?_eq_some hc)
            have hnl : n = l.length := by omega
            intro M4 hM4
            rw [hnl] at hM4 ⊢
            refine L231_68 (by omega) (fun i hi => by rw [hM4, bk_up_f (by decide)]; exact T8.2 i hi) (fun M' F' q73 => ?_)
            refine ⟨rfl, ?_, ?_, fun j w0 w33 => ?_, ?_, ?_⟩
            · refine bkFr_trans F1 (bkFr_trans (bkFr_mono F18 fun k a w => ?_) (bkFr_trans (M' := M4) ?_ (bkFr_mono F' fun k a w => ?_)))
              · unfold bkA232 at w; unfold bkA231; omega
              · rw [hM4]; exact bkFr_up (bkFr_refl _ _) (by unfold bkA231; omega)
              · unfold bkA231; omega
            · rw [F' 58 0 (by omega), hM4, bk_up_f (by decide)]; exact G8
            · rw [F' 12 0 (by omega), hM4, bk_up_s w33, F18 12 0 (by unfold bkA232; omega)]; exact e12 j w0
            · rw [ho]; rfl
            · rw [ho]
              exact ⟨by omega, by rw [F' 12 0 (by omega), hM4, bk_up_e], q73⟩
        · rintro M7 ⟨F7, G7, U⟩ v5
          have ho : o = none := by
            rw [← hT]
            exact bkTm_none fun k hk => U k (by omega)
          rw [LG_231_36]
          refine ⟨fun _ => ⟨rfl, bkFr_trans F1 (bkFr_mono F7 fun k a w => by unfold bkA232 at w; unfold bkA231; omega), G7, fun j w0 w33 => by rw [F7 12 0 (by unfold bkA232; omega)]; exact e12 j w0, by rw [ho]; rfl, ?_⟩, fun z => absurd (by omega) z⟩
          rw [ho]
          exact ⟨by rw [F7 12 0 (by unfold bkA232; omega)]; exact e12 33 (by decide), by rw [F7 73 0 (by unfold bkA232; omega), e73]⟩
      · rw [if_neg hu0]
        exact ⟨rfl, fun z => absurd rfl z, fun _ => hbad fun w => hu0 w.2.2.2.2⟩
    · rw [if_neg hs]
      exact ⟨rfl, fun _ => hbad fun w => hs ⟨w.2.2.1, w.2.2.2.1⟩, fun z => absurd rfl z⟩
  · rw [if_neg hf]
    have hb := hbad fun w => hf ⟨w.1, w.2.1⟩
    exact ⟨rfl, fun _ => ⟨hb.1, hb.2.1, rfl, hb.2.2.2⟩, fun z => absurd rfl z⟩
