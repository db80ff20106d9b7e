/-! tempted: the class. -/
def bkTm (F : Nat → Option (List Int)) : Option (List Int) := match F 0 with
  | some l => some l
  | none => match F 1 with
    | some l => some l
    | none => match F 2 with
      | some l => some l
      | none => F 3
theorem bkTm_some {F : Nat → Option (List Int)} {n : Nat} {l : List Int} (h : ∀ k, k < n → F k = none) (h2 : F n = some l) (hn : n ≤ 3) : bkTm F = some l := by
  unfold bkTm
  have e : n = 0 ∨ n = 1 ∨ n = 2 ∨ n = 3 := by omega
  rcases e with rfl | rfl | rfl | rfl
  · rw [h2]
  · rw [h 0 (by omega), h2]
  · rw [h 0 (by omega), h 1 (by omega), h2]
  · rw [h 0 (by omega), h 1 (by omega), h 2 (by omega), h2]
theorem bkTm_none {F : Nat → Option (List Int)} (h : ∀ k, k < 4 → F k = none) : bkTm F = none := by
  unfold bkTm
  rw [h 0 (by omega), h 1 (by omega), h 2 (by omega), h 3 (by omega)]
theorem bkTm_congr {F G : Nat → Option (List Int)} (h : ∀ n, (∀ k, k < n → G k = none) → F n = G n) : bkTm F = bkTm G := by
  unfold bkTm
  rw [h 0 (fun k hk => absurd hk (by omega))]
  cases h0 : G 0 with
  | some l => rfl
  | none =>
    rw [h 1 (fun k hk => by rw [show k = 0 by omega]; exact h0)]
    cases h1 : G 1 with
    | some l => rfl
    | none =>
      rw [h 2 (fun k hk => by have e : k = 0 ∨ k = 1 := (by omega); rcases e with rfl | rfl <;> assumption)]
      cases h2 : G 2 with
      | some l => rfl
      | none =>
        exact h 3 fun k hk => by have e : k = 0 ∨ k = 1 ∨ k = 2 := (by omega); rcases e with rfl | rfl | rfl <;> assumption
/-- where works of a side may be for a field: all; those that count -/
def bkTA (N : Int → Int) (s u : Int) : List Int := bkCd (fun w => bkMay N s w) (36 * u + 36) 36
def bkTB (N : Int → Int) (s u : Int) : List Int := bkCd (fun w => bkEf N w && bkMay N s w) (36 * u + 36) 36
def bkTF (N : Int → Int) (f s : Int) (A : List Int) (n : Nat) : Option (List Int) := (bkCmb A n).find? fun l => bkTs N f s l
theorem bkTB_A (N : Int → Int) (s u : Int) : bkTB N s u = (bkTA N s u).filter (bkEf N) := bkCd_filter _ _ _ _
theorem bkTs_drop {N : Int → Int} (hN : bkMd N) {f s : Int} (hf : 0 ≤ f ∧ f < N 0) {l : List Int} {w : Int} (hw : w ∈ l) (he : bkEf N w = false) : bkTs N f s (l.erase w) = bkTs N f s l := by
  have q := hN.2.2.2.2.2.2.2.2.2.1 f hf.1 hf.2
  obtain ⟨A, B, -, e1, e2⟩ := List.exists_erase_eq hw
  unfold bkTs
  rw [e2, e1, bkWould_drop hN he q.2.2.1 q.2.2.2.1]
theorem bkTF_eq {N : Int → Int} (hN : bkMd N) {f s u : Int} (hf : 0 ≤ f ∧ f < N 0) : bkTm (bkTF N f s (bkTB N s u)) = bkTm (bkTF N f s (bkTA N s u)) := by
  refine bkTm_congr fun n hn => ?_
  unfold bkTF
  rw [bkTB_A, bkCmb_filter]
  refine bk_find_filter _ _ _ fun l hl hP => ?_
  cases h : l.all (bkEf N)
  · exfalso
    have h2 : ∃ w, w ∈ l ∧ bkEf N w = false := by
      rw [List.all_eq_false] at h
      obtain ⟨w, hw, e⟩ := h
      exact ⟨w, hw, by cases z : bkEf N w; rfl; exact absurd z e⟩
    obtain ⟨w, hw, he⟩ := h2
    have hm := (bkCmb_mem _ _ _).1 hl
    have hpos : 0 < l.length := List.length_pos_of_mem hw
    have hn2 := hn (n - 1) (by omega)
    unfold bkTF at hn2
    rw [List.find?_eq_none] at hn2
    have hm2 : l.erase w ∈ bkCmb (bkTA N s u) (n - 1) := (bkCmb_mem _ _ _).2 ⟨List.erase_sublist.trans hm.1, by rw [List.length_erase_of_mem hw, hm.2]⟩
    have := hn2 _ hm2
    rw [bkTs_drop hN hf hw he] at this
    exact this hP
  · rfl
theorem bkTA_ok {N : Int → Int} (hN : bkMd N) {s u : Int} (hu : u = 0 ∨ u = 1) : (∀ w, w ∈ bkTA N s u → 36 * u ≤ w ∧ w < 36 * u + 36 ∧ bkMay N s w = true) ∧ ∀ l, l.Sublist (bkTA N s u) → bkLeg N l := by
  have hm : ∀ w, w ∈ bkTA N s u → 36 * u ≤ w ∧ w < 36 * u + 36 ∧ bkMay N s w = true := fun w hw => by
    have := bkCd_mem _ _ _ _ hw
    exact ⟨by omega, this.2.1, this.2.2⟩
  refine ⟨hm, fun l hl => bkLeg_of hN (s := s) ?_ fun w hw => ?_⟩
  · have hp := (bkCd_pair (fun w => bkMay N s w) (36 * u + 36) 36).sublist hl
    refine List.Pairwise.imp_of_mem (fun {a b} ha hb hab => ?_) hp
    have h1 := hm a (hl.subset ha)
    have h2 := hm b (hl.subset hb)
    rcases hu with rfl | rfl <;> omega
  · have := hm w (hl.subset hw)
    rcases hu with rfl | rfl <;> exact ⟨by omega, by omega, this.2.2⟩
/-- what tempted() told -/
def bkTempR (o : Option (List Int)) : Int := match o with
  | none => -1
  | some l => l.length
/-- and keeps -/
def bkTempK (o : Option (List Int)) (n : Int) (T : Int → Int) (n' : Int) (T' : Int → Int) : Prop := match o with
  | none => n' = n ∧ T' = T
  | some l => l.length ≤ 3 ∧ n' = l.length ∧ ∀ i : Nat, i < l.length → T' i = l.getD i 0 % 36
def bkA78 (k a : Nat) : Prop := ((k = 8 ∨ k = 45 ∨ k = 46 ∨ k = 47 ∨ k = 48) ∧ a = 1) ∨ ((k = 7 ∨ k = 40 ∨ k = 43 ∨ k = 44) ∧ a = 0)
theorem L78_77 {d p : Nat} {Q : bk_Q} {f s z4 : Int} {l : List Int} {M : bk_M} (hl : l.length ≤ 3) (hT : ∀ i : Nat, i < l.length → M 44 0 i = l.getD i 0 ∧ 0 ≤ l.getD i 0)
    (hQ : ∀ M', bkFr (fun k a => (k = 7 ∨ k = 40) ∧ a = 0) M M' → (∀ j, j ≠ 1 → M' 7 0 j = M 7 0 j) → M' 7 0 1 = l.length → (∀ i : Nat, i < l.length → M' 40 0 i = l.getD i 0 % 36) → Q 0 l.length M') :
    bk_wp (bk_C d) P_78 Q 0 77 [bk_c 7 0, bk_c 5 p, bk_i f, bk_i s, bk_i z4, bk_i l.length, bk_i 0] [] M := by
  refine bk_loopS (W := fun k M1 => bk_wp (bk_C d) P_78 Q 0 77 [bk_c 7 0, bk_c 5 p, bk_i f, bk_i s, bk_i z4, bk_i l.length, bk_i k] [] M1) (s := 0) (n := (l.length : Int))
    (fun k M1 => bkFr (fun k a => k = 40 ∧ a = 0) M M1 ∧ ∀ i : Nat, (i : Int) < k → M1 40 0 i = l.getD i 0 % 36) (by omega) ?_ ?_ (M := M) ⟨bkFr_refl _ _, fun i hi => absurd hi (by omega)⟩
  · rintro k M1 h0 h1 ⟨F, U⟩ ih
    have hk := hT k.toNat (by omega)
    rw [Int.toNat_of_nonneg h0] at hk
    have e44 : M1 44 0 = M 44 0 := F 44 0 (by omega)
    rw [L_78_77, e44, hk.1]
    unfold bk_r32
    refine ⟨fun z => absurd z (by omega), fun _ => ⟨by omega, by omega, by omega, ?_⟩⟩
    intro M2 hM2
    refine ⟨by omega, ih M2 ⟨by rw [hM2]; exact bkFr_up F ⟨rfl, rfl⟩, fun i hi => ?_⟩⟩
    rw [hM2, bk_up_w]
    by_cases e : (i : Int) = k
    · rw [if_pos e, show i = k.toNat by omega]
    · rw [if_neg e]; exact U i (by omega)
  · rintro M1 ⟨F, U⟩
    rw [L_78_77]
    refine ⟨fun _ => ?_, fun z => absurd (Int.le_refl _) z⟩
    intro M2 hM2
    refine hQ M2 (by rw [hM2]; exact bkFr_up (bkFr_mono F fun k a w => by omega) ⟨.inl rfl, rfl⟩) (fun j hj => by rw [hM2, bk_up_s hj, F 7 0 (by omega)]) (by rw [hM2, bk_up_e]) (fun i hi => ?_)
    rw [hM2, bk_up_f (by decide)]
    exact U i (by omega)
theorem S78 {d p : Nat} {f s u : Int} {M : bk_M} {N : Int → Int} (hR : bkRel M p N) (hf : 0 ≤ f ∧ f < N 0) (hs : 0 ≤ s ∧ s ≤ 1) (hu : u = 0 ∨ u = 1) :
    bk_C (d + 8) 0 78 [bk_c 7 0, bk_c 5 p, bk_i f, bk_i s, bk_i (if u = 1 then 1 else -1)] M (fun t r M' => t = 0 ∧ bkFr bkA78 M M' ∧ (∀ j, j ≠ 1 → j ≠ 8 → j ≠ 10 → j ≠ 11 → M' 7 0 j = M 7 0 j) ∧ r = bkTempR (bkTm (bkTF N f s (bkTA N s u))) ∧ bkTempK (bkTm (bkTF N f s (bkTA N s u))) (M 7 0 1) (M 40 0) (M' 7 0 1) (M' 40 0)) := by
  have hN := bkRel_md hR
  have c3 := hR.2.2.2.2.1
  obtain ⟨okm, okl⟩ := bkTA_ok hN (s := s) hu
  have hsubl : (bkTB N s u).Sublist (bkTA N s u) := by rw [bkTB_A]; exact List.filter_sublist
  have hlen : (bkTB N s u).length ≤ 36 := bkCd_len _ _ _
  have hB72 : ∀ w, w ∈ bkTB N s u → 0 ≤ w ∧ w < 72 := fun w hw => by
    have := okm w (hsubl.subset hw)
    rcases hu with rfl | rfl <;> omega
  rw [← bkTF_eq hN hf]
  generalize hT : bkTm (bkTF N f s (bkTB N s u)) = o
  rw [E_78, S34]
  refine ⟨rfl, ?_⟩
  intro M4 hM4 M5 hM5
  have F5 : bkFr bkA78 M M5 := by rw [hM5, hM4]; exact bkFr_up (bkFr_up (bkFr_cpy (bkFr_refl _ _) (by unfold bkA78; omega)) (by unfold bkA78; omega)) (by unfold bkA78; omega)
  have R5 : bkRel M5 p N := bkRel_fr hR fun k hk => F5 k p (by unfold bkA78; omega)
  have G5 : ∀ c, 0 ≤ c → c < 36 → M5 45 1 c = bkRL N [] (85 + c) := fun c q1 q2 => by
    rw [bkRL_nil, hM5, bk_up_f (by decide), hM4, bk_up_f (by decide), bk_cpy_at, if_pos (by omega), Int.zero_add, Int.sub_zero, c3 c q1 q2]
  have e10 : M5 7 0 10 = f := by rw [hM5, bk_up_s (by decide), hM4, bk_up_e]
  have e11 : M5 7 0 11 = s := by rw [hM5, bk_up_e]
  have e7 : ∀ j, j ≠ 10 → j ≠ 11 → M5 7 0 j = M 7 0 j := fun j q1 q2 => by rw [hM5, bk_up_s q2, hM4, bk_up_s q1, bk_cpy_o (by omega)]
  have loop : ∀ (M6 : bk_M) (v6 : bk_V), bkFr bkA78 M M6 → (∀ j, j ≠ 8 → j ≠ 10 → j ≠ 11 → M6 7 0 j = M 7 0 j) → M6 7 0 10 = f → M6 7 0 11 = s → M6 40 0 = M 40 0 → (∀ c, 0 ≤ c → c < 36 → M6 45 1 c = bkRL N [] (85 + c)) → bkWsL M6 (bkTB N s u) →
      bk_wp (bk_C (d + 7)) P_78 (fun t r M' => t = 0 ∧ bkFr bkA78 M M' ∧ (∀ j, j ≠ 1 → j ≠ 8 → j ≠ 10 → j ≠ 11 → M' 7 0 j = M 7 0 j) ∧ r = bkTempR o ∧ bkTempK o (M 7 0 1) (M 40 0) (M' 7 0 1) (M' 40 0)) 0 52 [bk_c 7 0, bk_c 5 p, bk_i f, bk_i s, bk_i (if u = 1 then 1 else -1), bk_i 0, v6] [] M6 := by
    intro M6 v6 F6 k7 k10 k11 k40 G6 W6
    have key := bk_loopS (W := fun n M7 => ∀ v6, bk_wp (bk_C (d + 7)) P_78 (fun t r M' => t = 0 ∧ bkFr bkA78 M M' ∧ (∀ j, j ≠ 1 → j ≠ 8 → j ≠ 10 → j ≠ 11 → M' 7 0 j = M 7 0 j) ∧ r = bkTempR o ∧ bkTempK o (M 7 0 1) (M 40 0) (M' 7 0 1) (M' 40 0)) 0 52 [bk_c 7 0, bk_c 5 p, bk_i f, bk_i s, bk_i (if u = 1 then 1 else -1), bk_i n, v6] [] M7) (s := 0) (n := 4)
      (fun n M7 => bkFr bkA81 M6 M7 ∧ (∀ c, 0 ≤ c → c < 36 → M7 45 1 c = bkRL N [] (85 + c)) ∧ ∀ k : Nat, (k : Int) < n → bkTF N f s (bkTB N s u) k = none) (by omega) ?_ ?_ (M := M6) ⟨bkFr_refl _ _, G6, fun k hk => absurd hk (by omega)⟩
    · exact key _
    · rintro n M7 h0 h1 ⟨F7, G7, U⟩ ih v6
      have m7 : M7 7 0 = M6 7 0 := F7 7 0 (by unfold bkA81; omega)
      have W7 : bkWsL M7 (bkTB N s u) := ⟨by rw [m7]; exact W6.1, fun i hi => by rw [F7 43 0 (by unfold bkA81; omega)]; exact W6.2 i hi⟩
      have R7 : bkRel M7 p N := bkRel_fr (bkRel_fr hR fun k hk => F6 k p (by unfold bkA78; omega)) fun k hk => F7 k p (by unfold bkA81; omega)
      rw [LG_78_52]
      refine ⟨fun z => absurd z (by omega), fun _ => ?_⟩
      have call := S81 (p := p) (N := N) (f := f) (s := s) (A := bkTB N s u) hf (by omega) hB72 n.toNat (d + 7 - (n.toNat + 4)) [] 0 M7 R7 (by rw [m7]; exact k10) (by rw [m7]; exact k11) W7 (by show 0 + n.toNat ≤ 3; omega) (fun l hl => okl _ (hl.trans hsubl)) (by omega) G7 (fun i hi => absurd hi (by simp))
      rw [show d + 7 - (n.toNat + 4) + n.toNat + 4 = d + 7 by omega, show (([] : List Int).length : Int) = 0 by rfl, show ((([] : List Int).length + n.toNat : Nat) : Int) = n by show ((0 + n.toNat : Nat) : Int) = n; omega] at call
      refine bk_use (P := fun r M' => _) (call) ?_
      rintro r M8 ⟨F8, G8, -, T8⟩
      have F68 : bkFr bkA81 M6 M8 := bkFr_trans F7 F8
      have hF : (bkCmb ((bkTB N s u).drop 0) n.toNat).find? (fun l => bkTs N f s ([] ++ l)) = bkTF N f s (bkTB N s u) n.toNat := rfl
      rw [hF] at T8
      unfold bk_r32
      cases hc : bkTF N f s (bkTB N s u) n.toNat with
      | none =>
        rw [hc] at T8
        refine ⟨rfl, fun _ => ⟨by omega, ih M8 ⟨F68, G8, fun k hk => ?_⟩ _⟩, fun z => absurd T8 z⟩
        by_cases e : (k : Int) = n
        · rw [show k = n.toNat by omega]; exact hc
        · exact U k (by omega)
      | some l =>
        rw [hc] at T8
        refine ⟨rfl, fun z => absurd z (by have := T8.1; omega), fun _ => ?_⟩
        have ho : o = some l := by
          rw [← hT]
          exact bkTm_some (fun k hk => U k (by omega)) hc (by omega)
        have hml := (bkCmb_mem _ _ _).1 (List.mem_of_find?_eq_some hc)
        have hnl : n = l.length := by omega
        rw [hnl]
        refine L78_77 (by omega) (fun i hi => ⟨T8.2 i hi, ?_⟩) (fun M' F' q7 q1 q40 => ?_)
        · have : l.getD i 0 ∈ l := by simp [hi]
          exact (hB72 _ (hml.1.subset this)).1
        · refine ⟨rfl, ?_, fun j w1 w8 w10 w11 => ?_, ?_, ?_⟩
          · refine bkFr_trans F6 (bkFr_trans (bkFr_mono F68 fun k a w => ?_) (bkFr_mono F' fun k a w => ?_))
            · unfold bkA81 at w; unfold bkA78; omega
            · unfold bkA78; omega
          · rw [q7 j w1, F68 7 0 (by unfold bkA81; omega)]; exact k7 j w8 w10 w11
          · rw [ho]; rfl
          · rw [ho]
            exact ⟨by omega, q1, q40⟩
    · rintro M7 ⟨F7, G7, U⟩ v6
      have ho : o = none := by
        rw [← hT]
        exact bkTm_none fun k hk => U k (by omega)
      have m7 : M7 7 0 = M6 7 0 := F7 7 0 (by unfold bkA81; omega)
      rw [LG_78_52]
      refine ⟨fun _ => ⟨rfl, bkFr_trans F6 (bkFr_mono F7 fun k a w => by unfold bkA81 at w; unfold bkA78; omega), fun j w1 w8 w10 w11 => by rw [m7]; exact k7 j w8 w10 w11, by rw [ho]; rfl, ?_⟩, fun z => absurd (by omega) z⟩
      rw [ho]
      exact ⟨by rw [m7]; exact k7 1 (by decide) (by decide) (by decide), by rw [F7 40 0 (by unfold bkA81; omega), k40]⟩
  have fin : ∀ (a b : Int), b = 36 * u + 36 → b - a = 36 → 0 ≤ a ∧ a ≤ b ∧ b ≤ 72 → bk_C (d + 7) 0 79 [bk_c 7 0, bk_c 5 p, bk_i s, bk_i a, bk_i b] M5 (fun t8 r6 M7 => t8 = 0 ∧ bk_wp (bk_C (d + 7)) P_78 (fun t r M' => t = 0 ∧ bkFr bkA78 M M' ∧ (∀ j, j ≠ 1 → j ≠ 8 → j ≠ 10 → j ≠ 11 → M' 7 0 j = M 7 0 j) ∧ r = bkTempR o ∧ bkTempK o (M 7 0 1) (M 40 0) (M' 7 0 1) (M' 40 0)) 0 52 [bk_c 7 0, bk_c 5 p, bk_i f, bk_i s, bk_i (if u = 1 then 1 else -1), bk_i 0, bk_x] [] M7) := by
    intro a b hb hab hr
    refine bk_use (S79 (d := d + 4) R5 G5 hs hr) ?_
    rintro r M6 ⟨F6, k7, W6⟩
    rw [bkRL_nil, hb, show (36 * u + 36 - a).toNat = 36 by omega] at W6
    refine ⟨rfl, loop M6 _ (bkFr_trans F5 (bkFr_mono F6 fun k a w => by unfold bkA78; omega)) (fun j w8 w10 w11 => ?_) ?_ ?_ ?_ (fun c q1 q2 => ?_) W6⟩
    · rw [k7 j w8]; exact e7 j w10 w11
    · rw [k7 10 (by decide)]; exact e10
    · rw [k7 11 (by decide)]; exact e11
    · rw [F6 40 0 (by omega), hM5, bk_up_f (by decide), hM4, bk_up_f (by decide), bk_cpy_o (by omega)]
    · rw [F6 45 1 (by omega)]; exact G5 c q1 q2
  rcases hu with rfl | rfl
  · rw [if_neg (by decide)] at fin ⊢
    exact ⟨fun z => absurd rfl z, fun _ => ⟨fun z => absurd rfl z, fun _ => fin 0 36 (by omega) (by omega) (by omega)⟩⟩
  · rw [if_pos rfl] at fin ⊢
    exact ⟨fun _ => ⟨fun _ => fin 36 72 (by omega) (by omega) (by omega), fun z => absurd (by decide) z⟩, fun z => absurd (by decide) z⟩
def bkTemp (N : Int → Int) (f s u : Int) : Option (List Int) := if 0 ≤ f ∧ f < N 0 ∧ 0 ≤ s ∧ s ≤ 1 ∧ 0 ≤ u ∧ u ≤ 1 then bkTm (bkTF N f s (bkTA N s u)) else none
theorem S76 {d p : Nat} {f s u : Int} {M : bk_M} {N : Int → Int} (hR : bkRel M p N) (hp : (M 11 0 1).toNat = p) :
    bk_C (d + 9) 0 76 [bk_c 11 0, bk_i f, bk_i s, bk_i u] M (fun t r M' => t = 0 ∧ bkFr bkA78 M M' ∧ (∀ j, j ≠ 1 → j ≠ 8 → j ≠ 10 → j ≠ 11 → M' 7 0 j = M 7 0 j) ∧ r = bkTempR (bkTemp N f s u) ∧ bkTempK (bkTemp N f s u) (M 7 0 1) (M 40 0) (M' 7 0 1) (M' 40 0)) := by
  have hbad : ¬ (0 ≤ f ∧ f < N 0 ∧ 0 ≤ s ∧ s ≤ 1 ∧ 0 ≤ u ∧ u ≤ 1) → (0 : Nat) = 0 ∧ bkFr bkA78 M M ∧ (∀ j, j ≠ 1 → j ≠ 8 → j ≠ 10 → j ≠ 11 → M 7 0 j = M 7 0 j) ∧ -1 = bkTempR (bkTemp N f s u) ∧ bkTempK (bkTemp N f s u) (M 7 0 1) (M 40 0) (M 7 0 1) (M 40 0) := fun w => by
    have e : bkTemp N f s u = none := if_neg w
    rw [e]
    exact ⟨rfl, bkFr_refl _ _, fun _ _ _ _ _ => rfl, rfl, rfl, rfl⟩
  rw [E_76, S77 hp, hR.2.1.1, S47, hp]
  by_cases hf : 0 ≤ f ∧ f < N 0
  · rw [if_pos hf]
    refine ⟨rfl, fun z => absurd z (by decide), fun _ => ?_⟩
    by_cases hs : 0 ≤ s ∧ s ≤ 1
    · rw [if_pos hs]
      refine ⟨rfl, fun z => absurd z (by decide), fun _ => ⟨fun z => hbad (by omega), fun z => ⟨fun z2 => ?_, fun z2 => hbad (by omega)⟩⟩⟩
      have e : bkTemp N f s u = bkTm (bkTF N f s (bkTA N s u)) := if_pos ⟨hf.1, hf.2, hs.1, hs.2, by omega, by omega⟩
      rw [e]
      have hu : u = 0 ∨ u = 1 := by omega
      have call := S78 (d := d) hR hf hs hu
      refine ⟨fun z3 => ?_, fun z3 => ?_⟩
      · rw [if_neg z3] at call
        exact bk_use (P := fun r M' => _) call fun r M' h => ⟨rfl, rfl, h⟩
      · rw [if_pos (Decidable.not_not.1 z3)] at call
        exact bk_use (P := fun r M' => _) call fun r M' h => ⟨rfl, rfl, h⟩
    · rw [if_neg hs]
      exact ⟨rfl, fun _ => hbad (fun w => hs ⟨w.2.2.1, w.2.2.2.1⟩), fun z => absurd rfl z⟩
  · rw [if_neg hf]
    exact ⟨rfl, fun _ => hbad (fun w => hf ⟨w.1, w.2.1⟩), fun z => absurd rfl z⟩
