/-! The class tries works for a field. -/
def bkLeg (N : Int → Int) (L : List Int) : Prop := ∀ c, 0 ≤ c → c < 36 → 0 ≤ N (85 + c) + bkDl L c ∧ N (85 + c) + bkDl L c ≤ 9
theorem bkDl_none {c : Int} : ∀ {L : List Int}, (∀ w, w ∈ L → w % 36 ≠ c) → bkDl L c = 0
  | [], _ => rfl
  | w :: L, h => by
    show (if c = w % 36 then bkWk w else 0) + bkDl L c = 0
    rw [if_neg (fun e => h w (List.mem_cons_self ..) e.symm), bkDl_none fun v hv => h v (List.mem_cons_of_mem _ hv)]
    rfl
theorem bkDl_one {c w : Int} : ∀ {L : List Int}, L.Pairwise (fun a b => a % 36 ≠ b % 36) → w ∈ L → w % 36 = c → bkDl L c = bkWk w
  | v :: L, h, hw, e => by
    rw [List.pairwise_cons] at h
    show (if c = v % 36 then bkWk v else 0) + bkDl L c = bkWk w
    cases hw with
    | head =>
      rw [if_pos e.symm, bkDl_none fun u hu q => h.1 u hu (by omega)]
      omega
    | tail _ hw =>
      rw [if_neg (fun q => h.1 w hw (by omega)), bkDl_one h.2 hw e]
      omega
theorem bkLeg_of {N : Int → Int} (hN : bkMd N) {s : Int} {L : List Int} (hp : L.Pairwise (fun a b => a % 36 ≠ b % 36)) (hm : ∀ w, w ∈ L → 0 ≤ w ∧ w < 72 ∧ bkMay N s w = true) : bkLeg N L := by
  intro c h0 h1
  have h8 := hN.2.2.2.2.2.2.2.1 c h0 h1
  by_cases z : ∃ w, w ∈ L ∧ w % 36 = c
  · obtain ⟨w, hw, e⟩ := z
    rw [bkDl_one hp hw e]
    have := (hm w hw).2.2
    unfold bkMay at this
    simp only [decide_eq_true_eq] at this
    rw [e] at this
    have h9 := this.2.2.2
    unfold bkWk
    split at h9
    · rw [if_pos (by assumption)]; omega
    · rw [if_neg (by assumption)]; omega
  · rw [bkDl_none fun w hw e => z ⟨w, hw, e⟩]
    omega
theorem bkCd_pair (p : Int → Bool) (top : Int) : ∀ k : Nat, (bkCd p top k).Pairwise (· < ·)
  | 0 => List.Pairwise.nil
  | k + 1 => by
    have ih := bkCd_pair p top k
    show (if p (top - (k + 1)) then (top - (k + 1)) :: bkCd p top k else bkCd p top k).Pairwise _
    split
    · rw [List.pairwise_cons]
      exact ⟨fun w hw => by have := bkCd_mem p top k w hw; omega, ih⟩
    · exact ih
theorem bkMd_RL {N : Int → Int} (hN : bkMd N) {L : List Int} (hL : bkLeg N L) : bkMd (bkRL N L) := by
  obtain ⟨n1, n2, n3, n4, n5, n6, n7, n8, n9, n10, n11, n12, n13, n14⟩ := hN
  unfold bkMd
  rw [bkRL_o (j := 2) (by omega), bkRL_o (j := 3) (by omega), bkRL_o (j := 4) (by omega), bkRL_o (j := 5) (by omega), bkRL_o (j := 0) (by omega), bkRL_o (j := 1) (by omega), bkRL_o (j := 80) (by omega), bkRL_o (j := 194) (by omega)]
  refine ⟨n1, n2, n3, n4, n5, n6, n7, fun c h0 h1 => ?_, fun y h0 h1 => ?_, fun f h0 h1 => ?_, fun m h0 h1 => ?_, fun s h0 h1 => ?_, fun f h0 h1 h2 => ?_, n14⟩
  · rw [bkRL_c h0 h1]; exact hL c h0 h1
  · rw [bkRL_bed h0]; exact n9 y h0 h1
  · rw [bkRL_o (j := 42 + f) (by omega), bkRL_o (j := 52 + f) (by omega), bkRL_o (j := 62 + f) (by omega), bkRL_o (j := 136 + f) (by omega)]; exact n10 f h0 h1
  · rw [bkRL_o (j := 127 + m) (by omega), bkRL_o (j := 130 + m) (by omega)]; exact n11 m h0 h1
  · rw [bkRL_o (j := 81 + s) (by omega)]; exact n12 s h0 h1
  · rw [bkRL_o (j := 136 + f) (by omega)]; exact n13 f h0 h1 h2
theorem S35L {d i p : Nat} {M : bk_M} {N : Int → Int} {L : List Int} (hR : bkRel M p N) (hg : ∀ c, 0 ≤ c → c < 36 → M 45 i c = bkRL N L (85 + c)) (hL : bkLeg N L) :
    bk_C (d + 2) 0 35 [bk_c 8 i, bk_c 5 p] M (fun t _ M' => t = 0 ∧ bkFr (bkA35 i) M M' ∧ ∀ y, 0 ≤ y → y < N 3 → M' 46 i y = bkWould (bkRL N L) y) := by
  have hN := bkRel_md hR
  have hNL := bkMd_RL hN hL
  obtain ⟨n1, n2, n3, -⟩ := hN
  obtain ⟨b1, b2, b3, b4, b5, b6, b7⟩ := hR.2.1
  have e45 : ∀ y x, 0 ≤ y → y < N 3 → 0 ≤ x → x < N 2 → M 45 i (6 * y + x) = bkG0 (bkRL N L) (6 * y + x) := fun y x z1 z2 z3 z4 => hg _ (by omega) (by omega)
  have hgr : bkGr (M 45 i) (M 5 p 0) (M 5 p 1) := by
    rw [b3, b4]
    intro y x z1 z2 z3 z4
    rw [e45 y x z1 z2 z3 z4]
    exact bkG0_b hNL y x z1 (by rw [bkRL_o (by omega)]; exact z2) z3 (by rw [bkRL_o (by omega)]; exact z4)
  refine bk_use (P := fun _ M' => bkRan M i p M') (S35 (d := d) hR.1 hgr) ?_
  rintro r M2 ⟨F2, o8, T, B⟩
  rw [b3, b4, b5] at B
  refine ⟨rfl, F2, fun y z1 z2 => ?_⟩
  rw [B y z1 z2, ← bkWould_e, bkRL_o (j := 2) (by omega), bkRL_o (j := 3) (by omega), bkRL_o (j := 4) (by omega)]
  have e := bkBd_eq (f := M 45 i) (g := bkG0 (bkRL N L)) (W := N 2) (H := N 3) (S := N 4) (by omega) (by omega) e45 y.toNat (by omega)
  rw [Int.toNat_of_nonneg z1] at e
  exact e
/-- so many works give field f to side s -/
def bkTs (N : Int → Int) (f s : Int) (L : List Int) : Bool := decide (bkSide (N (42 + f)) (bkWould (bkRL N L) (N (52 + f))) = s)
def bkA81 (k a : Nat) : Prop := ((k = 8 ∨ k = 45 ∨ k = 46 ∨ k = 47 ∨ k = 48) ∧ a = 1) ∨ (k = 44 ∧ a = 0)
/-- what a search told: nothing, or the works that it picked -/
def bkTold (r : Int) (T : Int → Int) (acc : List Int) : Option (List Int) → Prop
  | none => r = 0
  | some l => r = 1 ∧ ∀ i : Nat, i < (acc ++ l).length → T i = (acc ++ l).getD i 0
theorem LG_81_24 {d : Nat} {Q : bk_Q} (i1 : Nat) (x2 : Int) (x3 : Int) (x4 : Int) (x5 : Int) (v6 : bk_V) (M : bk_M) : bk_wp (bk_C d) P_81 Q 0 24 [bk_c 7 0, bk_c 5 i1, bk_i x2, bk_i x3, bk_i x4, bk_i x5, v6] [] M ↔ ((M 7 0 (8 : Int) ≤ x5 → ((0 : Int) = 0 ∨ (0 : Int) = 1) ∧ Q 0 (0 : Int) M) ∧ (¬ (M 7 0 (8 : Int) ≤ x5) → ((0 : Int) ≤ x5 ∧ x5 < (72 : Int)) ∧ ((0 : Int) ≤ x2 ∧ x2 < (3 : Int)) ∧ ∀ M1 : bk_M, M1 = bk_up M 44 0 x2 (M 43 0 x5) → ((0 : Int) ≤ x5 ∧ x5 < (72 : Int)) ∧ bk_C d 0 82 [bk_c 7 0, bk_i (M1 43 0 x5)] M1 (fun t4 r2 M3 => t4 = 0 ∧ bk_r32 (x2 + (1 : Int)) ∧ bk_r32 (x5 + (1 : Int)) ∧ bk_C d 0 81 [bk_c 7 0, bk_c 5 i1, bk_i (x2 + (1 : Int)), bk_i x3, bk_i (x5 + (1 : Int))] M3 (fun t7 r5 M6 => t7 = 0 ∧ ((0 : Int) ≤ x5 ∧ x5 < (72 : Int)) ∧ bk_C d 0 83 [bk_c 7 0, bk_i (M6 43 0 x5)] M6 (fun t10 r8 M9 => t10 = 0 ∧ ((r5 = (0 : Int) → bk_r32 (x5 + (1 : Int)) ∧ bk_wp (bk_C d) P_81 Q 0 24 [bk_c 7 0, bk_c 5 i1, bk_i x2, bk_i x3, bk_i x4, bk_i (x5 + (1 : Int)), bk_i r5] [] M9) ∧ (¬ (r5 = (0 : Int)) → ((1 : Int) = 0 ∨ (1 : Int) = 1) ∧ Q 0 (1 : Int) M9))))))) := bk_iff [24] 40
theorem LG_78_52 {d : Nat} {Q : bk_Q} (i1 : Nat) (x2 : Int) (x3 : Int) (x4 : Int) (x5 : Int) (v6 : bk_V) (M : bk_M) : bk_wp (bk_C d) P_78 Q 0 52 [bk_c 7 0, bk_c 5 i1, bk_i x2, bk_i x3, bk_i x4, bk_i x5, v6] [] M ↔ (((3 : Int) < x5 → Q 0 (-1 : Int) M) ∧ (¬ ((3 : Int) < x5) → bk_C d 0 81 [bk_c 7 0, bk_c 5 i1, bk_i (0 : Int), bk_i x5, bk_i (0 : Int)] M (fun t3 r1 M2 => t3 = 0 ∧ ((r1 = (0 : Int) → bk_r32 (x5 + (1 : Int)) ∧ bk_wp (bk_C d) P_78 Q 0 52 [bk_c 7 0, bk_c 5 i1, bk_i x2, bk_i x3, bk_i x4, bk_i (x5 + (1 : Int)), v6] [] M2) ∧ (¬ (r1 = (0 : Int)) → bk_wp (bk_C d) P_78 Q 0 77 [bk_c 7 0, bk_c 5 i1, bk_i x2, bk_i x3, bk_i x4, bk_i x5, bk_i (0 : Int)] [] M2))))) := bk_iff [52, 77] 40
theorem bk_find_cons {P : List Int → Bool} {a : Int} {A B : List (List Int)} {acc : List Int} (h : A.find? (fun l => P ((acc ++ [a]) ++ l)) = none) : ((A.map (a :: ·)) ++ B).find? (fun l => P (acc ++ l)) = B.find? (fun l => P (acc ++ l)) := by
  rw [List.find?_append, List.find?_map]
  have : A.find? ((fun l => P (acc ++ l)) ∘ fun x => a :: x) = none := by
    rw [← h]
    congr 1
    funext l
    show P (acc ++ a :: l) = P ((acc ++ [a]) ++ l)
    rw [List.append_assoc]
    rfl
  rw [this]
  rfl
theorem bk_find_cons1 {P : List Int → Bool} {a : Int} {A B : List (List Int)} {acc l : List Int} (h : A.find? (fun l => P ((acc ++ [a]) ++ l)) = some l) : ((A.map (a :: ·)) ++ B).find? (fun l => P (acc ++ l)) = some (a :: l) := by
  rw [List.find?_append, List.find?_map]
  have : A.find? ((fun l => P (acc ++ l)) ∘ fun x => a :: x) = some l := by
    rw [← h]
    congr 1
    funext l
    show P (acc ++ a :: l) = P ((acc ++ [a]) ++ l)
    rw [List.append_assoc]
    rfl
  rw [this]
  rfl
theorem bk_drop {A : List Int} {i : Nat} (h : i < A.length) : A.drop i = A.getD i 0 :: A.drop (i + 1) := by
  rw [List.drop_eq_getElem_cons h]
  simp [h]
theorem S81 {p : Nat} {N : Int → Int} {f s : Int} {A : List Int} (hf : 0 ≤ f ∧ f < N 0) (hA72 : A.length ≤ 72) (hA : ∀ w, w ∈ A → 0 ≤ w ∧ w < 72) : ∀ (m d : Nat) (acc : List Int) (fr : Nat) (M : bk_M),
    bkRel M p N → M 7 0 10 = f → M 7 0 11 = s → bkWsL M A → acc.length + m ≤ 3 → (∀ l, l.Sublist (A.drop fr) → bkLeg N (acc ++ l)) → fr ≤ A.length →
    (∀ c, 0 ≤ c → c < 36 → M 45 1 c = bkRL N acc (85 + c)) → (∀ i : Nat, i < acc.length → M 44 0 i = acc.getD i 0) →
    bk_C (d + m + 4) 0 81 [bk_c 7 0, bk_c 5 p, bk_i acc.length, bk_i ((acc.length + m : Nat) : Int), bk_i fr] M (fun t r M' => t = 0 ∧ bkFr bkA81 M M' ∧ (∀ c, 0 ≤ c → c < 36 → M' 45 1 c = bkRL N acc (85 + c)) ∧ (∀ i : Nat, i < acc.length → M' 44 0 i = acc.getD i 0) ∧ bkTold r (M' 44 0) acc ((bkCmb (A.drop fr) m).find? fun l => bkTs N f s (acc ++ l))) := by
  intro m
  induction m with
  | zero =>
    intro d acc fr M hR h10 h11 hW hlen hL hfr hg hpk
    have hN := bkRel_md hR
    obtain ⟨n1, n2, n3, n4, n5, n6, n7, n8, n9, n10, -⟩ := id hN
    have q := n10 f hf.1 hf.2
    have hacc : bkLeg N acc := by have := hL [] (List.nil_sublist _); rwa [List.append_nil] at this
    have b7 := hR.2.1.2.2.2.2.2.2 f hf.1 (by rw [hR.2.1.1]; exact hf.2)
    rw [E_81]
    refine ⟨fun _ => ?_, fun z => absurd (by omega) z⟩
    rw [E_284]
    refine bk_use (S35L (d := d) hR hg hacc) ?_
    rintro r M2 ⟨F, B⟩
    have e7 : M2 7 0 = M 7 0 := F 7 0 (by unfold bkA35; omega)
    have e30 : M2 30 p = M 30 p := F 30 p (by unfold bkA35; omega)
    have hb : bkBank (M2 46 1) (M 30 p f) = bkSide (N (42 + f)) (bkWould (bkRL N acc) (N (52 + f))) := by
      rw [b7.1, bkBank_side (by omega) (by omega), B _ (by omega) (by omega)]
    rw [e7, h10, e30, S41 (.inr rfl) (by omega) (by omega), hb]
    have F' : bkFr bkA81 M M2 := bkFr_mono F fun k a w => by unfold bkA35 at w; unfold bkA81; omega
    have g' : ∀ c, 0 ≤ c → c < 36 → M2 45 1 c = bkRL N acc (85 + c) := fun c q1 q2 => by rw [F 45 1 (by unfold bkA35; omega)]; exact hg c q1 q2
    have p' : ∀ i : Nat, i < acc.length → M2 44 0 i = acc.getD i 0 := fun i hi => by rw [F 44 0 (by unfold bkA35; omega)]; exact hpk i hi
    rw [bkCmb_0, List.find?_cons, List.append_nil]
    refine ⟨rfl, by omega, rfl, fun z => ⟨.inl rfl, rfl, .inl rfl, rfl, F', g', p', ?_⟩, fun z => ⟨.inr rfl, rfl, .inr rfl, rfl, F', g', p', ?_⟩⟩
    · rw [e7, h11] at z
      have : bkTs N f s acc = false := by unfold bkTs; simp [z]
      rw [this]
      exact rfl
    · rw [e7, h11] at z
      have : bkTs N f s acc = true := by unfold bkTs; simp; exact Decidable.not_not.1 z
      rw [this]
      refine ⟨rfl, fun i hi => ?_⟩
      rw [List.append_nil] at hi ⊢
      exact p' i hi
  | succ m ih =>
    intro d acc fr M hR h10 h11 hW hlen hL hfr hg hpk
    have hN := bkRel_md hR
    have n8 := hN.2.2.2.2.2.2.2.1
    rw [E_81]
    refine ⟨fun z => absurd z (by omega), fun _ => ⟨fun _ => ?_, fun z => absurd (by omega) z⟩⟩
    have key := bk_loopS (W := fun k M1 => ∀ v6, bk_wp (bk_C (d + (m + 1) + 3)) P_81 (fun t r M' => t = 0 ∧ bkFr bkA81 M M' ∧ (∀ c, 0 ≤ c → c < 36 → M' 45 1 c = bkRL N acc (85 + c)) ∧ (∀ i : Nat, i < acc.length → M' 44 0 i = acc.getD i 0) ∧ bkTold r (M' 44 0) acc ((bkCmb (A.drop fr) (m + 1)).find? fun l => bkTs N f s (acc ++ l))) 0 24 [bk_c 7 0, bk_c 5 p, bk_i acc.length, bk_i ((acc.length + (m + 1) : Nat) : Int), bk_i fr, bk_i k, v6] [] M1) (s := (fr : Int)) (n := (A.length : Int))
      (fun k M1 => bkFr bkA81 M M1 ∧ (∀ c, 0 ≤ c → c < 36 → M1 45 1 c = bkRL N acc (85 + c)) ∧ (∀ i : Nat, i < acc.length → M1 44 0 i = acc.getD i 0) ∧ (bkCmb (A.drop fr) (m + 1)).find? (fun l => bkTs N f s (acc ++ l)) = (bkCmb (A.drop k.toNat) (m + 1)).find? (fun l => bkTs N f s (acc ++ l))) (by omega) ?_ ?_ (M := M) ⟨bkFr_refl _ _, hg, hpk, by rw [Int.toNat_natCast]⟩
    · exact key _
    · rintro k M1 h0 h1 ⟨F, G, P, E⟩ ih2 v6
      have hk : k.toNat < A.length := by omega
      have ek : ((k.toNat : Nat) : Int) = k := by omega
      have e7 : M1 7 0 = M 7 0 := F 7 0 (by unfold bkA81; omega)
      have e43 : M1 43 0 = M 43 0 := F 43 0 (by unfold bkA81; omega)
      have hw : 0 ≤ A.getD k.toNat 0 ∧ A.getD k.toNat 0 < 72 := by
        refine hA _ ?_
        simp [hk]
      have e43k : M 43 0 k = A.getD k.toNat 0 := by have := hW.2 k.toNat hk; rwa [ek] at this
      have hdrop := bk_drop hk
      have hsub : ∀ l, l.Sublist (A.drop (k.toNat + 1)) → bkLeg N ((acc ++ [A.getD k.toNat 0]) ++ l) := fun l hl => by
        rw [List.append_assoc]
        refine hL _ ?_
        have h2 : (A.getD k.toNat 0 :: l).Sublist (A.drop k.toNat) := by
          rw [hdrop]
          exact hl.cons_cons _
        refine h2.trans ?_
        rw [show k.toNat = fr + (k.toNat - fr) by omega, ← List.drop_drop]
        exact List.drop_sublist _ _
      generalize hwn : A.getD k.toNat 0 = w at *
      rw [LG_81_24, e7, hW.1, e43, e43k]
      unfold bk_r32
      refine ⟨fun z => absurd z (by omega), fun _ => ⟨by omega, by omega, ?_⟩⟩
      intro M2 hM2
      have F2 : bkFr bkA81 M M2 := by rw [hM2]; exact bkFr_up F (by unfold bkA81; omega)
      have e43' : M2 43 0 k = w := by rw [hM2, bk_up_f (by decide), e43, e43k]
      have G2 : ∀ c, 0 ≤ c → c < 36 → M2 45 1 c = bkRL N acc (85 + c) := fun c q1 q2 => by rw [hM2, bk_up_f (by decide)]; exact G c q1 q2
      have hacc : bkLeg N acc := by have := hL [] (List.nil_sublist _); rwa [List.append_nil] at this
      have hcell : -99 ≤ M2 45 1 (w % 36) ∧ M2 45 1 (w % 36) ≤ 99 := by
        rw [G2 _ (by omega) (by omega), bkRL_c (by omega) (by omega)]
        have := hacc (w % 36) (by omega) (by omega)
        omega
      rw [e43', S82 hw hcell]
      refine ⟨by omega, rfl, by omega, by omega, ?_⟩
      have F3 : bkFr bkA81 M (bk_up M2 45 1 (w % 36) (M2 45 1 (w % 36) + bkWk w)) := bkFr_up F2 (by unfold bkA81; omega)
      have G3 : ∀ c, 0 ≤ c → c < 36 → bk_up M2 45 1 (w % 36) (M2 45 1 (w % 36) + bkWk w) 45 1 c = bkRL N (acc ++ [w]) (85 + c) := fun c q1 q2 => by
        rw [bk_up_w, bkRL_c q1 q2, bkDl_app]
        show _ = N (85 + c) + (bkDl acc c + ((if c = w % 36 then bkWk w else 0) + 0))
        by_cases e : c = w % 36
        · rw [if_pos e, if_pos e, ← e, G2 c q1 q2, bkRL_c q1 q2]; omega
        · rw [if_neg e, if_neg e, G2 c q1 q2, bkRL_c q1 q2]; omega
      have P3 : ∀ i : Nat, i < (acc ++ [w]).length → bk_up M2 45 1 (w % 36) (M2 45 1 (w % 36) + bkWk w) 44 0 i = (acc ++ [w]).getD i 0 := fun i hi => by
        rw [bk_up_f (by decide), hM2, bk_up_w]
        rw [List.length_append] at hi
        by_cases e : i = acc.length
        · rw [if_pos (by omega), e]; simp
        · have hi2 : i < acc.length := by simp only [List.length_cons, List.length_nil] at hi; omega
          rw [if_neg (by omega), P i hi2]
          simp [List.getD_eq_getElem?_getD, List.getElem?_append_left hi2]
      have hw3 : bkWsL (bk_up M2 45 1 (w % 36) (M2 45 1 (w % 36) + bkWk w)) A := by
        refine ⟨?_, fun i hi => ?_⟩
        · rw [F3 7 0 (by unfold bkA81; omega)]; exact hW.1
        · rw [F3 43 0 (by unfold bkA81; omega)]; exact hW.2 i hi
      have R3 : bkRel (bk_up M2 45 1 (w % 36) (M2 45 1 (w % 36) + bkWk w)) p N := bkRel_fr hR fun q hq => F3 q p (by unfold bkA81; omega)
      have call := ih d (acc ++ [w]) (k.toNat + 1) _ R3 (by rw [F3 7 0 (by unfold bkA81; omega)]; exact h10) (by rw [F3 7 0 (by unfold bkA81; omega)]; exact h11) hw3 (by simp only [List.length_append, List.length_cons, List.length_nil]; omega) hsub (by omega) G3 P3
      rw [show ((acc ++ [w]).length : Int) = (acc.length : Int) + 1 by simp, show (((acc ++ [w]).length + m : Nat) : Int) = ((acc.length + (m + 1) : Nat) : Int) by simp; omega, show ((k.toNat + 1 : Nat) : Int) = k + 1 by omega] at call
      refine bk_use (P := fun r M' => _) (call) ?_
      rintro r M4 ⟨F4, G4, P4, T4⟩
      have e43'' : M4 43 0 k = w := by rw [F4 43 0 (by unfold bkA81; omega), F3 43 0 (by unfold bkA81; omega), e43k]
      have hcell4 : -99 ≤ M4 45 1 (w % 36) ∧ M4 45 1 (w % 36) ≤ 99 := by
        rw [G4 _ (by omega) (by omega), bkRL_c (by omega) (by omega)]
        have := hsub [] (List.nil_sublist _)
        rw [List.append_nil] at this
        have := this (w % 36) (by omega) (by omega)
        omega
      have F5 : bkFr bkA81 M (bk_up M4 45 1 (w % 36) (M4 45 1 (w % 36) - bkWk w)) := bkFr_up (bkFr_trans F3 F4) (by unfold bkA81; omega)
      have G5 : ∀ c, 0 ≤ c → c < 36 → bk_up M4 45 1 (w % 36) (M4 45 1 (w % 36) - bkWk w) 45 1 c = bkRL N acc (85 + c) := fun c q1 q2 => by
        have g4 := G4 c q1 q2
        rw [bkRL_c q1 q2, bkDl_app] at g4
        have g4 : M4 45 1 c = N (85 + c) + (bkDl acc c + ((if c = w % 36 then bkWk w else 0) + 0)) := g4
        rw [bk_up_w, bkRL_c q1 q2]
        by_cases e : c = w % 36
        · rw [if_pos e] at g4
          rw [if_pos e, ← e, g4]; omega
        · rw [if_neg e] at g4
          rw [if_neg e, g4]; omega
      have P5 : ∀ i : Nat, i < acc.length → bk_up M4 45 1 (w % 36) (M4 45 1 (w % 36) - bkWk w) 44 0 i = acc.getD i 0 := fun i hi => by
        rw [bk_up_f (by decide), P4 i (by simp only [List.length_append]; omega)]
        simp [List.getD_eq_getElem?_getD, List.getElem?_append_left hi]
      have hcmb : bkCmb (A.drop k.toNat) (m + 1) = (bkCmb (A.drop (k.toNat + 1)) m).map (w :: ·) ++ bkCmb (A.drop (k.toNat + 1)) (m + 1) := by rw [hdrop]; rfl
      rw [e43'', S83 hw hcell4]
      refine ⟨rfl, by omega, rfl, fun z => ⟨by omega, ih2 _ ⟨F5, G5, P5, ?_⟩ _⟩, fun z => ⟨.inr rfl, rfl, F5, G5, P5, ?_⟩⟩
      · rw [E, hcmb, show (k + 1).toNat = k.toNat + 1 by omega]
        refine bk_find_cons ?_
        generalize (bkCmb (A.drop (k.toNat + 1)) m).find? _ = o at T4 ⊢
        cases o with
        | none => rfl
        | some l => exact absurd T4.1 (by omega)
      · rw [E, hcmb]
        generalize ho : (bkCmb (A.drop (k.toNat + 1)) m).find? (fun l => bkTs N f s ((acc ++ [w]) ++ l)) = o at T4
        cases o with
        | none => exact absurd T4 z
        | some l =>
          rw [bk_find_cons1 (P := bkTs N f s) ho]
          refine ⟨rfl, fun i hi => ?_⟩
          rw [bk_up_f (by decide), T4.2 i (by simp only [List.length_append, List.length_cons] at hi ⊢; simp only [List.length_nil]; omega), List.append_assoc]
          rfl
    · rintro M1 ⟨F, G, P, E⟩ v6
      have e7 : M1 7 0 = M 7 0 := F 7 0 (by unfold bkA81; omega)
      rw [LG_81_24, e7, hW.1]
      refine ⟨fun _ => ⟨.inl rfl, rfl, F, G, P, ?_⟩, fun z => absurd (Int.le_refl _) z⟩
      rw [E, Int.toNat_natCast, List.drop_length]
      exact rfl
