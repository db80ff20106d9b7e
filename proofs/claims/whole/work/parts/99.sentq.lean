/-! What a SENTENCE's reader keeps to. -/
theorem bkSH_n {T : Int → Int} {c L : Int} {S : Int → Int} {i : Int} (h : bkSH c S i) : bkSH c S (bkTn T c L i) := by
  have hn := @bkTn_b T c L i h.2.1
  unfold bkSH at *
  omega
theorem bkSG_seq {m : Nat} {T : Int → Int} {c L w : Int} {rd : (Int → Int) → Int → (Int × Int) ⊕ (Int × (Int → Int))} (h : bkSG m c rd) (hw : w = 14 ∨ w = 15) : bkSG m c (bkSSeq T c L rd w) := by
  intro S i hS
  have lp : ∀ (n : Nat) (S' : Int → Int) (j : Int), bkSI m c S i S' j → (∀ w' q, bkSLp T c L rd w n S' j = .inl (w', q) → c ≤ 940 → 0 ≤ q ∧ q ≤ 940) ∧ ∀ j2 S2, bkSLp T c L rd w n S' j = .inr (j2, S2) → bkSI m c S i S2 j2 := by
    intro n
    induction n with
    | zero => intro S' j hI; exact ⟨fun w' q e => (by unfold bkSLp at e; cases e; omega), fun j2 S2 e => (by unfold bkSLp at e; cases e)⟩
    | succ n ih =>
      intro S' j hI
      rw [bkSLp_s]
      have hH := bkSI_h hI hS
      have hn := @bkTn_b T c L j hH.2.1
      by_cases z : bkIsW T c L j w = true
      · rw [if_pos z]
        obtain ⟨g1, g2⟩ := h S' _ (bkSH_n (T := T) (L := L) hH)
        rcases e2 : rd S' (bkTn T c L j) with ⟨w', q⟩ | ⟨j2, S2⟩
        · exact ⟨fun w'' q' e => (by cases e; exact g1 _ _ e2), fun j2 S2 e => (by cases e)⟩
        · exact ih _ _ (bkSI_two hS hI hn.1 (g2 _ _ e2) hw)
      · rw [if_neg z]
        exact ⟨fun w' q e => (by cases e), fun j2 S2 e => (by cases e; exact hI)⟩
  unfold bkSSeq
  obtain ⟨g1, g2⟩ := h S i hS
  rcases e : rd S i with ⟨w', q⟩ | ⟨j, S'⟩
  · exact ⟨fun w'' q' e' => (by cases e'; exact g1 _ _ e), fun j2 S2 e => (by cases e)⟩
  · exact lp 30 S' j (g2 _ _ e)
theorem bkSI_in {m : Nat} {c : Int} {S S2 So : Int → Int} {i io j j2 : Int} (h : bkSI m c S i S2 j) (h0 : So 0 + 1 = S 0) (h1 : So 1 = S 1) (hq : ∀ q, 10 ≤ q → S q = So q) (hi : io ≤ i) (hj : j ≤ j2) (hc : j2 ≤ c) : bkSI m c So io S2 j2 := by
  obtain ⟨b1, b2, b3, b4, b5, b6, b7, b8, b9⟩ := h
  refine ⟨by omega, hc, by omega, by omega, by omega, by omega, fun q q0 q1 => by rw [b7 q q0 (by omega), hq q q0], fun k k0 k1 => b8 k (by omega) k1, fun l hl => ?_⟩
  exact b9 l (by rw [← h1]; exact bkRoots_e (fun q q0 _ => hq q q0) hl)
theorem bkWd_b {T : Int → Int} {c i : Int} : -1 ≤ bkWd T c i ∧ bkWd T c i ≤ 24 := by
  have := @bkIx_b (fun j => bkWt j.toNat) (bkTw 32 T c i) 25
  unfold bkWd bkWi
  omega
theorem bkSLeaf_g {f : Int → Int} {m : Nat} {T : Int → Int} {c L i : Int} {S So : Int → Int} (hL : 0 ≤ L ∧ L ≤ 940) (hS : bkSH c S i) (h0 : So 0 + 1 = S 0) (h1 : So 1 = S 1) (hq : ∀ q, 10 ≤ q → S q = So q) (hw : bkWd T c i = 6 ∨ bkWd T c i = 7 ∨ 17 ≤ bkWd T c i) : (∀ w q, bkSLeaf f m T c L S i = .inl (w, q) → c ≤ 940 → 0 ≤ q ∧ q ≤ 940) ∧ ∀ j S', bkSLeaf f m T c L S i = .inr (j, S') → bkSI m c So i S' j := by
  have hb := @bkWd_b T c i
  have n1 := @bkTn_b T c L i hS.2.1
  have n2 := @bkTn_b T c L _ n1.2
  have n3 := @bkTn_b T c L _ n2.2
  have i0 := hS.1
  have f1 : c ≤ 940 → 0 ≤ bkTf T c L (bkTn T c L i) ∧ bkTf T c L (bkTn T c L i) ≤ 940 := fun hc => bkTf_b (by omega) hc hL
  have f2 : c ≤ 940 → 0 ≤ bkTf T c L (bkTn T c L (bkTn T c L i)) ∧ bkTf T c L (bkTn T c L (bkTn T c L i)) ≤ 940 := fun hc => bkTf_b (by omega) hc hL
  unfold bkSLeaf
  by_cases z : bkWd T c i = 19 ∨ bkWd T c i = 20
  · rw [if_pos z]
    by_cases nm : bkIsW T c L (bkTn T c L i) (-1) = true
    · rw [if_pos nm]
      have ib := @bkIx_b f (bkTw 32 T c (bkTn T c L i)) m
      by_cases q : bkIx f (bkTw 32 T c (bkTn T c L i)) m = -1
      · rw [if_pos q]
        exact ⟨fun w q e => (by cases e; exact f1), fun j S' e => (by cases e)⟩
      · rw [if_neg q]
        exact ⟨fun w q e => (by cases e), fun j S' e => (by cases e; exact bkSI_one hS h0 h1 hq (by omega) (by omega) (by omega) (by omega))⟩
    · rw [if_neg nm]
      exact ⟨fun w q e => (by cases e; exact f1), fun j S' e => (by cases e)⟩
  · rw [if_neg z]
    by_cases z2 : 21 ≤ bkWd T c i
    · rw [if_pos z2]
      by_cases sg : bkTk T c L (bkTn T c L i) = 60 ∨ bkTk T c L (bkTn T c L i) = 61 ∨ bkTk T c L (bkTn T c L i) = 62
      · rw [if_pos sg]
        by_cases nu : bkTk T c L (bkTn T c L (bkTn T c L i)) = 3
        · rw [if_pos nu]
          have vb := bkTv_b nu
          exact ⟨fun w q e => (by cases e), fun j S' e => (by cases e; exact bkSI_one hS h0 h1 hq (by omega) (by omega) (by omega) (by omega))⟩
        · rw [if_neg nu]
          exact ⟨fun w q e => (by cases e; exact f2), fun j S' e => (by cases e)⟩
      · rw [if_neg sg]
        exact ⟨fun w q e => (by cases e; exact f1), fun j S' e => (by cases e)⟩
    · rw [if_neg z2]
      exact ⟨fun w q e => (by cases e), fun j S' e => (by cases e; exact bkSI_one hS h0 h1 hq (by omega) (by omega) (by omega) (by omega))⟩
theorem bkSG_one {f : Int → Int} {m : Nat} {T : Int → Int} {c L : Int} (hL : 0 ≤ L ∧ L ≤ 940) : ∀ k : Nat, bkSG m c (bkSOne f m T c L k)
  | 0 => fun S i hS => by
    have b : c ≤ 940 → 0 ≤ bkTf T c L i ∧ bkTf T c L i ≤ 940 := fun hc => bkTf_b ⟨hS.1, hS.2.1⟩ hc hL
    unfold bkSOne
    split
    · exact ⟨fun w q e => (by cases e; exact b), fun j S' e => (by cases e)⟩
    · exact ⟨fun w q e => (by cases e; exact b), fun j S' e => (by cases e)⟩
  | k + 1 => fun S i hS => by
    have ih := bkSG_one (f := f) (m := m) (T := T) (c := c) hL k
    have b : c ≤ 940 → 0 ≤ bkTf T c L i ∧ bkTf T c L i ≤ 940 := fun hc => bkTf_b ⟨hS.1, hS.2.1⟩ hc hL
    have n1 := @bkTn_b T c L i hS.2.1
    have e0 : bkPut S 0 (S 0 + 1) 0 = S 0 + 1 := bkPut_e
    have e1 : bkPut S 0 (S 0 + 1) 1 = S 1 := bkPut_o (by decide)
    have eq : ∀ q, 10 ≤ q → bkPut S 0 (S 0 + 1) q = S q := fun q q0 => bkPut_o (by omega)
    rw [bkSOne_s]
    by_cases bg : bkBeg T c L i = true
    · rw [if_neg (fun z => z bg)]
      by_cases z : 20 ≤ S 0
      · rw [if_pos z]
        exact ⟨fun w q e => (by cases e; exact b), fun j S' e => (by cases e)⟩
      rw [if_neg z]
      have hH : bkSH c (bkPut S 0 (S 0 + 1)) i := by
        unfold bkSH at *
        rw [e0, e1]
        omega
      by_cases op : bkTk T c L i = 40
      · rw [if_pos op]
        obtain ⟨g1, g2⟩ := bkSG_seq (T := T) (L := L) (bkSG_seq (T := T) (L := L) ih (.inr rfl)) (.inl rfl) _ _ (bkSH_n (T := T) (L := L) hH)
        rcases e : bkSSeq T c L (bkSSeq T c L (bkSOne f m T c L k) 15) 14 (bkPut S 0 (S 0 + 1)) (bkTn T c L i) with ⟨w', q⟩ | ⟨j, S'⟩
        · exact ⟨fun w q e' => (by cases e'; exact g1 _ _ e), fun j S' e => (by cases e)⟩
        · have hI := g2 _ _ e
          have hj : i ≤ j ∧ j ≤ c := ⟨by have := hI.1; omega, hI.2.1⟩
          have nj := @bkTn_b T c L j hj.2
          dsimp only
          by_cases cl : bkTk T c L j = 41
          · rw [if_pos cl]
            exact ⟨fun w q e => (by cases e), fun j S' e => (by cases e; exact bkSI_in hI e0.symm e1.symm eq (by omega) (by omega) (by omega))⟩
          · rw [if_neg cl]
            have i0 := hS.1
            exact ⟨fun w q e => (by cases e; exact fun hc => bkTf_b (by omega) hc hL), fun j S' e => (by cases e)⟩
      rw [if_neg op]
      by_cases nt : bkWd T c i = 16
      · rw [if_pos nt]
        obtain ⟨g1, g2⟩ := ih _ _ (bkSH_n (T := T) (L := L) hH)
        rcases e : bkSOne f m T c L k (bkPut S 0 (S 0 + 1)) (bkTn T c L i) with ⟨w', q⟩ | ⟨j, S'⟩
        · exact ⟨fun w q e' => (by cases e'; exact g1 _ _ e), fun j S' e => (by cases e)⟩
        · exact ⟨fun w q e => (by cases e), fun j S' e' => (by cases e'; exact bkSI_not (bkSH_n hH) (g2 _ _ e) e0.symm e1.symm eq (by omega))⟩
      rw [if_neg nt]
      refine bkSLeaf_g hL hH e0.symm e1.symm eq ?_
      unfold bkBeg at bg
      rw [decide_eq_true_eq] at bg
      omega
    · rw [if_pos bg]
      exact ⟨fun w q e => (by cases e; exact b), fun j S' e => (by cases e)⟩
theorem bkSTx_g {f : Int → Int} {m : Nat} {T : Int → Int} {c L : Int} (hL : 0 ≤ L ∧ L ≤ 940) (hc : 0 ≤ c ∧ c ≤ 940) : (∀ w q, bkSTx f m T c L = .inl (w, q) → 0 ≤ q ∧ q ≤ 940) ∧ ∀ j S', bkSTx f m T c L = .inr (j, S') → (1 ≤ S' 0 ∧ S' 0 ≤ 20) ∧ (1 ≤ S' 1 ∧ S' 1 ≤ 39) ∧ (∀ k, 0 ≤ k → k < S' 1 → bkNw m S' k) ∧ bkRoots S' (S' 1).toNat [S' 1 - 1] := by
  have hH : bkSH c bkS00 0 := by unfold bkSH bkS00; omega
  obtain ⟨g1, g2⟩ := bkSG_seq (T := T) (L := L) (bkSG_seq (T := T) (L := L) (bkSG_one (f := f) (m := m) (T := T) (c := c) hL 8) (.inr rfl)) (.inl rfl) _ _ hH
  unfold bkSTx
  rcases e : bkSSeq T c L (bkSSeq T c L (bkSOne f m T c L 8) 15) 14 bkS00 0 with ⟨w', q⟩ | ⟨j, S'⟩
  · exact ⟨fun w q e' => (by cases e'; exact g1 _ _ e hc.2), fun j S' e => (by cases e)⟩
  · obtain ⟨b1, b2, b3, b4, b5, b6, b7, b8, b9⟩ := g2 _ _ e
    dsimp only
    rw [show bkS00 0 = 0 from rfl] at b3 b6
    rw [show bkS00 1 = 0 from rfl] at b5 b6 b8 b9
    by_cases z : bkTk T c L j = 0
    · rw [if_pos z]
      exact ⟨fun w q e => (by cases e), fun j S' e => (by cases e; exact ⟨by omega, by omega, b8, b9 [] rfl⟩)⟩
    · rw [if_neg z]
      exact ⟨fun w q e => (by cases e; exact bkTf_b (by omega) hc.2 hL), fun j S' e => (by cases e)⟩
