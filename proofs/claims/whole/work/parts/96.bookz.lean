/-! The reference's book, whole. -/
/-- what book leaves behind in the reference when it has read all: W why, which line, the row then -/
def bkEz (M : bk_M) (N : Int → Int) (a : Int) (W : Int × Int × (Int → Int)) (r : Int) (M' : bk_M) : Prop :=
  r = (if W.1 = 0 then -1 else W.2.1) ∧ (M' 84 0 0 = W.1 ∧ M' 84 0 1 = W.2.1 ∧ M' 84 0 2 = W.2.2 80 ∧ M' 84 0 3 = bkFld W.2.2 0 ∧ M' 12 0 53 = 1) ∧
  (¬ (a = 1 ∧ 0 < W.2.1) → M' 58 0 = N ∧ M' 61 0 = M 61 0 ∧ M' 12 0 25 = M 12 0 25) ∧ (a = 1 ∧ 0 < W.2.1 → M' 58 0 = W.2.2 ∧ M' 61 0 = bkSn M ∧ M' 12 0 25 = (if M 12 0 25 = 8 then 8 else M 12 0 25 + 1))
def bkA258 (k a : Nat) : Prop := (k = 12 ∨ k = 58 ∨ k = 61 ∨ k = 62 ∨ k = 69 ∨ k = 70 ∨ k = 71 ∨ k = 83 ∨ k = 84) ∧ a = 0
theorem bkMd_mw {N : Int → Int} (h : bkMd N) : bkMw N := bkMd_w h
theorem S258e {d m : Nat} {M Mo : bk_M} {N S : Int → Int} {a n : Int} (hN : bkMd N) (h58 : M 58 0 = N) (hS : M 83 0 = S) (hl : M 12 0 52 = n) (hn : 0 ≤ n ∧ n ≤ 40) (hm : N 1 = m) (hv : bkBv m S n) (ha : a = 0 ∨ a = 1) (hi : ∀ c, 0 ≤ c → c < 36 → M 69 0 c = 0) (hF : bkFr bkA258 Mo M) (hso : Mo 58 0 = N ∧ M 61 0 = Mo 61 0 ∧ M 12 0 25 = Mo 12 0 25) (h25 : 0 ≤ Mo 12 0 25 ∧ Mo 12 0 25 ≤ 8) :
    bk_C (d + 9) 0 244 [bk_c 12 0] M (fun t3 r1 M2 => t3 = 0 ∧ bk_wp (bk_C (d + 9)) P_258 (fun t r M' => t = 0 ∧ bkFr bkA258 Mo M' ∧ (∀ q, q ≠ 25 → q ≠ 30 → q ≠ 53 → M' 12 0 q = M 12 0 q) ∧ (∀ c, 0 ≤ c → c < 36 → M' 69 0 c = 0) ∧ bkEz Mo N a (bkLvs S n 41 0 N) r M') 0 73 [bk_c 12 0, bk_i a, bk_i (0 : Int), bk_i (0 : Int)] [] M2) := by
  rw [S244]
  refine ⟨rfl, ?_⟩
  have A2 : ∀ k a', ¬ (k = 62 ∧ a' = 0) → bkFill M 62 0 0 115 (fun c => M 58 0 (80 + c)) k a' = M k a' := fun k a' w => by funext q; rw [bkFill_o w]
  have A62 : ∀ c, 0 ≤ c → c < 115 → bkFill M 62 0 0 115 (fun c => M 58 0 (80 + c)) 62 0 c = N (80 + c) := fun c c0 c1 => by
    unfold bkFill
    rw [if_pos ⟨rfl, rfl, by omega, by omega⟩, h58, show c - 0 = c by omega]
  generalize bkFill M 62 0 0 115 (fun c => M 58 0 (80 + c)) = M2 at *
  generalize hO : bkLvs S n 41 0 N = O
  -- the end of it
  have fin : ∀ (w k : Int) (N' : Int → Int) (M' : bk_M), (n ≤ k ∨ w ≠ 0) → O = (w, k, N') → bkMd N' → (∀ q, (q < 80 ∨ 195 ≤ q) → N' q = N q) → M' 58 0 = N' → (∀ c, 0 ≤ c → c < 115 → M' 62 0 c = N (80 + c)) → M' 61 0 = Mo 61 0 → bkFr bkA258 Mo M' → (∀ q, q ≠ 30 → M' 12 0 q = M 12 0 q) → (∀ c, 0 ≤ c → c < 36 → M' 69 0 c = 0) → bk_wp (bk_C (d + 9)) P_258 (fun t r M' => t = 0 ∧ bkFr bkA258 Mo M' ∧ (∀ q, q ≠ 25 → q ≠ 30 → q ≠ 53 → M' 12 0 q = M 12 0 q) ∧ (∀ c, 0 ≤ c → c < 36 → M' 69 0 c = 0) ∧ bkEz Mo N a O r M') 0 73 [bk_c 12 0, bk_i a, bk_i k, bk_i w] [] M' := fun w k N' M' hw eO hN' hNo e58 e62 e61 hF' e12 hi' => by
    have e52 : M' 12 0 52 = n := by rw [e12 52 (by decide), hl]
    have last : ∀ (M8 : bk_M) (x : Int), bkFr (fun k a => (k = 84 ∨ k = 12) ∧ a = 0) M' M8 → (∀ q, q ≠ 53 → M8 12 0 q = M' 12 0 q) → (M8 84 0 0 = w ∧ M8 84 0 1 = k ∧ M8 84 0 2 = N' 80 ∧ M8 84 0 3 = bkFld N' 0 ∧ M8 12 0 53 = 1) → ((x = 0 ∧ ¬ (a = 1 ∧ 0 < k)) ∨ (x = 1 ∧ a = 1 ∧ 0 < k)) → bk_C (d + 9) 0 266 [bk_c 12 0, bk_i x] M8 (fun t11 r9 M10 => t11 = 0 ∧ ((w ≠ (0 : Int) → ((0 : Nat) = 0 ∧ bkFr bkA258 Mo M10 ∧ (∀ q, q ≠ 25 → q ≠ 30 → q ≠ 53 → M10 12 0 q = M 12 0 q) ∧ (∀ c, 0 ≤ c → c < 36 → M10 69 0 c = 0) ∧ bkEz Mo N a O k M10)) ∧ (¬ (w ≠ (0 : Int)) → ((0 : Nat) = 0 ∧ bkFr bkA258 Mo M10 ∧ (∀ q, q ≠ 25 → q ≠ 30 → q ≠ 53 → M10 12 0 q = M 12 0 q) ∧ (∀ c, 0 ≤ c → c < 36 → M10 69 0 c = 0) ∧ bkEz Mo N a O (-1) M10)))) := fun M8 x f8 g8 h84 hx => by
      have q25 : M8 12 0 25 = Mo 12 0 25 := by rw [g8 25 (by decide), e12 25 (by decide), hso.2.2]
      refine bk_use (S266c (N := N) (N' := N') (by rw [f8 58 0 (by omega)]; exact e58) (fun c c0 c1 => by rw [f8 62 0 (by omega)]; exact e62 c c0 c1) hNo (by rw [q25]; exact h25) Mo ⟨hso.1, by rw [f8 61 0 (by omega), e61], q25.symm⟩) (fun r M' hM' => ?_)
      obtain ⟨ff, g, i0, i1⟩ := hM'
      have FF : bkFr bkA258 Mo M' := bkFr_trans hF' (bkFr_trans (bkFr_mono f8 fun k a w => ⟨by omega, w.2⟩) (bkFr_mono ff fun k a w => ⟨by have := w.1; omega, w.2⟩))
      have GG : ∀ q, q ≠ 25 → q ≠ 30 → q ≠ 53 → M' 12 0 q = M 12 0 q := fun q q1 q2 q3 => by rw [g q q1, g8 q q3, e12 q q2]
      have II : ∀ c, 0 ≤ c → c < 36 → M' 69 0 c = 0 := fun c c0 c1 => by rw [ff 69 0 (by unfold bkA266; omega), f8 69 0 (by omega)]; exact hi' c c0 c1
      have E84 : M' 84 0 = M8 84 0 := ff 84 0 (by unfold bkA266; omega)
      have post : ∀ r, r = (if w = 0 then -1 else k) → bkEz Mo N a O r M' := fun r er => by
        unfold bkEz
        rw [eO]
        refine ⟨er, by rw [E84, g 53 (by decide)]; exact h84, fun z => ?_, fun z => ?_⟩
        · obtain ⟨j1, j2, j3⟩ := i0 (by rcases hx with hx | hx; exact hx.1; exact absurd hx.2 z)
          exact ⟨j1, by rw [j2, f8 61 0 (by omega), e61], by rw [j3, q25]⟩
        · obtain ⟨j1, j2, j3⟩ := i1 (by rcases hx with hx | hx; exact absurd z hx.2; omega)
          exact ⟨j1, j2, by rw [j3, q25]⟩
      exact ⟨rfl, fun z => ⟨rfl, FF, GG, II, post k (by rw [if_neg z])⟩, fun z => ⟨rfl, FF, GG, II, post (-1) (by rw [if_pos (Decidable.not_not.1 z)])⟩⟩
    have mid : ∀ (M1 M2 M3 M7 M8 : bk_M) (r4 : Int), M1 = bk_up M' 84 0 0 w → M2 = bk_up M1 84 0 1 k → M3 = bk_up M2 84 0 2 (M2 58 0 80) → r4 = bkFld N' 0 → M7 = bk_up M3 84 0 3 r4 → M8 = bk_up M7 12 0 53 1 → bkFr (fun k a => (k = 84 ∨ k = 12) ∧ a = 0) M' M8 ∧ (∀ q, q ≠ 53 → M8 12 0 q = M' 12 0 q) ∧ (M8 84 0 0 = w ∧ M8 84 0 1 = k ∧ M8 84 0 2 = N' 80 ∧ M8 84 0 3 = bkFld N' 0 ∧ M8 12 0 53 = 1) := fun M1 M2 M3 M7 M8 r4 e1 e2 e3 er e7 e8 => by
      have A : (84 = 84 ∨ 84 = 12) ∧ 0 = 0 := by omega
      refine ⟨by rw [e8, e7, e3, e2, e1]; exact bkFr_up (bkFr_up (bkFr_up (bkFr_up (bkFr_up (bkFr_refl _ _) ⟨.inl rfl, rfl⟩) ⟨.inl rfl, rfl⟩) ⟨.inl rfl, rfl⟩) ⟨.inl rfl, rfl⟩) ⟨.inr rfl, rfl⟩, fun q hq => by rw [e8, bk_up_s hq, e7, e3, e2, e1, bk_up_k (by decide), bk_up_k (by decide), bk_up_k (by decide), bk_up_k (by decide)], ?_, ?_, ?_, ?_, ?_⟩
      · rw [e8, bk_up_k (by decide), e7, bk_up_s (by decide), e3, bk_up_s (by decide), e2, bk_up_s (by decide), e1, bk_up_e]
      · rw [e8, bk_up_k (by decide), e7, bk_up_s (by decide), e3, bk_up_s (by decide), e2, bk_up_e]
      · rw [e8, bk_up_k (by decide), e7, bk_up_s (by decide), e3, bk_up_e, e2, bk_up_f (by decide), e1, bk_up_f (by decide), e58]
      · rw [e8, bk_up_k (by decide), e7, bk_up_e, er]
      · rw [e8, bk_up_e]
    rw [L_258_73, e52]
    refine ⟨fun z => ?_, fun z => ⟨fun z2 => ?_, fun z2 => ?_⟩⟩
    · refine ⟨by omega, fun M1 e1 => ⟨by omega, fun M2 e2 => ⟨by omega, by omega, fun M3 e3 => ?_⟩⟩⟩
      have e58' : M3 58 0 = N' := by rw [e3, e2, e1, bk_up_f (by decide), bk_up_f (by decide), bk_up_f (by decide), e58]
      rw [S204w (by rw [e58']; exact bkMd_w hN'), e58']
      refine ⟨rfl, by omega, fun M7 e7 => ⟨.inr rfl, fun M8 e8 => ?_⟩⟩
      obtain ⟨f8, g8, h84⟩ := mid M1 M2 M3 M7 M8 _ e1 e2 e3 rfl e7 e8
      exact ⟨fun w1 => last M8 0 f8 g8 h84 (.inl ⟨rfl, fun q => w1 q.1⟩), fun w1 => ⟨fun w2 => last M8 0 f8 g8 h84 (.inl ⟨rfl, by omega⟩), fun w2 => last M8 1 f8 g8 h84 (.inr ⟨rfl, by omega, by omega⟩)⟩⟩
    · refine ⟨by omega, fun M1 e1 => ⟨by omega, fun M2 e2 => ⟨by omega, by omega, fun M3 e3 => ?_⟩⟩⟩
      have e58' : M3 58 0 = N' := by rw [e3, e2, e1, bk_up_f (by decide), bk_up_f (by decide), bk_up_f (by decide), e58]
      rw [S204w (by rw [e58']; exact bkMd_w hN'), e58']
      refine ⟨rfl, by omega, fun M7 e7 => ⟨.inr rfl, fun M8 e8 => ?_⟩⟩
      obtain ⟨f8, g8, h84⟩ := mid M1 M2 M3 M7 M8 _ e1 e2 e3 rfl e7 e8
      exact ⟨fun w1 => last M8 0 f8 g8 h84 (.inl ⟨rfl, fun q => w1 q.1⟩), fun w1 => ⟨fun w2 => last M8 0 f8 g8 h84 (.inl ⟨rfl, by omega⟩), fun w2 => last M8 1 f8 g8 h84 (.inr ⟨rfl, by omega, by omega⟩)⟩⟩
    · rcases hw with hw | hw
      · exact absurd hw z
      · exact absurd hw z2
  have key : ∀ (k j : Nat) (N' : Int → Int) (M' : bk_M), k + j = 41 → j ≤ n → bkMd N' → (∀ q, (q < 80 ∨ 195 ≤ q) → N' q = N q) → M' 58 0 = N' → M' 83 0 = S → (∀ c, 0 ≤ c → c < 115 → M' 62 0 c = N (80 + c)) → M' 61 0 = Mo 61 0 → bkFr bkA258 Mo M' → (∀ q, q ≠ 30 → M' 12 0 q = M 12 0 q) → (∀ c, 0 ≤ c → c < 36 → M' 69 0 c = 0) → bkLvs S n k j N' = O → bk_wp (bk_C (d + 9)) P_258 (fun t r M' => t = 0 ∧ bkFr bkA258 Mo M' ∧ (∀ q, q ≠ 25 → q ≠ 30 → q ≠ 53 → M' 12 0 q = M 12 0 q) ∧ (∀ c, 0 ≤ c → c < 36 → M' 69 0 c = 0) ∧ bkEz Mo N a O r M') 0 73 [bk_c 12 0, bk_i a, bk_i j, bk_i 0] [] M' := by
    intro k
    induction k with
    | zero => intro j N' M' hj h2; omega
    | succ k ih =>
      intro j N' M' hj h2 hN' hNo e58 e83 e62 e61 hF' e12 hi' hO
      rw [bkLvs_s] at hO
      by_cases z : n ≤ j
      · rw [if_pos z] at hO
        exact fin 0 j N' M' (.inl z) hO.symm hN' hNo e58 e62 e61 hF' e12 hi'
      · rw [if_neg z] at hO
        have hvj := hv j (by omega) (by omega)
        obtain ⟨g1, g2⟩ := bkGo_md hN' (by rw [hNo 1 (by omega)]; exact hm) hvj
        have e52 : M' 12 0 52 = n := by rw [e12 52 (by decide), hl]
        rw [L_258_73, e52]
        refine ⟨fun w => absurd w z, fun _ => ⟨fun w => absurd rfl w, fun _ => ⟨by unfold bk_r32; omega, ?_⟩⟩⟩
        refine bk_use (S265c hN' e58 e83 (by rw [hNo 1 (by omega)]; exact hm) hvj (by omega) hi') (fun r M3 hM3 => ?_)
        obtain ⟨f3, k58, er, k12, ki⟩ := hM3
        have F3 : bkFr bkA258 Mo M3 := bkFr_trans hF' (bkFr_mono f3 fun k a w => ⟨by have := w.1; omega, w.2⟩)
        have i62 : ∀ c, 0 ≤ c → c < 115 → M3 62 0 c = N (80 + c) := fun c c0 c1 => by rw [f3 62 0 (by unfold bkA219; omega)]; exact e62 c c0 c1
        have i61 : M3 61 0 = Mo 61 0 := by rw [f3 61 0 (by unfold bkA219; omega)]; exact e61
        have i12 : ∀ q, q ≠ 30 → M3 12 0 q = M 12 0 q := fun q hq => by rw [k12 q hq, e12 q hq]
        have iNo : ∀ q, (q < 80 ∨ 195 ≤ q) → (bkGo N' S j).2 q = N q := fun q hq => by rw [g2 q hq, hNo q hq]
        subst er
        refine ⟨rfl, fun w => ?_, fun w => ⟨by unfold bk_r32; omega, ?_⟩⟩
        · rw [if_neg w] at hO
          exact fin _ j _ M3 (.inr w) hO.symm g1 iNo k58 i62 i61 F3 i12 ki
        · have w : (bkGo N' S j).1 = 0 := Decidable.not_not.1 w
          rw [if_pos w] at hO
          rw [w]
          have e' : ((j + 1 : Nat) : Int) = j + 1 := by omega
          have := ih (j + 1) _ M3 (by omega) (by omega) g1 iNo k58 (by rw [f3 83 0 (by unfold bkA219; omega)]; exact e83) i62 i61 F3 i12 ki (by rw [e']; exact hO)
          rwa [e'] at this
  exact key 41 0 N M2 rfl (by omega) hN (fun q _ => rfl) (by rw [A2 58 0 (by omega)]; exact h58) (by rw [A2 83 0 (by omega)]; exact hS) A62 (by rw [A2 61 0 (by omega)]; exact hso.2.1) (fun k a' w => by rw [A2 k a' (fun q => w ⟨by omega, q.2⟩)]; exact hF k a' w) (fun q _ => by rw [A2 12 0 (by omega)]) (fun c c0 c1 => by rw [A2 69 0 (by omega)]; exact hi c c0 c1) hO
