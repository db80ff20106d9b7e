/-! A duel: what both sides would have. -/
def bkVal (N : Int → Int) (L : List Int) (s : Int) : Int := bkWorB N (bkWould (bkRL N L)) s
def bkEdge (N : Int → Int) (L : List Int) (s : Int) : Int := bkVal N L s - bkVal N L (1 - s)
theorem bkVal_b {N : Int → Int} (h : bkMd N) (L : List Int) (s : Int) : 0 ≤ bkVal N L s ∧ bkVal N L s ≤ 200 := by
  obtain ⟨n1, n2, n3, n4, n5, n6, n7, n8, n9, n10, -⟩ := h
  have := bkWorth_le (w := fun f => N (62 + f)) (p := bkWsB N (bkWould (bkRL N L)) s) (n := (N 0).toNat) (fun k hk => by have := n10 k (by omega) (by omega); show 0 ≤ N (62 + k) ∧ _; omega)
  unfold bkVal bkWorB
  omega
theorem bkVal_drop {N : Int → Int} (hN : bkMd N) {A B : List Int} {w : Int} (hw : bkEf N w = false) (s : Int) : bkVal N (A ++ w :: B) s = bkVal N (A ++ B) s :=
  bkWorB_congr hN (fun _ h0 h1 => bkWould_drop hN hw h0 h1) s
theorem bkEdge_drop {N : Int → Int} (hN : bkMd N) {A B : List Int} {w : Int} (hw : bkEf N w = false) (s : Int) : bkEdge N (A ++ w :: B) s = bkEdge N (A ++ B) s := by
  unfold bkEdge
  rw [bkVal_drop hN hw, bkVal_drop hN hw]
theorem bkLeg_snoc {N : Int → Int} {L : List Int} {s w : Int} (h : bkLeg N L) (hw : bkMay (bkRL N L) s w = true) (h72 : 0 ≤ w ∧ w < 72) : bkLeg N (L ++ [w]) := by
  intro c h0 h1
  have hc := h c h0 h1
  have hm := h (w % 36) (by omega) (by omega)
  unfold bkMay at hw
  rw [decide_eq_true_eq, bkRL_c (by omega) (by omega)] at hw
  rw [bkDl_app]
  show 0 ≤ N (85 + c) + (bkDl L c + ((if c = w % 36 then bkWk w else 0) + 0)) ∧ N (85 + c) + (bkDl L c + ((if c = w % 36 then bkWk w else 0) + 0)) ≤ 9
  by_cases e : c = w % 36
  · rw [if_pos e]
    have h9 := hw.2.2.2
    unfold bkWk
    rw [← e] at h9
    by_cases z : w < 36
    · rw [if_pos z] at h9 ⊢; omega
    · rw [if_neg z] at h9 ⊢; omega
  · rw [if_neg e]; omega
theorem bkLeg_nil {N : Int → Int} (h : bkMd N) : bkLeg N [] := fun c h0 h1 => by
  have := h.2.2.2.2.2.2.2.1 c h0 h1
  show 0 ≤ N (85 + c) + 0 ∧ _ + 0 ≤ 9
  omega
/-- the other one's best answer, of works below n that p takes -/
def bkAnP (N : Int → Int) (L : List Int) (s : Int) (p : Int → Bool) : Nat → Int × Int
  | 0 => (bkEdge N L s, -2)
  | n + 1 => if p n = true ∧ bkMay (bkRL N L) (1 - s) n = true ∧ bkEdge N (L ++ [(n : Int)]) s < (bkAnP N L s p n).1 then (bkEdge N (L ++ [(n : Int)]) s, n) else bkAnP N L s p n
def bkAny (_ : Int) : Bool := true
def bkAns (N : Int → Int) (L : List Int) (s : Int) : Int × Int := if N (82 - s) = 0 then (bkEdge N L s, -2) else bkAnP N L s bkAny 72
theorem bkAnP_le (N : Int → Int) (L : List Int) (s : Int) (p : Int → Bool) : ∀ n : Nat, (bkAnP N L s p n).1 ≤ bkEdge N L s
  | 0 => Int.le_refl _
  | n + 1 => by
    have ih := bkAnP_le N L s p n
    unfold bkAnP
    split
    · show bkEdge N (L ++ [(n : Int)]) s ≤ _; omega
    · exact ih
theorem bkAnP_mono (N : Int → Int) (L : List Int) (s : Int) (p : Int → Bool) {m : Nat} : ∀ n : Nat, m ≤ n → (bkAnP N L s p n).1 ≤ (bkAnP N L s p m).1
  | 0, h => by rw [show m = 0 by omega]; exact Int.le_refl _
  | n + 1, h => by
    by_cases e : m = n + 1
    · rw [e]; exact Int.le_refl _
    · have ih := bkAnP_mono N L s p n (show m ≤ n by omega)
      refine Int.le_trans ?_ ih
      show (if p n = true ∧ bkMay (bkRL N L) (1 - s) n = true ∧ bkEdge N (L ++ [(n : Int)]) s < (bkAnP N L s p n).1 then (bkEdge N (L ++ [(n : Int)]) s, (n : Int)) else bkAnP N L s p n).1 ≤ _
      split
      · show bkEdge N (L ++ [(n : Int)]) s ≤ _; omega
      · exact Int.le_refl _
theorem bkAnP_ef {N : Int → Int} (hN : bkMd N) (L : List Int) (s : Int) : ∀ n : Nat, bkAnP N L s (bkEf N) n = bkAnP N L s bkAny n
  | 0 => rfl
  | n + 1 => by
    have ih := bkAnP_ef hN L s n
    unfold bkAnP
    rw [ih]
    cases h : bkEf N n
    · rw [if_neg (by simp), if_neg]
      rintro ⟨-, -, h3⟩
      have hd := bkEdge_drop hN (A := L) (B := []) h s
      rw [List.append_nil] at hd
      have := bkAnP_le N L s bkAny n
      omega
    · rfl
theorem bkMay_other {N : Int → Int} {L : List Int} {n m s : Int} (h : m % 36 ≠ n % 36) : bkMay (bkRL N (L ++ [n])) s m = bkMay (bkRL N L) s m := by
  unfold bkMay
  rw [bkRL_o (j := 2) (by omega), bkRL_o (j := 3) (by omega), bkRL_o (j := 2) (by omega), bkRL_o (j := 3) (by omega), bkRL_bed (by omega), bkRL_bed (by omega), bkRL_c (by omega) (by omega), bkRL_c (by omega) (by omega), bkDl_app]
  have : bkDl [n] (m % 36) = 0 := by
    show (if m % 36 = n % 36 then bkWk n else 0) + 0 = 0
    rw [if_neg h]; rfl
  rw [this, Int.add_zero]
theorem bkEf_ne {N : Int → Int} {n m : Int} (h : bkEf N n = false) (h2 : bkEf N m = true) : m % 36 ≠ n % 36 := fun e => by
  rw [← bkEf_mod, ← e, bkEf_mod, h2] at h
  exact absurd h (by decide)
/-- a first work that moves nothing changes no answer -/
theorem bkAnP_drop {N : Int → Int} (hN : bkMd N) {w : Int} (hw : bkEf N w = false) (s : Int) : ∀ n : Nat, bkAnP N [w] s (bkEf N) n = bkAnP N [] s (bkEf N) n
  | 0 => by
    have := bkEdge_drop hN (A := []) (B := []) hw s
    unfold bkAnP
    rw [show ([w] : List Int) = [] ++ w :: [] by rfl, this]
    rfl
  | n + 1 => by
    have ih := bkAnP_drop hN hw s n
    unfold bkAnP
    rw [ih]
    cases h : bkEf N n
    · rw [if_neg (by simp), if_neg (by simp)]
    · have e1 : bkMay (bkRL N [w]) (1 - s) n = bkMay (bkRL N []) (1 - s) n := bkMay_other (L := []) (bkEf_ne hw h)
      have e2 : bkEdge N ([w] ++ [(n : Int)]) s = bkEdge N ([] ++ [(n : Int)]) s := bkEdge_drop hN (A := []) (B := [(n : Int)]) hw s
      rw [e1, e2]
theorem bkAns_drop {N : Int → Int} (hN : bkMd N) {w : Int} (hw : bkEf N w = false) (s : Int) : bkAns N [w] s = bkAns N [] s := by
  unfold bkAns
  by_cases z : N (82 - s) = 0
  · rw [if_pos z, if_pos z]
    have := bkEdge_drop hN (A := []) (B := []) hw s
    rw [show ([w] : List Int) = [] ++ w :: [] by rfl, this]
    rfl
  · rw [if_neg z, if_neg z, ← bkAnP_ef hN, ← bkAnP_ef hN, bkAnP_drop hN hw]
/-- the first one's best work -/
def bkDuP (N : Int → Int) (s : Int) (p : Int → Bool) : Nat → Int × Int × Int
  | 0 => ((bkAns N [] s).1, -2, (bkAns N [] s).2)
  | n + 1 => if p n = true ∧ bkMay N s n = true ∧ (bkDuP N s p n).1 < (bkAns N [(n : Int)] s).1 then ((bkAns N [(n : Int)] s).1, n, (bkAns N [(n : Int)] s).2) else bkDuP N s p n
def bkDu (N : Int → Int) (s : Int) : Int × Int × Int := if N (81 + s) = 0 then bkDuP N s bkAny 0 else bkDuP N s bkAny 72
theorem bkDuP_ge (N : Int → Int) (s : Int) (p : Int → Bool) : ∀ n : Nat, (bkAns N [] s).1 ≤ (bkDuP N s p n).1
  | 0 => Int.le_refl _
  | n + 1 => by
    have ih := bkDuP_ge N s p n
    unfold bkDuP
    split
    · show _ ≤ (bkAns N [(n : Int)] s).1; omega
    · exact ih
theorem bkDuP_ef {N : Int → Int} (hN : bkMd N) (s : Int) : ∀ n : Nat, bkDuP N s (bkEf N) n = bkDuP N s bkAny n
  | 0 => rfl
  | n + 1 => by
    have ih := bkDuP_ef hN s n
    unfold bkDuP
    rw [ih]
    cases h : bkEf N n
    · rw [if_neg (by simp), if_neg]
      rintro ⟨-, -, h3⟩
      rw [bkAns_drop hN h] at h3
      have := bkDuP_ge N s bkAny n
      omega
    · rfl
/-! The class's duel. -/
theorem LG_143_46 {d : Nat} {Q : bk_Q} (i1 : Nat) (x2 : Int) (x3 : Int) (v4 : bk_V) (M : bk_M) : bk_wp (bk_C d) P_143 Q 0 46 [bk_c 7 0, bk_c 5 i1, bk_i x2, bk_i x3, v4] [] M ↔ (((72 : Int) ≤ x3 → Q 0 (M 7 0 (13 : Int)) M) ∧ (¬ ((72 : Int) ≤ x3) → ((0 : Int) ≤ x2 ∧ x2 < (2 : Int)) ∧ ((M 37 i1 x2 ≤ (0 : Int) → Q 0 (M 7 0 (13 : Int)) M) ∧ (¬ (M 37 i1 x2 ≤ (0 : Int)) → bk_C d 0 80 [bk_c 7 0, bk_c 5 i1, bk_i x2, bk_i x3] M (fun t3 r1 M2 => t3 = 0 ∧ ((r1 = (0 : Int) → bk_r32 (x3 + (1 : Int)) ∧ bk_wp (bk_C d) P_143 Q 0 46 [bk_c 7 0, bk_c 5 i1, bk_i x2, bk_i (x3 + (1 : Int)), v4] [] M2) ∧ (¬ (r1 = (0 : Int)) → bk_C d 0 82 [bk_c 7 0, bk_i x3] M2 (fun t6 r4 M5 => t6 = 0 ∧ bk_C d 0 144 [bk_c 7 0, bk_c 5 i1, bk_i x2, bk_i (M5 7 0 (13 : Int))] M5 (fun t9 r7 M8 => t9 = 0 ∧ bk_C d 0 83 [bk_c 7 0, bk_i x3] M8 (fun t12 r10 M11 => t12 = 0 ∧ ((r7 ≤ M11 7 0 (13 : Int) → bk_r32 (x3 + (1 : Int)) ∧ bk_wp (bk_C d) P_143 Q 0 46 [bk_c 7 0, bk_c 5 i1, bk_i x2, bk_i (x3 + (1 : Int)), bk_i r7] [] M11) ∧ (¬ (r7 ≤ M11 7 0 (13 : Int)) → ∀ M13 : bk_M, M13 = bk_up M11 7 0 (13 : Int) r7 → ((0 : Int) ≤ (0 : Int) ∧ (0 : Int) < (2 : Int)) ∧ ∀ M14 : bk_M, M14 = bk_up M13 41 0 (0 : Int) x3 → ((0 : Int) ≤ (1 : Int) ∧ (1 : Int) < (2 : Int)) ∧ ∀ M15 : bk_M, M15 = bk_up M14 41 0 (1 : Int) (M14 7 0 (12 : Int)) → bk_r32 (x3 + (1 : Int)) ∧ bk_wp (bk_C d) P_143 Q 0 46 [bk_c 7 0, bk_c 5 i1, bk_i x2, bk_i (x3 + (1 : Int)), bk_i r7] [] M15)))))))))))) := bk_iff [46] 40
theorem LG_144_22 {d : Nat} {Q : bk_Q} (i1 : Nat) (x2 : Int) (x3 : Int) (x4 : Int) (x5 : Int) (x6 : Int) (v7 : bk_V) (M : bk_M) : bk_wp (bk_C d) P_144 Q 0 22 [bk_c 7 0, bk_c 5 i1, bk_i x2, bk_i x3, bk_i x4, bk_i x5, bk_i x6, v7] [] M ↔ (((72 : Int) ≤ x6 → Q 0 x5 M) ∧ (¬ ((72 : Int) ≤ x6) → ((0 : Int) ≤ x4 ∧ x4 < (2 : Int)) ∧ ((M 37 i1 x4 ≤ (0 : Int) → Q 0 x5 M) ∧ (¬ (M 37 i1 x4 ≤ (0 : Int)) → ((x5 ≤ x3 → Q 0 x5 M) ∧ (¬ (x5 ≤ x3) → bk_C d 0 80 [bk_c 7 0, bk_c 5 i1, bk_i x4, bk_i x6] M (fun t3 r1 M2 => t3 = 0 ∧ ((r1 = (0 : Int) → bk_r32 (x6 + (1 : Int)) ∧ bk_wp (bk_C d) P_144 Q 0 22 [bk_c 7 0, bk_c 5 i1, bk_i x2, bk_i x3, bk_i x4, bk_i x5, bk_i (x6 + (1 : Int)), v7] [] M2) ∧ (¬ (r1 = (0 : Int)) → bk_C d 0 82 [bk_c 7 0, bk_i x6] M2 (fun t6 r4 M5 => t6 = 0 ∧ bk_C d 0 145 [bk_c 7 0, bk_c 5 i1, bk_i x2] M5 (fun t9 r7 M8 => t9 = 0 ∧ bk_C d 0 83 [bk_c 7 0, bk_i x6] M8 (fun t12 r10 M11 => t12 = 0 ∧ ((x5 ≤ r7 → bk_r32 (x6 + (1 : Int)) ∧ bk_wp (bk_C d) P_144 Q 0 22 [bk_c 7 0, bk_c 5 i1, bk_i x2, bk_i x3, bk_i x4, bk_i x5, bk_i (x6 + (1 : Int)), bk_i r7] [] M11) ∧ (¬ (x5 ≤ r7) → ∀ M13 : bk_M, M13 = bk_up M11 7 0 (12 : Int) x6 → bk_r32 (x6 + (1 : Int)) ∧ bk_wp (bk_C d) P_144 Q 0 22 [bk_c 7 0, bk_c 5 i1, bk_i x2, bk_i x3, bk_i x4, bk_i r7, bk_i (x6 + (1 : Int)), bk_i r7] [] M13)))))))))))))) := bk_iff [22] 40
theorem S145 {d p : Nat} {s : Int} {M : bk_M} {N : Int → Int} {L : List Int} (hR : bkRel M p N) (hg : ∀ c, 0 ≤ c → c < 36 → M 45 1 c = bkRL N L (85 + c)) (hL : bkLeg N L) (hs : 0 ≤ s ∧ s ≤ 1) :
    bk_C (d + 3) 0 145 [bk_c 7 0, bk_c 5 p, bk_i s] M (fun t r M' => t = 0 ∧ bkFr (bkA35 1) M M' ∧ r = bkEdge N L s) := by
  have hN := bkRel_md hR
  rw [E_145]
  refine bk_use (S35L (d := d) hR hg hL) ?_
  rintro r M2 ⟨F, B⟩
  have R2 : bkRel M2 p N := bkRel_fr hR fun k hk => F k p (by unfold bkA35; omega)
  have v0 := bkVal_b hN L s
  have v1 := bkVal_b hN L (1 - s)
  rw [S49B R2 B, S49B R2 B]
  unfold bk_r32
  refine ⟨rfl, rfl, by omega, rfl, ?_, rfl, F, rfl⟩
  show -2147483648 ≤ bkVal N L s - bkVal N L (1 - s) ∧ bkVal N L s - bkVal N L (1 - s) ≤ 2147483647
  omega
def bkA144 (k a : Nat) : Prop := ((k = 8 ∨ k = 45 ∨ k = 46 ∨ k = 47 ∨ k = 48) ∧ a = 1) ∨ (k = 7 ∧ a = 0)
/-- a work is done, and taken back -/
theorem bkGr_up {M : bk_M} {N : Int → Int} {L : List Int} {w : Int} (hg : ∀ c, 0 ≤ c → c < 36 → M 45 1 c = bkRL N L (85 + c)) : ∀ c, 0 ≤ c → c < 36 → bk_up M 45 1 (w % 36) (M 45 1 (w % 36) + bkWk w) 45 1 c = bkRL N (L ++ [w]) (85 + c) := fun c q1 q2 => by
  rw [bk_up_w, bkRL_c q1 q2, bkDl_app]
  show _ = N (85 + c) + (bkDl L c + ((if c = w % 36 then bkWk w else 0) + 0))
  by_cases e : c = w % 36
  · rw [if_pos e, if_pos e, ← e, hg c q1 q2, bkRL_c q1 q2]; omega
  · rw [if_neg e, if_neg e, hg c q1 q2, bkRL_c q1 q2]; omega
theorem bkGr_dn {M : bk_M} {N : Int → Int} {L : List Int} {w : Int} (hg : ∀ c, 0 ≤ c → c < 36 → M 45 1 c = bkRL N (L ++ [w]) (85 + c)) : ∀ c, 0 ≤ c → c < 36 → bk_up M 45 1 (w % 36) (M 45 1 (w % 36) - bkWk w) 45 1 c = bkRL N L (85 + c) := fun c q1 q2 => by
  have g4 := hg c q1 q2
  rw [bkRL_c q1 q2, bkDl_app] at g4
  have g4 : M 45 1 c = N (85 + c) + (bkDl L c + ((if c = w % 36 then bkWk w else 0) + 0)) := g4
  rw [bk_up_w, bkRL_c q1 q2]
  by_cases e : c = w % 36
  · rw [if_pos e] at g4
    rw [if_pos e, ← e, g4]; omega
  · rw [if_neg e] at g4
    rw [if_neg e, g4]; omega
theorem bkGr_at {M : bk_M} {N : Int → Int} {L : List Int} (hg : ∀ c, 0 ≤ c → c < 36 → M 45 1 c = bkRL N L (85 + c)) (hL : bkLeg N L) (w : Int) : -99 ≤ M 45 1 (w % 36) ∧ M 45 1 (w % 36) ≤ 99 := by
  rw [hg _ (by omega) (by omega), bkRL_c (by omega) (by omega)]
  have := hL (w % 36) (by omega) (by omega)
  omega
theorem S144 {d p : Nat} {s fl : Int} {M : bk_M} {N : Int → Int} {L : List Int} (hR : bkRel M p N) (hg : ∀ c, 0 ≤ c → c < 36 → M 45 1 c = bkRL N L (85 + c)) (hL : bkLeg N L) (hs : 0 ≤ s ∧ s ≤ 1) :
    bk_C (d + 4) 0 144 [bk_c 7 0, bk_c 5 p, bk_i s, bk_i fl] M (fun t r M' => t = 0 ∧ bkFr bkA144 M M' ∧ (∀ j, j ≠ 12 → M' 7 0 j = M 7 0 j) ∧ (∀ c, 0 ≤ c → c < 36 → M' 45 1 c = bkRL N L (85 + c)) ∧ (fl < (bkAns N L s).1 → r = (bkAns N L s).1 ∧ M' 7 0 12 = (bkAns N L s).2) ∧ ((bkAns N L s).1 ≤ fl → r ≤ fl) ∧ -200 ≤ r ∧ r ≤ 200) := by
  have hN := bkRel_md hR
  have c2 := (hR.2.2.2.1 (1 - s) (by omega) (by omega)).1
  have n12 := hN.2.2.2.2.2.2.2.2.2.2.2.1 (1 - s) (by omega) (by omega)
  rw [show 81 + (1 - s) = 82 - s by omega] at c2 n12
  have eb : ∀ L, -200 ≤ bkEdge N L s ∧ bkEdge N L s ≤ 200 := fun L => by
    have v0 := bkVal_b hN L s
    have v1 := bkVal_b hN L (1 - s)
    unfold bkEdge; omega
  have ab : ∀ n : Nat, -200 ≤ (bkAnP N L s (bkEf N) n).1 ∧ (bkAnP N L s (bkEf N) n).1 ≤ 200 := fun n => by
    induction n with
    | zero => exact eb L
    | succ n ih =>
      unfold bkAnP
      split
      · exact eb _
      · exact ih
  rw [E_144]
  refine ⟨by unfold bk_r32; omega, bk_use (S145 (d := d) hR hg hL hs) ?_⟩
  rintro r M2 ⟨F2, rfl⟩
  refine ⟨rfl, ?_⟩
  intro M4 hM4
  have F4 : bkFr bkA144 M M4 := by rw [hM4]; exact bkFr_up (bkFr_mono F2 fun k a w => by unfold bkA35 at w; unfold bkA144; omega) (by unfold bkA144; omega)
  have e7 : ∀ j, j ≠ 12 → M4 7 0 j = M 7 0 j := fun j hj => by rw [hM4, bk_up_s hj, F2 7 0 (by unfold bkA35; omega)]
  have g4 : ∀ c, 0 ≤ c → c < 36 → M4 45 1 c = bkRL N L (85 + c) := fun c q1 q2 => by rw [hM4, bk_up_f (by decide), F2 45 1 (by unfold bkA35; omega)]; exact hg c q1 q2
  have key := bk_loopS (W := fun n M5 => ∀ v7, bk_wp (bk_C (d + 3)) P_144 (fun t r M' => t = 0 ∧ bkFr bkA144 M M' ∧ (∀ j, j ≠ 12 → M' 7 0 j = M 7 0 j) ∧ (∀ c, 0 ≤ c → c < 36 → M' 45 1 c = bkRL N L (85 + c)) ∧ (fl < (bkAns N L s).1 → r = (bkAns N L s).1 ∧ M' 7 0 12 = (bkAns N L s).2) ∧ ((bkAns N L s).1 ≤ fl → r ≤ fl) ∧ -200 ≤ r ∧ r ≤ 200) 0 22 [bk_c 7 0, bk_c 5 p, bk_i s, bk_i fl, bk_i (1 - s), bk_i (bkAnP N L s (bkEf N) n.toNat).1, bk_i n, v7] [] M5) (s := 0) (n := 72)
    (fun n M5 => bkFr bkA144 M M5 ∧ (∀ j, j ≠ 12 → M5 7 0 j = M 7 0 j) ∧ (∀ c, 0 ≤ c → c < 36 → M5 45 1 c = bkRL N L (85 + c)) ∧ M5 7 0 12 = (bkAnP N L s (bkEf N) n.toNat).2 ∧ (0 < n → N (82 - s) ≠ 0)) (by omega) ?_ ?_ (M := M4) ⟨F4, e7, g4, by rw [hM4, bk_up_e]; rfl, fun z => absurd z (by omega)⟩
  · exact key _
  · rintro n M5 h0 h1 ⟨F5, k7, g5, k12, hz⟩ ih v7
    have R5 : bkRel M5 p N := bkRel_fr hR fun k hk => F5 k p (by unfold bkA144; omega)
    have e37 : M5 37 p (1 - s) = N (82 - s) := by rw [F5 37 p (by unfold bkA144; omega), c2]
    have hA := ab n.toNat
    have en : ((n.toNat : Nat) : Int) = n := by omega
    have hstep : bkAnP N L s (bkEf N) (n + 1).toNat = if bkEf N n = true ∧ bkMay (bkRL N L) (1 - s) n = true ∧ bkEdge N (L ++ [n]) s < (bkAnP N L s (bkEf N) n.toNat).1 then (bkEdge N (L ++ [n]) s, n) else bkAnP N L s (bkEf N) n.toNat := by
      rw [show (n + 1).toNat = n.toNat + 1 by omega]
      show (if bkEf N (n.toNat : Nat) = true ∧ bkMay (bkRL N L) (1 - s) (n.toNat : Nat) = true ∧ bkEdge N (L ++ [((n.toNat : Nat) : Int)]) s < (bkAnP N L s (bkEf N) n.toNat).1 then (bkEdge N (L ++ [((n.toNat : Nat) : Int)]) s, ((n.toNat : Nat) : Int)) else bkAnP N L s (bkEf N) n.toNat) = _
      rw [en]
    rw [LG_144_22, e37]
    unfold bk_r32
    refine ⟨fun z => absurd z (by omega), fun _ => ⟨by omega, fun z => ⟨rfl, F5, k7, g5, ?_, ?_, hA⟩, fun z => ⟨fun z2 => ⟨rfl, F5, k7, g5, fun z3 => ?_, fun _ => z2, hA⟩, fun z2 => ?_⟩⟩⟩
    · have hn : n = 0 := Classical.byContradiction fun w => hz (by omega) (by omega)
      intro _
      subst hn
      have e : bkAns N L s = (bkEdge N L s, -2) := if_pos (by omega)
      rw [e, k12]
      exact ⟨rfl, rfl⟩
    · have hn : n = 0 := Classical.byContradiction fun w => hz (by omega) (by omega)
      subst hn
      have e : bkAns N L s = (bkEdge N L s, -2) := if_pos (by omega)
      rw [e]
      exact fun q => q
    · exfalso
      have e : bkAns N L s = bkAnP N L s bkAny 72 := if_neg (by omega)
      rw [e, ← bkAnP_ef hN] at z3
      have := bkAnP_mono N L s (bkEf N) 72 (show n.toNat ≤ 72 by omega)
      omega
    · rw [S80 (d := d + 1) R5 g5 (by omega) ⟨h0, h1⟩]
      refine ⟨rfl, fun z3 => ⟨by omega, ?_⟩, fun z3 => ?_⟩
      · have hno : ¬ (bkEf N n = true ∧ bkMay (bkRL N L) (1 - s) n = true) := fun w => by rw [if_pos w] at z3; exact absurd z3 (by decide)
        have ih := ih M5 ⟨F5, k7, g5, by rw [hstep, if_neg (fun w => hno ⟨w.1, w.2.1⟩)]; exact k12, fun _ => by omega⟩ v7
        rw [hstep, if_neg (fun w => hno ⟨w.1, w.2.1⟩)] at ih
        exact ih
      · have hyes : bkEf N n = true ∧ bkMay (bkRL N L) (1 - s) n = true := Classical.byContradiction fun w => z3 (if_neg w)
        have hL1 : bkLeg N (L ++ [n]) := bkLeg_snoc hL hyes.2 ⟨h0, h1⟩
        rw [S82 ⟨h0, h1⟩ (bkGr_at g5 hL n)]
        refine ⟨rfl, ?_⟩
        have F6 : bkFr bkA144 M (bk_up M5 45 1 (n % 36) (M5 45 1 (n % 36) + bkWk n)) := bkFr_up F5 (by unfold bkA144; omega)
        have R6 : bkRel (bk_up M5 45 1 (n % 36) (M5 45 1 (n % 36) + bkWk n)) p N := bkRel_fr hR fun k hk => F6 k p (by unfold bkA144; omega)
        refine bk_use (S145 (d := d) R6 (bkGr_up g5) hL1 hs) ?_
        rintro r M8 ⟨F8, rfl⟩
        have g8 : ∀ c, 0 ≤ c → c < 36 → M8 45 1 c = bkRL N (L ++ [n]) (85 + c) := fun c q1 q2 => by rw [F8 45 1 (by unfold bkA35; omega)]; exact bkGr_up g5 c q1 q2
        rw [S83 ⟨h0, h1⟩ (bkGr_at g8 hL1 n)]
        have F9 : bkFr bkA144 M (bk_up M8 45 1 (n % 36) (M8 45 1 (n % 36) - bkWk n)) := bkFr_up (bkFr_trans F6 (bkFr_mono F8 fun k a w => by unfold bkA35 at w; unfold bkA144; omega)) (by unfold bkA144; omega)
        have e97 : bk_up M8 45 1 (n % 36) (M8 45 1 (n % 36) - bkWk n) 7 0 = M5 7 0 := by rw [bk_up_f (by decide), F8 7 0 (by unfold bkA35; omega), bk_up_f (by decide)]
        refine ⟨rfl, rfl, fun z4 => ⟨by omega, ?_⟩, fun z4 => ?_⟩
        · have hno : ¬ (bkEf N n = true ∧ bkMay (bkRL N L) (1 - s) n = true ∧ bkEdge N (L ++ [n]) s < (bkAnP N L s (bkEf N) n.toNat).1) := fun w => absurd w.2.2 (by omega)
          have ih := ih _ ⟨F9, fun j hj => by rw [e97]; exact k7 j hj, bkGr_dn g8, by rw [hstep, if_neg hno, e97]; exact k12, fun _ => by omega⟩ (bk_i (bkEdge N (L ++ [n]) s))
          rw [hstep, if_neg hno] at ih
          exact ih
        · have hyes2 : bkEf N n = true ∧ bkMay (bkRL N L) (1 - s) n = true ∧ bkEdge N (L ++ [n]) s < (bkAnP N L s (bkEf N) n.toNat).1 := ⟨hyes.1, hyes.2, by omega⟩
          intro M13 hM13
          have ih := ih M13 ⟨by rw [hM13]; exact bkFr_up F9 (by unfold bkA144; omega), fun j hj => by rw [hM13, bk_up_s hj, e97]; exact k7 j hj, fun c q1 q2 => by rw [hM13, bk_up_f (by decide)]; exact bkGr_dn g8 c q1 q2, by rw [hstep, if_pos hyes2, hM13, bk_up_e], fun _ => by omega⟩ (bk_i (bkEdge N (L ++ [n]) s))
          rw [hstep, if_pos hyes2] at ih
          exact ⟨by omega, ih⟩
  · rintro M5 ⟨F5, k7, g5, k12, hz⟩ v7
    have e : bkAns N L s = bkAnP N L s bkAny 72 := if_neg (hz (by omega))
    have hA := ab 72
    rw [LG_144_22]
    refine ⟨fun _ => ⟨rfl, F5, k7, g5, fun _ => ?_, fun q => ?_, hA⟩, fun z => absurd (Int.le_refl _) z⟩
    · rw [e, ← bkAnP_ef hN, k12]
      exact ⟨rfl, rfl⟩
    · rw [e, ← bkAnP_ef hN] at q
      exact q
theorem S143 {d p : Nat} {s : Int} {M : bk_M} {N : Int → Int} (hR : bkRel M p N) (hs : 0 ≤ s ∧ s ≤ 1) :
    bk_C (d + 5) 0 143 [bk_c 7 0, bk_c 5 p, bk_i s] M (fun t r M' => t = 0 ∧ bkFr (fun k a => bkA144 k a ∨ (k = 41 ∧ a = 0)) M M' ∧ (∀ j, j ≠ 3 → j ≠ 12 → j ≠ 13 → M' 7 0 j = M 7 0 j) ∧ M' 7 0 3 = 1 ∧ r = (bkDu N s).1 ∧ M' 41 0 0 = (bkDu N s).2.1 ∧ M' 41 0 1 = (bkDu N s).2.2) := by
  have hN := bkRel_md hR
  have c2 := (hR.2.2.2.1 s (by omega) (by omega)).1
  have c3 := hR.2.2.2.2.1
  have n12 := hN.2.2.2.2.2.2.2.2.2.2.2.1 s (by omega) (by omega)
  have eb : ∀ L, -200 ≤ bkEdge N L s ∧ bkEdge N L s ≤ 200 := fun L => by
    have v0 := bkVal_b hN L s
    have v1 := bkVal_b hN L (1 - s)
    unfold bkEdge; omega
  have ab : ∀ L, -200 ≤ (bkAns N L s).1 ∧ (bkAns N L s).1 ≤ 200 := fun L => by
    have key : ∀ n : Nat, -200 ≤ (bkAnP N L s bkAny n).1 ∧ (bkAnP N L s bkAny n).1 ≤ 200 := fun n => by
      induction n with
      | zero => exact eb L
      | succ n ih =>
        unfold bkAnP
        split
        · exact eb _
        · exact ih
    unfold bkAns
    split
    · exact eb L
    · exact key 72
  rw [E_143, S34]
  refine ⟨rfl, .inr rfl, ?_⟩
  intro M4 hM4
  have F4 : bkFr (fun k a => bkA144 k a ∨ (k = 41 ∧ a = 0)) M M4 := by rw [hM4]; exact bkFr_up (bkFr_cpy (bkFr_refl _ _) (by unfold bkA144; omega)) (by unfold bkA144; omega)
  have R4 : bkRel M4 p N := bkRel_fr hR fun k hk => F4 k p (by unfold bkA144; omega)
  have g4 : ∀ c, 0 ≤ c → c < 36 → M4 45 1 c = bkRL N [] (85 + c) := fun c q1 q2 => by
    rw [bkRL_nil, hM4, bk_up_f (by decide), bk_cpy_at, if_pos (by omega), Int.zero_add, Int.sub_zero, c3 c q1 q2]
  refine bk_use (S144 (d := d) (fl := -1000) R4 g4 (bkLeg_nil hN) hs) ?_
  rintro r M6 ⟨F6, k6, g6, hr, -, -⟩
  have hr := hr (by have := ab []; omega)
  refine ⟨rfl, ?_⟩
  intro M8 hM8
  refine ⟨by omega, ?_⟩
  intro M9 hM9
  refine ⟨by omega, ?_⟩
  intro M10 hM10
  have e912 : M9 7 0 12 = (bkAns N [] s).2 := by rw [hM9, bk_up_f (by decide), hM8, bk_up_s (by decide)]; exact hr.2
  rw [e912] at hM10
  have F10 : bkFr (fun k a => bkA144 k a ∨ (k = 41 ∧ a = 0)) M M10 := by
    rw [hM10, hM9, hM8]
    exact bkFr_up (bkFr_up (bkFr_up (bkFr_trans F4 (bkFr_mono F6 fun k a w => .inl w)) (by unfold bkA144; omega)) (.inr ⟨rfl, rfl⟩)) (.inr ⟨rfl, rfl⟩)
  have q7 : ∀ j, j ≠ 3 → j ≠ 12 → j ≠ 13 → M10 7 0 j = M 7 0 j := fun j w1 w2 w3 => by
    rw [hM10, bk_up_f (by decide), hM9, bk_up_f (by decide), hM8, bk_up_s w3, k6 j w2, hM4, bk_up_s w1, bk_cpy_o (by omega)]
  have q3 : M10 7 0 3 = 1 := by rw [hM10, bk_up_f (by decide), hM9, bk_up_f (by decide), hM8, bk_up_s (by decide), k6 3 (by decide), hM4, bk_up_e]
  have q13 : M10 7 0 13 = (bkDuP N s (bkEf N) 0).1 := by rw [hM10, bk_up_f (by decide), hM9, bk_up_f (by decide), hM8, bk_up_e]; exact hr.1
  have q410 : M10 41 0 0 = (bkDuP N s (bkEf N) 0).2.1 := by rw [hM10, bk_up_s (by decide), hM9, bk_up_e]; rfl
  have q411 : M10 41 0 1 = (bkDuP N s (bkEf N) 0).2.2 := by rw [hM10, bk_up_e]; rfl
  have g10 : ∀ c, 0 ≤ c → c < 36 → M10 45 1 c = bkRL N [] (85 + c) := fun c w1 w2 => by rw [hM10, bk_up_f (by decide), hM9, bk_up_f (by decide), hM8, bk_up_f (by decide)]; exact g6 c w1 w2
  have key := bk_loopS (W := fun n M5 => ∀ v4, bk_wp (bk_C (d + 4)) P_143 (fun t r M' => t = 0 ∧ bkFr (fun k a => bkA144 k a ∨ (k = 41 ∧ a = 0)) M M' ∧ (∀ j, j ≠ 3 → j ≠ 12 → j ≠ 13 → M' 7 0 j = M 7 0 j) ∧ M' 7 0 3 = 1 ∧ r = (bkDu N s).1 ∧ M' 41 0 0 = (bkDu N s).2.1 ∧ M' 41 0 1 = (bkDu N s).2.2) 0 46 [bk_c 7 0, bk_c 5 p, bk_i s, bk_i n, v4] [] M5) (s := 0) (n := 72)
    (fun n M5 => bkFr (fun k a => bkA144 k a ∨ (k = 41 ∧ a = 0)) M M5 ∧ (∀ j, j ≠ 3 → j ≠ 12 → j ≠ 13 → M5 7 0 j = M 7 0 j) ∧ M5 7 0 3 = 1 ∧ (∀ c, 0 ≤ c → c < 36 → M5 45 1 c = bkRL N [] (85 + c)) ∧ M5 7 0 13 = (bkDuP N s (bkEf N) n.toNat).1 ∧ M5 41 0 0 = (bkDuP N s (bkEf N) n.toNat).2.1 ∧ M5 41 0 1 = (bkDuP N s (bkEf N) n.toNat).2.2 ∧ (0 < n → N (81 + s) ≠ 0)) (by omega) ?_ ?_ (M := M10) ⟨F10, q7, q3, g10, q13, q410, q411, fun z => absurd z (by omega)⟩
  · exact key _
  · rintro n M5 h0 h1 ⟨F5, k7, k3, g5, k13, k0, k1, hz⟩ ih v4
    have R5 : bkRel M5 p N := bkRel_fr hR fun k hk => F5 k p (by unfold bkA144; omega)
    have e37 : M5 37 p s = N (81 + s) := by rw [F5 37 p (by unfold bkA144; omega), c2]
    have en : ((n.toNat : Nat) : Int) = n := by omega
    have hstep : bkDuP N s (bkEf N) (n + 1).toNat = if bkEf N n = true ∧ bkMay N s n = true ∧ (bkDuP N s (bkEf N) n.toNat).1 < (bkAns N [n] s).1 then ((bkAns N [n] s).1, n, (bkAns N [n] s).2) else bkDuP N s (bkEf N) n.toNat := by
      rw [show (n + 1).toNat = n.toNat + 1 by omega]
      show (if bkEf N (n.toNat : Nat) = true ∧ bkMay N s (n.toNat : Nat) = true ∧ (bkDuP N s (bkEf N) n.toNat).1 < (bkAns N [((n.toNat : Nat) : Int)] s).1 then ((bkAns N [((n.toNat : Nat) : Int)] s).1, ((n.toNat : Nat) : Int), (bkAns N [((n.toNat : Nat) : Int)] s).2) else bkDuP N s (bkEf N) n.toNat) = _
      rw [en]
    rw [LG_143_46, e37]
    unfold bk_r32
    refine ⟨fun z => absurd z (by omega), fun _ => ⟨by omega, fun z => ?_, fun z => ?_⟩⟩
    · have hn : n = 0 := Classical.byContradiction fun w => hz (by omega) (by omega)
      subst hn
      have e : bkDu N s = bkDuP N s bkAny 0 := if_pos (by omega)
      rw [e]
      exact ⟨rfl, F5, k7, k3, k13, k0, k1⟩
    · have hS80 : ∀ Q : bk_Q, bk_C (d + 4) 0 80 [bk_c 7 0, bk_c 5 p, bk_i s, bk_i n] M5 Q ↔ Q 0 (if bkEf N n = true ∧ bkMay N s n = true then 1 else 0) M5 := fun Q => by
        have := S80 (d := d + 2) (Q := Q) R5 g5 hs (w := n) ⟨h0, h1⟩
        rw [bkRL_nil] at this
        exact this
      rw [hS80]
      refine ⟨rfl, fun z3 => ⟨by omega, ?_⟩, fun z3 => ?_⟩
      · have hno : ¬ (bkEf N n = true ∧ bkMay N s n = true) := fun w => by rw [if_pos w] at z3; exact absurd z3 (by decide)
        rw [if_neg (fun w => hno ⟨w.1, w.2.1⟩)] at hstep
        exact ih M5 ⟨F5, k7, k3, g5, by rw [hstep]; exact k13, by rw [hstep]; exact k0, by rw [hstep]; exact k1, fun _ => by omega⟩ v4
      · have hyes : bkEf N n = true ∧ bkMay N s n = true := Classical.byContradiction fun w => z3 (if_neg w)
        have hL1 : bkLeg N ([] ++ [n]) := bkLeg_snoc (s := s) (bkLeg_nil hN) (by rw [bkRL_nil]; exact hyes.2) ⟨h0, h1⟩
        rw [S82 ⟨h0, h1⟩ (bkGr_at g5 (bkLeg_nil hN) n)]
        refine ⟨rfl, ?_⟩
        have F6 : bkFr (fun k a => bkA144 k a ∨ (k = 41 ∧ a = 0)) M (bk_up M5 45 1 (n % 36) (M5 45 1 (n % 36) + bkWk n)) := bkFr_up F5 (by unfold bkA144; omega)
        have R6 : bkRel (bk_up M5 45 1 (n % 36) (M5 45 1 (n % 36) + bkWk n)) p N := bkRel_fr hR fun k hk => F6 k p (by unfold bkA144; omega)
        rw [show bk_up M5 45 1 (n % 36) (M5 45 1 (n % 36) + bkWk n) 7 0 13 = (bkDuP N s (bkEf N) n.toNat).1 by rw [bk_up_f (by decide), k13]]
        refine bk_use (S144 (d := d) R6 (bkGr_up g5) hL1 hs) ?_
        rintro r M8 ⟨F8, e8, g8, hr1, hr2, hrb⟩
        have hL2 : ([] ++ [n] : List Int) = [n] := rfl
        rw [hL2] at hr1 hr2
        rw [S83 ⟨h0, h1⟩ (bkGr_at g8 hL1 n)]
        have F9 : bkFr (fun k a => bkA144 k a ∨ (k = 41 ∧ a = 0)) M (bk_up M8 45 1 (n % 36) (M8 45 1 (n % 36) - bkWk n)) := bkFr_up (bkFr_trans F6 (bkFr_mono F8 fun k a w => .inl w)) (by unfold bkA144; omega)
        have e97 : ∀ j, j ≠ 12 → bk_up M8 45 1 (n % 36) (M8 45 1 (n % 36) - bkWk n) 7 0 j = M5 7 0 j := fun j hj => by rw [bk_up_f (by decide), e8 j hj, bk_up_f (by decide)]
        have e941 : bk_up M8 45 1 (n % 36) (M8 45 1 (n % 36) - bkWk n) 41 0 = M5 41 0 := by rw [bk_up_f (by decide), F8 41 0 (by unfold bkA144; omega), bk_up_f (by decide)]
        have e9712 : bk_up M8 45 1 (n % 36) (M8 45 1 (n % 36) - bkWk n) 7 0 12 = M8 7 0 12 := by rw [bk_up_f (by decide)]
        have e9713 := e97 13 (by decide)
        rw [k13] at e9713
        rw [e9713]
        refine ⟨rfl, rfl, fun z4 => ⟨by omega, ?_⟩, fun z4 => ?_⟩
        · have hno : ¬ (bkEf N n = true ∧ bkMay N s n = true ∧ (bkDuP N s (bkEf N) n.toNat).1 < (bkAns N [n] s).1) := fun w => by
            have := hr1 w.2.2
            omega
          rw [if_neg hno] at hstep
          exact ih _ ⟨F9, fun j w1 w2 w3 => by rw [e97 j w2]; exact k7 j w1 w2 w3, by rw [e97 3 (by decide)]; exact k3, bkGr_dn g8, by rw [hstep]; exact e9713, by rw [hstep, e941]; exact k0, by rw [hstep, e941]; exact k1, fun _ => by omega⟩ _
        · have hlt : (bkDuP N s (bkEf N) n.toNat).1 < (bkAns N [n] s).1 := Classical.byContradiction fun w => z4 (hr2 (by omega))
          have hv := hr1 hlt
          have hyes2 : bkEf N n = true ∧ bkMay N s n = true ∧ (bkDuP N s (bkEf N) n.toNat).1 < (bkAns N [n] s).1 := ⟨hyes.1, hyes.2, hlt⟩
          rw [if_pos hyes2] at hstep
          intro M13 hM13
          refine ⟨by omega, ?_⟩
          intro M14 hM14
          refine ⟨by omega, ?_⟩
          intro M15 hM15
          have e1412 : M14 7 0 12 = (bkAns N [n] s).2 := by rw [hM14, bk_up_f (by decide), hM13, bk_up_s (by decide), e9712]; exact hv.2
          rw [e1412] at hM15
          refine ⟨by omega, ih M15 ⟨?_, fun j w1 w2 w3 => ?_, ?_, fun c w1 w2 => ?_, ?_, ?_, ?_, fun _ => by omega⟩ _⟩
          · rw [hM15, hM14, hM13]; exact bkFr_up (bkFr_up (bkFr_up F9 (by unfold bkA144; omega)) (.inr ⟨rfl, rfl⟩)) (.inr ⟨rfl, rfl⟩)
          · rw [hM15, bk_up_f (by decide), hM14, bk_up_f (by decide), hM13, bk_up_s w3, e97 j w2]; exact k7 j w1 w2 w3
          · rw [hM15, bk_up_f (by decide), hM14, bk_up_f (by decide), hM13, bk_up_s (by decide), e97 3 (by decide)]; exact k3
          · rw [hM15, bk_up_f (by decide), hM14, bk_up_f (by decide), hM13, bk_up_f (by decide)]; exact bkGr_dn g8 c w1 w2
          · rw [hstep, hM15, bk_up_f (by decide), hM14, bk_up_f (by decide), hM13, bk_up_e]; exact hv.1
          · rw [hstep, hM15, bk_up_s (by decide), hM14, bk_up_e]
          · rw [hstep, hM15, bk_up_e]
  · rintro M5 ⟨F5, k7, k3, g5, k13, k0, k1, hz⟩ v4
    have e : bkDu N s = bkDuP N s bkAny 72 := if_neg (hz (by omega))
    rw [bkDuP_ef hN] at k13 k0 k1
    rw [LG_143_46, e]
    exact ⟨fun _ => ⟨rfl, F5, k7, k3, k13, k0, k1⟩, fun z => absurd (Int.le_refl _) z⟩
