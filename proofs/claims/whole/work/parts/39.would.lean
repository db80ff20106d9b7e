/-! Where the river would go. -/
def bkA33 (i : Nat) (k a : Nat) : Prop := (k = 8 ∨ k = 45 ∨ k = 46 ∨ k = 47 ∨ k = 48) ∧ a = i
theorem S34 {d i p : Nat} {Q : bk_Q} {M : bk_M} : bk_C (d + 1) 0 34 [bk_c 8 i, bk_c 5 p] M Q ↔ Q 0 0 (bk_cpy M 28 p 0 45 i 0 36) := by
  refine bk_det (fun Q hQ => ?_) Q
  rw [E_34]
  refine ⟨by omega, ?_⟩
  intro M1 hM1
  rw [hM1]
  exact hQ
/-- the ground as it is, without ice -/
def bkG0 (N : Int → Int) : Int → Int := fun c => N (85 + c)
theorem bkG0_b {N : Int → Int} (h : bkMd N) : bkGr (bkG0 N) (N 2) (N 3) := by
  obtain ⟨n1, n2, n3, n4, n5, n6, n7, n8, -⟩ := h
  intro y x h0 h1 h2 h3
  have := n8 (6 * y + x) (by omega) (by omega)
  unfold bkG0
  omega
theorem bkWould_e (N : Int → Int) (y : Int) : bkBd (bkG0 N) (N 2) (N 3) (N 4) y = bkWould N y := rfl
def bkWouldT (N : Int → Int) : Int := bkRow (bkG0 N) (N 2) (N 3) 0 (N 4)
theorem bkWould_b {N : Int → Int} (h : bkMd N) {y : Int} (z1 : 0 ≤ y) (z2 : y < N 3) : 0 ≤ bkWould N y ∧ bkWould N y < N 2 := by
  have hg := bkG0_b h
  obtain ⟨n1, n2, n3, -⟩ := h
  have := bkBd_r hg (S := N 4) (y := y) (by omega) (by omega) (by omega) z1 z2
  exact ⟨this.1, this.2.1⟩
theorem S33 {d i p : Nat} {M : bk_M} {N : Int → Int} (hR : bkRel M p N) :
    bk_C (d + 3) 0 33 [bk_c 8 i, bk_c 5 p] M (fun t _ M' => t = 0 ∧ bkFr (bkA33 i) M M' ∧ (∀ j, j ≠ 2 → M' 8 i j = M 8 i j) ∧ M' 8 i 2 = bkWouldT N ∧ ∀ y, 0 ≤ y → y < N 3 → M' 46 i y = bkWould N y) := by
  have hN := bkRel_md hR
  obtain ⟨n1, n2, n3, n4, n5, n6, n7, n8, -⟩ := id hN
  obtain ⟨b1, b2, b3, b4, b5, b6, b7⟩ := hR.2.1
  have c3 := hR.2.2.2.2.1
  rw [E_33, S34]
  refine ⟨rfl, ?_⟩
  have F1 : bkFr (bkA33 i) M (bk_cpy M 28 p 0 45 i 0 36) := bkFr_cpy (bkFr_refl _ _) (by unfold bkA33; omega)
  have e5 : bk_cpy M 28 p 0 45 i 0 36 5 p = M 5 p := F1 5 p (by unfold bkA33; omega)
  have R1 : bkRel (bk_cpy M 28 p 0 45 i 0 36) p N := bkRel_fr hR fun k hk => F1 k p (by unfold bkA33; omega)
  have e45 : ∀ y x, 0 ≤ y → y < N 3 → 0 ≤ x → x < N 2 → bk_cpy M 28 p 0 45 i 0 36 45 i (6 * y + x) = bkG0 N (6 * y + x) := fun y x z1 z2 z3 z4 => by
    rw [bk_cpy_at, if_pos (by omega), Int.zero_add, Int.sub_zero, c3 _ (by omega) (by omega)]
    rfl
  have hg : bkGr (bk_cpy M 28 p 0 45 i 0 36 45 i) (bk_cpy M 28 p 0 45 i 0 36 5 p 0) (bk_cpy M 28 p 0 45 i 0 36 5 p 1) := by
    rw [e5, b3, b4]
    intro y x z1 z2 z3 z4
    rw [e45 y x z1 z2 z3 z4]
    exact bkG0_b hN y x z1 z2 z3 z4
  refine bk_use (P := fun _ M' => bkRan _ i p M') (S35 (d := d) R1.1 hg) ?_
  rintro r M2 ⟨F2, o8, T, B⟩
  rw [e5, b3, b4, b5] at B T
  refine ⟨rfl, rfl, bkFr_trans F1 (bkFr_mono F2 fun k a w => by unfold bkA35 at w; unfold bkA33; omega), fun j hj => ?_, ?_, fun y z1 z2 => ?_⟩
  · rw [o8 j hj, bk_cpy_o (by omega)]
  · rw [T, bkRow_eq (g := bkG0 N) (by omega) (by omega) e45 (by omega) (by omega)]
    rfl
  · rw [B y z1 z2]
    have e := bkBd_eq (f := bk_cpy M 28 p 0 45 i 0 36 45 i) (g := bkG0 N) (W := N 2) (H := N 3) (S := N 4) (by omega) (by omega) e45 y.toNat (by omega)
    rw [Int.toNat_of_nonneg z1] at e
    exact e
/-- by any bed -/
def bkWsB (N b : Int → Int) (s : Int) : Int → Bool := fun f => decide (bkSide (N (42 + f)) (b (N (52 + f))) = s)
def bkFldB (N b : Int → Int) (s : Int) : Int := bkBits (bkWsB N b s) (N 0).toNat
def bkWorB (N b : Int → Int) (s : Int) : Int := bkWorth (fun f => N (62 + f)) (bkWsB N b s) (N 0).toNat
theorem bkWsB_congr {N b c : Int → Int} (hN : bkMd N) (h : ∀ y, 0 ≤ y → y < N 3 → b y = c y) (s : Int) : ∀ k : Nat, k < (N 0).toNat → bkWsB N b s k = bkWsB N c s k := fun k hk => by
  obtain ⟨n1, n2, n3, n4, n5, n6, n7, n8, n9, n10, -⟩ := hN
  have q := n10 k (by omega) (by omega)
  unfold bkWsB
  rw [h _ (by omega) (by omega)]
theorem bkIs_B {M : bk_M} {p i : Nat} {N b : Int → Int} (hR : bkRel M p N) (h46 : ∀ y, 0 ≤ y → y < N 3 → M 46 i y = b y) (s : Int) : ∀ k : Nat, k < (N 0).toNat → bkIs M p 46 i s k = bkWsB N b s k := fun k hk => by
  have hN := bkRel_md hR
  obtain ⟨n1, n2, n3, n4, n5, n6, n7, n8, n9, n10, -⟩ := hN
  obtain ⟨b1, b2, b3, b4, b5, b6, b7⟩ := hR.2.1
  have q := b7 k (by omega) (by omega)
  have q2 := n10 k (by omega) (by omega)
  unfold bkIs bkWsB
  rw [q.1, bkBank_side (by omega) (by omega), h46 _ (by omega) (by omega)]
theorem S48B {d i p : Nat} {Q : bk_Q} {s : Int} {M : bk_M} {N b : Int → Int} (hR : bkRel M p N) (h46 : ∀ y, 0 ≤ y → y < N 3 → M 46 i y = b y) : bk_C (d + 2) 0 48 [bk_c 5 p, bk_c 46 i, bk_i s] M Q ↔ Q 0 (bkFldB N b s) M := by
  have b1 := hR.2.1.1
  rw [S48 (.inr rfl) hR.1, b1, bkBits_congr (bkIs_B hR h46 s)]
  rfl
theorem S49B {d i p : Nat} {Q : bk_Q} {s : Int} {M : bk_M} {N b : Int → Int} (hR : bkRel M p N) (h46 : ∀ y, 0 ≤ y → y < N 3 → M 46 i y = b y) : bk_C (d + 2) 0 49 [bk_c 5 p, bk_c 46 i, bk_i s] M Q ↔ Q 0 (bkWorB N b s) M := by
  have b1 := hR.2.1.1
  have b7 := hR.2.1.2.2.2.2.2.2
  have e : bkWorth (M 31 p) (bkIs M p 46 i s) (N 0).toNat = bkWorB N b s := bkWorth_congr fun k hk => ⟨bkIs_B hR h46 s k hk, (b7 k (by omega) (by omega)).2.1⟩
  rw [S49 (.inr rfl) hR.1, b1, e]
theorem S230 {d : Nat} {Q : bk_Q} {s : Int} {M : bk_M} (hN : bkMw (M 58 0)) : bk_C (d + 3) 0 230 [bk_c 12 0, bk_i s] M Q ↔ Q 0 (bkFldB (M 58 0) (M 71 0) s) M := by
  have hf := hN.2.2.1
  refine bk_det (fun Q hQ => ?_) Q
  rw [E_230]
  refine bk_for (W := fun f => bk_wp (bk_C (d + 2)) P_230 Q 0 4 [bk_c 12 0, bk_i s, bk_i (bkBits (bkWsB (M 58 0) (M 71 0) s) f.toNat), bk_i f] [] M) (n := M 58 0 0) hf.1 (fun f h0 h1 ih => ?_) ?_
  · rw [L_230_4, S222 hN h0 h1]
    rw [show (f + 1).toNat = f.toNat + 1 by omega, bkBits_succ] at ih
    have hb := bkBits_lt (bkWsB (M 58 0) (M 71 0) s) f.toNat
    have hp : (2 : Int) ^ f.toNat ≤ 1024 := by
      have key : ∀ f : Nat, f < 10 → (2 : Int) ^ f ≤ 1024 := by decide
      exact key f.toNat (by omega)
    have hp0 : (0 : Int) < 2 ^ f.toNat := Int.pow_pos (by omega)
    have e3 : ((f.toNat : Nat) : Int) = f := by omega
    refine ⟨by omega, fun q => absurd q (by omega), fun _ => ⟨rfl, fun q => ?_, fun q => ?_⟩⟩
    · rw [if_neg (by simpa [bkWsB, e3] using q), Int.add_zero] at ih
      exact ⟨by unfold bk_r32; omega, ih⟩
    · rw [if_pos (by simpa [bkWsB, e3] using q)] at ih
      rw [Int.one_mul, bkBits_or (by omega)]
      exact ⟨⟨by omega, by omega, by unfold bk_r32; omega⟩, by unfold bk_r32; omega, ih⟩
  · rw [L_230_4]
    exact ⟨by omega, fun _ => hQ, fun q => absurd (Int.le_refl _) q⟩
/-- the reference's bed without ice -/
theorem S153z {d : Nat} {M : bk_M} (hN : bkMd (M 58 0)) (hI : ∀ c, 0 ≤ c → c < 36 → M 69 0 c = 0) :
    bk_C (d + 5) 0 153 [bk_c 12 0] M (fun t r M' => t = 0 ∧ bkFr bkA153 M M' ∧ r = bkWouldT (M 58 0) ∧ ∀ y, 0 ≤ y → y < M 58 0 3 → M' 71 0 y = bkWould (M 58 0) y) := by
  obtain ⟨n1, n2, n3, n4, n5, n6, n7, n8, -⟩ := id hN
  have egd : ∀ y x, 0 ≤ y → y < M 58 0 3 → 0 ≤ x → x < M 58 0 2 → bkGd M (6 * y + x) = bkG0 (M 58 0) (6 * y + x) := fun y x z1 z2 z3 z4 => by
    unfold bkGd bkG0
    rw [hI _ (by omega) (by omega), Int.add_zero]
  have hg : bkGr (bkGd M) (M 58 0 2) (M 58 0 3) := fun y x z1 z2 z3 z4 => by
    rw [egd y x z1 z2 z3 z4]
    exact bkG0_b hN y x z1 z2 z3 z4
  refine bk_use (P := bkLaid M) (S153 (d := d) hN hg) ?_
  rintro r M2 ⟨F, hr, B⟩
  refine ⟨rfl, F, ?_, fun y z1 z2 => ?_⟩
  · rw [hr, bkRow_eq (g := bkG0 (M 58 0)) (by omega) (by omega) egd (by omega) (by omega)]
    rfl
  · rw [B y z1 z2]
    have e := bkBd_eq (f := bkGd M) (g := bkG0 (M 58 0)) (W := M 58 0 2) (H := M 58 0 3) (S := M 58 0 4) (by omega) (by omega) egd y.toNat (by omega)
    rw [Int.toNat_of_nonneg z1] at e
    exact e
def bkWouldA (N : Int → Int) (y : Int) : Int := if 0 ≤ y ∧ y < N 3 then bkWould N y else -1
def bkWouldBe (N : Int → Int) (s : Int) : Int := if 0 ≤ s ∧ s ≤ 2 then bkFldB N (bkWould N) s else -1
theorem bkFldB_congr {N b c : Int → Int} (hN : bkMd N) (h : ∀ y, 0 ≤ y → y < N 3 → b y = c y) (s : Int) : bkFldB N b s = bkFldB N c s := bkBits_congr (bkWsB_congr hN h s)
theorem bkWorB_congr {N b c : Int → Int} (hN : bkMd N) (h : ∀ y, 0 ≤ y → y < N 3 → b y = c y) (s : Int) : bkWorB N b s = bkWorB N c s := bkWorth_congr fun k hk => ⟨bkWsB_congr hN h s k hk, rfl⟩
theorem S73 {d p : Nat} {M : bk_M} {N : Int → Int} (hR : bkRel M p N) (hp : (M 11 0 1).toNat = p) : bk_C (d + 4) 0 73 [bk_c 11 0] M (fun t r M' => t = 0 ∧ bkFr (bkA33 0) M M' ∧ r = bkWouldT N) := by
  rw [E_73, hp]
  refine bk_use (S33 (d := d) (i := 0) hR) ?_
  rintro r M' ⟨F, o8, T, B⟩
  exact ⟨rfl, rfl, F, T⟩
theorem S74 {d p : Nat} {y : Int} {M : bk_M} {N : Int → Int} (hR : bkRel M p N) (hp : (M 11 0 1).toNat = p) : bk_C (d + 4) 0 74 [bk_c 11 0, bk_i y] M (fun t r M' => t = 0 ∧ bkFr (bkA33 0) M M' ∧ r = bkWouldA N y) := by
  have hN := bkRel_md hR
  have e45 : ∀ Q : bk_Q, bk_C (d + 3) 0 45 [bk_c 11 0, bk_i y] M Q ↔ Q 0 (if 0 ≤ y ∧ y < N 3 then 1 else 0) M := fun Q => by
    rw [E_45, hp, hR.2.1.2.2.2.1]
    grind
  rw [E_74, e45, hp]
  unfold bkWouldA
  by_cases hy : 0 ≤ y ∧ y < N 3
  · rw [if_pos hy]
    refine ⟨rfl, fun _ => ?_, fun z => absurd (by decide) z⟩
    refine bk_use (S33 (d := d) (i := 0) hR) ?_
    rintro r M' ⟨F, o8, T, B⟩
    have h3 := hN.2.1
    refine ⟨rfl, by omega, rfl, F, ?_⟩
    rw [if_pos hy]
    exact B y hy.1 hy.2
  · rw [if_neg hy]
    exact ⟨rfl, fun z => absurd rfl z, fun _ => ⟨rfl, bkFr_refl _ _, (if_neg hy).symm⟩⟩
theorem S75 {d p : Nat} {s : Int} {M : bk_M} {N : Int → Int} (hR : bkRel M p N) (hp : (M 11 0 1).toNat = p) : bk_C (d + 4) 0 75 [bk_c 11 0, bk_i s] M (fun t r M' => t = 0 ∧ bkFr (bkA33 0) M M' ∧ r = bkWouldBe N s) := by
  have hbad : ¬ (0 ≤ s ∧ s ≤ 2) → bkWouldBe N s = -1 := fun w => if_neg w
  rw [E_75, hp]
  refine ⟨fun z => ⟨rfl, bkFr_refl _ _, (hbad (by omega)).symm⟩, fun z => ⟨fun z2 => ?_, fun z2 => ⟨rfl, bkFr_refl _ _, (hbad (by omega)).symm⟩⟩⟩
  refine bk_use (S33 (d := d) (i := 0) hR) ?_
  rintro r M' ⟨F, o8, T, B⟩
  have R' : bkRel M' p N := bkRel_fr hR fun k hk => F k p (by unfold bkA33; omega)
  rw [F 11 0 (by unfold bkA33; omega), hp, S48B R' B]
  refine ⟨rfl, rfl, rfl, F, ?_⟩
  exact (if_pos ⟨by omega, z2⟩ : bkWouldBe N s = _).symm
theorem bkUp0_fr {A : Nat → Nat → Prop} {M : bk_M} (h : A 12 0) : bkFr A M (bk_up M 12 0 0 0) := bkFr_up (bkFr_refl _ _) h
def bkA227 (k a : Nat) : Prop := (k = 12 ∨ k = 70 ∨ k = 71) ∧ a = 0
theorem S227 {d : Nat} {M : bk_M} (hN : bkMd (M 58 0)) (hI : ∀ c, 0 ≤ c → c < 36 → M 69 0 c = 0) : bk_C (d + 6) 0 227 [bk_c 12 0] M (fun t r M' => t = 0 ∧ bkFr bkA227 M M' ∧ (∀ j, j ≠ 0 → M' 12 0 j = M 12 0 j) ∧ r = bkWouldT (M 58 0)) := by
  rw [E_227]
  intro M1 hM1
  have F1 : bkFr bkA227 M M1 := by rw [hM1]; exact bkFr_up (bkFr_refl _ _) (by unfold bkA227; omega)
  have e58 : M1 58 0 = M 58 0 := F1 58 0 (by unfold bkA227; omega)
  refine bk_use (S153z (d := d) (by rw [e58]; exact hN) (fun c q1 q2 => by rw [F1 69 0 (by unfold bkA227; omega)]; exact hI c q1 q2)) ?_
  rintro r M' ⟨F, hr, B⟩
  rw [e58] at hr
  exact ⟨rfl, rfl, bkFr_trans F1 (bkFr_mono F fun k a w => by unfold bkA153 at w; unfold bkA227; omega), fun j hj => by rw [F 12 0 (by unfold bkA153; omega), hM1, bk_up_s hj], hr⟩
theorem S228 {d : Nat} {y : Int} {M : bk_M} (hN : bkMd (M 58 0)) (hI : ∀ c, 0 ≤ c → c < 36 → M 69 0 c = 0) : bk_C (d + 6) 0 228 [bk_c 12 0, bk_i y] M (fun t r M' => t = 0 ∧ bkFr bkA227 M M' ∧ (∀ j, j ≠ 0 → M' 12 0 j = M 12 0 j) ∧ r = bkWouldA (M 58 0) y) := by
  rw [E_228]
  intro M1 hM1
  have F1 : bkFr bkA227 M M1 := by rw [hM1]; exact bkFr_up (bkFr_refl _ _) (by unfold bkA227; omega)
  have e58 : M1 58 0 = M 58 0 := F1 58 0 (by unfold bkA227; omega)
  have e12 : ∀ j, j ≠ 0 → M1 12 0 j = M 12 0 j := fun j hj => by rw [hM1, bk_up_s hj]
  rw [S202 (by rw [e58]; exact hN), e58]
  by_cases hy : 0 ≤ y ∧ y < M 58 0 3
  · rw [if_pos hy]
    refine ⟨rfl, fun _ => ?_, fun z => absurd (by decide) z⟩
    refine bk_use (S153z (d := d) (by rw [e58]; exact hN) (fun c q1 q2 => by rw [F1 69 0 (by unfold bkA227; omega)]; exact hI c q1 q2)) ?_
    rintro r M' ⟨F, hr, B⟩
    rw [e58] at B
    have h3 := hN.2.1
    refine ⟨rfl, by omega, rfl, bkFr_trans F1 (bkFr_mono F fun k a w => by unfold bkA153 at w; unfold bkA227; omega), fun j hj => by rw [F 12 0 (by unfold bkA153; omega), hM1, bk_up_s hj], ?_⟩
    rw [B y hy.1 hy.2]
    exact (if_pos hy : bkWouldA (M 58 0) y = _).symm
  · rw [if_neg hy]
    exact ⟨rfl, fun z => absurd rfl z, fun _ => ⟨rfl, F1, e12, (if_neg hy : bkWouldA (M 58 0) y = _).symm⟩⟩
theorem S229 {d : Nat} {s : Int} {M : bk_M} (hN : bkMd (M 58 0)) (hI : ∀ c, 0 ≤ c → c < 36 → M 69 0 c = 0) : bk_C (d + 6) 0 229 [bk_c 12 0, bk_i s] M (fun t r M' => t = 0 ∧ bkFr bkA227 M M' ∧ (∀ j, j ≠ 0 → M' 12 0 j = M 12 0 j) ∧ r = bkWouldBe (M 58 0) s) := by
  rw [E_229]
  intro M1 hM1
  have F1 : bkFr bkA227 M M1 := by rw [hM1]; exact bkFr_up (bkFr_refl _ _) (by unfold bkA227; omega)
  have e58 : M1 58 0 = M 58 0 := F1 58 0 (by unfold bkA227; omega)
  have e12 : ∀ j, j ≠ 0 → M1 12 0 j = M 12 0 j := fun j hj => by rw [hM1, bk_up_s hj]
  rw [S157]
  by_cases hs : 0 ≤ s ∧ s ≤ 2
  · rw [if_pos hs]
    refine ⟨rfl, fun _ => ?_, fun z => absurd (by decide) z⟩
    refine bk_use (S153z (d := d) (by rw [e58]; exact hN) (fun c q1 q2 => by rw [F1 69 0 (by unfold bkA227; omega)]; exact hI c q1 q2)) ?_
    rintro r M' ⟨F, hr, B⟩
    rw [e58] at B
    have e58' : M' 58 0 = M 58 0 := by rw [F 58 0 (by unfold bkA153; omega), e58]
    rw [S230 (by rw [e58']; exact bkMd_w hN), e58']
    refine ⟨rfl, rfl, rfl, bkFr_trans F1 (bkFr_mono F fun k a w => by unfold bkA153 at w; unfold bkA227; omega), fun j hj => by rw [F 12 0 (by unfold bkA153; omega), hM1, bk_up_s hj], ?_⟩
    rw [bkFldB_congr hN B s]
    exact (if_pos hs : bkWouldBe (M 58 0) s = _).symm
  · rw [if_neg hs]
    exact ⟨rfl, fun z => absurd rfl z, fun _ => ⟨rfl, F1, e12, (if_neg hs : bkWouldBe (M 58 0) s = _).symm⟩⟩
