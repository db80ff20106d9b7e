/-! Where the river runs: the least sums from the last row up. -/
def bkNx (c : Int → Int) (x : Int) : Int := if c (x - 1) ≤ c x ∧ c (x - 1) ≤ c (x + 1) then x - 1 else if c x ≤ c (x + 1) then x else x + 1
def bkCo (g : Int → Int) (W H : Int) : Nat → Int → Int
  | 0, x => if 0 ≤ x ∧ x < W then g (6 * (H - 1) + x) else 100000
  | n + 1, x => if 0 ≤ x ∧ x < W then g (6 * (H - 2 - n) + x) + bkCo g W H n (bkNx (bkCo g W H n) x) else 100000
def bkRow (g : Int → Int) (W H y : Int) : Int → Int := bkCo g W H (H - 1 - y).toNat
def bkBed (g : Int → Int) (W H S : Int) : Nat → Int
  | 0 => S
  | n + 1 => bkNx (bkRow g W H (n + 1)) (bkBed g W H S n)
def bkBd (g : Int → Int) (W H S : Int) (y : Int) : Int := bkBed g W H S y.toNat
theorem bkNx_near (c : Int → Int) (x : Int) : x - 1 ≤ bkNx c x ∧ bkNx c x ≤ x + 1 := by
  unfold bkNx
  split
  · omega
  · split <;> omega
theorem bkNx_min (c : Int → Int) (x : Int) : c (bkNx c x) ≤ c (x - 1) ∧ c (bkNx c x) ≤ c x ∧ c (bkNx c x) ≤ c (x + 1) := by
  unfold bkNx
  split
  · omega
  · split <;> omega
theorem bkNx_first (c : Int → Int) (x : Int) : (x - 1 < bkNx c x → c (bkNx c x) < c (x - 1)) ∧ (x < bkNx c x → c (bkNx c x) < c x) := by
  unfold bkNx
  split
  · omega
  · split <;> omega
theorem bkNx_is (c : Int → Int) (x : Int) : c (bkNx c x) = (if c (x - 1) ≤ (if c x ≤ c (x + 1) then c x else c (x + 1)) then c (x - 1) else (if c x ≤ c (x + 1) then c x else c (x + 1))) := by
  unfold bkNx
  by_cases h1 : c (x - 1) ≤ c x ∧ c (x - 1) ≤ c (x + 1)
  · rw [if_pos h1]
    by_cases h2 : c x ≤ c (x + 1)
    · rw [if_pos h2, if_pos h1.1]
    · rw [if_neg h2, if_pos h1.2]
  · rw [if_neg h1]
    by_cases h2 : c x ≤ c (x + 1)
    · rw [if_pos h2, if_pos h2, if_neg (by omega)]
    · rw [if_neg h2, if_neg h2, if_neg (by omega)]
theorem bkRow_last (g : Int → Int) (W H x : Int) : bkRow g W H (H - 1) x = if 0 ≤ x ∧ x < W then g (6 * (H - 1) + x) else 100000 := by
  unfold bkRow
  rw [show (H - 1 - (H - 1)).toNat = 0 by omega]
  rfl
theorem bkRow_s (g : Int → Int) (W : Int) {H y : Int} (x : Int) (h : y < H - 1) : bkRow g W H y x = if 0 ≤ x ∧ x < W then g (6 * y + x) + bkRow g W H (y + 1) (bkNx (bkRow g W H (y + 1)) x) else 100000 := by
  unfold bkRow
  rw [show (H - 1 - y).toNat = (H - 1 - (y + 1)).toNat + 1 by omega]
  show (if 0 ≤ x ∧ x < W then g (6 * (H - 2 - ((H - 1 - (y + 1)).toNat : Nat)) + x) + _ else _) = _
  rw [show H - 2 - (((H - 1 - (y + 1)).toNat : Nat) : Int) = y by omega]
theorem bkRow_out (g : Int → Int) (W : Int) {H y x : Int} (h : ¬ (0 ≤ x ∧ x < W)) : bkRow g W H y x = 100000 := by
  unfold bkRow
  cases (H - 1 - y).toNat with
  | zero => exact if_neg h
  | succ n => exact if_neg h
/-- heights and ice -/
def bkGr (g : Int → Int) (W H : Int) : Prop := ∀ y x, 0 ≤ y → y < H → 0 ≤ x → x < W → 0 ≤ g (6 * y + x) ∧ g (6 * y + x) ≤ 14
theorem bkRow_b {g : Int → Int} {W H : Int} (hg : bkGr g W H) (hW : 1 ≤ W ∧ W ≤ 6) (hH : H ≤ 6) : ∀ (n : Nat) (y : Int), 0 ≤ y → y + n = H - 1 → ∀ x, 0 ≤ x → x < W → 0 ≤ bkRow g W H y x ∧ bkRow g W H y x ≤ 14 * (n + 1) := by
  intro n
  induction n with
  | zero =>
    intro y h0 h1 x hx hx2
    have := hg (H - 1) x (by omega) (by omega) hx hx2
    rw [show y = H - 1 by omega, bkRow_last, if_pos ⟨hx, hx2⟩]
    omega
  | succ n ih =>
    intro y h0 h1 x hx hx2
    have hq := hg y x (by omega) (by omega) hx hx2
    have i := ih (y + 1) (by omega) (by omega)
    have n0 := bkNx_near (bkRow g W H (y + 1)) x
    have n1 := bkNx_min (bkRow g W H (y + 1)) x
    have i0 := i x hx hx2
    have hr : 0 ≤ bkNx (bkRow g W H (y + 1)) x ∧ bkNx (bkRow g W H (y + 1)) x < W := by
      refine Classical.byContradiction fun z => ?_
      have := bkRow_out g W (H := H) (y := y + 1) z
      omega
    have i1 := i _ hr.1 hr.2
    rw [bkRow_s g W x (by omega), if_pos ⟨hx, hx2⟩]
    omega
theorem bkRow_lt {g : Int → Int} {W H y x : Int} (hg : bkGr g W H) (hW : 1 ≤ W ∧ W ≤ 6) (hH : H ≤ 6) (h0 : 0 ≤ y) (h1 : y < H) (hx : 0 ≤ x ∧ x < W) : 0 ≤ bkRow g W H y x ∧ bkRow g W H y x ≤ 84 := by
  have := bkRow_b hg hW hH (H - 1 - y).toNat y h0 (by omega) x hx.1 hx.2
  omega
theorem bkNx_in {g : Int → Int} {W H y x : Int} (hg : bkGr g W H) (hW : 1 ≤ W ∧ W ≤ 6) (hH : H ≤ 6) (h0 : 0 ≤ y) (h1 : y < H) (hx : 0 ≤ x ∧ x < W) : 0 ≤ bkNx (bkRow g W H y) x ∧ bkNx (bkRow g W H y) x < W := by
  refine Classical.byContradiction fun z => ?_
  have n1 := bkNx_min (bkRow g W H y) x
  have := bkRow_out g W (H := H) (y := y) z
  have := bkRow_lt hg hW hH h0 h1 hx
  omega
theorem bkBd_0 (g : Int → Int) (W H S : Int) : bkBd g W H S 0 = S := rfl
theorem bkBd_s (g : Int → Int) (W H S : Int) {y : Int} (h : 0 ≤ y) : bkBd g W H S (y + 1) = bkNx (bkRow g W H (y + 1)) (bkBd g W H S y) := by
  unfold bkBd
  rw [show (y + 1).toNat = y.toNat + 1 by omega]
  show bkNx (bkRow g W H ((y.toNat : Nat) + 1)) _ = _
  rw [Int.toNat_of_nonneg h]
theorem bkBd_b {g : Int → Int} {W H S : Int} (hg : bkGr g W H) (hW : 1 ≤ W ∧ W ≤ 6) (hH : H ≤ 6) (hS : 0 ≤ S ∧ S < W) : ∀ (n : Nat) (y : Int), y = n → y < H → 0 ≤ bkBd g W H S y ∧ bkBd g W H S y < W ∧ S - y ≤ bkBd g W H S y ∧ bkBd g W H S y ≤ S + y := by
  intro n
  induction n with
  | zero => intro y e _; subst e; rw [show ((0 : Nat) : Int) = 0 by rfl, bkBd_0]; omega
  | succ n ih =>
    intro y e h
    have i := ih (n : Int) rfl (by omega)
    rw [show y = (n : Int) + 1 by omega, bkBd_s g W H S (by omega)]
    have h1 := bkNx_in hg hW hH (y := (n : Int) + 1) (by omega) (by omega) ⟨i.1, i.2.1⟩
    have h2 := bkNx_near (bkRow g W H ((n : Int) + 1)) (bkBd g W H S n)
    omega
theorem bkBd_r {g : Int → Int} {W H S y : Int} (hg : bkGr g W H) (hW : 1 ≤ W ∧ W ≤ 6) (hH : H ≤ 6) (hS : 0 ≤ S ∧ S < W) (h0 : 0 ≤ y) (h1 : y < H) : 0 ≤ bkBd g W H S y ∧ bkBd g W H S y < W ∧ S - y ≤ bkBd g W H S y ∧ bkBd g W H S y ≤ S + y :=
  bkBd_b hg hW hH hS y.toNat y (by omega) h1
/-! Only the ground of the plain counts. -/
theorem bkNx_congr {c e : Int → Int} {x : Int} (h : ∀ z, c z = e z) : bkNx c x = bkNx e x := by
  unfold bkNx
  rw [h, h, h]
theorem bkRow_congr {f g : Int → Int} {W H : Int} (hW : 1 ≤ W ∧ W ≤ 6) (hH : H ≤ 6) (h : ∀ y x, 0 ≤ y → y < H → 0 ≤ x → x < W → f (6 * y + x) = g (6 * y + x)) : ∀ (n : Nat) (y : Int), 0 ≤ y → y + n = H - 1 → bkRow f W H y = bkRow g W H y := by
  intro n
  induction n with
  | zero =>
    intro y h0 h1
    funext x
    rw [show y = H - 1 by omega, bkRow_last, bkRow_last]
    by_cases z : 0 ≤ x ∧ x < W
    · rw [if_pos z, if_pos z, h (H - 1) x (by omega) (by omega) z.1 z.2]
    · rw [if_neg z, if_neg z]
  | succ n ih =>
    intro y h0 h1
    funext x
    rw [bkRow_s f W x (by omega), bkRow_s g W x (by omega), ih (y + 1) (by omega) (by omega)]
    by_cases z : 0 ≤ x ∧ x < W
    · rw [if_pos z, if_pos z, h y x h0 (by omega) z.1 z.2]
    · rw [if_neg z, if_neg z]
theorem bkRow_eq {f g : Int → Int} {W H y : Int} (hW : 1 ≤ W ∧ W ≤ 6) (hH : H ≤ 6) (h : ∀ y x, 0 ≤ y → y < H → 0 ≤ x → x < W → f (6 * y + x) = g (6 * y + x)) (h0 : 0 ≤ y) (h1 : y < H) : bkRow f W H y = bkRow g W H y :=
  bkRow_congr hW hH h (H - 1 - y).toNat y h0 (by omega)
theorem bkBd_eq {f g : Int → Int} {W H S : Int} (hW : 1 ≤ W ∧ W ≤ 6) (hH : H ≤ 6) (h : ∀ y x, 0 ≤ y → y < H → 0 ≤ x → x < W → f (6 * y + x) = g (6 * y + x)) : ∀ (n : Nat), (n : Int) < H → bkBd f W H S n = bkBd g W H S n := by
  intro n
  induction n with
  | zero => intro _; rfl
  | succ n ih =>
    intro h1
    rw [show ((n + 1 : Nat) : Int) = (n : Int) + 1 by omega, bkBd_s _ _ _ _ (by omega), bkBd_s _ _ _ _ (by omega), ih (by omega), bkRow_eq hW hH h (by omega) (by omega)]
/-! Frames. -/
/-- all but A is as it was -/
def bkFr (A : Nat → Nat → Prop) (M M' : bk_M) : Prop := ∀ k a, ¬ A k a → M' k a = M k a
theorem bkFr_refl (A : Nat → Nat → Prop) (M : bk_M) : bkFr A M M := fun _ _ _ => rfl
theorem bkFr_up {A : Nat → Nat → Prop} {M M' : bk_M} {k a : Nat} {j v : Int} (h : bkFr A M M') (hk : A k a) : bkFr A M (bk_up M' k a j v) := fun k' a' z => by
  rw [← h k' a' z]
  funext c
  unfold bk_up
  rw [if_neg (fun w => z (by rw [w.1, w.2.1]; exact hk))]
theorem bkFr_trans {A : Nat → Nat → Prop} {M M' M'' : bk_M} (h : bkFr A M M') (h2 : bkFr A M' M'') : bkFr A M M'' := fun k a z => (h2 k a z).trans (h k a z)
theorem bkFr_mono {A B : Nat → Nat → Prop} {M M' : bk_M} (h : bkFr A M M') (hA : ∀ k a, A k a → B k a) : bkFr B M M' := fun k a z => h k a fun w => z (hA k a w)
/-- a contract with what holds behind it -/
theorem bk_use {d μ : Nat} {as : List bk_V} {M : bk_M} {P : Int → bk_M → Prop} {Q : bk_Q} (h : bk_C d 0 μ as M fun t r M' => t = 0 ∧ P r M') (hQ : ∀ r M', P r M' → Q 0 r M') : bk_C d 0 μ as M Q :=
  bk_C_mono d 0 μ as M _ _ (fun t r M' z => by rw [z.1]; exact hQ r M' z.2) h
/-- a loop that counts up, with what holds at its head -/
theorem bk_loop {W : Int → bk_M → Prop} {n : Int} (I : Int → bk_M → Prop) (hs : ∀ k M, 0 ≤ k → k < n → I k M → (∀ M', I (k + 1) M' → W (k + 1) M') → W k M) (he : ∀ M, I n M → W n M) {s : Int} (h0 : 0 ≤ s) (h1 : s ≤ n) {M : bk_M} (h : I s M) : W s M := by
  have key : ∀ (j : Nat) (k : Int), 0 ≤ k → k + j = n → ∀ M, I k M → W k M := by
    intro j
    induction j with
    | zero => intro k _ e M hI; rw [show k = n by omega] at hI ⊢; exact he M hI
    | succ j ih => intro k h0 e M hI; exact hs k M h0 (by omega) hI (ih (k + 1) (by omega) (by omega))
  exact key (n - s).toNat s h0 (by omega) M h
/-- a loop that counts down to -1 -/
theorem bk_loopD {W : Int → bk_M → Prop} (I : Int → bk_M → Prop) (hs : ∀ k M, 0 ≤ k → I k M → (∀ M', I (k + -1) M' → W (k + -1) M') → W k M) (he : ∀ M, I (-1) M → W (-1) M) {s : Int} (h0 : -1 ≤ s) {M : bk_M} (h : I s M) : W s M := by
  have key : ∀ (j : Nat) (k : Int), k + 1 = j → ∀ M, I k M → W k M := by
    intro j
    induction j with
    | zero => intro k e M hI; rw [show k = -1 by omega] at hI ⊢; exact he M hI
    | succ j ih => intro k e M hI; exact hs k M (by omega) hI (ih (k + -1) (by omega))
  exact key (s + 1).toNat s (by omega) M h
/-! The class's river. -/
theorem S36 {d i p : Nat} {Q : bk_Q} {x y : Int} {M : bk_M} {c : Int → Int} (hW : 1 ≤ M 5 p 0 ∧ M 5 p 0 ≤ 6) (hy : 0 ≤ y ∧ y < 5) (hx : 0 ≤ x ∧ x < M 5 p 0) (hc : ∀ z, 0 ≤ z → z < M 5 p 0 → x - 1 ≤ z → z ≤ x + 1 → M 47 i (6 * (y + 1) + z) = c z ∧ c z < 100000) (ho : ∀ z, ¬ (0 ≤ z ∧ z < M 5 p 0) → c z = 100000) : bk_C (d + 1) 0 36 [bk_c 8 i, bk_c 5 p, bk_i (6 * y + x)] M Q ↔ Q 0 (6 * (y + 1) + bkNx c x) M := by
  refine bk_det (fun Q hQ => ?_) Q
  rw [E_36]
  have e1 : (6 * y + x) % 6 = x := by omega
  have e2 : 6 * y + x + 6 = 6 * (y + 1) + x := by omega
  have e3 : 6 * (y + 1) + x - 1 = 6 * (y + 1) + (x - 1) := by omega
  have e4 : 6 * (y + 1) + x + 1 = 6 * (y + 1) + (x + 1) := by omega
  simp only [e1, e2, e3, e4]
  have c0 := hc x hx.1 hx.2 (by omega) (by omega)
  rw [c0.1]
  unfold bkNx at hQ
  by_cases z0 : x ≤ 0
  · have o1 := ho (x - 1) (by omega)
    rw [if_neg (by omega)] at hQ
    by_cases z1 : M 5 p 0 ≤ x + 1
    · have o2 := ho (x + 1) (by omega)
      rw [if_pos (by omega)] at hQ
      unfold bk_r32
      refine ⟨by omega, by omega, fun _ => ⟨by omega, by omega, fun _ => ⟨by omega, fun _ => hQ, fun q => absurd z1 q⟩, fun q => absurd (Int.le_refl _) q⟩, fun q => absurd z0 q⟩
    · have c1 := hc (x + 1) (by omega) (by omega) (by omega) (by omega)
      rw [c1.1]
      unfold bk_r32
      refine ⟨by omega, by omega, fun _ => ⟨by omega, by omega, fun _ => ⟨by omega, fun q => absurd q z1, fun _ => ⟨by omega, by omega, by omega, fun q => ?_, fun q => ⟨by omega, ?_⟩⟩⟩, fun q => absurd (Int.le_refl _) q⟩, fun q => absurd z0 q⟩
      · rwa [if_pos q] at hQ
      · rwa [if_neg q] at hQ
  · have c2 := hc (x - 1) (by omega) (by omega) (by omega) (by omega)
    rw [c2.1]
    by_cases z1 : M 5 p 0 ≤ x + 1
    · have o2 := ho (x + 1) (by omega)
      unfold bk_r32
      refine ⟨by omega, by omega, fun q => absurd q z0, fun _ => ⟨by omega, by omega, by omega, fun q => ⟨by omega, fun _ => ?_, fun q => absurd z1 q⟩, fun q => ⟨by omega, fun _ => ?_, fun q => absurd z1 q⟩⟩⟩
      · rwa [if_pos (by omega)] at hQ
      · rwa [if_neg (by omega), if_pos (by omega)] at hQ
    · have c1 := hc (x + 1) (by omega) (by omega) (by omega) (by omega)
      rw [c1.1]
      unfold bk_r32
      refine ⟨by omega, by omega, fun q => absurd q z0, fun _ => ⟨by omega, by omega, by omega, fun q => ⟨by omega, fun q => absurd q z1, fun _ => ⟨by omega, by omega, by omega, fun q2 => ?_, fun q2 => ⟨by omega, ?_⟩⟩⟩, fun q => ⟨by omega, fun q => absurd q z1, fun _ => ⟨by omega, by omega, by omega, fun q2 => ?_, fun q2 => ⟨by omega, ?_⟩⟩⟩⟩⟩
      · rwa [if_pos (by omega)] at hQ
      · rwa [if_neg (by omega), if_neg (by omega)] at hQ
      · rwa [if_neg (by omega), if_pos (by omega)] at hQ
      · rwa [if_neg (by omega), if_neg (by omega)] at hQ
theorem LG_35_9 {d : Nat} {Q : bk_Q} (i0 : Nat) (i1 : Nat) (x2 : Int) (x3 : Int) (v4 : bk_V) (v5 : bk_V) (v6 : bk_V) (M : bk_M) : bk_wp (bk_C d) P_35 Q 0 9 [bk_c 8 i0, bk_c 5 i1, bk_i x2, bk_i x3, v4, v5, v6] [] M ↔ ((x3 < (0 : Int) → ((0 : Int) ≤ M 5 i1 (2 : Int) ∧ M 5 i1 (2 : Int) < (36 : Int)) ∧ ∀ M1 : bk_M, M1 = bk_up M 8 i0 (2 : Int) (M 47 i0 (M 5 i1 (2 : Int))) → bk_wp (bk_C d) P_35 Q 0 143 [bk_c 8 i0, bk_c 5 i1, bk_i x2, bk_i (M 5 i1 (2 : Int)), bk_i (0 : Int), v5, v6] [] M1) ∧ (¬ (x3 < (0 : Int)) → bk_r32 ((M 5 i1 (0 : Int)) - (1 : Int)) ∧ bk_r32 ((M 5 i1 (2 : Int)) + x3) ∧ bk_r32 ((M 5 i1 (2 : Int)) - x3) ∧ bk_wp (bk_C d) P_35 Q 0 42 [bk_c 8 i0, bk_c 5 i1, bk_i x2, bk_i x3, bk_i (if (M 5 i1 (0 : Int)) - (1 : Int) ≤ (M 5 i1 (2 : Int)) + x3 then (M 5 i1 (0 : Int)) - (1 : Int) else (M 5 i1 (2 : Int)) + x3), bk_i (if (M 5 i1 (2 : Int)) - x3 ≤ (0 : Int) then (0 : Int) else (M 5 i1 (2 : Int)) - x3), v6] [] M)) := bk_iff [9, 42, 143] 40
theorem LG_35_42 {d : Nat} {Q : bk_Q} (i0 : Nat) (i1 : Nat) (x2 : Int) (x3 : Int) (x4 : Int) (x5 : Int) (v6 : bk_V) (M : bk_M) : bk_wp (bk_C d) P_35 Q 0 42 [bk_c 8 i0, bk_c 5 i1, bk_i x2, bk_i x3, bk_i x4, bk_i x5, v6] [] M ↔ ((x4 < x5 → bk_r32 (x3 + (-1 : Int)) ∧ bk_wp (bk_C d) P_35 Q 0 9 [bk_c 8 i0, bk_c 5 i1, bk_i x2, bk_i (x3 + (-1 : Int)), bk_i x4, bk_i x5, v6] [] M) ∧ (¬ (x4 < x5) → bk_r32 ((6 : Int) * x3) ∧ bk_r32 (((6 : Int) * x3) + x5) ∧ ((0 : Int) ≤ ((6 : Int) * x3) + x5 ∧ ((6 : Int) * x3) + x5 < (36 : Int)) ∧ ((0 : Int) ≤ ((6 : Int) * x3) + x5 ∧ ((6 : Int) * x3) + x5 < (36 : Int)) ∧ ∀ M1 : bk_M, M1 = bk_up M 47 i0 (((6 : Int) * x3) + x5) (M 45 i0 (((6 : Int) * x3) + x5)) → ((x2 ≤ x3 → bk_r32 (x5 + (1 : Int)) ∧ bk_wp (bk_C d) P_35 Q 0 42 [bk_c 8 i0, bk_c 5 i1, bk_i x2, bk_i x3, bk_i x4, bk_i (x5 + (1 : Int)), bk_i (((6 : Int) * x3) + x5)] [] M1) ∧ (¬ (x2 ≤ x3) → bk_C d 0 36 [bk_c 8 i0, bk_c 5 i1, bk_i (((6 : Int) * x3) + x5)] M1 (fun t4 r2 M3 => t4 = 0 ∧ ((0 : Int) ≤ ((6 : Int) * x3) + x5 ∧ ((6 : Int) * x3) + x5 < (36 : Int)) ∧ ∀ M5 : bk_M, M5 = bk_up M3 48 i0 (((6 : Int) * x3) + x5) r2 → ((0 : Int) ≤ ((6 : Int) * x3) + x5 ∧ ((6 : Int) * x3) + x5 < (36 : Int)) ∧ ((0 : Int) ≤ ((6 : Int) * x3) + x5 ∧ ((6 : Int) * x3) + x5 < (36 : Int)) ∧ ((0 : Int) ≤ M5 48 i0 (((6 : Int) * x3) + x5) ∧ M5 48 i0 (((6 : Int) * x3) + x5) < (36 : Int)) ∧ bk_r32 ((M5 47 i0 (((6 : Int) * x3) + x5)) + (M5 47 i0 (M5 48 i0 (((6 : Int) * x3) + x5)))) ∧ ((0 : Int) ≤ ((6 : Int) * x3) + x5 ∧ ((6 : Int) * x3) + x5 < (36 : Int)) ∧ ∀ M6 : bk_M, M6 = bk_up M5 47 i0 (((6 : Int) * x3) + x5) ((M5 47 i0 (((6 : Int) * x3) + x5)) + (M5 47 i0 (M5 48 i0 (((6 : Int) * x3) + x5)))) → bk_r32 (x5 + (1 : Int)) ∧ bk_wp (bk_C d) P_35 Q 0 42 [bk_c 8 i0, bk_c 5 i1, bk_i x2, bk_i x3, bk_i x4, bk_i (x5 + (1 : Int)), bk_i (((6 : Int) * x3) + x5)] [] M6))))) := bk_iff [9, 42, 143] 40
theorem LG_35_143 {d : Nat} {Q : bk_Q} (i0 : Nat) (i1 : Nat) (x2 : Int) (x3 : Int) (x4 : Int) (v5 : bk_V) (v6 : bk_V) (M : bk_M) : bk_wp (bk_C d) P_35 Q 0 143 [bk_c 8 i0, bk_c 5 i1, bk_i x2, bk_i x3, bk_i x4, v5, v6] [] M ↔ ((x2 ≤ x4 → ((0 : Int) ≤ x3 ∧ (0 : Int) < (6 : Int)) ∧ ((0 : Int) ≤ x2 ∧ x2 < (6 : Int)) ∧ ∀ M1 : bk_M, M1 = bk_up M 46 i0 x2 (x3 % (6 : Int)) → Q 0 0 M1) ∧ (¬ (x2 ≤ x4) → ((0 : Int) ≤ x3 ∧ (0 : Int) < (6 : Int)) ∧ ((0 : Int) ≤ x4 ∧ x4 < (6 : Int)) ∧ ∀ M2 : bk_M, M2 = bk_up M 46 i0 x4 (x3 % (6 : Int)) → ((0 : Int) ≤ x3 ∧ x3 < (36 : Int)) ∧ bk_r32 (x4 + (1 : Int)) ∧ bk_wp (bk_C d) P_35 Q 0 143 [bk_c 8 i0, bk_c 5 i1, bk_i x2, bk_i (M2 48 i0 x3), bk_i (x4 + (1 : Int)), v5, v6] [] M2)) := bk_iff [9, 42, 143] 40
theorem bk_up_w {M : bk_M} {k i : Nat} {j v j' : Int} : bk_up M k i j v k i j' = if j' = j then v else M k i j' := by
  by_cases z : j' = j
  · subst z; rw [bk_up_e, if_pos rfl]
  · rw [bk_up_s z, if_neg z]
def bkA35 (i : Nat) (k a : Nat) : Prop := (k = 8 ∨ k = 46 ∨ k = 47 ∨ k = 48) ∧ a = i
def bkRan (M : bk_M) (i p : Nat) (M' : bk_M) : Prop :=
  bkFr (bkA35 i) M M' ∧ (∀ j, j ≠ 2 → M' 8 i j = M 8 i j) ∧ M' 8 i 2 = bkRow (M 45 i) (M 5 p 0) (M 5 p 1) 0 (M 5 p 2) ∧ ∀ y, 0 ≤ y → y < M 5 p 1 → M' 46 i y = bkBd (M 45 i) (M 5 p 0) (M 5 p 1) (M 5 p 2) y
/-- what stands of row y -/
def bkRest (g : Int → Int) (W H S : Int) (R O : Int → Int) (y x : Int) : Prop := 0 ≤ x → x < W → S - y ≤ x → x ≤ S + y → R (6 * y + x) = bkRow g W H y x ∧ (y < H - 1 → O (6 * y + x) = 6 * (y + 1) + bkNx (bkRow g W H (y + 1)) x)
theorem L35_42 {d i p : Nat} {Q : bk_Q} {y : Int} {M M1 : bk_M} (hP : bkPl M p) (hg : bkGr (M 45 i) (M 5 p 0) (M 5 p 1)) (hy : 0 ≤ y ∧ y < M 5 p 1)
    (hF : bkFr (fun k a => (k = 47 ∨ k = 48) ∧ a = i) M M1)
    (hR : ∀ z, y < z → z < M 5 p 1 → ∀ x, bkRest (M 45 i) (M 5 p 0) (M 5 p 1) (M 5 p 2) (M1 47 i) (M1 48 i) z x)
    (hQ : ∀ M2 v4 v5 v6, bkFr (fun k a => (k = 47 ∨ k = 48) ∧ a = i) M M2 → (∀ z, y + -1 < z → z < M 5 p 1 → ∀ x, bkRest (M 45 i) (M 5 p 0) (M 5 p 1) (M 5 p 2) (M2 47 i) (M2 48 i) z x) → bk_wp (bk_C (d + 1)) P_35 Q 0 9 [bk_c 8 i, bk_c 5 p, bk_i (M 5 p 1 - 1), bk_i (y + -1), v4, v5, v6] [] M2) (v6 : bk_V) :
    bk_wp (bk_C (d + 1)) P_35 Q 0 42 [bk_c 8 i, bk_c 5 p, bk_i (M 5 p 1 - 1), bk_i y, bk_i (if M 5 p 0 - 1 ≤ M 5 p 2 + y then M 5 p 0 - 1 else M 5 p 2 + y), bk_i (if M 5 p 2 - y ≤ 0 then 0 else M 5 p 2 - y), v6] [] M1 := by
  obtain ⟨a1, a2, a3, -⟩ := hP
  generalize hhi : (if M 5 p 0 - 1 ≤ M 5 p 2 + y then M 5 p 0 - 1 else M 5 p 2 + y) = hi
  generalize hlo : (if M 5 p 2 - y ≤ 0 then 0 else M 5 p 2 - y) = lo
  have b1 : hi < M 5 p 0 ∧ hi ≤ M 5 p 2 + y ∧ (∀ x, x < M 5 p 0 → x ≤ M 5 p 2 + y → x ≤ hi) := by
    subst hhi
    refine ⟨?_, ?_, fun x z1 z2 => ?_⟩ <;> (split <;> omega)
  have b2 : 0 ≤ lo ∧ M 5 p 2 - y ≤ lo ∧ (∀ x, 0 ≤ x → M 5 p 2 - y ≤ x → lo ≤ x) := by
    subst hlo
    refine ⟨?_, ?_, fun x z1 z2 => ?_⟩ <;> (split <;> omega)
  have b3 : lo ≤ hi + 1 := by
    have := b1.2.2 (M 5 p 2) (by omega) (by omega)
    have := b2.2.2 (M 5 p 2) (by omega) (by omega)
    omega
  clear hhi hlo
  have key := bk_loop (W := fun x M2 => ∀ v6, bk_wp (bk_C (d + 1)) P_35 Q 0 42 [bk_c 8 i, bk_c 5 p, bk_i (M 5 p 1 - 1), bk_i y, bk_i hi, bk_i x, v6] [] M2) (n := hi + 1)
    (fun x M2 => bkFr (fun k a => (k = 47 ∨ k = 48) ∧ a = i) M M2 ∧ (∀ z, y < z → z < M 5 p 1 → ∀ x, bkRest (M 45 i) (M 5 p 0) (M 5 p 1) (M 5 p 2) (M2 47 i) (M2 48 i) z x) ∧ (∀ u, lo ≤ u → u < x → bkRest (M 45 i) (M 5 p 0) (M 5 p 1) (M 5 p 2) (M2 47 i) (M2 48 i) y u) ∧ lo ≤ x) ?_ ?_ (s := lo) b2.1 b3 (M := M1) ⟨hF, hR, fun u z1 z2 => absurd z1 (by omega), Int.le_refl _⟩
  · exact key v6
  · rintro x M2 h0 h1 ⟨F, R, U, hx⟩ ih v6
    rw [LG_35_42]
    have g5 : M2 5 p = M 5 p := F 5 p (by omega)
    have g45 : M2 45 i = M 45 i := F 45 i (by omega)
    rw [g45]
    unfold bk_r32
    refine ⟨fun z => absurd z (by omega), fun _ => ⟨by omega, by omega, by omega, by omega, ?_⟩⟩
    intro M3 hM3
    have F3 : bkFr (fun k a => (k = 47 ∨ k = 48) ∧ a = i) M M3 := by rw [hM3]; exact bkFr_up F ⟨.inl rfl, rfl⟩
    have q47 : ∀ j, M3 47 i j = if j = 6 * y + x then M 45 i (6 * y + x) else M2 47 i j := fun j => by rw [hM3, bk_up_w]
    have q48 : M3 48 i = M2 48 i := by rw [hM3, bk_up_f (by decide)]
    have gx := hg y x (by omega) (by omega) (by omega) (by omega)
    by_cases hl : y = M 5 p 1 - 1
    · refine ⟨fun _ => ⟨by omega, ih M3 ⟨F3, fun z z1 z2 => absurd z1 (by omega), fun u z1 z2 => ?_, by omega⟩ _⟩, fun q => absurd (by omega) q⟩
      intro w1 w2 w3 w4
      refine ⟨?_, fun q => absurd hl (by omega)⟩
      rw [q47]
      by_cases e : u = x
      · subst e
        rw [if_pos rfl]
        conv => rhs; rw [hl]
        rw [bkRow_last, if_pos ⟨w1, w2⟩, hl]
      · rw [if_neg (by omega)]
        exact (U u z1 (by omega) w1 w2 w3 w4).1
    · refine ⟨fun q => absurd q (by omega), fun _ => ?_⟩
      have g5' : M3 5 p = M 5 p := F3 5 p (by omega)
      have hn := bkNx_near (bkRow (M 45 i) (M 5 p 0) (M 5 p 1) (y + 1)) x
      have hin := bkNx_in hg (W := M 5 p 0) (H := M 5 p 1) (y := y + 1) (x := x) (by omega) (by omega) (by omega) (by omega) (by omega)
      rw [S36 (c := bkRow (M 45 i) (M 5 p 0) (M 5 p 1) (y + 1)) (by rw [g5']; omega) (by omega) (by rw [g5']; omega) (fun z z1 z2 z3 z4 => ?_) (fun z w => ?_)]
      · refine ⟨rfl, by omega, ?_⟩
        intro M4 hM4
        have F4 : bkFr (fun k a => (k = 47 ∨ k = 48) ∧ a = i) M M4 := by rw [hM4]; exact bkFr_up F3 ⟨.inr rfl, rfl⟩
        have r48 : ∀ j, M4 48 i j = if j = 6 * y + x then 6 * (y + 1) + bkNx (bkRow (M 45 i) (M 5 p 0) (M 5 p 1) (y + 1)) x else M2 48 i j := fun j => by rw [hM4, bk_up_w, q48]
        have r47 : M4 47 i = M3 47 i := by rw [hM4, bk_up_f (by decide)]
        have s1 : M4 48 i (6 * y + x) = 6 * (y + 1) + bkNx (bkRow (M 45 i) (M 5 p 0) (M 5 p 1) (y + 1)) x := by rw [r48, if_pos rfl]
        have s2 : M4 47 i (6 * y + x) = M 45 i (6 * y + x) := by rw [r47, q47, if_pos rfl]
        have s3 : M4 47 i (6 * (y + 1) + bkNx (bkRow (M 45 i) (M 5 p 0) (M 5 p 1) (y + 1)) x) = bkRow (M 45 i) (M 5 p 0) (M 5 p 1) (y + 1) (bkNx (bkRow (M 45 i) (M 5 p 0) (M 5 p 1) (y + 1)) x) := by
          rw [r47, q47, if_neg (by omega)]
          exact (R (y + 1) (by omega) (by omega) _ hin.1 hin.2 (by omega) (by omega)).1
        have s4 := bkRow_lt hg (W := M 5 p 0) (H := M 5 p 1) (y := y + 1) (by omega) (by omega) (by omega) (by omega) hin
        rw [s1, s2, s3]
        refine ⟨by omega, by omega, by omega, by omega, by omega, ?_⟩
        intro M5 hM5
        have F5 : bkFr (fun k a => (k = 47 ∨ k = 48) ∧ a = i) M M5 := by rw [hM5]; exact bkFr_up F4 ⟨.inl rfl, rfl⟩
        have t48 : M5 48 i = M4 48 i := by rw [hM5, bk_up_f (by decide)]
        have t47 : ∀ j, M5 47 i j = if j = 6 * y + x then M 45 i (6 * y + x) + bkRow (M 45 i) (M 5 p 0) (M 5 p 1) (y + 1) (bkNx (bkRow (M 45 i) (M 5 p 0) (M 5 p 1) (y + 1)) x) else M2 47 i j := fun j => by
          rw [hM5, bk_up_w]
          by_cases e : j = 6 * y + x
          · rw [if_pos e, if_pos e]
          · rw [if_neg e, if_neg e, r47, q47, if_neg e]
        refine ⟨by omega, ih M5 ⟨F5, fun z z1 z2 u w1 w2 w3 w4 => ?_, fun u z1 z2 w1 w2 w3 w4 => ?_, by omega⟩ _⟩
        · rw [t48, t47, r48, if_neg (by omega), if_neg (by omega)]
          exact R z z1 z2 u w1 w2 w3 w4
        · rw [t48, t47, r48]
          by_cases e : u = x
          · subst e
            rw [if_pos rfl, if_pos rfl, bkRow_s (M 45 i) (M 5 p 0) (y := y) u (by omega), if_pos ⟨w1, w2⟩]
            exact ⟨rfl, fun _ => rfl⟩
          · rw [if_neg (by omega), if_neg (by omega)]
            exact U u z1 (by omega) w1 w2 w3 w4
      · rw [g5'] at z2
        rw [q47, if_neg (by omega)]
        have := bkRow_lt hg (W := M 5 p 0) (H := M 5 p 1) (y := y + 1) (x := z) (by omega) (by omega) (by omega) (by omega) (by omega)
        exact ⟨(R (y + 1) (by omega) (by omega) z z1 z2 (by omega) (by omega)).1, by omega⟩
      · rw [g5'] at w
        exact bkRow_out _ _ w
  · rintro M2 ⟨F, R, U, -⟩ v6
    rw [LG_35_42]
    unfold bk_r32
    refine ⟨fun _ => ⟨by omega, hQ M2 _ _ _ F fun z z1 z2 x w1 w2 w3 w4 => ?_⟩, fun z => absurd (by omega) z⟩
    by_cases e : z = y
    · subst e
      exact U x (b2.2.2 x w1 w3) (by have := b1.2.2 x w2 w4; omega) w1 w2 w3 w4
    · exact R z (by omega) z2 x w1 w2 w3 w4
theorem S35 {d i p : Nat} {M : bk_M} (hP : bkPl M p) (hg : bkGr (M 45 i) (M 5 p 0) (M 5 p 1)) : bk_C (d + 2) 0 35 [bk_c 8 i, bk_c 5 p] M (fun t _ M' => t = 0 ∧ bkRan M i p M') := by
  obtain ⟨a1, a2, a3, -⟩ := id hP
  rw [E_35]
  unfold bk_r32
  refine ⟨by omega, ?_⟩
  have key := bk_loopD (W := fun y M1 => ∀ v4 v5 v6, bk_wp (bk_C (d + 1)) P_35 (fun t _ M' => t = 0 ∧ bkRan M i p M') 0 9 [bk_c 8 i, bk_c 5 p, bk_i (M 5 p 1 - 1), bk_i y, v4, v5, v6] [] M1)
    (fun y M1 => y < M 5 p 1 ∧ bkFr (fun k a => (k = 47 ∨ k = 48) ∧ a = i) M M1 ∧ ∀ z, y < z → z < M 5 p 1 → ∀ x, bkRest (M 45 i) (M 5 p 0) (M 5 p 1) (M 5 p 2) (M1 47 i) (M1 48 i) z x) ?_ ?_ (s := M 5 p 1 - 1) (by omega) (M := M) ⟨by omega, bkFr_refl _ _, fun z z1 z2 => absurd z1 (by omega)⟩
  · exact key _ _ _
  · rintro y M1 h0 ⟨h1, F, R⟩ ih v4 v5 v6
    have g5 : M1 5 p = M 5 p := F 5 p (by omega)
    rw [LG_35_9, g5]
    unfold bk_r32
    exact ⟨fun z => absurd z (by omega), fun _ => ⟨by omega, by omega, by omega, L35_42 hP hg ⟨h0, h1⟩ F R (fun M2 v4 v5 v6 F2 R2 => ih M2 ⟨by omega, F2, R2⟩ v4 v5 v6) v6⟩⟩
  · rintro M1 ⟨-, F, R⟩ v4 v5 v6
    have g5 : M1 5 p = M 5 p := F 5 p (by omega)
    rw [LG_35_9, g5]
    refine ⟨fun _ => ⟨by omega, ?_⟩, fun z => absurd (by decide) z⟩
    intro M2 hM2
    have F2 : bkFr (bkA35 i) M M2 := by
      rw [hM2]
      exact bkFr_up (bkFr_mono F fun k a w => by unfold bkA35; omega) (by unfold bkA35; omega)
    have r0 := (R 0 (by omega) (by omega) (M 5 p 2) (by omega) (by omega) (by omega) (by omega)).1
    rw [show 6 * 0 + M 5 p 2 = M 5 p 2 by omega] at r0
    have e48 : M2 48 i = M1 48 i := by rw [hM2, bk_up_f (by decide)]
    have e8 : ∀ j, M2 8 i j = if j = 2 then bkRow (M 45 i) (M 5 p 0) (M 5 p 1) 0 (M 5 p 2) else M 8 i j := fun j => by rw [hM2, bk_up_w, r0, F 8 i (by omega)]
    have e46 : M2 46 i = M 46 i := by rw [hM2, bk_up_f (by decide), F 46 i (by omega)]
    have key2 := bk_loop (W := fun y M3 => bk_wp (bk_C (d + 1)) P_35 (fun t _ M' => t = 0 ∧ bkRan M i p M') 0 143 [bk_c 8 i, bk_c 5 p, bk_i (M 5 p 1 - 1), bk_i (6 * y + bkBd (M 45 i) (M 5 p 0) (M 5 p 1) (M 5 p 2) y), bk_i y, v5, v6] [] M3) (n := M 5 p 1 - 1)
      (fun y M3 => bkFr (bkA35 i) M M3 ∧ M3 8 i = M2 8 i ∧ M3 48 i = M1 48 i ∧ ∀ z, 0 ≤ z → z < y → M3 46 i z = bkBd (M 45 i) (M 5 p 0) (M 5 p 1) (M 5 p 2) z) ?_ ?_ (s := 0) (by omega) (by omega) (M := M2) ⟨F2, rfl, e48, fun z z1 z2 => absurd z1 (by omega)⟩
    · rw [bkBd_0, show 6 * 0 + M 5 p 2 = M 5 p 2 by omega] at key2
      exact key2
    · rintro y M3 h0 h1 ⟨F3, q8, q48, q46⟩ ih
      have hb := bkBd_r hg (W := M 5 p 0) (H := M 5 p 1) (S := M 5 p 2) (y := y) (by omega) (by omega) (by omega) h0 (by omega)
      rw [LG_35_143]
      refine ⟨fun z => absurd z (by omega), fun _ => ⟨by omega, by omega, ?_⟩⟩
      intro M4 hM4
      have k48 : M4 48 i (6 * y + bkBd (M 45 i) (M 5 p 0) (M 5 p 1) (M 5 p 2) y) = 6 * (y + 1) + bkBd (M 45 i) (M 5 p 0) (M 5 p 1) (M 5 p 2) (y + 1) := by
        rw [hM4, bk_up_f (by decide), q48, bkBd_s _ _ _ _ h0]
        exact (R y (by omega) (by omega) _ hb.1 hb.2.1 hb.2.2.1 hb.2.2.2).2 (by omega)
      rw [k48]
      unfold bk_r32
      refine ⟨by omega, by omega, ih M4 ⟨by rw [hM4]; exact bkFr_up F3 (by unfold bkA35; omega), by rw [hM4, bk_up_f (by decide), q8], by rw [hM4, bk_up_f (by decide), q48], fun z z1 z2 => ?_⟩⟩
      rw [hM4, bk_up_w]
      by_cases e : z = y
      · rw [if_pos e, e]; omega
      · rw [if_neg e]; exact q46 z z1 (by omega)
    · rintro M3 ⟨F3, q8, q48, q46⟩
      have hb := bkBd_r hg (W := M 5 p 0) (H := M 5 p 1) (S := M 5 p 2) (y := M 5 p 1 - 1) (by omega) (by omega) (by omega) (by omega) (by omega)
      rw [LG_35_143]
      refine ⟨fun _ => ⟨by omega, by omega, ?_⟩, fun z => absurd (Int.le_refl _) z⟩
      intro M4 hM4
      refine ⟨rfl, by rw [hM4]; exact bkFr_up F3 (by unfold bkA35; omega), fun j hj => ?_, ?_, fun z z1 z2 => ?_⟩
      · rw [hM4, bk_up_f (by decide), q8, e8, if_neg hj]
      · rw [hM4, bk_up_f (by decide), q8, e8, if_pos rfl]
      · rw [hM4, bk_up_w]
        by_cases e : z = M 5 p 1 - 1
        · rw [if_pos e, e]; omega
        · rw [if_neg e]; exact q46 z z1 (by omega)
