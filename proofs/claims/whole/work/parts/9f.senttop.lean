/-! sentence, the whole question: the class. -/
def bkSvS (m : Nat) (S : Int → Int) : Prop := (1 ≤ S 0 ∧ S 0 ≤ 20) ∧ (1 ≤ S 1 ∧ S 1 ≤ 39) ∧ (∀ k, 0 ≤ k → k < S 1 → bkNw m S k) ∧ bkRoots S (S 1).toNat [S 1 - 1]
theorem S123c {d p m : Nat} {M : bk_M} {T : Int → Int} {c : Int} (hT : M 53 0 = T) (hc : M 10 0 1 = c) (hc2 : 0 ≤ c ∧ c ≤ 940) (hw : ∀ w : Nat, w < 25 → M 54 0 w = bkWt w) (hp : (M 11 0 1).toNat = p) (hm : M 5 p 6 = m) (hm2 : m ≤ 10) (h7 : 0 ≤ M 11 0 7) (h8 : 0 ≤ M 11 0 8) :
    bk_C (d + 42) 0 123 [bk_c 11 0] M (fun t r M' => t = 0 ∧ M' 10 0 1 = 0 ∧ bkFr (fun k a => bkSa (M 11 0 8).toNat k a ∨ (k = 11 ∧ a = 0)) M M' ∧
      (∀ w q, bkSTx (M 33 p) m T c 200 = .inl (w, q) → r = -1 - q ∧ M' 11 0 16 = w ∧ (∀ j, j ≠ 16 → M' 11 0 j = M 11 0 j)) ∧
      (∀ j S, bkSTx (M 33 p) m T c 200 = .inr (j, S) → r = S 0 ∧ M' 11 0 16 = 0 ∧ M' 11 0 7 = M 11 0 8 ∧ M' 11 0 8 = M 11 0 7 ∧ (∀ j, j ≠ 7 → j ≠ 8 → j ≠ 16 → M' 11 0 j = M 11 0 j) ∧ bkSnC M' (M 11 0 8).toNat S ∧ bkSvS m S)) := by
  generalize hs : (M 11 0 8).toNat = s
  have g := bkSTx_g (f := M 33 p) (m := m) (T := T) (c := c) (L := 200) (by omega) hc2
  rw [E_123, hs, hp]
  refine bk_use (S124c hT hc hc2 hw ⟨rfl, hm⟩ hm2) (fun r M2 hM2 => ⟨rfl, ?_⟩)
  obtain ⟨f2, o2, g1, g2⟩ := hM2
  have e11 : M2 11 0 = M 11 0 := f2 11 0 (by unfold bkSa; omega)
  rw [E_31]
  intro M3 e3 M5 e5
  have m1 : M5 10 0 1 = 0 := by rw [e5, bk_up_e]
  have m16 : M5 11 0 16 = M2 10 0 6 := by rw [e5, bk_up_k (by decide), e3, bk_up_e]
  have m11 : ∀ j, j ≠ 16 → M5 11 0 j = M 11 0 j := fun j q => by rw [e5, bk_up_k (by decide), e3, bk_up_s q, e11]
  have u : ∀ k a, ¬ (k = 10 ∧ a = 0) → ¬ (k = 11 ∧ a = 0) → M5 k a = M2 k a := fun k a w1 w2 => by
    funext j
    rw [e5, e3, bk_up_ne (by simp only [ne_eq, Prod.mk.injEq]; omega), bk_up_ne (by simp only [ne_eq, Prod.mk.injEq]; omega)]
  have F5 : bkFr (fun k a => bkSa s k a ∨ (k = 11 ∧ a = 0)) M M5 := fun k a w => by
    rw [u k a (fun q => w (.inl (.inl q))) (fun q => w (.inr q)), f2 k a fun q => w (.inl q)]
  generalize hO : bkSTx (M 33 p) m T c 200 = O at *
  rcases O with ⟨w, q⟩ | ⟨j, S⟩
  · obtain ⟨a1, a2, a3⟩ := g1 w q rfl
    have hq := g.1 w q rfl
    have m7 : M5 10 0 7 = q := by rw [e5, bk_up_s (by decide), e3, bk_up_k (by decide), a3]
    rw [m7]
    refine ⟨rfl, fun z => absurd a1 z, fun _ => ⟨by unfold bk_r32; omega, rfl, m1, F5, fun w' q' e => ?_, fun n S e => (by cases e)⟩⟩
    cases e
    exact ⟨rfl, by rw [m16, a2], m11⟩
  · obtain ⟨a1, a2, a3⟩ := g2 j S rfl
    refine ⟨rfl, fun _ => ?_, fun z => absurd (show r ≠ 0 by omega) z⟩
    intro M7 e7 M8 e8
    rw [m11 8 (by decide)] at e7
    rw [m11 7 (by decide)] at e8
    have x7 : M8 11 0 7 = M 11 0 8 := by rw [e8, bk_up_s (by decide), e7, bk_up_e]; exact Int.toNat_of_nonneg h8
    have x8 : M8 11 0 8 = M 11 0 7 := by rw [e8, bk_up_e]; exact Int.toNat_of_nonneg h7
    have xo : ∀ j, j ≠ 7 → j ≠ 8 → M8 11 0 j = M5 11 0 j := fun j q1 q2 => by rw [e8, bk_up_s q2, e7, bk_up_s q1]
    have y : ∀ k a, ¬ (k = 11 ∧ a = 0) → M8 k a = M5 k a := fun k a w => by
      funext j
      rw [e8, e7, bk_up_ne (by simp only [ne_eq, Prod.mk.injEq]; omega), bk_up_ne (by simp only [ne_eq, Prod.mk.injEq]; omega)]
    have S8 : bkSnC M8 s S := bkSnC_e a3 fun k hk => by rw [y k s (by omega), u k s (by omega) (by omega)]
    rw [x7, hs]
    refine ⟨rfl, by rw [y 10 0 (by omega)]; exact m1, fun k a w => by rw [y k a (fun q => w (.inr q)), F5 k a w], fun w q e => (by cases e), fun j' S' e => ?_⟩
    cases e
    exact ⟨S8.2.1, by rw [xo 16 (by decide) (by decide), m16, a2], rfl, x8, fun j q1 q2 q3 => by rw [xo j q1 q2, m11 j q3], S8, g.2 j S rfl⟩
/-! sentence, the whole question: the reference. -/
def bkSnN (N S : Int → Int) : Prop := N 195 = 1 ∧ N 196 = S 1 - 1 ∧ ∀ k, 0 ≤ k → k < S 1 → N (197 + 4 * k) = bkNc (S (10 + 4 * k)) ∧ N (198 + 4 * k) = S (11 + 4 * k) ∧ N (199 + 4 * k) = S (12 + 4 * k) ∧ N (200 + 4 * k) = S (13 + 4 * k)
theorem S268c {d m : Nat} {M : bk_M} {f T : Int → Int} {c : Int} (hT : M 57 0 = T) (hc : M 12 0 2 = c) (hc2 : 0 ≤ c ∧ c ≤ 940) (hf : bkNmF M f m) (hm : m ≤ 10) :
    bk_C (d + 41) 0 268 [bk_c 12 0] M (fun t r M' => t = 0 ∧ M' 12 0 0 = 0 ∧ M' 12 0 2 = 0 ∧ (∀ j, (14 ≤ j ∧ j < 55) ∨ j = 1 → M' 12 0 j = M 12 0 j) ∧ bkFr (fun k a => (k = 12 ∨ k = 85 ∨ k = 58) ∧ a = 0) M M' ∧ (∀ j, j < 195 → M' 58 0 j = M 58 0 j) ∧
      (∀ w q, bkSTx f m T c 200 = .inl (w, q) → r = -1 - q ∧ M' 12 0 10 = w ∧ M' 58 0 = M 58 0) ∧
      (∀ j S, bkSTx f m T c 200 = .inr (j, S) → r = S 0 ∧ M' 12 0 10 = 0 ∧ bkSnN (M' 58 0) S)) := by
  have g := bkSTx_g (f := f) (m := m) (T := T) (c := c) (L := 200) (by omega) hc2
  rw [E_268]
  refine bk_use (S160c (by rw [hc]; exact hc2)) (fun r M2 hM2 => ⟨rfl, fun M4 e4 M5 e5 M6 e6 => ?_⟩)
  obtain ⟨f2, o2, z0, z2, z10, t2, a2⟩ := hM2
  rw [hT, hc] at t2 a2
  have F2 : bkSq M2 M6 := by rw [e6, e5, e4]; exact bkSq_trans (bkSq_trans (bkSq_up (by omega)) (bkSq_up (by omega))) (bkSq_up (by omega))
  have o6 : ∀ q, q ≠ 55 → q ≠ 56 → q ≠ 57 → M6 12 0 q = M2 12 0 q := fun q q1 q2 q3 => by rw [e6, bk_up_s q3, e5, bk_up_s q2, e4, bk_up_s q1]
  have T6 := bkRt_sq t2 F2
  have A6 : bkAtR M6 T c 200 0 := bkAtR_sq a2 fun q hq => o6 q (by omega) (by omega) (by omega)
  have hH : bkSH c bkS00 0 := by unfold bkSH bkS00; omega
  have S6 : bkSnR M6 bkS00 := by
    unfold bkSnR
    refine ⟨by rw [e6, bk_up_s (by decide), e5, bk_up_s (by decide), e4, bk_up_e]; rfl, by rw [e6, bk_up_s (by decide), e5, bk_up_e]; rfl, fun k k0 k1 => by rw [show bkS00 1 = 0 from rfl] at k1; omega⟩
  have fr6 : bkFr (fun k a => k = 12 ∧ a = 0) M M6 := bkFr_trans f2 (by rw [e6, e5, e4]; exact bkFr_up (bkFr_up (bkFr_up (bkFr_refl _ _) ⟨rfl, rfl⟩) ⟨rfl, rfl⟩) ⟨rfl, rfl⟩)
  have N6 : bkNmF M6 f m := by
    unfold bkNmF at *
    rw [fr6 63 0 (by omega), fr6 58 0 (by omega)]
    exact hf
  have hg := bkSG_one (f := f) (m := m) (T := T) (c := c) (L := 200) (by omega) 8
  have hh := bkRR_269 (bkRR_270 (bkRR_271 (f := f) (m := m) (T := T) (c := c) (L := 200) (by omega) hm 8 0 (by omega) (by omega)) hg) (bkSG_seq (T := T) (L := 200) hg (.inr rfl)) d M6 bkS00 0 T6 A6 hH S6 (by rw [e6, bk_up_e]) N6
  refine bk_use hh (fun r M8 hM8 => ⟨rfl, ?_⟩)
  obtain ⟨F8, -, g1, g2⟩ := hM8
  have O8 : ∀ j, (14 ≤ j ∧ j < 55) ∨ j = 1 ∨ j = 0 ∨ j = 2 → M8 12 0 j = M2 12 0 j := fun j hj => by
    rw [F8.2 j (by omega) (by omega) (by omega) (by omega) (by omega) (by omega) (by omega) (by omega) (by omega) (by omega) (by omega) (by omega) (by omega), o6 j (by omega) (by omega) (by omega)]
  have O8' : ∀ j, (14 ≤ j ∧ j < 55) ∨ j = 1 → M8 12 0 j = M 12 0 j := fun j hj => by
    rw [O8 j (by omega), o2 j (by omega) (by omega) (by omega) (by omega) (by omega) (by omega) (by omega) (by omega) (by omega) (by omega) (by omega)]
  have FR8 : bkFr (fun k a => (k = 12 ∨ k = 85 ∨ k = 58) ∧ a = 0) M M8 := bkFr_trans (bkFr_mono fr6 fun k a w => ⟨.inl w.1, w.2⟩) (bkFr_mono F8.1 fun k a w => ⟨by omega, w.2⟩)
  have n8 : M8 58 0 = M 58 0 := by rw [F8.1 58 0 (by omega), fr6 58 0 (by omega)]
  generalize hO : bkSTx f m T c 200 = O at *
  unfold bkSTx at hO
  rcases e : bkSSeq T c 200 (bkSSeq T c 200 (bkSOne f m T c 200 8) 15) 14 bkS00 0 with ⟨w, q⟩ | ⟨j, S'⟩
  · rw [e] at hO
    dsimp only at hO
    subst hO
    obtain ⟨a1, a2, a3⟩ := g1 w q e
    have hq := g.1 w q rfl
    rw [a3]
    exact ⟨fun z => absurd a1 z, fun _ => ⟨by unfold bk_r32; omega, rfl, by rw [O8 0 (by omega), z0], by rw [O8 2 (by omega), z2], O8', FR8, fun j _ => by rw [n8], fun w q e => (by cases e; exact ⟨rfl, a2, n8⟩), fun j S e => (by cases e)⟩⟩
  · rw [e] at hO
    obtain ⟨a1, a2, a3, a4, a5⟩ := g2 j S' e
    refine ⟨fun _ => ?_, fun q => absurd (show r ≠ 0 by omega) q⟩
    have K := bkAtR_k a3
    refine ⟨fun z => ⟨by omega, fun M10 e10 => ⟨by omega, fun M11 e11 => ?_⟩⟩, fun z => ?_⟩
    · have z' : bkTk T c 200 j = 0 := K.2.2.2.1.1 z
      dsimp only at hO
      rw [if_pos z'] at hO
      subst hO
      have v := (g.2 j S' rfl)
      have e12 : ∀ q, M11 12 0 q = M8 12 0 q := fun q => by rw [e11, bk_up_k (by decide), e10, bk_up_k (by decide)]
      have m58 : M10 12 0 58 = S' 1 - 1 := by rw [e10, bk_up_k (by decide), a5]
      rw [m58] at e11
      have r85 : M11 85 0 = M8 85 0 := by rw [e11, bk_up_f (by decide), e10, bk_up_f (by decide)]
      have i0 : M11 58 0 195 = 1 ∧ M11 58 0 196 = S' 1 - 1 ∧ ∀ q, q < 195 → M11 58 0 q = M 58 0 q := ⟨by rw [e11, bk_up_s (by decide), e10, bk_up_e], by rw [e11, bk_up_e], fun q hq => by rw [e11, bk_up_s (by omega), e10, bk_up_s (by omega), n8]⟩
      have FR11 : bkFr (fun k a => (k = 12 ∨ k = 85 ∨ k = 58) ∧ a = 0) M M11 := bkFr_trans FR8 (by rw [e11, e10]; exact bkFr_up (bkFr_up (bkFr_refl _ _) ⟨by omega, rfl⟩) ⟨by omega, rfl⟩)
      refine bk_loopS (W := fun k M' => bk_wp (bk_C (d + 40)) P_268 _ 0 79 [bk_c 12 0, bk_i k] [] M') (s := 0) (n := 240) (fun k M' => bkFr (fun k a => k = 58 ∧ a = 0) M11 M' ∧ (∀ q, q < 197 → M' 58 0 q = M11 58 0 q) ∧ ∀ q, 0 ≤ q → q < k → M' 58 0 (197 + q) = M8 85 0 q) (by decide) ?_ ?_ ⟨bkFr_refl _ _, fun q _ => rfl, fun q q0 q1 => by omega⟩
      · rintro k M' k0 k1 ⟨F, H, V⟩ ih
        rw [L_268_79]
        refine ⟨fun z => absurd z (by omega), fun _ => ⟨by unfold bk_r32; omega, by omega, by omega, fun M1 e1 => ⟨by unfold bk_r32; omega, ih M1 ⟨?_, fun q hq => ?_, fun q q0 q1 => ?_⟩⟩⟩⟩
        · exact bkFr_trans F (by rw [e1]; exact bkFr_up (bkFr_refl _ _) ⟨rfl, rfl⟩)
        · rw [e1, bk_up_s (by omega), H q hq]
        · rw [e1, F 85 0 (by omega), r85]
          by_cases z : q = k
          · rw [z, bk_up_e]
          · rw [bk_up_s (by omega), V q q0 (by omega)]
      · rintro M' ⟨F, H, V⟩
        rw [L_268_79]
        have e12' : ∀ q, M' 12 0 q = M8 12 0 q := fun q => by rw [F 12 0 (by omega), e12]
        refine ⟨fun _ => ⟨rfl, by rw [e12', O8 0 (by omega), z0], by rw [e12', O8 2 (by omega), z2], fun j hj => by rw [e12', O8' j hj], bkFr_trans FR11 (bkFr_mono F fun k a w => ⟨by omega, w.2⟩), fun q hq => by rw [H q (by omega), i0.2.2 q hq], fun w q e => (by cases e), fun j' S e => ?_⟩, fun z => absurd (by decide) z⟩
        cases e
        obtain ⟨k1, k2, k3⟩ := a4
        refine ⟨by rw [e12', k2], by rw [e12', a2, o6 10 (by decide) (by decide) (by decide), z10], by rw [H 195 (by decide), i0.1], by rw [H 196 (by decide), i0.2.1], fun k k0 k1' => ?_⟩
        obtain ⟨p1, p2, p3, p4⟩ := k3 k k0 k1'
        have sv := v.2.1
        refine ⟨?_, ?_, ?_, ?_⟩
        · rw [V (4 * k) (by omega) (by omega), p1]
        · rw [show 198 + 4 * k = 197 + (4 * k + 1) by omega, V _ (by omega) (by omega), p2]
        · rw [show 199 + 4 * k = 197 + (4 * k + 2) by omega, V _ (by omega) (by omega), p3]
        · rw [show 200 + 4 * k = 197 + (4 * k + 3) by omega, V _ (by omega) (by omega), p4]
    · have z' : ¬ bkTk T c 200 j = 0 := fun q => z (K.2.2.2.1.2 q)
      dsimp only at hO
      rw [if_neg z'] at hO
      subst hO
      have hq := g.1 1 _ rfl
      refine bk171 a3 (.inr rfl) (fun M' f' e1 e2 => ⟨rfl, ?_⟩)
      rw [e2]
      have F' : ∀ j, 14 ≤ j ∨ j < 5 → M' 12 0 j = M8 12 0 j := fun j hj => f'.2 j (by omega) (by omega) (by omega) (by omega) (by omega) (by omega) (by omega) (by omega) (by omega)
      exact ⟨by unfold bk_r32; omega, rfl, by rw [F' 0 (by omega), O8 0 (by omega), z0], by rw [F' 2 (by omega), O8 2 (by omega), z2], fun j hj => by rw [F' j (by omega), O8' j hj], bkFr_trans FR8 (bkFr_mono f'.1 fun k a w => ⟨.inl w.1, w.2⟩), fun q _ => by rw [f'.1 58 0 (by omega), n8], fun w q e => (by cases e; exact ⟨rfl, e1, by rw [f'.1 58 0 (by omega), n8]⟩), fun j S e => (by cases e)⟩
