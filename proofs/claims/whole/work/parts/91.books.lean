/-! The reference reads a BOOK. -/
def bkBLn (f : Int → Int) (m : Nat) (T : Int → Int) (c L n : Int) (S : Int → Int) (i : Int) : (Int × Int) ⊕ (Int × (Int → Int)) :=
  match bkBLine f m T c L n S i with
  | .inl e => .inl e
  | .inr (j, S') => if bkTk T c L j = 59 then .inr (bkTn T c L j, S') else .inl (1, bkTf T c L j)
theorem S259c {d : Nat} {M : bk_M} {T : Int → Int} {c L i n : Int} {S f : Int → Int} {m : Nat} (h : bkRt M T c L) (hA : bkAtR M T c L i) (h0 : 0 ≤ i ∧ i ≤ c) (hL : 0 ≤ L ∧ L ≤ 940) (hn : 0 ≤ n ∧ n ≤ 40) (hl : M 12 0 52 = n) (hS : M 83 0 = S) (hv : bkBv m S n) (hN : M 58 0 1 = m) (hm3 : m ≤ 3) (hf : ∀ j : Nat, j < m → bkNv (f j) ∧ M 63 0 (10 + j) = bkCv 7 (f j)) : bk_C (d + 6) 0 259 [bk_c 12 0] M (fun t r M' => t = 0 ∧ bkBR T c L M r M' (bkBLn f m T c L n S i)) := by
  have hn' := @bkTn_b T c L i h0.2
  have hk := bkBk_line (f := f) (m := m) (n := n) (S := S) (T := T) hL h0 hv
  have no : ∀ {a : Int}, (if bkIsW T c L i a = true then (1 : Int) else 0) = 0 → ¬ bkIsW T c L i a = true := fun z q => by rw [if_pos q] at z; exact absurd z (by decide)
  have ye : ∀ {a : Int}, ¬ (if bkIsW T c L i a = true then (1 : Int) else 0) = 0 → bkIsW T c L i a = true := fun {a} z => by
    by_cases q : bkIsW T c L i a = true
    · exact q
    · exact absurd (if_neg q) z
  have fin : ∀ {O1 : (Int × Int) ⊕ (Int × (Int → Int))} {μ : Nat} {as : List bk_V}, bkBLine f m T c L n S i = O1 → bk_C (d + 5) 0 μ as M (fun t r M' => t = 0 ∧ bkBR T c L M r M' O1) → bk_C (d + 5) 0 μ as M (fun t3 r1 M2 => t3 = 0 ∧ ((r1 = (0 : Int) → ((0 : Int) = 0 ∨ (0 : Int) = 1) ∧ ((0 : Nat) = 0 ∧ bkBR T c L M 0 M2 (bkBLn f m T c L n S i))) ∧ (¬ (r1 = (0 : Int)) → bk_C (d + 5) 0 188 [bk_c 12 0] M2 (fun t6 r4 M5 => t6 = 0 ∧ ((r4 = (0 : Int) → ((0 : Int) = 0 ∨ (0 : Int) = 1) ∧ ((0 : Nat) = 0 ∧ bkBR T c L M 0 M5 (bkBLn f m T c L n S i))) ∧ (¬ (r4 = (0 : Int)) → ((1 : Int) = 0 ∨ (1 : Int) = 1) ∧ ((0 : Nat) = 0 ∧ bkBR T c L M 1 M5 (bkBLn f m T c L n S i)))))))) := fun {O1 μ as} e q => bk_use q (fun r M' hM' => by
    obtain ⟨g1, g2, g3⟩ := hM'
    rcases O1 with ⟨w, q'⟩ | ⟨j, S'⟩
    · obtain ⟨a1, a2, a3⟩ := g2 w q' rfl
      exact ⟨rfl, fun _ => bkBR_l (by unfold bkBLn; rw [e]) g1 rfl a2 a3, fun z => absurd a1 z⟩
    · obtain ⟨a1, a2, a3, a4⟩ := g3 j S' rfl
      obtain ⟨b1, b2, -⟩ := hk.1 j S' e
      refine ⟨rfl, fun z => absurd z (by omega), fun _ => bk_use (S188c (bkRt_q h g1) a3 (by omega)) (fun r4 M5 hM5 => ?_)⟩
      obtain ⟨f5, q1, q2⟩ := hM5
      by_cases w : bkTk T c L j = 59
      · obtain ⟨c1, c2, c3⟩ := q1 w
        exact ⟨rfl, fun z => absurd z (by omega), fun _ => bkBR_r (by unfold bkBLn; rw [e]; dsimp only; rw [if_pos w]) (bkRp_trans g1 (bkRp_o f5)) rfl (by rw [c2, a2]) c3 (by rw [f5.1 83 0 (by omega), a4])⟩
      · obtain ⟨c1, c2, c3⟩ := q2 w
        exact ⟨rfl, fun _ => bkBR_l (by unfold bkBLn; rw [e]; dsimp only; rw [if_neg w]) (bkRp_trans g1 (bkRp_o f5)) rfl c2 c3, fun z => absurd c1 z⟩)
  have bad : ∀ (a : Int), (bkTk T c L i ≠ 1 ∨ a = 1) → bkBLine f m T c L n S i = .inl (a, bkTf T c L i) → bk_C (d + 5) 0 171 [bk_c 12 0, bk_i a] M (fun t r M' => t = 0 ∧ (r = 0 ∨ r = 1) ∧ (0 : Nat) = 0 ∧ bkBR T c L M r M' (bkBLn f m T c L n S i)) := fun a ha e => bk171 hA ha (fun M' f e1 e2 => ⟨rfl, bkBR_l (by unfold bkBLn; rw [e]) (bkRp_o f) rfl e1 e2⟩)
  have tk : ∀ {a}, bkIsW T c L i a = true → bkTk T c L i = 2 := fun w => by unfold bkIsW at w; rw [decide_eq_true_eq] at w; exact w.1
  have un : ∀ {a b}, bkIsW T c L i a = true → a ≠ b → ¬ bkIsW T c L i b = true := fun q w e => w (bkIsW_u q e)
  have ml : ∀ {a}, bkIsW T c L i a = true → a ≠ -1 → bkBMl f m T c L i = -1 := fun q w => by unfold bkBMl; rw [if_neg (un q w)]
  have rest : ∀ (x1 y0 : Int), x1 = (if bkIsW T c L i 6 = true ∨ bkIsW T c L i 7 = true then 1 else 0) → y0 = (if bkIsW T c L i 12 = true ∨ bkIsW T c L i 13 = true then 1 else 0) → bk_wp (bk_C (d + 5)) P_259 (fun t r M' => t = 0 ∧ bkBR T c L M r M' (bkBLn f m T c L n S i)) 0 28 [bk_c 12 0, bk_i x1, bk_x, bk_x] [bk_i y0] M := fun x1 y0 hx hy => by
    rw [L_259_28, hl]
    have r4 : bk_r32 (4 * n) := by unfold bk_r32; omega
    refine ⟨fun zx => ?_, fun zx => ⟨fun zy => ?_, fun zy => ?_⟩⟩
    · have q : bkIsW T c L i 6 = true ∨ bkIsW T c L i 7 = true := by
        by_cases q : bkIsW T c L i 6 = true ∨ bkIsW T c L i 7 = true
        · exact q
        · rw [if_neg q] at hx; exact absurd hx zx
      have e1 : bkIsW T c L i (-1) = false ∧ bkIsW T c L i 12 = false ∧ bkIsW T c L i 13 = false ∧ bkBMl f m T c L i = -1 := by
        rcases q with q | q
        · exact ⟨by simpa using un q (by decide), by simpa using un q (by decide), by simpa using un q (by decide), ml q (by decide)⟩
        · exact ⟨by simpa using un q (by decide), by simpa using un q (by decide), by simpa using un q (by decide), ml q (by decide)⟩
      obtain ⟨e1, e12, e13, em⟩ := e1
      have nt : ¬ (bkBMl f m T c L i = -1 ∧ ¬ (bkIsW T c L i 6 = true ∨ bkIsW T c L i 7 = true ∨ bkIsW T c L i 12 = true ∨ bkIsW T c L i 13 = true)) := fun w => w.2 (q.elim .inl fun w => .inr (.inl w))
      refine ⟨fun z40 => ⟨r4, fun w => absurd w zx, fun _ => fin ?_ (S260c h hA h0 (by omega) hS rfl)⟩, fun z40 => bad 4 (.inl (by rcases q with q | q <;> (have := tk q; omega))) ?_⟩
      · unfold bkBLine
        rw [if_neg (by rw [e1]; simp), if_neg nt, if_neg (by omega), if_neg (by rw [e12]; simp), if_neg (by rw [e13]; simp)]
        by_cases q6 : bkIsW T c L i 6 = true
        · rw [if_pos q6, if_pos q6]
        · rw [if_neg q6, if_neg q6, if_pos (q.resolve_left q6)]
      · unfold bkBLine
        rw [if_neg (by rw [e1]; simp), if_neg nt, if_pos (by omega)]
    · have ns : ¬ (bkIsW T c L i 6 = true ∨ bkIsW T c L i 7 = true) := fun q => by rw [if_pos q] at hx; exact zx (by rw [hx]; decide)
      have q : bkIsW T c L i 12 = true ∨ bkIsW T c L i 13 = true := by
        by_cases q : bkIsW T c L i 12 = true ∨ bkIsW T c L i 13 = true
        · exact q
        · rw [if_neg q] at hy; exact absurd hy zy
      have e1 : bkIsW T c L i (-1) = false ∧ bkBMl f m T c L i = -1 := by
        rcases q with q | q
        · exact ⟨by simpa using un q (by decide), ml q (by decide)⟩
        · exact ⟨by simpa using un q (by decide), ml q (by decide)⟩
      obtain ⟨e1, em⟩ := e1
      have nt : ¬ (bkBMl f m T c L i = -1 ∧ ¬ (bkIsW T c L i 6 = true ∨ bkIsW T c L i 7 = true ∨ bkIsW T c L i 12 = true ∨ bkIsW T c L i 13 = true)) := fun w => w.2 (q.elim (fun w => .inr (.inr (.inl w))) fun w => .inr (.inr (.inr w)))
      refine ⟨fun z40 => ⟨r4, fun _ => ⟨fun w => absurd w zy, fun _ => fin ?_ (S263c h hA h0 (by omega) hS rfl)⟩, fun w => absurd w zx⟩, fun z40 => bad 4 (.inl (by rcases q with q | q <;> (have := tk q; omega))) ?_⟩
      · unfold bkBLine
        rw [if_neg (by rw [e1]; simp), if_neg nt, if_neg (by omega)]
        by_cases q12 : bkIsW T c L i 12 = true
        · rw [if_pos q12, if_pos q12]
        · rw [if_neg q12, if_neg q12, if_pos (q.resolve_left q12)]
      · unfold bkBLine
        rw [if_neg (by rw [e1]; simp), if_neg nt, if_pos (by omega)]
    · have ns : ¬ (bkIsW T c L i 6 = true ∨ bkIsW T c L i 7 = true) := fun q => by rw [if_pos q] at hx; exact zx (by rw [hx]; decide)
      have np : ¬ (bkIsW T c L i 12 = true ∨ bkIsW T c L i 13 = true) := fun q => by rw [if_pos q] at hy; exact zy (by rw [hy]; decide)
      have nn : ¬ (bkIsW T c L i 6 = true ∨ bkIsW T c L i 7 = true ∨ bkIsW T c L i 12 = true ∨ bkIsW T c L i 13 = true) := fun w => by
        rcases w with w | w | w | w
        · exact ns (.inl w)
        · exact ns (.inr w)
        · exact np (.inl w)
        · exact np (.inr w)
      refine (S182c hA).2 ⟨rfl, fun nm => ⟨by omega, ?_⟩, fun nm => bad 1 (.inr rfl) ?_⟩
      · have nm : bkIsW T c L i (-1) = true := by
          by_cases q : bkIsW T c L i (-1) = true
          · exact q
          · exact absurd (if_neg q) nm
        have k2 := tk nm
        have v := bkTw_v k2
        have ix : bkIx (fun j => M 63 0 (10 + j)) (M 12 0 12) (M 58 0 1).toNat = bkBMl f m T c L i := by
          unfold bkBMl
          rw [if_pos nm, hA.2.2.2.2.1 k2, v.2, hN, show (m : Int).toNat = m by omega]
          exact bkIx_inj v.1 hf
        rw [S183c (.inr rfl) (by omega) (by omega), ix]
        refine ⟨rfl, fun w => ⟨fun z40 => ⟨by rw [hl]; exact r4, fun _ => ⟨fun _ => ?_, fun w => absurd (Decidable.not_not.1 zy) w⟩, fun w => absurd w zx⟩, fun z40 => bad 4 (.inl (by omega)) ?_⟩, fun w => bad 3 (.inl (by omega)) ?_⟩
        · rw [hl] at z40 ⊢
          refine fin ?_ (S264c h hA h0 (by omega) hS (by omega) ix rfl)
          unfold bkBLine
          rw [if_neg (fun q => w q.2), if_neg (fun q => w q.1), if_neg (by omega), if_neg (un nm (by decide)), if_neg (un nm (by decide)), if_neg (un nm (by decide)), if_neg (un nm (by decide))]
        · rw [hl] at z40
          unfold bkBLine
          rw [if_neg (fun q => w q.2), if_neg (fun q => w q.1), if_pos (by omega)]
        · unfold bkBLine
          rw [if_pos ⟨nm, Decidable.not_not.1 w⟩]
      · have nm : ¬ bkIsW T c L i (-1) = true := fun q => by rw [if_pos q] at nm; exact nm (by decide)
        unfold bkBLine
        rw [if_neg (fun q => nm q.1), if_pos ⟨by unfold bkBMl; rw [if_neg nm], nn⟩]
  rw [E_259]
  refine (S187c hA).2 ⟨rfl, (S167d (w := 12) (b := 12) (a := 10) hA (by decide) rfl rfl).2 ⟨rfl, fun z => ?_, fun z => (S167d (w := 13) (b := 13) (a := 11) hA (by decide) rfl rfl).2 ⟨rfl, fun z' => ?_, fun z' => ?_⟩⟩⟩
  · rw [L_259_23]
    exact rest _ 1 rfl (by rw [if_pos (.inl (ye z))])
  · exact rest _ 0 rfl (by rw [if_neg (fun w => w.elim (no (Decidable.not_not.1 z)) (no z'))])
  · rw [L_259_23]
    exact rest _ 1 rfl (by rw [if_pos (.inr (ye z'))])
