/-! The first memory: what the three makings leave. -/
def bk_M9 (sc : Nat → Int → Int) (u v : bk_M) : bk_M := fun k i j => if k = 13 then sc i j else bk_jn bk_l12 v (bk_jn [(86, 0)] bk_Mz u) k i j
theorem bk_lay_p : bk_lay = ((11, 0) :: bk_x11) ++ (bk_l12 ++ [(86, 0)]) := by decide +kernel
theorem bk_M9_c : (∀ q ∈ (11, 0) :: bk_x11, q.1 ≠ 13 ∧ bk_l12.contains (q.1, q.2) = false ∧ ([(86, 0)] : List (Nat × Nat)).contains (q.1, q.2) = false) ∧ (∀ q ∈ bk_l12, q.1 ≠ 13) ∧ bk_l12.contains (86, 0) = false := by decide +kernel
theorem bk_M9_u {sc : Nat → Int → Int} {u v : bk_M} {k i : Nat} (h : (k, i) ∈ (11, 0) :: bk_x11) (j : Int) : bk_M9 sc u v k i j = u k i j := by
  obtain ⟨h1, h2, h3⟩ := bk_M9_c.1 _ h
  exact (if_neg h1).trans ((bk_jn_n h2 j).trans (bk_jn_n h3 j))
theorem bk_M9_v {sc : Nat → Int → Int} {u v : bk_M} {k i : Nat} (h : (k, i) ∈ bk_l12) (j : Int) : bk_M9 sc u v k i j = v k i j := (if_neg (bk_M9_c.2.1 _ h)).trans (bk_jn_y h j)
theorem bk_M9_o {sc : Nat → Int → Int} {u v : bk_M} (j : Int) : bk_M9 sc u v 86 0 j = 0 := (if_neg (by decide)).trans ((bk_jn_n bk_M9_c.2.2 j).trans (bk_jn_y (by decide) j))
theorem bk_M9_13 {sc : Nat → Int → Int} {u v : bk_M} : bk_M9 sc u v 13 = sc := by
  funext i j
  exact if_pos rfl
theorem bk_bd0 (y : Int) (h0 : 0 ≤ y) (h1 : y < 5) : bkBd (fun c => bkS0 (6 + c)) (bkS0 2) (bkS0 3) (bkS0 4) y = 0 := by
  obtain rfl | rfl | rfl | rfl | rfl : y = 0 ∨ y = 1 ∨ y = 2 ∨ y = 3 ∨ y = 4 := by omega
  all_goals decide +kernel
theorem bk_x11_m : (11, 0) ∈ (11, 0) :: bk_x11 ∧ (53, 0) ∈ bk_x11 ∧ (54, 0) ∈ bk_x11 ∧ (10, 0) ∈ bk_x11 ∧ (5, 0) ∈ bk_x11 ∧ (9, 0) ∈ bk_x11 ∧ (3, 0) ∈ bk_x11 ∧ (4, 0) ∈ bk_x11 ∧ (4, 1) ∈ bk_x11 ∧ (7, 0) ∈ bk_x11 ∧ (1, 0) ∈ bk_x11 ∧ (2, 0) ∈ bk_x11 := by decide +kernel
theorem bk_x11_p : ∀ p, p < 13 → ∀ k ∈ bk_pks, (k, p) ∈ bk_x11 := by decide +kernel
theorem bk_l12_m : (12, 0) ∈ bk_l12 ∧ (57, 0) ∈ bk_l12 ∧ (58, 0) ∈ bk_l12 ∧ (66, 0) ∈ bk_l12 ∧ (69, 0) ∈ bk_l12 := by decide +kernel
theorem bk_inv0 {sc : Nat → Int → Int} {u v : bk_M} (hu : bk_P11 sc u) (hv : bk_P12 v) : bkInv (bk_M9 sc u v) := by
  obtain ⟨⟨g1, g2, g3⟩, g4⟩ := hu
  obtain ⟨v0, v1, v2, v3, v4, v5⟩ := hv
  obtain ⟨m11, m53, m54, m10, m5, m9, m3, m40, m41, m7, m1, m2⟩ := bk_x11_m
  obtain ⟨n12, n57, n58, n66, n69⟩ := bk_l12_m
  generalize hM : bk_M9 sc u v = M
  have e11 : ∀ j, M 11 0 j = if j = 2 ∨ j = 8 then 1 else 0 := fun j => by rw [← hM, bk_M9_u m11 j, g4]
  have ez : ∀ k i, (k, i) ∈ bk_x11 → bk_pk k = false → k ≠ 54 → ∀ j, M k i j = 0 := fun k i h w1 w2 j => by rw [← hM, bk_M9_u (List.mem_cons_of_mem _ h) j]; exact g2 _ h w1 w2 j
  have e54 : ∀ j, M 54 0 j = bk_tpw j := fun j => by rw [← hM, bk_M9_u (List.mem_cons_of_mem _ m54) j]; exact g3 0 m54 j
  have ev : ∀ k, (k, 0) ∈ bk_l12 → ∀ j, M k 0 j = v k 0 j := fun k h j => by rw [← hM]; exact bk_M9_v h j
  have e12 : ∀ j, j ≠ 26 → M 12 0 j = 0 := fun j hj => (ev 12 n12 j).trans (v1 j hj)
  have e53 : ∀ j, M 53 0 j = 0 := ez 53 0 m53 rfl (by decide)
  have e57 : ∀ j, M 57 0 j = 0 := fun j => (ev 57 n57 j).trans (by rw [v2 57 (Or.inl rfl)])
  have e66 : ∀ j, M 66 0 j = 0 := fun j => (ev 66 n66 j).trans (by rw [v2 66 (Or.inr rfl)])
  have e58 : ∀ j, 0 ≤ j → j < 437 → ¬ (121 ≤ j ∧ j < 127) → M 58 0 j = bkSR bkS0 j := fun j j0 j1 j2 => (ev 58 n58 j).trans (v3 j j0 j1 j2)
  have s3 : bkS0 3 = 5 := rfl
  have e58b : ∀ y, 0 ≤ y → y < bkS0 3 → M 58 0 (121 + y) = 0 := fun y y0 y1 => (ev 58 n58 _).trans ((v4 y y0 y1).trans (bk_bd0 y y0 (by rw [s3] at y1; exact y1)))
  have i1 : M 11 0 1 = 0 := (e11 1).trans (by decide)
  have i2 : M 11 0 2 = 1 := (e11 2).trans (by decide)
  have i7 : M 11 0 7 = 0 := (e11 7).trans (by decide)
  have i8 : M 11 0 8 = 1 := (e11 8).trans (by decide)
  have N0 : M 58 0 0 = 0 := (e58 0 (by decide) (by decide) (by decide)).trans ((bkSR_a (by decide)).trans rfl)
  have N1 : M 58 0 1 = 0 := (e58 1 (by decide) (by decide) (by decide)).trans ((bkSR_a (by decide)).trans rfl)
  have N195 : M 58 0 195 = 0 := (e58 195 (by decide) (by decide) (by decide)).trans (bkSR_z (by decide))
  have hRel : bkRel M 0 (M 58 0) := by
    obtain ⟨w, w1, w2⟩ := g1 0 m5
    obtain ⟨-, w3, -⟩ := w1
    have ew : ∀ k, bkPk k → M k 0 = w k 0 := fun k hk => by
      funext j
      rw [← hM, bk_M9_u (List.mem_cons_of_mem _ (bk_x11_p 0 (by decide) k (bk_pks_of hk))) j, w2 k hk j]
    refine bkRdP_rel (M := w) (p := 0) (S := bkS0) (B := fun _ => 0) w3 bkS0_v (fun k _ hk => ew k hk) (fun y y0 y1 => ⟨?_, Int.le_refl 0, by decide⟩) e58 e58b
    rw [ew 29 (Or.inr (by decide))]
    exact w3.2.2.1 y y0 (by rw [s3] at y1; omega)
  refine ⟨Or.inl ⟨i1, i2⟩ |> fun h => ⟨h, Or.inl ⟨i7, i8⟩⟩, ⟨?_, ?_, ?_, ?_, ?_⟩, ?_, ?_, ?_, ?_, ?_, ?_, ?_⟩
  · funext j
    rw [e53, e57]
  · rw [ez 10 0 m10 rfl (by decide), e12 2 (by decide)]
  · rw [ez 10 0 m10 rfl (by decide)]
    decide
  · intro j
    rw [e53]
    exact Int.le_refl 0
  · intro w hw
    rw [e54]
    exact bk_tpw_w w hw
  · rw [e11, e12 10 (by decide)]
    decide
  · show bkAllP M (M 11 0 1).toNat (M 11 0 7).toNat (M 63 0) (M 58 0)
    rw [i1, i7]
    refine ⟨hRel, ⟨fun j hj => ?_, fun j hj => ?_⟩, Or.inl ⟨ez 9 0 m9 rfl (by decide) 0, N195⟩⟩
    · rw [N0] at hj
      omega
    · rw [N1] at hj
      omega
  · rw [i1]
    have h0 := ez 3 0 m3 rfl (by decide)
    refine ⟨?_, ?_, ?_, fun j j1 j2 => ?_⟩
    · rw [h0]; decide
    · rw [h0]; decide
    · rw [h0, e12 25 (by decide)]
    · rw [h0] at j2
      omega
  · exact ⟨by rw [ez 4 0 m40 rfl (by decide), e66], Or.inl (e66 _)⟩
  · exact ⟨by rw [ez 4 1 m41 rfl (by decide), e66], Or.inl (e66 _)⟩
  · have h7 := ez 7 0 m7 rfl (by decide)
    have h1 := ez 1 0 m1 rfl (by decide)
    have h2 := ez 2 0 m2 rfl (by decide)
    refine ⟨⟨?_, ?_, fun k k0 k1 => ?_⟩, ⟨?_, fun z => ?_⟩, ⟨?_, ?_, fun k k0 k1 => ?_⟩, ⟨?_, ?_, fun k k0 k1 => ?_⟩, ⟨?_, ?_, fun k k0 k1 => ?_⟩, ⟨?_, fun z => ?_⟩⟩
    · rw [h7, e12 33 (by decide)]
    · rw [e12 33 (by decide)]; decide
    · rw [e12 33 (by decide)] at k1; omega
    · rw [h7, e12 35 (by decide)]
    · exact absurd (e12 35 (by decide)) z
    · rw [h7, e12 39 (by decide)]
    · rw [e12 39 (by decide)]; decide
    · rw [e12 39 (by decide)] at k1; omega
    · rw [h1, e12 44 (by decide)]
    · rw [e12 44 (by decide)]; decide
    · rw [e12 44 (by decide)] at k1; omega
    · rw [h2, e12 49 (by decide)]
    · rw [e12 49 (by decide)]; decide
    · rw [e12 49 (by decide)] at k1; omega
    · rw [e11, e12 53 (by decide)]; decide
    · exact absurd (e12 53 (by decide)) z
  · intro c c0 c1
    rw [ev 69 n69]
    exact v5 c c0 c1
/-! .. is sound, cell by cell. -/
theorem bk_ok_m1 {L L' : List (Nat × Nat)} {F : Nat} {x : Int} (h3 : F % 8 ≠ 3) (h : match F % 8 with
    | 1 => bk_r64 x
    | 2 => True
    | 3 => (F / 8 % 128, x.toNat) ∈ L'
    | _ => bk_r32 x) : match F % 8 with
    | 1 => bk_r64 x
    | 2 => True
    | 3 => (F / 8 % 128, x.toNat) ∈ L
    | _ => bk_r32 x := by
  have w : F % 8 < 8 := Nat.mod_lt _ (by decide)
  rcases (show F % 8 = 0 ∨ F % 8 = 1 ∨ F % 8 = 2 ∨ F % 8 = 4 ∨ F % 8 = 5 ∨ F % 8 = 6 ∨ F % 8 = 7 by omega) with e | e | e | e | e | e | e
  all_goals
    rw [e] at h ⊢
    exact h
theorem bk_ok_z1 {L : List (Nat × Nat)} {F : Nat} {x : Int} (h3 : F % 8 ≠ 3) (hx : x = 0) : match F % 8 with
    | 1 => bk_r64 x
    | 2 => True
    | 3 => (F / 8 % 128, x.toNat) ∈ L
    | _ => bk_r32 x := by
  subst hx
  split
  · exact ⟨by decide, by decide⟩
  · trivial
  · rename_i w
    exact absurd w h3
  · exact ⟨by decide, by decide⟩
theorem bk_no3 : (∀ q ∈ bk_x11, q.1 < 13 → ∀ j, j < bk_n q.1 → bk_fd q.1 j % 8 ≠ 3) ∧ (∀ q ∈ bk_l12, q.1 < 13 → ∀ j, j < bk_n q.1 → bk_fd q.1 j % 8 ≠ 3) ∧ (∀ j, j < 19 → bk_fd 5 j % 8 ≠ 3) := by decide +kernel
theorem bk_pk_l5 : ∀ q ∈ bk_x11, bk_pk q.1 = true → (q.1, 0) ∈ bk_l5 ∧ (5, q.2) ∈ bk_x11 := by decide +kernel
theorem bk_54_only : ∀ q ∈ bk_x11, q.1 = 54 → q.2 = 0 := by decide +kernel
theorem bk_ok_if {L : List (Nat × Nat)} {F : Nat} {x : Int} (h : x = 0 ∨ x = 1) (h3 : F % 8 = 3 → (F / 8 % 128, x.toNat) ∈ L) : match F % 8 with
    | 1 => bk_r64 x
    | 2 => True
    | 3 => (F / 8 % 128, x.toNat) ∈ L
    | _ => bk_r32 x := by
  split
  · unfold bk_r64; omega
  · trivial
  · rename_i w
    exact h3 w
  · unfold bk_r32; omega
theorem bk_own3 : ∀ j : Nat, j < 17 → bk_fd 11 j % 8 = 3 → (bk_fd 11 j / 8 % 128, (if (j : Int) = 2 ∨ (j : Int) = 8 then (1 : Int) else 0).toNat) ∈ bk_lay := by decide +kernel
theorem bk_ok11 (u : bk_M) (h : ∀ j, u 11 0 j = if j = 2 ∨ j = 8 then 1 else 0) : ∀ j : Nat, j < 17 → match bk_fd 11 j % 8 with
    | 1 => bk_r64 (u 11 0 j)
    | 2 => True
    | 3 => (bk_fd 11 j / 8 % 128, (u 11 0 j).toNat) ∈ bk_lay
    | _ => bk_r32 (u 11 0 j) := by
  intro j hj
  refine bk_ok_if ?_ (fun w => ?_)
  · rw [h]
    split
    · exact Or.inr rfl
    · exact Or.inl rfl
  · rw [h]
    exact bk_own3 j hj w
theorem bk_pk13 {k : Nat} (h : bk_pk k = true) : bkPk k := by
  unfold bk_pk at h
  rw [Bool.or_eq_true, Bool.and_eq_true] at h
  rcases h with h | ⟨h1, h2⟩
  · exact Or.inl (Nat.eq_of_beq_eq_true h)
  · exact Or.inr ⟨Nat.le_of_ble_eq_true h1, Nat.le_of_ble_eq_true h2⟩
theorem bk_okm9 {b1 : Nat} {sc : Nat → Int → Int} {u v : bk_M} (hsc : bk_scO sc) (hu : bk_P11 sc u) (hv : bk_P12 v) : bk_okm (b1, bk_lay) (bk_M9 sc u v) := by
  obtain ⟨⟨g1, g2, g3⟩, g4⟩ := hu
  obtain ⟨⟨v0, v0', -⟩, -⟩ := hv
  have hcut : ∀ q : Nat × Nat, q ∈ bk_lay → q = (11, 0) ∨ q ∈ bk_x11 ∨ q ∈ bk_l12 ∨ q = (86, 0) := fun q hq => by
    rw [bk_lay_p] at hq
    rcases List.mem_append.mp hq with h | h
    · rcases List.mem_cons.mp h with h | h
      · exact Or.inl h
      · exact Or.inr (Or.inl h)
    · rcases List.mem_append.mp h with h | h
      · exact Or.inr (Or.inr (Or.inl h))
      · exact Or.inr (Or.inr (Or.inr (List.mem_singleton.mp h)))
  refine ⟨fun k i j hm hk hj => ?_, fun k i j hm hk j0 j1 => ?_, by rw [bk_M9_13]; exact hsc⟩
  · rcases hcut _ hm with h | h | h | h
    · cases h
      have h9 := bk_ok11 u g4 j hj
      rw [← bk_M9_u (sc := sc) (u := u) (v := v) (List.mem_cons_self (a := ((11, 0) : Nat × Nat)) (l := bk_x11)) (j : Int)] at h9
      exact h9
    · have h3 := bk_no3.1 _ h hk j hj
      rw [bk_M9_u (List.mem_cons_of_mem _ h)]
      by_cases hp : bk_pk k = true
      · obtain ⟨p1, p2⟩ := bk_pk_l5 _ h hp
        obtain ⟨w, ⟨-, -, w1⟩, w2⟩ := g1 i p2
        rw [w2 k (bk_pk13 hp)]
        exact bk_ok_m1 h3 (w1.1 k 0 j p1 hk hj)
      · exact bk_ok_z1 h3 (g2 _ h (by simpa using hp) (show k ≠ 54 by omega) _)
    · have h3 := bk_no3.2.1 _ h hk j hj
      rw [bk_M9_v h]
      exact bk_ok_m1 h3 (v0 k i j h hk hj)
    · cases h
      omega
  · rcases hcut _ hm with h | h | h | h
    · cases h
      omega
    · rw [bk_M9_u (List.mem_cons_of_mem _ h)]
      by_cases hp : bk_pk k = true
      · obtain ⟨p1, p2⟩ := bk_pk_l5 _ h hp
        obtain ⟨w, ⟨-, -, w1⟩, w2⟩ := g1 i p2
        rw [w2 k (bk_pk13 hp)]
        exact w1.2.1 k 0 j p1 hk j0 j1
      · by_cases h54 : k = 54
        · subst h54
          obtain rfl : i = 0 := bk_54_only _ h rfl
          rw [g3 0 h]
          exact ⟨by have := Int64.le_toInt (bk_tpF 138 j.toNat); unfold bk_tpw; omega, by have := Int64.toInt_lt (bk_tpF 138 j.toNat); unfold bk_tpw; omega⟩
        · have hz := g2 _ h (by simpa using hp) h54 j
          dsimp only at hz
          rw [hz]
          split
          · exact ⟨by decide, by decide⟩
          · trivial
          · exact ⟨by decide, by decide⟩
    · rw [bk_M9_v h]
      exact v0' k i j h hk j0 j1
    · cases h
      rw [bk_M9_o]
      exact ⟨by decide, by decide⟩
theorem bk_emb12 : bk_embc bk_lay bk_l12 230 0 = true := by decide +kernel
theorem bk_ws9 (b1 : Nat) (cA : Nat → ClassId) (sc : Nat → Int → Int) (u v : bk_M) : (bk_en (b1, bk_lay) cA u (11, 0) :: bk_x11.map (bk_en (b1, bk_lay) cA u)) ++ (bk_l12.map (bk_en (b1 + 230, bk_l12) cA v) ++ [bk_ze cA 1 1]) = bk_lay.map (bk_en (b1, bk_lay) cA (bk_M9 sc u v)) := by
  have e1 : bk_en (b1, bk_lay) cA u (11, 0) :: bk_x11.map (bk_en (b1, bk_lay) cA u) = ((11, 0) :: bk_x11).map (bk_en (b1, bk_lay) cA (bk_M9 sc u v)) := by
    rw [← List.map_cons]
    exact List.map_congr_left fun q hq => bk_en_eq (k := q.1) (i := q.2) fun j => (bk_M9_u hq j).symm
  have e2 : bk_l12.map (bk_en (b1 + 230, bk_l12) cA v) = bk_l12.map (bk_en (b1, bk_lay) cA (bk_M9 sc u v)) := by
    rw [bk_emb bk_emb12, show bk_shl 0 bk_l12 = bk_l12 by decide +kernel]
    exact List.map_congr_left fun q hq => bk_en_eq (k := q.1) (i := q.2) fun j => (bk_M9_v hq j).symm
  have e3 : [bk_ze cA 1 1] = [(86, 0)].map (bk_en (b1, bk_lay) cA (bk_M9 sc u v)) := by
    have h : bk_en (b1, bk_lay) cA (bk_M9 sc u v) (86, 0) = bk_en (b1, bk_lay) cA bk_Mz (86, 0) := bk_en_eq fun j => bk_M9_o j
    rw [List.map_cons, h]
    rfl
  rw [e1, e2, e3, ← List.map_append, ← List.map_append, ← bk_lay_p]
