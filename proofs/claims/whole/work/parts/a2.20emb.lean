/-! A layout within a layout: the cells of a making, seen from the whole. -/
def bk_Mz : bk_M := fun _ _ _ => 0
def bk_shl (s : Nat) (L : List (Nat × Nat)) : List (Nat × Nat) := L.map fun q => (q.1, q.2 + s)
def bk_sh (s : Nat) (u : bk_M) : bk_M := fun k i j => u k (i - s) j
def bk_embc (L L' : List (Nat × Nat)) (a s : Nat) : Bool :=
  L'.all fun q => bif Nat.blt q.1 13 then (List.range (bk_n q.1)).all (fun j => bif Nat.beq (bk_fd q.1 j % 8) 2 then Nat.beq (bk_find (bk_fd q.1 j / 8 % 128, q.2 + s + bk_fd q.1 j / 1024) L) (a + bk_find (bk_fd q.1 j / 8 % 128, q.2 + bk_fd q.1 j / 1024) L') else !(Nat.beq (bk_fd q.1 j % 8) 3)) else !(Nat.beq (bk_so q.1) 3)
theorem bk_fv_m {b b' : bk_B} {M M' : bk_M} {k i i' j : Nat} (h3 : bk_fd k j % 8 ≠ 3) (h2 : bk_fd k j % 8 = 2 → b'.1 + bk_off b' (bk_fd k j / 8 % 128) (i' + bk_fd k j / 1024) = b.1 + bk_off b (bk_fd k j / 8 % 128) (i + bk_fd k j / 1024)) (hM : M' k i' j = M k i j) : bk_fv b' M' k i' j = bk_fv b M k i j := by
  unfold bk_fv
  rw [hM]
  generalize bk_fd k j = F at *
  have h : F % 8 < 8 := Nat.mod_lt _ (by decide)
  rcases (show F % 8 = 0 ∨ F % 8 = 1 ∨ F % 8 = 2 ∨ F % 8 = 4 ∨ F % 8 = 5 ∨ F % 8 = 6 ∨ F % 8 = 7 by omega) with e | e | e | e | e | e | e
  · rw [e]; rfl
  · rw [e]; rfl
  · rw [h2 e, e]; rfl
  · rw [e]; rfl
  · rw [e]; rfl
  · rw [e]; rfl
  · rw [e]; rfl
theorem bk_en_m {b b' : bk_B} {cA : Nat → ClassId} {M M' : bk_M} {k i i' : Nat} (hM : ∀ j, M' k i' j = M k i j) (hk : 13 ≤ k → bk_so k ≠ 3) (hf : k < 13 → ∀ j, j < bk_n k → bk_fd k j % 8 ≠ 3 ∧ (bk_fd k j % 8 = 2 → b'.1 + bk_off b' (bk_fd k j / 8 % 128) (i' + bk_fd k j / 1024) = b.1 + bk_off b (bk_fd k j / 8 % 128) (i + bk_fd k j / 1024))) : bk_en b' cA M' (k, i') = bk_en b cA M (k, i) := by
  unfold bk_en
  dsimp only
  by_cases h : k < 13
  · rw [if_pos h, if_pos h]
    have e : (List.range (bk_n k)).map (bk_fv b' M' k i') = (List.range (bk_n k)).map (bk_fv b M k i) := List.map_congr_left fun j hj => by
      have h9 := hf h j (List.mem_range.mp hj)
      exact bk_fv_m h9.1 h9.2 (hM j)
    rw [e]
  · rw [if_neg h, if_neg h]
    simp only [hM]
    have h9 := hk (by omega)
    have h8 : bk_so k < 4 := Nat.mod_lt _ (by decide)
    rcases (show bk_so k = 0 ∨ bk_so k = 1 ∨ bk_so k = 2 by omega) with e | e | e
    · rw [e]; rfl
    · rw [e]; rfl
    · rw [e]; rfl
theorem bk_emb {L L' : List (Nat × Nat)} {a s b : Nat} {cA : Nat → ClassId} {u : bk_M} (hc : bk_embc L L' a s = true) : L'.map (bk_en (b + a, L') cA u) = (bk_shl s L').map (bk_en (b, L) cA (bk_sh s u)) := by
  unfold bk_shl
  rw [List.map_map]
  refine List.map_congr_left fun q hq => ?_
  obtain ⟨k, i⟩ := q
  have h := List.all_eq_true.mp hc _ hq
  dsimp only at h
  show bk_en (b + a, L') cA u (k, i) = bk_en (b, L) cA (bk_sh s u) (k, i + s)
  refine bk_en_m (fun j => ?_) (fun hk => ?_) (fun hk j hj => ?_)
  · unfold bk_sh
    rw [Nat.add_sub_cancel]
  · have e : Nat.blt k 13 = false := by
      cases e : Nat.blt k 13 with
      | false => rfl
      | true => exact absurd (Nat.le_of_ble_eq_true e) (by omega)
    rw [e] at h
    intro z
    rw [z] at h
    exact absurd (show (!(Nat.beq 3 3)) = true from h) (by decide)
  · have e : Nat.blt k 13 = true := Nat.ble_eq_true_of_le hk
    rw [e] at h
    have h := List.all_eq_true.mp h j (List.mem_range.mpr hj)
    cases w : Nat.beq (bk_fd k j % 8) 2 with
    | true =>
      rw [w] at h
      have h := Nat.eq_of_beq_eq_true h
      have w := Nat.eq_of_beq_eq_true w
      refine ⟨by omega, fun _ => ?_⟩
      show b + a + bk_find _ L' = b + bk_find _ L
      omega
    | false =>
      rw [w] at h
      refine ⟨fun z => ?_, fun z => ?_⟩
      · rw [z] at h
        exact absurd (show (!(Nat.beq 3 3)) = true from h) (by decide)
      · rw [z] at w
        exact absurd w (by decide)
/-- joined memories -/
def bk_jn (Y : List (Nat × Nat)) (u M : bk_M) : bk_M := fun k i j => bif Y.contains (k, i) then u k i j else M k i j
theorem bk_jn_y {Y : List (Nat × Nat)} {u M : bk_M} {k i : Nat} (h : (k, i) ∈ Y) (j : Int) : bk_jn Y u M k i j = u k i j := by
  unfold bk_jn
  rw [List.contains_iff_mem.mpr h]
  rfl
theorem bk_jn_n {Y : List (Nat × Nat)} {u M : bk_M} {k i : Nat} (h : Y.contains (k, i) = false) (j : Int) : bk_jn Y u M k i j = M k i j := by
  unfold bk_jn
  rw [h]
  rfl
theorem bk_accL {X Y : List (Nat × Nat)} {b : bk_B} {cA : Nat → ClassId} {M u : bk_M} (ha : X.all (fun x => !(Y.contains x)) = true) : X.map (bk_en b cA M) ++ Y.map (bk_en b cA u) = (X ++ Y).map (bk_en b cA (bk_jn Y u M)) := by
  rw [List.map_append]
  congr 1
  · refine List.map_congr_left fun q hq => ?_
    have h := List.all_eq_true.mp ha q hq
    have h : Y.contains q = false := by
      cases e : Y.contains q with
      | false => rfl
      | true => rw [e] at h; exact absurd h (by decide)
    exact bk_en_eq (k := q.1) (i := q.2) fun j => (bk_jn_n h j).symm
  · exact List.map_congr_left fun q hq => bk_en_eq (k := q.1) (i := q.2) fun j => (bk_jn_y hq j).symm
/-! What a new object's cells hold: plains as reset left them, the tape's words, else 0. -/
def bk_pk (k : Nat) : Bool := Nat.beq k 5 || (Nat.ble 28 k && Nat.ble k 39)
theorem bk_pk_of {k : Nat} (h : bkPk k) : bk_pk k = true := by
  unfold bk_pk
  rcases h with rfl | ⟨h1, h2⟩
  · rfl
  · rw [Nat.ble_eq_true_of_le h1, Nat.ble_eq_true_of_le h2, Bool.and_true, Bool.or_true]
/-- a plain as reset left it -/
def bk_Fp (sc : Nat → Int → Int) (M : bk_M) (p : Nat) : Prop := ∃ w : bk_M, bk_P5 sc w ∧ ∀ k, bkPk k → ∀ j, M k p j = w k 0 j
def bk_gd (sc : Nat → Int → Int) (tw : Int → Int) (X : List (Nat × Nat)) (M : bk_M) : Prop :=
  (∀ p, (5, p) ∈ X → bk_Fp sc M p) ∧ (∀ q ∈ X, bk_pk q.1 = false → q.1 ≠ 54 → ∀ j, M q.1 q.2 j = 0) ∧ (∀ i, (54, i) ∈ X → ∀ j, M 54 i j = tw j)
def bk_pks : List Nat := [5, 28, 29, 30, 31, 32, 33, 34, 35, 36, 37, 38, 39]
theorem bk_pks_of {k : Nat} (h : bkPk k) : k ∈ bk_pks := by
  have h : k = 5 ∨ (28 ≤ k ∧ k ≤ 39) := h
  obtain rfl | rfl | rfl | rfl | rfl | rfl | rfl | rfl | rfl | rfl | rfl | rfl | rfl : k = 5 ∨ k = 28 ∨ k = 29 ∨ k = 30 ∨ k = 31 ∨ k = 32 ∨ k = 33 ∨ k = 34 ∨ k = 35 ∨ k = 36 ∨ k = 37 ∨ k = 38 ∨ k = 39 := by omega
  all_goals decide
/-- X and Y apart, the plains of each whole -/
def bk_apart (X Y : List (Nat × Nat)) : Bool := X.all (fun x => !(Y.contains x) && (!(Nat.beq x.1 5) || bk_pks.all (fun k => !(Y.contains (k, x.2))))) && Y.all (fun y => !(Nat.beq y.1 5) || bk_pks.all (fun k => Y.contains (k, y.2)))
theorem bk_apart_1 {X Y : List (Nat × Nat)} (h : bk_apart X Y = true) : X.all (fun x => !(Y.contains x)) = true := by
  unfold bk_apart at h
  rw [Bool.and_eq_true] at h
  refine List.all_eq_true.mpr fun x hx => ?_
  have h9 := List.all_eq_true.mp h.1 x hx
  rw [Bool.and_eq_true] at h9
  exact h9.1
theorem bk_gd_jn {sc : Nat → Int → Int} {tw : Int → Int} {X Y : List (Nat × Nat)} {M u : bk_M} (hX : bk_gd sc tw X M) (hY : bk_gd sc tw Y u) (h : bk_apart X Y = true) : bk_gd sc tw (X ++ Y) (bk_jn Y u M) := by
  obtain ⟨x1, x2, x3⟩ := hX
  obtain ⟨y1, y2, y3⟩ := hY
  have ha := bk_apart_1 h
  unfold bk_apart at h
  rw [Bool.and_eq_true] at h
  have nX : ∀ q ∈ X, Y.contains q = false := fun q hq => by
    have h9 := List.all_eq_true.mp ha q hq
    cases e : Y.contains q with
    | false => rfl
    | true => rw [e] at h9; exact absurd h9 (by decide)
  refine ⟨fun p hp => ?_, fun q hq w1 w2 j => ?_, fun i hi j => ?_⟩
  · rcases List.mem_append.mp hp with hp | hp
    · obtain ⟨w, w1, w2⟩ := x1 p hp
      refine ⟨w, w1, fun k hk j => ?_⟩
      rw [← w2 k hk j]
      refine bk_jn_n ?_ j
      have h9 := List.all_eq_true.mp h.1 _ hp
      rw [Bool.and_eq_true] at h9
      have h8 := h9.2
      dsimp only at h8
      rw [show Nat.beq 5 5 = true from rfl, Bool.not_true, Bool.false_or] at h8
      have h7 := List.all_eq_true.mp h8 k (bk_pks_of hk)
      cases e : Y.contains (k, p) with
      | false => rfl
      | true => rw [e] at h7; exact absurd h7 (by decide)
    · obtain ⟨w, w1, w2⟩ := y1 p hp
      refine ⟨w, w1, fun k hk j => ?_⟩
      rw [← w2 k hk j]
      refine bk_jn_y ?_ j
      have h8 := List.all_eq_true.mp h.2 _ hp
      dsimp only at h8
      rw [show Nat.beq 5 5 = true from rfl, Bool.not_true, Bool.false_or] at h8
      exact List.contains_iff_mem.mp (List.all_eq_true.mp h8 k (bk_pks_of hk))
  · rcases List.mem_append.mp hq with hq | hq
    · exact (bk_jn_n (nX q hq) j).trans (x2 q hq w1 w2 j)
    · exact (bk_jn_y hq j).trans (y2 q hq w1 w2 j)
  · rcases List.mem_append.mp hi with hi | hi
    · exact (bk_jn_n (nX _ hi) j).trans (x3 i hi j)
    · exact (bk_jn_y hi j).trans (y3 i hi j)
theorem bk_gd_sh {sc : Nat → Int → Int} {tw : Int → Int} {s : Nat} {L : List (Nat × Nat)} {u : bk_M} (h : bk_gd sc tw L u) : bk_gd sc tw (bk_shl s L) (bk_sh s u) := by
  obtain ⟨h1, h2, h3⟩ := h
  have key : ∀ k i, (k, i) ∈ bk_shl s L → ∃ i', i = i' + s ∧ (k, i') ∈ L := fun k i hq => by
    obtain ⟨q, a, b⟩ := List.mem_map.mp hq
    cases b
    exact ⟨q.2, rfl, a⟩
  have e : ∀ k i j, bk_sh s u k (i + s) j = u k i j := fun k i j => by
    unfold bk_sh
    rw [Nat.add_sub_cancel]
  refine ⟨fun p hp => ?_, fun q hq w1 w2 j => ?_, fun i hi j => ?_⟩
  · obtain ⟨i', rfl, a⟩ := key _ _ hp
    obtain ⟨w, w1, w2⟩ := h1 i' a
    exact ⟨w, w1, fun k hk j => (e k i' j).trans (w2 k hk j)⟩
  · obtain ⟨k, i⟩ := q
    obtain ⟨i', rfl, a⟩ := key _ _ hq
    exact (e k i' j).trans (h2 _ a w1 w2 j)
  · obtain ⟨i', rfl, a⟩ := key _ _ hi
    exact (e 54 i' j).trans (h3 _ a j)
theorem bk_gd_z {sc : Nat → Int → Int} {tw : Int → Int} {L : List (Nat × Nat)} (h : L.all (fun q => !(bk_pk q.1) && !(Nat.beq q.1 54)) = true) : bk_gd sc tw L bk_Mz := by
  refine ⟨fun p hp => ?_, fun q _ _ _ j => rfl, fun i hi j => ?_⟩
  · exact absurd (List.all_eq_true.mp h _ hp) (show ¬ (!(bk_pk 5) && !(Nat.beq 5 54)) = true by decide)
  · exact absurd (List.all_eq_true.mp h _ hi) (show ¬ (!(bk_pk 54) && !(Nat.beq 54 54)) = true by decide)
theorem bk_gd_5 {sc : Nat → Int → Int} {tw : Int → Int} {w : bk_M} (h : bk_P5 sc w) : bk_gd sc tw bk_l5 w := by
  have h5 : ∀ p, (5, p) ∈ bk_l5 → p = 0 := fun p hp => by
    simp [bk_l5] at hp
    exact hp
  refine ⟨fun p hp => ?_, fun q hq w1 _ j => ?_, fun i hi j => ?_⟩
  · rw [h5 p hp]
    exact ⟨w, h, fun _ _ _ => rfl⟩
  · have h9 : ∀ q ∈ bk_l5, bk_pk q.1 = true := by decide +kernel
    rw [h9 q hq] at w1
    cases w1
  · have h9 : ∀ i, (54, i) ∈ bk_l5 → False := fun i hi => by simp [bk_l5] at hi
    exact (h9 i hi).elim
/-! The same of the heap: lists of cells exchanged. -/
theorem bk_Yl {D : va_G} {h0 q0 : Nat} {o o' : va_E} {es es' : List va_E} {H : Heap} (hY : bk_Y D h0 q0 o es H) (ho : o = o') (h : es = es') : bk_Y D h0 q0 o' es' H := by
  rw [← ho, ← h]
  exact hY
theorem bk_zs_len : ∀ (es : List va_E) (q : Nat), (bk_zs q es).length = es.length
  | [], _ => rfl
  | _ :: es, q => congrArg (· + 1) (bk_zs_len es (q + 1))
theorem bk_ws_zs (b : Nat) (L : List (Nat × Nat)) (cA : Nat → ClassId) (M : bk_M) : bk_ws (b, L) cA M = bk_zs b (L.map (bk_en (b, L) cA M)) := by
  apply List.ext_getElem?
  intro n
  rcases Nat.lt_or_ge n L.length with hn | hn
  · rw [bk_ws_n (ba := (b, L)) hn, bk_zs_at, List.getElem?_map, List.getD_eq_getElem?_getD, List.getElem?_eq_getElem hn]
    rfl
  · rw [List.getElem?_eq_none (by rw [bk_ws, List.length_map, List.length_range]; exact hn), List.getElem?_eq_none (by rw [bk_zs_len, List.length_map]; exact hn)]
theorem vp_cell_rf {cA : ClassId} {n : Nat} {f g : Nat → Option Nat} (h : ∀ j, j < n → f j = g j) : vp_cell cA (n, .inr (.inr (.inr (.inr f)))) = vp_cell cA (n, .inr (.inr (.inr (.inr g)))) := by
  rw [vp_cell_q, vp_cell_q]
  unfold arrV
  congr 1
  apply Array.ext
  · simp
  · intro i h1 h2
    simp at h1
    simp [h i h1]
/-- an array of references told by another function that agrees -/
theorem bk_Yq {D : va_G} {h0 q0 : Nat} {o : va_E} {es es2 : List va_E} {cA : ClassId} {n : Nat} {f g : Nat → Option Nat} {H : Heap} (hY : bk_Y D h0 q0 o (es ++ .inl (cA, n, .inr (.inr (.inr (.inr f)))) :: es2) H) (h : ∀ j, j < n → f j = g j) : bk_Y D h0 q0 o (es ++ .inl (cA, n, .inr (.inr (.inr (.inr g)))) :: es2) H := by
  obtain ⟨y1, y2, y3⟩ := hY
  refine ⟨by rw [y1, List.length_append, List.length_append]; rfl, ?_, y3⟩
  rw [bk_zs_app2, ← List.cons_append] at y2 ⊢
  intro k q hq
  have hy := y2 k
  rcases Nat.lt_or_ge k ((h0, o) :: bk_zs q0 es).length with w | w
  · rw [List.getElem?_append_left w] at hq hy
    exact hy q hq
  · rw [List.getElem?_append_right w] at hq hy
    cases hk : k - ((h0, o) :: bk_zs q0 es).length with
    | zero =>
      rw [hk] at hq hy
      cases hq
      have hy := hy _ rfl
      show H[_]? = some (vp_cell _ _)
      rw [← vp_cell_rf h]
      exact hy
    | succ z =>
      rw [hk] at hq hy
      exact hy q hq
