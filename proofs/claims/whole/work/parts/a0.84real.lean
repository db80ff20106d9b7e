/-! What the numbers stand for on the heap. ba: where the cells begin; b0: the script's cell; aK: the texts' cells; cA: the array classes; sc: the script. -/
def bk_find (q : Nat × Nat) : List (Nat × Nat) → Nat
  | [] => 0
  | x :: l => if x = q then 0 else bk_find q l + 1
theorem bk_find_at {q : Nat × Nat} : ∀ {l : List (Nat × Nat)}, q ∈ l → l[bk_find q l]? = some q
  | [], h => nomatch h
  | x :: l, h => by
    unfold bk_find
    by_cases e : x = q
    · rw [if_pos e, e]; rfl
    · rw [if_neg e, List.getElem?_cons_succ]
      exact bk_find_at ((List.mem_cons.mp h).resolve_left fun z => e z.symm)
/-- where the cells begin, and which they are, in their order -/
abbrev bk_B : Type := Nat × List (Nat × Nat)
/-- what must hold of such a list -/
def bk_Lay (ba : bk_B) : Prop := ba.2.Nodup ∧ (∀ q ∈ ba.2, q.1 < 13 ∨ 16 ≤ q.1) ∧ (∀ q ∈ ba.2, q.1 < 13 → ∀ j, j < bk_n q.1 → bk_fd q.1 j % 8 = 2 → (bk_fd q.1 j / 8 % 128, q.2 + bk_fd q.1 j / 1024) ∈ ba.2) ∧ (∀ q ∈ ba.2, bk_so q.1 = 3 → 16 ≤ q.1 → ∀ j, j < (bk_sz q.1).toNat → ((bk_aa q.1).1, (bk_aa q.1).2 + j) ∈ ba.2) ∧ (∀ q ∈ ba.2, bk_so q.1 = 3 → 16 ≤ q.1 → q.1 = 27 ∨ q.1 = 55)
def bk_off (ba : bk_B) (k i : Nat) : Nat := bk_find (k, i) ba.2
theorem bk_off_at {ba : bk_B} {k i : Nat} (h : (k, i) ∈ ba.2) : ba.2[bk_off ba k i]? = some (k, i) := bk_find_at h
theorem bk_off_lt {ba : bk_B} {k i : Nat} (h : (k, i) ∈ ba.2) : bk_off ba k i < ba.2.length := (List.getElem?_eq_some_iff.mp (bk_off_at h)).1
theorem bk_off_one {ba : bk_B} (hL : bk_Lay ba) {k i n : Nat} (h : ba.2[n]? = some (k, i)) : n = bk_off ba k i := by
  obtain ⟨h1, h2⟩ := List.getElem?_eq_some_iff.mp h
  obtain ⟨h3, h4⟩ := List.getElem?_eq_some_iff.mp (bk_off_at (List.mem_of_getElem? h))
  exact (List.getElem_inj hL.1).mp (h2.trans h4.symm)
def bk_ad (ba : bk_B) (b0 : Nat) (aK : Nat → Nat) (k i : Nat) : Nat := if k = 13 then b0 else if k = 14 then aK i else ba.1 + bk_off ba k i
def bk_rv (ba : bk_B) (b0 : Nat) (aK : Nat → Nat) (v : bk_V) : Value := match v with
  | .inl z => .int (Int32.ofInt z)
  | .inr (.inl z) => .long (Int64.ofInt z)
  | .inr (.inr c) => .ref (bk_ad ba b0 aK c.1 c.2)
def bk_fv (ba : bk_B) (M : bk_M) (k i j : Nat) : Value := match bk_fd k j % 8 with
  | 1 => .long (Int64.ofInt (M k i j))
  | 2 => .ref (ba.1 + bk_off ba (bk_fd k j / 8 % 128) (i + bk_fd k j / 1024))
  | 3 => .ref (ba.1 + bk_off ba (bk_fd k j / 8 % 128) (M k i j).toNat)
  | _ => .int (Int32.ofInt (M k i j))
def bk_tys (cA : Nat → ClassId) : List (ClassId × FieldType) := [(cA 0, .int), (cA 1, .long), (cA 2, .boolean), (cA 3, .object "BanksDealt$Plain"), (cA 4, .object "BanksDealt$Image")]
def bk_en (ba : bk_B) (cA : Nat → ClassId) (M : bk_M) (q : Nat × Nat) : va_E := if q.1 < 13 then .inr (q.1, (List.range (bk_n q.1)).map (bk_fv ba M q.1 q.2)) else match bk_so q.1 with
  | 0 => .inl (cA 0, (bk_sz q.1).toNat, .inl (fun j => Int32.ofInt (M q.1 q.2 j)))
  | 1 => .inl (cA 1, (bk_sz q.1).toNat, .inr (.inl (fun j => Int64.ofInt (M q.1 q.2 j))))
  | 2 => .inl (cA 2, (bk_sz q.1).toNat, .inl (fun j => Int32.ofInt (M q.1 q.2 j)))
  | _ => .inl (cA (if q.1 = 27 then 3 else 4), (bk_sz q.1).toNat, .inr (.inr (.inr (.inr (fun j => some (ba.1 + bk_off ba (bk_aa q.1).1 ((bk_aa q.1).2 + j)))))))
theorem bk_en_eq {ba : bk_B} {cA : Nat → ClassId} {M M' : bk_M} {k i : Nat} (h : ∀ j, M k i j = M' k i j) : bk_en ba cA M (k, i) = bk_en ba cA M' (k, i) := by
  unfold bk_en
  simp only [h]
  have : bk_fv ba M k i = bk_fv ba M' k i := by funext j; unfold bk_fv; simp only [h]
  rw [this]
def bk_ws (ba : bk_B) (cA : Nat → ClassId) (M : bk_M) : va_W := (List.range ba.2.length).map fun n => (ba.1 + n, bk_en ba cA M (ba.2.getD n (0, 0)))
theorem bk_ws_n {ba : bk_B} {cA : Nat → ClassId} {M : bk_M} {n : Nat} (h : n < ba.2.length) : (bk_ws ba cA M)[n]? = some (ba.1 + n, bk_en ba cA M (ba.2.getD n (0, 0))) := by
  simp [bk_ws, h]
theorem bk_ws_at {ba : bk_B} {cA : Nat → ClassId} {M : bk_M} {k i : Nat} (h : (k, i) ∈ ba.2) : (bk_ws ba cA M)[bk_off ba k i]? = some (ba.1 + bk_off ba k i, bk_en ba cA M (k, i)) := by
  rw [bk_ws_n (bk_off_lt h), List.getD_eq_getElem?_getD, bk_off_at h]; rfl
theorem bk_ws_set {ba : bk_B} (hL : bk_Lay ba) {cA : Nat → ClassId} {M M' : bk_M} {k i : Nat} (h : (k, i) ∈ ba.2) (hM : ∀ k' i' j, (k', i') ≠ (k, i) → M' k' i' j = M k' i' j) : (bk_ws ba cA M).set (bk_off ba k i) (ba.1 + bk_off ba k i, bk_en ba cA M' (k, i)) = bk_ws ba cA M' := by
  apply List.ext_getElem?
  intro n
  rw [List.getElem?_set]
  by_cases e : bk_off ba k i = n
  · subst e
    rw [if_pos rfl, bk_ws_at h, if_pos (by rw [bk_ws, List.length_map, List.length_range]; exact bk_off_lt h)]
  · rw [if_neg e]
    rcases Nat.lt_or_ge n ba.2.length with hn | hn
    · rw [bk_ws_n hn, bk_ws_n hn]
      have h1 : n < ba.2.length := hn
      have h2 : ba.2[n]? = some ba.2[n] := List.getElem?_eq_getElem h1
      have h3 : ba.2.getD n (0, 0) = ba.2[n] := by rw [List.getD_eq_getElem?_getD, h2]; rfl
      rw [h3]
      congr 2
      refine bk_en_eq fun j => (hM _ _ j fun z => e ?_).symm
      exact (bk_off_one hL (n := n) (h2.trans (congrArg some (show ba.2[n] = (k, i) from z)))).symm
    · simp [bk_ws, hn]
def bk_A (ba : bk_B) : Nat → Prop := fun q => ba.1 ≤ q ∧ q < ba.1 + ba.2.length
theorem bk_ws_D {ba : bk_B} {cA : Nat → ClassId} {M : bk_M} : va_D (bk_A ba) (bk_ws ba cA M) := by
  have key : ∀ (n : Nat) (q : Nat × va_E), (bk_ws ba cA M)[n]? = some q → n < ba.2.length ∧ q.1 = ba.1 + n := by
    intro n q h
    have h1 : n < ba.2.length := by
      have := (List.getElem?_eq_some_iff.mp h).1
      rwa [bk_ws, List.length_map, List.length_range] at this
    rw [bk_ws_n h1] at h
    exact ⟨h1, by rw [← Option.some.inj h]⟩
  refine ⟨fun i j p q hp hq e => ?_, fun n q h => ?_⟩
  · have h1 := (key i p hp).2
    have h2 := (key j q hq).2
    omega
  · obtain ⟨h1, h2⟩ := key n q h
    unfold bk_A
    omega
def bk_okv (ba : bk_B) (v : bk_V) : Prop := match v with
  | .inl z => bk_r32 z
  | .inr (.inl z) => bk_r64 z
  | .inr (.inr (k, i)) => k = 13 ∨ (k = 14 ∧ i < 4) ∨ (k, i) ∈ ba.2
def bk_okm (ba : bk_B) (M : bk_M) : Prop :=
  (∀ k i j, (k, i) ∈ ba.2 → k < 13 → j < bk_n k → match bk_fd k j % 8 with
    | 1 => bk_r64 (M k i j)
    | 2 => True
    | 3 => (bk_fd k j / 8 % 128, (M k i j).toNat) ∈ ba.2
    | _ => bk_r32 (M k i j)) ∧
  (∀ (k i : Nat) (j : Int), (k, i) ∈ ba.2 → 13 ≤ k → 0 ≤ j → j < bk_sz k → match bk_so k with
    | 1 => bk_r64 (M k i j)
    | 3 => True
    | _ => bk_r32 (M k i j)) ∧
  (0 ≤ M 13 1 0 ∧ M 13 1 0 ≤ 2147483647 ∧ ∀ j, 0 ≤ j → j < M 13 1 0 → bk_r32 (M 13 0 j))
/-- the locals, as the kit lists them -/
def bk_al (ba : bk_B) (b0 : Nat) (aK : Nat → Nat) (ls : List bk_V) : List (Nat × Value) := (List.range ls.length).filterMap fun n => match ls[n]? with
  | some v => if v = bk_x then none else some (n, bk_rv ba b0 aK v)
  | none => none
theorem bk_al_mem {ba : bk_B} {b0 : Nat} {aK : Nat → Nat} {ls : List bk_V} {q : Nat × Value} : q ∈ bk_al ba b0 aK ls ↔ ∃ v, ls[q.1]? = some v ∧ v ≠ bk_x ∧ q.2 = bk_rv ba b0 aK v := by
  unfold bk_al
  rw [List.mem_filterMap]
  constructor
  · rintro ⟨n, -, h⟩
    split at h
    · rename_i v hv
      by_cases e : v = bk_x
      · rw [if_pos e] at h; cases h
      · rw [if_neg e] at h; cases h; exact ⟨v, hv, e, rfl⟩
    · cases h
  · rintro ⟨v, h1, h2, h3⟩
    refine ⟨q.1, List.mem_range.mpr (List.getElem?_eq_some_iff.mp h1).1, ?_⟩
    rw [h1]
    show (if v = bk_x then none else some (q.1, bk_rv ba b0 aK v)) = some q
    rw [if_neg h2, ← h3]
theorem bk_nth_eq : ∀ (n : Nat) (ls : List bk_V), bk_nth n ls = ls[n]?
  | _, [] => by simp [bk_nth]
  | 0, _ :: _ => rfl
  | n + 1, _ :: l => by rw [bk_nth, bk_nth_eq n l]; rfl
theorem bk_at {ba : bk_B} {b0 nL : Nat} {aK : Nat → Nat} {ls : List bk_V} {lsr : Array Slot} (h : lv_has lsr nL (bk_al ba b0 aK ls)) {n : Nat} {v : bk_V} (hv : bk_nth n ls = some v) (hx : v ≠ bk_x) : lsr[n]? = some (.val (bk_rv ba b0 aK v)) :=
  h.2.2 (n, bk_rv ba b0 aK v) (bk_al_mem.mpr ⟨v, by rw [← bk_nth_eq]; exact hv, hx, rfl⟩)
theorem bk_set_len : ∀ (n : Nat) (v : bk_V) (ls : List bk_V), (bk_set n v ls).length = ls.length
  | _, _, [] => by simp [bk_set]
  | 0, v, w :: l => by
    cases l with
    | nil => rcases v with z | z | z <;> simp [bk_set]
    | cons u l => rcases v with z | z | z <;> simp [bk_set]
  | 1, v, w :: l => by
    rcases w with z | z | z <;> simp [bk_set, bk_set_len 0 v l]
  | n + 2, v, w :: l => by
    have := bk_set_len (n + 1) v l
    simp [bk_set, this]
/-- what stands in the locals behind a store -/
theorem bk_set_at : ∀ (n : Nat) (v : bk_V) (ls : List bk_V) (j : Nat) (w : bk_V), (bk_set n v ls)[j]? = some w → w ≠ bk_x →
    (j = n ∧ w = v) ∨ (j ≠ n ∧ ls[j]? = some w ∧ (j + 1 = n → ∀ z, w ≠ .inr (.inl z)) ∧ (∀ z, v = .inr (.inl z) → j ≠ n + 1))
  | _, _, [], j, w, h, _ => by simp [bk_set] at h
  | 0, v, u :: l, j, w, h, hx => by
    rcases v with z | z | z
    · have h : ((.inl z : bk_V) :: l)[j]? = some w := by cases l <;> exact h
      cases j with
      | zero => left; simp at h; exact ⟨rfl, h.symm⟩
      | succ j => right; exact ⟨by omega, by simpa using h, by omega, fun z' e => by cases e⟩
    · cases l with
      | nil =>
        have h : ([.inr (.inl z)] : List bk_V)[j]? = some w := h
        cases j with
        | zero => left; simp at h; exact ⟨rfl, h.symm⟩
        | succ j => simp at h
      | cons y l =>
        have h : ((.inr (.inl z) : bk_V) :: bk_x :: l)[j]? = some w := h
        match j, h with
        | 0, h => left; simp at h; exact ⟨rfl, h.symm⟩
        | 1, h => simp at h; exact absurd h.symm hx
        | j + 2, h => right; exact ⟨by omega, by simpa using h, by omega, fun _ _ => by omega⟩
    · have h : ((.inr (.inr z) : bk_V) :: l)[j]? = some w := by cases l <;> exact h
      cases j with
      | zero => left; simp at h; exact ⟨rfl, h.symm⟩
      | succ j => right; exact ⟨by omega, by simpa using h, by omega, fun z' e => by cases e⟩
  | 1, v, u :: l, j, w, h, hx => by
    have h2 : ((match u with | .inr (.inl _) => bk_x | _ => u) :: bk_set 0 v l)[j]? = some w := by
      rcases u with z | z | z <;> exact h
    cases j with
    | zero =>
      right
      simp only [List.getElem?_cons_zero, Option.some.injEq] at h2
      refine ⟨by omega, ?_, fun _ z e => ?_, fun _ _ => by omega⟩
      · rcases u with z | z | z
        · simpa using h2
        · exact absurd h2.symm hx
        · simpa using h2
      · rcases u with z' | z' | z'
        · rw [← h2] at e; cases e
        · exact hx h2.symm
        · rw [← h2] at e; cases e
    | succ j =>
      rw [List.getElem?_cons_succ] at h2
      rcases bk_set_at 0 v l j w h2 hx with ⟨a, b⟩ | ⟨a, b, c, d⟩
      · left; exact ⟨by omega, b⟩
      · right; exact ⟨by omega, by simpa using b, fun e => by omega, fun z e => by have := d z e; omega⟩
  | n + 2, v, u :: l, j, w, h, hx => by
    have h : (u :: bk_set (n + 1) v l)[j]? = some w := h
    cases j with
    | zero => right; exact ⟨by omega, by simpa using h, by omega, fun _ _ => by omega⟩
    | succ j =>
      rw [List.getElem?_cons_succ] at h
      rcases bk_set_at (n + 1) v l j w h hx with ⟨a, b⟩ | ⟨a, b, c, d⟩
      · left; exact ⟨by omega, b⟩
      · right; exact ⟨by omega, by simpa using b, fun e => c (by omega), fun z e => by have := d z e; omega⟩
theorem bk_set_mem {n : Nat} {v : bk_V} {ls : List bk_V} {P : bk_V → Prop} (hv : v ≠ bk_x → P v) (hl : ∀ w ∈ ls, w ≠ bk_x → P w) : ∀ w ∈ bk_set n v ls, w ≠ bk_x → P w := by
  intro w hw hx
  obtain ⟨j, hj⟩ := List.getElem?_of_mem hw
  rcases bk_set_at n v ls j w hj hx with ⟨-, rfl⟩ | ⟨-, b, -, -⟩
  · exact hv hx
  · exact hl w (List.mem_of_getElem? b) hx
theorem bk_rv_cat {ba : bk_B} {b0 : Nat} {aK : Nat → Nat} {v : bk_V} : ((bk_rv ba b0 aK v).category = 2) ↔ ∃ z, v = .inr (.inl z) := by
  rcases v with z | z | z
  · simp [bk_rv, Value.category]
  · simp [bk_rv, Value.category]
  · simp [bk_rv, Value.category]
theorem bk_rv_cat1 {ba : bk_B} {b0 : Nat} {aK : Nat → Nat} {v : bk_V} (h : ∀ z, v ≠ .inr (.inl z)) : (bk_rv ba b0 aK v).category = 1 := by
  rcases v with z | z | z
  · rfl
  · exact absurd rfl (h z)
  · rfl
/-- a store of one slot, and the locals listed anew -/
theorem bk_store1 {ba : bk_B} {b0 nL : Nat} {aK : Nat → Nat} {ls : List bk_V} {n : Nat} {v : bk_V} {l' : Array Slot} (hc : ∀ z, v ≠ .inr (.inl z))
    (h : lv_has l' nL ((n, bk_rv ba b0 aK v) :: (bk_al ba b0 aK ls).filter (fun q => !(q.1 == n) && !(q.1 + 1 == n && q.2.category == 2)))) : lv_has l' nL (bk_al ba b0 aK (bk_set n v ls)) := by
  refine ⟨h.1, h.2.1, fun q hq => h.2.2 q ?_⟩
  obtain ⟨w, h1, h2, h3⟩ := bk_al_mem.mp hq
  rcases bk_set_at n v ls q.1 w h1 h2 with ⟨a, b⟩ | ⟨a, b, c, -⟩
  · rw [List.mem_cons]; left; rw [← b, ← a, ← h3]
  · rw [List.mem_cons]; right
    refine List.mem_filter.mpr ⟨bk_al_mem.mpr ⟨w, b, h2, h3⟩, ?_⟩
    have h4 : (q.1 == n) = false := by simpa using a
    rw [h4]
    simp only [Bool.not_false, Bool.true_and, Bool.not_eq_true', Bool.and_eq_false_iff, beq_eq_false_iff_ne]
    by_cases e : q.1 + 1 = n
    · right; rw [h3]; intro z; obtain ⟨y, hy⟩ := bk_rv_cat.mp z; exact c e y hy
    · left; exact e
theorem bk_store2 {ba : bk_B} {b0 nL : Nat} {aK : Nat → Nat} {ls : List bk_V} {n : Nat} {z : Int} {l' : Array Slot}
    (h : lv_has l' nL ((n, bk_rv ba b0 aK (.inr (.inl z))) :: (bk_al ba b0 aK ls).filter (fun q => !(q.1 == n) && (!(q.1 == n + 1) && !(q.1 + 1 == n && q.2.category == 2))))) : lv_has l' nL (bk_al ba b0 aK (bk_set n (.inr (.inl z)) ls)) := by
  refine ⟨h.1, h.2.1, fun q hq => h.2.2 q ?_⟩
  obtain ⟨w, h1, h2, h3⟩ := bk_al_mem.mp hq
  rcases bk_set_at n _ ls q.1 w h1 h2 with ⟨a, b⟩ | ⟨a, b, c, d⟩
  · rw [List.mem_cons]; left; rw [← b, ← a, ← h3]
  · rw [List.mem_cons]; right
    refine List.mem_filter.mpr ⟨bk_al_mem.mpr ⟨w, b, h2, h3⟩, ?_⟩
    have h4 : (q.1 == n) = false := by simpa using a
    have h5 : (q.1 == n + 1) = false := by simpa using d z rfl
    rw [h4, h5]
    simp only [Bool.not_false, Bool.true_and, Bool.not_eq_true', Bool.and_eq_false_iff, beq_eq_false_iff_ne]
    by_cases e : q.1 + 1 = n
    · right; rw [h3]; intro y; obtain ⟨y, hy⟩ := bk_rv_cat.mp y; exact c e y hy
    · left; exact e
theorem bk_take_eq : ∀ (n : Nat) (acc st as rest : List bk_V), bk_take n acc st = some (as, rest) → ∃ l, st = l ++ rest ∧ as = l.reverse ++ acc ∧ l.length = n
  | 0, acc, st, as, rest, h => by simp [bk_take] at h; exact ⟨[], by simp [h.2], by simp [h.1], rfl⟩
  | n + 1, acc, [], as, rest, h => by simp [bk_take] at h
  | n + 1, acc, v :: st, as, rest, h => by
    obtain ⟨l, h1, h2, h3⟩ := bk_take_eq n (v :: acc) st as rest h
    exact ⟨v :: l, by rw [h1]; rfl, by rw [h2]; simp, by simp [h3]⟩
