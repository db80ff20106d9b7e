/-! ran: the first of the beds, and the sure rows. -/
theorem bkFl_head {ok : Int → Int → Bool} {H : Int} {n : Nat} : ∀ (k : Nat) (lo : Int) (t : List Int), (bkFl ok H n lo k).head? = some t → ∃ x t', lo ≤ x ∧ x < lo + k ∧ (∀ z, lo ≤ z → z < x → bkSt ok H n z = []) ∧ t = x :: t' ∧ (bkFo ok H n x).head? = some t' ∧ ok (H - 1 - n) x = true
  | 0, lo, t, h => absurd h (by simp [bkFl])
  | k + 1, lo, t, h => by
    rw [bkFl_cons, List.head?_append] at h
    cases hs : bkSt ok H n lo with
    | nil =>
      rw [hs] at h
      have h : (bkFl ok H n (lo + 1) k).head? = some t := h
      obtain ⟨x, t', a1, a2, a3, a4⟩ := bkFl_head k (lo + 1) t h
      refine ⟨x, t', by omega, by omega, fun z q1 q2 => ?_, a4⟩
      by_cases e : z = lo
      · rw [e]; exact hs
      · exact a3 z (by omega) q2
    | cons a A =>
      rw [hs] at h
      have h : some a = some t := h
      have ha : a = t := by simpa using h
      unfold bkSt at hs
      by_cases ho : ok (H - 1 - n) lo = true
      · rw [if_pos ho] at hs
        cases hf : bkFo ok H n lo with
        | nil => rw [hf] at hs; exact absurd hs (by simp)
        | cons b B =>
          rw [hf] at hs
          have hb : lo :: b = a := by simp at hs; exact hs.1
          exact ⟨lo, b, Int.le_refl _, by omega, fun z q1 q2 => absurd q1 (by omega), by rw [← ha, ← hb], by rw [hf]; rfl, ho⟩
      · rw [if_neg ho] at hs
        exact absurd hs (by simp)
def bkIsB (ok : Int → Int → Bool) (H : Int) : Nat → Int → List Int → Prop
  | 0, _, l => l = []
  | n + 1, x, l => ∃ x' t, l = x' :: t ∧ x - 1 ≤ x' ∧ x' ≤ x + 1 ∧ ok (H - 1 - n) x' = true ∧ bkIsB ok H n x' t
theorem bkSt_mem {ok : Int → Int → Bool} {H : Int} {n : Nat} {x : Int} {l : List Int} : l ∈ bkSt ok H n x ↔ ok (H - 1 - n) x = true ∧ ∃ t, t ∈ bkFo ok H n x ∧ l = x :: t := by
  unfold bkSt
  by_cases h : ok (H - 1 - n) x = true
  · rw [if_pos h, List.mem_map]
    exact ⟨fun ⟨t, ht, e⟩ => ⟨h, t, ht, e.symm⟩, fun ⟨_, t, ht, e⟩ => ⟨t, ht, e.symm⟩⟩
  · rw [if_neg h]
    exact ⟨fun q => absurd q (by simp), fun q => absurd q.1 h⟩
theorem bkFo_mem {ok : Int → Int → Bool} {H : Int} : ∀ (n : Nat) (x : Int) (l : List Int), l ∈ bkFo ok H n x ↔ bkIsB ok H n x l
  | 0, x, l => by
    show l ∈ [[]] ↔ l = []
    exact List.mem_singleton
  | n + 1, x, l => by
    rw [bkFo_s, List.mem_append, List.mem_append, bkSt_mem, bkSt_mem, bkSt_mem]
    show _ ↔ ∃ x' t, l = x' :: t ∧ x - 1 ≤ x' ∧ x' ≤ x + 1 ∧ ok (H - 1 - n) x' = true ∧ bkIsB ok H n x' t
    constructor
    · rintro (⟨h, t, ht, e⟩ | ⟨h, t, ht, e⟩ | ⟨h, t, ht, e⟩)
      · exact ⟨x - 1, t, e, by omega, by omega, h, (bkFo_mem n _ t).1 ht⟩
      · exact ⟨x, t, e, by omega, by omega, h, (bkFo_mem n _ t).1 ht⟩
      · exact ⟨x + 1, t, e, by omega, by omega, h, (bkFo_mem n _ t).1 ht⟩
    · rintro ⟨x', t, e, h0, h1, h, ht⟩
      have ht := (bkFo_mem n x' t).2 ht
      have hx : x' = x - 1 ∨ x' = x ∨ x' = x + 1 := by omega
      rcases hx with rfl | rfl | rfl
      · exact .inl ⟨h, t, ht, e⟩
      · exact .inr (.inl ⟨h, t, ht, e⟩)
      · exact .inr (.inr ⟨h, t, ht, e⟩)
theorem bkFl_mem {ok : Int → Int → Bool} {H : Int} {n : Nat} : ∀ (k : Nat) (lo : Int) (l : List Int), l ∈ bkFl ok H n lo k ↔ ∃ x, lo ≤ x ∧ x < lo + k ∧ l ∈ bkSt ok H n x
  | 0, lo, l => ⟨fun h => absurd h (by simp [bkFl]), fun ⟨x, h0, h1, _⟩ => absurd h0 (by omega)⟩
  | k + 1, lo, l => by
    rw [bkFl_cons, List.mem_append, bkFl_mem k (lo + 1) l]
    constructor
    · rintro (h | ⟨x, h0, h1, h⟩)
      · exact ⟨lo, Int.le_refl _, by omega, h⟩
      · exact ⟨x, by omega, by omega, h⟩
    · rintro ⟨x, h0, h1, h⟩
      by_cases e : x = lo
      · rw [e] at h; exact .inl h
      · exact .inr ⟨x, by omega, by omega, h⟩
/-- a way to x in row y -/
def bkPr (ok : Int → Int → Bool) : Nat → List Int → Int → Prop
  | 0, pre, x => pre = [] ∧ ok 0 x = true
  | y + 1, pre, x => ∃ p x', pre = p ++ [x'] ∧ x' - 1 ≤ x ∧ x ≤ x' + 1 ∧ ok ((y + 1 : Nat) : Int) x = true ∧ bkPr ok y p x'
theorem bkPr_len {ok : Int → Int → Bool} : ∀ (y : Nat) (pre : List Int) (x : Int), bkPr ok y pre x → pre.length = y ∧ ok y x = true
  | 0, pre, x, h => ⟨by rw [h.1]; rfl, h.2⟩
  | y + 1, pre, x, ⟨p, x', e, _, _, h, hp⟩ => ⟨by rw [e, List.length_append, (bkPr_len y p x' hp).1]; rfl, h⟩
theorem bkAll_split {N T : Int → Int} {c : Int} (h3 : 2 ≤ N 3) {b : List Int} (hb : b ∈ bkAll N T c) : ∀ y : Nat, (y : Int) < N 3 → ∃ pre x t, b = pre ++ x :: t ∧ bkPr (bkOkR N T (c / 2).toNat) y pre x ∧ bkIsB (bkOkR N T (c / 2).toNat) (N 3) (N 3 - 1 - y).toNat x t
  | 0, _ => by
    unfold bkAll at hb
    rw [bkFl_mem] at hb
    obtain ⟨x, -, -, hx⟩ := hb
    rw [bkSt_mem] at hx
    obtain ⟨h, t, ht, e⟩ := hx
    rw [show N 3 - 1 - (((N 3 - 1).toNat : Nat) : Int) = 0 by omega] at h
    refine ⟨[], x, t, e, ⟨rfl, h⟩, ?_⟩
    rw [show N 3 - 1 - ((0 : Nat) : Int) = N 3 - 1 by omega]
    exact (bkFo_mem _ _ _).1 ht
  | y + 1, hy => by
    obtain ⟨pre, x, t, e, hp, ht⟩ := bkAll_split h3 hb y (by omega)
    rw [show (N 3 - 1 - (y : Int)).toNat = (N 3 - 1 - ((y + 1 : Nat) : Int)).toNat + 1 by omega] at ht
    obtain ⟨x', t', e2, h0, h1, h, ht'⟩ := ht
    rw [show N 3 - 1 - (((N 3 - 1 - ((y + 1 : Nat) : Int)).toNat : Nat) : Int) = ((y + 1 : Nat) : Int) by omega] at h
    exact ⟨pre ++ [x], x', t', by rw [e, e2, List.append_assoc]; rfl, ⟨pre, x, rfl, h0, h1, h, hp⟩, ht'⟩
theorem bkAll_join {N T : Int → Int} {c : Int} (h3 : 2 ≤ N 3) : ∀ (y : Nat), (y : Int) < N 3 → ∀ (pre : List Int) (x : Int) (t : List Int), bkPr (bkOkR N T (c / 2).toNat) y pre x → bkIsB (bkOkR N T (c / 2).toNat) (N 3) (N 3 - 1 - y).toNat x t → pre ++ x :: t ∈ bkAll N T c
  | 0, _, pre, x, t, hp, ht => by
    rw [show N 3 - 1 - ((0 : Nat) : Int) = N 3 - 1 by omega] at ht
    unfold bkAll
    rw [bkFl_mem]
    have hx : 0 ≤ x ∧ x < N 2 := by
      have := hp.2
      unfold bkOkR at this
      rw [Bool.and_eq_true, decide_eq_true_eq] at this
      exact this.1
    refine ⟨x, hx.1, by omega, ?_⟩
    rw [bkSt_mem, hp.1]
    exact ⟨by rw [show N 3 - 1 - (((N 3 - 1).toNat : Nat) : Int) = 0 by omega]; exact hp.2, t, (bkFo_mem _ _ _).2 ht, rfl⟩
  | y + 1, hy, pre, x, t, ⟨p, x', e, h0, h1, h, hp⟩, ht => by
    have := bkAll_join h3 y (by omega) p x' (x :: t) hp (by
      rw [show (N 3 - 1 - (y : Int)).toNat = (N 3 - 1 - ((y + 1 : Nat) : Int)).toNat + 1 by omega]
      exact ⟨x, t, rfl, h0, h1, by rw [show N 3 - 1 - (((N 3 - 1 - ((y + 1 : Nat) : Int)).toNat : Nat) : Int) = ((y + 1 : Nat) : Int) by omega]; exact h, ht⟩)
    rw [e, List.append_assoc]
    exact this
/-- some bed has x in row y -/
def bkHas (N T : Int → Int) (c : Int) (y : Nat) (x : Int) : Prop := ∃ b, b ∈ bkAll N T c ∧ b.getD y 0 = x
theorem bk_getD_mid (pre : List Int) (x : Int) (t : List Int) : (pre ++ x :: t).getD pre.length 0 = x := by simp
theorem bkHas_iff {N T : Int → Int} {c : Int} (h3 : 2 ≤ N 3) {y : Nat} (hy : (y : Int) < N 3) {x : Int} : bkHas N T c y x ↔ (∃ pre, bkPr (bkOkR N T (c / 2).toNat) y pre x) ∧ bkSt (bkOkR N T (c / 2).toNat) (N 3) (N 3 - 1 - y).toNat x ≠ [] := by
  constructor
  · rintro ⟨b, hb, e⟩
    obtain ⟨pre, x', t, e1, hp, ht⟩ := bkAll_split h3 hb y hy
    have hl := bkPr_len y pre x' hp
    have : x' = x := by rw [← e, e1, ← hl.1, bk_getD_mid]
    subst this
    refine ⟨⟨pre, hp⟩, fun q => ?_⟩
    have hm : x' :: t ∈ bkSt (bkOkR N T (c / 2).toNat) (N 3) (N 3 - 1 - y).toNat x' := by
      rw [bkSt_mem]
      refine ⟨?_, t, (bkFo_mem _ _ _).2 ht, rfl⟩
      rw [show N 3 - 1 - (((N 3 - 1 - (y : Int)).toNat : Nat) : Int) = y by omega]
      exact hl.2
    rw [q] at hm
    exact absurd hm (by simp)
  · rintro ⟨⟨pre, hp⟩, hs⟩
    obtain ⟨l, hl⟩ := List.exists_mem_of_ne_nil _ hs
    rw [bkSt_mem] at hl
    obtain ⟨-, t, ht, -⟩ := hl
    refine ⟨pre ++ x :: t, bkAll_join h3 y hy pre x t hp ((bkFo_mem _ _ _).1 ht), ?_⟩
    have := (bkPr_len y pre x hp).1
    rw [← this, bk_getD_mid]
theorem bkHas_0 {N T : Int → Int} {c : Int} (h3 : 2 ≤ N 3) {x : Int} : bkHas N T c 0 x ↔ bkSt (bkOkR N T (c / 2).toNat) (N 3) (N 3 - 1).toNat x ≠ [] := by
  rw [bkHas_iff h3 (by omega), show N 3 - 1 - ((0 : Nat) : Int) = N 3 - 1 by omega]
  refine ⟨fun h => h.2, fun h => ⟨⟨[], rfl, ?_⟩, h⟩⟩
  refine Classical.byContradiction fun q => h ?_
  unfold bkSt
  rw [show N 3 - 1 - (((N 3 - 1).toNat : Nat) : Int) = 0 by omega, if_neg q]
theorem bkHas_s {N T : Int → Int} {c : Int} (h3 : 2 ≤ N 3) {y : Nat} (hy : ((y + 1 : Nat) : Int) < N 3) {x : Int} : bkHas N T c (y + 1) x ↔ bkSt (bkOkR N T (c / 2).toNat) (N 3) (N 3 - 1 - ((y + 1 : Nat) : Int)).toNat x ≠ [] ∧ ∃ x', x - 1 ≤ x' ∧ x' ≤ x + 1 ∧ bkHas N T c y x' := by
  rw [bkHas_iff h3 hy]
  have hrow : N 3 - 1 - (((N 3 - 1 - ((y + 1 : Nat) : Int)).toNat : Nat) : Int) = ((y + 1 : Nat) : Int) := by omega
  have hn : (N 3 - 1 - (y : Int)).toNat = (N 3 - 1 - ((y + 1 : Nat) : Int)).toNat + 1 := by omega
  constructor
  · rintro ⟨⟨pre, p, x', e, h0, h1, h, hp⟩, hs⟩
    refine ⟨hs, x', by omega, by omega, ?_⟩
    obtain ⟨l, hl⟩ := List.exists_mem_of_ne_nil _ hs
    rw [bkSt_mem] at hl
    obtain ⟨hok, t, ht, -⟩ := hl
    refine ⟨p ++ x' :: (x :: t), bkAll_join h3 y (by omega) p x' (x :: t) hp ?_, ?_⟩
    · rw [hn]
      exact ⟨x, t, rfl, h0, h1, hok, (bkFo_mem _ _ _).1 ht⟩
    · have := (bkPr_len y p x' hp).1
      rw [← this, bk_getD_mid]
  · rintro ⟨hs, x', h0, h1, hx'⟩
    rw [bkHas_iff h3 (by omega)] at hx'
    obtain ⟨⟨p, hp⟩, -⟩ := hx'
    refine ⟨⟨p ++ [x'], p, x', rfl, by omega, by omega, ?_, hp⟩, hs⟩
    refine Classical.byContradiction fun q => hs ?_
    unfold bkSt
    rw [hrow, if_neg q]
theorem bkHas_in {N T : Int → Int} {c : Int} (h3 : 2 ≤ N 3) {y : Nat} (hy : (y : Int) < N 3) {x : Int} (h : bkHas N T c y x) : 0 ≤ x ∧ x < N 2 := by
  obtain ⟨⟨pre, hp⟩, -⟩ := (bkHas_iff h3 hy).1 h
  have := (bkPr_len y pre x hp).2
  unfold bkOkR at this
  rw [Bool.and_eq_true, decide_eq_true_eq] at this
  exact this.1
/-- one X in row y for all beds -/
theorem bkSu_one {X : List (List Int)} {y : Nat} {v : Int} (h : X ≠ []) (h1 : ∀ b, b ∈ X → b.getD y 0 = v) : bkSu X y = v := by
  cases X with
  | nil => exact absurd rfl h
  | cons b X =>
    show (if X.all (fun c => decide (c.getD y 0 = b.getD y 0)) then b.getD y 0 else -1) = v
    have hb := h1 b (List.mem_cons_self ..)
    rw [if_pos, hb]
    rw [List.all_eq_true]
    intro c hc
    rw [decide_eq_true_eq, hb]
    exact h1 c (List.mem_cons_of_mem _ hc)
theorem bkSu_two {X : List (List Int)} {y : Nat} {b c : List Int} (hb : b ∈ X) (hc : c ∈ X) (h : b.getD y 0 ≠ c.getD y 0) : bkSu X y = -1 := by
  cases X with
  | nil => exact absurd hb (by simp)
  | cons a X =>
    show (if X.all (fun c => decide (c.getD y 0 = a.getD y 0)) then a.getD y 0 else -1) = -1
    rw [if_neg]
    intro q
    rw [List.all_eq_true] at q
    have all : ∀ z, z ∈ a :: X → z.getD y 0 = a.getD y 0 := fun z hz => by
      cases hz with
      | head => rfl
      | tail _ hz => have := q z hz; rwa [decide_eq_true_eq] at this
    exact h ((all b hb).trans (all c hc).symm)
