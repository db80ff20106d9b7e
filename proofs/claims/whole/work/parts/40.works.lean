/-! Works on the ground: only cells that some beds have and others have not move a bed. -/
theorem bkRow_cone {f g : Int → Int} {W H S : Int} (h : ∀ y x, 1 ≤ y → y < H → 0 ≤ x → x < W → S - y ≤ x → x ≤ S + y → f (6 * y + x) = g (6 * y + x)) : ∀ (n : Nat) (y : Int), 1 ≤ y → y + n = H - 1 → ∀ x, S - y ≤ x → x ≤ S + y → bkRow f W H y x = bkRow g W H y x := by
  intro n
  induction n with
  | zero =>
    intro y h0 h1 x q1 q2
    have e : y = H - 1 := by omega
    by_cases z : 0 ≤ x ∧ x < W
    · have := h y x h0 (by omega) z.1 z.2 q1 q2
      rw [e, bkRow_last, bkRow_last, if_pos z, if_pos z, ← e]
      exact this
    · rw [bkRow_out _ _ z, bkRow_out _ _ z]
  | succ n ih =>
    intro y h0 h1 x q1 q2
    by_cases z : 0 ≤ x ∧ x < W
    · have i := ih (y + 1) (by omega) (by omega)
      have en : bkNx (bkRow f W H (y + 1)) x = bkNx (bkRow g W H (y + 1)) x := by
        unfold bkNx
        rw [i (x - 1) (by omega) (by omega), i x (by omega) (by omega), i (x + 1) (by omega) (by omega)]
      have hn := bkNx_near (bkRow g W H (y + 1)) x
      rw [bkRow_s f W (y := y) x (by omega), bkRow_s g W (y := y) x (by omega), if_pos z, if_pos z, h y x h0 (by omega) z.1 z.2 q1 q2, en, i _ (by omega) (by omega)]
    · rw [bkRow_out _ _ z, bkRow_out _ _ z]
theorem bkBd_near (g : Int → Int) (W H S : Int) : ∀ n : Nat, S - n ≤ bkBd g W H S n ∧ bkBd g W H S n ≤ S + n
  | 0 => by rw [show ((0 : Nat) : Int) = 0 by rfl, bkBd_0]; omega
  | n + 1 => by
    have i := bkBd_near g W H S n
    have h2 := bkNx_near (bkRow g W H ((n : Int) + 1)) (bkBd g W H S n)
    rw [show ((n + 1 : Nat) : Int) = (n : Int) + 1 by omega, bkBd_s g W H S (by omega)]
    omega
theorem bkBd_cone {f g : Int → Int} {W H S : Int} (h : ∀ y x, 1 ≤ y → y < H → 0 ≤ x → x < W → S - y ≤ x → x ≤ S + y → f (6 * y + x) = g (6 * y + x)) : ∀ n : Nat, (n : Int) < H → bkBd f W H S n = bkBd g W H S n
  | 0, _ => rfl
  | n + 1, hn => by
    have i := bkBd_cone h n (by omega)
    have b := bkBd_near g W H S n
    have r := bkRow_cone h (H - 1 - ((n : Int) + 1)).toNat ((n : Int) + 1) (by omega) (by omega)
    rw [show ((n + 1 : Nat) : Int) = (n : Int) + 1 by omega, bkBd_s f W H S (by omega), bkBd_s g W H S (by omega), i]
    unfold bkNx
    rw [r _ (by omega) (by omega), r _ (by omega) (by omega), r _ (by omega) (by omega)]
/-- a work is a cell; 36 more: a stone -/
def bkWk (w : Int) : Int := if w < 36 then -1 else 1
def bkDl : List Int → Int → Int
  | [], _ => 0
  | w :: L, c => (if c = w % 36 then bkWk w else 0) + bkDl L c
theorem bkDl_app (A B : List Int) (c : Int) : bkDl (A ++ B) c = bkDl A c + bkDl B c := by
  induction A with
  | nil => show bkDl B c = 0 + bkDl B c; omega
  | cons a A ih => show _ + bkDl (A ++ B) c = _ + bkDl A c + bkDl B c; rw [ih]; omega
/-- the row with works done -/
def bkRL (N : Int → Int) (L : List Int) : Int → Int := fun j => if 85 ≤ j ∧ j < 121 then N j + bkDl L (j - 85) else N j
theorem bkRL_nil (N : Int → Int) : bkRL N [] = N := by
  funext j
  unfold bkRL
  by_cases z : 85 ≤ j ∧ j < 121
  · rw [if_pos z]; show N j + 0 = N j; omega
  · rw [if_neg z]
theorem bkRL_o {N : Int → Int} {L : List Int} {j : Int} (h : ¬ (85 ≤ j ∧ j < 121)) : bkRL N L j = N j := if_neg h
theorem bkRL_c {N : Int → Int} {L : List Int} {c : Int} (h0 : 0 ≤ c) (h1 : c < 36) : bkRL N L (85 + c) = N (85 + c) + bkDl L c := by
  unfold bkRL
  rw [if_pos (by omega), show 85 + c - 85 = c by omega]
theorem bkRL_app (N : Int → Int) (A B : List Int) : bkRL (bkRL N A) B = bkRL N (A ++ B) := by
  funext j
  unfold bkRL
  by_cases z : 85 ≤ j ∧ j < 121
  · rw [if_pos z, if_pos z, if_pos z, bkDl_app]; omega
  · rw [if_neg z, if_neg z, if_neg z]
/-- a cell that some beds have, and others have not -/
def bkEf (N : Int → Int) (w : Int) : Bool := decide (1 ≤ w % 36 / 6 ∧ w % 36 / 6 < N 3 ∧ w % 36 % 6 < N 2 ∧ N 4 - w % 36 / 6 ≤ w % 36 % 6 ∧ w % 36 % 6 ≤ N 4 + w % 36 / 6)
theorem bkWould_ef {N : Int → Int} (hN : bkMd N) {A B : List Int} (h : ∀ c, 0 ≤ c → c < 36 → bkEf N c = true → bkDl A c = bkDl B c) {y : Int} (h0 : 0 ≤ y) (h1 : y < N 3) : bkWould (bkRL N A) y = bkWould (bkRL N B) y := by
  obtain ⟨n1, n2, n3, -⟩ := hN
  have e : ∀ L, bkWould (bkRL N L) y = bkBd (fun c => bkRL N L (85 + c)) (N 2) (N 3) (N 4) y := fun L => by
    unfold bkWould
    rw [bkRL_o (by omega), bkRL_o (by omega), bkRL_o (by omega)]
  rw [e, e]
  have k := bkBd_cone (f := fun c => bkRL N A (85 + c)) (g := fun c => bkRL N B (85 + c)) (W := N 2) (H := N 3) (S := N 4) (fun y x q1 q2 q3 q4 q5 q6 => ?_) y.toNat (by omega)
  · rw [Int.toNat_of_nonneg h0] at k
    exact k
  · show bkRL N A (85 + (6 * y + x)) = bkRL N B (85 + (6 * y + x))
    rw [bkRL_c (by omega) (by omega), bkRL_c (by omega) (by omega), h _ (by omega) (by omega) ?_]
    unfold bkEf
    rw [show (6 * y + x) % 36 / 6 = y by omega, show (6 * y + x) % 36 % 6 = x by omega]
    simp only [decide_eq_true_eq]
    omega
theorem bkEf_mod (N : Int → Int) (w : Int) : bkEf N (w % 36) = bkEf N w := by
  unfold bkEf
  rw [show w % 36 % 36 = w % 36 by omega]
/-- a work that moves nothing -/
theorem bkWould_drop {N : Int → Int} (hN : bkMd N) {A B : List Int} {w : Int} (hw : bkEf N w = false) {y : Int} (h0 : 0 ≤ y) (h1 : y < N 3) : bkWould (bkRL N (A ++ w :: B)) y = bkWould (bkRL N (A ++ B)) y := by
  refine bkWould_ef hN (fun c q0 q1 q2 => ?_) h0 h1
  rw [bkDl_app, bkDl_app]
  show _ + ((if c = w % 36 then bkWk w else 0) + bkDl B c) = _
  rw [if_neg (fun e => ?_)]
  · omega
  · rw [e, bkEf_mod, hw] at q2
    exact absurd q2 (by decide)
/-! All lists of so many out of a list, in order. -/
def bkCmb : List Int → Nat → List (List Int)
  | _, 0 => [[]]
  | [], _ + 1 => []
  | c :: cs, n + 1 => (bkCmb cs n).map (c :: ·) ++ bkCmb cs (n + 1)
theorem bkCmb_0 (L : List Int) : bkCmb L 0 = [[]] := by cases L <;> rfl
theorem bkCmb_mem : ∀ (L : List Int) (n : Nat) (l : List Int), l ∈ bkCmb L n ↔ l.Sublist L ∧ l.length = n
  | L, 0, l => by
    rw [bkCmb_0]
    constructor
    · intro h
      rw [List.mem_singleton] at h
      subst h
      exact ⟨List.nil_sublist _, rfl⟩
    · intro h
      rw [List.mem_singleton]
      exact List.eq_nil_of_length_eq_zero h.2
  | [], n + 1, l => by
    constructor
    · intro h; exact absurd h (by simp [bkCmb])
    · intro h
      have := List.sublist_nil.1 h.1
      rw [this] at h
      exact absurd h.2 (by simp)
  | c :: cs, n + 1, l => by
    have i1 := bkCmb_mem cs n
    have i2 := bkCmb_mem cs (n + 1) l
    show l ∈ (bkCmb cs n).map (c :: ·) ++ bkCmb cs (n + 1) ↔ _
    rw [List.mem_append, i2, List.mem_map]
    constructor
    · rintro (⟨a, ha, rfl⟩ | h)
      · have := (i1 a).1 ha
        exact ⟨this.1.cons₂ c, by simp [this.2]⟩
      · exact ⟨h.1.cons c, h.2⟩
    · rintro ⟨h, hl⟩
      cases h with
      | cons _ h => exact .inr ⟨h, hl⟩
      | cons_cons _ h => exact .inl ⟨_, (i1 _).2 ⟨h, by simpa using hl⟩, rfl⟩
theorem bkCmb_filter (p : Int → Bool) : ∀ (L : List Int) (n : Nat), bkCmb (L.filter p) n = (bkCmb L n).filter (fun l => l.all p)
  | L, 0 => by rw [bkCmb_0, bkCmb_0]; rfl
  | [], n + 1 => rfl
  | c :: cs, n + 1 => by
    have i1 := bkCmb_filter p cs n
    have i2 := bkCmb_filter p cs (n + 1)
    show bkCmb ((c :: cs).filter p) (n + 1) = ((bkCmb cs n).map (c :: ·) ++ bkCmb cs (n + 1)).filter _
    rw [List.filter_append, List.filter_map]
    by_cases h : p c = true
    · rw [List.filter_cons_of_pos h]
      show (bkCmb (cs.filter p) n).map (c :: ·) ++ bkCmb (cs.filter p) (n + 1) = _
      rw [i1, i2]
      congr 2
      congr 1
      funext l
      simp [h]
    · rw [List.filter_cons_of_neg h, i2]
      have : (bkCmb cs n).filter ((fun l => List.all l p) ∘ fun x => c :: x) = [] := by
        rw [List.filter_eq_nil_iff]
        intro a _
        simp [h]
      rw [this]
      rfl
theorem bk_find_filter {α : Type} (P q : α → Bool) : ∀ L : List α, (∀ x, x ∈ L → P x = true → q x = true) → (L.filter q).find? P = L.find? P
  | [], _ => rfl
  | x :: L, h => by
    have ih := bk_find_filter P q L fun y hy => h y (List.mem_cons_of_mem _ hy)
    by_cases hq : q x = true
    · rw [List.filter_cons_of_pos hq, List.find?_cons, List.find?_cons, ih]
    · rw [List.filter_cons_of_neg hq, ih, List.find?_cons]
      have : P x = false := by
        cases hp : P x
        · rfl
        · exact absurd (h x (List.mem_cons_self ..) hp) hq
      rw [this]
