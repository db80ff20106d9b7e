/-! The cells of a plain, as its constructor lays them and as the abstract machine sees them. -/
theorem bk_ws_cons (h0 : Nat) (cA : Nat → ClassId) (M : bk_M) : bk_ws (h0, bk_l5) cA M = (h0, bk_en (h0, bk_l5) cA M (5, 0)) :: bk_zs (h0 + 1) ((bk_l5.drop 1).map (bk_en (h0, bk_l5) cA M)) := by
  apply List.ext_getElem?
  intro n
  rcases Nat.lt_or_ge n 13 with hn | hn
  · rw [bk_ws_n (ba := (h0, bk_l5)) (show n < bk_l5.length from hn)]
    cases n with
    | zero => rfl
    | succ n =>
      rw [List.getElem?_cons_succ, bk_zs_at, List.getElem?_map, List.getElem?_drop]
      have h1 : bk_l5[1 + n]? = some (bk_l5.getD (n + 1) (0, 0)) := by
        rw [List.getD_eq_getElem?_getD, Nat.add_comm 1 n, List.getElem?_eq_getElem (show n + 1 < bk_l5.length from hn)]
        rfl
      rw [h1]
      show some (h0 + (n + 1), _) = some (h0 + 1 + n, _)
      rw [Nat.add_assoc, Nat.add_comm 1 n]
  · have h2 : bk_l5.length ≤ n := hn
    rw [List.getElem?_eq_none (by rw [bk_ws, List.length_map, List.length_range]; exact h2), List.getElem?_eq_none]
    have : ∀ (es : List va_E) (q : Nat), (bk_zs q es).length = es.length := by
      intro es
      induction es with
      | nil => intro q; rfl
      | cons o es ih => intro q; rw [bk_zs, List.length_cons, List.length_cons, ih]
    rw [List.length_cons, this, List.length_map, List.length_drop]
    show 12 + 1 ≤ n
    omega
/-- a memory in which all stands at 0 but the script -/
def bk_M0 (sc : Nat → Int → Int) : bk_M := fun k i j => if k = 13 then sc i j else 0
theorem bk_en5_0 (h0 : Nat) (cA : Nat → ClassId) (sc : Nat → Int → Int) : bk_en (h0, bk_l5) cA (bk_M0 sc) (5, 0) = .inr (5, [.int 0, .int 0, .int 0, .int 0, .ref (h0 + 1 + 0), .ref (h0 + 1 + 1), .int 0, .ref (h0 + 1 + 2), .ref (h0 + 1 + 3), .ref (h0 + 1 + 4), .ref (h0 + 1 + 5), .int 0, .ref (h0 + 1 + 6), .ref (h0 + 1 + 7), .ref (h0 + 1 + 8), .ref (h0 + 1 + 9), .ref (h0 + 1 + 10), .int 0, .ref (h0 + 1 + 11)]) := rfl
theorem bk_en5_a (h0 : Nat) (cA : Nat → ClassId) (sc : Nat → Int → Int) : (bk_l5.drop 1).map (bk_en (h0, bk_l5) cA (bk_M0 sc)) = [bk_ze cA 0 36, bk_ze cA 0 6, bk_ze cA 0 10, bk_ze cA 0 10, bk_ze cA 0 10, bk_ze cA 1 10, bk_ze cA 0 3, bk_ze cA 0 3, bk_ze cA 1 3, bk_ze cA 0 2, bk_ze cA 0 2, bk_ze cA 0 48] := rfl
