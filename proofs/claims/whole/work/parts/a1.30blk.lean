/-! The law's blocks: the arguments out of the script, and the calls. -/
def bkArg (j : Int) : List Instr := [.aload 0, .iload 4, .sipush j, .iadd, .saload]
def bkArgs (js : List Int) (is : List Instr) : List Instr := js.foldr (fun j is => bkArg j ++ is) is
def bkPsh (F : Int → Int) (i : Int) (js : List Int) (st : List bk_V) : List bk_V := js.foldl (fun st j => bk_i (F (i + j)) :: st) st
abbrev bkLs (i : Int) (u v : bk_V) : List bk_V := [bk_c 13 0, bk_c 11 0, bk_c 12 0, bk_c 86 0, bk_i i, u, v]
theorem bk_arg {C : bk_Ca} {T : bk_T} {Q : bk_Q} {is : List Instr} {b : Nat} {i j : Int} {u v : bk_V} {st : List bk_V} {M : bk_M} (h0 : 0 ≤ i) (h1 : i + 6 ≤ M 13 1 0) (h2 : M 13 1 0 ≤ 2147483647) (hj : 1 ≤ j ∧ j ≤ 5)
    (h : bk_run C T Q is b (bkLs i u v) (bk_i (M 13 0 (i + j)) :: st) M) : bk_run C T Q (bkArg j ++ is) b (bkLs i u v) st M :=
  ⟨⟨by omega, by omega⟩, ⟨by omega, by omega⟩, h⟩
theorem bk_args_r {C : bk_Ca} {T : bk_T} {Q : bk_Q} {is : List Instr} {b : Nat} {i : Int} {u v : bk_V} {M : bk_M} (h0 : 0 ≤ i) (h1 : i + 6 ≤ M 13 1 0) (h2 : M 13 1 0 ≤ 2147483647) : ∀ (js : List Int) (st : List bk_V), (∀ j ∈ js, 1 ≤ j ∧ j ≤ 5) →
    bk_run C T Q is b (bkLs i u v) (bkPsh (M 13 0) i js st) M → bk_run C T Q (bkArgs js is) b (bkLs i u v) st M
  | [], _, _, h => h
  | j :: js, st, hj, h => bk_arg h0 h1 h2 (hj j (by simp)) (bk_args_r h0 h1 h2 js _ (fun k hk => hj k (by simp [hk])) h)
def bkVals (F : Int → Int) (i : Int) (js : List Int) : List bk_V := js.map fun j => bk_i (F (i + j))
theorem bkPsh_eq (F : Int → Int) (i : Int) : ∀ (js : List Int) (st : List bk_V), bkPsh F i js st = (bkVals F i js).reverse ++ st
  | [], _ => rfl
  | j :: js, st => by
    show bkPsh F i js (bk_i (F (i + j)) :: st) = _
    rw [bkPsh_eq F i js]
    simp [bkVals]
theorem bk_take_app : ∀ (as : List bk_V) (acc rest : List bk_V), bk_take as.length acc (as ++ rest) = some (as.reverse ++ acc, rest)
  | [], acc, rest => by cases rest <;> rfl
  | a :: as, acc, rest => by
    show bk_take (as.length + 1) acc (a :: (as ++ rest)) = _
    rw [bk_take, bk_take_app as]
    simp
theorem bkVals_wd (F : Int → Int) (i : Int) : ∀ (js : List Int), bk_wd (bkVals F i js) = js.length
  | [] => rfl
  | j :: js => by
    show bk_wd (bk_i (F (i + j)) :: bkVals F i js) = _
    show bk_wd (bkVals F i js) + 1 = _
    rw [bkVals_wd F i js]; rfl
/-- a call's number, spelled -/
abbrev bkEn2 (e c k n : Nat) : Prop := e / 4 % 16 = n + 1 ∧ e / 64 % 512 = c ∧ e % 4 = 1 ∧ e / 32768 % 16 = k + 1 ∧ e / 524288 = n + 1
theorem bk_callr {C : bk_Ca} {T : bk_T} {Q : bk_Q} {is : List Instr} {e c k b : Nat} {F : Int → Int} {i : Int} {js : List Int} {ls rest : List bk_V} {M : bk_M} (he : bkEn2 e c k js.length) (hr : rest.length ≤ 4)
    (h : C 0 c (bk_c k 0 :: bkVals F i js) M (fun t r M' => t = 0 ∧ bk_run C T Q is b ls (bk_i r :: rest) M')) : bk_run C T Q (.invokestatic e :: is) b ls (bkPsh F i js (bk_c k 0 :: rest)) M := by
  obtain ⟨e1, e2, e3, e4, e5⟩ := he
  show (match bk_take (e / 4 % 16) [] (bkPsh F i js (bk_c k 0 :: rest)) with
    | some (as, st) => bif Nat.ble st.length 4 && bk_rcv (e / 32768 % 16) as && Nat.beq (bk_wd as) (e / 524288) then C 0 (e / 64 % 512) as M (fun t r M' => t = 0 ∧ bk_run C T Q is b ls (bk_push (e % 4) r st) M') else False
    | none => False)
  have ht : bk_take (e / 4 % 16) [] (bkPsh F i js (bk_c k 0 :: rest)) = some (bk_c k 0 :: bkVals F i js, rest) := by
    rw [e1, bkPsh_eq]
    have := bk_take_app ((bkVals F i js).reverse ++ [bk_c k 0]) [] rest
    rw [List.append_assoc] at this
    simp only [List.length_append, List.length_reverse, List.length_cons, List.length_nil, List.reverse_append, List.reverse_reverse, List.reverse_cons, List.reverse_nil, List.nil_append, List.append_nil, List.singleton_append] at this
    rw [show (bkVals F i js).length = js.length by simp [bkVals]] at this
    exact this
  rw [ht]
  show (bif Nat.ble rest.length 4 && bk_rcv (e / 32768 % 16) (bk_c k 0 :: bkVals F i js) && Nat.beq (bk_wd (bk_c k 0 :: bkVals F i js)) (e / 524288) then C 0 (e / 64 % 512) (bk_c k 0 :: bkVals F i js) M (fun t r M' => t = 0 ∧ bk_run C T Q is b ls (bk_push (e % 4) r rest) M') else False)
  have w1 : Nat.ble rest.length 4 = true := Nat.ble_eq_true_of_le hr
  have w2 : bk_rcv (e / 32768 % 16) (bk_c k 0 :: bkVals F i js) = true := by
    rw [e4]
    show Nat.beq k k = true
    exact Nat.beq_refl k
  have w3 : Nat.beq (bk_wd (bk_c k 0 :: bkVals F i js)) (e / 524288) = true := by
    rw [e5]
    show Nat.beq (bk_wd (bkVals F i js) + 1) (js.length + 1) = true
    rw [bkVals_wd]
    exact Nat.beq_refl _
  rw [w1, w2, w3, e2, e3]
  exact h
theorem bk_sw_all {x d : Int} {F : Int → Prop} (hd : F d) : ∀ (lo : Int) (os : List Int), (∀ o ∈ os, F o) → bk_sw x F d lo os
  | _, [], _ => hd
  | lo, o :: os, h => ⟨fun _ => h o (by simp), fun _ => bk_sw_all hd (lo + 1) os (fun q hq => h q (by simp [hq]))⟩
