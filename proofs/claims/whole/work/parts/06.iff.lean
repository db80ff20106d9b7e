theorem bk_wp_unf {d : Nat} {P : bk_P} {Q : bk_Q} {b l : Nat} {ls st : List bk_V} {M : bk_M} (h : bk_wp (bk_C d) P Q b l ls st M) : bk_run (bk_C d) (bk_wp (bk_C d) P Q) Q (bk_lk l P) b ls st M :=
  h (fun b l ls st M => bk_run (bk_C d) (bk_wp (bk_C d) P Q) Q (bk_lk l P) b ls st M) fun b l ls st M q => bk_run_mono (bk_C_mono d) (fun _ _ _ _ _ z => bk_wp_fold (bk_C_mono d) z) (fun _ _ _ h => h) _ b ls st M q
theorem bk_wp_go {d : Nat} {P : bk_P} {Q : bk_Q} {S : List Nat} (n : Nat) : ∀ {b l : Nat} {ls st : List bk_V} {M : bk_M}, bk_wp (bk_C d) P Q b l ls st M → bk_go (bk_C d) P Q S n b l ls st M := by
  induction n with
  | zero => intro b l ls st M h; exact h
  | succ n ih =>
    intro b l ls st M h
    unfold bk_go
    cases hs : S.elem l with
    | true => exact h
    | false => exact bk_run_mono (bk_C_mono d) (fun _ _ _ _ _ q => ih q) (fun _ _ _ h => h) _ b ls st M (bk_wp_unf h)
theorem bk_iff {d : Nat} {P : bk_P} {Q : bk_Q} (S : List Nat) (n : Nat) {b l : Nat} {ls st : List bk_V} {M : bk_M} : bk_wp (bk_C d) P Q b l ls st M ↔ bk_run (bk_C d) (bk_go (bk_C d) P Q S n) Q (bk_lk l P) b ls st M :=
  ⟨fun h => bk_run_mono (bk_C_mono d) (fun _ _ _ _ _ q => bk_wp_go n q) (fun _ _ _ h => h) _ b ls st M (bk_wp_unf h), bk_blk S n⟩
