/-! Calls that only ask. -/
theorem bkInv_now {M : bk_M} (h : bkInv M) : bkNow M (M 11 0 1).toNat := bkRel_to h.2.2.2.1.1 rfl
theorem bkQt_mark {M : bk_M} {v : Int} : bkQt M (bk_up M 12 0 0 v) := by
  refine ⟨fun k a q => bk_up_f (by unfold bkQk at q; omega), bk_up_k (by decide), ⟨bk_up_k (by decide), bk_up_k (by decide), bk_up_k (by decide)⟩, fun j q => bk_up_s (by unfold bkQj at q; omega), fun q => ?_⟩
  unfold bkIcy at *
  rw [bk_up_f (by decide)]
  exact q
theorem bkStp_both {c m : Nat} {as : List bk_V} (h : ∀ d M, bkInv M → bkBoth (d + 60) c m as M) : bkStp c m as := fun d M hI => by
  obtain ⟨r, h1, h2⟩ := h d M hI
  exact (h1 _).2 ⟨rfl, (h2 _).2 ⟨rfl, rfl, bkInv_q hI bkQt_mark⟩⟩
theorem T3 : bkStp 39 190 [] := bkStp_both fun d M h => C5 (d := d + 59) h.2.2.1
theorem T5 (a b : Int) : bkStp 40 197 [bk_i a, bk_i b] := bkStp_both fun d M h => C4 (d := d + 57) (bkInv_now h)
theorem T6 (a b : Int) : bkStp 42 199 [bk_i a, bk_i b] := fun d M h => C6 (d := d + 57) (Q := fun _ _ M2 => bkInv M2) (bkInv_now h) fun r => bkInv_q h bkQt_mark
theorem T7 (a b : Int) : bkStp 43 200 [bk_i a, bk_i b] := bkStp_both fun d M h => C7 (d := d + 57) (bkInv_now h)
theorem T8 (a : Int) : bkStp 44 201 [bk_i a] := fun d M h => C8 (d := d + 57) (Q := fun _ _ M2 => bkInv M2) (bkInv_now h) fun r => bkInv_q h bkQt_mark
theorem T9 (a b : Int) : bkStp 46 203 [bk_i a, bk_i b] := bkStp_both fun d M h => C10 (d := d + 55) (bkInv_now h)
theorem T10 (a : Int) : bkStp 50 207 [bk_i a] := bkStp_both fun d M h => C12 (d := d + 55) (bkInv_now h)
theorem T21 (a : Int) : bkStp 84 233 [bk_i a] := bkStp_both fun d M h => C23 (d := d + 58) h.2.2.2.2.2.2.2.1.1.1 h.2.2.2.2.2.2.2.1.1.2.1 h.2.2.2.2.2.2.2.1.1.2.2
theorem T23 (a : Int) : bkStp 85 239 [bk_i a] := bkStp_both fun d M h => C25 (d := d + 58) h.2.2.2.2.2.2.2.1.2.1.1 h.2.2.2.2.2.2.2.1.2.1.2
theorem T25 (a : Int) : bkStp 89 242 [bk_i a] := bkStp_both fun d M h => C27 (d := d + 58) h.2.2.2.2.2.2.2.1.2.2.1.1 h.2.2.2.2.2.2.2.1.2.2.1.2.1 h.2.2.2.2.2.2.2.1.2.2.1.2.2
theorem T26 (a b : Int) : bkStp 90 226 [bk_i a, bk_i b] := bkStp_both fun d M h => C28 (d := d + 57) (bkInv_now h)
theorem T29 (a : Int) : bkStp 101 250 [bk_i a] := bkStp_both fun d M h => by
  obtain ⟨h1, h2, h3⟩ := h.2.2.2.2.2.2.2.1.2.2.2.1
  exact C31 (d := d + 58) h1 h2 fun k k0 k1 => (h3 k k0 k1).1
theorem T30 (a : Int) : bkStp 102 251 [bk_i a] := bkStp_both fun d M h => by
  obtain ⟨h1, h2, h3⟩ := h.2.2.2.2.2.2.2.1.2.2.2.1
  exact C32 (d := d + 58) h1 h2 fun k k0 k1 => (h3 k k0 k1).2
theorem T32 (a : Int) : bkStp 104 252 [bk_i a] := bkStp_both fun d M h => C34 (d := d + 56) (bkInv_now h)
theorem T34 (a : Int) : bkStp 110 257 [bk_i a] := bkStp_both fun d M h => by
  obtain ⟨h1, h2, h3⟩ := h.2.2.2.2.2.2.2.1.2.2.2.2.1
  exact C36 (d := d + 58) h1 h2 h3
theorem T36 (a : Int) : bkStp 122 267 [bk_i a] := bkStp_both fun d M h => by
  obtain ⟨h1, h2⟩ := h.2.2.2.2.2.2.2.1.2.2.2.2.2
  exact C38 (d := d + 58) h1 h2
theorem T41 (a : Int) : bkStp 140 283 [bk_i a] := bkStp_both fun d M h => C43 (d := d + 59) (bkInv_now h) h.2.1.2.1
/-! Calls that only try. -/
theorem bkQt_c {A : Nat → Nat → Prop} {M M' : bk_M} (h : bkFr A M M') (hA : ∀ k a, A k a → ¬ bkQk k a ∧ ¬ (k = 10 ∧ a = 0) ∧ ¬ (k = 7 ∧ a = 0) ∧ ¬ (k = 12 ∧ a = 0) ∧ ¬ (k = 69 ∧ a = 0)) : bkQt M M' := by
  have e7 : M' 7 0 = M 7 0 := h 7 0 fun q => (hA _ _ q).2.2.1 ⟨rfl, rfl⟩
  have e12 : M' 12 0 = M 12 0 := h 12 0 fun q => (hA _ _ q).2.2.2.1 ⟨rfl, rfl⟩
  refine ⟨fun k a q => h k a fun w => (hA k a w).1 q, by rw [h 10 0 fun q => (hA _ _ q).2.1 ⟨rfl, rfl⟩], by rw [e7]; exact ⟨rfl, rfl, rfl⟩, fun j _ => by rw [e12], fun q => ?_⟩
  unfold bkIcy at *
  rw [h 69 0 fun q => (hA _ _ q).2.2.2.2 ⟨rfl, rfl⟩]
  exact q
theorem bkQt_r {A : Nat → Nat → Prop} {M M' : bk_M} (h : bkFr A M M') (hA : ∀ k a, A k a → ¬ bkQk k a ∧ ¬ (k = 10 ∧ a = 0) ∧ ¬ (k = 7 ∧ a = 0)) (h12 : ∀ j, bkQj j → M' 12 0 j = M 12 0 j) (hi : bkIcy M → bkIcy M') : bkQt M M' := by
  have e7 : M' 7 0 = M 7 0 := h 7 0 fun q => (hA _ _ q).2.2 ⟨rfl, rfl⟩
  exact ⟨fun k a q => h k a fun w => (hA k a w).1 q, by rw [h 10 0 fun q => (hA _ _ q).2.1 ⟨rfl, rfl⟩], by rw [e7]; exact ⟨rfl, rfl, rfl⟩, h12, hi⟩
theorem bkQt_58 {M M' : bk_M} (h : bkQt M M') : M' 58 0 = M 58 0 := h.1 58 0 (by unfold bkQk; omega)
theorem bkInv_R {M : bk_M} (h : bkInv M) : bkRel M (M 11 0 1).toNat (M 58 0) := h.2.2.2.1.1
theorem bkInv_md {M : bk_M} (h : bkInv M) : bkMd (M 58 0) := bkRel_md (bkInv_R h)
theorem bkInv_icy {M : bk_M} (h : bkInv M) : ∀ c, 0 ≤ c → c < 36 → M 69 0 c = 0 := h.2.2.2.2.2.2.2.2
theorem bkA33_q : ∀ k a, bkA33 0 k a → ¬ bkQk k a ∧ ¬ (k = 10 ∧ a = 0) ∧ ¬ (k = 7 ∧ a = 0) ∧ ¬ (k = 12 ∧ a = 0) ∧ ¬ (k = 69 ∧ a = 0) := fun k a h => by
  unfold bkA33 at h
  unfold bkQk
  omega
theorem bkA227_q : ∀ k a, bkA227 k a → ¬ bkQk k a ∧ ¬ (k = 10 ∧ a = 0) ∧ ¬ (k = 7 ∧ a = 0) := fun k a h => by
  unfold bkA227 at h
  unfold bkQk
  omega
theorem bkIcy_fr {A : Nat → Nat → Prop} {M M' : bk_M} (h : bkFr A M M') (hA : ¬ A 69 0) : bkIcy M → bkIcy M' := fun q => by
  unfold bkIcy at *
  rw [h 69 0 hA]
  exact q
theorem T17 : bkStp 73 227 [] := fun d M h => by
  refine bk_use (S73 (d := d + 56) (bkInv_R h) rfl) (fun r M1 hM1 => ⟨rfl, ?_⟩)
  obtain ⟨F, er⟩ := hM1
  have q1 := bkQt_c F bkA33_q
  have h1 := bkInv_q h q1
  refine bk_use (S227 (d := d + 54) (bkInv_md h1) (bkInv_icy h1)) (fun r2 M2 hM2 => ⟨rfl, ?_⟩)
  obtain ⟨F2, o2, er2⟩ := hM2
  exact ⟨by rw [er, er2, bkQt_58 q1], bkInv_q h1 (bkQt_r F2 bkA227_q (fun j q => o2 j (by unfold bkQj at q; omega)) (bkIcy_fr F2 (by unfold bkA227; omega)))⟩
theorem T18 (a : Int) : bkStp 74 228 [bk_i a] := fun d M h => by
  refine bk_use (S74 (d := d + 56) (bkInv_R h) rfl) (fun r M1 hM1 => ⟨rfl, ?_⟩)
  obtain ⟨F, er⟩ := hM1
  have q1 := bkQt_c F bkA33_q
  have h1 := bkInv_q h q1
  refine bk_use (S228 (d := d + 54) (bkInv_md h1) (bkInv_icy h1)) (fun r2 M2 hM2 => ⟨rfl, ?_⟩)
  obtain ⟨F2, o2, er2⟩ := hM2
  exact ⟨by rw [er, er2, bkQt_58 q1], bkInv_q h1 (bkQt_r F2 bkA227_q (fun j q => o2 j (by unfold bkQj at q; omega)) (bkIcy_fr F2 (by unfold bkA227; omega)))⟩
theorem T19 (a : Int) : bkStp 75 229 [bk_i a] := fun d M h => by
  refine bk_use (S75 (d := d + 56) (bkInv_R h) rfl) (fun r M1 hM1 => ⟨rfl, ?_⟩)
  obtain ⟨F, er⟩ := hM1
  have q1 := bkQt_c F bkA33_q
  have h1 := bkInv_q h q1
  refine bk_use (S229 (d := d + 54) (bkInv_md h1) (bkInv_icy h1)) (fun r2 M2 hM2 => ⟨rfl, ?_⟩)
  obtain ⟨F2, o2, er2⟩ := hM2
  exact ⟨by rw [er, er2, bkQt_58 q1], bkInv_q h1 (bkQt_r F2 bkA227_q (fun j q => o2 j (by unfold bkQj at q; omega)) (bkIcy_fr F2 (by unfold bkA227; omega)))⟩
theorem bkATry_q : ∀ k a, bkATry k a → ¬ bkQk k a ∧ ¬ (k = 10 ∧ a = 0) ∧ ¬ (k = 7 ∧ a = 0) ∧ ¬ (k = 12 ∧ a = 0) ∧ ¬ (k = 69 ∧ a = 0) := fun k a h => by
  unfold bkATry at h
  unfold bkQk
  omega
theorem bkTryN_q {M M' : bk_M} (h : bkTryN M M') (e : M' 58 0 = M 58 0) : bkQt M M' := by
  obtain ⟨F, o, i⟩ := h
  refine ⟨fun k a q => ?_, by rw [F 10 0 (by unfold bkATryN; omega)], by rw [F 7 0 (by unfold bkATryN; omega)]; exact ⟨rfl, rfl, rfl⟩, fun j q => o j (by unfold bkQj at q; omega) (by unfold bkQj at q; omega), fun _ => i⟩
  by_cases z : k = 58 ∧ a = 0
  · rw [z.1, z.2]; exact e
  · exact F k a (by unfold bkATryN; unfold bkQk at q; omega)
theorem T27 (a b c e : Int) : bkStp 91 243 [bk_i a, bk_i b, bk_i c, bk_i e] := fun d M h => by
  have hi := bkIds_p h.1
  refine bk_use (S91 (d := d + 53) (bkInv_R h) rfl hi.1) (fun r M1 hM1 => ⟨rfl, ?_⟩)
  obtain ⟨F, er⟩ := hM1
  have q1 := bkQt_c F bkATry_q
  have h1 := bkInv_q h q1
  refine bk_use (S243 (d := d + 52) (bkInv_md h1) (bkInv_icy h1)) (fun r2 M2 hM2 => ⟨rfl, ?_⟩)
  obtain ⟨F2, e2, er2⟩ := hM2
  exact ⟨by rw [er, er2, bkQt_58 q1], bkInv_q h1 (bkTryN_q F2 e2)⟩
theorem T31 (f a b c e : Int) : bkStp 103 246 [bk_i f, bk_i a, bk_i b, bk_i c, bk_i e] := fun d M h => by
  have hi := bkIds_p h.1
  refine bk_use (S103 (d := d + 53) (bkInv_R h) rfl hi.1) (fun r M1 hM1 => ⟨rfl, ?_⟩)
  obtain ⟨F, er⟩ := hM1
  have q1 := bkQt_c F bkATry_q
  have h1 := bkInv_q h q1
  refine bk_use (S246 (d := d + 52) (bkInv_md h1) (bkInv_icy h1)) (fun r2 M2 hM2 => ⟨rfl, ?_⟩)
  obtain ⟨F2, e2, er2⟩ := hM2
  exact ⟨by rw [er, er2, bkQt_58 q1], bkInv_q h1 (bkTryN_q F2 e2)⟩
theorem T38 (a : Int) : bkStp 131 278 [bk_i a] := fun d M h => by
  have hi := bkIds_p h.1
  have hN := bkInv_md h
  have n0 := hN.2.2.2.2.1
  have hs := h.2.2.2.1.2.2
  have qc : ∀ M1, bkFr (fun k a => k = 52 ∧ a = (M 11 0 7).toNat) M M1 → bkQt M M1 := fun M1 F => bkQt_c F fun k a w => by
    obtain ⟨rfl, rfl⟩ := w
    unfold bkQk
    omega
  rcases hs with ⟨s1, s2⟩ | ⟨S, s1, s2, s3⟩
  · refine bk_use ((S131c (d := d + 55) (m := (M 58 0 0).toNat) (bkInv_R h) rfl rfl (by omega)).1 s1) (fun r M1 hM1 => ⟨rfl, ?_⟩)
    obtain ⟨er, F⟩ := hM1
    have q1 := qc M1 F
    have h1 := bkInv_q h q1
    have e58 := bkQt_58 q1
    refine ((S278c (d := d + 15) (m := (M 58 0 0).toNat) (bkInv_md h1) (by rw [e58]; omega)).1 (by rw [e58]; exact s2)).2 ⟨rfl, er, bkInv_q h1 bkQt_mark⟩
  · refine bk_use ((S131c (d := d + 55) (m := (M 58 0 0).toNat) (bkInv_R h) rfl rfl (by omega)).2 S s1 s3) (fun r M1 hM1 => ⟨rfl, ?_⟩)
    obtain ⟨er, F⟩ := hM1
    have q1 := qc M1 F
    have h1 := bkInv_q h q1
    have e58 := bkQt_58 q1
    refine ((S278c (d := d + 15) (m := (M 58 0 0).toNat) (bkInv_md h1) (by rw [e58]; omega)).2 S (by rw [e58]; exact s2) s3).2 ⟨rfl, by rw [er, e58], bkInv_q h1 bkQt_mark⟩
