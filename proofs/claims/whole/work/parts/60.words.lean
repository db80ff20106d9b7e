/-! Words and names: the class has five bits a letter, the reference base 27. -/
def bkCv : Nat → Int → Int
  | 0, _ => 0
  | n + 1, k => if k = 0 then 0 else 27 * bkCv n (k / 32) + k % 32
def bkUn : Nat → Int → Int
  | 0, _ => 0
  | n + 1, k => if k = 0 then 0 else 32 * bkUn n (k / 27) + k % 27
theorem bkKy_27 {T : Int → Int} {p : Int} : ∀ {n : Nat}, bkEv (fun j => bkSm (T j)) p n = true → 0 ≤ bkKy 27 T p n
  | 0, _ => by unfold bkKy; omega
  | n + 1, h => by
    have h : (bkEv (fun j => bkSm (T j)) p n && bkSm (T (p + n))) = true := h
    rw [Bool.and_eq_true, bkSm, decide_eq_true_eq] at h
    have q := bkKy_27 h.1
    show 0 ≤ 27 * bkKy 27 T p n + (T (p + n) - 96)
    omega
theorem bkCv_ky {T : Int → Int} {p : Int} : ∀ {n : Nat} (m : Nat), n ≤ m → bkEv (fun j => bkSm (T j)) p n = true → bkCv m (bkKy 32 T p n) = bkKy 27 T p n
  | 0, 0, _, _ => rfl
  | 0, _ + 1, _, _ => rfl
  | n + 1, m + 1, hm, h => by
    have h : (bkEv (fun j => bkSm (T j)) p n && bkSm (T (p + n))) = true := h
    rw [Bool.and_eq_true, bkSm, decide_eq_true_eq] at h
    have q := (bkKy_b h.1).1
    show (if 32 * bkKy 32 T p n + (T (p + n) - 96) = 0 then 0 else 27 * bkCv m ((32 * bkKy 32 T p n + (T (p + n) - 96)) / 32) + (32 * bkKy 32 T p n + (T (p + n) - 96)) % 32) = 27 * bkKy 27 T p n + (T (p + n) - 96)
    rw [if_neg (by omega), show (32 * bkKy 32 T p n + (T (p + n) - 96)) / 32 = bkKy 32 T p n by omega, show (32 * bkKy 32 T p n + (T (p + n) - 96)) % 32 = T (p + n) - 96 by omega, bkCv_ky m (by omega) h.1]
theorem bkUn_ky {T : Int → Int} {p : Int} : ∀ {n : Nat} (m : Nat), n ≤ m → bkEv (fun j => bkSm (T j)) p n = true → bkUn m (bkKy 27 T p n) = bkKy 32 T p n
  | 0, 0, _, _ => rfl
  | 0, _ + 1, _, _ => rfl
  | n + 1, m + 1, hm, h => by
    have h : (bkEv (fun j => bkSm (T j)) p n && bkSm (T (p + n))) = true := h
    rw [Bool.and_eq_true, bkSm, decide_eq_true_eq] at h
    have q := bkKy_27 h.1
    show (if 27 * bkKy 27 T p n + (T (p + n) - 96) = 0 then 0 else 32 * bkUn m ((27 * bkKy 27 T p n + (T (p + n) - 96)) / 27) + (27 * bkKy 27 T p n + (T (p + n) - 96)) % 27) = 32 * bkKy 32 T p n + (T (p + n) - 96)
    rw [if_neg (by omega), show (27 * bkKy 27 T p n + (T (p + n) - 96)) / 27 = bkKy 27 T p n by omega, show (27 * bkKy 27 T p n + (T (p + n) - 96)) % 27 = T (p + n) - 96 by omega, bkUn_ky m (by omega) h.1]
/-- a code of letters, at most seven -/
def bkLt : Nat → Int → Bool
  | 0, _ => false
  | n + 1, k => decide (1 ≤ k % 32 ∧ k % 32 ≤ 26 ∧ 0 ≤ k ∧ (k / 32 = 0 ∨ bkLt n (k / 32) = true))
theorem bkLt_ky {T : Int → Int} {p : Int} : ∀ {n m : Nat}, n ≤ m → bkEv (fun j => bkSm (T j)) p (n + 1) = true → bkLt (m + 1) (bkKy 32 T p (n + 1)) = true
  | n, m, hm, h => by
    have h : (bkEv (fun j => bkSm (T j)) p n && bkSm (T (p + n))) = true := h
    rw [Bool.and_eq_true, bkSm, decide_eq_true_eq] at h
    have q := (bkKy_b h.1).1
    show decide (1 ≤ (32 * bkKy 32 T p n + (T (p + n) - 96)) % 32 ∧ (32 * bkKy 32 T p n + (T (p + n) - 96)) % 32 ≤ 26 ∧ 0 ≤ (32 * bkKy 32 T p n + (T (p + n) - 96)) ∧ ((32 * bkKy 32 T p n + (T (p + n) - 96)) / 32 = 0 ∨ bkLt m ((32 * bkKy 32 T p n + (T (p + n) - 96)) / 32) = true)) = true
    rw [show (32 * bkKy 32 T p n + (T (p + n) - 96)) / 32 = bkKy 32 T p n by omega, decide_eq_true_eq]
    refine ⟨by omega, by omega, by omega, ?_⟩
    cases n with
    | zero => exact .inl rfl
    | succ n =>
      cases m with
      | zero => omega
      | succ m => exact .inr (bkLt_ky (by omega) h.1)
def bkNv (k : Int) : Prop := bkUn 7 (bkCv 7 k) = k ∧ bkCv 7 (bkUn 7 (bkCv 7 k)) = bkCv 7 k ∧ bkLt 7 k = true
theorem bkNv_ky {T : Int → Int} {p : Int} {n : Nat} (hp : 0 < n) (hn : n ≤ 7) (h : bkEv (fun j => bkSm (T j)) p n = true) : bkNv (bkKy 32 T p n) := by
  unfold bkNv
  rw [bkCv_ky 7 hn h, bkUn_ky 7 hn h, bkCv_ky 7 hn h]
  refine ⟨rfl, rfl, ?_⟩
  obtain ⟨k, rfl⟩ : ∃ k, n = k + 1 := ⟨n - 1, by omega⟩
  exact bkLt_ky (m := 6) (by omega) h
theorem bkNv_inj {k l : Int} (hk : bkNv k) (hl : bkNv l) : bkCv 7 k = bkCv 7 l ↔ k = l :=
  ⟨fun h => by rw [← hk.1, h, hl.1], fun h => by rw [h]⟩
/-- the words: the class's code, the reference's code and number, in the class's order -/
def bkWt (w : Nat) : Int := [17171758, 394692, 653969509, 6591876, 435596, 17484389, 398548, 19176724, 9317, 140531, 395059, 19378579, 654910919, 26379859, 498, 1476, 14836, 23732, 463922, 624037, 1130181, 24627848, 273980692, 3491175588, 492210354].getD w 0
def bkWz (w : Nat) : Int := [8740238, 237307, 281027399, 3369766, 262776, 8930039, 240023, 9748424, 6647, 85501, 237619, 9870274, 281493529, 13385674, 423, 1111, 10631, 16922, 279252, 375062, 582341, 12532058, 117630947, 1277864968, 212302449].getD w 0
def bkWn (w : Nat) : Int := [0, 1, 2, 3, 4, 5, 15, 16, 6, 7, 8, 9, 10, 11, 12, 13, 14, 17, 18, 19, 20, 21, 22, 23, 24].getD w 0
theorem bkWt_v : ∀ w : Nat, w < 25 → bkNv (bkWt w) ∧ bkCv 7 (bkWt w) = bkWz w := by
  unfold bkNv
  decide +kernel
theorem bkWt_d : ∀ w : Nat, w < 25 → ∀ v : Nat, v < 25 → bkWt w = bkWt v → w = v := by decide +kernel
theorem bkWn_i : ∀ a : Nat, a < 25 → ∃ w : Nat, w < 25 ∧ bkWn w = a := by decide +kernel
theorem bkIx_wd {f : Int → Int} {k : Int} (hf : ∀ w : Nat, w < 25 → f w = bkWt w) {w : Nat} (hw : w < 25) : bkIx f k 25 = w ↔ k = bkWt w := by
  constructor
  · intro h
    by_cases e : k = bkWt w
    · exact e
    · exfalso
      by_cases q : ∃ v : Nat, v < 25 ∧ k = bkWt v
      · obtain ⟨v, hv, hk⟩ := q
        rw [bkIx_at (i := v) (by rw [hf v hv, hk]) (fun j hj z => by rw [hf j (by omega), hk] at z; have := bkWt_d j (by omega) v hv z; omega) hv] at h
        have : v = w := by omega
        exact e (this ▸ hk)
      · rw [bkIx_no fun j hj z => q ⟨j, hj, by rw [← z, hf j hj]⟩] at h
        omega
  · intro h
    exact bkIx_at (by rw [hf w hw, h]) (fun j hj z => by rw [hf j (by omega), h] at z; have := bkWt_d j (by omega) w hw z; omega) hw
theorem bkIx_nm {f : Int → Int} {k : Int} (hf : ∀ w : Nat, w < 25 → f w = bkWt w) : bkIx f k 25 = -1 ↔ ∀ w : Nat, w < 25 → k ≠ bkWt w := by
  constructor
  · intro h w hw e
    rw [(bkIx_wd hf hw).2 e] at h
    omega
  · intro h
    exact bkIx_no fun j hj z => h j hj (by rw [← z, hf j hj])
def bkWq (a : Nat) : Int := [8740238, 237307, 281027399, 3369766, 262776, 8930039, 6647, 85501, 237619, 9870274, 281493529, 13385674, 423, 1111, 10631, 240023, 9748424, 16922, 279252, 375062, 582341, 12532058, 117630947, 1277864968, 212302449].getD a 0
theorem bkWq_z : ∀ w : Nat, w < 25 → bkWq (bkWn w).toNat = bkWz w ∧ 0 ≤ bkWn w ∧ bkWn w < 25 := by decide +kernel
theorem S168q {d : Nat} {Q : bk_Q} {M : bk_M} {a : Int} (h : 0 ≤ a ∧ a < 25) : bk_C (d + 2) 0 168 [bk_i a] M Q ↔ Q 0 (bkWq a.toNat) M := by
  refine bk_det (fun Q hQ => ?_) Q
  rw [E_168]
  exact ⟨fun z => (by subst z; simpa [E_169, L_169_38, bk_r64, bkWq] using hQ), fun _ => ⟨fun z => (by subst z; simpa [E_169, L_169_38, bk_r64, bkWq] using hQ), fun _ => ⟨fun z => (by subst z; simpa [E_169, L_169_38, bk_r64, bkWq] using hQ), fun _ => ⟨fun z => (by subst z; simpa [E_169, L_169_38, bk_r64, bkWq] using hQ), fun _ => ⟨fun z => (by subst z; simpa [E_169, L_169_38, bk_r64, bkWq] using hQ), fun _ => ⟨fun z => (by subst z; simpa [E_169, L_169_38, bk_r64, bkWq] using hQ), fun _ => ⟨fun z => (by subst z; simpa [E_169, L_169_38, bk_r64, bkWq] using hQ), fun _ => ⟨fun z => (by subst z; simpa [E_169, L_169_38, bk_r64, bkWq] using hQ), fun _ => ⟨fun z => (by subst z; simpa [E_169, L_169_38, bk_r64, bkWq] using hQ), fun _ => ⟨fun z => (by subst z; simpa [E_169, L_169_38, bk_r64, bkWq] using hQ), fun _ => ⟨fun z => (by subst z; simpa [E_169, L_169_38, bk_r64, bkWq] using hQ), fun _ => ⟨fun z => (by subst z; simpa [E_169, L_169_38, bk_r64, bkWq] using hQ), fun _ => ⟨fun z => (by subst z; simpa [E_169, L_169_38, bk_r64, bkWq] using hQ), fun _ => ⟨fun z => (by subst z; simpa [E_169, L_169_38, bk_r64, bkWq] using hQ), fun _ => ⟨fun z => (by subst z; simpa [E_169, L_169_38, bk_r64, bkWq] using hQ), fun _ => ⟨fun z => (by subst z; simpa [E_169, L_169_38, bk_r64, bkWq] using hQ), fun _ => ⟨fun z => (by subst z; simpa [E_169, L_169_38, bk_r64, bkWq] using hQ), fun _ => ⟨fun z => (by subst z; simpa [E_169, L_169_38, bk_r64, bkWq] using hQ), fun _ => ⟨fun z => (by subst z; simpa [E_169, L_169_38, bk_r64, bkWq] using hQ), fun _ => ⟨fun z => (by subst z; simpa [E_169, L_169_38, bk_r64, bkWq] using hQ), fun _ => ⟨fun z => (by subst z; simpa [E_169, L_169_38, bk_r64, bkWq] using hQ), fun _ => ⟨fun z => (by subst z; simpa [E_169, L_169_38, bk_r64, bkWq] using hQ), fun _ => ⟨fun z => (by subst z; simpa [E_169, L_169_38, bk_r64, bkWq] using hQ), fun _ => ⟨fun z => (by subst z; simpa [E_169, L_169_38, bk_r64, bkWq] using hQ), fun _ => (by have z : a = 24 := (by omega); subst z; simpa [E_169, L_169_38, bk_r64, bkWq] using hQ)⟩⟩⟩⟩⟩⟩⟩⟩⟩⟩⟩⟩⟩⟩⟩⟩⟩⟩⟩⟩⟩⟩⟩⟩
theorem S168 {d : Nat} {Q : bk_Q} {M : bk_M} {w : Nat} (hw : w < 25) {a : Int} (ha : a = bkWn w) : bk_C (d + 2) 0 168 [bk_i a] M Q ↔ Q 0 (bkWz w) M := by
  obtain ⟨h1, h2, h3⟩ := bkWq_z w hw
  rw [S168q (by omega), ha, h1]
