/-! putText's calls of length and charAt. -/
def bk_tB (i : Nat) : Nat → Int32 := fun j => (((List.range 4).map fun i => (bk_txt i).map Int32.ofInt).getD i []).getD j 0
theorem bk_tlen : ∀ i, i < 4 → ((List.range 4).map fun i => (bk_txt i).length).getD i 0 = (bk_txt i).length ∧ Int32.ofNat (bk_txt i).length = Int32.ofInt (Int.ofNat (bk_txt i).length) ∧ (-2147483648 ≤ Int.ofNat (bk_txt i).length ∧ Int.ofNat (bk_txt i).length ≤ 2147483647) := by decide +kernel
theorem bk_tch1 : ∀ i, i < 4 → ∀ n, n < (bk_txt i).length → ¬ Int32.ofInt (n : Int) < 0 ∧ Int32.ofInt (n : Int) < Int32.ofNat (bk_txt i).length ∧ ¬ (Int32.ofInt (n : Int) < 0 ∨ (bk_txt i).length ≤ (Int32.ofInt (n : Int)).toNatClampNeg) := by decide +kernel
theorem bk_tch2 : ∀ i, i < 4 → ∀ n, n < (bk_txt i).length → (((bk_tB i (Int32.ofInt (n : Int)).toNatClampNeg) &&& 255).toUInt32 % 65536).toInt32 = Int32.ofInt ((bk_txt i).getD n 0) ∧ 0 ≤ (bk_txt i).getD n 0 ∧ (bk_txt i).getD n 0 ≤ 127 := by decide +kernel
theorem bk_tch3 : ∀ i, i < 4 → ∀ n, n < (bk_txt i).length → (Int32.ofInt ((bk_txt i).getD n 0)).toUInt32.toUInt16.toUInt32.toInt32 = Int32.ofInt ((bk_txt i).getD n 0) := by decide +kernel
theorem bk_nar : ∀ i, i < 4 → ∀ n, n < (bk_txt i).length → narrow .char (.int (Int32.ofInt ((bk_txt i).getD n 0))) = .int (Int32.ofInt ((bk_txt i).getD n 0)) := by decide +kernel
theorem bk_Sw_of {ba : bk_B} {aK aV : Nat → Nat} {U : State} {H : Heap} (hH : U.heap = H) (h4 : vk_S 4 ((List.range 4).map fun i => (bk_txt i).length) ((List.range 4).map fun i => (bk_txt i).map Int32.ofInt) aK aV (bk_A ba) U H)
    (h7 : va_Z "java/lang/String" "COMPACT_STRINGS" "Z" (.int 1) (bk_A ba) U H) (h8 : va_Zq "jdk/internal/util/Preconditions" "SIOOBE_FORMATTER" "Ljava/util/function/BiFunction;" (bk_A ba) U H) {i : Nat} (hi : i < 4) : bk_Sw (aK i) (aV i) (bk_txt i).length (bk_tB i) U := by
  subst hH
  have hN : ∀ q, bk_Nn q → bk_A ba q := fun _ h => h.elim
  obtain ⟨g1, g2, g3, g4⟩ := h4.1 i hi
  rw [(bk_tlen i hi).1] at g4
  exact ⟨g1.narrow hN, g2.narrow hN, g3.narrow hN, g4.narrow hN, h7.narrow hN, va_Zq.narrow h8 hN⟩
theorem bk_tx_all (l : Launch) (ba : bk_B) (b0 : Nat) (aK : Nat → Nat) (cA : Nat → ClassId) (D : va_G) (sc : Nat → Int → Int) : bk_Tx l ba b0 aK cA D sc := by
  intro p e R s m args below meth c cc own nL mc ms Z Ca Q K b pc ls st M j k C0 hRf hRl hmc hj hd h hk
  obtain ⟨hx, hb, hml, hown, hts, hK, hSt, hR⟩ := C0
  obtain ⟨-, -, -, ⟨aV, h4⟩, -, -, h7, h8, -, -⟩ := hSt
  rcases hj with ⟨rfl, hpl⟩ | ⟨rfl, hpl⟩
  · obtain ⟨rfl, rfl⟩ : own = 2 ∧ k = 55 := by
      rcases List.mem_cons.mp hpl with z | z
      · cases z; exact ⟨rfl, rfl⟩
      · cases z
    cases st with
    | nil => exact (show False from h).elim
    | cons v0 st' =>
    rcases v0 with z | z | ⟨k0, i⟩
    · exact (show False from h).elim
    · exact (show False from h).elim
    have h9 : (bif Nat.beq k0 14 && Nat.ble st'.length 4 then K b ls (.inl (Int.ofNat (bk_txt i).length) :: st') M else False) := h
    by_cases hcond : (Nat.beq k0 14 && Nat.ble st'.length 4) = true
    rotate_left
    · rw [Bool.eq_false_iff.mpr hcond] at h9
      exact h9.elim
    rw [hcond] at h9
    rw [Bool.and_eq_true] at hcond
    have hle := Nat.le_of_ble_eq_true hcond.2
    obtain rfl : k0 = 14 := nb_beqT hcond.1
    intro hs hl hn hM h13 H locs cells slots lsr hP hS hc hsl hL
    have hi : i < 4 := by
      rcases (show (14 : Nat) = 13 ∨ (14 = 14 ∧ i < 4) ∨ (14, i) ∈ ba.2 from hs (.inr (.inr (14, i))) (by simp)) with z | z | z
      · cases z
      · exact z.2
      · have := hR.2.2.2.2.1 _ z
        have : (14 : Nat) < 13 ∨ 16 ≤ 14 := this
        omega
    have hs' : ∀ w ∈ st', bk_okv ba w := fun w hw => hs w (by simp [hw])
    have hcat := bk_cats (ba := ba) (b0 := b0) (aK := aK) st'
    obtain ⟨t1, t2, t3⟩ := bk_tlen i hi
    obtain ⟨cell, o1, o2, o3, -⟩ := ((h4.kept hS.2.1).1 i hi).1
    show W p l e R s m args below meth c H locs cells slots Z (F0 m pc lsr (.ref (aK i) :: st'.map (bk_rv ba b0 aK)))
    refine va_calli (va_runV (As := []) (rest := st'.map (bk_rv ba b0 aK)) ⟨hx, hb, hml, hown, hts⟩ (bk_c_length l (aK i) (aV i) (bk_txt i).length (bk_tB i)) (cwV 0 hts (bk_gV (bk_tw 0 rfl) (bk_tw 1 rfl) (bk_tw 2 rfl) (bk_tw 3 rfl) (bk_wS_in (bk_tw 6 rfl))) rfl rfl rfl (by decide +kernel) ⟨by show 1 + 1 ≤ R.frames; omega, by show 8 + (1 + 11) + 30 ≤ R.locals; omega⟩)
      ⟨bk_Sw_blind, ⟨cell, o1, o2, o3⟩, fun U hU hW => ⟨rfl, bk_Sw_of hU (vk_S.moved hW.alike (h4.kept hS.2.1)) ((h7.kept hS.2.1).moved hW.alike) (va_Zq.moved hW.alike (va_Zq.kept h8 hS.2.1)) hi⟩⟩ rfl rfl hL.1 rfl (lv_room (by omega)) hd ⟨by omega, by omega⟩) hS (fun _ _ z => z.elim) (fun _ z => z.elim) (fun r u t H1 locs1 ht hvm hw hB hz1 hk1 hS1 => ?_)
    rw [hw, t2]
    exact hk _ _ _ _ h9 (bk_ocons (v := .inl (Int.ofNat (bk_txt i).length)) ⟨t3.1, t3.2⟩ hs') hl hn hM h13 H1 locs1 cells slots lsr (fun n q hq => (hP n q hq).kept (hk1 _ (hP n q hq).lt (fun z => z))) hS1 hc hsl hL
  · obtain ⟨rfl, rfl⟩ : own = 2 ∧ k = 61 := by
      rcases List.mem_cons.mp hpl with z | z
      · cases z; exact ⟨rfl, rfl⟩
      · cases z
    cases st with
    | nil => exact (show False from h).elim
    | cons v1 st1 =>
    rcases v1 with x | z
    rotate_left
    · exact (show False from h).elim
    cases st1 with
    | nil => exact (show False from h).elim
    | cons v0 st' =>
    rcases v0 with z | z | ⟨k0, i⟩
    · exact (show False from h).elim
    · exact (show False from h).elim
    have h9 : (bif Nat.beq k0 14 && Nat.ble st'.length 4 then (0 ≤ x ∧ x < Int.ofNat (bk_txt i).length) ∧ K b ls (.inl ((bk_txt i).getD x.toNat 0) :: st') M else False) := h
    by_cases hcond : (Nat.beq k0 14 && Nat.ble st'.length 4) = true
    rotate_left
    · rw [Bool.eq_false_iff.mpr hcond] at h9
      exact h9.elim
    rw [hcond] at h9
    obtain ⟨⟨hx0, hx1⟩, h9⟩ := (show (0 ≤ x ∧ x < Int.ofNat (bk_txt i).length) ∧ K b ls (.inl ((bk_txt i).getD x.toNat 0) :: st') M from h9)
    rw [Bool.and_eq_true] at hcond
    have hle := Nat.le_of_ble_eq_true hcond.2
    obtain rfl : k0 = 14 := nb_beqT hcond.1
    intro hs hl hn hM h13 H locs cells slots lsr hP hS hc hsl hL
    have hi : i < 4 := by
      rcases (show (14 : Nat) = 13 ∨ (14 = 14 ∧ i < 4) ∨ (14, i) ∈ ba.2 from hs (.inr (.inr (14, i))) (by simp)) with z | z | z
      · cases z
      · exact z.2
      · have := hR.2.2.2.2.1 _ z
        have : (14 : Nat) < 13 ∨ 16 ≤ 14 := this
        omega
    have hs' : ∀ w ∈ st', bk_okv ba w := fun w hw => hs w (by simp [hw])
    have hcat := bk_cats (ba := ba) (b0 := b0) (aK := aK) st'
    obtain ⟨n, rfl⟩ := Int.eq_ofNat_of_zero_le hx0
    have hn9 : n < (bk_txt i).length := by have : (n : Int) < ((bk_txt i).length : Int) := hx1; omega
    obtain ⟨t1, t2, t3⟩ := bk_tch1 i hi n hn9
    obtain ⟨t4, t5, t6⟩ := bk_tch2 i hi n hn9
    obtain ⟨cell, o1, o2, o3, -⟩ := ((h4.kept hS.2.1).1 i hi).1
    show W p l e R s m args below meth c H locs cells slots Z (F0 m pc lsr (.int (Int32.ofInt (n : Int)) :: .ref (aK i) :: st'.map (bk_rv ba b0 aK)))
    refine va_calli (va_runV (As := [.int (Int32.ofInt (n : Int))]) (rest := st'.map (bk_rv ba b0 aK)) ⟨hx, hb, hml, hown, hts⟩ (bk_c_charAt l (aK i) (aV i) (bk_txt i).length (bk_tB i) (Int32.ofInt (n : Int)) (Int32.ofInt ((bk_txt i).getD n 0)) t1 t2 t3 t4 (bk_nar i hi n hn9)) (cwV 1 hts (bk_gV (bk_tw 12 rfl) (bk_tw 13 rfl) (bk_tw 14 rfl) (bk_tw 3 rfl) (bk_wS_in (bk_tw 15 rfl))) rfl rfl rfl (by decide +kernel) ⟨by show 3 + 1 ≤ R.frames; omega, by show 8 + (2 + 11) + 90 ≤ R.locals; omega⟩)
      ⟨bk_Sw_blind, ⟨cell, o1, o2, o3⟩, fun U hU hW => ⟨rfl, bk_Sw_of hU (vk_S.moved hW.alike (h4.kept hS.2.1)) ((h7.kept hS.2.1).moved hW.alike) (va_Zq.moved hW.alike (va_Zq.kept h8 hS.2.1)) hi⟩⟩ rfl rfl hL.1 rfl (lv_room (by omega)) hd ⟨by omega, by omega⟩) hS (fun _ _ z => z.elim) (fun _ z => z.elim) (fun r u t H1 locs1 ht hvm hw hB hz1 hk1 hS1 => ?_)
    rw [hw]
    exact hk _ _ _ _ h9 (bk_ocons (v := .inl ((bk_txt i).getD n 0)) ⟨by show (-2147483648 : Int) ≤ (bk_txt i).getD n 0; omega, by show (bk_txt i).getD n 0 ≤ (2147483647 : Int); omega⟩ hs') hl hn hM h13 H1 locs1 cells slots lsr (fun n q hq => (hP n q hq).kept (hk1 _ (hP n q hq).lt (fun z => z))) hS1 hc hsl hL
/-- the contracts of all methods below the law's: nothing is asked any more -/
theorem bk_sound (l : Launch) (ba : bk_B) (b0 : Nat) (aK : Nat → Nat) (cA : Nat → ClassId) (D : va_G) (sc : Nat → Int → Int) : ∀ d, bk_S l ba b0 aK cA D sc d := bk_sound_open (bk_tx_all l ba b0 aK cA D sc) bk_okT_287
