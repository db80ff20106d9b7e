theorem nb_i {x : Int} (h : bk_r32 x) : (Int32.ofInt x).toInt = x := Int32.toInt_ofInt_of_le (by unfold bk_r32 at h; omega) (by unfold bk_r32 at h; omega)
theorem nb_l {x : Int} (h : bk_r64 x) : (Int64.ofInt x).toInt = x := Int64.toInt_ofInt_of_le (by unfold bk_r64 at h; omega) (by unfold bk_r64 at h; omega)
theorem nb_lt {x y : Int} (hx : bk_r32 x) (hy : bk_r32 y) : Int32.ofInt x < Int32.ofInt y ↔ x < y := by rw [Int32.lt_iff_toInt_lt, nb_i hx, nb_i hy]
theorem nb_le {x y : Int} (hx : bk_r32 x) (hy : bk_r32 y) : Int32.ofInt x ≤ Int32.ofInt y ↔ x ≤ y := by rw [Int32.le_iff_toInt_le, nb_i hx, nb_i hy]
theorem nb_eq {x y : Int} (hx : bk_r32 x) (hy : bk_r32 y) : Int32.ofInt x = Int32.ofInt y ↔ x = y := by rw [← Int32.toInt_inj, nb_i hx, nb_i hy]
theorem nb_r0 : bk_r32 0 := by unfold bk_r32; omega
theorem nb_z : (0 : Int32) = Int32.ofInt 0 := rfl
theorem nb_clamp {j : Int} (h : bk_r32 j) : (Int32.ofInt j).toNatClampNeg = j.toNat := by
  show (Int32.ofInt j).toInt.toNat = _
  rw [nb_i h]
theorem nb_in {j : Int} {n : Nat} (h : bk_r32 j) (h0 : 0 ≤ j) (h1 : j < n) : vp_in (Int32.ofInt j) n := by
  unfold vp_in
  rw [nb_z, nb_lt h nb_r0, nb_clamp h]
  omega
theorem nb_div {x y : Int} (hx : bk_r32 x) (hy : bk_r32 y) (h0 : 0 ≤ x) (h1 : 0 < y) : Int32.ofInt x / Int32.ofInt y = Int32.ofInt (x / y) := by
  have hr : bk_r32 (x / y) := by
    unfold bk_r32 at *
    have := Int.ediv_nonneg h0 (Int.le_of_lt h1)
    have := Int.ediv_le_self y h0
    omega
  rw [← Int32.toInt_inj, Int32.toInt_div, nb_i hx, nb_i hy, nb_i hr, Int.tdiv_eq_ediv_of_nonneg h0]
  unfold bk_r32 at hr
  exact Int.bmod_eq_of_le (by omega) (by omega)
theorem nb_rem {x y : Int} (hx : bk_r32 x) (hy : bk_r32 y) (h0 : 0 ≤ x) (h1 : 0 < y) : Int32.ofInt x - Int32.ofInt x / Int32.ofInt y * Int32.ofInt y = Int32.ofInt (x % y) := by
  rw [nb_div hx hy h0 h1, ← Int32.ofInt_mul, ← Int32.ofInt_sub, Int.emod_def, Int.mul_comm]
theorem nb_div_r {x y : Int} (hx : bk_r32 x) (h0 : 0 ≤ x) (h1 : 0 < y) : bk_r32 (x / y) := by
  unfold bk_r32 at *
  have := Int.ediv_nonneg h0 (Int.le_of_lt h1)
  have := Int.ediv_le_self y h0
  omega
theorem nb_rem_r {x y : Int} (hy : bk_r32 y) (h1 : 0 < y) : bk_r32 (x % y) := by
  unfold bk_r32 at *
  have := Int.emod_nonneg x (Int.ne_of_gt h1)
  have := Int.emod_lt_of_pos x h1
  omega
theorem nl_div {x y : Int} (hx : bk_r64 x) (hy : bk_r64 y) (h0 : 0 ≤ x) (h1 : 0 < y) : Int64.ofInt x / Int64.ofInt y = Int64.ofInt (x / y) := by
  have hr : bk_r64 (x / y) := by
    unfold bk_r64 at *
    have := Int.ediv_nonneg h0 (Int.le_of_lt h1)
    have := Int.ediv_le_self y h0
    omega
  rw [← Int64.toInt_inj, Int64.toInt_div, nb_l hx, nb_l hy, nb_l hr, Int.tdiv_eq_ediv_of_nonneg h0]
  unfold bk_r64 at hr
  exact Int.bmod_eq_of_le (by omega) (by omega)
theorem nl_rem {x y : Int} (hx : bk_r64 x) (hy : bk_r64 y) (h0 : 0 ≤ x) (h1 : 0 < y) : Int64.ofInt x - Int64.ofInt x / Int64.ofInt y * Int64.ofInt y = Int64.ofInt (x % y) := by
  rw [nl_div hx hy h0 h1, ← Int64.ofInt_mul, ← Int64.ofInt_sub, Int.emod_def, Int.mul_comm]
theorem nl_div_r {x y : Int} (hx : bk_r64 x) (h0 : 0 ≤ x) (h1 : 0 < y) : bk_r64 (x / y) := by
  unfold bk_r64 at *
  have := Int.ediv_nonneg h0 (Int.le_of_lt h1)
  have := Int.ediv_le_self y h0
  omega
theorem nl_rem_r {x y : Int} (hy : bk_r64 y) (h1 : 0 < y) : bk_r64 (x % y) := by
  unfold bk_r64 at *
  have := Int.emod_nonneg x (Int.ne_of_gt h1)
  have := Int.emod_lt_of_pos x h1
  omega
theorem nb_and (x y : Int) : Int32.ofInt x &&& Int32.ofInt y = Int32.ofInt (bk_and x y) := by
  apply Int32.toBitVec.inj
  rw [Int32.toBitVec_and, Int32.toBitVec_ofInt, Int32.toBitVec_ofInt, Int32.toBitVec_ofInt, bk_and, BitVec.ofInt_toInt]
theorem nb_or (x y : Int) : Int32.ofInt x ||| Int32.ofInt y = Int32.ofInt (bk_or x y) := by
  apply Int32.toBitVec.inj
  rw [Int32.toBitVec_or, Int32.toBitVec_ofInt, Int32.toBitVec_ofInt, Int32.toBitVec_ofInt, bk_or, BitVec.ofInt_toInt]
theorem nb_xor (x y : Int) : Int32.ofInt x ^^^ Int32.ofInt y = Int32.ofInt (bk_xor x y) := by
  apply Int32.toBitVec.inj
  rw [Int32.toBitVec_xor, Int32.toBitVec_ofInt, Int32.toBitVec_ofInt, Int32.toBitVec_ofInt, bk_xor, BitVec.ofInt_toInt]
theorem nl_and (x y : Int) : Int64.ofInt x &&& Int64.ofInt y = Int64.ofInt (bk_andL x y) := by
  apply Int64.toBitVec.inj
  rw [Int64.toBitVec_and, Int64.toBitVec_ofInt, Int64.toBitVec_ofInt, Int64.toBitVec_ofInt, bk_andL, BitVec.ofInt_toInt]
theorem nl_or (x y : Int) : Int64.ofInt x ||| Int64.ofInt y = Int64.ofInt (bk_orL x y) := by
  apply Int64.toBitVec.inj
  rw [Int64.toBitVec_or, Int64.toBitVec_ofInt, Int64.toBitVec_ofInt, Int64.toBitVec_ofInt, bk_orL, BitVec.ofInt_toInt]
theorem nb_bvr (b : BitVec 32) : bk_r32 b.toInt := by
  have h1 := BitVec.toInt_lt (x := b)
  have h2 := BitVec.le_toInt (x := b)
  unfold bk_r32
  omega
theorem nl_bvr (b : BitVec 64) : bk_r64 b.toInt := by
  have h1 := BitVec.toInt_lt (x := b)
  have h2 := BitVec.le_toInt (x := b)
  unfold bk_r64
  omega
theorem nb_w32 (z : Int) : Int32.ofInt (bk_w32 z) = Int32.ofInt z := by
  rw [← Int32.toInt_inj, Int32.toInt_ofInt, Int32.toInt_ofInt, bk_w32]
  exact Int.bmod_bmod
theorem nb_w32_r (z : Int) : bk_r32 (bk_w32 z) := by
  unfold bk_w32 bk_r32
  have h1 := Int.bmod_lt (x := z) (m := 4294967296) (by omega)
  have h2 := Int.le_bmod (x := z) (m := 4294967296) (by omega)
  omega
theorem nl_w64 (z : Int) : Int64.ofInt (bk_w64 z) = Int64.ofInt z := by
  rw [← Int64.toInt_inj, Int64.toInt_ofInt, Int64.toInt_ofInt, bk_w64]
  exact Int.bmod_bmod
theorem nl_w64_r (z : Int) : bk_r64 (bk_w64 z) := by
  unfold bk_w64 bk_r64
  have h1 := Int.bmod_lt (x := z) (m := 18446744073709551616) (by omega)
  have h2 := Int.le_bmod (x := z) (m := 18446744073709551616) (by omega)
  omega
theorem nb_sh {y : Int} (h0 : 0 ≤ y) (h1 : y < 32) : ((Int32.ofInt y &&& 31).toBitVec.smod 32).toNat = y.toNat := by
  have key : ∀ n : Nat, n < 32 → ((Int32.ofInt (n : Int) &&& 31).toBitVec.smod 32).toNat = n := by decide +kernel
  have := key y.toNat (by omega)
  rwa [show ((y.toNat : Nat) : Int) = y by omega] at this
theorem nb_shl {x y : Int} (h0 : 0 ≤ y) (h1 : y < 32) : Int32.ofInt x <<< (Int32.ofInt y &&& 31) = Int32.ofInt (x * 2 ^ y.toNat) := by
  apply Int32.toBitVec.inj
  rw [Int32.toBitVec_shiftLeft, Int32.toBitVec_ofInt, Int32.toBitVec_ofInt, BitVec.ofInt_mul]
  show BitVec.ofInt 32 x <<< ((Int32.ofInt y &&& 31).toBitVec.smod 32).toNat = _
  rw [nb_sh h0 h1, BitVec.shiftLeft_eq_mul_twoPow]
  congr 1
  have key : ∀ n : Nat, n < 32 → BitVec.twoPow 32 n = BitVec.ofInt 32 (2 ^ n) := by decide +kernel
  exact key y.toNat (by omega)
theorem nb_shr {x y : Int} (hx : bk_r32 x) (h0 : 0 ≤ y) (h1 : y < 32) : Int32.ofInt x >>> (Int32.ofInt y &&& 31) = Int32.ofInt (x / 2 ^ y.toNat) := by
  have h := pk_shr (Int32.ofInt x) (Int32.ofInt y &&& 31) y.toNat (nb_sh h0 h1)
  rw [← Int32.ofInt_toInt (Int32.ofInt x >>> (Int32.ofInt y &&& 31)), h, nb_i hx, Int.shiftRight_eq_div_pow]
  rfl
theorem nb_shr_r {x : Int} {n : Nat} (hx : bk_r32 x) : bk_r32 (x / 2 ^ n) := by
  unfold bk_r32 at *
  have hp : (0 : Int) < 2 ^ n := Int.pow_pos (by omega)
  have h1 : x / 2 ^ n ≤ 2147483647 := by
    rcases Int.lt_or_le x 0 with h | h
    · have := Int.ediv_neg_of_neg_of_pos h hp; omega
    · have := Int.ediv_le_self (2 ^ n) h; omega
  have h2 : -2147483648 ≤ x / 2 ^ n := by
    apply Int.le_ediv_of_mul_le hp
    have : (1 : Int) ≤ 2 ^ n := hp
    have := Int.mul_le_mul_of_nonpos_right this (show (-2147483648 : Int) ≤ 0 by omega)
    omega
  exact ⟨h2, h1⟩
theorem nb_ush {y : Int} (h0 : 0 ≤ y) (h1 : y < 32) : (((Int32.ofInt y).toUInt32 &&& Int32.toUInt32 31).toBitVec % 32).toNat = y.toNat := by
  have key : ∀ n : Nat, n < 32 → (((Int32.ofInt (n : Int)).toUInt32 &&& Int32.toUInt32 31).toBitVec % 32).toNat = n := by decide +kernel
  have := key y.toNat (by omega)
  rwa [show ((y.toNat : Nat) : Int) = y by omega] at this
theorem nb_ushr {x y : Int} (h0 : 0 ≤ y) (h1 : y < 32) : ((Int32.ofInt x).toUInt32 >>> ((Int32.ofInt y).toUInt32 &&& Int32.toUInt32 31)).toInt32 = Int32.ofInt (bk_ushr x y) := by
  apply Int32.toBitVec.inj
  apply BitVec.eq_of_toNat_eq
  rw [pk_ushr _ _ y.toNat (nb_ush h0 h1), Int32.toBitVec_ofInt, Int32.toBitVec_ofInt, BitVec.toNat_ofInt, BitVec.toNat_ofInt]
  unfold bk_ushr
  have h2 : (((2 : Nat) ^ 32 : Nat) : Int) = 4294967296 := by decide
  rw [h2]
  by_cases e : y = 0
  · subst e
    simp
  · rw [if_neg e]
    obtain ⟨u, hu, hl⟩ : ∃ u : Nat, x % 4294967296 = (u : Int) ∧ u < 4294967296 := ⟨(x % 4294967296).toNat, by omega, by omega⟩
    rw [hu]
    have h3 : (u : Int) / 2 ^ y.toNat = ((u / 2 ^ y.toNat : Nat) : Int) := by
      rw [Int.natCast_ediv]; congr 1
    rw [h3]
    have h4 := Nat.div_le_self u (2 ^ y.toNat)
    rw [Int.toNat_natCast]
    generalize u / 2 ^ y.toNat = v at *
    omega
theorem nb_ushr_r {x y : Int} (hx : bk_r32 x) (h0 : 0 ≤ y) (h1 : y < 32) : bk_r32 (bk_ushr x y) := by
  unfold bk_ushr
  by_cases e : y = 0
  · rw [if_pos e]; exact hx
  · rw [if_neg e]
    have hp : (0 : Int) < 2 ^ y.toNat := Int.pow_pos (by omega)
    have h2 : (2 : Int) ≤ 2 ^ y.toNat := by
      obtain ⟨n, hn⟩ : ∃ n, y.toNat = n + 1 := ⟨y.toNat - 1, by omega⟩
      rw [hn, Int.pow_succ]
      have : (0 : Int) < 2 ^ n := Int.pow_pos (by omega)
      omega
    have h3 := Int.emod_nonneg x (show (4294967296 : Int) ≠ 0 by omega)
    have h4 := Int.emod_lt_of_pos x (show (0 : Int) < 4294967296 by omega)
    have h5 : x % 4294967296 / 2 ^ y.toNat < 2147483648 := by
      apply Int.ediv_lt_of_lt_mul hp
      have := Int.mul_le_mul_of_nonneg_left h2 (show (0 : Int) ≤ 2147483648 by omega)
      omega
    have h6 := Int.ediv_nonneg h3 (Int.le_of_lt hp)
    unfold bk_r32
    omega
theorem nl_sh {y : Int} (h0 : 0 ≤ y) (h1 : y < 64) : (((Int32.ofInt y).toInt64 &&& 63).toBitVec.smod 64).toNat = y.toNat := by
  have key : ∀ n : Nat, n < 64 → (((Int32.ofInt (n : Int)).toInt64 &&& 63).toBitVec.smod 64).toNat = n := by decide +kernel
  have := key y.toNat (by omega)
  rwa [show ((y.toNat : Nat) : Int) = y by omega] at this
theorem nl_shl {x y : Int} (h0 : 0 ≤ y) (h1 : y < 64) : Int64.ofInt x <<< ((Int32.ofInt y).toInt64 &&& 63) = Int64.ofInt (x * 2 ^ y.toNat) := by
  apply Int64.toBitVec.inj
  rw [Int64.toBitVec_shiftLeft, Int64.toBitVec_ofInt, Int64.toBitVec_ofInt, BitVec.ofInt_mul]
  show BitVec.ofInt 64 x <<< (((Int32.ofInt y).toInt64 &&& 63).toBitVec.smod 64).toNat = _
  rw [nl_sh h0 h1, BitVec.shiftLeft_eq_mul_twoPow]
  congr 1
  have key : ∀ n : Nat, n < 64 → BitVec.twoPow 64 n = BitVec.ofInt 64 (2 ^ n) := by decide +kernel
  exact key y.toNat (by omega)
theorem nl_shr {x y : Int} (hx : bk_r64 x) (h0 : 0 ≤ y) (h1 : y < 64) : Int64.ofInt x >>> ((Int32.ofInt y).toInt64 &&& 63) = Int64.ofInt (x / 2 ^ y.toNat) := by
  have h : (Int64.ofInt x >>> ((Int32.ofInt y).toInt64 &&& 63)).toInt = (Int64.ofInt x).toInt >>> y.toNat := by
    show ((Int64.ofInt x).toBitVec.sshiftRight (((Int32.ofInt y).toInt64 &&& 63).toBitVec.smod 64).toNat).toInt = _
    rw [nl_sh h0 h1, BitVec.toInt_sshiftRight]
    rfl
  rw [← Int64.ofInt_toInt (Int64.ofInt x >>> _), h, nb_l hx, Int.shiftRight_eq_div_pow]
  rfl
theorem nl_shr_r {x : Int} {n : Nat} (hx : bk_r64 x) : bk_r64 (x / 2 ^ n) := by
  unfold bk_r64 at *
  have hp : (0 : Int) < 2 ^ n := Int.pow_pos (by omega)
  have h1 : x / 2 ^ n ≤ 9223372036854775807 := by
    rcases Int.lt_or_le x 0 with h | h
    · have := Int.ediv_neg_of_neg_of_pos h hp; omega
    · have := Int.ediv_le_self (2 ^ n) h; omega
  have h2 : -9223372036854775808 ≤ x / 2 ^ n := by
    apply Int.le_ediv_of_mul_le hp
    have : (1 : Int) ≤ 2 ^ n := hp
    have := Int.mul_le_mul_of_nonpos_right this (show (-9223372036854775808 : Int) ≤ 0 by omega)
    omega
  exact ⟨h2, h1⟩
theorem nl_lcmp {x y : Int} (hx : bk_r64 x) (hy : bk_r64 y) : lg_cmp (Int64.ofInt x) (Int64.ofInt y) = Int32.ofInt (bk_lcmp x y) := by
  unfold lg_cmp bk_lcmp
  simp only [gt_iff_lt, Int64.lt_iff_toInt_lt, ← Int64.toInt_inj, nb_l hx, nb_l hy]
  rcases Int.lt_trichotomy x y with h | h | h
  · rw [if_neg (by omega), if_neg (by omega), if_pos h]; rfl
  · rw [if_neg (by omega), if_pos h, if_neg (by omega), if_pos h]; rfl
  · rw [if_pos h, if_neg (by omega), if_neg (by omega)]; rfl
theorem nb_i2l {x : Int} (hx : bk_r32 x) : (Int32.ofInt x).toInt64 = Int64.ofInt x := by
  unfold bk_r32 at hx
  exact Int32.toInt64_ofInt hx.1 hx.2
theorem nb_8 {v : Int} (h1 : -128 ≤ v) (h2 : v ≤ 127) : (Int8.ofInt v).toInt32 = Int32.ofInt v := by
  rw [← Int32.ofInt_int8ToInt, Int8.toInt_ofInt_of_le (by omega) (by omega)]
theorem nb_16 {v : Int} (h1 : -32768 ≤ v) (h2 : v ≤ 32767) : (Int16.ofInt v).toInt32 = Int32.ofInt v := by
  rw [← Int32.ofInt_int16ToInt, Int16.toInt_ofInt_of_le (by omega) (by omega)]
theorem nl_lcmp_r (x y : Int) : bk_r32 (bk_lcmp x y) := by
  unfold bk_lcmp bk_r32
  by_cases h : x < y
  · rw [if_pos h]; omega
  · rw [if_neg h]
    by_cases h2 : x = y
    · rw [if_pos h2]; omega
    · rw [if_neg h2]; omega
theorem nl_fin : ∀ n : Fin 2, Int64.ofNat (n : Nat) = Int64.ofInt ((n : Nat) : Int) := by decide +kernel
theorem nb_beq {a b : Nat} (h : a ≠ b) : Nat.beq a b = false := by
  cases hq : Nat.beq a b with
  | false => rfl
  | true => exact absurd (Nat.eq_of_beq_eq_true hq) h
theorem nb_beqT {a b : Nat} (h : Nat.beq a b = true) : a = b := Nat.eq_of_beq_eq_true h
