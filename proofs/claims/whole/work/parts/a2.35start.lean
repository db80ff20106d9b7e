/-! The law's entry: the world that the Statement gives. -/
def bk_sc (L : Nat) (xs : Nat → Int32) : Nat → Int → Int := fun i j => if i = 1 then (L : Int) else (xs j.toNat).toInt
theorem bk_sc_O {L : Nat} {xs : Nat → Int32} (h : L ≤ 3072) : bk_scO (bk_sc L xs) := ⟨by show (0 : Int) ≤ (L : Int); omega, by show (L : Int) ≤ 2147483647; omega, fun j _ _ => by
  show bk_r32 (xs j.toNat).toInt
  have h1 := Int32.le_toInt (xs j.toNat)
  have h2 := Int32.toInt_lt (xs j.toNat)
  unfold bk_r32
  omega⟩
def bk_tm (i : Nat) : Term := if i = 4 then .string "BanksDealt$Tape" 19 else .string "BanksDealt$Deed" (bk_tx i).1
def bk_len5 : List Nat := ((List.range 4).map fun i => (bk_txt i).length) ++ [138]
def bk_byt5 : List (List Int32) := ((List.range 4).map fun i => (bk_txt i).map Int32.ofInt) ++ [bk_t5.map Int32.ofInt]
theorem bk_len5_4 : (∀ i, i < 4 → bk_len5.getD i 0 = ((List.range 4).map fun i => (bk_txt i).length).getD i 0 ∧ bk_byt5.getD i [] = ((List.range 4).map fun i => (bk_txt i).map Int32.ofInt).getD i []) ∧ bk_len5.getD 4 0 = 138 ∧ bk_byt5.getD 4 [] = bk_t5.map Int32.ofInt := by decide +kernel
/-- words of the tables that don't ride in bk_W -/
def bk_oW : List Cond := bk_nl.map bk_nw ++ bk_nI.map bk_nIw ++ bk_dl.map Cond.declares ++ [.castable bk_nse bk_nse]
theorem bk_oW_1 : bk_oW.all (fun w => bk_sub [w] tables_1 && w.onTables) = true := by decide +kernel
def bk_sW : List Cond := [.laysStatic Bundle.tN "UNASSIGNED_STACK" Bundle.steD, .laysStatic Bundle.tN "SUPPRESSED_SENTINEL" Bundle.listD, .laysStatic "java/lang/String" "COMPACT_STRINGS" "Z", .laysStatic "jdk/internal/util/Preconditions" "SIOOBE_FORMATTER" "Ljava/util/function/BiFunction;", .initialized Bundle.tN, .initialized "java/lang/String", .initialized "jdk/internal/util/Preconditions",
  .arrayOver (.object "BanksDealt$Plain"), .arrayOver (.object "BanksDealt$Image"), .stringRef RX10 19 bk_tx5, .stringRef RX2 (bk_tx 0).1 (bk_tx 0).2, .stringRef RX2 (bk_tx 1).1 (bk_tx 1).2, .stringRef RX2 (bk_tx 2).1 (bk_tx 2).2, .stringRef RX2 (bk_tx 3).1 (bk_tx 3).2, .arrayClass .int, .arrayClass .long, .arrayClass .boolean]
theorem bk_sW_1 : bk_sW.all (fun w => bk_sub [w] tables_1) = true := by decide +kernel
theorem bk_iW_1 : (List.range 13).all (fun k => bk_sub [.instantiable (bk_R k) (bk_n k)] tables_1) = true := by decide +kernel
abbrev bk_fl9 : List Cond := flatC (Jvm.Cond.and given_1 narrow_1)
def bk_pre5 (i : Nat) : List Cond := [.exactly (bk_tm i) "java/lang/String", .eq (.field (bk_tm i) "java/lang/String" "coder" "B") (.int 0), .arrayOf (.field (bk_tm i) "java/lang/String" "value" "[B") .byte, .eq (.length (.field (bk_tm i) "java/lang/String" "value" "[B")) (.int (Int32.ofNat (bk_len5.getD i 0)))]
theorem bk_pre5_1 : ∀ i, i < 5 → ∀ w ∈ bk_pre5 i, w ∈ bk_fl9 := by decide +kernel
def bk_el (i j : Nat) : Cond := Cond.eq (.elem (.field (bk_tm i) "java/lang/String" "value" "[B") (.int (Int32.ofNat j))) (.int ((bk_byt5.getD i []).getD j 0))
theorem bk_pre5_e0 : (bk_fl9.drop 200).take 8 = (List.range 8).map (bk_el 0) := by decide +kernel
theorem bk_pre5_e1 : (bk_fl9.drop 213).take 9 = (List.range 9).map (bk_el 1) := by decide +kernel
theorem bk_pre5_e2 : (bk_fl9.drop 228).take 7 = (List.range 7).map (bk_el 2) := by decide +kernel
theorem bk_pre5_e3 : (bk_fl9.drop 242).take 4 = (List.range 4).map (bk_el 3) := by decide +kernel
theorem bk_pre5_e4 : (bk_fl9.drop 58).take 138 = (List.range 138).map (bk_el 4) := by decide +kernel
theorem bk_pre5_m {a n i j : Nat} (h : (bk_fl9.drop a).take n = (List.range n).map (bk_el i)) (hj : j < n) : bk_el i j ∈ bk_fl9 := by
  have h1 : bk_el i j ∈ (List.range n).map (bk_el i) := List.mem_map.mpr ⟨j, List.mem_range.mpr hj, rfl⟩
  rw [← h] at h1
  exact List.mem_of_mem_drop (List.mem_of_mem_take h1)
theorem bk_pre5_l : bk_len5 = [8, 9, 7, 4, 138] := by decide +kernel
theorem bk_pre5_2 : ∀ i, i < 5 → ∀ j, j < bk_len5.getD i 0 → bk_el i j ∈ bk_fl9 := fun i hi j hj => by
  rw [bk_pre5_l] at hj
  match i, hi, hj with
  | 0, _, hj => exact bk_pre5_m bk_pre5_e0 hj
  | 1, _, hj => exact bk_pre5_m bk_pre5_e1 hj
  | 2, _, hj => exact bk_pre5_m bk_pre5_e2 hj
  | 3, _, hj => exact bk_pre5_m bk_pre5_e3 hj
  | 4, _, hj => exact bk_pre5_m bk_pre5_e4 hj
theorem bk_pre5_3 : ∀ i, i < 5 → ∀ j, j < 5 → i ≠ j → Cond.not (Cond.eq (bk_tm i) (bk_tm j)) ∈ bk_fl9 ∨ Cond.not (Cond.eq (bk_tm j) (bk_tm i)) ∈ bk_fl9 := by decide +kernel
theorem bk_pre_s : Cond.eq (.static "java/lang/String" "COMPACT_STRINGS" "Z") (.int 1) ∈ bk_fl9 ∧ Cond.isRef (.static "jdk/internal/util/Preconditions" "SIOOBE_FORMATTER" "Ljava/util/function/BiFunction;") ∈ bk_fl9 ∧ Cond.isRef (.static Bundle.tN "UNASSIGNED_STACK" Bundle.steD) ∈ bk_fl9 ∧ Cond.isRef (.static Bundle.tN "SUPPRESSED_SENTINEL" Bundle.listD) ∈ bk_fl9 := by decide +kernel
theorem bk_len5_b : ∀ i, i < 5 → bk_len5.getD i 0 < 2 ^ 31 := by decide +kernel
section START
variable {s : State} {b L : Nat} {xs : Nat → Int32}
theorem bk_world (hL : L ≤ 3072) (hts : ∀ w ∈ lw_tbl, w.before #[Value.ref b] s = true) (hX : va_X b L xs s s.heap) (hbl : b < s.heap.size) (hgv : (Jvm.Cond.and given_1 narrow_1).before #[Value.ref b] s = true) :
    ∃ (D : va_G) (cA : Nat → ClassId) (aK : Nat → Nat) (q5 : Nat), va_K D vwCl (bk_tys cA) s ∧ bk_Ew (s.heap.size, bk_lay) b aK (bk_sc L xs) q5 s s.heap := by
  have hA : ∀ a : Nat, a < s.heap.size → ¬ bk_A (s.heap.size, bk_lay) a := fun a h z => by
    have z : s.heap.size ≤ a := z.1
    omega
  have hT : ∀ w ∈ tables_1, w.before #[Value.ref b] s = true := fun w hw => hts w (List.mem_append_right _ hw)
  have hfl := flat_of_before _ hgv
  have hsW : ∀ (n : Nat) (w : Cond), bk_sW[n]? = some w → w.before #[Value.ref b] s = true := fun n w hw => hT w (bk_sub_mem (List.all_eq_true.mp bk_sW_1 w (List.mem_of_getElem? hw)) w List.mem_cons_self)
  have hoW : ∀ w ∈ bk_oW, va_Nw w s := fun w hw => by
    have h := List.all_eq_true.mp bk_oW_1 w hw
    rw [Bool.and_eq_true] at h
    exact va_Nw.of h.2 (hT w (bk_sub_mem h.1 w List.mem_cons_self))
  have hK0 : ∀ k : Nat, ∃ x : ClassId × (Nat → Nat), k < 13 → u_Kn s (bk_R k) (bk_F k) (bk_n k) x.1 x.2 := fun k => by
    by_cases hk : k < 13
    · obtain ⟨c0, i0, h⟩ := u_known (C := bk_R k) (T := bk_F k) (N := bk_n k) (n := bk_n k) (ws := bk_W) (fun w hw => hts w (List.mem_filter.mp hw).1) (bk_lay_W hk) (hT _ (bk_sub_mem (List.all_eq_true.mp bk_iW_1 k (List.mem_range.mpr hk)) _ List.mem_cons_self))
      exact ⟨(c0, i0), fun _ => h⟩
    · exact ⟨(0, fun _ => 0), fun h => absurd h hk⟩
  obtain ⟨dK, hK1⟩ := Classical.axiomOfChoice hK0
  have prim : ∀ ty : FieldType, (∀ C, ty ≠ .object C) → (Cond.arrayClass ty).before #[Value.ref b] s = true → ∃ cB : ClassId, ArrOfT s cB ty ∧ va_RA s cB ty := fun ty ho h => by
    obtain ⟨cB, kB, comp, h1, h2, h3⟩ := Cond.arrayClass_spec h
    refine ⟨cB, fun N z => ⟨(fun k h => by cases h), kB, h2, comp, h3⟩, ?_⟩
    cases ty with
    | object C => exact absurd rfl (ho C)
    | _ => exact h1
  have refs : ∀ C : String, (Cond.arrayOver (.object C)).before #[Value.ref b] s = true → ∃ cB : ClassId, ArrOfT s cB (.object C) ∧ va_RA s cB (.object C) := fun C h => by
    obtain ⟨comp, cB, kB, h1, -, h2, h3, h4⟩ := Cond.arrayOver_spec h
    exact ⟨cB, fun N z => ⟨(fun k h => by cases h), kB, h2, comp, h3⟩, kB, comp, h2, h3, h1, h4⟩
  obtain ⟨c0, a0⟩ := prim .int (fun C => by simp) (hsW 14 _ rfl)
  obtain ⟨c1, a1⟩ := prim .long (fun C => by simp) (hsW 15 _ rfl)
  obtain ⟨c2, a2⟩ := prim .boolean (fun C => by simp) (hsW 16 _ rfl)
  obtain ⟨c3, a3⟩ := refs "BanksDealt$Plain" (hsW 7 _ rfl)
  obtain ⟨c4, a4⟩ := refs "BanksDealt$Image" (hsW 8 _ rfl)
  obtain ⟨adK, adV, hS5, hev⟩ := vk_Sof (N := 5) (tm := bk_tm) (len := bk_len5) (byt := bk_byt5) (args := #[Value.ref b]) (A := bk_A (s.heap.size, bk_lay)) bk_len5_b (fun i hi => hfl _ (bk_pre5_1 i hi _ (List.mem_of_getElem? (i := 0) rfl))) (fun i hi => hfl _ (bk_pre5_1 i hi _ (List.mem_of_getElem? (i := 1) rfl))) (fun i hi => hfl _ (bk_pre5_1 i hi _ (List.mem_of_getElem? (i := 2) rfl))) (fun i hi => hfl _ (bk_pre5_1 i hi _ (List.mem_of_getElem? (i := 3) rfl)))
    (fun i hi j hj => hfl _ (bk_pre5_2 i hi j hj)) (fun i j hi hj hij => (bk_pre5_3 i hi j hj hij).imp (hfl _) (hfl _)) hA
  refine ⟨(fun k => (dK k).1, fun k => (dK k).2), fun t => if t = 0 then c0 else if t = 1 then c1 else if t = 2 then c2 else if t = 3 then c3 else c4, adK, adK 4, ⟨fun k q hq => ?_, fun k q hq => ?_⟩, fun x hx => ?_, ⟨⟨?_, hbl, hbl⟩, fun x hx => ?_, fun i hi => ?_, ⟨adV, fun i hi => ?_, fun i j hi hj => hS5.2 i j (by omega) (by omega)⟩, ?_, ?_, ?_, ?_, fun x hx => ?_, ?_⟩, ⟨?_, adV 4, fun i hi => ?_, fun i j hi hj _ => by omega⟩, ?_, ?_⟩
  · have hk : k < 13 := (List.getElem?_eq_some_iff.mp hq).1
    have h := bk_cl k hk
    rw [h] at hq
    cases hq
    exact hK1 k hk
  · match k, hq with
    | 0, hq => cases hq; exact a0
    | 1, hq => cases hq; exact a1
    | 2, hq => cases hq; exact a2
    | 3, hq => cases hq; exact a3
    | 4, hq => cases hq; exact a4
    | k + 5, hq => cases hq
  · exact hoW _ (by unfold bk_oW; simp only [List.mem_append, List.mem_map]; exact Or.inl (Or.inl (Or.inr ⟨x, hx, rfl⟩)))
  · have e : (fun j : Nat => Int32.ofInt (bk_sc L xs 0 (j : Int))) = xs := by
      funext j
      show Int32.ofInt (xs (j : Int).toNat).toInt = xs j
      rw [Int32.ofInt_toInt]
      rfl
    show va_X b (L : Int).toNat (fun j : Nat => Int32.ofInt (bk_sc L xs 0 (j : Int))) s s.heap
    rw [e]
    exact hX
  · exact hoW _ (by unfold bk_oW; simp only [List.mem_append, List.mem_map]; exact Or.inl (Or.inl (Or.inl ⟨x, hx, rfl⟩)))
  · have hE := hev i (by omega)
    match i, hi, hE with
    | 0, _, hE => exact vk_R.of (hsW 10 _ rfl) hE
    | 1, _, hE => exact vk_R.of (hsW 11 _ rfl) hE
    | 2, _, hE => exact vk_R.of (hsW 12 _ rfl) hE
    | 3, _, hE => exact vk_R.of (hsW 13 _ rfl) hE
  · have h := hS5.1 i (by omega)
    rw [(bk_len5_4.1 i hi).1, (bk_len5_4.1 i hi).2] at h
    exact h
  · exact vx_Zqof (hsW 0 _ rfl) (hsW 4 _ rfl) (hfl _ bk_pre_s.2.2.1) hA
  · exact vx_Zqof (hsW 1 _ rfl) (hsW 4 _ rfl) (hfl _ bk_pre_s.2.2.2) hA
  · exact va_Zof (hsW 2 _ rfl) (hsW 5 _ rfl) (va_eqt (hfl _ bk_pre_s.1)) hA
  · exact va_Zqof (hsW 3 _ rfl) (hsW 6 _ rfl) (hfl _ bk_pre_s.2.1) hA
  · exact hoW _ (by unfold bk_oW; simp only [List.mem_append, List.mem_map]; exact Or.inl (Or.inr ⟨x, hx, rfl⟩))
  · exact hoW _ (by unfold bk_oW; simp)
  · exact vk_R.of (hsW 9 _ rfl) (hev 4 (by decide))
  · obtain rfl : i = 0 := by omega
    have h := hS5.1 4 (by decide)
    rw [bk_len5_4.2.1, bk_len5_4.2.2] at h
    exact h
  · exact va_AO.of (hsW 7 _ rfl)
  · exact va_AO.of (hsW 8 _ rfl)
end START
