theorem bk_sub_mem : ∀ {ts ws : List Cond}, bk_sub ws ts = true → ∀ w ∈ ws, w ∈ ts
  | _, [], _, _, hw => nomatch hw
  | [], _ :: _, h, _, _ => by simp [bk_sub] at h
  | t :: ts, w :: ws, h, v, hv => by
    unfold bk_sub at h
    split at h
    · rename_i e
      rcases List.mem_cons.mp hv with rfl | hv
      · exact (beq_iff_eq.mp e) ▸ List.mem_cons_self
      · exact List.mem_cons_of_mem _ (bk_sub_mem h v hv)
    · exact List.mem_cons_of_mem _ (bk_sub_mem h v hv)
theorem bk_W_of {w : Cond} (h : w ∈ tables_1) (hg : goodWord w = true) : w ∈ bk_W := List.mem_filter.mpr ⟨List.mem_append_right _ h, hg⟩
theorem bk_W_of2 {w : Cond} (h : w ∈ k2_sels lw_privs) (hg : goodWord w = true) : w ∈ bk_W := List.mem_filter.mpr ⟨List.mem_append_left _ h, hg⟩
theorem bk_fw_in {x : Nat × Nat × Nat} (h : x ∈ bk_fl) : bk_fw x ∈ bk_W := bk_W_of (bk_sub_mem bk_fl_in _ (List.mem_map.mpr ⟨x, h, rfl⟩)) rfl
theorem bk_kw_in {x : Nat × Nat × Int} (h : x ∈ bk_kl) : bk_kw x ∈ bk_W := bk_W_of (bk_sub_mem bk_kl_in _ (List.mem_map.mpr ⟨x, h, rfl⟩)) rfl
theorem bk_kW_in {x : Nat × Nat × Int} (h : x ∈ bk_kL) : bk_kW x ∈ bk_W := bk_W_of (bk_sub_mem bk_kL_in _ (List.mem_map.mpr ⟨x, h, rfl⟩)) rfl
theorem bk_lay_gw : ∀ c, c < 13 → (u_ws (bk_R c) (bk_F c) (bk_n c)).all goodWord = true := by decide +kernel
theorem bk_lay_W {k : Nat} (h : k < 13) : ∀ w ∈ u_ws (bk_R k) (bk_F k) (bk_n k), w ∈ bk_W := fun w hw => bk_W_of (bk_sub_mem (bk_lay_in k h) w hw) (List.all_eq_true.mp (bk_lay_gw k h) w hw)
theorem bk_cl : ∀ k, k < 13 → vwCl[k]? = some (bk_R k, bk_F k, bk_n k) := lt_s (lt_s (lt_s (lt_s (lt_s (lt_s (lt_s (lt_s (lt_s (lt_s (lt_s (lt_s (lt_s lt_0 rfl) rfl) rfl) rfl) rfl) rfl) rfl) rfl) rfl) rfl) rfl) rfl) rfl
theorem bk_ty_ok : ∀ c, c < 13 → ∀ k, k < bk_n c → parseFieldDescriptor (bk_F c k).2.2.1 = some (bk_ty c k) := lt_s (lt_s (lt_s (lt_s (lt_s (lt_s (lt_s (lt_s (lt_s (lt_s (lt_s (lt_s (lt_s (lt_0) tyX0_ok) tyX1_ok) tyX2_ok) tyX3_ok) tyX4_ok) tyX5_ok) tyX6_ok) tyX7_ok) tyX8_ok) tyX9_ok) tyX10_ok) tyX11_ok) tyX12_ok
theorem bk_nm_ok : ∀ c, c < 13 → ∀ a, a < bk_n c → ∀ b, b < bk_n c → a ≠ b → (bk_F c a).2.1 ≠ (bk_F c b).2.1 := lt_s (lt_s (lt_s (lt_s (lt_s (lt_s (lt_s (lt_s (lt_s (lt_s (lt_s (lt_s (lt_s (lt_0) nmX0) nmX1) nmX2) nmX3) nmX4) nmX5) nmX6) nmX7) nmX8) nmX9) nmX10) nmX11) nmX12
theorem bk_lay_k {ba : bk_B} (hL : bk_Lay ba) : ∀ q ∈ ba.2, q.1 < 13 ∨ 16 ≤ q.1 := hL.2.1
theorem bk_sz_0 : ∀ k, k < 16 → bk_sz k = 0 := by decide +kernel
theorem bk_sz_ub (k : Nat) : bk_sz k < 1024 := by
  unfold bk_sz
  have := Nat.mod_lt (bk_szs >>> (10 * k)) (show 0 < 1024 by omega)
  show ((_ : Nat) : Int) < 1024
  omega
theorem bk_sz_nn (k : Nat) : 0 ≤ bk_sz k := Int.natCast_nonneg _
theorem bk_fd_ty : ∀ c, c < 13 → ∀ j, j < bk_n c → (bk_fd c j % 8 = 0 → bk_ty c j = .int) ∧ (bk_fd c j % 8 = 1 → bk_ty c j = .long) ∧ (bk_fd c j % 8 = 3 → bk_ty c j = .object "BanksDealt$Plain" ∨ bk_ty c j = .object "BanksDealt$Sentence") ∧ (bk_fd c j % 8 = 4 → bk_ty c j = .boolean) := by decide +kernel
theorem bk_fl_3 : ∀ x ∈ bk_fl, x.2.2 / 1024 % 8 = 3 → x.2.2 / 8192 % 128 < 13 := by decide +kernel
theorem bk_fd_ref {ba : bk_B} (hL : bk_Lay ba) : ∀ q ∈ ba.2, q.1 < 13 → ∀ j, j < bk_n q.1 → bk_fd q.1 j % 8 = 2 → (bk_fd q.1 j / 8 % 128, q.2 + bk_fd q.1 j / 1024) ∈ ba.2 := hL.2.2.1
theorem bk_aa_lay {ba : bk_B} (hL : bk_Lay ba) : ∀ q ∈ ba.2, bk_so q.1 = 3 → 16 ≤ q.1 → ∀ j, j < (bk_sz q.1).toNat → ((bk_aa q.1).1, (bk_aa q.1).2 + j) ∈ ba.2 := hL.2.2.2.1
theorem bk_aa_k {ba : bk_B} (hL : bk_Lay ba) : ∀ q ∈ ba.2, bk_so q.1 = 3 → 16 ≤ q.1 → q.1 = 27 ∨ q.1 = 55 := hL.2.2.2.2
/-- a cell that is an array, behind the look at its length -/
theorem bk_arr {ba : bk_B} {k i : Nat} {j : Int} (h : bk_okv ba (.inr (.inr (k, i)))) (h0 : 0 ≤ j) (h1 : j < bk_sz k) : (k, i) ∈ ba.2 ∧ 16 ≤ k := by
  have hk : 16 ≤ k := by
    rcases Nat.lt_or_ge k 16 with q | q
    · have := bk_sz_0 k q; omega
    · exact q
  rcases h with h | h | h
  · omega
  · omega
  · exact ⟨h, hk⟩
theorem bk_arr2 {ba : bk_B} {k i : Nat} (h : bk_okv ba (.inr (.inr (k, i)))) (hk : 16 ≤ k) : (k, i) ∈ ba.2 := by
  rcases h with h | h | h
  · omega
  · omega
  · exact h
theorem bk_ad_lay {ba : bk_B} {b0 : Nat} {aK : Nat → Nat} (hL : bk_Lay ba) {k i : Nat} (h : (k, i) ∈ ba.2) : bk_ad ba b0 aK k i = ba.1 + bk_off ba k i := by
  have := bk_lay_k hL _ h
  unfold bk_ad
  rw [if_neg (by show ¬ k = 13; have : k < 13 ∨ 16 ≤ k := this; omega), if_neg (by show ¬ k = 14; have : k < 13 ∨ 16 ≤ k := this; omega)]
theorem bk_obj {ba : bk_B} {k i : Nat} (h : bk_okv ba (.inr (.inr (k, i)))) (hk : k < 13) : (k, i) ∈ ba.2 := by
  rcases h with h | h | h
  · omega
  · omega
  · exact h
theorem bk_en_o {ba : bk_B} {cA : Nat → ClassId} {M : bk_M} {k i : Nat} (hk : k < 13) : bk_en ba cA M (k, i) = .inr (k, (List.range (bk_n k)).map (bk_fv ba M k i)) := by
  unfold bk_en; rw [if_pos hk]
theorem bk_en_i {ba : bk_B} {cA : Nat → ClassId} {M : bk_M} {k i : Nat} (hk : 16 ≤ k) (hs : bk_so k = 0) : bk_en ba cA M (k, i) = .inl (cA 0, (bk_sz k).toNat, .inl (fun j => Int32.ofInt (M k i j))) := by
  unfold bk_en; rw [if_neg (by show ¬ k < 13; omega)]; simp only [hs]
theorem bk_en_l {ba : bk_B} {cA : Nat → ClassId} {M : bk_M} {k i : Nat} (hk : 16 ≤ k) (hs : bk_so k = 1) : bk_en ba cA M (k, i) = .inl (cA 1, (bk_sz k).toNat, .inr (.inl (fun j => Int64.ofInt (M k i j)))) := by
  unfold bk_en; rw [if_neg (by show ¬ k < 13; omega)]; simp only [hs]
theorem bk_en_z {ba : bk_B} {cA : Nat → ClassId} {M : bk_M} {k i : Nat} (hk : 16 ≤ k) (hs : bk_so k = 2) : bk_en ba cA M (k, i) = .inl (cA 2, (bk_sz k).toNat, .inl (fun j => Int32.ofInt (M k i j))) := by
  unfold bk_en; rw [if_neg (by show ¬ k < 13; omega)]; simp only [hs]
theorem bk_en_q {ba : bk_B} {cA : Nat → ClassId} {M : bk_M} {k i : Nat} (hk : 16 ≤ k) (hs : bk_so k = 3) : bk_en ba cA M (k, i) = .inl (cA (if k = 27 then 3 else 4), (bk_sz k).toNat, .inr (.inr (.inr (.inr (fun j => some (ba.1 + bk_off ba (bk_aa k).1 ((bk_aa k).2 + j))))))) := by
  unfold bk_en; rw [if_neg (by show ¬ k < 13; omega)]; simp only [hs]
theorem bk_up_at (M : bk_M) (k i : Nat) (j v : Int) : bk_up M k i j v k i j = v := by simp [bk_up]
theorem bk_up_j {M : bk_M} {k i : Nat} {j v j' : Int} (h : j' ≠ j) : bk_up M k i j v k i j' = M k i j' := by simp [bk_up, h]
theorem bk_up_13 {M : bk_M} {k i : Nat} {j v : Int} (h : k ≠ 13) : bk_up M k i j v 13 = M 13 := by
  funext i' j'
  exact bk_up_ne (fun q => h (congrArg Prod.fst q).symm)
theorem bk_okm_f {ba : bk_B} {M : bk_M} (h : bk_okm ba M) {k i j : Nat} {v : Int} (hk : k < 13) (hv : match bk_fd k j % 8 with
    | 1 => bk_r64 v
    | 2 => True
    | 3 => (bk_fd k j / 8 % 128, v.toNat) ∈ ba.2
    | _ => bk_r32 v) : bk_okm ba (bk_up M k i j v) := by
  refine ⟨fun k' i' j' h1 h2 h3 => ?_, fun k' i' j' h1 h2 h3 h4 => ?_, ?_⟩
  · have h5 := h.1 k' i' j' h1 h2 h3
    by_cases e : k' = k ∧ i' = i ∧ j' = j
    · obtain ⟨rfl, rfl, rfl⟩ := e
      rw [bk_up_at]; exact hv
    · have : bk_up M k i j v k' i' j' = M k' i' j' := by
        unfold bk_up
        rw [if_neg]
        rintro ⟨a, b, c⟩
        exact e ⟨a, b, by omega⟩
      rw [this]; exact h5
  · rw [bk_up_ne (fun q => by have := congrArg Prod.fst q; simp at this; omega)]
    exact h.2.1 k' i' j' h1 h2 h3 h4
  · rw [bk_up_13 (by omega)]; exact h.2.2
theorem bk_okm_a {ba : bk_B} {M : bk_M} (h : bk_okm ba M) {k i : Nat} {j v : Int} (hk : 16 ≤ k) (hv : match bk_so k with
    | 1 => bk_r64 v
    | 3 => True
    | _ => bk_r32 v) : bk_okm ba (bk_up M k i j v) := by
  refine ⟨fun k' i' j' h1 h2 h3 => ?_, fun k' i' j' h1 h2 h3 h4 => ?_, ?_⟩
  · rw [bk_up_ne (fun q => by have := congrArg Prod.fst q; simp at this; omega)]
    exact h.1 k' i' j' h1 h2 h3
  · have h5 := h.2.1 k' i' j' h1 h2 h3 h4
    by_cases e : k' = k ∧ i' = i ∧ j' = j
    · obtain ⟨rfl, rfl, rfl⟩ := e
      rw [bk_up_at]; exact hv
    · have : bk_up M k i j v k' i' j' = M k' i' j' := by unfold bk_up; rw [if_neg e]
      rw [this]; exact h5
  · rw [bk_up_13 (by omega)]; exact h.2.2
theorem bk_upd {F : Int → Int32} {M : bk_M} {k i : Nat} {j v : Int} (h : 0 ≤ j) : upd (fun n : Nat => F (M k i n)) j.toNat (F v) = fun n : Nat => F (bk_up M k i j v k i n) := by
  funext n
  unfold upd
  by_cases e : n = j.toNat
  · rw [if_pos e, e, show ((j.toNat : Nat) : Int) = j by omega, bk_up_at]
  · rw [if_neg e, bk_up_j (by omega)]
theorem bk_updL {F : Int → Int64} {M : bk_M} {k i : Nat} {j v : Int} (h : 0 ≤ j) : vp_updL (fun n : Nat => F (M k i n)) j.toNat (F v) = fun n : Nat => F (bk_up M k i j v k i n) := by
  funext n
  unfold vp_updL
  by_cases e : n = j.toNat
  · rw [if_pos e, e, show ((j.toNat : Nat) : Int) = j by omega, bk_up_at]
  · rw [if_neg e, bk_up_j (by omega)]
section MEM
variable {p : Program} {l : Launch} {e : Env} {R : Room} {s : State} {m : MethodId} {args : Array Value} {below : List Frame} {meth : Method} {c : Code} {cc : ByteArray} {own : Nat}
variable {ba : bk_B} {b0 : Nat} {aK : Nat → Nat} {cA : Nat → ClassId} {D : va_G} {sc : Nat → Int → Int} {nL mc ms : Nat} {Z : State → Prop}
variable {Ca : bk_Ca} {Q : bk_Q} {K : bk_K} {b pc : Nat} {ls st : List bk_V} {M : bk_M}
theorem bk_s_iaload (C0 : bk_Cx p R s m args c cc own nL ba b0 aK cA D sc) (hd : decode cc pc = .ok (.iaload, 1)) (h : bk_op Ca (bk_X p l e R s m args below meth c ba b0 aK cA D sc nL mc ms Z) Q (.iaload) K b ls st M) (hk : ∀ b ls st M, K b ls st M → bk_X p l e R s m args below meth c ba b0 aK cA D sc nL mc ms Z b (pc + 1) ls st M) : bk_X p l e R s m args below meth c ba b0 aK cA D sc nL mc ms Z b pc ls st M := by
  obtain ⟨hx, hb, hml, hown, hts, hK, hSt, hR⟩ := C0
  simp only [bk_op] at h
  split at h
  · rename_i j k i st'
    intro hs hl hn hM h13 H locs cells slots lsr hP hS hc hsl hL
    have hj : bk_r32 j := hs (.inl j) (by simp)
    obtain ⟨hq, hk16⟩ := bk_arr (hs (.inr (.inr (k, i))) (by simp)) h.1.1 h.1.2
    have hs' : ∀ w ∈ st', bk_okv ba w := fun w hw => hs w (by simp [hw])
    by_cases hso : bk_so k = 0
    · have h2 := h.2
      rw [hso] at h2
      have h2 : K b ls _ M := h2
      have hub := bk_sz_ub k
      have eW := bk_ws_at (ba := ba) (cA := cA) (M := M) hq
      rw [bk_en_i hk16 hso] at eW
      have had := bk_ad_lay (ba := ba) (b0 := b0) (aK := aK) hR.2.2.2 hq
      show W p l e R s m args below meth c H locs cells slots Z (F0 m pc lsr (.int (Int32.ofInt j) :: .ref (bk_ad ba b0 aK k i) :: st'.map (bk_rv ba b0 aK)))
      rw [had]
      refine va_iald hx hb hK hP (bk_off ba k i) 0 eW rfl (nb_in hj h.1.1 (by omega)) hd ?_
      rw [nb_clamp hj]
      have hj2 : ((j.toNat : Nat) : Int) = j := by omega
      simp only [hj2]
      have hr := hM.2.1 k i j hq (by omega) h.1.1 h.1.2
      rw [hso] at hr
      exact hk _ _ _ _ h2 (bk_ocons hr hs') hl hn hM h13 H locs cells slots lsr hP hS hc hsl hL
    · have h2 := h.2
      rw [nb_beq hso] at h2
      exact h2.elim
  · exact h.elim
theorem bk_s_laload (C0 : bk_Cx p R s m args c cc own nL ba b0 aK cA D sc) (hd : decode cc pc = .ok (.laload, 1)) (h : bk_op Ca (bk_X p l e R s m args below meth c ba b0 aK cA D sc nL mc ms Z) Q (.laload) K b ls st M) (hk : ∀ b ls st M, K b ls st M → bk_X p l e R s m args below meth c ba b0 aK cA D sc nL mc ms Z b (pc + 1) ls st M) : bk_X p l e R s m args below meth c ba b0 aK cA D sc nL mc ms Z b pc ls st M := by
  obtain ⟨hx, hb, hml, hown, hts, hK, hSt, hR⟩ := C0
  simp only [bk_op] at h
  split at h
  · rename_i j k i st'
    intro hs hl hn hM h13 H locs cells slots lsr hP hS hc hsl hL
    have hj : bk_r32 j := hs (.inl j) (by simp)
    obtain ⟨hq, hk16⟩ := bk_arr (hs (.inr (.inr (k, i))) (by simp)) h.1.1 h.1.2
    have hs' : ∀ w ∈ st', bk_okv ba w := fun w hw => hs w (by simp [hw])
    by_cases hso : bk_so k = 1
    · have h2 := h.2
      rw [hso] at h2
      have h2 : K b ls _ M := h2
      have hub := bk_sz_ub k
      have eW := bk_ws_at (ba := ba) (cA := cA) (M := M) hq
      rw [bk_en_l hk16 hso] at eW
      have had := bk_ad_lay (ba := ba) (b0 := b0) (aK := aK) hR.2.2.2 hq
      show W p l e R s m args below meth c H locs cells slots Z (F0 m pc lsr (.int (Int32.ofInt j) :: .ref (bk_ad ba b0 aK k i) :: st'.map (bk_rv ba b0 aK)))
      rw [had]
      refine va_lald hx hb hK hP (bk_off ba k i) 1 eW rfl (nb_in hj h.1.1 (by omega)) hd ?_
      rw [nb_clamp hj]
      have hj2 : ((j.toNat : Nat) : Int) = j := by omega
      simp only [hj2]
      have hr := hM.2.1 k i j hq (by omega) h.1.1 h.1.2
      rw [hso] at hr
      exact hk _ _ _ _ h2 (bk_ocons hr hs') hl hn hM h13 H locs cells slots lsr hP hS hc hsl hL
    · have h2 := h.2
      rw [nb_beq hso] at h2
      exact h2.elim
  · exact h.elim
theorem bk_s_baload (C0 : bk_Cx p R s m args c cc own nL ba b0 aK cA D sc) (hd : decode cc pc = .ok (.baload, 1)) (h : bk_op Ca (bk_X p l e R s m args below meth c ba b0 aK cA D sc nL mc ms Z) Q (.baload) K b ls st M) (hk : ∀ b ls st M, K b ls st M → bk_X p l e R s m args below meth c ba b0 aK cA D sc nL mc ms Z b (pc + 1) ls st M) : bk_X p l e R s m args below meth c ba b0 aK cA D sc nL mc ms Z b pc ls st M := by
  obtain ⟨hx, hb, hml, hown, hts, hK, hSt, hR⟩ := C0
  simp only [bk_op] at h
  split at h
  · rename_i j k i st'
    intro hs hl hn hM h13 H locs cells slots lsr hP hS hc hsl hL
    have hj : bk_r32 j := hs (.inl j) (by simp)
    obtain ⟨hq, hk16⟩ := bk_arr (hs (.inr (.inr (k, i))) (by simp)) h.1.1 h.1.2
    have hs' : ∀ w ∈ st', bk_okv ba w := fun w hw => hs w (by simp [hw])
    by_cases hso : bk_so k = 2
    · have h2 := h.2
      rw [hso] at h2
      have h2 : K b ls _ M := h2
      have hub := bk_sz_ub k
      have eW := bk_ws_at (ba := ba) (cA := cA) (M := M) hq
      rw [bk_en_z hk16 hso] at eW
      have had := bk_ad_lay (ba := ba) (b0 := b0) (aK := aK) hR.2.2.2 hq
      show W p l e R s m args below meth c H locs cells slots Z (F0 m pc lsr (.int (Int32.ofInt j) :: .ref (bk_ad ba b0 aK k i) :: st'.map (bk_rv ba b0 aK)))
      rw [had]
      refine va_zald hx hb hK hP (bk_off ba k i) 2 eW rfl (nb_in hj h.1.1 (by omega)) hd ?_
      rw [nb_clamp hj]
      have hj2 : ((j.toNat : Nat) : Int) = j := by omega
      simp only [hj2]
      have hr := hM.2.1 k i j hq (by omega) h.1.1 h.1.2
      rw [hso] at hr
      exact hk _ _ _ _ h2 (bk_ocons hr hs') hl hn hM h13 H locs cells slots lsr hP hS hc hsl hL
    · have h2 := h.2
      rw [nb_beq hso] at h2
      exact h2.elim
  · exact h.elim
theorem bk_s_aaload (C0 : bk_Cx p R s m args c cc own nL ba b0 aK cA D sc) (hd : decode cc pc = .ok (.aaload, 1)) (h : bk_op Ca (bk_X p l e R s m args below meth c ba b0 aK cA D sc nL mc ms Z) Q (.aaload) K b ls st M) (hk : ∀ b ls st M, K b ls st M → bk_X p l e R s m args below meth c ba b0 aK cA D sc nL mc ms Z b (pc + 1) ls st M) : bk_X p l e R s m args below meth c ba b0 aK cA D sc nL mc ms Z b pc ls st M := by
  obtain ⟨hx, hb, hml, hown, hts, hK, hSt, hR⟩ := C0
  simp only [bk_op] at h
  split at h
  · rename_i j k i st'
    intro hs hl hn hM h13 H locs cells slots lsr hP hS hc hsl hL
    have hj : bk_r32 j := hs (.inl j) (by simp)
    obtain ⟨hq, hk16⟩ := bk_arr (hs (.inr (.inr (k, i))) (by simp)) h.1.1 h.1.2
    have hs' : ∀ w ∈ st', bk_okv ba w := fun w hw => hs w (by simp [hw])
    by_cases hso : bk_so k = 3
    · have h2 := h.2
      rw [hso] at h2
      have h2 : K b ls _ M := h2
      have hub := bk_sz_ub k
      have eW := bk_ws_at (ba := ba) (cA := cA) (M := M) hq
      rw [bk_en_q hk16 hso] at eW
      have had := bk_ad_lay (ba := ba) (b0 := b0) (aK := aK) hR.2.2.2 hq
      have hz := bk_aa_lay hR.2.2.2 _ hq hso hk16 j.toNat (by show j.toNat < (bk_sz k).toNat; omega)
      show W p l e R s m args below meth c H locs cells slots Z (F0 m pc lsr (.int (Int32.ofInt j) :: .ref (bk_ad ba b0 aK k i) :: st'.map (bk_rv ba b0 aK)))
      rw [had]
      have go : W p l e R s m args below meth c H locs cells slots Z (F0 m (pc + 1) lsr (va_rf (some (ba.1 + bk_off ba (bk_aa k).1 ((bk_aa k).2 + (Int32.ofInt j).toNatClampNeg))) :: st'.map (bk_rv ba b0 aK))) := by
        rw [nb_clamp hj]
        have := hk _ _ _ _ h2 (bk_ocons (Or.inr (Or.inr hz)) hs') hl hn hM h13 H locs cells slots lsr hP hS hc hsl hL
        rw [List.map_cons] at this
        rw [show bk_rv ba b0 aK (.inr (.inr ((bk_aa k).1, (bk_aa k).2 + j.toNat))) = va_rf (some (ba.1 + bk_off ba (bk_aa k).1 ((bk_aa k).2 + j.toNat))) from congrArg Value.ref (bk_ad_lay hR.2.2.2 hz)] at this
        exact this
      rcases bk_aa_k hR.2.2.2 _ hq hso hk16 with e27 | e55
      · have e27 : k = 27 := e27
        rw [if_pos e27] at eW
        exact va_aldq hx hb hK hP (bk_off ba k i) 3 (C := "BanksDealt$Plain") eW rfl (nb_in hj h.1.1 (by omega)) hd go
      · have e55 : k = 55 := e55
        rw [if_neg (by omega)] at eW
        exact va_aldq hx hb hK hP (bk_off ba k i) 4 (C := "BanksDealt$Image") eW rfl (nb_in hj h.1.1 (by omega)) hd go
    · have h2 := h.2
      rw [nb_beq hso] at h2
      exact h2.elim
  · exact h.elim
theorem bk_s_iastore (C0 : bk_Cx p R s m args c cc own nL ba b0 aK cA D sc) (hd : decode cc pc = .ok (.iastore, 1)) (h : bk_op Ca (bk_X p l e R s m args below meth c ba b0 aK cA D sc nL mc ms Z) Q (.iastore) K b ls st M) (hk : ∀ b ls st M, K b ls st M → bk_X p l e R s m args below meth c ba b0 aK cA D sc nL mc ms Z b (pc + 1) ls st M) : bk_X p l e R s m args below meth c ba b0 aK cA D sc nL mc ms Z b pc ls st M := by
  obtain ⟨hx, hb, hml, hown, hts, hK, hSt, hR⟩ := C0
  simp only [bk_op] at h
  split at h
  · rename_i z j k i st'
    intro hs hl hn hM h13 H locs cells slots lsr hP hS hc hsl hL
    have hj : bk_r32 j := hs (.inl j) (by simp)
    have hz : bk_okv ba (.inl z) := hs (.inl z) (by simp)
    obtain ⟨hq, hk16⟩ := bk_arr (hs (.inr (.inr (k, i))) (by simp)) h.1.1 h.1.2
    have hs' : ∀ w ∈ st', bk_okv ba w := fun w hw => hs w (by simp [hw])
    by_cases hso : bk_so k = 0
    · have h2 := h.2
      rw [hso] at h2
      simp only [Nat.beq, cond_true] at h2
      have hub := bk_sz_ub k
      have eW := bk_ws_at (ba := ba) (cA := cA) (M := M) hq
      rw [bk_en_i hk16 hso] at eW
      have had := bk_ad_lay (ba := ba) (b0 := b0) (aK := aK) hR.2.2.2 hq
      show W p l e R s m args below meth c H locs cells slots Z (F0 m pc lsr (.int (Int32.ofInt z) :: .int (Int32.ofInt j) :: .ref (bk_ad ba b0 aK k i) :: st'.map (bk_rv ba b0 aK)))
      rw [had]
      refine va_iast hx hb hK hP bk_ws_D hS (bk_off ba k i) 0 eW rfl (nb_in hj h.1.1 (by omega)) hd (fun H1 locs1 hP1 hD1 hS1 => ?_)
      rw [nb_clamp hj, bk_upd (F := Int32.ofInt) h.1.1] at hP1
      rw [← bk_en_i (ba := ba) (cA := cA) (M := bk_up M k i j z) hk16 hso, bk_ws_set hR.2.2.2 hq (fun k' i' j' hne => bk_up_ne hne)] at hP1
      exact hk _ _ _ _ (h2 _ rfl) hs' hl hn (bk_okm_a hM hk16 (by rw [hso]; exact hz)) ((bk_up_13 (by omega)).trans h13) H1 locs1 cells slots lsr hP1 hS1 hc hsl hL
    · have h2 := h.2
      rw [nb_beq hso] at h2
      exact h2.elim
  · exact h.elim
theorem bk_s_lastore (C0 : bk_Cx p R s m args c cc own nL ba b0 aK cA D sc) (hd : decode cc pc = .ok (.lastore, 1)) (h : bk_op Ca (bk_X p l e R s m args below meth c ba b0 aK cA D sc nL mc ms Z) Q (.lastore) K b ls st M) (hk : ∀ b ls st M, K b ls st M → bk_X p l e R s m args below meth c ba b0 aK cA D sc nL mc ms Z b (pc + 1) ls st M) : bk_X p l e R s m args below meth c ba b0 aK cA D sc nL mc ms Z b pc ls st M := by
  obtain ⟨hx, hb, hml, hown, hts, hK, hSt, hR⟩ := C0
  simp only [bk_op] at h
  split at h
  · rename_i z j k i st'
    intro hs hl hn hM h13 H locs cells slots lsr hP hS hc hsl hL
    have hj : bk_r32 j := hs (.inl j) (by simp)
    have hz : bk_okv ba (.inr (.inl z)) := hs (.inr (.inl z)) (by simp)
    obtain ⟨hq, hk16⟩ := bk_arr (hs (.inr (.inr (k, i))) (by simp)) h.1.1 h.1.2
    have hs' : ∀ w ∈ st', bk_okv ba w := fun w hw => hs w (by simp [hw])
    by_cases hso : bk_so k = 1
    · have h2 := h.2
      rw [hso] at h2
      simp only [Nat.beq, cond_true] at h2
      have hub := bk_sz_ub k
      have eW := bk_ws_at (ba := ba) (cA := cA) (M := M) hq
      rw [bk_en_l hk16 hso] at eW
      have had := bk_ad_lay (ba := ba) (b0 := b0) (aK := aK) hR.2.2.2 hq
      show W p l e R s m args below meth c H locs cells slots Z (F0 m pc lsr (.long (Int64.ofInt z) :: .int (Int32.ofInt j) :: .ref (bk_ad ba b0 aK k i) :: st'.map (bk_rv ba b0 aK)))
      rw [had]
      refine va_last hx hb hK hP bk_ws_D hS (bk_off ba k i) 1 eW rfl (nb_in hj h.1.1 (by omega)) hd (fun H1 locs1 hP1 hD1 hS1 => ?_)
      rw [nb_clamp hj, bk_updL (F := Int64.ofInt) h.1.1] at hP1
      rw [← bk_en_l (ba := ba) (cA := cA) (M := bk_up M k i j z) hk16 hso, bk_ws_set hR.2.2.2 hq (fun k' i' j' hne => bk_up_ne hne)] at hP1
      exact hk _ _ _ _ (h2 _ rfl) hs' hl hn (bk_okm_a hM hk16 (by rw [hso]; exact hz)) ((bk_up_13 (by omega)).trans h13) H1 locs1 cells slots lsr hP1 hS1 hc hsl hL
    · have h2 := h.2
      rw [nb_beq hso] at h2
      exact h2.elim
  · exact h.elim
theorem bk_s_bastore (C0 : bk_Cx p R s m args c cc own nL ba b0 aK cA D sc) (hd : decode cc pc = .ok (.bastore, 1)) (h : bk_op Ca (bk_X p l e R s m args below meth c ba b0 aK cA D sc nL mc ms Z) Q (.bastore) K b ls st M) (hk : ∀ b ls st M, K b ls st M → bk_X p l e R s m args below meth c ba b0 aK cA D sc nL mc ms Z b (pc + 1) ls st M) : bk_X p l e R s m args below meth c ba b0 aK cA D sc nL mc ms Z b pc ls st M := by
  obtain ⟨hx, hb, hml, hown, hts, hK, hSt, hR⟩ := C0
  simp only [bk_op] at h
  split at h
  · rename_i z j k i st'
    intro hs hl hn hM h13 H locs cells slots lsr hP hS hc hsl hL
    have hj : bk_r32 j := hs (.inl j) (by simp)
    have hz : bk_okv ba (.inl z) := hs (.inl z) (by simp)
    obtain ⟨hq, hk16⟩ := bk_arr (hs (.inr (.inr (k, i))) (by simp)) h.1.1 h.1.2
    have hs' : ∀ w ∈ st', bk_okv ba w := fun w hw => hs w (by simp [hw])
    by_cases hso : bk_so k = 2
    · have h2 := h.2
      rw [hso] at h2
      simp only [Nat.beq, cond_true] at h2
      have hz01 := h2.1
      have h2 := h2.2
      have hnar : vp_nar .boolean (Int32.ofInt z) = Int32.ofInt z := by rcases hz01 with rfl | rfl <;> decide
      have hub := bk_sz_ub k
      have eW := bk_ws_at (ba := ba) (cA := cA) (M := M) hq
      rw [bk_en_z hk16 hso] at eW
      have had := bk_ad_lay (ba := ba) (b0 := b0) (aK := aK) hR.2.2.2 hq
      show W p l e R s m args below meth c H locs cells slots Z (F0 m pc lsr (.int (Int32.ofInt z) :: .int (Int32.ofInt j) :: .ref (bk_ad ba b0 aK k i) :: st'.map (bk_rv ba b0 aK)))
      rw [had]
      refine va_zast hx hb hK hP bk_ws_D hS (bk_off ba k i) 2 eW rfl (nb_in hj h.1.1 (by omega)) hd (fun H1 locs1 hP1 hD1 hS1 => ?_)
      rw [hnar] at hP1
      rw [nb_clamp hj, bk_upd (F := Int32.ofInt) h.1.1] at hP1
      rw [← bk_en_z (ba := ba) (cA := cA) (M := bk_up M k i j z) hk16 hso, bk_ws_set hR.2.2.2 hq (fun k' i' j' hne => bk_up_ne hne)] at hP1
      exact hk _ _ _ _ (h2 _ rfl) hs' hl hn (bk_okm_a hM hk16 (by rw [hso]; exact hz)) ((bk_up_13 (by omega)).trans h13) H1 locs1 cells slots lsr hP1 hS1 hc hsl hL
    · have h2 := h.2
      rw [nb_beq hso] at h2
      exact h2.elim
  · exact h.elim
theorem bk_s_arraylength (C0 : bk_Cx p R s m args c cc own nL ba b0 aK cA D sc) (hd : decode cc pc = .ok (.arraylength, 1)) (h : bk_op Ca (bk_X p l e R s m args below meth c ba b0 aK cA D sc nL mc ms Z) Q (.arraylength) K b ls st M) (hk : ∀ b ls st M, K b ls st M → bk_X p l e R s m args below meth c ba b0 aK cA D sc nL mc ms Z b (pc + 1) ls st M) : bk_X p l e R s m args below meth c ba b0 aK cA D sc nL mc ms Z b pc ls st M := by
  obtain ⟨hx, hb, hml, hown, hts, hK, hSt, hR⟩ := C0
  simp only [bk_op] at h
  split at h
  · rename_i k i st'
    intro hs hl hn hM h13 H locs cells slots lsr hP hS hc hsl hL
    have hs' : ∀ w ∈ st', bk_okv ba w := fun w hw => hs w (by simp [hw])
    by_cases hk16 : 16 ≤ k
    · have h2 : K b ls (.inl (bk_sz k) :: st') M := by rw [Nat.ble_eq_true_of_le hk16] at h; exact h
      have hq := bk_arr2 (hs (.inr (.inr (k, i))) (by simp)) hk16
      have hnn := bk_sz_nn k
      have hub := bk_sz_ub k
      have eW := bk_ws_at (ba := ba) (cA := cA) (M := M) hq
      have had := bk_ad_lay (ba := ba) (b0 := b0) (aK := aK) hR.2.2.2 hq
      show W p l e R s m args below meth c H locs cells slots Z (F0 m pc lsr (.ref (bk_ad ba b0 aK k i) :: st'.map (bk_rv ba b0 aK)))
      rw [had]
      have hv : Int32.ofNat (bk_sz k).toNat = Int32.ofInt (bk_sz k) := by
        rw [← Int32.toInt_inj, nb_i (by unfold bk_r32; omega), Int32.toInt_ofNat_of_lt (by omega)]
        omega
      have go := hk _ _ _ _ h2 (bk_ocons (show bk_r32 (bk_sz k) by unfold bk_r32; omega) hs') hl hn hM h13 H locs cells slots lsr hP hS hc hsl hL
      have hso : bk_so k = 0 ∨ bk_so k = 1 ∨ bk_so k = 2 ∨ bk_so k = 3 := by
        have : bk_so k < 4 := Nat.mod_lt _ (by omega)
        omega
      rcases hso with hso | hso | hso | hso
      · rw [bk_en_i hk16 hso] at eW
        exact va_alen hx hb hK hP (bk_off ba k i) 0 eW (ty := .int) rfl hv hd go
      · rw [bk_en_l hk16 hso] at eW
        exact va_alen hx hb hK hP (bk_off ba k i) 1 eW (ty := .long) rfl hv hd go
      · rw [bk_en_z hk16 hso] at eW
        exact va_alen hx hb hK hP (bk_off ba k i) 2 eW (ty := .boolean) rfl hv hd go
      · rw [bk_en_q hk16 hso] at eW
        rcases bk_aa_k hR.2.2.2 _ hq hso hk16 with e27 | e55
        · have e27 : k = 27 := e27
          rw [if_pos e27] at eW
          exact va_alen hx hb hK hP (bk_off ba k i) 3 eW (ty := .object "BanksDealt$Plain") rfl hv hd go
        · have e55 : k = 55 := e55
          rw [if_neg (by omega)] at eW
          exact va_alen hx hb hK hP (bk_off ba k i) 4 eW (ty := .object "BanksDealt$Image") rfl hv hd go
    · rw [Bool.eq_false_iff.mpr (fun q => hk16 (Nat.le_of_ble_eq_true q))] at h
      exact h.elim
  · exact h.elim
theorem bk_s_saload (C0 : bk_Cx p R s m args c cc own nL ba b0 aK cA D sc) (hd : decode cc pc = .ok (.iaload, 1)) (h : bk_op Ca (bk_X p l e R s m args below meth c ba b0 aK cA D sc nL mc ms Z) Q (.saload) K b ls st M) (hk : ∀ b ls st M, K b ls st M → bk_X p l e R s m args below meth c ba b0 aK cA D sc nL mc ms Z b (pc + 1) ls st M) : bk_X p l e R s m args below meth c ba b0 aK cA D sc nL mc ms Z b pc ls st M := by
  obtain ⟨hx, hb, hml, hown, hts, hK, hSt, hR⟩ := C0
  simp only [bk_op] at h
  split at h
  · rename_i j k i st'
    intro hs hl hn hM h13 H locs cells slots lsr hP hS hc hsl hL
    have hj : bk_r32 j := hs (.inl j) (by simp)
    have hs' : ∀ w ∈ st', bk_okv ba w := fun w hw => hs w (by simp [hw])
    by_cases hk13 : k = 13
    · subst hk13
      have h2 : ((0 ≤ j ∧ j < M 13 1 0) ∧ K b ls (.inl (M 13 0 j) :: st') M) := h
      show W p l e R s m args below meth c H locs cells slots Z (F0 m pc lsr (.int (Int32.ofInt j) :: .ref b0 :: st'.map (bk_rv ba b0 aK)))
      have hlen := hM.2.2
      have hin : vp_in (Int32.ofInt j) (sc 1 0).toNat := nb_in hj h2.1.1 (by rw [← h13]; omega)
      refine va_sld hx hb hSt.1.1 hSt.1.2.1 (fun q => by have q1 := q.1; have := hSt.1.2.2; omega) hS hin hd ?_
      rw [nb_clamp hj, show ((j.toNat : Nat) : Int) = j by omega, ← h13]
      exact hk _ _ _ _ h2.2 (bk_ocons (hlen.2.2 j h2.1.1 h2.1.2) hs') hl hn hM h13 H locs cells slots lsr hP hS hc hsl hL
    · rw [nb_beq hk13] at h
      exact h.elim
  · exact h.elim
theorem bk_s_swap (C0 : bk_Cx p R s m args c cc own nL ba b0 aK cA D sc) (hd : decode cc pc = .ok (.arraylength, 1)) (h : bk_op Ca (bk_X p l e R s m args below meth c ba b0 aK cA D sc nL mc ms Z) Q (.swap) K b ls st M) (hk : ∀ b ls st M, K b ls st M → bk_X p l e R s m args below meth c ba b0 aK cA D sc nL mc ms Z b (pc + 1) ls st M) : bk_X p l e R s m args below meth c ba b0 aK cA D sc nL mc ms Z b pc ls st M := by
  obtain ⟨hx, hb, hml, hown, hts, hK, hSt, hR⟩ := C0
  simp only [bk_op] at h
  split at h
  · rename_i k i st'
    intro hs hl hn hM h13 H locs cells slots lsr hP hS hc hsl hL
    have hs' : ∀ w ∈ st', bk_okv ba w := fun w hw => hs w (by simp [hw])
    by_cases hk13 : k = 13
    · subst hk13
      have h2 : K b ls (.inl (M 13 1 0) :: st') M := h
      show W p l e R s m args below meth c H locs cells slots Z (F0 m pc lsr (.ref b0 :: st'.map (bk_rv ba b0 aK)))
      have hlen := hM.2.2
      refine va_slen hx hb hSt.1.1 hSt.1.2.1 (fun q => by have q1 := q.1; have := hSt.1.2.2; omega) hS hd ?_
      have hv : Int32.ofNat (sc 1 0).toNat = Int32.ofInt (M 13 1 0) := by
        rw [← h13, ← Int32.toInt_inj, nb_i (by unfold bk_r32; omega), Int32.toInt_ofNat_of_lt (by omega)]
        omega
      rw [hv]
      exact hk _ _ _ _ h2 (bk_ocons (show bk_r32 (M 13 1 0) by unfold bk_r32; omega) hs') hl hn hM h13 H locs cells slots lsr hP hS hc hsl hL
    · rw [nb_beq hk13] at h
      exact h.elim
  · exact h.elim
theorem bk_s_getfield (C0 : bk_Cx p R s m args c cc own nL ba b0 aK cA D sc) {f n : Nat} (hf : (own, n, f) ∈ bk_fl) (hd : decode cc pc = .ok (.getfield n, 3)) (h : bk_op Ca (bk_X p l e R s m args below meth c ba b0 aK cA D sc nL mc ms Z) Q (.getfield f) K b ls st M) (hk : ∀ b ls st M, K b ls st M → bk_X p l e R s m args below meth c ba b0 aK cA D sc nL mc ms Z b (pc + 3) ls st M) : bk_X p l e R s m args below meth c ba b0 aK cA D sc nL mc ms Z b pc ls st M := by
  obtain ⟨hx, hb, hml, hown, hts, hK, hSt, hR⟩ := C0
  simp only [bk_op] at h
  obtain ⟨f1, f2, f3, -⟩ := bk_fl_ok _ hf
  split at h
  · rename_i k i st'
    unfold bk_getf at h
    intro hs hl hn hM h13 H locs cells slots lsr hP hS hc hsl hL
    have hs' : ∀ w ∈ st', bk_okv ba w := fun w hw => hs w (by simp [hw])
    by_cases hkk : k = f / 64 % 16
    · have hk13 : k < 13 := by rw [hkk]; exact f1
      have hq := bk_obj (hs (.inr (.inr (k, i))) (by simp)) hk13
      have eW := bk_ws_at (ba := ba) (cA := cA) (M := M) hq
      rw [bk_en_o hk13] at eW
      have had := bk_ad_lay (ba := ba) (b0 := b0) (aK := aK) hR.2.2.2 hq
      have hsl2 : f % 64 < bk_n k := by rw [hkk]; exact f2
      have hq3 : f / 1024 = bk_fd k (f % 64) := by rw [hkk]; exact f3
      have hfd : bk_fd k (f % 64) % 8 = f / 1024 % 8 := by rw [← hq3]
      have hk2 : bk_fd k (f % 64) / 8 % 128 = f / 8192 % 128 := by rw [← hq3]; omega
      have hb2 : bk_fd k (f % 64) / 1024 = f / 1048576 := by rw [← hq3]; omega
      have hlk : (Cond.fieldLink (bk_R own) n (bk_F k (f % 64)).1 (bk_F k (f % 64)).2.1 (bk_F k (f % 64)).2.2.1).before args s = true := by rw [hkk]; exact hts _ (bk_fw_in hf)
      show W p l e R s m args below meth c H locs cells slots Z (F0 m pc lsr (.ref (bk_ad ba b0 aK k i) :: st'.map (bk_rv ba b0 aK)))
      rw [had]
      refine va_get hx hb hts (bk_lay_W hk13) hown hK hP (bk_off ba k i) eW (bk_cl k hk13) (f % 64) hsl2 hlk (fun x hx => hx) (v := bk_fv ba M k i (f % 64)) (by simp [hsl2]) hd ?_
      have hM1 := hM.1 k i (f % 64) hq hk13 hsl2
      rw [hkk, show Nat.beq (f / 64 % 16) (f / 64 % 16) = true from Nat.beq_refl _] at h
      simp only [cond_true] at h
      rw [← hkk] at h
      unfold bk_fv
      rw [hfd, hk2] at hM1
      rw [hfd, hk2, hb2]
      split at h
      · rename_i e0
        rw [e0] at hM1 ⊢
        exact hk _ _ _ _ h (bk_ocons hM1 hs') hl hn hM h13 H locs cells slots lsr hP hS hc hsl hL
      · rename_i e0
        rw [e0] at hM1 ⊢
        exact hk _ _ _ _ h (bk_ocons hM1 hs') hl hn hM h13 H locs cells slots lsr hP hS hc hsl hL
      · rename_i e0
        rw [e0]
        have hz := bk_fd_ref hR.2.2.2 _ hq hk13 (f % 64) hsl2 (by rw [hfd]; exact e0)
        have hz : (f / 8192 % 128, i + f / 1048576) ∈ ba.2 := by rw [← hk2, ← hb2]; exact hz
        have go := hk _ _ _ _ h (bk_ocons (Or.inr (Or.inr hz)) hs') hl hn hM h13 H locs cells slots lsr hP hS hc hsl hL
        rw [List.map_cons, show bk_rv ba b0 aK (.inr (.inr (f / 8192 % 128, i + f / 1048576))) = .ref (ba.1 + bk_off ba (f / 8192 % 128) (i + f / 1048576)) from congrArg Value.ref (bk_ad_lay hR.2.2.2 hz)] at go
        exact go
      · rename_i e0
        rw [e0] at hM1 ⊢
        have go := hk _ _ _ _ h (bk_ocons (Or.inr (Or.inr hM1)) hs') hl hn hM h13 H locs cells slots lsr hP hS hc hsl hL
        rw [List.map_cons, show bk_rv ba b0 aK (.inr (.inr (f / 8192 % 128, (M k i (Int.ofNat (f % 64))).toNat))) = .ref (ba.1 + bk_off ba (f / 8192 % 128) (M k i (Int.ofNat (f % 64))).toNat) from congrArg Value.ref (bk_ad_lay hR.2.2.2 hM1)] at go
        exact go
      · rename_i e0 e1 e2 e3
        have hM1 : bk_r32 (M k i (Int.ofNat (f % 64))) := by
          revert hM1
          split
          · rename_i q; exact absurd q e1
          · rename_i q; exact absurd q e2
          · rename_i q; exact absurd q e3
          · exact fun z => z
        have go := hk _ _ _ _ h (bk_ocons (show bk_okv ba (.inl (M k i (Int.ofNat (f % 64)))) from hM1) hs') hl hn hM h13 H locs cells slots lsr hP hS hc hsl hL
        split
        · rename_i q; exact absurd q e1
        · rename_i q; exact absurd q e2
        · rename_i q; exact absurd q e3
        · exact go
    · rw [nb_beq hkk] at h
      exact h.elim
  · exact h.elim
theorem bk_s_putfield (C0 : bk_Cx p R s m args c cc own nL ba b0 aK cA D sc) {f n : Nat} (hf : (own, n, f) ∈ bk_fl) (hfin : (bk_F (f / 64 % 16) (f % 64)).2.2.2 = false) (hd : decode cc pc = .ok (.putfield n, 3)) (h : bk_op Ca (bk_X p l e R s m args below meth c ba b0 aK cA D sc nL mc ms Z) Q (.putfield f) K b ls st M) (hk : ∀ b ls st M, K b ls st M → bk_X p l e R s m args below meth c ba b0 aK cA D sc nL mc ms Z b (pc + 3) ls st M) : bk_X p l e R s m args below meth c ba b0 aK cA D sc nL mc ms Z b pc ls st M := by
  obtain ⟨hx, hb, hml, hown, hts, hK, hSt, hR⟩ := C0
  simp only [bk_op] at h
  obtain ⟨f1, f2, f3, -⟩ := bk_fl_ok _ hf
  split at h
  · rename_i v k i st'
    unfold bk_putf at h
    intro hs hl hn hM h13 H locs cells slots lsr hP hS hc hsl hL
    have hv0 : bk_okv ba v := hs v (by simp)
    have hs' : ∀ w ∈ st', bk_okv ba w := fun w hw => hs w (by simp [hw])
    by_cases hkk : k = f / 64 % 16
    · have hk13 : k < 13 := by rw [hkk]; exact f1
      have hq := bk_obj (hs (.inr (.inr (k, i))) (by simp)) hk13
      have eW := bk_ws_at (ba := ba) (cA := cA) (M := M) hq
      rw [bk_en_o hk13] at eW
      have had := bk_ad_lay (ba := ba) (b0 := b0) (aK := aK) hR.2.2.2 hq
      have hsl2 : f % 64 < bk_n k := by rw [hkk]; exact f2
      have hq3 : f / 1024 = bk_fd k (f % 64) := by rw [hkk]; exact f3
      have hfd : bk_fd k (f % 64) % 8 = f / 1024 % 8 := by rw [← hq3]
      have hk2 : bk_fd k (f % 64) / 8 % 128 = f / 8192 % 128 := by rw [← hq3]; omega
      have hlk : (Cond.fieldLink (bk_R own) n (bk_F k (f % 64)).1 (bk_F k (f % 64)).2.1 (bk_F k (f % 64)).2.2.1).before args s = true := by rw [hkk]; exact hts _ (bk_fw_in hf)
      have hfin' : (bk_F k (f % 64)).2.2.2 = false := by rw [hkk]; exact hfin
      rw [hkk, show Nat.beq (f / 64 % 16) (f / 64 % 16) = true from Nat.beq_refl _] at h
      simp only [cond_true] at h
      rw [← hkk] at h
      show W p l e R s m args below meth c H locs cells slots Z (F0 m pc lsr (bk_rv ba b0 aK v :: .ref (bk_ad ba b0 aK k i) :: st'.map (bk_rv ba b0 aK)))
      rw [had]
      have key : ∀ z : Int, narrow (bk_ty k (f % 64)) (bk_rv ba b0 aK v) = bk_rv ba b0 aK v → fits (bk_ty k (f % 64)) (bk_rv ba b0 aK v) = true →
          bk_fv ba (bk_up M k i (Int.ofNat (f % 64)) z) k i (f % 64) = bk_rv ba b0 aK v → bk_okm ba (bk_up M k i (Int.ofNat (f % 64)) z) → K b ls st' (bk_up M k i (Int.ofNat (f % 64)) z) →
          W p l e R s m args below meth c H locs cells slots Z (F0 m pc lsr (bk_rv ba b0 aK v :: .ref (ba.1 + bk_off ba k i) :: st'.map (bk_rv ba b0 aK))) := by
        intro z g1 g2 g3 g4 g5
        refine va_put hx hb hts (bk_lay_W hk13) (bk_ty k) (bk_ty_ok k hk13) (bk_nm_ok k hk13) hown hK hP bk_ws_D hS (bk_off ba k i) eW (bk_cl k hk13) (f % 64) hsl2 hlk (fun x hx => hx) hfin' (bk_ty_ok k hk13 _ hsl2) g1 g2 (by simp [hsl2]) hd (fun H1 locs1 hP1 hD1 hS1 => ?_)
        have e2 : ((List.range (bk_n k)).map (bk_fv ba M k i)).set (f % 64) (bk_rv ba b0 aK v) = (List.range (bk_n k)).map (bk_fv ba (bk_up M k i (Int.ofNat (f % 64)) z) k i) := by
          apply List.ext_getElem?
          intro j
          rw [List.getElem?_set]
          by_cases ej : f % 64 = j
          · subst ej
            rw [if_pos rfl, if_pos (by simp [hsl2]), List.getElem?_map, List.getElem?_range hsl2, Option.map_some, g3]
          · rw [if_neg ej, List.getElem?_map, List.getElem?_map]
            rcases Nat.lt_or_ge j (bk_n k) with q | q
            · rw [List.getElem?_range q, Option.map_some, Option.map_some]
              congr 1
              unfold bk_fv
              rw [bk_up_j (M := M) (k := k) (i := i) (v := z) (j := Int.ofNat (f % 64)) (j' := (j : Int)) (fun z => ej (Int.ofNat.inj z).symm)]
            · rw [List.getElem?_eq_none (by simp [q])]
              rfl
        rw [e2, ← bk_en_o (ba := ba) (cA := cA) (M := bk_up M k i (Int.ofNat (f % 64)) z) hk13, bk_ws_set hR.2.2.2 hq (fun k' i' j' hne => bk_up_ne hne)] at hP1
        exact hk _ _ _ _ g5 hs' hl hn g4 ((bk_up_13 (by omega)).trans h13) H1 locs1 cells slots lsr hP1 hS1 hc hsl hL
      obtain ⟨t1, t2, t3, t4⟩ := bk_fd_ty k hk13 _ hsl2
      rw [hfd] at t1 t2 t3 t4
      split at h
      · rename_i z e0
        exact key z (by rw [t1 e0]; rfl) (by rw [t1 e0]; rfl) (by unfold bk_fv; rw [hfd, e0]; show Value.int _ = _; rw [show (((f % 64 : Nat) : Int)) = Int.ofNat (f % 64) from rfl, bk_up_at]; rfl) (bk_okm_f hM hk13 (by rw [hfd, e0]; exact hv0)) (h _ rfl)
      · rename_i z e0
        exact key z (by rw [t2 e0]; rfl) (by rw [t2 e0]; rfl) (by unfold bk_fv; rw [hfd, e0]; show Value.long _ = _; rw [show (((f % 64 : Nat) : Int)) = Int.ofNat (f % 64) from rfl, bk_up_at]; rfl) (bk_okm_f hM hk13 (by rw [hfd, e0]; exact hv0)) (h _ rfl)
      · rename_i k2 i2 e0
        by_cases hk22 : k2 = f / 8192 % 128
        · rw [hk22, show Nat.beq (f / 8192 % 128) (f / 8192 % 128) = true from Nat.beq_refl _] at h
          have hz : (k2, i2) ∈ ba.2 := by
            rcases hv0 with q | q | q
            · have := bk_fl_3 _ hf e0; have : f / 8192 % 128 < 13 := this; omega
            · have := bk_fl_3 _ hf e0; have : f / 8192 % 128 < 13 := this; omega
            · exact q
          have hrv : bk_rv ba b0 aK (.inr (.inr (k2, i2))) = .ref (ba.1 + bk_off ba k2 i2) := congrArg Value.ref (bk_ad_lay hR.2.2.2 hz)
          exact key i2 (by rw [hrv]; rcases t3 e0 with q | q <;> rw [q] <;> rfl) (by rw [hrv]; rcases t3 e0 with q | q <;> rw [q] <;> rfl) (by rw [hrv]; unfold bk_fv; rw [hfd, e0]; show Value.ref _ = _; rw [show (((f % 64 : Nat) : Int)) = Int.ofNat (f % 64) from rfl, bk_up_at, hk2, hk22]; rfl) (bk_okm_f hM hk13 (by rw [hfd, e0, hk2, ← hk22]; exact hz)) (h _ rfl)
        · rw [nb_beq hk22] at h
          exact h.elim
      · rename_i z e0
        have hz01 := h.1
        exact key z (by rw [t4 e0]; rcases hz01 with rfl | rfl <;> rfl) (by rw [t4 e0]; rcases hz01 with rfl | rfl <;> rfl) (by unfold bk_fv; rw [hfd, e0]; show Value.int _ = _; rw [show (((f % 64 : Nat) : Int)) = Int.ofNat (f % 64) from rfl, bk_up_at]; rfl) (bk_okm_f hM hk13 (by rw [hfd, e0]; exact hv0)) (h.2 _ rfl)
      · exact h.elim
    · rw [nb_beq hkk] at h
      exact h.elim
  · exact h.elim
end MEM
