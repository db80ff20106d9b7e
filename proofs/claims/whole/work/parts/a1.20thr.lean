/-! The two methods that may throw: a contract that allows one throw. -/
def bk_tA : List Cond := vx_at0 "BanksDealt" 135 "java/util/NoSuchElementException" ["java/lang/RuntimeException", "java/lang/Exception"]
theorem bk_tA_1 : (bk_tA.filter goodWord).all (fun w => bk_sub [w] tables_1) = true := by decide +kernel
theorem bk_tA_2 : (bk_tA.filter (fun w => !goodWord w)).all (fun w => (Cond.castable bk_nse bk_nse :: bk_dl.map Cond.declares).elem w) = true := by decide +kernel
theorem bk_tA_b {ba : bk_B} {b0 : Nat} {aK : Nat → Nat} {sc : Nat → Int → Int} {s : State} {H : Heap} {args : Array Value} (hts : ∀ w ∈ bk_W, w.before args s = true) (hSt : bk_St ba b0 aK sc s H) : ∀ w ∈ bk_tA, w.before args s = true := by
  obtain ⟨-, -, -, -, -, -, -, -, hB, hC⟩ := hSt
  refine vx_hat (B := Cond.castable bk_nse bk_nse :: bk_dl.map Cond.declares) (fun w hw => hts w (bk_W_of (bk_sub_mem (List.all_eq_true.mp bk_tA_1 w hw) w List.mem_cons_self) (List.mem_filter.mp hw).2)) (fun w hw => List.elem_iff.mp (List.all_eq_true.mp bk_tA_2 w hw)) (fun w hw => ?_)
  rcases List.mem_cons.mp hw with rfl | hw
  · exact va_Nw.use rfl hC
  · obtain ⟨x, hx, rfl⟩ := List.mem_map.mp hw
    exact va_Nw.use rfl (hB x hx)
theorem bk_tA_ot : ∀ w ∈ Cond.classLink "BanksDealt" 133 "java/util/NoSuchElementException" :: Cond.initialized "java/util/NoSuchElementException" :: bk_tA, vx_ot w = true := List.all_eq_true.mp (by decide +kernel)
def bk_tA2 : List Cond := [.classLink "BanksDealt" 133 "java/util/NoSuchElementException", .initialized "java/util/NoSuchElementException"]
theorem bk_tA2_1 : bk_tA2.all (fun w => bk_sub [w] tables_1 && goodWord w) = true := by decide +kernel
theorem bk_tA2_in : ∀ w ∈ bk_tA2, w ∈ bk_W := fun w hw => by
  have h := List.all_eq_true.mp bk_tA2_1 w hw
  rw [Bool.and_eq_true] at h
  exact bk_W_of (bk_sub_mem h.1 w List.mem_cons_self) h.2
theorem bk_thr {l : Launch} (hl : l.stackTraces = false) (ba : bk_B) (b0 : Nat) (aK : Nat → Nat) (cA : Nat → ClassId) (D : va_G) (sc : Nat → Int → Int) {d μ : Nat} (hμ : μ < 287) (hown : (bk_m μ).2.2.2.2.2.1 = 11) {as : List bk_V} {M : bk_M} {Q : bk_Q} (h : bk_C (d + 1) 1 μ as M Q) (hw : bk_wd as ≤ (bk_m μ).2.2.1) (has : ∀ v ∈ as, bk_okv ba v) :
    vx_Met l (bk_m μ).1 (bk_wsm μ) (bk_rm (d + 1) 1) (bk_Pc ba b0 aK cA D sc as M) (bk_Qc (bk_m μ).2.2.2.1 ba cA D sc Q) (bk_XC ba cA D sc Q) 1 6 (bk_A ba) := by
  refine vx_ofW (cc := (bk_m μ).2.1) (maxL := (bk_m μ).2.2.1) (ret := (bk_m μ).2.2.2.1) (bk_me_ok _ (bk_m_in hμ)).2.1 rfl ?_
  intro p e s m args below meth c s₁ B hml hex hv
  obtain ⟨rfl, hPic⟩ := hv
  obtain ⟨ok1, ok2⟩ := bk_okT_287 μ hμ
  have C0 := bk_ctx hμ B hml hPic
  have hlocks := B.notSynchronized
  refine bk_start hw has hPic (mc := 1) (ms := 6) (b := 1) ⟨Nat.le_refl _, Nat.le_refl _⟩ ?_
  have h : bk_wp (bk_C d) (bk_prog μ).1 Q 1 0 (bk_args (bk_prog μ).2 as) [] M := h
  rw [ok2] at h
  refine bk_walk (bk_sound l ba b0 aK cA D sc d) (bk_tx_all l ba b0 aK cA D sc) (mc := 1) (ms := 6) (cc := (bk_m μ).2.1) (own := (bk_m μ).2.2.2.2.2.1) (rt := (bk_m μ).2.2.2.1) (Q := Q) C0 ?_ ⟨Nat.le_refl _, Nat.le_refl _⟩ ⟨Nat.le_refl _, Nat.le_refl _⟩ ok1 h
  intro r M' hM' h13' H locs cells slots pc lsr hP hS hc hsl
  refine ⟨fun hrk hQ => ?_, fun hQ hsz hc1 hs1 d0 d3 d4 d7 => ?_⟩
  · have hq : ∀ (v : Option Value), v = bk_rval (bk_m μ).2.2.2.1 r → ∀ t : State, t.heap = H → s.WarmedH t.vm → bk_Qc (bk_m μ).2.2.2.1 ba cA D sc Q (as.map (bk_rv ba b0 aK)).toArray s (.returned v) t := by
      intro v hv t ht _
      exact ⟨r, M', hQ, hrk, hM', h13', by rw [hv], by rw [ht]; exact hP, hS.F ht⟩
    refine ⟨fun e0 hd => ?_, fun e0 hr hd => ?_, fun e0 hd => ?_, fun e0 hd => ?_⟩
    · exact W.widen (k := 1) (n := 6) hc hsl (vx_ret (W.iret C0.1 C0.2.1 (B.returns.trans e0) (hq _ (by rw [e0]; rfl)) hS.2.2 hd))
    · exact W.widen (k := 1) (n := 6) hc hsl (vx_ret (W.zret (ty := .boolean) C0.1 C0.2.1 (B.returns.trans e0) (by rcases hr with rfl | rfl <;> rfl) (hq _ (by rw [e0]; rfl)) hS.2.2 hd))
    · exact W.widen (k := 1) (n := 6) hc hsl (vx_ret (W.lret C0.1 C0.2.1 (B.returns.trans e0) (hq _ (by rw [e0]; rfl)) hS.2.2 hd))
    · exact W.widen (k := 1) (n := 6) hc hsl (vx_ret (W.vret C0.1 C0.2.1 (B.returns.trans e0) (hq _ (by rw [e0]; rfl)) hS.2.2 hd))
  · have C1 := C0
    obtain ⟨hx, hb, hml', hown', hts, hK, hSt, hR⟩ := C1
    rw [hown] at hown'
    refine vx_throw0 (own := "BanksDealt") (cls := "java/util/NoSuchElementException") (names := ["java/lang/RuntimeException", "java/lang/Exception"]) (A := bk_A ba) hx hb hl hown' (by decide +kernel) (List.forall_mem_cons.mpr ⟨by decide +kernel, List.forall_mem_cons.mpr ⟨by decide +kernel, fun _ z => nomatch z⟩⟩) (hts _ (bk_tA2_in _ (List.mem_of_getElem? (i := 0) rfl))) (hts _ (bk_tA2_in _ (List.mem_of_getElem? (i := 1) rfl))) (bk_tA_b hts hSt) bk_tA_ot hSt.2.2.2.2.1 hSt.2.2.2.2.2.1 hS (hsz.trans hml.symm) d0 d3 d4 d7 (fun x hx => (hex x hx).elim)
      (by show 2 + 3 < d + 1 + 10; omega) (by show 0 + (13 * (2 + 1) + 42) ≤ 100 * (d + 1 + 10); omega) hc1 hs1 hlocks (fun t ha hz hk => ⟨rfl, M', hQ, hM', h13', fun n q hq => (hP n q hq).kept (hk _ (hP n q hq).lt), Nat.le_trans hS.1 hz, fun q h1 h2 => (hk q (Nat.lt_of_lt_of_le h1 hS.1)).trans (hS.2.1 q h1 h2)⟩) hS.2.2 hc1 hs1
