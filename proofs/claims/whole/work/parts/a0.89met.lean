theorem bk_wd_sl {ba : bk_B} {b0 : Nat} {aK : Nat → Nat} : ∀ as : List bk_V, (lg_sl (as.map (bk_rv ba b0 aK))).length = bk_wd as
  | [] => rfl
  | v :: as => by
    have h := bk_wd_sl (ba := ba) (b0 := b0) (aK := aK) as
    rcases v with z | z | z
    · show (Slot.val _ :: lg_sl (as.map (bk_rv ba b0 aK))).length = bk_wd as + 1
      rw [List.length_cons, h]
    · show (Slot.val _ :: Slot.second :: lg_sl (as.map (bk_rv ba b0 aK))).length = bk_wd as + 2
      rw [List.length_cons, List.length_cons, h]
    · show (Slot.val _ :: lg_sl (as.map (bk_rv ba b0 aK))).length = bk_wd as + 1
      rw [List.length_cons, h]
section MET
variable {l : Launch} {ba : bk_B} {b0 : Nat} {aK : Nat → Nat} {cA : Nat → ClassId} {D : va_G} {sc : Nat → Int → Int}
/-- the method's own context, at its entry -/
theorem bk_ctx {d bb μ : Nat} (hμ : μ < 287) {p : Program} {e : Env} {s : State} {m : MethodId} {args : Array Value} {below : List Frame} {meth : Method} {c : Code} {s₁ : State} {M : bk_M}
    (B : BodyLoose p l (bk_m μ).1 (headSpec (bk_wsm μ) (bk_rm (d + 1) bb)) (bk_m μ).2.1 (bk_m μ).2.2.1 (bk_m μ).2.2.2.1 e s m args below meth c s₁) (hml : c.maxLocals = (bk_m μ).2.2.1) (hv : bk_Pic ba b0 aK cA D sc M s) :
    bk_Cx p (headSpec (bk_wsm μ) (bk_rm (d + 1) bb)).room s m args c (bk_m μ).2.1 (bk_m μ).2.2.2.2.2.1 (bk_m μ).2.2.1 ba b0 aK cA D sc := by
  obtain ⟨h1, h2, h3, h4, h5, h6⟩ := hv
  have hts := atoms_spec (ws := bk_wsm μ) B.pre
  have hown := findClass_of_methodNamed B.named
  rw [(bk_me_ok _ (bk_m_in hμ)).1] at hown
  refine ⟨B.exec, B.bytes, hml, hown, fun w hw => hts w (List.mem_cons_of_mem _ hw), h2, h5, ?_⟩
  show 1 ≤ d + 1 + 10 ∧ 100 ≤ 100 * (d + 1 + 10) ∧ s.heap.size ≥ ba.1 ∧ bk_Lay ba
  exact ⟨by omega, by omega, h6⟩
theorem bk_start {p : Program} {e : Env} {R : Room} {s : State} {m : MethodId} {below : List Frame} {meth : Method} {c : Code} {nL mc ms : Nat} {Z : State → Prop} {b : Nat} {as : List bk_V} {M : bk_M} {args : Array Value}
    (hw : bk_wd as ≤ nL) (has : ∀ v ∈ as, bk_okv ba v) (hv : bk_Pic ba b0 aK cA D sc M s) (hb : b ≤ mc ∧ 6 * b ≤ ms) (h : bk_X p l e R s m args below meth c ba b0 aK cA D sc nL mc ms Z b 0 (bk_args nL as) [] M) :
    W p l e R s m args below meth c s.heap [] 0 0 Z (entryFrame m (as.map (bk_rv ba b0 aK)).toArray nL) := by
  rw [lg_entry_eq]
  have hlen : (lg_sl (as.map (bk_rv ba b0 aK))).length ≤ nL := by rw [bk_wd_sl]; exact hw
  have hl := lv_entry (as.map (bk_rv ba b0 aK)) hlen
  obtain ⟨h1, h2, h3, h4, h5, h6⟩ := hv
  exact h (fun v hv => nomatch hv) (fun v hv hx => has v (bk_args_mem _ _ v hv hx)) (bk_args_len _ _) h3 h4 s.heap [] 0 0 _ h1 va_S.rf (by omega) (by omega)
    ⟨hl.1, hl.2.1, fun q hq => by have := bk_entry (ba := ba) (b0 := b0) (aK := aK) nL 0 as q hq; rw [Nat.zero_add] at this; exact hl.2.2 _ this⟩
theorem bk_sound_open (hTx : bk_Tx l ba b0 aK cA D sc) (hok : ∀ a, a < 287 → bk_ok1 a) : ∀ d, bk_S l ba b0 aK cA D sc d := by
  intro d
  induction d with
  | zero => intro μ as M Q _ h; exact h.elim
  | succ d ih =>
    intro μ as M Q hμ h hw has hM h13
    refine Met.ofW (cc := (bk_m μ).2.1) (maxL := (bk_m μ).2.2.1) (ret := (bk_m μ).2.2.2.1) (bk_me_ok _ (bk_m_in hμ)).2.1 rfl ?_
    intro p e s m args below meth c s₁ B hml hv
    obtain ⟨rfl, hPic⟩ := hv
    obtain ⟨ok1, ok2⟩ := hok μ hμ
    have C0 := bk_ctx hμ B hml hPic
    have hlocks := B.notSynchronized
    refine bk_start hw has hPic (mc := 0) (ms := 0) (b := 0) ⟨Nat.le_refl _, Nat.le_refl _⟩ ?_
    have h : bk_wp (bk_C d) (bk_prog μ).1 Q 0 0 (bk_args (bk_prog μ).2 as) [] M := h
    rw [ok2] at h
    refine bk_walk ih hTx (mc := 0) (ms := 0) (cc := (bk_m μ).2.1) (own := (bk_m μ).2.2.2.2.2.1) (rt := (bk_m μ).2.2.2.1) (Q := Q) C0 ?_ ⟨Nat.le_refl _, Nat.le_refl _⟩ ⟨Nat.le_refl _, Nat.le_refl _⟩ ok1 h
    intro r M' hM' h13' H locs cells slots pc lsr hP hS hc hsl
    obtain rfl : cells = 0 := by omega
    obtain rfl : slots = 0 := by omega
    refine ⟨fun hrk hQ => ?_, fun _ _ z => absurd z (by omega)⟩
    have hq : ∀ (v : Option Value), v = bk_rval (bk_m μ).2.2.2.1 r → ∀ t : State, t.heap = H → s.WarmedH t.vm → bk_Qc (bk_m μ).2.2.2.1 ba cA D sc Q (as.map (bk_rv ba b0 aK)).toArray s (.returned v) t := by
      intro v hv t ht _
      exact ⟨r, M', hQ, hrk, hM', h13', by rw [hv], by rw [ht]; exact hP, hS.F ht⟩
    refine ⟨fun e0 hd => ?_, fun e0 hr hd => ?_, fun e0 hd => ?_, fun e0 hd => ?_⟩
    · exact W.iret C0.1 C0.2.1 (B.returns.trans e0) (hq _ (by rw [e0]; rfl)) hS.2.2 hd
    · exact W.zret (ty := .boolean) C0.1 C0.2.1 (B.returns.trans e0) (by rcases hr with rfl | rfl <;> rfl) (hq _ (by rw [e0]; rfl)) hS.2.2 hd
    · exact W.lret C0.1 C0.2.1 (B.returns.trans e0) (hq _ (by rw [e0]; rfl)) hS.2.2 hd
    · exact W.vret C0.1 C0.2.1 (B.returns.trans e0) (hq _ (by rw [e0]; rfl)) hS.2.2 hd
end MET
