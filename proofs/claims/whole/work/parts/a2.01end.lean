/-! The law behind its three makings: its loop, its end. -/
theorem bk_law_20 {p : Program} {e : Env} {s : State} {m : MethodId} {below : List Frame} {meth : Method} {c : Code} (l : Launch) (hflags : l.flags = flags0) {b L : Nat} {xs : Nat → Int32} (hL : L ≤ 3072) (hA : lw_At p s m meth c b L xs)
    {ba : bk_B} {aK : Nat → Nat} {cA : Nat → ClassId} {D : va_G} {sc : Nat → Int → Int} (hba : s.heap.size = ba.1) (C0 : bk_Cx p room_1 s m #[Value.ref b] c code 13 7 ba b aK cA D sc) (hX : (11, 0) ∈ ba.2) (hO : (86, 0) ∈ ba.2) (hsc : sc 1 0 = (L : Int))
    {M : bk_M} (hI : bkInv M) (hM : bk_okm ba M) (h13 : M 13 = sc) (hQ : ∀ v ∈ [bk_c 13 0, bk_c 11 0, bk_c 12 0, bk_c 86 0], bk_okv ba v) {H : Heap} {locs : List Loc} {cells slots : Nat} {lsr : Array Slot} (hP : va_P D vwCl (bk_ws ba cA M) H) (hS : va_S (bk_A ba) s.heap H locs) (hc : cells + 512 ≤ 601024) (hsl : slots + 3072 ≤ 7293034)
    (hl : lv_has lsr 7 (bk_al ba b aK [bk_c 13 0, bk_c 11 0, bk_c 12 0, bk_c 86 0, bk_x, bk_x, bk_x])) : W p l e room_1 s m #[Value.ref b] below meth c H locs cells slots (lw_Z below #[Value.ref b] s) (F0 m 20 lsr []) := by
  obtain ⟨hx, hb, hr, hml, hown, hts, hXs, hbl, hlocks, hgv⟩ := hA
  have htr : l.stackTraces = false := by
    unfold Launch.stackTraces
    rw [hflags]
    decide
  have hZ : bk_Zs p l e room_1 s m #[Value.ref b] below meth c code (some .boolean) ba cA D sc 7 601024 7293034 (fun t r _ => t = 0 ∧ r = 1) (lw_Z below #[Value.ref b] s) := by
    intro r M' hM' h13' H locs cells slots pc lsr hP hS hc hsl
    refine ⟨fun _ hQ => ⟨(fun z => nomatch z), (fun _ _ hd => ?_), (fun z => nomatch z), (fun z => nomatch z)⟩, fun hQ => absurd hQ.1 (by decide)⟩
    obtain ⟨-, rfl⟩ := hQ
    refine va_forget (fun q hq => by have h9 : ba.1 ≤ q.base := (hS.2.2 q hq).1; omega) ?_
    refine W.widen (k := 601024) (n := 7293034) hc hsl ?_
    exact lw_ret hx hb hr hlocks hd
  have ck : bk_chk 13 (some .boolean) 7 code 20 [.sipush 0, .istore 4, .goto 23] = true := by decide +kernel
  have hRd : 80 ≤ room_1.frames ∧ 8000 ≤ room_1.locals := by decide
  have hmc : 601024 ≤ room_1.cells ∧ 7293034 ≤ room_1.slots := by decide
  have K : bk_X p l e room_1 s m #[Value.ref b] below meth c ba b aK cA D sc 7 601024 7293034 (lw_Z below #[Value.ref b] s) 512 20 [bk_c 13 0, bk_c 11 0, bk_c 12 0, bk_c 86 0, bk_x, bk_x, bk_x] [] M := by
    refine bk_all (bk_sound l ba b aK cA D sc 60) (bk_tx_all l ba b aK cA D sc) C0 hZ ⟨by decide, by decide⟩ hmc _ _ ck _ _ _ _ ?_
    exact bk_loopL C0 hZ hRd hmc htr hX hO (by omega) (by omega) 512 0 bk_x bk_x M (by omega) (by omega) hI
  refine K (fun v hv => nomatch hv) (fun v hv hx9 => ?_) rfl hM h13 H locs cells slots lsr hP hS hc (by omega) hl
  simp only [List.mem_cons, List.not_mem_nil, or_false] at hv
  rcases hv with rfl | rfl | rfl | rfl | rfl | rfl | rfl
  · exact hQ _ (by simp)
  · exact hQ _ (by simp)
  · exact hQ _ (by simp)
  · exact hQ _ (by simp)
  · exact absurd rfl hx9
  · exact absurd rfl hx9
  · exact absurd rfl hx9
