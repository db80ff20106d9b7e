/-! The fifth text, as the tape's constructor reads it, and the world of the constructors that make plains. -/
def bk_tx5 : String := "plain land source field mill purse left right ice digs lays rolls spring years or and not wet near same above worth height changed number "
def bk_t5 : List Int := [112, 108, 97, 105, 110, 32, 108, 97, 110, 100, 32, 115, 111, 117, 114, 99, 101, 32, 102, 105, 101, 108, 100, 32, 109, 105, 108, 108, 32, 112, 117, 114, 115, 101, 32, 108, 101, 102, 116, 32, 114, 105, 103, 104, 116, 32, 105, 99, 101, 32, 100, 105, 103, 115, 32, 108, 97, 121, 115, 32, 114, 111, 108, 108, 115, 32, 115, 112, 114, 105, 110, 103, 32, 121, 101, 97, 114, 115, 32, 111, 114, 32, 97, 110, 100, 32, 110, 111, 116, 32, 119, 101, 116, 32, 110, 101, 97, 114, 32, 115, 97, 109, 101, 32, 97, 98, 111, 118, 101, 32, 119, 111, 114, 116, 104, 32, 104, 101, 105, 103, 104, 116, 32, 99, 104, 97, 110, 103, 101, 100, 32, 110, 117, 109, 98, 101, 114, 32]
def bk_tpc (n : Nat) : Int32 := Int32.ofInt (bk_t5.getD n 0)
def bk_tpI : Nat → Int32
  | 0 => 0
  | n + 1 => if bk_tpc n = 32 then bk_tpI n + Int32.ofInt 1 else bk_tpI n
def bk_tpA : Nat → Int64
  | 0 => 0
  | n + 1 => if bk_tpc n = 32 then 0 else (bk_tpA n <<< ((5 : Int32).toInt64 &&& 63)) + (bk_tpc n - 97 + 1).toInt64
def bk_tpF : Nat → Nat → Int64
  | 0 => fun _ => 0
  | n + 1 => if bk_tpc n = 32 then vp_updL (bk_tpF n) (bk_tpI n).toNatClampNeg (bk_tpA n) else bk_tpF n
def bk_tpw (j : Int) : Int := (bk_tpF 138 j.toNat).toInt
theorem bk_tpw_f : (fun j : Nat => Int64.ofInt (bk_tpw j)) = bk_tpF 138 := by
  funext j
  unfold bk_tpw
  rw [Int64.ofInt_toInt]
  rfl
theorem bk_tpw_w : ∀ w : Nat, w < 25 → bk_tpw w = bkWt w := by decide +kernel
theorem bk_tpI_ok : ∀ n, n < 138 → ¬ ((25 : Int32) ≤ bk_tpI n) ∧ ¬ (bk_tpI n < 0 ∨ 25 ≤ (bk_tpI n).toNatClampNeg) := by decide +kernel
def bk_t5f (j : Nat) : Int32 := (([bk_t5.map Int32.ofInt] : List (List Int32)).getD 0 []).getD j 0
theorem bk_t5a : ∀ n, n < 138 → ¬ Int32.ofNat n < 0 ∧ Int32.ofNat n < Int32.ofNat 138 ∧ ¬ (Int32.ofNat n < 0 ∨ 138 ≤ (Int32.ofNat n).toNatClampNeg) ∧ ¬ (Int32.ofNat 138 ≤ Int32.ofNat n) ∧ Int32.ofNat n + Int32.ofInt 1 = Int32.ofNat (n + 1) := by decide +kernel
theorem bk_t5b : ∀ n, n < 138 → ((bk_t5f (Int32.ofNat n).toNatClampNeg &&& 255).toUInt32 % 65536).toInt32 = bk_tpc n := by decide +kernel
theorem bk_t5c : ∀ n, n < 138 → narrow .char (.int (bk_tpc n)) = .int (bk_tpc n) := by decide +kernel
def bk_W5 (ba : bk_B) (q5 : Nat) (U : State) (H : Heap) : Prop := vk_R RX10 19 bk_tx5 q5 U ∧ ∃ v : Nat, vk_S 1 [138] [bk_t5.map Int32.ofInt] (fun _ => q5) (fun _ => v) (bk_A ba) U H
def bk_Ew (ba : bk_B) (b0 : Nat) (aK : Nat → Nat) (sc : Nat → Int → Int) (q5 : Nat) (U : State) (H : Heap) : Prop := (∀ x ∈ bk_nI, va_Nw (bk_nIw x) U) ∧ bk_St ba b0 aK sc U H ∧ bk_W5 ba q5 U H ∧ va_AO "BanksDealt$Plain" U ∧ va_AO "BanksDealt$Image" U
section EW
variable {ba : bk_B} {b0 q5 : Nat} {aK : Nat → Nat} {sc : Nat → Int → Int}
theorem bk_Ew.same {u U : State} {H : Heap} (hv : u.vm = U.vm) (h : bk_Ew ba b0 aK sc q5 u H) : bk_Ew ba b0 aK sc q5 U H := by
  have ha : u.vm.Alike U.vm := hv ▸ Vm.Alike.refl u.vm
  obtain ⟨h1, h2, ⟨h3, v, h4⟩, h5, h6⟩ := h
  exact ⟨fun x hx => va_Nw.same rfl hv (h1 x hx), bk_St.same hv h2, ⟨vk_R.same hv.symm h3, v, vk_S.moved ha h4⟩, va_AO.moved ha h5, va_AO.moved ha h6⟩
theorem bk_Ew.warm {s U : State} {H : Heap} (hW : s.WarmedH U.vm) (h : bk_Ew ba b0 aK sc q5 s H) : bk_Ew ba b0 aK sc q5 U H := by
  have ha : s.vm.Alike U.vm := hW.alike
  obtain ⟨h1, h2, ⟨h3, v, h4⟩, h5, h6⟩ := h
  exact ⟨fun x hx => va_Nw.warmM hW (h1 x hx), bk_St.warm hW h2, ⟨vk_R.warm hW h3, v, vk_S.moved ha h4⟩, va_AO.moved ha h5, va_AO.moved ha h6⟩
theorem bk_Ew.kept2 {U : State} {H H1 : Heap} {h0 q0 : Nat} (h : bk_Ew ba b0 aK sc q5 U H) (hz : H.size ≤ H1.size) (h1 : ba.1 ≤ h0 ∧ h0 < ba.1 + ba.2.length) (h2 : H.size ≤ q0) (hq : ∀ a : Nat, a < H.size → ¬ bk_Ya h0 q0 a → H1[a]? = H[a]?) : bk_Ew ba b0 aK sc q5 U H1 := by
  obtain ⟨g1, g2, ⟨g3, v, g4⟩, g5, g6⟩ := h
  refine ⟨g1, bk_St.kept2 g2 hz h1 h2 hq, ⟨g3, v, vk_S.kept g4 fun a a1 a2 => hq a a1 fun z => ?_⟩, g5, g6⟩
  have h3 : ¬ (ba.1 ≤ a ∧ a < ba.1 + ba.2.length) := a2
  have h4 : a = h0 ∨ q0 ≤ a := z
  omega
/-- the text, as its methods want it -/
theorem bk_Ew.text {U : State} (h : bk_Ew ba b0 aK sc q5 U U.heap) : ∃ v : Nat, bk_Sw q5 v 138 bk_t5f U := by
  obtain ⟨-, ⟨-, -, -, -, -, -, g7, g8, -, -⟩, ⟨-, v, g4⟩, -, -⟩ := h
  have hN : ∀ q, bk_Nn q → bk_A ba q := fun _ h => h.elim
  obtain ⟨t1, t2, t3, t4⟩ := g4.1 0 (by decide)
  exact ⟨v, t1.narrow hN, t2.narrow hN, t3.narrow hN, t4.narrow hN, g7.narrow hN, va_Zq.narrow g8 hN⟩
end EW
/-- a constructor's world, n cells in all -/
def bk_Pe (ba : bk_B) (b0 : Nat) (aK : Nat → Nat) (sc : Nat → Int → Int) (q5 : Nat) (D : va_G) (cA : Nat → ClassId) (h0 k n : Nat) (fs : List Value) (U : State) : Prop := bk_Pn D cA h0 (h0 + 1) k fs U ∧ bk_Ew ba b0 aK sc q5 U U.heap ∧ (ba.1 ≤ h0 ∧ h0 + n ≤ ba.1 + ba.2.length)
theorem bk_Pe_blind {ba : bk_B} {b0 q5 : Nat} {aK : Nat → Nat} {sc : Nat → Int → Int} {D : va_G} {cA : Nat → ClassId} {h0 k n : Nat} {fs : List Value} {as : List Value} : FrameBlind (va_Pc as (bk_Pe ba b0 aK sc q5 D cA h0 k n fs)) := fun a U g mk h => ⟨h.1, ⟨h.2.1.1, h.2.1.2.1, va_K.moved (u := U) (U := U.calling g mk a) (Vm.Alike.refl U.vm) h.2.1.2.2.1, h.2.1.2.2.2⟩, bk_Ew.same (u := U) (U := U.calling g mk a) rfl h.2.2.1, h.2.2.2⟩
/-- the size of the heap, out of the bound on new cells -/
theorem bk_Wsz {p : Program} {l : Launch} {e : Env} {R : Room} {s : State} {m : MethodId} {args : Array Value} {below : List Frame} {meth : Method} {c : Code} {Q : State → Prop} {H : Heap} {locs : List Loc} {cells slots : Nat} {g : JFrame} (k : H.size ≤ s.heap.size + cells → W p l e R s m args below meth c H locs cells slots Q g) : W p l e R s m args below meth c H locs cells slots Q g := fun T hT X => k (by
  have h9 : T.heap.size ≤ s.heap.size + cells := X.same.2.2.1
  rw [hT] at h9
  exact h9) T hT X
/-- the heap's size, out of the last cell and the bound -/
theorem bk_Y_of {D : va_G} {h0 q0 : Nat} {o : va_E} {es : List va_E} {H : Heap} (hP : va_P D vwCl ((h0, o) :: bk_zs q0 es) H) (h : h0 < q0) (hu : H.size ≤ q0 + es.length) (hl : 0 < es.length) : bk_Y D h0 q0 o es H := by
  refine ⟨Nat.le_antisymm hu ?_, hP, h⟩
  have h1 : ((h0, o) :: bk_zs q0 es)[es.length - 1 + 1]? = some (q0 + (es.length - 1), es[es.length - 1]'(by omega)) := by
    rw [List.getElem?_cons_succ, bk_zs_at, List.getElem?_eq_getElem (by omega)]
    rfl
  have h2 := (hP _ _ h1).lt
  dsimp only at h2
  omega
section NEWH
variable {p : Program} {l : Launch} {e : Env} {R : Room} {s : State} {m : MethodId} {args : Array Value} {below : List Frame} {meth : Method} {c : Code} {cc : ByteArray}
variable {cA : Nat → ClassId} {D : va_G} {Q : State → Prop} {h0 q0 : Nat} {es : List va_E} {H : Heap} {locs : List Loc} {cells slots : Nat} {ls : Array Slot}
/-- 'new C[n]', its address told -/
theorem bk_anew {k t n idx pc : Nat} {o : va_E} {C : String} {n32 : Int32} {rest : List Value} (hx : p.tables.exec = Jvm.exec) (hb : c.code = cc) (hts : ∀ w ∈ bk_W, w.before args s = true) (hown : s.vm.findClass (bk_R k) = some m.cls) (hK : va_K D vwCl (bk_tys cA) s)
    (w1 : Cond.classLink (bk_R k) idx C ∈ bk_W) (hover : va_AO C s) (ht : (bk_tys cA)[t]? = some (cA t, .object C)) (hn : ¬ n32 < 0) (hN : n32.toNatClampNeg = n) (hn9 : n ≤ 1000) (d0 : decode cc pc = .ok (.anewarray idx, 3))
    (hY : bk_Y D h0 q0 o es H) (hS : va_S (bk_Ya h0 q0) s.heap H locs) (hc : cells + 1 ≤ R.cells) (hs : slots + n ≤ R.slots)
    (kk : ∀ (H1 : Heap), bk_Y D h0 q0 o (es ++ [.inl (cA t, n, .inr (.inr (.inr (.inr (fun _ => none)))))]) H1 → va_S (bk_Ya h0 q0) s.heap H1 locs → W p l e R s m args below meth c H1 locs (cells + 1) (slots + n) Q (F0 m (pc + 3) ls (.ref (q0 + es.length) :: rest))) :
    W p l e R s m args below meth c H locs cells slots Q (F0 m pc ls (.int n32 :: rest)) := by
  subst hN
  obtain ⟨y1, y2, y3⟩ := hY
  refine W.anew hx hb hown (hts _ w1) (va_AO.use hover) rfl d0 rfl hn (by omega) hc hs fun cB kA comp f1 f2 f3 f4 => ?_
  obtain rfl : cB = cA t := by
    obtain ⟨-, kA', comp', -, -, -, g4⟩ := hK.2 t _ ht
    exact Option.some.inj (f1.symm.trans g4)
  rw [← y1] at kk
  show W p l e R s m args below meth c (H.push ({ cls := cA t, slots := Array.replicate n32.toNatClampNeg .null, vm := .none } : Cell)) locs (cells + 1) (slots + n32.toNatClampNeg) Q (F0 m (pc + 3) ls (.ref H.size :: rest))
  generalize hH1 : H.push ({ cls := cA t, slots := Array.replicate n32.toNatClampNeg .null, vm := .none } : Cell) = H1
  have z1 : H1.size = H.size + 1 := by rw [← hH1, Array.size_push]
  have e1 : H1[H.size]? = some (arrV (cA t) n32.toNatClampNeg (fun _ => .null)) := by rw [← hH1, Array.getElem?_push_size, ← arrV_new]
  have o1 : ∀ q : Nat, q < H.size → H1[q]? = H[q]? := fun q hq => by rw [← hH1, Array.getElem?_push, if_neg (Nat.ne_of_lt hq)]
  refine kk H1 ⟨by rw [z1, y1, List.length_append]; rfl, ?_, y3⟩ ⟨Nat.le_trans hS.1 (by omega), fun x h1 h2 => (o1 x (Nat.lt_of_lt_of_le h1 hS.1)).trans (hS.2.1 x h1 h2), hS.2.2⟩
  rw [bk_zs_app, ← List.cons_append]
  refine (y2.kept fun i x hx9 => o1 x.1 ((y2 i x hx9).lt)).app fun i x hx9 => ?_
  have hz : i < 1 := (List.getElem?_eq_some_iff.mp hx9).1
  rw [show i = 0 by omega] at hx9
  cases hx9
  show H1[q0 + es.length]? = some (vp_cell _ _)
  rw [vp_cell_q, ← y1]
  exact e1
/-- 'a[i] = v', a an array made here, v an object made here -/
theorem bk_astq {k1 t n z v pc : Nat} {o : va_E} {e1 e2 : List va_E} {f : Nat → Option Nat} {i : Int32} {vs : List Value} {rest : List Value} (hx : p.tables.exec = Jvm.exec) (hb : c.code = cc) (hK : va_K D vwCl (bk_tys cA) s) (hk1 : k1 < 13) (ht : (bk_tys cA)[t]? = some (cA t, .object (bk_R k1)))
    (hY : bk_Y D h0 q0 o (e1 ++ .inl (cA t, n, .inr (.inr (.inr (.inr f)))) :: e2) H) (hS : va_S (bk_Ya h0 q0) s.heap H locs) (hv : (e1 ++ .inl (cA t, n, .inr (.inr (.inr (.inr f)))) :: e2)[z]? = some (.inr (k1, vs))) (hz : q0 + z = v) (hin : vp_in i n) (d0 : decode cc pc = .ok (.aastore, 1)) {a : Nat} (ha : q0 + e1.length = a) (hcl : s.heap.size + cells = q0 + (e1 ++ .inl (cA t, n, .inr (.inr (.inr (.inr f)))) :: e2).length)
    (kk : ∀ (H1 : Heap) (locs1 : List Loc), bk_Y D h0 q0 o (e1 ++ .inl (cA t, n, .inr (.inr (.inr (.inr (va_up f i.toNatClampNeg (some v)))))) :: e2) H1 → va_S (bk_Ya h0 q0) s.heap H1 locs1 → W p l e R s m args below meth c H1 locs1 cells slots Q (F0 m (pc + 1) ls rest)) :
    W p l e R s m args below meth c H locs cells slots Q (F0 m pc ls (.ref v :: .int i :: .ref a :: rest)) := by
  subst hz
  subst ha
  obtain ⟨y1, y2, y3⟩ := hY
  have hat : ((h0, o) :: bk_zs q0 (e1 ++ .inl (cA t, n, .inr (.inr (.inr (.inr f)))) :: e2))[e1.length + 1]? = some (q0 + e1.length, .inl (cA t, n, .inr (.inr (.inr (.inr f))))) := by
    rw [List.getElem?_cons_succ, bk_zs_at, List.getElem?_append_right (Nat.le_refl _), Nat.sub_self]
    rfl
  have hvt : ((h0, o) :: bk_zs q0 (e1 ++ .inl (cA t, n, .inr (.inr (.inr (.inr f)))) :: e2))[z + 1]? = some (q0 + z, .inr (k1, vs)) := by
    rw [List.getElem?_cons_succ, bk_zs_at, hv]
    rfl
  have hsz : ∀ H1 : Heap, va_P D vwCl (((h0, o) :: bk_zs q0 (e1 ++ .inl (cA t, n, .inr (.inr (.inr (.inr f)))) :: e2)).set (e1.length + 1) (q0 + e1.length, .inl (cA t, n, .inr (.inr (.inr (.inr (va_up f i.toNatClampNeg (some (q0 + z))))))))) H1 → va_P D vwCl ((h0, o) :: bk_zs q0 (e1 ++ .inl (cA t, n, .inr (.inr (.inr (.inr (va_up f i.toNatClampNeg (some (q0 + z))))))) :: e2)) H1 := fun H1 h => by
    rw [bk_zs_app2, bk_zs, List.set_cons_succ, List.set_append_right _ _ (by rw [bk_zs_len]; exact Nat.le_refl _), bk_zs_len, Nat.sub_self, List.set_cons_zero] at h
    rw [bk_zs_app2, bk_zs]
    exact h
  refine va_astq hx hb hK y2 (bk_Y_D y3) hS (e1.length + 1) t (z + 1) k1 hat ht hvt (bk_cl k1 hk1) hin d0 fun H1 locs1 hP1 hD1 hS1 => ?_
  refine bk_Wsz fun hub1 => ?_
  have hP2 := hsz H1 hP1
  refine kk H1 locs1 (bk_Y_of hP2 y3 (by rw [List.length_append] at hcl ⊢; exact Nat.le_trans hub1 (Nat.le_of_eq hcl)) (by rw [List.length_append]; exact Nat.succ_pos _)) hS1
end NEWH
