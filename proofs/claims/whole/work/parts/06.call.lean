/-! ===== new cells, calls, contracts ===== -/
section GN
variable {E : E0} {X : X0} {cc : ByteArray} {own : String} {nL : Nat} {ret : Option FieldType} {rm : Room} {ca sa pc : Nat} {lm lm' : LM} {st : List TV} {σ σ' : Hp}
theorem mkC_zk {c n : Nat} : zk (mkC σ c n) (zn σ) = c := by simp [mkC, zk, va_up]
theorem mkC_zl {c n : Nat} : zl (mkC σ c n) (zn σ) = n := by simp [mkC, zl, va_up]
theorem mkC_zi {c n : Nat} : zi (mkC σ c n) (zn σ) = fun _ => 0 := by simp [mkC, zi, va_up]
theorem mkC_zj {c n : Nat} : zj (mkC σ c n) (zn σ) = fun _ => 0 := by simp [mkC, zj, va_up]
theorem mkC_zr {c n : Nat} : zr (mkC σ c n) (zn σ) = fun _ => none := by simp [mkC, zr, va_up]
theorem mkC_zn {c n : Nat} : zn (mkC σ c n) = zn σ + 1 := rfl
theorem WH.push {H H1 : Heap} (hw : WH E σ H) {c n : Nat} {e : va_E} (hc : c < 17) (he : zE (eB E) (eC E) (mkC σ c n) (zn σ) = e) (hat : va_at (eD E) vwCl (eB E + zn σ, e) H1) (z : H1.size = eB E + zn σ + 1) (oq : ∀ q : Nat, q < eB E + zn σ → H1[q]? = H[q]?) : WH E (mkC σ c n) H1 := by
  refine ⟨by rw [z, mkC_zn]; omega, fun x hx => ?_, ?_⟩
  · rw [mkC_zn] at hx
    have h1 : zk (mkC σ c n) x = zk σ x := va_up_ne _ _ (by omega)
    rw [h1]
    exact hw.2.1 x (by omega)
  · rw [← zW_push (e := e) mkC_zn he (fun j hj => mkC_E hj)]
    refine (hw.2.2.kept (fun k q hk => oq q.1 (by have := (hw.2.2 k q hk).lt; rw [hw.1] at this; exact this))).app (fun k q hk => ?_)
    have hz : k < 1 := (List.getElem?_eq_some_iff.mp hk).1
    rw [show k = 0 by omega] at hk
    cases hk
    exact hat
theorem va_S_push {H0 H H1 : Heap} {locs : List Loc} (hS : va_S (fun q => eB E ≤ q) H0 H locs) (z : H.size ≤ H1.size) (oq : ∀ q : Nat, q < H.size → H1[q]? = H[q]?) : va_S (fun q => eB E ≤ q) H0 H1 locs := ⟨Nat.le_trans hS.1 z, fun x h1 h2 => (oq x (Nat.lt_of_lt_of_le h1 hS.1)).trans (hS.2.1 x h1 h2), hS.2.2⟩
theorem g_newaI (C : XOK E X cc own nL ret rm) {n : Int32} {N : Nat} (hn : ¬ n < 0) (hN : n.toNatClampNeg = N) (hb : N ≤ 65536) (hw1 : Cond.arrayClass .int ∈ TB) (hcells : ca + 1 ≤ rm.cells) (hslots : sa + N ≤ rm.slots) (hd : decode cc pc = .ok (.newarray .int, 2)) (kk : G E X (ca + 1) (sa + N) (pc + 2) lm (tR (some (zn σ)) :: st) (mkC σ 11 N)) : G E X ca sa pc lm (tI n :: st) σ := by
  intro ls H locs hl hw hS
  refine va_newaK (atype := .int) C.1 C.2.1 (C.2.2.2.2.1 _ hw1) rfl hd rfl hn hN (by show N * 4 ≤ 536870912; omega) (by rw [C.2.2.2.2.2.2.2.2.2.2]; exact hcells) (by rw [C.2.2.2.2.2.2.2.2.2.2]; exact hslots) hw.1 fun H1 cA e1 z1 o1 hAr hNm => ?_
  have hcy : cA = eC E 11 := Option.some.inj (hNm.symm.trans (C.kk.2 1 _ rfl).2)
  subst hcy
  refine kk ls H1 locs hl (hw.push (e := .inl (eC E 11, N, .inl (fun _ => 0))) (by decide) ((zE_i (σ := mkC σ 11 N) mkC_zk (by decide)).trans (by rw [mkC_zl, mkC_zi])) ?_ z1 o1) (va_S_push hS (by rw [z1, hw.1]; omega) (fun q hq => o1 q (by rw [← hw.1]; exact hq)))
  exact e1
theorem g_newaB (C : XOK E X cc own nL ret rm) {n : Int32} {N : Nat} (hn : ¬ n < 0) (hN : n.toNatClampNeg = N) (hb : N ≤ 65536) (hw1 : Cond.arrayClass .byte ∈ TB) (hcells : ca + 1 ≤ rm.cells) (hslots : sa + N ≤ rm.slots) (hd : decode cc pc = .ok (.newarray .byte, 2)) (kk : G E X (ca + 1) (sa + N) (pc + 2) lm (tR (some (zn σ)) :: st) (mkC σ 10 N)) : G E X ca sa pc lm (tI n :: st) σ := by
  intro ls H locs hl hw hS
  refine va_newaK (atype := .byte) C.1 C.2.1 (C.2.2.2.2.1 _ hw1) rfl hd rfl hn hN (by show N * 1 ≤ 536870912; omega) (by rw [C.2.2.2.2.2.2.2.2.2.2]; exact hcells) (by rw [C.2.2.2.2.2.2.2.2.2.2]; exact hslots) hw.1 fun H1 cA e1 z1 o1 hAr hNm => ?_
  have hcy : cA = eC E 10 := Option.some.inj (hNm.symm.trans (C.kk.2 0 _ rfl).2)
  subst hcy
  refine kk ls H1 locs hl (hw.push (e := .inl (eC E 10, N, .inl (fun _ => 0))) (by decide) ((zE_i (σ := mkC σ 10 N) mkC_zk (by decide)).trans (by rw [mkC_zl, mkC_zi])) ?_ z1 o1) (va_S_push hS (by rw [z1, hw.1]; omega) (fun q hq => o1 q (by rw [← hw.1]; exact hq)))
  exact e1
theorem g_newaZ (C : XOK E X cc own nL ret rm) {n : Int32} {N : Nat} (hn : ¬ n < 0) (hN : n.toNatClampNeg = N) (hb : N ≤ 65536) (hw1 : Cond.arrayClass .boolean ∈ TB) (hcells : ca + 1 ≤ rm.cells) (hslots : sa + N ≤ rm.slots) (hd : decode cc pc = .ok (.newarray .boolean, 2)) (kk : G E X (ca + 1) (sa + N) (pc + 2) lm (tR (some (zn σ)) :: st) (mkC σ 13 N)) : G E X ca sa pc lm (tI n :: st) σ := by
  intro ls H locs hl hw hS
  refine va_newaK (atype := .boolean) C.1 C.2.1 (C.2.2.2.2.1 _ hw1) rfl hd rfl hn hN (by show N * 1 ≤ 536870912; omega) (by rw [C.2.2.2.2.2.2.2.2.2.2]; exact hcells) (by rw [C.2.2.2.2.2.2.2.2.2.2]; exact hslots) hw.1 fun H1 cA e1 z1 o1 hAr hNm => ?_
  have hcy : cA = eC E 13 := Option.some.inj (hNm.symm.trans (C.kk.2 3 _ rfl).2)
  subst hcy
  refine kk ls H1 locs hl (hw.push (e := .inl (eC E 13, N, .inl (fun _ => 0))) (by decide) ((zE_i (σ := mkC σ 13 N) mkC_zk (by decide)).trans (by rw [mkC_zl, mkC_zi])) ?_ z1 o1) (va_S_push hS (by rw [z1, hw.1]; omega) (fun q hq => o1 q (by rw [← hw.1]; exact hq)))
  exact e1
theorem g_newaJ (C : XOK E X cc own nL ret rm) {n : Int32} {N : Nat} (hn : ¬ n < 0) (hN : n.toNatClampNeg = N) (hb : N ≤ 65536) (hw1 : Cond.arrayClass .long ∈ TB) (hcells : ca + 1 ≤ rm.cells) (hslots : sa + N ≤ rm.slots) (hd : decode cc pc = .ok (.newarray .long, 2)) (kk : G E X (ca + 1) (sa + N) (pc + 2) lm (tR (some (zn σ)) :: st) (mkC σ 12 N)) : G E X ca sa pc lm (tI n :: st) σ := by
  intro ls H locs hl hw hS
  refine va_newaK (atype := .long) C.1 C.2.1 (C.2.2.2.2.1 _ hw1) rfl hd rfl hn hN (by show N * 8 ≤ 536870912; omega) (by rw [C.2.2.2.2.2.2.2.2.2.2]; exact hcells) (by rw [C.2.2.2.2.2.2.2.2.2.2]; exact hslots) hw.1 fun H1 cA e1 z1 o1 hAr hNm => ?_
  have hcy : cA = eC E 12 := Option.some.inj (hNm.symm.trans (C.kk.2 2 _ rfl).2)
  subst hcy
  refine kk ls H1 locs hl (hw.push (e := .inl (eC E 12, N, .inr (.inl (fun _ => 0)))) (by decide) ((zE_j (σ := mkC σ 12 N) mkC_zk).trans (by rw [mkC_zl, mkC_zj])) ?_ z1 o1) (va_S_push hS (by rw [z1, hw.1]; omega) (fun q hq => o1 q (by rw [← hw.1]; exact hq)))
  exact e1
theorem g_newq14 (C : XOK E X cc own nL ret rm) {n : Int32} {N index : Nat} (hn : ¬ n < 0) (hN : n.toNatClampNeg = N) (hb : N ≤ 65536) (hw1 : Cond.classLink own index RX1 ∈ TB) (hw2 : Cond.arrayOver (.object RX1) ∈ nestW) (hcells : ca + 1 ≤ rm.cells) (hslots : sa + N ≤ rm.slots) (hd : decode cc pc = .ok (.anewarray index, 3)) (kk : G E X (ca + 1) (sa + N) (pc + 3) lm (tR (some (zn σ)) :: st) (mkC σ 14 N)) : G E X ca sa pc lm (tI n :: st) σ := by
  intro ls H locs hl hw hS
  subst hN
  refine W.anew C.1 C.2.1 C.2.2.2.1 (C.2.2.2.2.1 _ hw1) (va_AO.use (C.nest hw2)) rfl hd rfl hn (by omega) (by rw [C.2.2.2.2.2.2.2.2.2.2]; exact hcells) (by rw [C.2.2.2.2.2.2.2.2.2.2]; exact hslots) fun cA kA comp f1 f2 f3 f4 => ?_
  generalize hH1 : H.push ({ cls := cA, slots := Array.replicate n.toNatClampNeg .null, vm := .none } : Cell) = H1
  have z1 : H1.size = H.size + 1 := by rw [← hH1, Array.size_push]
  have e1 : H1[H.size]? = some (arrV cA n.toNatClampNeg (fun _ => .null)) := by rw [← hH1, Array.getElem?_push_size, ← arrV_new]
  have o1 : ∀ q : Nat, q < H.size → H1[q]? = H[q]? := fun q hq => by rw [← hH1, Array.getElem?_push, if_neg (Nat.ne_of_lt hq)]
  have hcy : cA = eC E 14 := by
    obtain ⟨-, -, -, -, -, g4⟩ := (C.kk.2 4 _ rfl).2
    exact Option.some.inj (f1.symm.trans g4)
  subst hcy
  rw [hw.1] at e1 z1 o1 ⊢
  refine kk ls H1 locs hl (hw.push (e := .inl (eC E 14, n.toNatClampNeg, .inr (.inr (.inr (.inr (fun _ => none)))))) (by decide) ((zE_r (σ := mkC σ 14 n.toNatClampNeg) mkC_zk (by decide)).trans (by rw [mkC_zl, mkC_zr]; rfl)) ?_ z1 o1) (va_S_push hS (by rw [z1, hw.1]; omega) (fun q hq => o1 q (by rw [← hw.1]; exact hq)))
  exact e1
theorem g_newq15 (C : XOK E X cc own nL ret rm) {n : Int32} {N index : Nat} (hn : ¬ n < 0) (hN : n.toNatClampNeg = N) (hb : N ≤ 65536) (hw1 : Cond.classLink own index RX7 ∈ TB) (hw2 : Cond.arrayOver (.object RX7) ∈ nestW) (hcells : ca + 1 ≤ rm.cells) (hslots : sa + N ≤ rm.slots) (hd : decode cc pc = .ok (.anewarray index, 3)) (kk : G E X (ca + 1) (sa + N) (pc + 3) lm (tR (some (zn σ)) :: st) (mkC σ 15 N)) : G E X ca sa pc lm (tI n :: st) σ := by
  intro ls H locs hl hw hS
  subst hN
  refine W.anew C.1 C.2.1 C.2.2.2.1 (C.2.2.2.2.1 _ hw1) (va_AO.use (C.nest hw2)) rfl hd rfl hn (by omega) (by rw [C.2.2.2.2.2.2.2.2.2.2]; exact hcells) (by rw [C.2.2.2.2.2.2.2.2.2.2]; exact hslots) fun cA kA comp f1 f2 f3 f4 => ?_
  generalize hH1 : H.push ({ cls := cA, slots := Array.replicate n.toNatClampNeg .null, vm := .none } : Cell) = H1
  have z1 : H1.size = H.size + 1 := by rw [← hH1, Array.size_push]
  have e1 : H1[H.size]? = some (arrV cA n.toNatClampNeg (fun _ => .null)) := by rw [← hH1, Array.getElem?_push_size, ← arrV_new]
  have o1 : ∀ q : Nat, q < H.size → H1[q]? = H[q]? := fun q hq => by rw [← hH1, Array.getElem?_push, if_neg (Nat.ne_of_lt hq)]
  have hcy : cA = eC E 15 := by
    obtain ⟨-, -, -, -, -, g4⟩ := (C.kk.2 5 _ rfl).2
    exact Option.some.inj (f1.symm.trans g4)
  subst hcy
  rw [hw.1] at e1 z1 o1 ⊢
  refine kk ls H1 locs hl (hw.push (e := .inl (eC E 15, n.toNatClampNeg, .inr (.inr (.inr (.inr (fun _ => none)))))) (by decide) ((zE_r (σ := mkC σ 15 n.toNatClampNeg) mkC_zk (by decide)).trans (by rw [mkC_zl, mkC_zr]; rfl)) ?_ z1 o1) (va_S_push hS (by rw [z1, hw.1]; omega) (fun q hq => o1 q (by rw [← hw.1]; exact hq)))
  exact e1
/-- a new object: all its fields 0 or null -/
theorem g_new (C : XOK E X cc own nL ret rm) {c N index : Nat} {Cn : String} {T : u_T} (K : CK c Cn T N) (ty0 : Nat → FieldType) (hty : ∀ k, k < N → parseFieldDescriptor (T k).2.2.1 = some (ty0 k)) (hdf : ∀ j, j < N → ∀ t, (zft c)[j]? = some t → defaultValue (ty0 j) = if t = 0 then .int 0 else if t = 1 then .long 0 else .null) (hw1 : Cond.classLink own index Cn ∈ TB) (hw2 : Cond.instantiable Cn N ∈ TB) (hw3 : Cond.initialized Cn ∈ TB) (hcells : ca + 1 ≤ rm.cells) (hslots : sa + N ≤ rm.slots) (hd : decode cc pc = .ok (.new index, 3)) (kk : G E X (ca + 1) (sa + N) (pc + 3) lm (tR (some (zn σ)) :: st) (mkC σ c 0)) : G E X ca sa pc lm st σ := by
  intro ls H locs hl hw hS
  have hts := C.2.2.2.2.1
  have hKn := C.kk.1 c _ K.1
  refine W.newcK C.1 C.2.1 C.2.2.2.1 (hts _ hw1) (hts _ hw2) (hts _ hw3) rfl hd (by rw [C.2.2.2.2.2.2.2.2.2.2]; exact hcells) (by rw [C.2.2.2.2.2.2.2.2.2.2]; exact hslots) hKn.2.1 hw.1 fun H1 kC hkC e1 z1 o1 => ?_
  refine kk ls H1 locs hl (hw.push (e := .inr (c, zfs (eB E) (mkC σ c 0) (zn σ) (zft c) 0)) (Nat.lt_trans K.2.2.1 (by decide)) (zE_obj mkC_zk K.2.2.1) ?_ z1 o1) (va_S_push hS (by rw [z1, hw.1]; omega) (fun q hq => o1 q (by rw [← hw.1]; exact hq)))
  refine ⟨_, K.1, (u_born ty0 hts K.2.1 hKn hkC e1 hty).to (fun j hj => ?_)⟩
  have hlen : j < (zft c).length := by rw [K.2.2.2.1]; exact hj
  obtain ⟨t, ht⟩ : ∃ t, (zft c)[j]? = some t := ⟨(zft c)[j], List.getElem?_eq_getElem hlen⟩
  show defaultValue (ty0 j) = (zfs (eB E) (mkC σ c 0) (zn σ) (zft c) 0).getD j .null
  rw [hdf j hj t ht, List.getD_eq_getElem?_getD, zfs_get _ 0 j t ht]
  simp only [Option.getD_some, zfv, mkC_zi, mkC_zj, mkC_zr]
  rfl
theorem tw_sum (B : Nat) (l : List TV) : ((l.map (tv B)).map fun v => v.category).sum = (l.map tw).sum := by
  induction l with
  | nil => rfl
  | cons v l ih => simp only [List.map_cons, List.sum_cons, tv_cat, ih]
theorem g_objInit (C : XOK E X cc own nL ret rm) {idx a : Nat} (hw1 : Cond.methodLink own idx objectInit ∈ TB) (hw2 : Cond.instanceMethod objectInit ∈ TB) (hw3 : Cond.code objectInit ⟨#[0xb1]⟩ 1 none ∈ TB) (hrm : 1 ≤ rm.frames ∧ 20 ≤ rm.locals) (hst : (st.map tw).sum ≤ 8) (hd : decode cc pc = .ok (.invokespecial idx, 3)) (kk : G E X ca sa (pc + 3) lm st σ) : G E X ca sa pc lm (tR (some a) :: st) σ := by
  intro ls H locs hl hw hS
  have hts := C.2.2.2.2.1
  refine W.objInit C.1 C.2.1 C.2.2.2.1 (hts _ hw1) (hts _ hw2) (hts _ hw3) rfl hl.1 rfl hd (by rw [C.2.2.2.2.2.2.2.2.2.2]; exact hrm.1) (by rw [C.2.2.2.2.2.2.2.2.2.2]; have h20 := lv_room (m := xm X) (pc := pc) (ls := ls) (rest := (tR (some a) :: st).map (tv (eB E))) (st := st.map (tv (eB E))) (by rw [tw_sum]; exact hst); have := hrm.2; omega) ?_
  exact kk ls H locs hl hw hS
/-- behind a call -/
theorem g_run {rv : Option TV} {mc ms : Nat} {ls : Array Slot} {H : Heap} {locs : List Loc} {st0 : List Value} {a : Array Value} (hr : va_Run (xp X) (eL E) (xe X) (xR X) (xs X) (xm X) (xa X) (xb X) (xh X) (xc X) H locs ca sa mc ms (F0 (xm X) pc ls st0) (st.map (tv (eB E))) (QC E (rv, σ') a) (fun q => eB E ≤ q)) (hl : lv_has ls (xc X).maxLocals (lmv (eB E) lm)) (hS : va_S (fun q => eB E ≤ q) (xs X).heap H locs) (kk : G E X (ca + mc) (sa + ms) (pc + 3) lm (rv.toList ++ st) σ') :
    W (xp X) (eL E) (xe X) (xR X) (xs X) (xm X) (xa X) (xb X) (xh X) (xc X) H locs ca sa (MQ (xb X) (QC E (xd X)) (xa X) (xs X) (xn X).1 (xn X).2 (fun q => eB E ≤ q)) (F0 (xm X) pc ls st0) := by
  intro T hT Xs
  obtain ⟨v, st₀, t, T', L, h0, X', hL, e1, e2, ⟨hv, hwh, hz, hk⟩, stp⟩ := hr T hT Xs
  have hv' : v = rv.map (tv (eB E)) := by
    injection hv
  subst hv'
  rw [h0] at hz hk
  obtain ⟨t2, a1, b1⟩ := kk ls T'.heap (locs ++ L) hl (by rw [e1]; exact hwh) ⟨Nat.le_trans hS.1 (by rw [e1]; exact hz), fun q h1 h2 => by rw [e1, hk q (Nat.lt_of_lt_of_le h1 hS.1) h2]; exact hS.2.1 q h1 h2, fun q hq => by
      rcases List.mem_append.mp hq with h | h
      · exact hS.2.2 q h
      · exact hL q h⟩ T' rfl X'
  refine ⟨t2, stp t2 ?_, b1⟩
  have e : (rv.map (tv (eB E))).toList ++ st.map (tv (eB E)) = (rv.toList ++ st).map (tv (eB E)) := by
    cases rv <;> simp
  simp only [e]
  exact a1
theorem pc_blind {av : List TV} : FrameBlind (va_Pc (av.map (tv (eB E))) (fun U => WH E σ U.heap ∧ eV E U)) → True := fun _ => trivial
/-- the callee's room fits -/
def RF (rm rmy : Room) (n0 ca sa : Nat) : Prop := rmy.frames + 1 ≤ rm.frames ∧ 8 + (n0 + 11) + rmy.locals ≤ rm.locals ∧ ca + rmy.cells ≤ rm.cells ∧ sa + rmy.slots ≤ rm.slots
theorem XOK.good (_ : XOK E X cc own nL ret rm) {w : Cond} (h : w ∈ TB) : GoodIn TB (w :: TB) := tb_in (fun u hu => (List.mem_cons.mp hu).elim (fun e => by rw [e]; exact h) id)
theorem XOK.blind (C : XOK E X cc own nL ret rm) {av : List Value} {σ : Hp} : FrameBlind (va_Pc av (fun U => WH E σ U.heap ∧ eV E U)) := fun a U g mk q => ⟨q.1, q.2.1, C.2.2.2.2.2.2.2.1.2.1 U _ q.2.2 rfl rfl⟩
theorem XOK.pre (C : XOK E X cc own nL ret rm) {H : Heap} {locs : List Loc} (hw : WH E σ H) (hS : va_S (fun q => eB E ≤ q) (xs X).heap H locs) (av : List Value) : ∀ U : State, U.heap = H → (xs X).WarmedH U.vm → va_Pc av (fun U => WH E σ U.heap ∧ eV E U) av.toArray U := fun U hU hW => ⟨rfl, by rw [hU]; exact hw, C.2.2.2.2.2.2.2.1.1 (xs X) U C.2.2.2.2.2.2.2.2.1 hW (fun q hq => by rw [hU]; exact hS.2.1 q (Nat.lt_of_lt_of_le hq C.2.2.2.2.2.2.2.2.2.1) (Nat.not_le.mpr hq))⟩
theorem g_callV (C : XOK E X cc own nL ret rm) {y : MethodName} {bytes : ByteArray} {n0 n index a c N : Nat} {ret0 : Option FieldType} {rmy : Room} {av : List TV} {rv : Option TV} {T : u_T} {stk : List TV} (hM : CT E y (.code y bytes n0 ret0) rmy (tR (some a) :: av) σ rv σ') (hY : YV y bytes n0 ret0 n) (hw1 : Cond.methodLink own index y ∈ TB) (K : CK c y.cls T N) (hka : zk σ a = c) (hn : av.length = n) (hR : RF rm rmy n0 ca sa) (hstk : stk = av.reverse ++ tR (some a) :: st) (h8 : (st.map tw).sum ≤ 8) (hd : decode cc pc = .ok (.invokevirtual index, 3)) (kk : G E X (ca + rmy.cells) (sa + rmy.slots) (pc + 3) lm (rv.toList ++ st) σ') : G E X ca sa pc lm stk σ := by
  subst hstk
  intro ls H locs hl hw hS
  have hts := C.2.2.2.2.1
  have hRm := C.2.2.2.2.2.2.2.2.2.2
  have hrec := va_recv C.kk hw.2.2 (ci := c) (q0 := a) K.1 ((zW_get (hw.lt hka (Nat.lt_trans K.2.2.1 (by decide)))).trans (congrArg (fun e => some (eB E + a, e)) (zE_obj hka K.2.2.1)))
  have cw : CallW (xR X) (xs X) (xa X) own y.cls index y bytes n0 ret0 (.code y bytes n0 ret0 :: TB) rmy rmy.cells rmy.slots n := ⟨callB_of n hts (C.good hY.1) rfl rfl rfl (hts _ hY.2.2.2.1) (hts _ hw1) ⟨hY.2.2.2.2.1, hY.2.2.2.2.2.1, hY.2.2.2.2.2.2⟩ (by rw [hRm]; exact ⟨hR.1, hR.2.1⟩), hts _ hY.2.1, hts _ hY.2.2.1⟩
  exact g_run (va_runV (As := av.map (tv (eB E))) (rest := st.map (tv (eB E))) (b := eB E + a) ⟨C.1, C.2.1, rfl, C.2.2.2.1, hts⟩ hM cw ⟨C.blind, hrec, C.pre hw hS _⟩ rfl (by rw [List.length_map]; exact hn) hl.1 (by simp only [List.map_append, List.map_reverse, List.map_cons]; rfl) (lv_room (by rw [tw_sum]; exact h8)) hd (by rw [hRm]; exact hR.2.2)) hl hS kk
theorem g_callS (C : XOK E X cc own nL ret rm) {y : MethodName} {bytes : ByteArray} {n0 n index : Nat} {ret0 : Option FieldType} {rmy : Room} {av : List TV} {rv : Option TV} {stk : List TV} (hM : CT E y (.code y bytes n0 ret0) rmy av σ rv σ') (hY : YS y bytes n0 ret0 n) (hw1 : Cond.methodLink own index y ∈ TB) (hn : av.length = n) (hR : RF rm rmy n0 ca sa) (hstk : stk = av.reverse ++ st) (h8 : (st.map tw).sum ≤ 8) (hd : decode cc pc = .ok (.invokestatic index, 3)) (kk : G E X (ca + rmy.cells) (sa + rmy.slots) (pc + 3) lm (rv.toList ++ st) σ') : G E X ca sa pc lm stk σ := by
  subst hstk
  intro ls H locs hl hw hS
  have hts := C.2.2.2.2.1
  have hRm := C.2.2.2.2.2.2.2.2.2.2
  have cw : CallB (xR X) (xs X) (xa X) own index y bytes n0 ret0 (.code y bytes n0 ret0 :: TB) rmy rmy.cells rmy.slots n ∧ (Cond.static y).before (xa X) (xs X) = true := ⟨callB_of n hts (C.good hY.1) rfl rfl rfl (hts _ hY.2.2.1) (hts _ hw1) ⟨hY.2.2.2.1, hY.2.2.2.2.1, hY.2.2.2.2.2⟩ (by rw [hRm]; exact ⟨hR.1, hR.2.1⟩), hts _ hY.2.1⟩
  exact g_run (va_runS (As := av.map (tv (eB E))) (rest := st.map (tv (eB E))) ⟨C.1, C.2.1, rfl, C.2.2.2.1, hts⟩ hM cw ⟨C.blind, C.pre hw hS _⟩ rfl (by rw [List.length_map]; exact hn) hl.1 (by simp only [List.map_append, List.map_reverse]) (lv_room (by rw [tw_sum]; exact h8)) hd (by rw [hRm]; exact hR.2.2)) hl hS kk
theorem g_callSN (C : XOK E X cc own nL ret rm) {y : MethodName} {bytes : ByteArray} {n0 n index : Nat} {host : String} {ret0 : Option FieldType} {rmy : Room} {av : List TV} {rv : Option TV} {stk : List TV} (hM : CT E y (.code y bytes n0 ret0) rmy av σ rv σ') (hY : YS y bytes n0 ret0 n) (hw1 : Cond.methodLinkNest own index y host ∈ nestW) (hn : av.length = n) (hR : RF rm rmy n0 ca sa) (hstk : stk = av.reverse ++ st) (h8 : (st.map tw).sum ≤ 8) (hd : decode cc pc = .ok (.invokestatic index, 3)) (kk : G E X (ca + rmy.cells) (sa + rmy.slots) (pc + 3) lm (rv.toList ++ st) σ') : G E X ca sa pc lm stk σ := by
  subst hstk
  intro ls H locs hl hw hS
  have hts := C.2.2.2.2.1
  have hRm := C.2.2.2.2.2.2.2.2.2.2
  have cw : va_CN (xR X) (xs X) (xa X) own index y host bytes n0 ret0 (.code y bytes n0 ret0 :: TB) rmy rmy.cells rmy.slots n := va_cnB n hts (C.good hY.1) rfl rfl rfl (C.nest hw1) (hts _ hY.2.2.1) ⟨hY.2.2.2.1, hY.2.2.2.2.1, hY.2.2.2.2.2⟩ (by rw [hRm]; exact ⟨hR.1, hR.2.1⟩)
  exact g_run (va_runSN (As := av.map (tv (eB E))) (rest := st.map (tv (eB E))) ⟨C.1, C.2.1, rfl, C.2.2.2.1, hts⟩ hM ⟨cw, hts _ hY.2.1, trivial⟩ ⟨C.blind, C.pre hw hS _⟩ rfl (by rw [List.length_map]; exact hn) hl.1 (by simp only [List.map_append, List.map_reverse]) (lv_room (by rw [tw_sum]; exact h8)) hd (by rw [hRm]; exact hR.2.2)) hl hS kk
theorem g_callI (C : XOK E X cc own nL ret rm) {y : MethodName} {bytes : ByteArray} {n0 n index a : Nat} {rmy : Room} {av : List TV} {stk : List TV} (hM : CT E y (.code y bytes n0 none) rmy (tR (some a) :: av) σ none σ') (hY : YI y bytes n0 n) (hw1 : Cond.methodLink own index y ∈ TB) (hn : av.length = n) (hR : RF rm rmy n0 ca sa) (hstk : stk = av.reverse ++ tR (some a) :: st) (h8 : (st.map tw).sum ≤ 8) (hd : decode cc pc = .ok (.invokespecial index, 3)) (kk : G E X (ca + rmy.cells) (sa + rmy.slots) (pc + 3) lm st σ') : G E X ca sa pc lm stk σ := by
  subst hstk
  intro ls H locs hl hw hS
  have hts := C.2.2.2.2.1
  have hRm := C.2.2.2.2.2.2.2.2.2.2
  have cw := cwI (R := xR X) (s := xs X) (args := xa X) (own := own) (index := index) (y := y) (bytes := bytes) (maxL := n0) (ws := .code y bytes n0 none :: TB) (rm := rmy) (mc := rmy.cells) (ms := rmy.slots) n hts (C.good hY.1) rfl rfl rfl (hts _ hY.2.2.1) (hts _ hw1) (hts _ hY.2.1) hY.2.2.2.1 ⟨hY.2.2.2.2.1, hY.2.2.2.2.2.1, hY.2.2.2.2.2.2⟩ (by rw [hRm]; exact ⟨hR.1, hR.2.1⟩)
  exact g_run (rv := none) (va_runI (As := av.map (tv (eB E))) (rest := st.map (tv (eB E))) (b := eB E + a) ⟨C.1, C.2.1, rfl, C.2.2.2.1, hts⟩ hM cw ⟨C.blind, C.pre hw hS (.ref (eB E + a) :: av.map (tv (eB E)))⟩ rfl (by rw [List.length_map]; exact hn) hl.1 (by simp only [List.map_append, List.map_reverse, List.map_cons]; rfl) (lv_room (by rw [tw_sum]; exact h8)) hd (by rw [hRm]; exact hR.2.2)) hl hS kk
theorem g_callIN (C : XOK E X cc own nL ret rm) {y : MethodName} {bytes : ByteArray} {n0 n index a : Nat} {host : String} {rmy : Room} {av : List TV} {stk : List TV} (hM : CT E y (.code y bytes n0 none) rmy (tR (some a) :: av) σ none σ') (hY : YI y bytes n0 n) (hw1 : Cond.methodLinkNest own index y host ∈ nestW) (hn : av.length = n) (hR : RF rm rmy n0 ca sa) (hstk : stk = av.reverse ++ tR (some a) :: st) (h8 : (st.map tw).sum ≤ 8) (hd : decode cc pc = .ok (.invokespecial index, 3)) (kk : G E X (ca + rmy.cells) (sa + rmy.slots) (pc + 3) lm st σ') : G E X ca sa pc lm stk σ := by
  subst hstk
  intro ls H locs hl hw hS
  have hts := C.2.2.2.2.1
  have hRm := C.2.2.2.2.2.2.2.2.2.2
  have cw : va_CN (xR X) (xs X) (xa X) own index y host bytes n0 none (.code y bytes n0 none :: TB) rmy rmy.cells rmy.slots n := va_cnB n hts (C.good hY.1) rfl rfl rfl (C.nest hw1) (hts _ hY.2.2.1) ⟨hY.2.2.2.2.1, hY.2.2.2.2.2.1, hY.2.2.2.2.2.2⟩ (by rw [hRm]; exact ⟨hR.1, hR.2.1⟩)
  exact g_run (rv := none) (va_runIN (As := av.map (tv (eB E))) (rest := st.map (tv (eB E))) (b := eB E + a) ⟨C.1, C.2.1, rfl, C.2.2.2.1, hts⟩ hM ⟨cw, hY.2.2.2.1, hts _ hY.2.1⟩ ⟨C.blind, C.pre hw hS (.ref (eB E + a) :: av.map (tv (eB E)))⟩ rfl (by rw [List.length_map]; exact hn) hl.1 (by simp only [List.map_append, List.map_reverse, List.map_cons]; rfl) (lv_room (by rw [tw_sum]; exact h8)) hd (by rw [hRm]; exact hR.2.2)) hl hS kk
theorem g_aret (C : XOK E X cc own nL ret rm) {v : Option Nat} {rt : FieldType} (hr : ret = some rt) (hrt : (∃ n, rt = .object n) ∨ ∃ t, rt = .array t) (hx : xd X = (some (tR v), σ)) (hca : ca = (xn X).1) (hsa : sa = (xn X).2) (hd : decode cc pc = .ok (.areturn, 1)) : G E X ca sa pc lm [tR v] σ := by
  intro ls H locs hl hw hS
  subst hca
  subst hsa
  exact W.aret (v := tv (eB E) (tR v)) C.1 C.2.1 (C.2.2.2.2.2.1.trans hr) hrt (by cases v with | none => exact Or.inl rfl | some a => exact Or.inr ⟨_, rfl⟩) (fun t ht hW => by rw [hx]; exact ⟨rfl, by rw [ht]; exact hw, hS.F ht⟩) hS.2.2 hd C.2.2.2.2.2.2.1
/-! contracts -/
def targs : Nat → List TV → LM
  | _, [] => []
  | i, v :: vs => (i, v) :: targs (if tw v = 2 then i + 2 else i + 1) vs
theorem targs_lv (B : Nat) : ∀ (i : Nat) (av : List TV), lv_args i (av.map (tv B)) = lmv B (targs i av)
  | _, [] => rfl
  | i, v :: vs => by
    simp only [List.map_cons, lv_args, targs, lmv, tv_cat]
    rw [targs_lv B _ vs]
    rfl
theorem lg_len (B : Nat) (av : List TV) : (lg_sl (av.map (tv B))).length = (av.map tw).sum := by
  induction av with
  | nil => rfl
  | cons v l ih =>
    have e : lg_sl ((v :: l).map (tv B)) = (if (tv B v).category = 2 then [.val (tv B v), .second] else [.val (tv B v)]) ++ lg_sl (l.map (tv B)) := rfl
    rw [e, List.length_append, ih, List.map_cons, List.sum_cons, tv_cat]
    rcases v with x | x | r | q <;> simp [tw]
theorem CT.mk {y : MethodName} {cc : ByteArray} {nL : Nat} {ret : Option FieldType} {rm : Room} {av : List TV} {rv : Option TV} {σ σ1 : Hp} (hE : EOK E) (hy : plainName y.cls = true) (hn : (av.map tw).sum ≤ nL) (lm : LM) (hlm : targs 0 av = lm) (h : ∀ X : X0, XOK E X cc y.cls nL ret rm → (xh X).name = y.name → xd X = (rv, σ1) → xn X = (rm.cells, rm.slots) → G E X 0 0 0 lm [] σ) : CT E y (.code y cc nL ret) rm av σ rv σ1 := by
  refine Met.ofW (cc := cc) (maxL := nL) (ret := ret) hy rfl ?_
  intro p e s m args below meth c s₁ B hml hv
  obtain ⟨rfl, hw, hV⟩ := hv
  have hts : ∀ w ∈ TB, w.before ((av.map (tv (eB E))).toArray) s = true := fun w hw => atoms_spec (ws := .code y cc nL ret :: TB) B.pre w (List.mem_cons_of_mem _ hw)
  have hx := h (p, e, rm, s, m, (av.map (tv (eB E))).toArray, below, meth, c, (rv, σ1), (rm.cells, rm.slots)) ⟨B.exec, B.bytes, hml, findClass_of_methodNamed B.named, hts, B.returns, B.notSynchronized, hE, hV, by show eB E ≤ s.heap.size; rw [hw.1]; omega, rfl⟩ (name_of_methodNamed B.named B.method).1 rfl rfl
  rw [lg_entry_eq]
  have hl := lv_entry (av.map (tv (eB E))) (n := nL) (by rw [lg_len]; exact hn)
  rw [targs_lv, hlm] at hl
  exact hx _ _ [] (by show lv_has _ c.maxLocals _; rw [hml]; exact hl) hw va_S.rf
end GN
