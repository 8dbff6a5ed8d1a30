/-! ===== rows over the pool heap: arrays, new cells, returns, calls ===== -/
section GA
variable {E : E0} {X : X0} {cc : ByteArray} {own : String} {nL : Nat} {ret : Option FieldType} {rm : Room} {ca sa pc : Nat} {lm lm' : LM} {st : List TV} {σ σ' : Hp}
theorem zg_i {c a : Nat} (hw : a < zn σ) (h : zk σ a = c) (hc : c = 10 ∨ c = 11 ∨ c = 13) : (zW (eB E) (eC E) σ)[a]? = some (eB E + a, .inl (eC E c, zl σ a, .inl (zi σ a))) := (zW_get hw).trans (congrArg (fun e => some (eB E + a, e)) (zE_i h hc))
theorem zg_j {a : Nat} (hw : a < zn σ) (h : zk σ a = 12) : (zW (eB E) (eC E) σ)[a]? = some (eB E + a, .inl (eC E 12, zl σ a, .inr (.inl (zj σ a)))) := (zW_get hw).trans (congrArg (fun e => some (eB E + a, e)) (zE_j h))
theorem zg_r {c a : Nat} (hw : a < zn σ) (h : zk σ a = c) (hc : 14 ≤ c) : (zW (eB E) (eC E) σ)[a]? = some (eB E + a, .inl (eC E c, zl σ a, .inr (.inr (.inr (.inr (fun j => (zr σ a j).map (eB E + ·))))))) := (zW_get hw).trans (congrArg (fun e => some (eB E + a, e)) (zE_r h hc))
theorem upd_up {f : Nat → Nat → Int32} {a k : Nat} {v : Int32} : up2 f a k v a = upd (f a) k v := by
  funext j
  rw [up2_eq]
  rfl
theorem updL_up {f : Nat → Nat → Int64} {a k : Nat} {v : Int64} : up2 f a k v a = vp_updL (f a) k v := by
  funext j
  rw [up2_eq]
  rfl
theorem g_iald (C : XOK E X cc own nL ret rm) {a : Nat} {i : Int32} {v : Int32} (hv : ldI 11 σ a i = some v) (hd : decode cc pc = .ok (.iaload, 1)) (kk : G E X ca sa (pc + 1) lm (tI v :: st) σ) : G E X ca sa pc lm (tI i :: tR (some a) :: st) σ := by
  obtain ⟨⟨h1, h2⟩, rfl⟩ := zopt hv
  intro ls H locs hl hw hS
  exact va_iald C.1 C.2.1 C.kk hw.2.2 a 1 (zg_i (hw.lt h1 (by decide)) h1 (by decide)) rfl (inb_vp h2) hd (kk ls H locs hl hw hS)
theorem g_bald (C : XOK E X cc own nL ret rm) {a : Nat} {i : Int32} {v : Int32} (hv : ldI 10 σ a i = some v) (hd : decode cc pc = .ok (.baload, 1)) (kk : G E X ca sa (pc + 1) lm (tI v :: st) σ) : G E X ca sa pc lm (tI i :: tR (some a) :: st) σ := by
  obtain ⟨⟨h1, h2⟩, rfl⟩ := zopt hv
  intro ls H locs hl hw hS
  exact va_bald C.1 C.2.1 C.kk hw.2.2 a 0 (zg_i (hw.lt h1 (by decide)) h1 (by decide)) rfl (inb_vp h2) hd (kk ls H locs hl hw hS)
theorem g_zald (C : XOK E X cc own nL ret rm) {a : Nat} {i : Int32} {v : Int32} (hv : ldI 13 σ a i = some v) (hd : decode cc pc = .ok (.baload, 1)) (kk : G E X ca sa (pc + 1) lm (tI v :: st) σ) : G E X ca sa pc lm (tI i :: tR (some a) :: st) σ := by
  obtain ⟨⟨h1, h2⟩, rfl⟩ := zopt hv
  intro ls H locs hl hw hS
  exact va_zald C.1 C.2.1 C.kk hw.2.2 a 3 (zg_i (hw.lt h1 (by decide)) h1 (by decide)) rfl (inb_vp h2) hd (kk ls H locs hl hw hS)
theorem g_lald (C : XOK E X cc own nL ret rm) {a : Nat} {i : Int32} {v : Int64} (hv : ldJ σ a i = some v) (hd : decode cc pc = .ok (.laload, 1)) (kk : G E X ca sa (pc + 1) lm (tJ v :: st) σ) : G E X ca sa pc lm (tI i :: tR (some a) :: st) σ := by
  obtain ⟨⟨h1, h2⟩, rfl⟩ := zopt hv
  intro ls H locs hl hw hS
  exact va_lald C.1 C.2.1 C.kk hw.2.2 a 2 (zg_j (hw.lt h1 (by decide)) h1) rfl (inb_vp h2) hd (kk ls H locs hl hw hS)
theorem g_aald14 (C : XOK E X cc own nL ret rm) {a : Nat} {i : Int32} {v : Option Nat} (hv : ldR 14 σ a i = some v) (hd : decode cc pc = .ok (.aaload, 1)) (kk : G E X ca sa (pc + 1) lm (tR v :: st) σ) : G E X ca sa pc lm (tI i :: tR (some a) :: st) σ := by
  obtain ⟨⟨h1, h2⟩, rfl⟩ := zopt hv
  intro ls H locs hl hw hS
  exact va_aldq C.1 C.2.1 C.kk hw.2.2 a 4 (zg_r (hw.lt h1 (by decide)) h1 (by decide)) rfl (inb_vp h2) hd (kk ls H locs hl hw hS)
theorem g_aald15 (C : XOK E X cc own nL ret rm) {a : Nat} {i : Int32} {v : Option Nat} (hv : ldR 15 σ a i = some v) (hd : decode cc pc = .ok (.aaload, 1)) (kk : G E X ca sa (pc + 1) lm (tR v :: st) σ) : G E X ca sa pc lm (tI i :: tR (some a) :: st) σ := by
  obtain ⟨⟨h1, h2⟩, rfl⟩ := zopt hv
  intro ls H locs hl hw hS
  exact va_aldq C.1 C.2.1 C.kk hw.2.2 a 5 (zg_r (hw.lt h1 (by decide)) h1 (by decide)) rfl (inb_vp h2) hd (kk ls H locs hl hw hS)
theorem g_aald16 (C : XOK E X cc own nL ret rm) {a : Nat} {i : Int32} {v : Option Nat} (hv : ldR 16 σ a i = some v) (hd : decode cc pc = .ok (.aaload, 1)) (kk : G E X ca sa (pc + 1) lm (tR v :: st) σ) : G E X ca sa pc lm (tI i :: tR (some a) :: st) σ := by
  obtain ⟨⟨h1, h2⟩, rfl⟩ := zopt hv
  intro ls H locs hl hw hS
  have hin := inb_vp h2
  have hlt : i.toNatClampNeg < zl σ a := Nat.not_le.mp fun q => hin (Or.inr q)
  exact W.aald (v := va_rf ((zr σ a i.toNatClampNeg).map (eB E + ·))) (ty := .array .int) C.1 C.2.1 (hw.2.2 a _ (zg_r (hw.lt h1 (by decide)) h1 (by decide))) ((C.kk.2 6 _ rfl).1 (zl σ a) (fun j => va_rf ((zr σ a j).map (eB E + ·)))) rfl (fun q => by cases q) (by show ¬ (i < 0 ∨ (arrV _ _ _).slots.size ≤ _); rw [arrV_size]; exact hin) (by show (arrV _ _ _).slots[_]? = _; rw [arrV_read _ _ hlt]) rfl rfl hd (kk ls H locs hl hw hS)
theorem g_alen (C : XOK E X cc own nL ret rm) {a c : Nat} {v : Int32} (hc : 10 ≤ c ∧ c < 17) (hv : lnA c σ a = some v) (hd : decode cc pc = .ok (.arraylength, 1)) (kk : G E X ca sa (pc + 1) lm (tI v :: st) σ) : G E X ca sa pc lm (tR (some a) :: st) σ := by
  obtain ⟨h1, rfl⟩ := zopt hv
  intro ls H locs hl hw hS
  have hlt := hw.lt h1 hc.2
  have key : ∃ (x : vp_A) (ty : FieldType), (zW (eB E) (eC E) σ)[a]? = some (eB E + a, .inl (eC E c, x)) ∧ (eTys E)[c - 10]? = some (eC E c, ty) ∧ x.1 = zl σ a := by
    rcases (show c = 10 ∨ c = 11 ∨ c = 12 ∨ c = 13 ∨ c = 14 ∨ c = 15 ∨ c = 16 by omega) with rfl | rfl | rfl | rfl | rfl | rfl | rfl
    · exact ⟨_, _, zg_i hlt h1 (by decide), rfl, rfl⟩
    · exact ⟨_, _, zg_i hlt h1 (by decide), rfl, rfl⟩
    · exact ⟨_, _, zg_j hlt h1, rfl, rfl⟩
    · exact ⟨_, _, zg_i hlt h1 (by decide), rfl, rfl⟩
    · exact ⟨_, _, zg_r hlt h1 (by decide), rfl, rfl⟩
    · exact ⟨_, _, zg_r hlt h1 (by decide), rfl, rfl⟩
    · exact ⟨_, _, zg_r hlt h1 (by decide), rfl, rfl⟩
  obtain ⟨x, ty, e1, e2, e3⟩ := key
  exact va_alen C.1 C.2.1 C.kk hw.2.2 a (c - 10) e1 e2 (by rw [e3]) hd (kk ls H locs hl hw hS)
theorem g_iast (C : XOK E X cc own nL ret rm) {a : Nat} {i x : Int32} (hv : stI σ a i x = some σ') (hd : decode cc pc = .ok (.iastore, 1)) (kk : G E X ca sa (pc + 1) lm st σ') : G E X ca sa pc lm (tI x :: tI i :: tR (some a) :: st) σ := by
  obtain ⟨⟨h1, h2⟩, rfl⟩ := zopt hv
  intro ls H locs hl hw hS
  have hin := inb_vp h2
  have hlt := hw.lt h1 (by decide)
  refine W.iast C.1 C.2.1 (hw.2.2 a _ (zg_i hlt h1 (by decide))) ((C.kk.2 1 _ rfl).1 (zl σ a) (fun j => .int (zi σ a j))) (fun q => by cases q) (by show ¬ (i < 0 ∨ (arrV _ _ _).slots.size ≤ _); rw [arrV_size]; exact hin) rfl rfl hd fun H1 e z oq => ?_
  refine kk ls H1 _ hl (hw.set (e := .inl (eC E 11, zl σ a, .inl (upd (zi σ a) i.toNatClampNeg (x)))) rfl rfl hlt ?_ (fun j h => zsi_E h) ?_ z oq) (hS.put z oq (Nat.le_add_right _ _))
  · exact (zE_i (σ := zsi σ a i.toNatClampNeg (x)) (a := a) h1 (by decide)).trans (by show (Sum.inl (eC E 11, zl σ a, Sum.inl (up2 (zi σ) a i.toNatClampNeg (x) a)) : va_E) = _; rw [upd_up])
  · show H1[eB E + a]? = some (vp_cell _ _)
    rw [e]
    rw [vp_cell_i, vp_cell_i, arrV_store]
    congr 2
    funext q
    by_cases hq : q = i.toNatClampNeg
    · subst hq
      simp [updV, upd, vp_nar]
      try rfl
    · simp [updV, upd, hq]
theorem g_bast (C : XOK E X cc own nL ret rm) {a : Nat} {i x : Int32} (hv : stB σ a i x = some σ') (hd : decode cc pc = .ok (.bastore, 1)) (kk : G E X ca sa (pc + 1) lm st σ') : G E X ca sa pc lm (tI x :: tI i :: tR (some a) :: st) σ := by
  obtain ⟨⟨h1, h2⟩, rfl⟩ := zopt hv
  intro ls H locs hl hw hS
  have hin := inb_vp h2
  have hlt := hw.lt h1 (by decide)
  refine W.bast C.1 C.2.1 (hw.2.2 a _ (zg_i hlt h1 (by decide))) ((C.kk.2 0 _ rfl).1 (zl σ a) (fun j => .int (zi σ a j))) (fun q => by cases q) (by show ¬ (i < 0 ∨ (arrV _ _ _).slots.size ≤ _); rw [arrV_size]; exact hin) rfl rfl hd fun H1 e z oq => ?_
  refine kk ls H1 _ hl (hw.set (e := .inl (eC E 10, zl σ a, .inl (upd (zi σ a) i.toNatClampNeg (vp_nar .byte x)))) rfl rfl hlt ?_ (fun j h => zsi_E h) ?_ z oq) (hS.put z oq (Nat.le_add_right _ _))
  · exact (zE_i (σ := zsi σ a i.toNatClampNeg (vp_nar .byte x)) (a := a) h1 (by decide)).trans (by show (Sum.inl (eC E 10, zl σ a, Sum.inl (up2 (zi σ) a i.toNatClampNeg (vp_nar .byte x) a)) : va_E) = _; rw [upd_up])
  · show H1[eB E + a]? = some (vp_cell _ _)
    rw [e]
    rw [vp_cell_i, vp_cell_i, arrV_store]
    congr 2
    funext q
    by_cases hq : q = i.toNatClampNeg
    · subst hq
      simp [updV, upd, vp_nar]
      try rfl
    · simp [updV, upd, hq]
theorem g_zast (C : XOK E X cc own nL ret rm) {a : Nat} {i x : Int32} (hv : stZ σ a i x = some σ') (hd : decode cc pc = .ok (.bastore, 1)) (kk : G E X ca sa (pc + 1) lm st σ') : G E X ca sa pc lm (tI x :: tI i :: tR (some a) :: st) σ := by
  obtain ⟨⟨h1, h2⟩, rfl⟩ := zopt hv
  intro ls H locs hl hw hS
  have hin := inb_vp h2
  have hlt := hw.lt h1 (by decide)
  refine W.zast C.1 C.2.1 (hw.2.2 a _ (zg_i hlt h1 (by decide))) ((C.kk.2 3 _ rfl).1 (zl σ a) (fun j => .int (zi σ a j))) (fun q => by cases q) (by show ¬ (i < 0 ∨ (arrV _ _ _).slots.size ≤ _); rw [arrV_size]; exact hin) rfl rfl hd fun H1 e z oq => ?_
  refine kk ls H1 _ hl (hw.set (e := .inl (eC E 13, zl σ a, .inl (upd (zi σ a) i.toNatClampNeg (vp_nar .boolean x)))) rfl rfl hlt ?_ (fun j h => zsi_E h) ?_ z oq) (hS.put z oq (Nat.le_add_right _ _))
  · exact (zE_i (σ := zsi σ a i.toNatClampNeg (vp_nar .boolean x)) (a := a) h1 (by decide)).trans (by show (Sum.inl (eC E 13, zl σ a, Sum.inl (up2 (zi σ) a i.toNatClampNeg (vp_nar .boolean x) a)) : va_E) = _; rw [upd_up])
  · show H1[eB E + a]? = some (vp_cell _ _)
    rw [e]
    rw [vp_cell_i, vp_cell_i, arrV_store]
    congr 2
    funext q
    by_cases hq : q = i.toNatClampNeg
    · subst hq
      simp [updV, upd, vp_nar]
      try rfl
    · simp [updV, upd, hq]
theorem g_last (C : XOK E X cc own nL ret rm) {a : Nat} {i : Int32} {x : Int64} (hv : stJ σ a i x = some σ') (hd : decode cc pc = .ok (.lastore, 1)) (kk : G E X ca sa (pc + 1) lm st σ') : G E X ca sa pc lm (tJ x :: tI i :: tR (some a) :: st) σ := by
  obtain ⟨⟨h1, h2⟩, rfl⟩ := zopt hv
  intro ls H locs hl hw hS
  have hin := inb_vp h2
  have hlt := hw.lt h1 (by decide)
  refine W.last C.1 C.2.1 (hw.2.2 a _ (zg_j hlt h1)) ((C.kk.2 2 _ rfl).1 (zl σ a) (fun j => .long (zj σ a j))) (fun q => by cases q) (by show ¬ (i < 0 ∨ (arrV _ _ _).slots.size ≤ _); rw [arrV_size]; exact hin) rfl rfl hd fun H1 e z oq => ?_
  refine kk ls H1 _ hl (hw.set (e := .inl (eC E 12, zl σ a, .inr (.inl (vp_updL (zj σ a) i.toNatClampNeg x)))) rfl rfl hlt ?_ (fun j h => zsj_E h) ?_ z oq) (hS.put z oq (Nat.le_add_right _ _))
  · exact (zE_j (σ := zsj σ a i.toNatClampNeg x) (a := a) h1).trans (by show (Sum.inl (eC E 12, zl σ a, Sum.inr (Sum.inl (up2 (zj σ) a i.toNatClampNeg x a))) : va_E) = _; rw [updL_up])
  · show H1[eB E + a]? = some (vp_cell _ _)
    rw [e]
    rw [vp_cell_l, vp_cell_l, arrV_store]
    congr 2
    funext q
    by_cases hq : q = i.toNatClampNeg
    · subst hq
      simp [updV, vp_updL]
    · simp [updV, vp_updL, hq]
/-- a store of a reference; t0: the array's place among the array kinds, e: the kind of what may be stored -/
theorem g_aast (C : XOK E X cc own nL ret rm) {a c e : Nat} {i : Int32} {v : Option Nat} {r : vw_C} (hce : (c = 14 ∧ e = 1 ∧ r = (RX1, TX1, 20)) ∨ (c = 15 ∧ e = 7 ∧ r = (RX7, TX7, 3))) (hv : stR c e σ a i v = some σ') (hd : decode cc pc = .ok (.aastore, 1)) (kk : G E X ca sa (pc + 1) lm st σ') : G E X ca sa pc lm (tR v :: tI i :: tR (some a) :: st) σ := by
  have hcl : vwCl[e]? = some r ∧ (eTys E)[c - 10]? = some (eC E c, .object r.1) ∧ 14 ≤ c ∧ c < 17 ∧ e < 10 := by
    rcases hce with ⟨rfl, rfl, rfl⟩ | ⟨rfl, rfl, rfl⟩ <;> exact ⟨rfl, rfl, by decide, by decide, by decide⟩
  obtain ⟨hcl, hty, hc1, hc2, he⟩ := hcl
  obtain ⟨⟨h1, h2, h3⟩, rfl⟩ := zopt hv
  intro ls H locs hl hw hS
  have hin := inb_vp h2
  have hltN : i.toNatClampNeg < zl σ a := Nat.not_le.mp fun q => hin (Or.inr q)
  have h0 : ¬ i < 0 := fun q => hin (Or.inl q)
  have hlt := hw.lt h1 hc2
  have hat := hw.2.2 a _ (zg_r hlt h1 hc1)
  have fin : ∀ H1 : Heap, H1[eB E + a]? = some ((arrV (eC E c) (zl σ a) (fun j => va_rf ((zr σ a j).map (eB E + ·)))).setSlot i.toNatClampNeg (va_rf (v.map (eB E + ·)))) → H1.size = H.size → (∀ q, q ≠ eB E + a → H1[q]? = H[q]?) → W (xp X) (eL E) (xe X) (xR X) (xs X) (xm X) (xa X) (xb X) (xh X) (xc X) H1 (locs ++ [⟨eB E + a, i.toNatClampNeg⟩]) ca sa (MQ (xb X) (QC E (xd X)) (xa X) (xs X) (xn X).1 (xn X).2 (fun q => eB E ≤ q)) (F0 (xm X) (pc + 1) ls (st.map (tv (eB E)))) := by
    intro H1 e1 z oq
    refine kk ls H1 _ hl (hw.set (e := .inl (eC E c, zl σ a, .inr (.inr (.inr (.inr (fun j => (up2 (zr σ) a i.toNatClampNeg v a j).map (eB E + ·))))))) rfl rfl hlt ?_ (fun j h => zsr_E h) ?_ z oq) (hS.put z oq (Nat.le_add_right _ _))
    · exact zE_r (σ := zsr σ a i.toNatClampNeg v) (a := a) h1 hc1
    · show H1[eB E + a]? = some (vp_cell _ _)
      rw [e1]
      rw [vp_cell_q, arrV_store]
      congr 2
      funext q
      by_cases hq : q = i.toNatClampNeg
      · subst hq
        simp [updV, up2_eq]
      · simp [updV, up2_eq, hq]
  cases v with
  | none =>
    exact va_WaastN (C := r.1) C.1 C.2.1 hat ((C.kk.2 (c - 10) _ hty).1 (zl σ a) (fun j => va_rf ((zr σ a j).map (eB E + ·)))) (fun h => by cases h) (by show ¬ (i < 0 ∨ (arrV _ _ _).slots.size ≤ _); rw [arrV_size]; exact hin) rfl rfl hd fin
  | some b =>
    have hkb : zk σ b = e := by
      rcases h3 with h | ⟨b', h, hb⟩
      · cases h
      · cases h
        exact hb
    have hltb := hw.lt hkb (by omega)
    obtain ⟨r', hr', cellV, g1, g2, g3, -⟩ := hw.2.2 b _ ((zW_get hltb).trans (congrArg (fun x => some (eB E + b, x)) (zE_obj hkb he)))
    have hcls := (C.kk.1 e r hcl).2
    obtain ⟨kA, comp, k1, k2, k3, -⟩ := (C.kk.2 (c - 10) _ hty).2
    have hcomp : comp = (eD E).1 e := Option.some.inj (k3.symm.trans hcls.1)
    subst hcomp
    obtain ⟨kC, hkC, -⟩ := hcls.2
    exact W.aast C.1 C.2.1 hat (fun q h => by cases h) (fun h => by cases h) k1 k2 rfl hkC ⟨h0, by show _ < (arrV _ _ _).slots.size; rw [arrV_size]; exact hltN⟩ g1 (fun q h => by rw [g3] at h; cases h) (by rw [g2]; exact hkC) (by rw [g2]; exact va_assign hcls) rfl rfl hd fin
/-! returns -/
theorem g_iret (C : XOK E X cc own nL ret rm) {v : Int32} (hr : ret = some .int) (hx : xd X = (some (tI v), σ)) (hca : ca = (xn X).1) (hsa : sa = (xn X).2) (hd : decode cc pc = .ok (.ireturn, 1)) : G E X ca sa pc lm [tI v] σ := by
  intro ls H locs hl hw hS
  subst hca
  subst hsa
  exact W.iret (v := v) C.1 C.2.1 (C.2.2.2.2.2.1.trans hr) (fun t ht hW => by rw [hx]; exact ⟨rfl, by rw [ht]; exact hw, hS.F ht⟩) hS.2.2 hd C.2.2.2.2.2.2.1
theorem g_zret (C : XOK E X cc own nL ret rm) {v : Int32} (hr : ret = some .boolean) (hx : xd X = (some (tI v), σ)) (hv : v = 0 ∨ v = 1) (hca : ca = (xn X).1) (hsa : sa = (xn X).2) (hd : decode cc pc = .ok (.ireturn, 1)) : G E X ca sa pc lm [tI v] σ := by
  intro ls H locs hl hw hS
  subst hca
  subst hsa
  exact W.zret (v := v) (ty := .boolean) C.1 C.2.1 (C.2.2.2.2.2.1.trans hr) (by rcases hv with rfl | rfl <;> rfl) (fun t ht hW => by rw [hx]; exact ⟨rfl, by rw [ht]; exact hw, hS.F ht⟩) hS.2.2 hd C.2.2.2.2.2.2.1
theorem g_lret (C : XOK E X cc own nL ret rm) {v : Int64} (hr : ret = some .long) (hx : xd X = (some (tJ v), σ)) (hca : ca = (xn X).1) (hsa : sa = (xn X).2) (hd : decode cc pc = .ok (.lreturn, 1)) : G E X ca sa pc lm [tJ v] σ := by
  intro ls H locs hl hw hS
  subst hca
  subst hsa
  exact W.lret (v := v) C.1 C.2.1 (C.2.2.2.2.2.1.trans hr) (fun t ht hW => by rw [hx]; exact ⟨rfl, by rw [ht]; exact hw, hS.F ht⟩) hS.2.2 hd C.2.2.2.2.2.2.1
theorem g_vret (C : XOK E X cc own nL ret rm) (hr : ret = none) (hx : xd X = (none, σ)) (hca : ca = (xn X).1) (hsa : sa = (xn X).2) (hd : decode cc pc = .ok (.return_, 1)) : G E X ca sa pc lm [] σ := by
  intro ls H locs hl hw hS
  subst hca
  subst hsa
  exact W.vret C.1 C.2.1 (C.2.2.2.2.2.1.trans hr) (fun t ht hW => by rw [hx]; exact ⟨rfl, by rw [ht]; exact hw, hS.F ht⟩) hS.2.2 hd C.2.2.2.2.2.2.1
end GA
