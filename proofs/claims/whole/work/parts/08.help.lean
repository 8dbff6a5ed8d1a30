/-! ===== what the laid functions are made of, and how a walk takes them apart ===== -/
def ck (c : Nat) (σ : Hp) (a : Nat) : Option Unit := if zk σ a = c then some () else none
def cb {α β : Type} (o : Option (α × Hp)) (f : α → Hp → Option β) : Option β := o.bind (fun p => f p.1 p.2)
theorem zcb {α β : Type} {o : Option (α × Hp)} {f : α → Hp → Option β} {y : β} (h : cb o f = some y) : ∃ v σ, o = some (v, σ) ∧ f v σ = some y := by
  cases o with
  | none => cases h
  | some p => exact ⟨p.1, p.2, rfl, h⟩
theorem zcbK {α β : Type} {o : Option (α × Hp)} {f : α → Hp → Option β} {y : β} (h : cb o f = some y) : ∃ KE : α → Hp → Prop, (∀ v σ, KE v σ ↔ f v σ = some y) ∧ ∃ v σ, o = some (v, σ) ∧ KE v σ := by
  obtain ⟨v, σ, h1, h2⟩ := zcb h
  exact ⟨fun v σ => f v σ = some y, fun _ _ => Iff.rfl, v, σ, h1, h2⟩
theorem cb_some {α β : Type} (v : α) (σ : Hp) (f : α → Hp → Option β) : cb (some (v, σ)) f = f v σ := rfl
def nw (c n : Nat) (σ : Hp) : Option (Nat × Hp) := some (zn σ, mkC σ c n)
theorem nw_h {c n a : Nat} {σ σ1 : Hp} (h : nw c n σ = some (a, σ1)) : a = zn σ ∧ σ1 = mkC σ c n := by
  cases h
  exact ⟨rfl, rfl⟩
theorem zif_t {α : Type} {c : Prop} [inst : Decidable c] {a b : Option α} {y : α} (hc : c) (h : @ite _ c inst a b = some y) : a = some y := by
  rw [if_pos hc] at h
  exact h
theorem zif_f {α : Type} {c : Prop} [inst : Decidable c] {a b : Option α} {y : α} (hc : ¬ c) (h : @ite _ c inst a b = some y) : b = some y := by
  rw [if_neg hc] at h
  exact h
theorem zsome {α β : Type} {a c : α} {b d : β} (h : some (a, b) = some (c, d)) : a = c ∧ b = d := by
  cases h
  exact ⟨rfl, rfl⟩
/-- a divisor that isn't 0 -/
def zne (p : Prop) [Decidable p] : Option Unit := if p then none else some ()
theorem zne_h {p : Prop} [Decidable p] {u : Unit} (h : zne p = some u) : ¬ p := by
  intro hp
  unfold zne at h
  rw [if_pos hp] at h
  cases h
/-- a truth value -/
def zbo (v : Int32) : Option Unit := if v = 0 ∨ v = 1 then some () else none
theorem zbo_h {v : Int32} {u : Unit} (h : zbo v = some u) : v = 0 ∨ v = 1 := (zopt h).1
theorem n32 {x k : Int32} {n : Int} (hk : k.toInt = n) (h : ¬ x = k) : x.toInt ≠ n := fun e => h (Int32.toInt_inj.mp (e.trans hk.symm))
theorem lsw_def {df : Int} : ∀ {l : List (Int × Int)} {x : Int}, (∀ p ∈ l, p.1 ≠ x) → Op.lookupswitch.offset l df x = df
  | [], _, _ => rfl
  | (a, o) :: l, x, h => by
    show (if a = x then o else Op.lookupswitch.offset l df x) = df
    rw [if_neg (h (a, o) List.mem_cons_self)]
    exact lsw_def (fun p hp => h p (List.mem_cons_of_mem _ hp))
def rfb (rm rmy : Room) (n0 ca sa : Nat) : Bool := Nat.ble (rmy.frames + 1) rm.frames && Nat.ble (8 + (n0 + 11) + rmy.locals) rm.locals && Nat.ble (ca + rmy.cells) rm.cells && Nat.ble (sa + rmy.slots) rm.slots
theorem rf_of {rm rmy : Room} {n0 ca sa : Nat} (h : rfb rm rmy n0 ca sa = true) : RF rm rmy n0 ca sa := by
  unfold rfb at h
  simp only [Bool.and_eq_true] at h
  exact ⟨Nat.le_of_ble_eq_true h.1.1.1, Nat.le_of_ble_eq_true h.1.1.2, Nat.le_of_ble_eq_true h.1.2, Nat.le_of_ble_eq_true h.2⟩
/-- a loop: its body goes on with new values, or leaves with something -/
noncomputable def loopF {V Ex : Type} (body : V → Hp → Option ((V ⊕ Ex) × Hp)) (v : V) (σ : Hp) : Option (Ex × Hp) := do
  let r ← body v σ
  match r with
  | (Sum.inl v2, σ2) => loopF body v2 σ2
  | (Sum.inr e, σ2) => some (e, σ2)
partial_fixpoint
theorem loopF_ind {V Ex : Type} {body : V → Hp → Option ((V ⊕ Ex) × Hp)} {P : V → Hp → Prop} {KE : Ex → Hp → Prop} (hb : ∀ v σ x σ1, body v σ = some (x, σ1) → (∀ v2, x = Sum.inl v2 → P v2 σ1) → (∀ e, x = Sum.inr e → KE e σ1) → P v σ) : ∀ v σ e σ1, loopF body v σ = some (e, σ1) → KE e σ1 → P v σ := by
  intro v σ e σ1 h
  refine loopF.partial_correctness body (fun v σ r => KE r.1 r.2 → P v σ) ?_ v σ (e, σ1) h
  intro lp ih v σ r hr hk
  obtain ⟨⟨x, σ2⟩, hx, h2⟩ := zbind (show (body v σ).bind _ = some r from hr)
  refine hb v σ x σ2 hx (fun v2 e2 => ?_) (fun e2 e3 => ?_)
  · subst e2
    exact ih v2 σ2 r h2 hk
  · subst e3
    cases h2
    exact hk
theorem df_0 : ∀ j, j < 2 → ∀ t, (zft 0)[j]? = some t → defaultValue (tyX0 j) = if t = 0 then .int 0 else if t = 1 then .long 0 else .null := by
  intro j hj t ht
  have hd : (List.range 2).all (fun j => (zft 0)[j]?.all (fun t => decide (defaultValue (tyX0 j) = if t = 0 then .int 0 else if t = 1 then .long 0 else .null))) = true := by decide +kernel
  have h1 := List.all_eq_true.mp hd j (List.mem_range.mpr hj)
  rw [ht] at h1
  simpa using h1
theorem df_1 : ∀ j, j < 20 → ∀ t, (zft 1)[j]? = some t → defaultValue (tyX1 j) = if t = 0 then .int 0 else if t = 1 then .long 0 else .null := by
  intro j hj t ht
  have hd : (List.range 20).all (fun j => (zft 1)[j]?.all (fun t => decide (defaultValue (tyX1 j) = if t = 0 then .int 0 else if t = 1 then .long 0 else .null))) = true := by decide +kernel
  have h1 := List.all_eq_true.mp hd j (List.mem_range.mpr hj)
  rw [ht] at h1
  simpa using h1
theorem df_2 : ∀ j, j < 7 → ∀ t, (zft 2)[j]? = some t → defaultValue (tyX2 j) = if t = 0 then .int 0 else if t = 1 then .long 0 else .null := by
  intro j hj t ht
  have hd : (List.range 7).all (fun j => (zft 2)[j]?.all (fun t => decide (defaultValue (tyX2 j) = if t = 0 then .int 0 else if t = 1 then .long 0 else .null))) = true := by decide +kernel
  have h1 := List.all_eq_true.mp hd j (List.mem_range.mpr hj)
  rw [ht] at h1
  simpa using h1
theorem df_3 : ∀ j, j < 4 → ∀ t, (zft 3)[j]? = some t → defaultValue (tyX3 j) = if t = 0 then .int 0 else if t = 1 then .long 0 else .null := by
  intro j hj t ht
  have hd : (List.range 4).all (fun j => (zft 3)[j]?.all (fun t => decide (defaultValue (tyX3 j) = if t = 0 then .int 0 else if t = 1 then .long 0 else .null))) = true := by decide +kernel
  have h1 := List.all_eq_true.mp hd j (List.mem_range.mpr hj)
  rw [ht] at h1
  simpa using h1
theorem df_4 : ∀ j, j < 12 → ∀ t, (zft 4)[j]? = some t → defaultValue (tyX4 j) = if t = 0 then .int 0 else if t = 1 then .long 0 else .null := by
  intro j hj t ht
  have hd : (List.range 12).all (fun j => (zft 4)[j]?.all (fun t => decide (defaultValue (tyX4 j) = if t = 0 then .int 0 else if t = 1 then .long 0 else .null))) = true := by decide +kernel
  have h1 := List.all_eq_true.mp hd j (List.mem_range.mpr hj)
  rw [ht] at h1
  simpa using h1
theorem df_5 : ∀ j, j < 2 → ∀ t, (zft 5)[j]? = some t → defaultValue (tyX5 j) = if t = 0 then .int 0 else if t = 1 then .long 0 else .null := by
  intro j hj t ht
  have hd : (List.range 2).all (fun j => (zft 5)[j]?.all (fun t => decide (defaultValue (tyX5 j) = if t = 0 then .int 0 else if t = 1 then .long 0 else .null))) = true := by decide +kernel
  have h1 := List.all_eq_true.mp hd j (List.mem_range.mpr hj)
  rw [ht] at h1
  simpa using h1
theorem df_6 : ∀ j, j < 2 → ∀ t, (zft 6)[j]? = some t → defaultValue (tyX6 j) = if t = 0 then .int 0 else if t = 1 then .long 0 else .null := by
  intro j hj t ht
  have hd : (List.range 2).all (fun j => (zft 6)[j]?.all (fun t => decide (defaultValue (tyX6 j) = if t = 0 then .int 0 else if t = 1 then .long 0 else .null))) = true := by decide +kernel
  have h1 := List.all_eq_true.mp hd j (List.mem_range.mpr hj)
  rw [ht] at h1
  simpa using h1
theorem df_7 : ∀ j, j < 3 → ∀ t, (zft 7)[j]? = some t → defaultValue (tyX7 j) = if t = 0 then .int 0 else if t = 1 then .long 0 else .null := by
  intro j hj t ht
  have hd : (List.range 3).all (fun j => (zft 7)[j]?.all (fun t => decide (defaultValue (tyX7 j) = if t = 0 then .int 0 else if t = 1 then .long 0 else .null))) = true := by decide +kernel
  have h1 := List.all_eq_true.mp hd j (List.mem_range.mpr hj)
  rw [ht] at h1
  simpa using h1
theorem df_8 : ∀ j, j < 19 → ∀ t, (zft 8)[j]? = some t → defaultValue (tyX8 j) = if t = 0 then .int 0 else if t = 1 then .long 0 else .null := by
  intro j hj t ht
  have hd : (List.range 19).all (fun j => (zft 8)[j]?.all (fun t => decide (defaultValue (tyX8 j) = if t = 0 then .int 0 else if t = 1 then .long 0 else .null))) = true := by decide +kernel
  have h1 := List.all_eq_true.mp hd j (List.mem_range.mpr hj)
  rw [ht] at h1
  simpa using h1
theorem df_9 : ∀ j, j < 58 → ∀ t, (zft 9)[j]? = some t → defaultValue (tyX9 j) = if t = 0 then .int 0 else if t = 1 then .long 0 else .null := by
  intro j hj t ht
  have hd : (List.range 58).all (fun j => (zft 9)[j]?.all (fun t => decide (defaultValue (tyX9 j) = if t = 0 then .int 0 else if t = 1 then .long 0 else .null))) = true := by decide +kernel
  have h1 := List.all_eq_true.mp hd j (List.mem_range.mpr hj)
  rw [ht] at h1
  simpa using h1
section GB
variable {E : E0} {X : X0} {cc : ByteArray} {own : String} {nL : Nat} {ret : Option FieldType} {rm : Room} {ca sa pc : Nat} {lm lm' : LM} {st : List TV} {σ σ' : Hp}
/-- the words of Math's four, and of the room that they want -/
def RMx (rm : Room) (st : List TV) : Prop := 1 ≤ rm.frames ∧ (st.map tw).sum + 15 ≤ rm.locals
theorem mm_ini : Cond.initialized "java/lang/Math" ∈ TB := ii_J9
theorem g_mmax (C : XOK E X cc own nL ret rm) {x y : Int32} {index : Nat} (hw1 : Cond.methodLink own index yJ9_max_7cf53 ∈ TB) (hR : 1 ≤ rm.frames ∧ (st.map tw).sum + 15 ≤ rm.locals) (hc : ca ≤ rm.cells ∧ sa ≤ rm.slots) (hd : decode cc pc = .ok (.invokestatic index, 3)) (kk : G E X ca sa (pc + 3) lm (tI (if x < y then y else x) :: st) σ) : G E X ca sa pc lm (tI y :: tI x :: st) σ := by
  intro ls H locs hl hw hS
  have hts := C.2.2.2.2.1
  have hRm := C.2.2.2.2.2.2.2.2.2.2
  exact va_mmax C.1 C.2.1 hl.1.symm C.2.2.2.1 (hts _ hw1) (hts _ ys_J9_max_7cf53.2.1) (hts _ mm_ini) (hts _ ys_J9_max_7cf53.1) (by rw [hRm]; exact hR.1) (by rw [hRm, tw_sum]; omega) (by rw [hRm]; exact hc.1) (by rw [hRm]; exact hc.2) hd (kk ls H locs hl hw hS)
theorem g_mmin (C : XOK E X cc own nL ret rm) {x y : Int32} {index : Nat} (hw1 : Cond.methodLink own index yJ9_min_7cf53 ∈ TB) (hR : 1 ≤ rm.frames ∧ (st.map tw).sum + 15 ≤ rm.locals) (hc : ca ≤ rm.cells ∧ sa ≤ rm.slots) (hd : decode cc pc = .ok (.invokestatic index, 3)) (kk : G E X ca sa (pc + 3) lm (tI (if y < x then y else x) :: st) σ) : G E X ca sa pc lm (tI y :: tI x :: st) σ := by
  intro ls H locs hl hw hS
  have hts := C.2.2.2.2.1
  have hRm := C.2.2.2.2.2.2.2.2.2.2
  exact va_mmin C.1 C.2.1 hl.1.symm C.2.2.2.1 (hts _ hw1) (hts _ ys_J9_min_7cf53.2.1) (hts _ mm_ini) (hts _ ys_J9_min_7cf53.1) (by rw [hRm]; exact hR.1) (by rw [hRm, tw_sum]; omega) (by rw [hRm]; exact hc.1) (by rw [hRm]; exact hc.2) hd (kk ls H locs hl hw hS)
theorem g_mmaxl (C : XOK E X cc own nL ret rm) {x y : Int64} {index : Nat} (hw1 : Cond.methodLink own index yJ9_max_f86c9 ∈ TB) (hR : 1 ≤ rm.frames ∧ (st.map tw).sum + 15 ≤ rm.locals) (hc : ca ≤ rm.cells ∧ sa ≤ rm.slots) (hd : decode cc pc = .ok (.invokestatic index, 3)) (kk : G E X ca sa (pc + 3) lm (tJ (if y < x then x else y) :: st) σ) : G E X ca sa pc lm (tJ y :: tJ x :: st) σ := by
  intro ls H locs hl hw hS
  have hts := C.2.2.2.2.1
  have hRm := C.2.2.2.2.2.2.2.2.2.2
  exact va_mmax_long C.1 C.2.1 hl.1.symm C.2.2.2.1 (hts _ hw1) (hts _ ys_J9_max_f86c9.2.1) (hts _ mm_ini) (hts _ ys_J9_max_f86c9.1) (by rw [hRm]; exact hR.1) (by rw [hRm, tw_sum]; omega) (by rw [hRm]; exact hc.1) (by rw [hRm]; exact hc.2) hd (kk ls H locs hl hw hS)
theorem g_mminl (C : XOK E X cc own nL ret rm) {x y : Int64} {index : Nat} (hw1 : Cond.methodLink own index yJ9_min_f86c9 ∈ TB) (hR : 1 ≤ rm.frames ∧ (st.map tw).sum + 15 ≤ rm.locals) (hc : ca ≤ rm.cells ∧ sa ≤ rm.slots) (hd : decode cc pc = .ok (.invokestatic index, 3)) (kk : G E X ca sa (pc + 3) lm (tJ (if y < x then y else x) :: st) σ) : G E X ca sa pc lm (tJ y :: tJ x :: st) σ := by
  intro ls H locs hl hw hS
  have hts := C.2.2.2.2.1
  have hRm := C.2.2.2.2.2.2.2.2.2.2
  exact va_mmin_long C.1 C.2.1 hl.1.symm C.2.2.2.1 (hts _ hw1) (hts _ ys_J9_min_f86c9.2.1) (hts _ mm_ini) (hts _ ys_J9_min_f86c9.1) (by rw [hRm]; exact hR.1) (by rw [hRm, tw_sum]; omega) (by rw [hRm]; exact hc.1) (by rw [hRm]; exact hc.2) hd (kk ls H locs hl hw hS)
theorem ac_nat : Cond.native arraycopyName ∈ TB := tb_4 20 (by decide +kernel) rfl
theorem ac_stat : Cond.static arraycopyName ∈ TB := tb_4 19 (by decide +kernel) rfl
/-- int[] (or byte[]) of whole numbers copied: src and dst are two different cells of kind 11 -/
def acopy (σ : Hp) (a : Nat) (sp : Int32) (b : Nat) (dp n : Int32) : Option Hp :=
  if zk σ a = 11 ∧ zk σ b = 11 ∧ a ≠ b ∧ ¬ sp < 0 ∧ ¬ dp < 0 ∧ ¬ n < 0 ∧ sp.toNatClampNeg + n.toNatClampNeg ≤ zl σ a ∧ dp.toNatClampNeg + n.toNatClampNeg ≤ zl σ b then
    some (zn σ, zk σ, zl σ, va_up (zi σ) b (va_cpy (zi σ a) (zi σ b) sp.toNatClampNeg dp.toNatClampNeg n.toNatClampNeg), zj σ, zr σ)
  else none
theorem g_acopy (C : XOK E X cc own nL ret rm) {a b index : Nat} {sp dp n : Int32} (hv : acopy σ a sp b dp n = some σ') (hw1 : Cond.methodLink own index arraycopyName ∈ TB) (hR : 1 ≤ rm.frames ∧ (st.map tw).sum + 40 ≤ rm.locals) (hd : decode cc pc = .ok (.invokestatic index, 3)) (kk : G E X ca sa (pc + 3) lm st σ') : G E X ca sa pc lm (tI n :: tI dp :: tR (some b) :: tI sp :: tR (some a) :: st) σ := by
  obtain ⟨⟨ha, hb, hab, h1, h2, h3, h4, h5⟩, rfl⟩ := zopt hv
  intro ls H locs hl hw hS
  have hts := C.2.2.2.2.1
  have hRm := C.2.2.2.2.2.2.2.2.2.2
  have hla := hw.lt ha (by decide)
  have hlb := hw.lt hb (by decide)
  have nn : ∀ z : Int32, ¬ z < 0 → z.toInt = (z.toNatClampNeg : Int) := by
    intro z hz
    have hz0 : (0 : Int) ≤ z.toInt := by
      have := Int32.not_lt.mp hz
      simpa using Int32.le_iff_toInt_le.mp this
    show z.toInt = ((z.toInt.toNat : Nat) : Int)
    omega
  intro T hT Xs
  have hc0 : H[eB E + a]? = some (vp_cell (eC E 11) (zl σ a, .inl (zi σ a))) := hw.2.2 a _ (zg_i hla ha (by decide))
  have hc1 : H[eB E + b]? = some (vp_cell (eC E 11) (zl σ b, .inl (zi σ b))) := hw.2.2 b _ (zg_i hlb hb (by decide))
  obtain ⟨-, k0, hk0, cm0, hkk0⟩ := (C.kk.2 1 _ rfl).1 (zl σ a) (fun j => .int (zi σ a j))
  obtain ⟨vm', X', step⟩ := Xs.arraycopy C.1 C.2.2.2.1 (hts _ hw1) (hts _ ac_nat) (hts _ ac_stat) (hts _ ii_J10) (src := eB E + a) (dst := eB E + b) (cs := vp_cell (eC E 11) (zl σ a, .inl (zi σ a))) (cd := vp_cell (eC E 11) (zl σ b, .inl (zi σ b))) (srcPos := sp) (destPos := dp) (n := n) (by rw [hT]; exact hc0) (by rw [hT]; exact hc1)
    (fun _ h => by cases h) (fun _ h => by cases h) (fun h => by cases h) (fun h => by cases h) hk0 hk0 hkk0 hkk0 (by rfl) h1 h2 h3
    (by rw [nn sp h1, nn n h3]; show ¬ _ > ((arrV (eC E 11) (zl σ a) (fun j => .int (zi σ a j))).slots.size : Int); rw [arrV_size]; omega)
    (by rw [nn dp h2, nn n h3]; show ¬ _ > ((arrV (eC E 11) (zl σ b) (fun j => .int (zi σ b j))).slots.size : Int); rw [arrV_size]; omega)
    (fun vm₁ _ i hi => by
      have e : (vp_cell (eC E 11) (zl σ a, .inl (zi σ a))).slots.getD (sp.toNatClampNeg + i) .null = .int (zi σ a (sp.toNatClampNeg + i)) := by
        show (arrV (eC E 11) (zl σ a) (fun j => .int (zi σ a j))).slots.getD _ _ = _
        rw [Array.getD_eq_getD_getElem?, arrV_read _ _ (by omega)]
        rfl
      refine ⟨?_, ?_⟩
      · rw [e]
        rfl
      · rw [e]
        exact trivial)
    (g := F0 (xm X) pc ls ((tI n :: tI dp :: tR (some b) :: tI sp :: tR (some a) :: st).map (tv (eB E)))) rfl hl.1 (rest := st.map (tv (eB E))) rfl (by rw [C.2.1]; exact hd) (by rw [hRm]; exact hR.1) (by rw [hRm, tw_sum]; show 2 * 0 + _ + _ ≤ _; have e9 : nativeFrameWords "java/lang/System" "arraycopy" 5 + 11 ≤ 40 := (by decide +kernel); have e8 := hR.2; omega)
  have e1 : copied (vp_cell (eC E 11) (zl σ a, .inl (zi σ a))) (vp_cell (eC E 11) (zl σ b, .inl (zi σ b))) sp dp n = vp_cell (eC E 11) (zl σ b, .inl (va_cpy (zi σ a) (zi σ b) sp.toNatClampNeg dp.toNatClampNeg n.toNatClampNeg)) := va_copied (fun z => .int z) (eC E 11) (eC E 11) (zi σ a) (zi σ b) h4
  rw [e1] at X' step
  have hbl : eB E + b < H.size := (Array.getElem?_eq_some_iff.mp hc1).1
  generalize hnc : vp_cell (eC E 11) (zl σ b, .inl (va_cpy (zi σ a) (zi σ b) sp.toNatClampNeg dp.toNatClampNeg n.toNatClampNeg)) = ncell at X' step
  have hheap : ((T.setVm vm').setCell (eB E + b) ncell).heap = H.setIfInBounds (eB E + b) ncell := by rw [← hT]; rfl
  have oq : ∀ q : Nat, q ≠ eB E + b → (H.setIfInBounds (eB E + b) ncell)[q]? = H[q]? := fun q hq => by simp [Array.getElem?_setIfInBounds, Ne.symm hq]
  obtain ⟨t, a1, b1⟩ := kk ls (H.setIfInBounds (eB E + b) ncell) _ hl (hw.set (e := .inl (eC E 11, zl σ b, .inl (va_cpy (zi σ a) (zi σ b) sp.toNatClampNeg dp.toNatClampNeg n.toNatClampNeg))) rfl rfl hlb ((zE_i (σ := (zn σ, zk σ, zl σ, va_up (zi σ) b (va_cpy (zi σ a) (zi σ b) sp.toNatClampNeg dp.toNatClampNeg n.toNatClampNeg), zj σ, zr σ)) (a := b) hb (by decide)).trans (by show (Sum.inl (eC E 11, zl σ b, Sum.inl (va_up (zi σ) b _ b)) : va_E) = _; simp [va_up])) (fun j h => zE_congr rfl rfl (va_up_ne _ _ h) rfl rfl) (by show (H.setIfInBounds (eB E + b) ncell)[eB E + b]? = some (vp_cell _ _); rw [hnc]; simp [Array.getElem?_setIfInBounds, hbl]) (by simp) oq) ⟨by simp; exact hS.1, fun q g1 g2 => by
      rw [oq q (fun e => g2 (by rw [e]; exact Nat.le_add_right _ _))]
      exact hS.2.1 q g1 g2, fun q hq => by
      rcases List.mem_append.mp hq with h | h
      · exact hS.2.2 q h
      · obtain ⟨z, -, hz⟩ := List.mem_map.mp h
        rw [← hz]
        exact Nat.le_add_right _ _⟩ _ hheap X'
  exact ⟨t, step t a1, b1⟩
end GB
