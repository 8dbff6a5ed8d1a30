/-! ===== Arrays.copyOf of ints: a clone where the length is the same ===== -/
def wdO (i : Int32) : Option Int32 := if inb i 168 = true ∧ i < 168 then some (wdC i) else none
section GK
variable {E : E0} {X : X0} {cc : ByteArray} {own : String} {nL : Nat} {ret : Option FieldType} {rm : Room} {ca sa pc : Nat} {lm lm' : LM} {st : List TV} {σ σ' : Hp}
theorem cw_1 : Cond.methodLink RJ7 316 ⟨"[I", "clone", "()Ljava/lang/Object;"⟩ ∈ TB := tb_4 10 (by decide +kernel) rfl
theorem cw_2 : Cond.sameMethod "[I" "java/lang/Object" "clone" "()Ljava/lang/Object;" ∈ TB := tb_4 11 (by decide +kernel) rfl
theorem cw_3 : Cond.native ⟨"java/lang/Object", "clone", "()Ljava/lang/Object;"⟩ ∈ TB := tb_4 12 (by decide +kernel) rfl
theorem cw_4 : Cond.instanceMethod ⟨"java/lang/Object", "clone", "()Ljava/lang/Object;"⟩ ∈ TB := tb_4 13 (by decide +kernel) rfl
theorem cw_5 : Cond.selects "[I" ⟨"[I", "clone", "()Ljava/lang/Object;"⟩ ⟨"java/lang/Object", "clone", "()Ljava/lang/Object;"⟩ ∈ TB := tb_4 14 (by decide +kernel) rfl
theorem cw_7 : Cond.classLink RJ7 317 "[I" ∈ TB := tb_4 16 (by decide +kernel) rfl
/-- cell a once more, behind the others -/
def clC (σ : Hp) (a : Nat) : Hp := (zn σ + 1, va_up (zk σ) (zn σ) 11, va_up (zl σ) (zn σ) (zl σ a), va_up (zi σ) (zn σ) (zi σ a), va_up (zj σ) (zn σ) (fun _ => 0), va_up (zr σ) (zn σ) (fun _ => none))
theorem clC_E {B : Nat} {cy : Nat → ClassId} {a b : Nat} (h : b < zn σ) : zE B cy (clC σ a) b = zE B cy σ b := by
  have hb : b ≠ zn σ := Nat.ne_of_lt h
  exact zE_congr (va_up_ne _ _ hb) (va_up_ne _ _ hb) (va_up_ne _ _ hb) (va_up_ne _ _ hb) (va_up_ne _ _ hb)
theorem g_clone (C : XOK E X cc RJ7 nL ret rm) {a : Nat} (ha : zk σ a = 11) (hR : 1 ≤ rm.frames ∧ (st.map tw).sum + 14 ≤ rm.locals) (hc : ca + 1 ≤ rm.cells ∧ sa + zl σ a ≤ rm.slots) (hd : decode cc pc = .ok (.invokevirtual 316, 3)) (kk : G E X (ca + 1) (sa + zl σ a) (pc + 3) lm (tR (some (zn σ)) :: st) (clC σ a)) : G E X ca sa pc lm (tR (some a) :: st) σ := by
  intro ls H locs hl hw hS
  have hts := C.2.2.2.2.1
  have hRm := C.2.2.2.2.2.2.2.2.2.2
  have hla := hw.lt ha (by decide)
  have hc0 : H[eB E + a]? = some (vp_cell (eC E 11) (zl σ a, .inl (zi σ a))) := hw.2.2 a _ (zg_i hla ha (by decide))
  have hnm : (xs X).vm.findClass "[I" = some (eC E 11) := (C.kk.2 1 _ rfl).2
  have hsz : (vp_cell (eC E 11) (zl σ a, .inl (zi σ a))).slots.size = zl σ a := arrV_size _ _ _
  obtain ⟨c0, t0', f1, f2, f3⟩ := Cond.castable_spec (va_Nw.use (A := xa X) rfl (C.nest (w := .castable "[I" "java/lang/Cloneable") (List.mem_of_getElem? (i := 18) rfl)))
  cases hnm.symm.trans f1
  intro T hT Xs
  have hcellT : T.heap[eB E + a]? = some (vp_cell (eC E 11) (zl σ a, .inl (zi σ a))) := by rw [hT]; exact hc0
  obtain ⟨-, kA, hkA, comp, hkind⟩ := State.isArrayOf_alike Xs.warmed.alike ((C.kk.2 1 _ rfl).1 0 (fun _ => .null))
  obtain ⟨-, kS, hkS, compS, hkindS⟩ := (C.kk.2 1 _ rfl).1 0 (fun _ => .null)
  obtain ⟨vm', X', stp⟩ := Xs.cloneArray C.1 C.2.2.2.1 (hts _ cw_1) (hts _ cw_2) (hts _ cw_3) (hts _ cw_4) (hts _ cw_5) (a := eB E + a) (cell := vp_cell (eC E 11) (zl σ a, .inl (zi σ a))) hcellT (fun k h => by cases h) (fun h => by cases h) hnm f2 f3
    (fun i v hv => by
      have hk' : T.vm.classes[eC E 11]? = some kA := hkA
      have hi : i < zl σ a := by
        have := (Array.getElem?_eq_some_iff.mp hv).1
        rw [hsz] at this
        exact this
      have hv2 : (vp_cell (eC E 11) (zl σ a, .inl (zi σ a))).slots[i]? = some (.int (zi σ a i)) := by
        show (arrV (eC E 11) (zl σ a) (fun j => .int (zi σ a j))).slots[i]? = _
        rw [arrV_read _ _ hi]
      rw [hv2] at hv
      cases hv
      have hk2 : kA.kind = .array comp .int := hkind
      show State.fitsSlot T (eC E 11) .none i (.int (zi σ a i)) = true
      simp [State.fitsSlot, State.slotType?, hk', hk2]
      rfl)
    (g := F0 (xm X) pc ls ((tR (some a) :: st).map (tv (eB E)))) rfl hl.1 rfl (by rw [C.2.1]; exact hd) (by rw [hRm]; exact hR.1) (by rw [hRm]; show 2 * 0 + _ + 14 ≤ _; have e8 := hR.2; have e7 := tw_sum (eB E) st; omega) (by rw [hRm]; exact hc.1) (by rw [hRm, hsz]; exact hc.2) (hloader := Vm.clonesLoader_of_array hkS hkindS)
  rw [hsz] at X'
  generalize hH1 : H.push (vp_cell (eC E 11) (zl σ a, .inl (zi σ a))) = H1
  have z1 : H1.size = H.size + 1 := by rw [← hH1, Array.size_push]
  have e1 : H1[H.size]? = some (vp_cell (eC E 11) (zl σ a, .inl (zi σ a))) := by rw [← hH1, Array.getElem?_push_size]
  have o1 : ∀ q : Nat, q < H.size → H1[q]? = H[q]? := fun q hq => by rw [← hH1, Array.getElem?_push, if_neg (Nat.ne_of_lt hq)]
  have hwh : WH E (clC σ a) H1 := by
    refine ⟨by rw [z1, hw.1]; show _ = eB E + (zn σ + 1); omega, fun x hx => ?_, ?_⟩
    · have hx' : zn σ + 1 ≤ x := hx
      have h1 : zk (clC σ a) x = zk σ x := va_up_ne _ _ (by omega)
      rw [h1]
      exact hw.2.1 x (by omega)
    · rw [← zW_push (σ := σ) (σ' := clC σ a) (e := .inl (eC E 11, zl σ a, .inl (zi σ a))) rfl ((zE_i (σ := clC σ a) (a := zn σ) (c := 11) (by simp [clC, zk, va_up]) (by decide)).trans (by simp [clC, zl, zi, va_up])) (fun j hj => clC_E hj)]
      refine (hw.2.2.kept (fun k q hk => o1 q.1 ((hw.2.2 k q hk).lt))).app (fun k q hk => ?_)
      have hz : k < 1 := (List.getElem?_eq_some_iff.mp hk).1
      rw [show k = 0 by omega] at hk
      cases hk
      show H1[eB E + zn σ]? = some (vp_cell _ _)
      rw [← hw.1]
      exact e1
  obtain ⟨t, b1, b2⟩ := kk ls H1 locs hl hwh (va_S_push hS (by omega) o1) ((T.setVm vm').pushCell (vp_cell (eC E 11) (zl σ a, .inl (zi σ a)))) (by rw [← hH1, ← hT]; rfl) X'
  refine ⟨t, stp t ?_, b2⟩
  have e9 : T.heap.size = eB E + zn σ := by rw [hT]; exact hw.1
  rw [e9]
  exact b1
theorem g_cast (C : XOK E X cc RJ7 nL ret rm) {a : Nat} (ha : zk σ a = 11) (hd : decode cc pc = .ok (.checkcast 317, 3)) (kk : G E X ca sa (pc + 3) lm (tR (some a) :: st) σ) : G E X ca sa pc lm (tR (some a) :: st) σ := by
  intro ls H locs hl hw hS
  exact va_castA C.1 C.2.1 C.2.2.2.1 (C.2.2.2.2.1 _ cw_7) hw.2.2 a (zg_i (hw.lt ha (by decide)) ha (by decide)) (C.kk.2 1 _ rfl).2 hd (kk ls H locs hl hw hS)
/-- newarray int of a length that isn't written out -/
theorem g_newd (C : XOK E X cc own nL ret rm) {n : Int32} (hn : ¬ n < 0) (hb : n.toNatClampNeg ≤ 65536) (hcells : ca + 1 ≤ rm.cells) (hslots : sa + n.toNatClampNeg ≤ rm.slots) (hd : decode cc pc = .ok (.newarray .int, 2)) (kk : G E X (ca + 1) (sa + n.toNatClampNeg) (pc + 2) lm (tR (some (zn σ)) :: st) (mkC σ 11 n.toNatClampNeg)) : G E X ca sa pc lm (tI n :: st) σ := g_newaI C hn rfl hb ac_int hcells hslots hd kk
def rm_J7_copyOf_59c91 : Room := { frames := 2, cells := 1, slots := 600, locals := 80 }
noncomputable def s_J7_copyOf_59c91 (p0 : Option Nat) (p1 : Int32) (σ : Hp) : Option (Option Nat × Hp) :=
  p0.bind fun a =>
  if zk σ a = 11 ∧ ¬ p1 < 0 ∧ p1.toNatClampNeg ≤ 600 ∧ zl σ a ≤ 600 then
    if p1 = Int32.ofNat (zl σ a) then some (some (zn σ), clC σ a)
    else (acopy (mkC σ 11 p1.toNatClampNeg) a 0 (zn σ) 0 (if p1 < Int32.ofNat (zl σ a) then p1 else Int32.ofNat (zl σ a))).bind fun σ1 => some (some (zn σ), σ1)
  else none
set_option maxRecDepth 100000 in
theorem c_J7_copyOf_59c91 {E : E0} (hE : EOK E) {p0 : Option Nat} {p1 : Int32} {σ σ1 : Hp} {r : Option Nat} (h : s_J7_copyOf_59c91 p0 p1 σ = some (r, σ1)) : CT E yJ7_copyOf_59c91 (.code yJ7_copyOf_59c91 cJ7_copyOf_59c91 3 (some (.array .int))) rm_J7_copyOf_59c91 [tR p0, tI p1] σ (some (tR r)) σ1 := by
  refine CT.mk hE (by decide +kernel) (Nat.le_of_ble_eq_true rfl) [(0, tR p0), (1, tI p1)] rfl (fun X C hin hx hxn => ?_)
  have C : XOK E X cJ7_copyOf_59c91 RJ7 3 (some (.array .int)) rm_J7_copyOf_59c91 := C
  unfold s_J7_copyOf_59c91 at h
  obtain ⟨a, ha, h9⟩ := zbind h
  clear h
  subst ha
  by_cases hc : zk σ a = 11 ∧ ¬ p1 < 0 ∧ p1.toNatClampNeg ≤ 600 ∧ zl σ a ≤ 600
  · have h := zif_t hc h9
    obtain ⟨hk, hn, hm, hl6⟩ := hc
    refine g_iload_n (pc := 0) C 1 1 dJ7_copyOf_59c91_0 rfl rfl ?_
    refine g_aload_n (pc := 1) C 0 0 dJ7_copyOf_59c91_1 rfl rfl ?_
    refine g_alen (pc := 2) (c := 11) (v := Int32.ofNat (zl σ a)) C (by decide) (if_pos hk) dJ7_copyOf_59c91_2 ?_
    refine g_icmp_ne (pc := 3) C 14 dJ7_copyOf_59c91_3 (by decide) (fun c1 => ?_) (fun c1 => ?_)
    · have h := zif_f c1 h
      obtain ⟨σ2, hv2, h⟩ := zbind h
      obtain ⟨rfl, rfl⟩ := zsome h
      refine g_iload_n (pc := 14) C 1 1 dJ7_copyOf_59c91_14 rfl rfl ?_
      refine g_newd (pc := 15) C hn (by omega) (Nat.le_of_ble_eq_true rfl) (by show 0 + _ ≤ 600; omega) dJ7_copyOf_59c91_15 ?_
      refine g_astore_n (lm' := [(2, tR (some (zn σ))), (0, tR (some a)), (1, tI p1)]) (pc := 17) C 2 dJ7_copyOf_59c91_17 rfl (by decide) rfl ?_
      refine g_aload_n (pc := 18) C 0 1 dJ7_copyOf_59c91_18 rfl rfl ?_
      refine g_iconst (v := 0) (pc := 19) C dJ7_copyOf_59c91_19 (by decide) ?_
      refine g_aload_n (pc := 20) C 2 0 dJ7_copyOf_59c91_20 rfl rfl ?_
      refine g_iconst (v := 0) (pc := 21) C dJ7_copyOf_59c91_21 (by decide) ?_
      refine g_aload_n (pc := 22) C 0 1 dJ7_copyOf_59c91_22 rfl rfl ?_
      have hb : a ≠ zn σ := fun e => by
        obtain ⟨⟨_, _, q, _⟩, _⟩ := zopt hv2
        exact q e
      refine g_alen (pc := 23) (c := 11) (v := Int32.ofNat (zl σ a)) C (by decide) ((if_pos (show zk (mkC σ 11 p1.toNatClampNeg) a = 11 from (va_up_ne _ _ hb).trans hk)).trans (by rw [show zl (mkC σ 11 p1.toNatClampNeg) a = zl σ a from va_up_ne _ _ hb])) dJ7_copyOf_59c91_23 ?_
      refine g_iload_n (pc := 24) C 1 2 dJ7_copyOf_59c91_24 rfl rfl ?_
      refine g_mmin (pc := 25) C ml_J7_304 ⟨Nat.le_of_ble_eq_true rfl, Nat.le_of_ble_eq_true rfl⟩ ⟨Nat.le_of_ble_eq_true rfl, by show 0 + _ ≤ 600; omega⟩ dJ7_copyOf_59c91_25 ?_
      refine g_acopy (pc := 28) C hv2 ml_J7_150 ⟨Nat.le_of_ble_eq_true rfl, Nat.le_of_ble_eq_true rfl⟩ dJ7_copyOf_59c91_28 ?_
      refine g_aload_n (pc := 31) C 2 0 dJ7_copyOf_59c91_31 rfl rfl ?_
      refine g_widen (k := 1) (n := 600) (Nat.le_of_ble_eq_true rfl) (by show 0 + _ ≤ 600; omega) ?_
      exact g_aret (pc := 32) C rfl (Or.inr ⟨_, rfl⟩) hx (by rw [hxn]; rfl) (by rw [hxn]; rfl) dJ7_copyOf_59c91_32
    · have h := zif_t c1 h
      obtain ⟨rfl, rfl⟩ := zsome h
      refine g_aload_n (pc := 6) C 0 0 dJ7_copyOf_59c91_6 rfl rfl ?_
      refine g_clone (pc := 7) C hk ⟨Nat.le_of_ble_eq_true rfl, Nat.le_of_ble_eq_true rfl⟩ ⟨Nat.le_of_ble_eq_true rfl, by show 0 + _ ≤ 600; omega⟩ dJ7_copyOf_59c91_7 ?_
      refine g_cast (pc := 10) C (by simp [clC, zk, va_up]) dJ7_copyOf_59c91_10 ?_
      refine g_widen (k := 1) (n := 600) (Nat.le_of_ble_eq_true rfl) (by show 0 + _ ≤ 600; omega) ?_
      exact g_aret (pc := 13) C rfl (Or.inr ⟨_, rfl⟩) hx (by rw [hxn]; rfl) (by rw [hxn]; rfl) dJ7_copyOf_59c91_13
  · have h := zif_f hc h9
    cases h
end GK
