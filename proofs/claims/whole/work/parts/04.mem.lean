/-! ===== rows over the pool heap: fields, arrays, new cells, returns, calls ===== -/
section GM
variable {E : E0} {X : X0} {cc : ByteArray} {own : String} {nL : Nat} {ret : Option FieldType} {rm : Room} {ca sa pc : Nat} {lm lm' : LM} {st : List TV} {σ σ' : Hp}
theorem WH.lt {H : Heap} (h : WH E σ H) {a c : Nat} (hk : zk σ a = c) (hc : c < 17) : a < zn σ := by
  rcases Nat.lt_or_ge a (zn σ) with q | q
  · exact q
  · have := h.2.1 a q
    omega
theorem rdI_k {c a k : Nat} {v : Int32} (h : rdI c σ a k = some v) : zk σ a = c ∧ v = zi σ a k := zopt h
theorem rdJ_k {c a k : Nat} {v : Int64} (h : rdJ c σ a k = some v) : zk σ a = c ∧ v = zj σ a k := zopt h
theorem rdR_k {c a k : Nat} {v : Option Nat} (h : rdR c σ a k = some v) : zk σ a = c ∧ v = zr σ a k := zopt h
theorem g_get0 (C : XOK E X cc own nL ret rm) {c N a k t index : Nat} {Cn : String} {T : u_T} {ref : String} (K : CK c Cn T N) (hka : zk σ a = c) (ht : (zft c)[k]? = some t) (hR : ref = (T k).1) (hw1 : Cond.fieldLink own index ref (T k).2.1 (T k).2.2.1 ∈ TB) (hd : decode cc pc = .ok (.getfield index, 3)) {v : TV} (hv : tv (eB E) v = zfv (eB E) σ a k t) (kk : G E X ca sa (pc + 3) lm (v :: st) σ) : G E X ca sa pc lm (tR (some a) :: st) σ := by
  intro ls H locs hl hw hS
  subst hR
  have hlt := hw.lt hka (Nat.lt_trans K.2.2.1 (by decide))
  have hkN : k < N := by
    rw [← K.2.2.2.1]
    exact (List.getElem?_eq_some_iff.mp ht).1
  have kk' := kk ls H locs hl hw hS
  rw [List.map_cons, hv] at kk'
  exact va_get C.1 C.2.1 C.2.2.2.2.1 K.2.1 C.2.2.2.1 C.kk hw.2.2 a ((zW_get hlt).trans (congrArg (fun e => some (eB E + a, e)) (zE_obj hka K.2.2.1))) K.1 k hkN (C.2.2.2.2.1 _ hw1) (fun _ h => h) (by rw [zfs_get _ 0 k t ht, Nat.zero_add]) hd kk'
theorem g_getI (C : XOK E X cc own nL ret rm) {c N a k index : Nat} {Cn : String} {T : u_T} {ref : String} {v : Int32} (K : CK c Cn T N) (hv : rdI c σ a k = some v) (ht : (zft c)[k]? = some 0) (hR : ref = (T k).1) (hw1 : Cond.fieldLink own index ref (T k).2.1 (T k).2.2.1 ∈ TB) (hd : decode cc pc = .ok (.getfield index, 3)) (kk : G E X ca sa (pc + 3) lm (tI v :: st) σ) : G E X ca sa pc lm (tR (some a) :: st) σ := by
  obtain ⟨h1, rfl⟩ := rdI_k hv
  exact g_get0 C K h1 ht hR hw1 hd rfl kk
theorem g_getJ (C : XOK E X cc own nL ret rm) {c N a k index : Nat} {Cn : String} {T : u_T} {ref : String} {v : Int64} (K : CK c Cn T N) (hv : rdJ c σ a k = some v) (ht : (zft c)[k]? = some 1) (hR : ref = (T k).1) (hw1 : Cond.fieldLink own index ref (T k).2.1 (T k).2.2.1 ∈ TB) (hd : decode cc pc = .ok (.getfield index, 3)) (kk : G E X ca sa (pc + 3) lm (tJ v :: st) σ) : G E X ca sa pc lm (tR (some a) :: st) σ := by
  obtain ⟨h1, rfl⟩ := rdJ_k hv
  exact g_get0 C K h1 ht hR hw1 hd rfl kk
theorem g_getR (C : XOK E X cc own nL ret rm) {c N a k index : Nat} {Cn : String} {T : u_T} {ref : String} {v : Option Nat} (K : CK c Cn T N) (hv : rdR c σ a k = some v) (ht : (zft c)[k]? = some 2) (hR : ref = (T k).1) (hw1 : Cond.fieldLink own index ref (T k).2.1 (T k).2.2.1 ∈ TB) (hd : decode cc pc = .ok (.getfield index, 3)) (kk : G E X ca sa (pc + 3) lm (tR v :: st) σ) : G E X ca sa pc lm (tR (some a) :: st) σ := by
  obtain ⟨h1, rfl⟩ := rdR_k hv
  exact g_get0 C K h1 ht hR hw1 hd rfl kk
/-- the heap behind a store into cell a -/
theorem WH.set {H H1 : Heap} (hw : WH E σ H) {a : Nat} {e : va_E} (hn : zn σ' = zn σ) (hk : zk σ' = zk σ) (ha : a < zn σ) (he : zE (eB E) (eC E) σ' a = e) (ho : ∀ j, j ≠ a → zE (eB E) (eC E) σ' j = zE (eB E) (eC E) σ j) (hat : va_at (eD E) vwCl (eB E + a, e) H1) (z : H1.size = H.size) (oq : ∀ q : Nat, q ≠ eB E + a → H1[q]? = H[q]?) : WH E σ' H1 := by
  refine ⟨by rw [z, hn]; exact hw.1, fun x hx => by rw [hk]; exact hw.2.1 x (by rw [← hn]; exact hx), ?_⟩
  rw [← zW_set hn he ho]
  exact hw.2.2.set zW_D (zW_get ha) hat oq
theorem g_put0 (C : XOK E X cc own nL ret rm) {c N a k t index : Nat} {Cn : String} {T : u_T} {ref : String} (K : CK c Cn T N) (hka : zk σ a = c) (ht : (zft c)[k]? = some t) (hR : ref = (T k).1) (hw1 : Cond.fieldLink own index ref (T k).2.1 (T k).2.2.1 ∈ TB)
    (ty0 : Nat → FieldType) (hty : ∀ k, k < N → parseFieldDescriptor (T k).2.2.1 = some (ty0 k)) (hfin : (T k).2.2.2 = false ∨ ((T k).2.2.2 = true ∧ (xh X).name = "<init>" ∧ (T k).1 = own)) {v : TV} (hn : narrow (ty0 k) (tv (eB E) v) = tv (eB E) v) (hfit : fits (ty0 k) (tv (eB E) v) = true) (hd : decode cc pc = .ok (.putfield index, 3))
    (hn' : zn σ' = zn σ) (hk' : zk σ' = zk σ) (hv : zfv (eB E) σ' a k t = tv (eB E) v) (hoth : ∀ j u, j ≠ k → zfv (eB E) σ' a j u = zfv (eB E) σ a j u) (ho : ∀ j, j ≠ a → zE (eB E) (eC E) σ' j = zE (eB E) (eC E) σ j)
    (kk : G E X ca sa (pc + 3) lm st σ') : G E X ca sa pc lm (v :: tR (some a) :: st) σ := by
  intro ls H locs hl hw hS
  subst hR
  have hlt := hw.lt hka (Nat.lt_trans K.2.2.1 (by decide))
  have hkN : k < N := by
    rw [← K.2.2.2.1]
    exact (List.getElem?_eq_some_iff.mp ht).1
  have he := (zW_get (B := eB E) (cy := eC E) hlt).trans (congrArg (fun e => some (eB E + a, e)) (zE_obj hka K.2.2.1))
  have hts := C.2.2.2.2.1
  have hKK := C.kk
  have hap := va_apart (own := own) hts K.2.1 ty0 hty K.2.2.2.2 hKK K.1
  obtain ⟨r, h1, cell, q1, q2, q3, q4⟩ := hw.2.2 a _ he
  have hr : r = (Cn, T, N) := Option.some.inj (h1.symm.trans K.1)
  subst hr
  obtain ⟨hSl, hfc, kC, hkC, hkind⟩ := hKK.1 c _ K.1
  obtain ⟨cf, kf, fi, f, hi, hsl⟩ := hSl k hkN
  have hlay := hts _ (K.2.1 _ (u_in_lay hkN))
  have hst := (u_facts hfc hkC (u_lays hts K.2.1 hkN) hi).1
  have hset : (zfs (eB E) σ a (zft c) 0).set k (tv (eB E) v) = zfs (eB E) σ' a (zft c) 0 := zfs_set (zft c) 0 k t ht (by rw [Nat.zero_add]; exact hv) (fun j u hj _ => by rw [Nat.zero_add]; exact hoth j u hj)
  have hzE : zE (eB E) (eC E) σ' a = .inr (c, (zfs (eB E) σ a (zft c) 0).set k (tv (eB E) v)) := by
    rw [hset]
    exact zE_obj (by rw [hk']; exact hka) K.2.2.1
  have fin : ∀ H' : Heap, H'[eB E + a]? = some (cell.setSlot f.slot (tv (eB E) v)) → H'.size = H.size → (∀ q, q ≠ eB E + a → H'[q]? = H[q]?) → W (xp X) (eL E) (xe X) (xR X) (xs X) (xm X) (xa X) (xb X) (xh X) (xc X) H' (locs ++ [⟨eB E + a, f.slot⟩]) ca sa (MQ (xb X) (QC E (xd X)) (xa X) (xs X) (xn X).1 (xn X).2 (fun q => eB E ≤ q)) (F0 (xm X) (pc + 3) ls (st.map (tv (eB E)))) := by
    intro H' e1 e2 e3
    rw [hsl] at e1
    refine kk ls H' _ hl (hw.set hn' hk' hlt hzE ho ⟨_, K.1, t_OB.to (V := updV (vp_V (zfs (eB E) σ a (zft c) 0)) k (tv (eB E) v)) ⟨_, e1, q2, q3, t_set q4 hap hkN (tv (eB E) v)⟩ (fun j _ => vp_updV_set (by rw [zfs_len, K.2.2.2.1]; exact hkN) (tv (eB E) v) j)⟩ e2 e3) (hS.put e2 e3 (Nat.le_add_right _ _))
  rcases hfin with hfin | ⟨hfin, hin2, hdecl⟩
  · unfold u_lay at hlay
    rw [if_neg (by rw [hfin]; decide)] at hlay
    have h6 := u_store hfc hkC hkind hlay hi (hty k hkN) hn hfit
    exact W.putK C.1 C.2.1 (f := f) ⟨C.2.2.2.1, hts _ hw1, ⟨_, _, _, hi⟩, hst⟩ (by rw [q2]; exact h6) q1 q3 (by rw [hsl]; exact k2_hasslot (q4 k hkN)) rfl rfl hd fin
  · unfold u_lay at hlay
    rw [if_pos hfin] at hlay
    have hcf : (xm X).cls = cf := by
      obtain ⟨_, _, c', _, _, _, -, -, hf', -, -, -, hown2, -⟩ := Cond.laysFinal_spec hlay
      have e1 : c' = cf := by have := hi.symm.trans hf'; simp at this; exact this.1.symm
      rw [hdecl] at hown2
      rw [← e1]; exact Option.some.inj (C.2.2.2.1.symm.trans hown2)
    have h6 := u_fits hfc hkC hkind (Or.inr hlay) hi (hty k hkN) hn hfit
    exact W.putFinK C.1 C.2.1 C.2.2.2.1 (hts _ hw1) hi hst hcf hin2 (by rw [q2]; exact h6) q1 q3 (by rw [hsl]; exact k2_hasslot (q4 k hkN)) rfl rfl hd fin
/-- where a field's link, its class and its kind are told: for put -/
def FP (c k t : Nat) (Cn : String) (T : u_T) (N : Nat) (ty0 : Nat → FieldType) : Prop := CK c Cn T N ∧ (zft c)[k]? = some t ∧ ∀ k, k < N → parseFieldDescriptor (T k).2.2.1 = some (ty0 k)
theorem zfvI {B a k : Nat} {v : Int32} : zfv B (zsi σ a k v) a k 0 = .int v := by
  unfold zfv
  rw [if_pos rfl]
  show Value.int (up2 (zi σ) a k v a k) = _
  rw [up2_eq, if_pos rfl]
theorem zfvI_o {B a k j u : Nat} {v : Int32} (h : j ≠ k) : zfv B (zsi σ a k v) a j u = zfv B σ a j u := by
  unfold zfv
  show (if u = 0 then Value.int (up2 (zi σ) a k v a j) else _) = _
  rw [up2_eq, if_neg h]
  rfl
theorem zfvJ {B a k : Nat} {v : Int64} : zfv B (zsj σ a k v) a k 1 = .long v := by
  unfold zfv
  rw [if_neg (by decide), if_pos rfl]
  show Value.long (up2 (zj σ) a k v a k) = _
  rw [up2_eq, if_pos rfl]
theorem zfvJ_o {B a k j u : Nat} {v : Int64} (h : j ≠ k) : zfv B (zsj σ a k v) a j u = zfv B σ a j u := by
  unfold zfv
  show (if u = 0 then _ else if u = 1 then Value.long (up2 (zj σ) a k v a j) else _) = _
  rw [up2_eq, if_neg h]
  rfl
theorem zfvR {B a k : Nat} {v : Option Nat} : zfv B (zsr σ a k v) a k 2 = va_rf (v.map (B + ·)) := by
  unfold zfv
  rw [if_neg (by decide), if_neg (by decide)]
  show va_rf ((up2 (zr σ) a k v a k).map _) = _
  rw [up2_eq, if_pos rfl]
theorem zfvR_o {B a k j u : Nat} {v : Option Nat} (h : j ≠ k) : zfv B (zsr σ a k v) a j u = zfv B σ a j u := by
  unfold zfv
  show (if u = 0 then _ else if u = 1 then _ else va_rf ((up2 (zr σ) a k v a j).map _)) = _
  rw [up2_eq, if_neg h]
  rfl
theorem g_putI (C : XOK E X cc own nL ret rm) {c N a k index : Nat} {Cn : String} {T : u_T} {ref : String} {ty0 : Nat → FieldType} {v : Int32} (K : FP c k 0 Cn T N ty0) (hv : wrI c σ a k v = some σ') (hR : ref = (T k).1) (hw1 : Cond.fieldLink own index ref (T k).2.1 (T k).2.2.1 ∈ TB) (hty : ty0 k = .int) (hfin : (T k).2.2.2 = false) (hd : decode cc pc = .ok (.putfield index, 3)) (kk : G E X ca sa (pc + 3) lm st σ') : G E X ca sa pc lm (tI v :: tR (some a) :: st) σ := by
  obtain ⟨h1, rfl⟩ := zopt hv
  exact g_put0 (σ' := zsi σ a k v) C K.1 h1 K.2.1 hR hw1 ty0 K.2.2 (Or.inl hfin) (v := tI v) (by rw [hty]; rfl) (by rw [hty]; rfl) hd rfl rfl zfvI (fun j u h => zfvI_o h) (fun j h => zsi_E h) kk
theorem g_putZ (C : XOK E X cc own nL ret rm) {c N a k index : Nat} {Cn : String} {T : u_T} {ref : String} {ty0 : Nat → FieldType} {v : Int32} (K : FP c k 0 Cn T N ty0) (hv : wrZ c σ a k v = some σ') (hR : ref = (T k).1) (hw1 : Cond.fieldLink own index ref (T k).2.1 (T k).2.2.1 ∈ TB) (hty : ty0 k = .boolean) (hfin : (T k).2.2.2 = false) (hd : decode cc pc = .ok (.putfield index, 3)) (kk : G E X ca sa (pc + 3) lm st σ') : G E X ca sa pc lm (tI v :: tR (some a) :: st) σ := by
  obtain ⟨⟨h1, h2⟩, rfl⟩ := zopt hv
  exact g_put0 (σ' := zsi σ a k v) C K.1 h1 K.2.1 hR hw1 ty0 K.2.2 (Or.inl hfin) (v := tI v) (by rw [hty]; rcases h2 with rfl | rfl <;> rfl) (by rw [hty]; rcases h2 with rfl | rfl <;> rfl) hd rfl rfl zfvI (fun j u h => zfvI_o h) (fun j h => zsi_E h) kk
theorem g_putJ (C : XOK E X cc own nL ret rm) {c N a k index : Nat} {Cn : String} {T : u_T} {ref : String} {ty0 : Nat → FieldType} {v : Int64} (K : FP c k 1 Cn T N ty0) (hv : wrJ c σ a k v = some σ') (hR : ref = (T k).1) (hw1 : Cond.fieldLink own index ref (T k).2.1 (T k).2.2.1 ∈ TB) (hty : ty0 k = .long) (hfin : (T k).2.2.2 = false) (hd : decode cc pc = .ok (.putfield index, 3)) (kk : G E X ca sa (pc + 3) lm st σ') : G E X ca sa pc lm (tJ v :: tR (some a) :: st) σ := by
  obtain ⟨h1, rfl⟩ := zopt hv
  exact g_put0 (σ' := zsj σ a k v) C K.1 h1 K.2.1 hR hw1 ty0 K.2.2 (Or.inl hfin) (v := tJ v) (by rw [hty]; rfl) (by rw [hty]; rfl) hd rfl rfl zfvJ (fun j u h => zfvJ_o h) (fun j h => zsj_E h) kk
/-- a final field of references (or of ints) is set in a constructor -/
theorem g_putRF (C : XOK E X cc own nL ret rm) {c N a k index : Nat} {Cn : String} {T : u_T} {ref : String} {ty0 : Nat → FieldType} {v : Option Nat} (K : FP c k 2 Cn T N ty0) (hv : wrR c σ a k v = some σ') (hR : ref = (T k).1) (hw1 : Cond.fieldLink own index ref (T k).2.1 (T k).2.2.1 ∈ TB) (hty : (ty0 k).isReference = true) (hin : (xh X).name = "<init>") (hfin : (T k).2.2.2 = true ∧ (T k).1 = own) (hd : decode cc pc = .ok (.putfield index, 3)) (kk : G E X ca sa (pc + 3) lm st σ') : G E X ca sa pc lm (tR v :: tR (some a) :: st) σ := by
  obtain ⟨h1, rfl⟩ := zopt hv
  exact g_put0 (σ' := zsr σ a k v) C K.1 h1 K.2.1 hR hw1 ty0 K.2.2 (Or.inr ⟨hfin.1, hin, hfin.2⟩) (v := tR v) (by cases v <;> cases h : ty0 k <;> simp [h, FieldType.isReference] at hty <;> rfl) (by cases v <;> cases h : ty0 k <;> simp [h, FieldType.isReference] at hty <;> rfl) hd rfl rfl zfvR (fun j u h => zfvR_o h) (fun j h => zsr_E h) kk
theorem g_putIF (C : XOK E X cc own nL ret rm) {c N a k index : Nat} {Cn : String} {T : u_T} {ref : String} {ty0 : Nat → FieldType} {v : Int32} (K : FP c k 0 Cn T N ty0) (hv : wrI c σ a k v = some σ') (hR : ref = (T k).1) (hw1 : Cond.fieldLink own index ref (T k).2.1 (T k).2.2.1 ∈ TB) (hty : ty0 k = .int) (hin : (xh X).name = "<init>") (hfin : (T k).2.2.2 = true ∧ (T k).1 = own) (hd : decode cc pc = .ok (.putfield index, 3)) (kk : G E X ca sa (pc + 3) lm st σ') : G E X ca sa pc lm (tI v :: tR (some a) :: st) σ := by
  obtain ⟨h1, rfl⟩ := zopt hv
  exact g_put0 (σ' := zsi σ a k v) C K.1 h1 K.2.1 hR hw1 ty0 K.2.2 (Or.inr ⟨hfin.1, hin, hfin.2⟩) (v := tI v) (by rw [hty]; rfl) (by rw [hty]; rfl) hd rfl rfl zfvI (fun j u h => zfvI_o h) (fun j h => zsi_E h) kk
end GM
