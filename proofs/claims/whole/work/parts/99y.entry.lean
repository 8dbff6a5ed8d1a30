/-! ===== the surroundings hold at the law's entry ===== -/
section ENT
theorem inl {w : Cond} (h : w ∈ TB) : w ∈ lw_tbl := (List.mem_filter.mp h).1
def warmOK (w : Cond) : Prop := ∀ s U : State, s.WarmedH U.vm → va_Nw w s → va_Nw w U
theorem nest_warm : ∀ w ∈ nestW, warmOK w := List.forall_mem_cons.mpr ⟨fun s U h z => va_Nw.warmM h z, List.forall_mem_cons.mpr ⟨fun s U h z => va_Nw.warmM h z, List.forall_mem_cons.mpr ⟨fun s U h z => va_AO.moved h.alike z, List.forall_mem_cons.mpr ⟨fun s U h z => va_Nw.warmM h z, List.forall_mem_cons.mpr ⟨fun s U h z => va_AO.moved h.alike z, List.forall_mem_cons.mpr ⟨fun s U h z => va_Nw.warmM h z, List.forall_mem_cons.mpr ⟨fun s U h z => va_Nw.warmM h z, List.forall_mem_cons.mpr ⟨fun s U h z => va_Nw.warmM h z, List.forall_mem_cons.mpr ⟨fun s U h z => va_Nw.warmM h z, List.forall_mem_cons.mpr ⟨fun s U h z => va_Nw.warmM h z, List.forall_mem_cons.mpr ⟨fun s U h z => over_moved h.alike z, List.forall_mem_cons.mpr ⟨fun s U h z => va_Nw.warmM h z, List.forall_mem_cons.mpr ⟨fun s U h z => va_Nw.warmM h z, List.forall_mem_cons.mpr ⟨fun s U h z => va_Nw.warmM h z, List.forall_mem_cons.mpr ⟨fun s U h z => va_Nw.warmM h z, List.forall_mem_cons.mpr ⟨fun s U h z => va_Nw.warmM h z, List.forall_mem_cons.mpr ⟨fun s U h z => va_Nw.warmM h z, List.forall_mem_cons.mpr ⟨fun s U h z => va_Nw.warmM h z, List.forall_mem_cons.mpr ⟨fun s U h z => va_Nw.warmC h z, fun _ h => absurd h List.not_mem_nil⟩⟩⟩⟩⟩⟩⟩⟩⟩⟩⟩⟩⟩⟩⟩⟩⟩⟩⟩
theorem al_of {u U : State} (hv : U.vm = u.vm) : u.vm.Alike U.vm := by
  rw [hv]
  exact Vm.Alike.refl _
def sameOK (w : Cond) : Prop := ∀ u U : State, U.vm = u.vm → va_Nw w u → va_Nw w U
theorem nest_same : ∀ w ∈ nestW, sameOK w := List.forall_mem_cons.mpr ⟨fun u U hv z => va_Nw.same rfl hv.symm z, List.forall_mem_cons.mpr ⟨fun u U hv z => va_Nw.same rfl hv.symm z, List.forall_mem_cons.mpr ⟨fun u U hv z => va_AO.moved (al_of hv) z, List.forall_mem_cons.mpr ⟨fun u U hv z => va_Nw.same rfl hv.symm z, List.forall_mem_cons.mpr ⟨fun u U hv z => va_AO.moved (al_of hv) z, List.forall_mem_cons.mpr ⟨fun u U hv z => va_Nw.same rfl hv.symm z, List.forall_mem_cons.mpr ⟨fun u U hv z => va_Nw.same rfl hv.symm z, List.forall_mem_cons.mpr ⟨fun u U hv z => va_Nw.same rfl hv.symm z, List.forall_mem_cons.mpr ⟨fun u U hv z => va_Nw.same rfl hv.symm z, List.forall_mem_cons.mpr ⟨fun u U hv z => va_Nw.same rfl hv.symm z, List.forall_mem_cons.mpr ⟨fun u U hv z => over_moved (al_of hv) z, List.forall_mem_cons.mpr ⟨fun u U hv z => va_Nw.same rfl hv.symm z, List.forall_mem_cons.mpr ⟨fun u U hv z => va_Nw.same rfl hv.symm z, List.forall_mem_cons.mpr ⟨fun u U hv z => va_Nw.same rfl hv.symm z, List.forall_mem_cons.mpr ⟨fun u U hv z => va_Nw.same rfl hv.symm z, List.forall_mem_cons.mpr ⟨fun u U hv z => va_Nw.same rfl hv.symm z, List.forall_mem_cons.mpr ⟨fun u U hv z => va_Nw.same rfl hv.symm z, List.forall_mem_cons.mpr ⟨fun u U hv z => va_Nw.same rfl hv.symm z, List.forall_mem_cons.mpr ⟨fun u U hv z => va_Nw.same rfl hv.symm z, fun _ h => absurd h List.not_mem_nil⟩⟩⟩⟩⟩⟩⟩⟩⟩⟩⟩⟩⟩⟩⟩⟩⟩⟩⟩
def ofOK (w : Cond) : Prop := ∀ (A : Array Value) (U : State), w.before A U = true → va_Nw w U
theorem nest_of : ∀ w ∈ nestW, ofOK w := List.forall_mem_cons.mpr ⟨fun A U z => va_Nw.of rfl z, List.forall_mem_cons.mpr ⟨fun A U z => va_Nw.of rfl z, List.forall_mem_cons.mpr ⟨fun A U z => z, List.forall_mem_cons.mpr ⟨fun A U z => va_Nw.of rfl z, List.forall_mem_cons.mpr ⟨fun A U z => z, List.forall_mem_cons.mpr ⟨fun A U z => va_Nw.of rfl z, List.forall_mem_cons.mpr ⟨fun A U z => va_Nw.of rfl z, List.forall_mem_cons.mpr ⟨fun A U z => va_Nw.of rfl z, List.forall_mem_cons.mpr ⟨fun A U z => va_Nw.of rfl z, List.forall_mem_cons.mpr ⟨fun A U z => va_Nw.of rfl z, List.forall_mem_cons.mpr ⟨fun A U z => z, List.forall_mem_cons.mpr ⟨fun A U z => va_Nw.of rfl z, List.forall_mem_cons.mpr ⟨fun A U z => va_Nw.of rfl z, List.forall_mem_cons.mpr ⟨fun A U z => va_Nw.of rfl z, List.forall_mem_cons.mpr ⟨fun A U z => va_Nw.of rfl z, List.forall_mem_cons.mpr ⟨fun A U z => va_Nw.of rfl z, List.forall_mem_cons.mpr ⟨fun A U z => va_Nw.of rfl z, List.forall_mem_cons.mpr ⟨fun A U z => va_Nw.of rfl z, List.forall_mem_cons.mpr ⟨fun A U z => va_Nw.of rfl z, fun _ h => absurd h List.not_mem_nil⟩⟩⟩⟩⟩⟩⟩⟩⟩⟩⟩⟩⟩⟩⟩⟩⟩⟩⟩
theorem nest_in : ∀ w ∈ nestW, w ∈ lw_tbl := by decide +kernel
def TYS (cy : Nat → ClassId) : List (ClassId × FieldType) := [(cy 10, .byte), (cy 11, .int), (cy 12, .long), (cy 13, .boolean), (cy 14, .object "LowerHalf$House"), (cy 15, .object "LowerHalf$Text"), (cy 16, .array .int)]
theorem SE.warm {B kS kV : Nat} {s U : State} (hW : s.WarmedH U.vm) (hq : ∀ q : Nat, q < B → U.heap[q]? = s.heap[q]?) (h : SE B kS kV s) : SE B kS kV U :=
  ⟨vk_R.warm hW h.1, (vk_S.moved hW.alike h.2.1).kept (fun a _ hn => hq a (Nat.not_le.mp hn)), (va_Z.moved hW.alike h.2.2.1).kept (fun a _ hn => hq a (Nat.not_le.mp hn)), (va_Zq.moved hW.alike h.2.2.2).kept (fun a _ hn => hq a (Nat.not_le.mp hn))⟩
theorem SE.same {B kS kV : Nat} {u U : State} (hv : U.vm = u.vm) (hh : U.heap = u.heap) (h : SE B kS kV u) : SE B kS kV U := by
  have al : u.vm.Alike U.vm := by rw [hv]; exact Vm.Alike.refl _
  refine ⟨vk_R.same hv h.1, ?_, ?_, ?_⟩
  · rw [hh]
    exact vk_S.moved al h.2.1
  · rw [hh]
    exact va_Z.moved al h.2.2.1
  · rw [hh]
    exact va_Zq.moved al h.2.2.2
def VV (D : va_G) (cy : Nat → ClassId) (B kS kV : Nat) (U : State) : Prop := va_K D vwCl (TYS cy) U ∧ (∀ w ∈ nestW, va_Nw w U) ∧ SE B kS kV U
theorem eok_of {l : Launch} {B kS kV : Nat} {D : va_G} {cy : Nat → ClassId} : EOK (l, B, D, cy, VV D cy B kS kV) := by
  refine ⟨fun s U h hW hq => ⟨va_K.moved hW.alike h.1, fun w hw => nest_warm w hw s U hW (h.2.1 w hw), SE.warm hW hq h.2.2⟩, fun u U h hv hh => ⟨va_K.moved (by rw [hv]; exact Vm.Alike.refl _) h.1, fun w hw => nest_same w hw u U hv (h.2.1 w hw), SE.same hv hh h.2.2⟩, fun U h => h.1, fun U h => h.2.1, kS, kV, fun U h => h.2.2⟩
theorem arrT {s : State} {c : ClassId} {k : Class} {comp : ClassId} {ty : FieldType} (h2 : s.vm.classes[c]? = some k) (h3 : k.kind = .array comp ty) : ArrOfT s c ty := fun _ _ => ⟨fun k h => (by cases h), k, h2, comp, h3⟩
theorem arrP {A : Array Value} {s : State} {ty : FieldType} (h : (Cond.arrayClass ty).before A s = true) : ∃ c, ArrOfT s c ty ∧ s.vm.findClass ("[" ++ ty.toString) = some c := by
  obtain ⟨c, k, comp, h1, h2, h3⟩ := Cond.arrayClass_spec h
  exact ⟨c, arrT h2 h3, h1⟩
theorem arrO {A : Array Value} {s : State} {C : String} (h : (Cond.arrayOver (.object C)).before A s = true) : ∃ c, ArrOfT s c (.object C) ∧ va_RA s c (.object C) := by
  obtain ⟨comp, c, k, h1, h2, h3, h4, h5⟩ := Cond.arrayOver_spec h
  exact ⟨c, arrT h3 h4, k, comp, h3, h4, h1, h5⟩
theorem arrA {A : Array Value} {s : State} (h : (Cond.arrayOver (.array .int)).before A s = true) : ∃ c, ArrOfT s c (.array .int) ∧ va_RA s c (.array .int) := by
  obtain ⟨comp, c, k, h1, h2, h3, h4, h5⟩ := arrayOverA_spec h
  exact ⟨c, arrT h3 h4, h5⟩
theorem known_all {A : Array Value} {s : State} (hts : ∀ w ∈ lw_tbl, w.before A s = true) : ∃ (dC : Nat → ClassId) (dI : Nat → Nat → Nat), ∀ (k : Nat) (q : vw_C), vwCl[k]? = some q → u_Kn s q.1 q.2.1 q.2.2 (dC k) (dI k) := by
  obtain ⟨c0, i0, k0⟩ := u_known (C := RX0) (T := TX0) (N := 2) (n := 2) hts (fun w h => inl (uw_X0 w h)) (hts _ (inl in_X0))
  obtain ⟨c1, i1, k1⟩ := u_known (C := RX1) (T := TX1) (N := 20) (n := 20) hts (fun w h => inl (uw_X1 w h)) (hts _ (inl in_X1))
  obtain ⟨c2, i2, k2⟩ := u_known (C := RX2) (T := TX2) (N := 7) (n := 7) hts (fun w h => inl (uw_X2 w h)) (hts _ (inl in_X2))
  obtain ⟨c3, i3, k3⟩ := u_known (C := RX3) (T := TX3) (N := 4) (n := 4) hts (fun w h => inl (uw_X3 w h)) (hts _ (inl in_X3))
  obtain ⟨c4, i4, k4⟩ := u_known (C := RX4) (T := TX4) (N := 12) (n := 12) hts (fun w h => inl (uw_X4 w h)) (hts _ (inl in_X4))
  obtain ⟨c5, i5, k5⟩ := u_known (C := RX5) (T := TX5) (N := 2) (n := 2) hts (fun w h => inl (uw_X5 w h)) (hts _ (inl in_X5))
  obtain ⟨c6, i6, k6⟩ := u_known (C := RX6) (T := TX6) (N := 2) (n := 2) hts (fun w h => inl (uw_X6 w h)) (hts _ (inl in_X6))
  obtain ⟨c7, i7, k7⟩ := u_known (C := RX7) (T := TX7) (N := 3) (n := 3) hts (fun w h => inl (uw_X7 w h)) (hts _ (inl in_X7))
  obtain ⟨c8, i8, k8⟩ := u_known (C := RX8) (T := TX8) (N := 19) (n := 19) hts (fun w h => inl (uw_X8 w h)) (hts _ (inl in_X8))
  obtain ⟨c9, i9, k9⟩ := u_known (C := RX9) (T := TX9) (N := 58) (n := 58) hts (fun w h => inl (uw_X9 w h)) (hts _ (inl in_X9))
  refine ⟨fun k => if k = 0 then c0 else if k = 1 then c1 else if k = 2 then c2 else if k = 3 then c3 else if k = 4 then c4 else if k = 5 then c5 else if k = 6 then c6 else if k = 7 then c7 else if k = 8 then c8 else c9, fun k => if k = 0 then i0 else if k = 1 then i1 else if k = 2 then i2 else if k = 3 then i3 else if k = 4 then i4 else if k = 5 then i5 else if k = 6 then i6 else if k = 7 then i7 else if k = 8 then i8 else i9, fun k q hq => ?_⟩
  match k, hq with
    | 0, hq => cases hq; exact k0
    | 1, hq => cases hq; exact k1
    | 2, hq => cases hq; exact k2
    | 3, hq => cases hq; exact k3
    | 4, hq => cases hq; exact k4
    | 5, hq => cases hq; exact k5
    | 6, hq => cases hq; exact k6
    | 7, hq => cases hq; exact k7
    | 8, hq => cases hq; exact k8
    | 9, hq => cases hq; exact k9
    | k + 10, hq => simp [vwCl] at hq
theorem arr_all {A : Array Value} {s : State} (hts : ∀ w ∈ lw_tbl, w.before A s = true) : ∃ cy : Nat → ClassId, ∀ (k : Nat) (q : ClassId × FieldType), (TYS cy)[k]? = some q → ArrOfT s q.1 q.2 ∧ va_RA s q.1 q.2 := by
  obtain ⟨c0, a0, b0⟩ := arrP (hts _ (inl ac_byte))
  obtain ⟨c1, a1, b1⟩ := arrP (hts _ (inl ac_int))
  obtain ⟨c2, a2, b2⟩ := arrP (hts _ (inl ac_long))
  obtain ⟨c3, a3, b3⟩ := arrP (hts _ (inl ac_boolean))
  obtain ⟨c4, a4, b4⟩ := arrO (hts _ (nest_in _ ao_X1))
  obtain ⟨c5, a5, b5⟩ := arrO (hts _ (nest_in _ ao_X7))
  obtain ⟨c6, a6, b6⟩ := arrA (hts _ (nest_in _ ao_I))
  refine ⟨fun k => if k = 10 then c0 else if k = 11 then c1 else if k = 12 then c2 else if k = 13 then c3 else if k = 14 then c4 else if k = 15 then c5 else c6, fun k q hq => ?_⟩
  match k, hq with
    | 0, hq => cases hq; exact ⟨a0, b0⟩
    | 1, hq => cases hq; exact ⟨a1, b1⟩
    | 2, hq => cases hq; exact ⟨a2, b2⟩
    | 3, hq => cases hq; exact ⟨a3, b3⟩
    | 4, hq => cases hq; exact ⟨a4, b4⟩
    | 5, hq => cases hq; exact ⟨a5, b5⟩
    | 6, hq => cases hq; exact ⟨a6, b6⟩
    | k + 7, hq => simp [TYS] at hq
def tmS : Term := .string RX4 115
def fdV : Term := .field tmS "java/lang/String" "value" "[B"
def gvL : List Cond := flatC (Jvm.Cond.and given_1 narrow_1)
theorem gv_elem : ∀ j, j < 168 → gvL[33 + j]? = some (Cond.eq (.elem fdV (.int (Int32.ofNat j))) (.int (wdB.getD j 0))) := by decide +kernel
theorem se_at {A : Array Value} {s : State} (hts : ∀ w ∈ lw_tbl, w.before A s = true) (hg : ∀ c ∈ gvL, c.before A s = true) : ∃ kS kV : Nat, SE s.heap.size kS kV s := by
  have hA : ∀ a : Nat, a < s.heap.size → ¬ s.heap.size ≤ a := fun a h => Nat.not_le.mpr h
  have h29 : Cond.exactly tmS "java/lang/String" ∈ gvL := List.mem_of_getElem? (i := 29) (by decide +kernel)
  have h30 : Cond.eq (.field tmS "java/lang/String" "coder" "B") (.int 0) ∈ gvL := List.mem_of_getElem? (i := 30) (by decide +kernel)
  have h31 : Cond.arrayOf fdV .byte ∈ gvL := List.mem_of_getElem? (i := 31) (by decide +kernel)
  have h32 : Cond.eq (.length fdV) (.int (Int32.ofNat 168)) ∈ gvL := List.mem_of_getElem? (i := 32) (by decide +kernel)
  have i0 : ∀ i : Nat, i < 1 → i = 0 := fun i h => by omega
  obtain ⟨adK, adV, h, hv⟩ := vk_Sof (args := A) (s := s) (N := 1) (tm := fun _ => tmS) (len := [168]) (byt := [wdB]) (A := fun q => s.heap.size ≤ q)
    (fun i hi => by rw [i0 i hi]; decide) (fun i hi => hg _ h29) (fun i hi => hg _ h30) (fun i hi => hg _ h31) (fun i hi => by rw [i0 i hi]; exact hg _ h32)
    (fun i hi j hj => by rw [i0 i hi] at hj ⊢; exact hg _ (List.mem_of_getElem? (gv_elem j hj))) (fun i j hi hj hn => absurd ((i0 i hi).trans (i0 j hj).symm) hn) hA
  have z1 : Cond.laysStatic "java/lang/String" "COMPACT_STRINGS" "Z" ∈ lw_tbl := by decide +kernel
  have z2 : Cond.initialized "java/lang/String" ∈ lw_tbl := by decide +kernel
  have z3 : Cond.laysStatic "jdk/internal/util/Preconditions" "SIOOBE_FORMATTER" "Ljava/util/function/BiFunction;" ∈ lw_tbl := by decide +kernel
  have z4 : Cond.initialized "jdk/internal/util/Preconditions" ∈ lw_tbl := by decide +kernel
  have z5 : Cond.eq (.static "java/lang/String" "COMPACT_STRINGS" "Z") (.int 1) ∈ gvL := List.mem_of_getElem? (i := 4) (by decide +kernel)
  have z6 : Cond.isRef (.static "jdk/internal/util/Preconditions" "SIOOBE_FORMATTER" "Ljava/util/function/BiFunction;") ∈ gvL := List.mem_of_getElem? (i := 5) (by decide +kernel)
  have z7 : Cond.stringRef RX4 115 "theirsgoes  bars  if    or    and   not   room  clock hour  badgerfolk  legs  perch high  mood  strideto    put   on    door  by    pass  times done  latestcaughtat    " ∈ lw_tbl := by decide +kernel
  refine ⟨adK 0, adV 0, vk_R.of (hts _ z7) (hv 0 (by decide)), ⟨fun i hi => ?_, fun i j hi hj _ => (i0 i hi).trans (i0 j hj).symm⟩, va_Zof (hts _ z1) (hts _ z2) (va_eqi (hg _ z5)) hA, va_Zqof (hts _ z3) (hts _ z4) (hg _ z6) hA⟩
  rw [i0 i hi]
  exact h.1 0 (by decide)
end ENT
