/-! ===== the context of a walk, and one-instruction rows over the pool heap ===== -/
/-- launch, base address, the classes' places, the array classes, what holds of the surroundings -/
abbrev E0 : Type := Launch × Nat × va_G × (Nat → ClassId) × (State → Prop)
abbrev eL (E : E0) : Launch := E.1
abbrev eB (E : E0) : Nat := E.2.1
abbrev eD (E : E0) : va_G := E.2.2.1
abbrev eC (E : E0) : Nat → ClassId := E.2.2.2.1
abbrev eV (E : E0) : State → Prop := E.2.2.2.2
def eTys (E : E0) : List (ClassId × FieldType) := [(eC E 10, .byte), (eC E 11, .int), (eC E 12, .long), (eC E 13, .boolean), (eC E 14, .object "LowerHalf$House"), (eC E 15, .object "LowerHalf$Text"), (eC E 16, .array .int)]
/-- the bytes of the one text that the class holds -/
def wdB : List Int32 := [116, 104, 101, 105, 114, 115, 103, 111, 101, 115, 32, 32, 98, 97, 114, 115, 32, 32, 105, 102, 32, 32, 32, 32, 111, 114, 32, 32, 32, 32, 97, 110, 100, 32, 32, 32, 110, 111, 116, 32, 32, 32, 114, 111, 111, 109, 32, 32, 99, 108, 111, 99, 107, 32, 104, 111, 117, 114, 32, 32, 98, 97, 100, 103, 101, 114, 102, 111, 108, 107, 32, 32, 108, 101, 103, 115, 32, 32, 112, 101, 114, 99, 104, 32, 104, 105, 103, 104, 32, 32, 109, 111, 111, 100, 32, 32, 115, 116, 114, 105, 100, 101, 116, 111, 32, 32, 32, 32, 112, 117, 116, 32, 32, 32, 111, 110, 32, 32, 32, 32, 100, 111, 111, 114, 32, 32, 98, 121, 32, 32, 32, 32, 112, 97, 115, 115, 32, 32, 116, 105, 109, 101, 115, 32, 100, 111, 110, 101, 32, 32, 108, 97, 116, 101, 115, 116, 99, 97, 117, 103, 104, 116, 97, 116, 32, 32, 32, 32]
/-- the text's object lies at kS, its bytes at kV; two statics of the machine's library -/
def SE (B kS kV : Nat) (U : State) : Prop := vk_R RX4 115 "theirsgoes  bars  if    or    and   not   room  clock hour  badgerfolk  legs  perch high  mood  strideto    put   on    door  by    pass  times done  latestcaughtat    " kS U ∧ vk_S 1 [168] [wdB] (fun _ => kS) (fun _ => kV) (fun q => B ≤ q) U U.heap ∧ va_Z "java/lang/String" "COMPACT_STRINGS" "Z" (.int 1) (fun q => B ≤ q) U U.heap ∧ va_Zq "jdk/internal/util/Preconditions" "SIOOBE_FORMATTER" "Ljava/util/function/BiFunction;" (fun q => B ≤ q) U U.heap
def EOK (E : E0) : Prop := (∀ s U : State, eV E s → s.WarmedH U.vm → (∀ q : Nat, q < eB E → U.heap[q]? = s.heap[q]?) → eV E U) ∧ (∀ u U : State, eV E u → U.vm = u.vm → U.heap = u.heap → eV E U) ∧ (∀ U : State, eV E U → va_K (eD E) vwCl (eTys E) U) ∧ (∀ U : State, eV E U → ∀ w ∈ nestW, va_Nw w U) ∧ ∃ kS kV : Nat, ∀ U : State, eV E U → SE (eB E) kS kV U
/-- no kind beyond the last cell -/
def ZO (σ : Hp) : Prop := ∀ a, zn σ ≤ a → 17 ≤ zk σ a
def WH (E : E0) (σ : Hp) (H : Heap) : Prop := H.size = eB E + zn σ ∧ ZO σ ∧ va_P (eD E) vwCl (zW (eB E) (eC E) σ) H
abbrev TV : Type := Int32 ⊕ (Int64 ⊕ (Option Nat ⊕ Nat))
abbrev tI (x : Int32) : TV := .inl x
abbrev tJ (x : Int64) : TV := .inr (.inl x)
abbrev tR (r : Option Nat) : TV := .inr (.inr (.inl r))
/-- an address outside the pool -/
abbrev tA (q : Nat) : TV := .inr (.inr (.inr q))
def tv (B : Nat) : TV → Value
  | .inl x => .int x
  | .inr (.inl x) => .long x
  | .inr (.inr (.inl r)) => va_rf (r.map (B + ·))
  | .inr (.inr (.inr q)) => .ref q
def tw : TV → Nat
  | .inl _ => 1
  | .inr (.inl _) => 2
  | .inr (.inr (.inl _)) => 1
  | .inr (.inr (.inr _)) => 1
theorem tv_cat (B : Nat) (v : TV) : (tv B v).category = tw v := by
  rcases v with x | x | r | q
  · rfl
  · rfl
  · cases r <;> rfl
  · rfl
abbrev LM : Type := List (Nat × TV)
def lmv (B : Nat) (lm : LM) : List (Nat × Value) := lm.map (fun q => (q.1, tv B q.2))
def tset1 (i : Nat) (v : TV) (lm : LM) : LM := (i, v) :: lm.filter (fun q => !(q.1 == i) && !(q.1 + 1 == i && tw q.2 == 2))
def tset2 (i : Nat) (v : TV) (lm : LM) : LM := (i, v) :: lm.filter (fun q => !(q.1 == i) && (!(q.1 == i + 1) && !(q.1 + 1 == i && tw q.2 == 2)))
theorem lmv_set1 {B i : Nat} {v : TV} {lm lm' : LM} (h : tset1 i v lm = lm') : (i, tv B v) :: (lmv B lm).filter (fun q => !(q.1 == i) && !(q.1 + 1 == i && q.2.category == 2)) = lmv B lm' := by
  rw [← h]
  unfold tset1 lmv
  rw [List.map_cons, List.filter_map]
  congr 2
  apply List.filter_congr
  intro q _
  simp [Function.comp, tv_cat]
theorem lmv_set2 {B i : Nat} {v : TV} {lm lm' : LM} (h : tset2 i v lm = lm') : (i, tv B v) :: (lmv B lm).filter (fun q => !(q.1 == i) && (!(q.1 == i + 1) && !(q.1 + 1 == i && q.2.category == 2))) = lmv B lm' := by
  rw [← h]
  unfold tset2 lmv
  rw [List.map_cons, List.filter_map]
  congr 2
  apply List.filter_congr
  intro q _
  simp [Function.comp, tv_cat]
theorem lmv_at {B k i : Nat} {v : TV} {lm : LM} {ls : Array Slot} {nL : Nat} (h : lv_has ls nL (lmv B lm)) (hk : lm[k]? = some (i, v)) : ls[i]? = some (.val (tv B v)) := lv_at h k (by unfold lmv; rw [List.getElem?_map, hk]; rfl)
/-- program, surroundings, room, entry state, method, arguments, frames below, method, code, what is due: answer, heap; new cells, slots -/
abbrev X0 : Type := Program × Env × Room × State × MethodId × Array Value × List Frame × Method × Code × (Option TV × Hp) × (Nat × Nat)
abbrev xp (X : X0) : Program := X.1
abbrev xe (X : X0) : Env := X.2.1
abbrev xR (X : X0) : Room := X.2.2.1
abbrev xs (X : X0) : State := X.2.2.2.1
abbrev xm (X : X0) : MethodId := X.2.2.2.2.1
abbrev xa (X : X0) : Array Value := X.2.2.2.2.2.1
abbrev xb (X : X0) : List Frame := X.2.2.2.2.2.2.1
abbrev xh (X : X0) : Method := X.2.2.2.2.2.2.2.1
abbrev xc (X : X0) : Code := X.2.2.2.2.2.2.2.2.1
abbrev xd (X : X0) : Option TV × Hp := X.2.2.2.2.2.2.2.2.2.1
abbrev xn (X : X0) : Nat × Nat := X.2.2.2.2.2.2.2.2.2.2
def QC (E : E0) (d : Option TV × Hp) : Array Value → State → Outcome → State → Prop := fun _ st o t => o = .returned (d.1.map (tv (eB E))) ∧ WH E d.2 t.heap ∧ va_F (fun q => eB E ≤ q) st t
def XOK (E : E0) (X : X0) (cc : ByteArray) (own : String) (nL : Nat) (ret : Option FieldType) (rm : Room) : Prop :=
  (xp X).tables.exec = Jvm.exec ∧ (xc X).code = cc ∧ (xc X).maxLocals = nL ∧ (xs X).vm.findClass own = some (xm X).cls ∧ (∀ w ∈ TB, w.before (xa X) (xs X) = true) ∧ (xh X).sig.returnType = ret ∧ (xh X).locks = false ∧ EOK E ∧ eV E (xs X) ∧ eB E ≤ (xs X).heap.size ∧ xR X = rm
/-- the machine at a place: with these locals, this stack, this heap it comes to what is due -/
def G (E : E0) (X : X0) (ca sa pc : Nat) (lm : LM) (st : List TV) (σ : Hp) : Prop := ∀ (ls : Array Slot) (H : Heap) (locs : List Loc), lv_has ls (xc X).maxLocals (lmv (eB E) lm) → WH E σ H → va_S (fun q => eB E ≤ q) (xs X).heap H locs →
  W (xp X) (eL E) (xe X) (xR X) (xs X) (xm X) (xa X) (xb X) (xh X) (xc X) H locs ca sa (MQ (xb X) (QC E (xd X)) (xa X) (xs X) (xn X).1 (xn X).2 (fun q => eB E ≤ q)) (F0 (xm X) pc ls (st.map (tv (eB E))))
/-- a contract: called so, with this heap, it returns that, with that heap -/
def CT (E : E0) (y : MethodName) (cw : Cond) (rm : Room) (av : List TV) (σ : Hp) (rv : Option TV) (σ1 : Hp) : Prop :=
  Met (eL E) y (cw :: TB) rm (va_Pc (av.map (tv (eB E))) (fun U => WH E σ U.heap ∧ eV E U)) (QC E (rv, σ1)) rm.cells rm.slots (fun q => eB E ≤ q)
section GR
variable {E : E0} {X : X0} {cc : ByteArray} {own : String} {nL : Nat} {ret : Option FieldType} {rm : Room} {ca sa pc : Nat} {lm lm' : LM} {st : List TV} {σ σ' : Hp}
theorem XOK.kk (C : XOK E X cc own nL ret rm) : va_K (eD E) vwCl (eTys E) (xs X) := C.2.2.2.2.2.2.2.1.2.2.1 _ C.2.2.2.2.2.2.2.2.1
theorem XOK.nest (C : XOK E X cc own nL ret rm) {w : Cond} (h : w ∈ nestW) : va_Nw w (xs X) := C.2.2.2.2.2.2.2.1.2.2.2.1 _ C.2.2.2.2.2.2.2.2.1 w h
theorem lm_pick (B : Nat) (lm : LM) : ∀ ks : List Nat, lv_pick (lmv B lm) ks = lmv B (ks.filterMap (fun k => lm[k]?))
  | [] => rfl
  | k :: ks => by
    have ih := lm_pick B lm ks
    unfold lv_pick lmv at ih ⊢
    simp only [List.filterMap_cons, List.getElem?_map] at ih ⊢
    cases lm[k]? with
    | none => simpa using ih
    | some q => simpa using ih
theorem g_sub (ks : List Nat) (h : ks.filterMap (fun k => lm[k]?) = lm') (kk : G E X ca sa pc lm' st σ) : G E X ca sa pc lm st σ := by
  intro ls H locs hl hw hS
  exact kk ls H locs (lv_sub hl ks (by rw [lm_pick, h])) hw hS
theorem g_widen {k n : Nat} (h1 : ca ≤ k) (h2 : sa ≤ n) (kk : G E X k n pc lm st σ) : G E X ca sa pc lm st σ := fun ls H locs hl hw hS => W.widen h1 h2 (kk ls H locs hl hw hS)
theorem g_iadd (C : XOK E X cc own nL ret rm) {x y : Int32} (hd : decode cc pc = .ok (.iadd, 1)) (kk : G E X ca sa (pc + 1) lm (tI (x + y) :: st) σ) : G E X ca sa pc lm (tI y :: tI x :: st) σ := fun ls H locs hl hw hS => lv_iadd C.1 C.2.1 hd (kk ls H locs hl hw hS)
theorem g_isub (C : XOK E X cc own nL ret rm) {x y : Int32} (hd : decode cc pc = .ok (.isub, 1)) (kk : G E X ca sa (pc + 1) lm (tI (x - y) :: st) σ) : G E X ca sa pc lm (tI y :: tI x :: st) σ := fun ls H locs hl hw hS => lv_isub C.1 C.2.1 hd (kk ls H locs hl hw hS)
theorem g_imul (C : XOK E X cc own nL ret rm) {x y : Int32} (hd : decode cc pc = .ok (.imul, 1)) (kk : G E X ca sa (pc + 1) lm (tI (x * y) :: st) σ) : G E X ca sa pc lm (tI y :: tI x :: st) σ := fun ls H locs hl hw hS => lv_imul C.1 C.2.1 hd (kk ls H locs hl hw hS)
theorem g_iand (C : XOK E X cc own nL ret rm) {x y : Int32} (hd : decode cc pc = .ok (.iand, 1)) (kk : G E X ca sa (pc + 1) lm (tI (x &&& y) :: st) σ) : G E X ca sa pc lm (tI y :: tI x :: st) σ := fun ls H locs hl hw hS => lv_iand C.1 C.2.1 hd (kk ls H locs hl hw hS)
theorem g_ior (C : XOK E X cc own nL ret rm) {x y : Int32} (hd : decode cc pc = .ok (.ior, 1)) (kk : G E X ca sa (pc + 1) lm (tI (x ||| y) :: st) σ) : G E X ca sa pc lm (tI y :: tI x :: st) σ := fun ls H locs hl hw hS => lv_ior C.1 C.2.1 hd (kk ls H locs hl hw hS)
theorem g_ixor (C : XOK E X cc own nL ret rm) {x y : Int32} (hd : decode cc pc = .ok (.ixor, 1)) (kk : G E X ca sa (pc + 1) lm (tI (x ^^^ y) :: st) σ) : G E X ca sa pc lm (tI y :: tI x :: st) σ := fun ls H locs hl hw hS => lv_ixor C.1 C.2.1 hd (kk ls H locs hl hw hS)
theorem g_ishl (C : XOK E X cc own nL ret rm) {x y : Int32} (hd : decode cc pc = .ok (.ishl, 1)) (kk : G E X ca sa (pc + 1) lm (tI (x <<< (y &&& 31)) :: st) σ) : G E X ca sa pc lm (tI y :: tI x :: st) σ := fun ls H locs hl hw hS => lv_ishl C.1 C.2.1 hd (kk ls H locs hl hw hS)
theorem g_ishr (C : XOK E X cc own nL ret rm) {x y : Int32} (hd : decode cc pc = .ok (.ishr, 1)) (kk : G E X ca sa (pc + 1) lm (tI (x >>> (y &&& 31)) :: st) σ) : G E X ca sa pc lm (tI y :: tI x :: st) σ := fun ls H locs hl hw hS => lv_ishr C.1 C.2.1 hd (kk ls H locs hl hw hS)
theorem g_iushr (C : XOK E X cc own nL ret rm) {x y : Int32} (hd : decode cc pc = .ok (.iushr, 1)) (kk : G E X ca sa (pc + 1) lm (tI ((x.toUInt32 >>> (y.toUInt32 &&& Int32.toUInt32 31)).toInt32) :: st) σ) : G E X ca sa pc lm (tI y :: tI x :: st) σ := fun ls H locs hl hw hS => lv_iushr C.1 C.2.1 hd rfl (kk ls H locs hl hw hS)
theorem g_idiv (C : XOK E X cc own nL ret rm) {x y : Int32} (hd : decode cc pc = .ok (.idiv, 1)) (hne : ¬ y = 0) (kk : G E X ca sa (pc + 1) lm (tI (x / y) :: st) σ) : G E X ca sa pc lm (tI y :: tI x :: st) σ := fun ls H locs hl hw hS => lv_idiv C.1 C.2.1 hd hne (kk ls H locs hl hw hS)
theorem g_irem (C : XOK E X cc own nL ret rm) {x y : Int32} (hd : decode cc pc = .ok (.irem, 1)) (hne : ¬ y = 0) (kk : G E X ca sa (pc + 1) lm (tI (x - x / y * y) :: st) σ) : G E X ca sa pc lm (tI y :: tI x :: st) σ := fun ls H locs hl hw hS => lv_irem C.1 C.2.1 hd hne (kk ls H locs hl hw hS)
theorem g_ineg (C : XOK E X cc own nL ret rm) {x : Int32} (hd : decode cc pc = .ok (.ineg, 1)) (kk : G E X ca sa (pc + 1) lm (tI (-x) :: st) σ) : G E X ca sa pc lm (tI x :: st) σ := fun ls H locs hl hw hS => lv_ineg C.1 C.2.1 hd (kk ls H locs hl hw hS)
theorem g_ladd (C : XOK E X cc own nL ret rm) {x y : Int64} (hd : decode cc pc = .ok (.ladd, 1)) (kk : G E X ca sa (pc + 1) lm (tJ (x + y) :: st) σ) : G E X ca sa pc lm (tJ y :: tJ x :: st) σ := fun ls H locs hl hw hS => lv_ladd C.1 C.2.1 hd (kk ls H locs hl hw hS)
theorem g_lsub (C : XOK E X cc own nL ret rm) {x y : Int64} (hd : decode cc pc = .ok (.lsub, 1)) (kk : G E X ca sa (pc + 1) lm (tJ (x - y) :: st) σ) : G E X ca sa pc lm (tJ y :: tJ x :: st) σ := fun ls H locs hl hw hS => lv_lsub C.1 C.2.1 hd (kk ls H locs hl hw hS)
theorem g_lmul (C : XOK E X cc own nL ret rm) {x y : Int64} (hd : decode cc pc = .ok (.lmul, 1)) (kk : G E X ca sa (pc + 1) lm (tJ (x * y) :: st) σ) : G E X ca sa pc lm (tJ y :: tJ x :: st) σ := fun ls H locs hl hw hS => lv_lmul C.1 C.2.1 hd (kk ls H locs hl hw hS)
theorem g_ldiv (C : XOK E X cc own nL ret rm) {x y : Int64} (hd : decode cc pc = .ok (.ldiv, 1)) (hne : ¬ y = 0) (kk : G E X ca sa (pc + 1) lm (tJ (x / y) :: st) σ) : G E X ca sa pc lm (tJ y :: tJ x :: st) σ := fun ls H locs hl hw hS => lv_ldiv C.1 C.2.1 hd hne (kk ls H locs hl hw hS)
theorem g_lrem (C : XOK E X cc own nL ret rm) {x y : Int64} (hd : decode cc pc = .ok (.lrem, 1)) (hne : ¬ y = 0) (kk : G E X ca sa (pc + 1) lm (tJ (x - x / y * y) :: st) σ) : G E X ca sa pc lm (tJ y :: tJ x :: st) σ := fun ls H locs hl hw hS => lv_lrem C.1 C.2.1 hd hne (kk ls H locs hl hw hS)
theorem g_lcmp (C : XOK E X cc own nL ret rm) {x y : Int64} (hd : decode cc pc = .ok (.lcmp, 1)) (kk : G E X ca sa (pc + 1) lm (tI (lg_cmp x y) :: st) σ) : G E X ca sa pc lm (tJ y :: tJ x :: st) σ := fun ls H locs hl hw hS => W.lcmp C.1 C.2.1 hd (kk ls H locs hl hw hS)
theorem g_i2l (C : XOK E X cc own nL ret rm) {x : Int32} (hd : decode cc pc = .ok (.i2l, 1)) (kk : G E X ca sa (pc + 1) lm (tJ x.toInt64 :: st) σ) : G E X ca sa pc lm (tI x :: st) σ := fun ls H locs hl hw hS => lv_i2l C.1 C.2.1 hd rfl (kk ls H locs hl hw hS)
theorem g_l2i (C : XOK E X cc own nL ret rm) {x : Int64} (hd : decode cc pc = .ok (.l2i, 1)) (kk : G E X ca sa (pc + 1) lm (tI x.toInt32 :: st) σ) : G E X ca sa pc lm (tJ x :: st) σ := fun ls H locs hl hw hS => lv_l2i C.1 C.2.1 hd rfl (kk ls H locs hl hw hS)
theorem g_i2b (C : XOK E X cc own nL ret rm) {x : Int32} (hd : decode cc pc = .ok (.i2b, 1)) (kk : G E X ca sa (pc + 1) lm (tI x.toInt8.toInt32 :: st) σ) : G E X ca sa pc lm (tI x :: st) σ := fun ls H locs hl hw hS => lv_i2b C.1 C.2.1 hd rfl (kk ls H locs hl hw hS)
theorem g_iconst (C : XOK E X cc own nL ret rm) {n : Int} {v : Int32} (hd : decode cc pc = .ok (.iconst n, 1)) (hv : Int32.ofInt n = v) (kk : G E X ca sa (pc + 1) lm (tI v :: st) σ) : G E X ca sa pc lm (st) σ := fun ls H locs hl hw hS => lv_iconst C.1 C.2.1 hd hv (kk ls H locs hl hw hS)
theorem g_bipush (C : XOK E X cc own nL ret rm) {n : Int} {v : Int32} (hd : decode cc pc = .ok (.bipush n, 2)) (hv : (Int8.ofInt n).toInt32 = v) (kk : G E X ca sa (pc + 2) lm (tI v :: st) σ) : G E X ca sa pc lm (st) σ := fun ls H locs hl hw hS => lv_bipush C.1 C.2.1 hd hv (kk ls H locs hl hw hS)
theorem g_sipush (C : XOK E X cc own nL ret rm) {n : Int} {v : Int32} (hd : decode cc pc = .ok (.sipush n, 3)) (hv : (Int16.ofInt n).toInt32 = v) (kk : G E X ca sa (pc + 3) lm (tI v :: st) σ) : G E X ca sa pc lm (st) σ := fun ls H locs hl hw hS => lv_sipush C.1 C.2.1 hd hv (kk ls H locs hl hw hS)
theorem g_lconst (C : XOK E X cc own nL ret rm) {n : Fin 2} {v : Int64} (hd : decode cc pc = .ok (.lconst n, 1)) (hv : Int64.ofNat (n : Nat) = v) (kk : G E X ca sa (pc + 1) lm (tJ v :: st) σ) : G E X ca sa pc lm (st) σ := fun ls H locs hl hw hS => lv_lconst C.1 C.2.1 hd hv (kk ls H locs hl hw hS)
theorem g_ldc2 (C : XOK E X cc own nL ret rm) {index : Nat} {v : Int64} (hd : decode cc pc = .ok (.ldc2_w index, 3)) (hw1 : Cond.constantLong own index v ∈ TB) (kk : G E X ca sa (pc + 3) lm (tJ v :: st) σ) : G E X ca sa pc lm (st) σ := fun ls H locs hl hw hS => lv_ldc2 C.1 C.2.1 C.2.2.2.1 (C.2.2.2.2.1 _ hw1) hd (kk ls H locs hl hw hS)
theorem g_ldc (C : XOK E X cc own nL ret rm) {index : Nat} {v : Int32} (hd : decode cc pc = .ok (.ldc index, 2)) (hw1 : Cond.constant own index v ∈ TB) (kk : G E X ca sa (pc + 2) lm (tI v :: st) σ) : G E X ca sa pc lm (st) σ := fun ls H locs hl hw hS => lv_ldc C.1 C.2.1 C.2.2.2.1 (C.2.2.2.2.1 _ hw1) hd (kk ls H locs hl hw hS)
theorem g_ldcw (C : XOK E X cc own nL ret rm) {index : Nat} {v : Int32} (hd : decode cc pc = .ok (.ldc_w index, 3)) (hw1 : Cond.constant own index v ∈ TB) (kk : G E X ca sa (pc + 3) lm (tI v :: st) σ) : G E X ca sa pc lm (st) σ := fun ls H locs hl hw hS => lv_ldcw C.1 C.2.1 C.2.2.2.1 (C.2.2.2.2.1 _ hw1) hd (kk ls H locs hl hw hS)
theorem g_null (C : XOK E X cc own nL ret rm)  (hd : decode cc pc = .ok (.aconst_null, 1)) (kk : G E X ca sa (pc + 1) lm (tR none :: st) σ) : G E X ca sa pc lm (st) σ := fun ls H locs hl hw hS => lv_null C.1 C.2.1 hd (kk ls H locs hl hw hS)
theorem g_iload_n (C : XOK E X cc own nL ret rm) {k : Fin 4} {x : Int32} (i j : Nat) (hd : decode cc pc = .ok (.iload_n k, 1)) (hi : (k : Nat) = i) (hk : lm[j]? = some (i, tI x)) (kk : G E X ca sa (pc + 1) lm (tI x :: st) σ) : G E X ca sa pc lm (st) σ := fun ls H locs hl hw hS => lv_iload_n C.1 C.2.1 hd hi (lmv_at hl hk) (kk ls H locs hl hw hS)
theorem g_iload (C : XOK E X cc own nL ret rm) {x : Int32} {i : Nat} (j : Nat) (hd : decode cc pc = .ok (.iload i, 2)) (hk : lm[j]? = some (i, tI x)) (kk : G E X ca sa (pc + 2) lm (tI x :: st) σ) : G E X ca sa pc lm (st) σ := fun ls H locs hl hw hS => lv_iload C.1 C.2.1 hd (lmv_at hl hk) (kk ls H locs hl hw hS)
theorem g_lload_n (C : XOK E X cc own nL ret rm) {k : Fin 4} {x : Int64} (i j : Nat) (hd : decode cc pc = .ok (.lload_n k, 1)) (hi : (k : Nat) = i) (hk : lm[j]? = some (i, tJ x)) (kk : G E X ca sa (pc + 1) lm (tJ x :: st) σ) : G E X ca sa pc lm (st) σ := fun ls H locs hl hw hS => lv_lload_n C.1 C.2.1 hd hi (lmv_at hl hk) (kk ls H locs hl hw hS)
theorem g_lload (C : XOK E X cc own nL ret rm) {x : Int64} {i : Nat} (j : Nat) (hd : decode cc pc = .ok (.lload i, 2)) (hk : lm[j]? = some (i, tJ x)) (kk : G E X ca sa (pc + 2) lm (tJ x :: st) σ) : G E X ca sa pc lm (st) σ := fun ls H locs hl hw hS => lv_lload C.1 C.2.1 hd (lmv_at hl hk) (kk ls H locs hl hw hS)
theorem g_aload_n (C : XOK E X cc own nL ret rm) {k : Fin 4} {r : Option Nat} (i j : Nat) (hd : decode cc pc = .ok (.aload_n k, 1)) (hi : (k : Nat) = i) (hk : lm[j]? = some (i, tR r)) (kk : G E X ca sa (pc + 1) lm (tR r :: st) σ) : G E X ca sa pc lm (st) σ := fun ls H locs hl hw hS => by
  cases r with
  | none => exact lv_aload_nN C.1 C.2.1 hd hi (lmv_at hl hk) (kk ls H locs hl hw hS)
  | some a => exact lv_aload_n C.1 C.2.1 hd hi (lmv_at hl hk) (kk ls H locs hl hw hS)
theorem g_aload (C : XOK E X cc own nL ret rm) {r : Option Nat} {i : Nat} (j : Nat) (hd : decode cc pc = .ok (.aload i, 2)) (hk : lm[j]? = some (i, tR r)) (kk : G E X ca sa (pc + 2) lm (tR r :: st) σ) : G E X ca sa pc lm (st) σ := fun ls H locs hl hw hS => by
  cases r with
  | none => exact lv_aloadN C.1 C.2.1 hd (lmv_at hl hk) (kk ls H locs hl hw hS)
  | some a => exact lv_aload C.1 C.2.1 hd (lmv_at hl hk) (kk ls H locs hl hw hS)
theorem g_istore_n (C : XOK E X cc own nL ret rm) {k : Fin 4} {x : Int32} (i : Nat) (hd : decode cc pc = .ok (.istore_n k, 1)) (hi : (k : Nat) = i) (hn : i < nL) (hs : tset1 i (tI x) lm = lm') (kk : G E X ca sa (pc + 1) lm' st σ) : G E X ca sa pc lm (tI x :: st) σ := fun ls H locs hl hw hS => lv_istore_n C.1 C.2.1 hd hi hl (by rw [C.2.2.1]; exact hn) (lmv_set1 (v := tI x) hs) (fun ls2 hl2 => kk ls2 H locs hl2 hw hS)
theorem g_istore (C : XOK E X cc own nL ret rm) {i : Nat} {x : Int32} (hd : decode cc pc = .ok (.istore i, 2)) (hn : i < nL) (hs : tset1 i (tI x) lm = lm') (kk : G E X ca sa (pc + 2) lm' st σ) : G E X ca sa pc lm (tI x :: st) σ := fun ls H locs hl hw hS => lv_istore C.1 C.2.1 hd hl (by rw [C.2.2.1]; exact hn) (lmv_set1 (v := tI x) hs) (fun ls2 hl2 => kk ls2 H locs hl2 hw hS)
theorem g_lstore_n (C : XOK E X cc own nL ret rm) {k : Fin 4} {x : Int64} (i : Nat) (hd : decode cc pc = .ok (.lstore_n k, 1)) (hi : (k : Nat) = i) (hn : i + 1 < nL) (hs : tset2 i (tJ x) lm = lm') (kk : G E X ca sa (pc + 1) lm' st σ) : G E X ca sa pc lm (tJ x :: st) σ := fun ls H locs hl hw hS => lv_lstore_n C.1 C.2.1 hd hi hl (by rw [C.2.2.1]; exact hn) (lmv_set2 (v := tJ x) hs) (fun ls2 hl2 => kk ls2 H locs hl2 hw hS)
theorem g_lstore (C : XOK E X cc own nL ret rm) {i : Nat} {x : Int64} (hd : decode cc pc = .ok (.lstore i, 2)) (hn : i + 1 < nL) (hs : tset2 i (tJ x) lm = lm') (kk : G E X ca sa (pc + 2) lm' st σ) : G E X ca sa pc lm (tJ x :: st) σ := fun ls H locs hl hw hS => lv_lstore C.1 C.2.1 hd hl (by rw [C.2.2.1]; exact hn) (lmv_set2 (v := tJ x) hs) (fun ls2 hl2 => kk ls2 H locs hl2 hw hS)
theorem g_astore_n (C : XOK E X cc own nL ret rm) {k : Fin 4} {r : Option Nat} (i : Nat) (hd : decode cc pc = .ok (.astore_n k, 1)) (hi : (k : Nat) = i) (hn : i < nL) (hs : tset1 i (tR r) lm = lm') (kk : G E X ca sa (pc + 1) lm' st σ) : G E X ca sa pc lm (tR r :: st) σ := fun ls H locs hl hw hS => by
  have hs2 := lmv_set1 (B := eB E) (v := tR r) hs
  cases r with
  | none => exact lv_astore_nN C.1 C.2.1 hd hi hl (by rw [C.2.2.1]; exact hn) hs2 (fun ls2 hl2 => kk ls2 H locs hl2 hw hS)
  | some a => exact lv_astore_n C.1 C.2.1 hd hi hl (by rw [C.2.2.1]; exact hn) hs2 (fun ls2 hl2 => kk ls2 H locs hl2 hw hS)
theorem g_astore (C : XOK E X cc own nL ret rm) {i : Nat} {r : Option Nat} (hd : decode cc pc = .ok (.astore i, 2)) (hn : i < nL) (hs : tset1 i (tR r) lm = lm') (kk : G E X ca sa (pc + 2) lm' st σ) : G E X ca sa pc lm (tR r :: st) σ := fun ls H locs hl hw hS => by
  have hs2 := lmv_set1 (B := eB E) (v := tR r) hs
  cases r with
  | none => exact lv_astoreN C.1 C.2.1 hd hl (by rw [C.2.2.1]; exact hn) hs2 (fun ls2 hl2 => kk ls2 H locs hl2 hw hS)
  | some a => exact lv_astore C.1 C.2.1 hd hl (by rw [C.2.2.1]; exact hn) hs2 (fun ls2 hl2 => kk ls2 H locs hl2 hw hS)
theorem g_iinc (C : XOK E X cc own nL ret rm) {i : Nat} {n : Int} {x v : Int32} (j : Nat) (hd : decode cc pc = .ok (.iinc i n, 3)) (hk : lm[j]? = some (i, tI x)) (hv : x + Int32.ofInt n = v) (hn : i < nL) (hs : tset1 i (tI v) lm = lm') (kk : G E X ca sa (pc + 3) lm' st σ) : G E X ca sa pc lm st σ := fun ls H locs hl hw hS => lv_iinc (k := j) C.1 C.2.1 hd hl (by unfold lmv; rw [List.getElem?_map, hk]; rfl) hv (by rw [C.2.2.1]; exact hn) (lmv_set1 (v := tI v) hs) (fun ls2 hl2 => kk ls2 H locs hl2 hw hS)
theorem g_if_eq (C : XOK E X cc own nL ret rm) {x : Int32} {off : Int} (tgt : Nat) (hd : decode cc pc = .ok (.ifCond .eq off, 3)) (ht : (pc : Int) + off = (tgt : Int)) (kt : x = 0 → G E X ca sa tgt lm st σ) (kf : ¬ x = 0 → G E X ca sa (pc + 3) lm st σ) : G E X ca sa pc lm (tI x :: st) σ := fun ls H locs hl hw hS => lv_if_eq C.1 C.2.1 hd ht (fun h => kt h ls H locs hl hw hS) (fun h => kf h ls H locs hl hw hS)
theorem g_if_ne (C : XOK E X cc own nL ret rm) {x : Int32} {off : Int} (tgt : Nat) (hd : decode cc pc = .ok (.ifCond .ne off, 3)) (ht : (pc : Int) + off = (tgt : Int)) (kt : ¬ x = 0 → G E X ca sa tgt lm st σ) (kf : x = 0 → G E X ca sa (pc + 3) lm st σ) : G E X ca sa pc lm (tI x :: st) σ := fun ls H locs hl hw hS => lv_if_ne C.1 C.2.1 hd ht (fun h => kt h ls H locs hl hw hS) (fun h => kf h ls H locs hl hw hS)
theorem g_if_lt (C : XOK E X cc own nL ret rm) {x : Int32} {off : Int} (tgt : Nat) (hd : decode cc pc = .ok (.ifCond .lt off, 3)) (ht : (pc : Int) + off = (tgt : Int)) (kt : x < 0 → G E X ca sa tgt lm st σ) (kf : ¬ x < 0 → G E X ca sa (pc + 3) lm st σ) : G E X ca sa pc lm (tI x :: st) σ := fun ls H locs hl hw hS => lv_if_lt C.1 C.2.1 hd ht (fun h => kt h ls H locs hl hw hS) (fun h => kf h ls H locs hl hw hS)
theorem g_if_ge (C : XOK E X cc own nL ret rm) {x : Int32} {off : Int} (tgt : Nat) (hd : decode cc pc = .ok (.ifCond .ge off, 3)) (ht : (pc : Int) + off = (tgt : Int)) (kt : 0 ≤ x → G E X ca sa tgt lm st σ) (kf : ¬ 0 ≤ x → G E X ca sa (pc + 3) lm st σ) : G E X ca sa pc lm (tI x :: st) σ := fun ls H locs hl hw hS => lv_if_ge C.1 C.2.1 hd ht (fun h => kt h ls H locs hl hw hS) (fun h => kf h ls H locs hl hw hS)
theorem g_if_gt (C : XOK E X cc own nL ret rm) {x : Int32} {off : Int} (tgt : Nat) (hd : decode cc pc = .ok (.ifCond .gt off, 3)) (ht : (pc : Int) + off = (tgt : Int)) (kt : 0 < x → G E X ca sa tgt lm st σ) (kf : ¬ 0 < x → G E X ca sa (pc + 3) lm st σ) : G E X ca sa pc lm (tI x :: st) σ := fun ls H locs hl hw hS => lv_if_gt C.1 C.2.1 hd ht (fun h => kt h ls H locs hl hw hS) (fun h => kf h ls H locs hl hw hS)
theorem g_if_le (C : XOK E X cc own nL ret rm) {x : Int32} {off : Int} (tgt : Nat) (hd : decode cc pc = .ok (.ifCond .le off, 3)) (ht : (pc : Int) + off = (tgt : Int)) (kt : x ≤ 0 → G E X ca sa tgt lm st σ) (kf : ¬ x ≤ 0 → G E X ca sa (pc + 3) lm st σ) : G E X ca sa pc lm (tI x :: st) σ := fun ls H locs hl hw hS => lv_if_le C.1 C.2.1 hd ht (fun h => kt h ls H locs hl hw hS) (fun h => kf h ls H locs hl hw hS)
theorem g_icmp_eq (C : XOK E X cc own nL ret rm) {x y : Int32} {off : Int} (tgt : Nat) (hd : decode cc pc = .ok (.if_icmp .eq off, 3)) (ht : (pc : Int) + off = (tgt : Int)) (kt : x = y → G E X ca sa tgt lm st σ) (kf : ¬ x = y → G E X ca sa (pc + 3) lm st σ) : G E X ca sa pc lm (tI y :: tI x :: st) σ := fun ls H locs hl hw hS => lv_icmp_eq C.1 C.2.1 hd ht (fun h => kt h ls H locs hl hw hS) (fun h => kf h ls H locs hl hw hS)
theorem g_icmp_ne (C : XOK E X cc own nL ret rm) {x y : Int32} {off : Int} (tgt : Nat) (hd : decode cc pc = .ok (.if_icmp .ne off, 3)) (ht : (pc : Int) + off = (tgt : Int)) (kt : ¬ x = y → G E X ca sa tgt lm st σ) (kf : x = y → G E X ca sa (pc + 3) lm st σ) : G E X ca sa pc lm (tI y :: tI x :: st) σ := fun ls H locs hl hw hS => lv_icmp_ne C.1 C.2.1 hd ht (fun h => kt h ls H locs hl hw hS) (fun h => kf h ls H locs hl hw hS)
theorem g_icmp_lt (C : XOK E X cc own nL ret rm) {x y : Int32} {off : Int} (tgt : Nat) (hd : decode cc pc = .ok (.if_icmp .lt off, 3)) (ht : (pc : Int) + off = (tgt : Int)) (kt : x < y → G E X ca sa tgt lm st σ) (kf : ¬ x < y → G E X ca sa (pc + 3) lm st σ) : G E X ca sa pc lm (tI y :: tI x :: st) σ := fun ls H locs hl hw hS => lv_icmp_lt C.1 C.2.1 hd ht (fun h => kt h ls H locs hl hw hS) (fun h => kf h ls H locs hl hw hS)
theorem g_icmp_ge (C : XOK E X cc own nL ret rm) {x y : Int32} {off : Int} (tgt : Nat) (hd : decode cc pc = .ok (.if_icmp .ge off, 3)) (ht : (pc : Int) + off = (tgt : Int)) (kt : y ≤ x → G E X ca sa tgt lm st σ) (kf : ¬ y ≤ x → G E X ca sa (pc + 3) lm st σ) : G E X ca sa pc lm (tI y :: tI x :: st) σ := fun ls H locs hl hw hS => lv_icmp_ge C.1 C.2.1 hd ht (fun h => kt h ls H locs hl hw hS) (fun h => kf h ls H locs hl hw hS)
theorem g_icmp_gt (C : XOK E X cc own nL ret rm) {x y : Int32} {off : Int} (tgt : Nat) (hd : decode cc pc = .ok (.if_icmp .gt off, 3)) (ht : (pc : Int) + off = (tgt : Int)) (kt : y < x → G E X ca sa tgt lm st σ) (kf : ¬ y < x → G E X ca sa (pc + 3) lm st σ) : G E X ca sa pc lm (tI y :: tI x :: st) σ := fun ls H locs hl hw hS => lv_icmp_gt C.1 C.2.1 hd ht (fun h => kt h ls H locs hl hw hS) (fun h => kf h ls H locs hl hw hS)
theorem g_icmp_le (C : XOK E X cc own nL ret rm) {x y : Int32} {off : Int} (tgt : Nat) (hd : decode cc pc = .ok (.if_icmp .le off, 3)) (ht : (pc : Int) + off = (tgt : Int)) (kt : x ≤ y → G E X ca sa tgt lm st σ) (kf : ¬ x ≤ y → G E X ca sa (pc + 3) lm st σ) : G E X ca sa pc lm (tI y :: tI x :: st) σ := fun ls H locs hl hw hS => lv_icmp_le C.1 C.2.1 hd ht (fun h => kt h ls H locs hl hw hS) (fun h => kf h ls H locs hl hw hS)
theorem g_goto (C : XOK E X cc own nL ret rm) {off : Int} (tgt : Nat) (hd : decode cc pc = .ok (.goto off, 3)) (ht : (pc : Int) + off = (tgt : Int)) (kk : G E X ca sa tgt lm st σ) : G E X ca sa pc lm st σ := fun ls H locs hl hw hS => lv_goto C.1 C.2.1 hd ht (kk ls H locs hl hw hS)
theorem g_ifnull (C : XOK E X cc own nL ret rm) {r : Option Nat} {off : Int} (tgt : Nat) (hd : decode cc pc = .ok (.ifnull off, 3)) (ht : (pc : Int) + off = (tgt : Int)) (kt : r = none → G E X ca sa tgt lm st σ) (kf : ¬ r = none → G E X ca sa (pc + 3) lm st σ) : G E X ca sa pc lm (tR r :: st) σ := fun ls H locs hl hw hS => by
  cases r with
  | none => exact lv_ifnullN C.1 C.2.1 hd ht (kt rfl ls H locs hl hw hS)
  | some a => exact lv_ifnull C.1 C.2.1 hd (kf (fun h => by cases h) ls H locs hl hw hS)
theorem g_ifnonnull (C : XOK E X cc own nL ret rm) {r : Option Nat} {off : Int} (tgt : Nat) (hd : decode cc pc = .ok (.ifnonnull off, 3)) (ht : (pc : Int) + off = (tgt : Int)) (kt : ¬ r = none → G E X ca sa tgt lm st σ) (kf : r = none → G E X ca sa (pc + 3) lm st σ) : G E X ca sa pc lm (tR r :: st) σ := fun ls H locs hl hw hS => by
  cases r with
  | none => exact lv_ifnonnullN C.1 C.2.1 hd (kf rfl ls H locs hl hw hS)
  | some a => exact lv_ifnonnull C.1 C.2.1 hd ht (kt (fun h => by cases h) ls H locs hl hw hS)
theorem g_tswIn (C : XOK E X cc own nL ret rm) {dflt lo hi : Int} {offs : Array Int} {len : Nat} {x : Int32} {off : Int} (tgt : Nat) (hd : decode cc pc = .ok (.tableswitch dflt lo hi offs, len)) (h1 : ¬ x.toInt < lo) (h2 : ¬ hi < x.toInt) (ho : offs[(x.toInt - lo).toNat]? = some off) (ht : (pc : Int) + off = (tgt : Int)) (kk : G E X ca sa tgt lm st σ) : G E X ca sa pc lm (tI x :: st) σ := fun ls H locs hl hw hS => lv_tableIn C.1 C.2.1 hd h1 h2 ho ht (kk ls H locs hl hw hS)
theorem g_tswOut (C : XOK E X cc own nL ret rm) {dflt lo hi : Int} {offs : Array Int} {len : Nat} {x : Int32} (tgt : Nat) (hd : decode cc pc = .ok (.tableswitch dflt lo hi offs, len)) (h : x.toInt < lo ∨ hi < x.toInt) (ht : (pc : Int) + dflt = (tgt : Int)) (kk : G E X ca sa tgt lm st σ) : G E X ca sa pc lm (tI x :: st) σ := fun ls H locs hl hw hS => lv_tableOut C.1 C.2.1 hd h ht (kk ls H locs hl hw hS)
theorem g_lsw (C : XOK E X cc own nL ret rm) {dflt : Int} {ps : Array (Int × Int)} {len : Nat} {x : Int32} {off : Int} (tgt : Nat) (hd : decode cc pc = .ok (.lookupswitch dflt ps, len)) (hp : (ps.toList.zip (ps.toList.drop 1)).all (fun (a, next) => a.1 < next.1) = true) (ho : Op.lookupswitch.offset ps.toList dflt x.toInt = off) (ht : (pc : Int) + off = (tgt : Int)) (kk : G E X ca sa tgt lm st σ) : G E X ca sa pc lm (tI x :: st) σ := fun ls H locs hl hw hS => lv_lookup C.1 C.2.1 hd hp ho ht (kk ls H locs hl hw hS)
theorem g_dup (C : XOK E X cc own nL ret rm) {v : TV} (hd : decode cc pc = .ok (.dup, 1)) (h1 : tw v = 1) (kk : G E X ca sa (pc + 1) lm (v :: v :: st) σ) : G E X ca sa pc lm (v :: st) σ := fun ls H locs hl hw hS => lv_dup C.1 C.2.1 hd ((tv_cat _ _).trans h1) (kk ls H locs hl hw hS)
theorem g_pop (C : XOK E X cc own nL ret rm) {v : TV} (hd : decode cc pc = .ok (.pop, 1)) (h1 : tw v = 1) (kk : G E X ca sa (pc + 1) lm st σ) : G E X ca sa pc lm (v :: st) σ := fun ls H locs hl hw hS => lv_pop C.1 C.2.1 hd ((tv_cat _ _).trans h1) (kk ls H locs hl hw hS)
theorem g_dup_x1 (C : XOK E X cc own nL ret rm) {v w : TV} (hd : decode cc pc = .ok (.dup_x1, 1)) (h1 : tw v = 1) (h2 : tw w = 1) (kk : G E X ca sa (pc + 1) lm (v :: w :: v :: st) σ) : G E X ca sa pc lm (v :: w :: st) σ := fun ls H locs hl hw hS => lv_dup_x1 C.1 C.2.1 hd ((tv_cat _ _).trans h1) ((tv_cat _ _).trans h2) (kk ls H locs hl hw hS)
theorem g_dup2 (C : XOK E X cc own nL ret rm) {v w : TV} (hd : decode cc pc = .ok (.dup2, 1)) (h1 : tw v = 1) (h2 : tw w = 1) (kk : G E X ca sa (pc + 1) lm (v :: w :: v :: w :: st) σ) : G E X ca sa pc lm (v :: w :: st) σ := fun ls H locs hl hw hS => lv_dup2_11 C.1 C.2.1 hd ((tv_cat _ _).trans h1) ((tv_cat _ _).trans h2) (kk ls H locs hl hw hS)
end GR
