def rm_X4_isWordAt : Room := { frames := 4, cells := 0, slots := 0, locals := 130 }
noncomputable def s_X4_isWordAt_j43 (l0 : Option Nat) (l1 : Int32) (l2 : Int32) (l3 : Int32) (l4 : Int32) (t0 : Int32) (σ : Hp) : Option ((((Option Nat) × Int32 × Int32 × Int32 × Int32) ⊕ (Int32)) × Hp) :=
  (wdO (l3 + l4)).bind fun v1 =>
  if t0 = (wdC (l3 + l4)) then
    some (Sum.inl ((l0), (l1), (l2), (l3), (l4 + 1)), σ)
  else
    some (Sum.inr (0), σ)
set_option maxRecDepth 100000 in
theorem w_X4_isWordAt_j43 {E : E0} (hE : EOK E) {X : X0} (C : XOK E X cX4_isWordAt RX4 6 (some .boolean) rm_X4_isWordAt) (hxn : xn X = (rm_X4_isWordAt.cells, rm_X4_isWordAt.slots)) {KE : (Int32) → Hp → Prop} (e_ret : ∀ (r : Int32) (σ : Hp), KE (r) σ → xd X = (some (tI r), σ)) (l0 : Option Nat) (l1 : Int32) (l2 : Int32) (l3 : Int32) (l4 : Int32) (t0 : Int32) (σ : Hp) (x : ((Option Nat) × Int32 × Int32 × Int32 × Int32) ⊕ (Int32)) (σ1 : Hp) (h : s_X4_isWordAt_j43 l0 l1 l2 l3 l4 t0 σ = some (x, σ1)) (hI : ∀ v, x = Sum.inl v → (fun (v : (Option Nat) × Int32 × Int32 × Int32 × Int32) (σ : Hp) => G E X 0 0 3 [(0, tR ((v.1))), (1, tI ((v.2.1))), (2, tI ((v.2.2.1))), (3, tI ((v.2.2.2.1))), (4, tI ((v.2.2.2.2)))] [] σ) v σ1) (hO : ∀ e, x = Sum.inr e → KE e σ1) : G E X 0 0 43 [(0, tR (l0)), (1, tI (l1)), (2, tI (l2)), (3, tI (l3)), (4, tI (l4))] [tI (t0)] σ := by
  unfold s_X4_isWordAt_j43 at h
  obtain ⟨kS, kV, hq⟩ := hE.2.2.2.2
  refine g_istore (lm' := [(5, tI (t0)), (0, tR (l0)), (1, tI (l1)), (2, tI (l2)), (3, tI (l3)), (4, tI (l4))]) (pc := 43) C dX4_isWordAt_43 (by decide) rfl ?_
  refine g_iload (pc := 45) C 0 dX4_isWordAt_45 rfl ?_
  refine g_ldcS (pc := 47) C hq dX4_isWordAt_47 ?_
  refine g_iload_n (pc := 49) C 3 4 dX4_isWordAt_49 rfl rfl ?_
  refine g_iload (pc := 50) C 5 dX4_isWordAt_50 rfl ?_
  refine g_iadd (pc := 52) C dX4_isWordAt_52 ?_
  obtain ⟨v1, hvv1, h⟩ := zbind h
  obtain ⟨hiv1, rfl⟩ := zopt hvv1
  refine g_callA (pc := 53) (av := [tI (l3 + l4)]) C hq rfl (c_charAt hE hq hiv1.1 hiv1.2) yv_J0_charAt_5068e ml_X4_126 rfl (rf_of (by decide)) rfl (Nat.le_of_ble_eq_true rfl) dX4_isWordAt_53 ?_
  refine g_icmp_eq (pc := 56) C 61 dX4_isWordAt_56 (by decide) (fun c2 => ?_) (fun c2 => ?_)
  · have h := zif_t c2 h
    refine g_iinc (lm' := [(4, tI (l4 + 1)), (5, tI (t0)), (0, tR (l0)), (1, tI (l1)), (2, tI (l2)), (3, tI (l3))]) (v := l4 + 1) (pc := 61) C 5 dX4_isWordAt_61 rfl rfl (by decide) rfl ?_
    refine g_goto (pc := 64) C 3 dX4_isWordAt_64 (by decide) ?_
    refine g_sub [2, 3, 4, 5, 0] (lm' := [(0, tR (l0)), (1, tI (l1)), (2, tI (l2)), (3, tI (l3)), (4, tI (l4 + 1))]) rfl ?_
    obtain ⟨rfl, rfl⟩ := zsome h
    exact hI _ rfl
  · have h := zif_f c2 h
    refine g_iconst (v := 0) (pc := 59) C dX4_isWordAt_59 (by decide) ?_
    obtain ⟨rfl, rfl⟩ := zsome h
    exact g_zret (pc := 60) C rfl (e_ret _ _ (hO _ rfl)) (by decide) (by rw [hxn]; rfl) (by rw [hxn]; rfl) dX4_isWordAt_60
noncomputable def s_X4_isWordAt_b3 (l0 : Option Nat) (l1 : Int32) (l2 : Int32) (l3 : Int32) (l4 : Int32) (σ : Hp) : Option ((((Option Nat) × Int32 × Int32 × Int32 × Int32) ⊕ (Int32)) × Hp) :=
  if 6 ≤ l4 then
    some (Sum.inr (1), σ)
  else
    if 168 ≤ (l3 + l4) then
      some (Sum.inr (1), σ)
    else
      if l2 ≤ (l1 + l4) then
        s_X4_isWordAt_j43 (l0) (l1) (l2) (l3) (l4) (32) σ
      else
        (l0).bind fun a1 =>
        (ck 6 σ a1).bind fun u2 =>
        cb (s_X6_byteAt a1 (l1 + l4) σ) fun v4 σ3 =>
        s_X4_isWordAt_j43 (some (a1)) (l1) (l2) (l3) (l4) (v4) σ3
noncomputable def s_X4_isWordAt_l3 : ((Option Nat) × Int32 × Int32 × Int32 × Int32) → Hp → Option ((Int32) × Hp) := loopF (fun v => s_X4_isWordAt_b3 (v.1) (v.2.1) (v.2.2.1) (v.2.2.2.1) (v.2.2.2.2))
set_option maxRecDepth 100000 in
theorem w_X4_isWordAt_b3 {E : E0} (hE : EOK E) {X : X0} (C : XOK E X cX4_isWordAt RX4 6 (some .boolean) rm_X4_isWordAt) (hxn : xn X = (rm_X4_isWordAt.cells, rm_X4_isWordAt.slots)) {KE : (Int32) → Hp → Prop} (e_ret : ∀ (r : Int32) (σ : Hp), KE (r) σ → xd X = (some (tI r), σ)) (l0 : Option Nat) (l1 : Int32) (l2 : Int32) (l3 : Int32) (l4 : Int32) (σ : Hp) (x : ((Option Nat) × Int32 × Int32 × Int32 × Int32) ⊕ (Int32)) (σ1 : Hp) (h : s_X4_isWordAt_b3 l0 l1 l2 l3 l4 σ = some (x, σ1)) (hI : ∀ v, x = Sum.inl v → (fun (v : (Option Nat) × Int32 × Int32 × Int32 × Int32) (σ : Hp) => G E X 0 0 3 [(0, tR ((v.1))), (1, tI ((v.2.1))), (2, tI ((v.2.2.1))), (3, tI ((v.2.2.2.1))), (4, tI ((v.2.2.2.2)))] [] σ) v σ1) (hO : ∀ e, x = Sum.inr e → KE e σ1) : G E X 0 0 3 [(0, tR (l0)), (1, tI (l1)), (2, tI (l2)), (3, tI (l3)), (4, tI (l4))] [] σ := by
  unfold s_X4_isWordAt_b3 at h
  obtain ⟨kS, kV, hq⟩ := hE.2.2.2.2
  refine g_iload (pc := 3) C 4 dX4_isWordAt_3 rfl ?_
  refine g_bipush (v := 6) (pc := 5) C dX4_isWordAt_5 (by decide) ?_
  refine g_icmp_ge (pc := 7) C 67 dX4_isWordAt_7 (by decide) (fun c7 => ?_) (fun c7 => ?_)
  · have h := zif_t c7 h
    refine g_iconst (v := 1) (pc := 67) C dX4_isWordAt_67 (by decide) ?_
    obtain ⟨rfl, rfl⟩ := zsome h
    exact g_zret (pc := 68) C rfl (e_ret _ _ (hO _ rfl)) (by decide) (by rw [hxn]; rfl) (by rw [hxn]; rfl) dX4_isWordAt_68
  · have h := zif_f c7 h
    refine g_iload_n (pc := 10) C 3 3 dX4_isWordAt_10 rfl rfl ?_
    refine g_iload (pc := 11) C 4 dX4_isWordAt_11 rfl ?_
    refine g_iadd (pc := 13) C dX4_isWordAt_13 ?_
    refine g_ldcS (pc := 14) C hq dX4_isWordAt_14 ?_
    refine g_callA (pc := 16) (av := []) C hq rfl (c_length hE hq) yv_J0_length_8abf5 ml_X4_117 rfl (rf_of (by decide)) rfl (Nat.le_of_ble_eq_true rfl) dX4_isWordAt_16 ?_
    refine g_icmp_ge (pc := 19) C 67 dX4_isWordAt_19 (by decide) (fun c6 => ?_) (fun c6 => ?_)
    · have h := zif_t c6 h
      refine g_iconst (v := 1) (pc := 67) C dX4_isWordAt_67 (by decide) ?_
      obtain ⟨rfl, rfl⟩ := zsome h
      exact g_zret (pc := 68) C rfl (e_ret _ _ (hO _ rfl)) (by decide) (by rw [hxn]; rfl) (by rw [hxn]; rfl) dX4_isWordAt_68
    · have h := zif_f c6 h
      refine g_iload_n (pc := 22) C 1 1 dX4_isWordAt_22 rfl rfl ?_
      refine g_iload (pc := 23) C 4 dX4_isWordAt_23 rfl ?_
      refine g_iadd (pc := 25) C dX4_isWordAt_25 ?_
      refine g_iload_n (pc := 26) C 2 2 dX4_isWordAt_26 rfl rfl ?_
      refine g_icmp_ge (pc := 27) C 41 dX4_isWordAt_27 (by decide) (fun c5 => ?_) (fun c5 => ?_)
      · have h := zif_t c5 h
        refine g_bipush (v := 32) (pc := 41) C dX4_isWordAt_41 (by decide) ?_
        exact w_X4_isWordAt_j43 hE C hxn e_ret _ _ _ _ _ _ _ _ _ h hI hO
      · have h := zif_f c5 h
        refine g_aload_n (pc := 30) C 0 0 dX4_isWordAt_30 rfl rfl ?_
        refine g_iload_n (pc := 31) C 1 1 dX4_isWordAt_31 rfl rfl ?_
        refine g_iload (pc := 32) C 4 dX4_isWordAt_32 rfl ?_
        refine g_iadd (pc := 34) C dX4_isWordAt_34 ?_
        obtain ⟨a1, hqa1, h9⟩ := zbind h
        clear h
        subst hqa1
        have h := h9
        clear h9
        obtain ⟨u2, hvu2, h⟩ := zbind h
        obtain ⟨v4, σ3, hvσ3, h⟩ := zcb h
        refine g_callV (pc := 35) (av := [tI (l1 + l4)]) C (c_X6_byteAt hE hvσ3) yv_X6_byteAt ml_X4_80 ck_6 (zopt hvu2).1 rfl (rf_of (by decide)) rfl (Nat.le_of_ble_eq_true rfl) dX4_isWordAt_35 ?_
        refine g_goto (pc := 38) C 43 dX4_isWordAt_38 (by decide) ?_
        exact w_X4_isWordAt_j43 hE C hxn e_ret _ _ _ _ _ _ _ _ _ h hI hO
theorem w_X4_isWordAt_l3 {E : E0} (hE : EOK E) {X : X0} (C : XOK E X cX4_isWordAt RX4 6 (some .boolean) rm_X4_isWordAt) (hxn : xn X = (rm_X4_isWordAt.cells, rm_X4_isWordAt.slots)) {KE : (Int32) → Hp → Prop} (e_ret : ∀ (r : Int32) (σ : Hp), KE (r) σ → xd X = (some (tI r), σ)) {v : (Option Nat) × Int32 × Int32 × Int32 × Int32} {σ : Hp} {e : Int32} {σ1 : Hp} (h : s_X4_isWordAt_l3 v σ = some (e, σ1)) (hO : KE e σ1) : G E X 0 0 3 [(0, tR ((v.1))), (1, tI ((v.2.1))), (2, tI ((v.2.2.1))), (3, tI ((v.2.2.2.1))), (4, tI ((v.2.2.2.2)))] [] σ := loopF_ind (P := fun (v : (Option Nat) × Int32 × Int32 × Int32 × Int32) (σ : Hp) => G E X 0 0 3 [(0, tR ((v.1))), (1, tI ((v.2.1))), (2, tI ((v.2.2.1))), (3, tI ((v.2.2.2.1))), (4, tI ((v.2.2.2.2)))] [] σ) (KE := KE) (fun v σ x σ1 h hI hO => w_X4_isWordAt_b3 hE C hxn e_ret (v.1) (v.2.1) (v.2.2.1) (v.2.2.2.1) (v.2.2.2.2) σ x σ1 h hI hO) v σ e σ1 h hO
noncomputable def s_X4_isWordAt (p0 : Option Nat) (p1 : Int32) (p2 : Int32) (p3 : Int32) (σ : Hp) : Option (Int32 × Hp) :=
  cb (s_X4_isWordAt_l3 ((p0), (p1), (p2), (p3), (0)) σ) fun r2 σ3 =>
  some (r2, σ3)
set_option maxRecDepth 100000 in
theorem c_X4_isWordAt {E : E0} (hE : EOK E) {p0 : Option Nat} {p1 : Int32} {p2 : Int32} {p3 : Int32} {σ σ1 : Hp} {r : Int32} (h : s_X4_isWordAt p0 p1 p2 p3 σ = some (r, σ1)) : CT E yX4_isWordAt (.code yX4_isWordAt cX4_isWordAt 6 (some .boolean)) rm_X4_isWordAt [tR (p0), tI (p1), tI (p2), tI (p3)] σ (some (tI r)) σ1 := by
  refine CT.mk hE (by decide +kernel) (Nat.le_of_ble_eq_true rfl) [(0, tR (p0)), (1, tI (p1)), (2, tI (p2)), (3, tI (p3))] rfl (fun X C hin hx hxn => ?_)
  have C : XOK E X cX4_isWordAt RX4 6 (some .boolean) rm_X4_isWordAt := C
  unfold s_X4_isWordAt at h
  obtain ⟨kS, kV, hq⟩ := hE.2.2.2.2
  refine g_iconst (v := 0) (pc := 0) C dX4_isWordAt_0 (by decide) ?_
  refine g_istore (lm' := [(4, tI (0)), (0, tR (p0)), (1, tI (p1)), (2, tI (p2)), (3, tI (p3))]) (pc := 1) C dX4_isWordAt_1 (by decide) rfl ?_
  refine g_sub [1, 2, 3, 4, 0] (lm' := [(0, tR (p0)), (1, tI (p1)), (2, tI (p2)), (3, tI (p3)), (4, tI (0))]) rfl ?_
  obtain ⟨KQ, hKQ, r2, σ3, hlr2, h⟩ := zcbK h
  refine w_X4_isWordAt_l3 (KE := KQ) hE C hxn ?_ hlr2 h
  · intro r2 σ1 h
    have h := (hKQ _ _).mp h
    obtain ⟨rfl, rfl⟩ := zsome h
    exact hx
def rm_X4_wordAt : Room := { frames := 5, cells := 0, slots := 0, locals := 155 }
noncomputable def s_X4_wordAt_b14 (l0 : Option Nat) (l1 : Int32) (l2 : Int32) (l3 : Int32) (σ : Hp) : Option ((((Option Nat) × Int32 × Int32 × Int32) ⊕ (Int32)) × Hp) :=
  if 168 ≤ (l3 * 6) then
    some (Sum.inr (257), σ)
  else
    cb (s_X4_isWordAt (l0) (l1) (l2) (l3 * 6) σ) fun v2 σ1 =>
    if v2 = 0 then
      some (Sum.inl ((l0), (l1), (l2), (l3 + 1)), σ1)
    else
      some (Sum.inr (300 + l3), σ1)
noncomputable def s_X4_wordAt_l14 : ((Option Nat) × Int32 × Int32 × Int32) → Hp → Option ((Int32) × Hp) := loopF (fun v => s_X4_wordAt_b14 (v.1) (v.2.1) (v.2.2.1) (v.2.2.2))
set_option maxRecDepth 100000 in
theorem w_X4_wordAt_b14 {E : E0} (hE : EOK E) {X : X0} (C : XOK E X cX4_wordAt RX4 4 (some .int) rm_X4_wordAt) (hxn : xn X = (rm_X4_wordAt.cells, rm_X4_wordAt.slots)) {KE : (Int32) → Hp → Prop} (e_ret : ∀ (r : Int32) (σ : Hp), KE (r) σ → xd X = (some (tI r), σ)) (l0 : Option Nat) (l1 : Int32) (l2 : Int32) (l3 : Int32) (σ : Hp) (x : ((Option Nat) × Int32 × Int32 × Int32) ⊕ (Int32)) (σ1 : Hp) (h : s_X4_wordAt_b14 l0 l1 l2 l3 σ = some (x, σ1)) (hI : ∀ v, x = Sum.inl v → (fun (v : (Option Nat) × Int32 × Int32 × Int32) (σ : Hp) => G E X 0 0 14 [(0, tR ((v.1))), (1, tI ((v.2.1))), (2, tI ((v.2.2.1))), (3, tI ((v.2.2.2)))] [] σ) v σ1) (hO : ∀ e, x = Sum.inr e → KE e σ1) : G E X 0 0 14 [(0, tR (l0)), (1, tI (l1)), (2, tI (l2)), (3, tI (l3))] [] σ := by
  unfold s_X4_wordAt_b14 at h
  obtain ⟨kS, kV, hq⟩ := hE.2.2.2.2
  refine g_iload_n (pc := 14) C 3 3 dX4_wordAt_14 rfl rfl ?_
  refine g_bipush (v := 6) (pc := 15) C dX4_wordAt_15 (by decide) ?_
  refine g_imul (pc := 17) C dX4_wordAt_17 ?_
  refine g_ldcS (pc := 18) C hq dX4_wordAt_18 ?_
  refine g_callA (pc := 20) (av := []) C hq rfl (c_length hE hq) yv_J0_length_8abf5 ml_X4_117 rfl (rf_of (by decide)) rfl (Nat.le_of_ble_eq_true rfl) dX4_wordAt_20 ?_
  refine g_icmp_ge (pc := 23) C 51 dX4_wordAt_23 (by decide) (fun c4 => ?_) (fun c4 => ?_)
  · have h := zif_t c4 h
    refine g_sipush (v := 257) (pc := 51) C dX4_wordAt_51 (by decide) ?_
    obtain ⟨rfl, rfl⟩ := zsome h
    exact g_iret (pc := 54) C rfl (e_ret _ _ (hO _ rfl)) (by rw [hxn]; rfl) (by rw [hxn]; rfl) dX4_wordAt_54
  · have h := zif_f c4 h
    refine g_aload_n (pc := 26) C 0 0 dX4_wordAt_26 rfl rfl ?_
    refine g_iload_n (pc := 27) C 1 1 dX4_wordAt_27 rfl rfl ?_
    refine g_iload_n (pc := 28) C 2 2 dX4_wordAt_28 rfl rfl ?_
    refine g_iload_n (pc := 29) C 3 3 dX4_wordAt_29 rfl rfl ?_
    refine g_bipush (v := 6) (pc := 30) C dX4_wordAt_30 (by decide) ?_
    refine g_imul (pc := 32) C dX4_wordAt_32 ?_
    obtain ⟨v2, σ1, hvσ1, h⟩ := zcb h
    refine g_callS (pc := 33) (av := [tR (l0), tI (l1), tI (l2), tI (l3 * 6)]) C (c_X4_isWordAt hE hvσ1) ys_X4_isWordAt ml_X4_122 rfl (rf_of (by decide)) rfl (Nat.le_of_ble_eq_true rfl) dX4_wordAt_33 ?_
    refine g_if_eq (pc := 36) C 45 dX4_wordAt_36 (by decide) (fun c3 => ?_) (fun c3 => ?_)
    · have h := zif_t c3 h
      refine g_iinc (lm' := [(3, tI (l3 + 1)), (0, tR (l0)), (1, tI (l1)), (2, tI (l2))]) (v := l3 + 1) (pc := 45) C 3 dX4_wordAt_45 rfl rfl (by decide) rfl ?_
      refine g_goto (pc := 48) C 14 dX4_wordAt_48 (by decide) ?_
      refine g_sub [1, 2, 3, 0] (lm' := [(0, tR (l0)), (1, tI (l1)), (2, tI (l2)), (3, tI (l3 + 1))]) rfl ?_
      obtain ⟨rfl, rfl⟩ := zsome h
      exact hI _ rfl
    · have h := zif_f c3 h
      refine g_sipush (v := 300) (pc := 39) C dX4_wordAt_39 (by decide) ?_
      refine g_iload_n (pc := 42) C 3 3 dX4_wordAt_42 rfl rfl ?_
      refine g_iadd (pc := 43) C dX4_wordAt_43 ?_
      obtain ⟨rfl, rfl⟩ := zsome h
      exact g_iret (pc := 44) C rfl (e_ret _ _ (hO _ rfl)) (by rw [hxn]; rfl) (by rw [hxn]; rfl) dX4_wordAt_44
theorem w_X4_wordAt_l14 {E : E0} (hE : EOK E) {X : X0} (C : XOK E X cX4_wordAt RX4 4 (some .int) rm_X4_wordAt) (hxn : xn X = (rm_X4_wordAt.cells, rm_X4_wordAt.slots)) {KE : (Int32) → Hp → Prop} (e_ret : ∀ (r : Int32) (σ : Hp), KE (r) σ → xd X = (some (tI r), σ)) {v : (Option Nat) × Int32 × Int32 × Int32} {σ : Hp} {e : Int32} {σ1 : Hp} (h : s_X4_wordAt_l14 v σ = some (e, σ1)) (hO : KE e σ1) : G E X 0 0 14 [(0, tR ((v.1))), (1, tI ((v.2.1))), (2, tI ((v.2.2.1))), (3, tI ((v.2.2.2)))] [] σ := loopF_ind (P := fun (v : (Option Nat) × Int32 × Int32 × Int32) (σ : Hp) => G E X 0 0 14 [(0, tR ((v.1))), (1, tI ((v.2.1))), (2, tI ((v.2.2.1))), (3, tI ((v.2.2.2)))] [] σ) (KE := KE) (fun v σ x σ1 h hI hO => w_X4_wordAt_b14 hE C hxn e_ret (v.1) (v.2.1) (v.2.2.1) (v.2.2.2) σ x σ1 h hI hO) v σ e σ1 h hO
noncomputable def s_X4_wordAt (p0 : Option Nat) (p1 : Int32) (p2 : Int32) (σ : Hp) : Option (Int32 × Hp) :=
  if (p2 - p1) ≤ 6 then
    cb (s_X4_wordAt_l14 ((p0), (p1), (p2), (0)) σ) fun r2 σ3 =>
    some (r2, σ3)
  else
    some ((257), σ)
set_option maxRecDepth 100000 in
theorem c_X4_wordAt {E : E0} (hE : EOK E) {p0 : Option Nat} {p1 : Int32} {p2 : Int32} {σ σ1 : Hp} {r : Int32} (h : s_X4_wordAt p0 p1 p2 σ = some (r, σ1)) : CT E yX4_wordAt (.code yX4_wordAt cX4_wordAt 4 (some .int)) rm_X4_wordAt [tR (p0), tI (p1), tI (p2)] σ (some (tI r)) σ1 := by
  refine CT.mk hE (by decide +kernel) (Nat.le_of_ble_eq_true rfl) [(0, tR (p0)), (1, tI (p1)), (2, tI (p2))] rfl (fun X C hin hx hxn => ?_)
  have C : XOK E X cX4_wordAt RX4 4 (some .int) rm_X4_wordAt := C
  unfold s_X4_wordAt at h
  obtain ⟨kS, kV, hq⟩ := hE.2.2.2.2
  refine g_iload_n (pc := 0) C 2 2 dX4_wordAt_0 rfl rfl ?_
  refine g_iload_n (pc := 1) C 1 1 dX4_wordAt_1 rfl rfl ?_
  refine g_isub (pc := 2) C dX4_wordAt_2 ?_
  refine g_bipush (v := 6) (pc := 3) C dX4_wordAt_3 (by decide) ?_
  refine g_icmp_le (pc := 5) C 12 dX4_wordAt_5 (by decide) (fun c5 => ?_) (fun c5 => ?_)
  · have h := zif_t c5 h
    refine g_iconst (v := 0) (pc := 12) C dX4_wordAt_12 (by decide) ?_
    refine g_istore_n (lm' := [(3, tI (0)), (0, tR (p0)), (1, tI (p1)), (2, tI (p2))]) (pc := 13) C 3 dX4_wordAt_13 rfl (by decide) rfl ?_
    refine g_sub [1, 2, 3, 0] (lm' := [(0, tR (p0)), (1, tI (p1)), (2, tI (p2)), (3, tI (0))]) rfl ?_
    obtain ⟨KQ, hKQ, r2, σ3, hlr2, h⟩ := zcbK h
    refine w_X4_wordAt_l14 (KE := KQ) hE C hxn ?_ hlr2 h
    · intro r2 σ1 h
      have h := (hKQ _ _).mp h
      obtain ⟨rfl, rfl⟩ := zsome h
      exact hx
  · have h := zif_f c5 h
    refine g_sipush (v := 257) (pc := 8) C dX4_wordAt_8 (by decide) ?_
    obtain ⟨rfl, rfl⟩ := zsome h
    exact g_iret (pc := 11) C rfl hx (by rw [hxn]; rfl) (by rw [hxn]; rfl) dX4_wordAt_11
def rm_X4_cutIntoTokens : Room := { frames := 6, cells := 0, slots := 0, locals := 178 }
noncomputable def s_X4_cutIntoTokens_j92 (h0 : Nat) (l1 : Option Nat) (l2 : Int32) (l3 : Int32) (l5 : Int32) (σ : Hp) : Option (((Nat × (Option Nat) × Int32 × Int32) ⊕ ((Nat × Int32))) × Hp) :=
  some (Sum.inl ((h0), (l1), (l2), (if (l3 + 1) < l5 then l5 else (l3 + 1))), σ)
set_option maxRecDepth 100000 in
theorem w_X4_cutIntoTokens_j92 {E : E0} (hE : EOK E) {X : X0} (C : XOK E X cX4_cutIntoTokens RX4 6 none rm_X4_cutIntoTokens) (hxn : xn X = (rm_X4_cutIntoTokens.cells, rm_X4_cutIntoTokens.slots)) {KE : ((Nat × Int32)) → Hp → Prop} (e_104 : ∀ (h0 : Nat) (l2 : Int32) (σ : Hp), KE ((h0, l2)) σ → G E X 0 0 104 [(0, tR (some (h0))), (2, tI (l2))] [] σ) (h0 : Nat) (l1 : Option Nat) (l2 : Int32) (l3 : Int32) (l5 : Int32) (σ : Hp) (x : (Nat × (Option Nat) × Int32 × Int32) ⊕ ((Nat × Int32))) (σ1 : Hp) (h : s_X4_cutIntoTokens_j92 h0 l1 l2 l3 l5 σ = some (x, σ1)) (hI : ∀ v, x = Sum.inl v → (fun (v : Nat × (Option Nat) × Int32 × Int32) (σ : Hp) => G E X 0 0 7 [(0, tR (some ((v.1)))), (1, tR ((v.2.1))), (2, tI ((v.2.2.1))), (3, tI ((v.2.2.2)))] [] σ) v σ1) (hO : ∀ e, x = Sum.inr e → KE e σ1) : G E X 0 0 92 [(0, tR (some (h0))), (1, tR (l1)), (2, tI (l2)), (3, tI (l3)), (5, tI (l5))] [] σ := by
  unfold s_X4_cutIntoTokens_j92 at h
  refine g_iload_n (pc := 92) C 3 3 dX4_cutIntoTokens_92 rfl rfl ?_
  refine g_iconst (v := 1) (pc := 93) C dX4_cutIntoTokens_93 (by decide) ?_
  refine g_iadd (pc := 94) C dX4_cutIntoTokens_94 ?_
  refine g_iload (pc := 95) C 4 dX4_cutIntoTokens_95 rfl ?_
  refine g_mmax (pc := 97) C ml_X4_106 ⟨Nat.le_of_ble_eq_true rfl, Nat.le_of_ble_eq_true rfl⟩ ⟨Nat.le_of_ble_eq_true rfl, Nat.le_of_ble_eq_true rfl⟩ dX4_cutIntoTokens_97 ?_
  refine g_istore_n (lm' := [(3, tI (if (l3 + 1) < l5 then l5 else (l3 + 1))), (0, tR (some (h0))), (1, tR (l1)), (2, tI (l2)), (5, tI (l5))]) (pc := 100) C 3 dX4_cutIntoTokens_100 rfl (by decide) rfl ?_
  refine g_goto (pc := 101) C 7 dX4_cutIntoTokens_101 (by decide) ?_
  refine g_sub [1, 2, 3, 0] (lm' := [(0, tR (some (h0))), (1, tR (l1)), (2, tI (l2)), (3, tI (if (l3 + 1) < l5 then l5 else (l3 + 1)))]) rfl ?_
  obtain ⟨rfl, rfl⟩ := zsome h
  exact hI _ rfl
noncomputable def s_X4_cutIntoTokens_b7 (h0 : Nat) (l1 : Option Nat) (l2 : Int32) (l3 : Int32) (σ : Hp) : Option (((Nat × (Option Nat) × Int32 × Int32) ⊕ ((Nat × Int32))) × Hp) :=
  if l2 ≤ l3 then
    some (Sum.inr ((h0), (l2)), σ)
  else
    (l1).bind fun a1 =>
    (ck 6 σ a1).bind fun u2 =>
    cb (s_X6_byteAt a1 (l3) σ) fun v4 σ3 =>
    cb (s_X4_endOfToken (some (a1)) (l3) (l2) σ3) fun v6 σ5 =>
    cb (s_X4_isLetter (v4) σ5) fun v8 σ7 =>
    if v8 = 0 then
      cb (s_X4_isDigit (v4) σ7) fun v10 σ9 =>
      if v10 = 0 then
        if v4 = 32 then
          s_X4_cutIntoTokens_j92 (h0) (some (a1)) (l2) (l3) (v6) σ9
        else
          (ck 4 σ9 h0).bind fun u11 =>
          cb (s_X4_addToken h0 (v4) (l3) (0) σ9) fun v13 σ12 =>
          s_X4_cutIntoTokens_j92 (h0) (some (a1)) (l2) (l3) (v6) σ12
      else
        cb (s_X4_numberAt (some (a1)) (l3) (v6) σ9) fun v16 σ15 =>
        (ck 4 σ15 h0).bind fun u17 =>
        cb (s_X4_addToken h0 (256) (l3) (v16) σ15) fun v19 σ18 =>
        s_X4_cutIntoTokens_j92 (h0) (some (a1)) (l2) (l3) (v6) σ18
    else
      cb (s_X4_wordAt (some (a1)) (l3) (v6) σ7) fun v22 σ21 =>
      (ck 4 σ21 h0).bind fun u23 =>
      cb (s_X4_addToken h0 (v22) (l3) (0) σ21) fun v25 σ24 =>
      s_X4_cutIntoTokens_j92 (h0) (some (a1)) (l2) (l3) (v6) σ24
noncomputable def s_X4_cutIntoTokens_l7 : (Nat × (Option Nat) × Int32 × Int32) → Hp → Option (((Nat × Int32)) × Hp) := loopF (fun v => s_X4_cutIntoTokens_b7 (v.1) (v.2.1) (v.2.2.1) (v.2.2.2))
set_option maxRecDepth 100000 in
theorem w_X4_cutIntoTokens_b7 {E : E0} (hE : EOK E) {X : X0} (C : XOK E X cX4_cutIntoTokens RX4 6 none rm_X4_cutIntoTokens) (hxn : xn X = (rm_X4_cutIntoTokens.cells, rm_X4_cutIntoTokens.slots)) {KE : ((Nat × Int32)) → Hp → Prop} (e_104 : ∀ (h0 : Nat) (l2 : Int32) (σ : Hp), KE ((h0, l2)) σ → G E X 0 0 104 [(0, tR (some (h0))), (2, tI (l2))] [] σ) (h0 : Nat) (l1 : Option Nat) (l2 : Int32) (l3 : Int32) (σ : Hp) (x : (Nat × (Option Nat) × Int32 × Int32) ⊕ ((Nat × Int32))) (σ1 : Hp) (h : s_X4_cutIntoTokens_b7 h0 l1 l2 l3 σ = some (x, σ1)) (hI : ∀ v, x = Sum.inl v → (fun (v : Nat × (Option Nat) × Int32 × Int32) (σ : Hp) => G E X 0 0 7 [(0, tR (some ((v.1)))), (1, tR ((v.2.1))), (2, tI ((v.2.2.1))), (3, tI ((v.2.2.2)))] [] σ) v σ1) (hO : ∀ e, x = Sum.inr e → KE e σ1) : G E X 0 0 7 [(0, tR (some (h0))), (1, tR (l1)), (2, tI (l2)), (3, tI (l3))] [] σ := by
  unfold s_X4_cutIntoTokens_b7 at h
  refine g_iload_n (pc := 7) C 3 3 dX4_cutIntoTokens_7 rfl rfl ?_
  refine g_iload_n (pc := 8) C 2 2 dX4_cutIntoTokens_8 rfl rfl ?_
  refine g_icmp_ge (pc := 9) C 104 dX4_cutIntoTokens_9 (by decide) (fun c27 => ?_) (fun c27 => ?_)
  · have h := zif_t c27 h
    refine g_sub [0, 2] (lm' := [(0, tR (some (h0))), (2, tI (l2))]) rfl ?_
    obtain ⟨rfl, rfl⟩ := zsome h
    exact e_104 _ _ _ (hO _ rfl)
  · have h := zif_f c27 h
    refine g_aload_n (pc := 12) C 1 1 dX4_cutIntoTokens_12 rfl rfl ?_
    refine g_iload_n (pc := 13) C 3 3 dX4_cutIntoTokens_13 rfl rfl ?_
    obtain ⟨a1, hqa1, h9⟩ := zbind h
    clear h
    subst hqa1
    have h := h9
    clear h9
    obtain ⟨u2, hvu2, h⟩ := zbind h
    obtain ⟨v4, σ3, hvσ3, h⟩ := zcb h
    refine g_callV (pc := 14) (av := [tI (l3)]) C (c_X6_byteAt hE hvσ3) yv_X6_byteAt ml_X4_80 ck_6 (zopt hvu2).1 rfl (rf_of (by decide)) rfl (Nat.le_of_ble_eq_true rfl) dX4_cutIntoTokens_14 ?_
    refine g_istore (lm' := [(4, tI (v4)), (0, tR (some (h0))), (1, tR (some (a1))), (2, tI (l2)), (3, tI (l3))]) (pc := 17) C dX4_cutIntoTokens_17 (by decide) rfl ?_
    refine g_aload_n (pc := 19) C 1 2 dX4_cutIntoTokens_19 rfl rfl ?_
    refine g_iload_n (pc := 20) C 3 4 dX4_cutIntoTokens_20 rfl rfl ?_
    refine g_iload_n (pc := 21) C 2 3 dX4_cutIntoTokens_21 rfl rfl ?_
    obtain ⟨v6, σ5, hvσ5, h⟩ := zcb h
    refine g_callS (pc := 22) (av := [tR (some (a1)), tI (l3), tI (l2)]) C (c_X4_endOfToken hE hvσ5) ys_X4_endOfToken ml_X4_86 rfl (rf_of (by decide)) rfl (Nat.le_of_ble_eq_true rfl) dX4_cutIntoTokens_22 ?_
    refine g_istore (lm' := [(5, tI (v6)), (4, tI (v4)), (0, tR (some (h0))), (1, tR (some (a1))), (2, tI (l2)), (3, tI (l3))]) (pc := 25) C dX4_cutIntoTokens_25 (by decide) rfl ?_
    refine g_iload (pc := 27) C 1 dX4_cutIntoTokens_27 rfl ?_
    obtain ⟨v8, σ7, hvσ7, h⟩ := zcb h
    refine g_callS (pc := 29) (av := [tI (v4)]) C (c_X4_isLetter hE hvσ7) ys_X4_isLetter ml_X4_90 rfl (rf_of (by decide)) rfl (Nat.le_of_ble_eq_true rfl) dX4_cutIntoTokens_29 ?_
    refine g_if_eq (pc := 32) C 51 dX4_cutIntoTokens_32 (by decide) (fun c26 => ?_) (fun c26 => ?_)
    · have h := zif_t c26 h
      refine g_iload (pc := 51) C 1 dX4_cutIntoTokens_51 rfl ?_
      obtain ⟨v10, σ9, hvσ9, h⟩ := zcb h
      refine g_callS (pc := 53) (av := [tI (v4)]) C (c_X4_isDigit hE hvσ9) ys_X4_isDigit ml_X4_100 rfl (rf_of (by decide)) rfl (Nat.le_of_ble_eq_true rfl) dX4_cutIntoTokens_53 ?_
      refine g_if_eq (pc := 56) C 77 dX4_cutIntoTokens_56 (by decide) (fun c20 => ?_) (fun c20 => ?_)
      · have h := zif_t c20 h
        refine g_iload (pc := 77) C 1 dX4_cutIntoTokens_77 rfl ?_
        refine g_bipush (v := 32) (pc := 79) C dX4_cutIntoTokens_79 (by decide) ?_
        refine g_icmp_eq (pc := 81) C 92 dX4_cutIntoTokens_81 (by decide) (fun c14 => ?_) (fun c14 => ?_)
        · have h := zif_t c14 h
          refine g_sub [2, 3, 4, 5, 0] (lm' := [(0, tR (some (h0))), (1, tR (some (a1))), (2, tI (l2)), (3, tI (l3)), (5, tI (v6))]) rfl ?_
          exact w_X4_cutIntoTokens_j92 hE C hxn e_104 _ _ _ _ _ _ _ _ h hI hO
        · have h := zif_f c14 h
          refine g_aload_n (pc := 84) C 0 2 dX4_cutIntoTokens_84 rfl rfl ?_
          refine g_iload (pc := 85) C 1 dX4_cutIntoTokens_85 rfl ?_
          refine g_iload_n (pc := 87) C 3 5 dX4_cutIntoTokens_87 rfl rfl ?_
          refine g_iconst (v := 0) (pc := 88) C dX4_cutIntoTokens_88 (by decide) ?_
          obtain ⟨u11, hvu11, h⟩ := zbind h
          obtain ⟨v13, σ12, hvσ12, h⟩ := zcb h
          refine g_callV (pc := 89) (av := [tI (v4), tI (l3), tI (0)]) C (c_X4_addToken hE hvσ12) yv_X4_addToken ml_X4_96 ck_4 (zopt hvu11).1 rfl (rf_of (by decide)) rfl (Nat.le_of_ble_eq_true rfl) dX4_cutIntoTokens_89 ?_
          refine g_sub [2, 3, 4, 5, 0] (lm' := [(0, tR (some (h0))), (1, tR (some (a1))), (2, tI (l2)), (3, tI (l3)), (5, tI (v6))]) rfl ?_
          exact w_X4_cutIntoTokens_j92 hE C hxn e_104 _ _ _ _ _ _ _ _ h hI hO
      · have h := zif_f c20 h
        refine g_aload_n (pc := 59) C 0 2 dX4_cutIntoTokens_59 rfl rfl ?_
        refine g_sipush (v := 256) (pc := 60) C dX4_cutIntoTokens_60 (by decide) ?_
        refine g_iload_n (pc := 63) C 3 5 dX4_cutIntoTokens_63 rfl rfl ?_
        refine g_aload_n (pc := 64) C 1 3 dX4_cutIntoTokens_64 rfl rfl ?_
        refine g_iload_n (pc := 65) C 3 5 dX4_cutIntoTokens_65 rfl rfl ?_
        refine g_iload (pc := 66) C 0 dX4_cutIntoTokens_66 rfl ?_
        obtain ⟨v16, σ15, hvσ15, h⟩ := zcb h
        refine g_callS (pc := 68) (av := [tR (some (a1)), tI (l3), tI (v6)]) C (c_X4_numberAt hE hvσ15) ys_X4_numberAt ml_X4_103 rfl (rf_of (by decide)) rfl (Nat.le_of_ble_eq_true rfl) dX4_cutIntoTokens_68 ?_
        obtain ⟨u17, hvu17, h⟩ := zbind h
        obtain ⟨v19, σ18, hvσ18, h⟩ := zcb h
        refine g_callV (pc := 71) (av := [tI (256), tI (l3), tI (v16)]) C (c_X4_addToken hE hvσ18) yv_X4_addToken ml_X4_96 ck_4 (zopt hvu17).1 rfl (rf_of (by decide)) rfl (Nat.le_of_ble_eq_true rfl) dX4_cutIntoTokens_71 ?_
        refine g_goto (pc := 74) C 92 dX4_cutIntoTokens_74 (by decide) ?_
        refine g_sub [2, 3, 4, 5, 0] (lm' := [(0, tR (some (h0))), (1, tR (some (a1))), (2, tI (l2)), (3, tI (l3)), (5, tI (v6))]) rfl ?_
        exact w_X4_cutIntoTokens_j92 hE C hxn e_104 _ _ _ _ _ _ _ _ h hI hO
    · have h := zif_f c26 h
      refine g_aload_n (pc := 35) C 0 2 dX4_cutIntoTokens_35 rfl rfl ?_
      refine g_aload_n (pc := 36) C 1 3 dX4_cutIntoTokens_36 rfl rfl ?_
      refine g_iload_n (pc := 37) C 3 5 dX4_cutIntoTokens_37 rfl rfl ?_
      refine g_iload (pc := 38) C 0 dX4_cutIntoTokens_38 rfl ?_
      obtain ⟨v22, σ21, hvσ21, h⟩ := zcb h
      refine g_callS (pc := 40) (av := [tR (some (a1)), tI (l3), tI (v6)]) C (c_X4_wordAt hE hvσ21) ys_X4_wordAt ml_X4_93 rfl (rf_of (by decide)) rfl (Nat.le_of_ble_eq_true rfl) dX4_cutIntoTokens_40 ?_
      refine g_iload_n (pc := 43) C 3 5 dX4_cutIntoTokens_43 rfl rfl ?_
      refine g_iconst (v := 0) (pc := 44) C dX4_cutIntoTokens_44 (by decide) ?_
      obtain ⟨u23, hvu23, h⟩ := zbind h
      obtain ⟨v25, σ24, hvσ24, h⟩ := zcb h
      refine g_callV (pc := 45) (av := [tI (v22), tI (l3), tI (0)]) C (c_X4_addToken hE hvσ24) yv_X4_addToken ml_X4_96 ck_4 (zopt hvu23).1 rfl (rf_of (by decide)) rfl (Nat.le_of_ble_eq_true rfl) dX4_cutIntoTokens_45 ?_
      refine g_goto (pc := 48) C 92 dX4_cutIntoTokens_48 (by decide) ?_
      refine g_sub [2, 3, 4, 5, 0] (lm' := [(0, tR (some (h0))), (1, tR (some (a1))), (2, tI (l2)), (3, tI (l3)), (5, tI (v6))]) rfl ?_
      exact w_X4_cutIntoTokens_j92 hE C hxn e_104 _ _ _ _ _ _ _ _ h hI hO
theorem w_X4_cutIntoTokens_l7 {E : E0} (hE : EOK E) {X : X0} (C : XOK E X cX4_cutIntoTokens RX4 6 none rm_X4_cutIntoTokens) (hxn : xn X = (rm_X4_cutIntoTokens.cells, rm_X4_cutIntoTokens.slots)) {KE : ((Nat × Int32)) → Hp → Prop} (e_104 : ∀ (h0 : Nat) (l2 : Int32) (σ : Hp), KE ((h0, l2)) σ → G E X 0 0 104 [(0, tR (some (h0))), (2, tI (l2))] [] σ) {v : Nat × (Option Nat) × Int32 × Int32} {σ : Hp} {e : (Nat × Int32)} {σ1 : Hp} (h : s_X4_cutIntoTokens_l7 v σ = some (e, σ1)) (hO : KE e σ1) : G E X 0 0 7 [(0, tR (some ((v.1)))), (1, tR ((v.2.1))), (2, tI ((v.2.2.1))), (3, tI ((v.2.2.2)))] [] σ := loopF_ind (P := fun (v : Nat × (Option Nat) × Int32 × Int32) (σ : Hp) => G E X 0 0 7 [(0, tR (some ((v.1)))), (1, tR ((v.2.1))), (2, tI ((v.2.2.1))), (3, tI ((v.2.2.2)))] [] σ) (KE := KE) (fun v σ x σ1 h hI hO => w_X4_cutIntoTokens_b7 hE C hxn e_104 (v.1) (v.2.1) (v.2.2.1) (v.2.2.2) σ x σ1 h hI hO) v σ e σ1 h hO
noncomputable def s_X4_cutIntoTokens (h0 : Nat) (p1 : Option Nat) (p2 : Int32) (σ : Hp) : Option (Unit × Hp) :=
  (wrI 4 σ h0 5 (0)).bind fun σ1 =>
  cb (s_X4_cutIntoTokens_l7 ((h0), (p1), (p2), (0)) σ1) fun e15 σ14 =>
  match e15 with
  | (h2, l23) =>
    (rdR 4 σ14 h2 0).bind fun r5 =>
    (rdI 4 σ14 h2 5).bind fun v6 =>
    (r5).bind fun a7 =>
    (stI σ14 a7 (v6) (258)).bind fun σ8 =>
    (rdR 4 σ8 h2 1).bind fun r9 =>
    (rdI 4 σ8 h2 5).bind fun v10 =>
    (r9).bind fun a11 =>
    (stI σ8 a11 (v10) (l23)).bind fun σ12 =>
    some ((), σ12)
set_option maxRecDepth 100000 in
theorem c_X4_cutIntoTokens {E : E0} (hE : EOK E) {h0 : Nat} {p1 : Option Nat} {p2 : Int32} {σ σ1 : Hp} {r : Unit} (h : s_X4_cutIntoTokens h0 p1 p2 σ = some (r, σ1)) : CT E yX4_cutIntoTokens (.code yX4_cutIntoTokens cX4_cutIntoTokens 6 none) rm_X4_cutIntoTokens [tR (some (h0)), tR (p1), tI (p2)] σ none σ1 := by
  refine CT.mk hE (by decide +kernel) (Nat.le_of_ble_eq_true rfl) [(0, tR (some (h0))), (1, tR (p1)), (2, tI (p2))] rfl (fun X C hin hx hxn => ?_)
  have C : XOK E X cX4_cutIntoTokens RX4 6 none rm_X4_cutIntoTokens := C
  unfold s_X4_cutIntoTokens at h
  refine g_aload_n (pc := 0) C 0 0 dX4_cutIntoTokens_0 rfl rfl ?_
  refine g_iconst (v := 0) (pc := 1) C dX4_cutIntoTokens_1 (by decide) ?_
  obtain ⟨σ1, hvσ1, h⟩ := zbind h
  refine g_putI (N := 12) (pc := 2) C ⟨ck_4, rfl, tyX4_ok⟩ hvσ1 rfl fl_X4_77 rfl rfl dX4_cutIntoTokens_2 ?_
  refine g_iconst (v := 0) (pc := 5) C dX4_cutIntoTokens_5 (by decide) ?_
  refine g_istore_n (lm' := [(3, tI (0)), (0, tR (some (h0))), (1, tR (p1)), (2, tI (p2))]) (pc := 6) C 3 dX4_cutIntoTokens_6 rfl (by decide) rfl ?_
  refine g_sub [1, 2, 3, 0] (lm' := [(0, tR (some (h0))), (1, tR (p1)), (2, tI (p2)), (3, tI (0))]) rfl ?_
  obtain ⟨KQ, hKQ, e15, σ14, hle15, h⟩ := zcbK h
  refine w_X4_cutIntoTokens_l7 (KE := KQ) hE C hxn ?_ hle15 h
  · intro h2 l23 σ4 h
    have h := (hKQ _ _).mp h
    refine g_aload_n (pc := 104) C 0 0 dX4_cutIntoTokens_104 rfl rfl ?_
    obtain ⟨r5, hvr5, h⟩ := zbind h
    refine g_getR (N := 12) (pc := 105) C ck_4 hvr5 rfl rfl fl_X4_9 dX4_cutIntoTokens_105 ?_
    refine g_aload_n (pc := 108) C 0 0 dX4_cutIntoTokens_108 rfl rfl ?_
    obtain ⟨v6, hvv6, h⟩ := zbind h
    refine g_getI (N := 12) (pc := 109) C ck_4 hvv6 rfl rfl fl_X4_77 dX4_cutIntoTokens_109 ?_
    refine g_sipush (v := 258) (pc := 112) C dX4_cutIntoTokens_112 (by decide) ?_
    obtain ⟨a7, hqa7, h9⟩ := zbind h
    clear h
    subst hqa7
    have h := h9
    clear h9
    obtain ⟨σ8, hvσ8, h⟩ := zbind h
    refine g_iast (pc := 115) C hvσ8 dX4_cutIntoTokens_115 ?_
    refine g_aload_n (pc := 116) C 0 0 dX4_cutIntoTokens_116 rfl rfl ?_
    obtain ⟨r9, hvr9, h⟩ := zbind h
    refine g_getR (N := 12) (pc := 117) C ck_4 hvr9 rfl rfl fl_X4_15 dX4_cutIntoTokens_117 ?_
    refine g_aload_n (pc := 120) C 0 0 dX4_cutIntoTokens_120 rfl rfl ?_
    obtain ⟨v10, hvv10, h⟩ := zbind h
    refine g_getI (N := 12) (pc := 121) C ck_4 hvv10 rfl rfl fl_X4_77 dX4_cutIntoTokens_121 ?_
    refine g_iload_n (pc := 124) C 2 1 dX4_cutIntoTokens_124 rfl rfl ?_
    obtain ⟨a11, hqa11, h9⟩ := zbind h
    clear h
    subst hqa11
    have h := h9
    clear h9
    obtain ⟨σ12, hvσ12, h⟩ := zbind h
    refine g_iast (pc := 125) C hvσ12 dX4_cutIntoTokens_125 ?_
    obtain ⟨rfl, rfl⟩ := zsome h
    exact g_vret (pc := 126) C rfl hx (by rw [hxn]; rfl) (by rw [hxn]; rfl) dX4_cutIntoTokens_126
def rm_X4_readClause : Room := { frames := 91, cells := 0, slots := 0, locals := 3424 }
noncomputable def s_X4_readClause_j37 (h0 : Nat) (σ : Hp) : Option (Int32 × Hp) :=
  (ck 4 σ h0).bind fun u1 =>
  cb (s_X4_fail h0 σ) fun v3 σ2 =>
  (zbo (v3)).bind fun u4 =>
  some ((v3), σ2)
set_option maxRecDepth 100000 in
theorem w_X4_readClause_j37 {E : E0} (hE : EOK E) {X : X0} (C : XOK E X cX4_readClause RX4 4 (some .boolean) rm_X4_readClause) (hxn : xn X = (rm_X4_readClause.cells, rm_X4_readClause.slots)) (h0 : Nat) (σ : Hp) (r : Int32) (σ1 : Hp) (h : s_X4_readClause_j37 h0 σ = some (r, σ1)) (hx : xd X = (some (tI r), σ1)) : G E X 0 0 37 [(0, tR (some (h0)))] [] σ := by
  unfold s_X4_readClause_j37 at h
  refine g_aload_n (pc := 37) C 0 0 dX4_readClause_37 rfl rfl ?_
  obtain ⟨u1, hvu1, h⟩ := zbind h
  obtain ⟨v3, σ2, hvσ2, h⟩ := zcb h
  refine g_callV (pc := 38) (av := []) C (c_X4_fail hE hvσ2) yv_X4_fail ml_X4_74 ck_4 (zopt hvu1).1 rfl (rf_of (by decide)) rfl (Nat.le_of_ble_eq_true rfl) dX4_readClause_38 ?_
  obtain ⟨u4, hvu4, h⟩ := zbind h
  obtain ⟨rfl, rfl⟩ := zsome h
  exact g_zret (pc := 41) C rfl hx (zbo_h hvu4) (by rw [hxn]; rfl) (by rw [hxn]; rfl) dX4_readClause_41
noncomputable def s_X4_readClause_j244 (h0 : Nat) (l2 : Int32) (σ : Hp) : Option (Int32 × Hp) :=
  (rdR 4 σ h0 4).bind fun r1 =>
  (rdI 4 σ h0 7).bind fun v2 =>
  (r1).bind fun a3 =>
  (stI σ a3 (l2 + 4) (v2)).bind fun σ4 =>
  (rdI 4 σ4 h0 8).bind fun v5 =>
  (wrI 4 σ4 h0 8 (v5 + 1)).bind fun σ6 =>
  some ((1), σ6)
set_option maxRecDepth 100000 in
theorem w_X4_readClause_j244 {E : E0} (hE : EOK E) {X : X0} (C : XOK E X cX4_readClause RX4 4 (some .boolean) rm_X4_readClause) (hxn : xn X = (rm_X4_readClause.cells, rm_X4_readClause.slots)) (h0 : Nat) (l2 : Int32) (σ : Hp) (r : Int32) (σ1 : Hp) (h : s_X4_readClause_j244 h0 l2 σ = some (r, σ1)) (hx : xd X = (some (tI r), σ1)) : G E X 0 0 244 [(0, tR (some (h0))), (2, tI (l2))] [] σ := by
  unfold s_X4_readClause_j244 at h
  refine g_aload_n (pc := 244) C 0 0 dX4_readClause_244 rfl rfl ?_
  obtain ⟨r1, hvr1, h⟩ := zbind h
  refine g_getR (N := 12) (pc := 245) C ck_4 hvr1 rfl rfl fl_X4_24 dX4_readClause_245 ?_
  refine g_iload_n (pc := 248) C 2 1 dX4_readClause_248 rfl rfl ?_
  refine g_iconst (v := 4) (pc := 249) C dX4_readClause_249 (by decide) ?_
  refine g_iadd (pc := 250) C dX4_readClause_250 ?_
  refine g_aload_n (pc := 251) C 0 0 dX4_readClause_251 rfl rfl ?_
  obtain ⟨v2, hvv2, h⟩ := zbind h
  refine g_getI (N := 12) (pc := 252) C ck_4 hvv2 rfl rfl fl_X4_38 dX4_readClause_252 ?_
  obtain ⟨a3, hqa3, h9⟩ := zbind h
  clear h
  subst hqa3
  have h := h9
  clear h9
  obtain ⟨σ4, hvσ4, h⟩ := zbind h
  refine g_iast (pc := 255) C hvσ4 dX4_readClause_255 ?_
  refine g_aload_n (pc := 256) C 0 0 dX4_readClause_256 rfl rfl ?_
  refine g_dup (pc := 257) C dX4_readClause_257 rfl ?_
  obtain ⟨v5, hvv5, h⟩ := zbind h
  refine g_getI (N := 12) (pc := 258) C ck_4 hvv5 rfl rfl fl_X4_41 dX4_readClause_258 ?_
  refine g_iconst (v := 1) (pc := 261) C dX4_readClause_261 (by decide) ?_
  refine g_iadd (pc := 262) C dX4_readClause_262 ?_
  obtain ⟨σ6, hvσ6, h⟩ := zbind h
  refine g_putI (N := 12) (pc := 263) C ⟨ck_4, rfl, tyX4_ok⟩ hvσ6 rfl fl_X4_41 rfl rfl dX4_readClause_263 ?_
  refine g_iconst (v := 1) (pc := 266) C dX4_readClause_266 (by decide) ?_
  obtain ⟨rfl, rfl⟩ := zsome h
  exact g_zret (pc := 267) C rfl hx (by decide) (by rw [hxn]; rfl) (by rw [hxn]; rfl) dX4_readClause_267
noncomputable def s_X4_readClause_j211 (h0 : Nat) (l2 : Int32) (σ : Hp) : Option (Int32 × Hp) :=
  (ck 4 σ h0).bind fun u1 =>
  cb (s_X4_kind h0 σ) fun v3 σ2 =>
  if v3 = 303 then
    (rdI 4 σ2 h0 6).bind fun v4 =>
    (wrI 4 σ2 h0 6 (v4 + 1)).bind fun σ5 =>
    (ck 4 σ5 h0).bind fun u6 =>
    cb (s_parse 80 0 h0 (304) (0) σ5) fun v8 σ7 =>
    if v8 = 0 then
      some ((0), σ7)
    else
      s_X4_readClause_j244 (h0) (l2) σ7
  else
    s_X4_readClause_j244 (h0) (l2) σ2
set_option maxRecDepth 100000 in
theorem w_X4_readClause_j211 {E : E0} (hE : EOK E) {X : X0} (C : XOK E X cX4_readClause RX4 4 (some .boolean) rm_X4_readClause) (hxn : xn X = (rm_X4_readClause.cells, rm_X4_readClause.slots)) (h0 : Nat) (l2 : Int32) (σ : Hp) (r : Int32) (σ1 : Hp) (h : s_X4_readClause_j211 h0 l2 σ = some (r, σ1)) (hx : xd X = (some (tI r), σ1)) : G E X 0 0 211 [(0, tR (some (h0))), (2, tI (l2))] [] σ := by
  unfold s_X4_readClause_j211 at h
  refine g_aload_n (pc := 211) C 0 0 dX4_readClause_211 rfl rfl ?_
  obtain ⟨u1, hvu1, h⟩ := zbind h
  obtain ⟨v3, σ2, hvσ2, h⟩ := zcb h
  refine g_callV (pc := 212) (av := []) C (c_X4_kind hE hvσ2) yv_X4_kind ml_X4_55 ck_4 (zopt hvu1).1 rfl (rf_of (by decide)) rfl (Nat.le_of_ble_eq_true rfl) dX4_readClause_212 ?_
  refine g_sipush (v := 303) (pc := 215) C dX4_readClause_215 (by decide) ?_
  refine g_icmp_ne (pc := 218) C 244 dX4_readClause_218 (by decide) (fun c10 => ?_) (fun c10 => ?_)
  · have h := zif_f c10 h
    exact w_X4_readClause_j244 hE C hxn _ _ _ _ _ h hx
  · have h := zif_t c10 h
    refine g_aload_n (pc := 221) C 0 0 dX4_readClause_221 rfl rfl ?_
    refine g_dup (pc := 222) C dX4_readClause_222 rfl ?_
    obtain ⟨v4, hvv4, h⟩ := zbind h
    refine g_getI (N := 12) (pc := 223) C ck_4 hvv4 rfl rfl fl_X4_35 dX4_readClause_223 ?_
    refine g_iconst (v := 1) (pc := 226) C dX4_readClause_226 (by decide) ?_
    refine g_iadd (pc := 227) C dX4_readClause_227 ?_
    obtain ⟨σ5, hvσ5, h⟩ := zbind h
    refine g_putI (N := 12) (pc := 228) C ⟨ck_4, rfl, tyX4_ok⟩ hvσ5 rfl fl_X4_35 rfl rfl dX4_readClause_228 ?_
    refine g_aload_n (pc := 231) C 0 0 dX4_readClause_231 rfl rfl ?_
    refine g_sipush (v := 304) (pc := 232) C dX4_readClause_232 (by decide) ?_
    refine g_iconst (v := 0) (pc := 235) C dX4_readClause_235 (by decide) ?_
    obtain ⟨u6, hvu6, h⟩ := zbind h
    obtain ⟨v8, σ7, hvσ7, h⟩ := zcb h
    refine g_callV (pc := 236) (av := [tI (304), tI (0)]) C ((c_parse hE 80).t0 hvσ7) yv_X4_readTest ml_X4_146 ck_4 (zopt hvu6).1 rfl (rf_of (by decide)) rfl (Nat.le_of_ble_eq_true rfl) dX4_readClause_236 ?_
    refine g_if_ne (pc := 239) C 244 dX4_readClause_239 (by decide) (fun c9 => ?_) (fun c9 => ?_)
    · have h := zif_f c9 h
      exact w_X4_readClause_j244 hE C hxn _ _ _ _ _ h hx
    · have h := zif_t c9 h
      refine g_iconst (v := 0) (pc := 242) C dX4_readClause_242 (by decide) ?_
      obtain ⟨rfl, rfl⟩ := zsome h
      exact g_zret (pc := 243) C rfl hx (by decide) (by rw [hxn]; rfl) (by rw [hxn]; rfl) dX4_readClause_243
noncomputable def s_X4_readClause_j139 (h0 : Nat) (l2 : Int32) (σ : Hp) : Option (Int32 × Hp) :=
  (rdR 4 σ h0 4).bind fun r1 =>
  (rdI 4 σ h0 7).bind fun v2 =>
  (r1).bind fun a3 =>
  (stI σ a3 (l2 + 3) (v2)).bind fun σ4 =>
  (rdR 4 σ4 h0 4).bind fun r5 =>
  (r5).bind fun a6 =>
  (stI σ4 a6 (l2 + 5) (1)).bind fun σ7 =>
  (rdI 4 σ7 h0 10).bind fun v8 =>
  if v8 = 0 then
    (ck 4 σ7 h0).bind fun u9 =>
    cb (s_X4_kind h0 σ7) fun v11 σ10 =>
    if v11 = 323 then
      (rdI 4 σ10 h0 6).bind fun v12 =>
      (wrI 4 σ10 h0 6 (v12 + 1)).bind fun σ13 =>
      (rdR 4 σ13 h0 4).bind fun r14 =>
      (ck 4 σ13 h0).bind fun u15 =>
      cb (s_X4_numberNow h0 σ13) fun v17 σ16 =>
      (r14).bind fun a18 =>
      (stI σ16 a18 (l2 + 5) (v17)).bind fun σ19 =>
      (ck 4 σ19 h0).bind fun u20 =>
      cb (s_X4_takeNumber h0 (1) (20) σ19) fun v22 σ21 =>
      if v22 = 0 then
        some ((0), σ21)
      else
        s_X4_readClause_j211 (h0) (l2) σ21
    else
      s_X4_readClause_j211 (h0) (l2) σ10
  else
    s_X4_readClause_j211 (h0) (l2) σ7
set_option maxRecDepth 100000 in
theorem w_X4_readClause_j139 {E : E0} (hE : EOK E) {X : X0} (C : XOK E X cX4_readClause RX4 4 (some .boolean) rm_X4_readClause) (hxn : xn X = (rm_X4_readClause.cells, rm_X4_readClause.slots)) (h0 : Nat) (l2 : Int32) (σ : Hp) (r : Int32) (σ1 : Hp) (h : s_X4_readClause_j139 h0 l2 σ = some (r, σ1)) (hx : xd X = (some (tI r), σ1)) : G E X 0 0 139 [(0, tR (some (h0))), (2, tI (l2))] [] σ := by
  unfold s_X4_readClause_j139 at h
  refine g_aload_n (pc := 139) C 0 0 dX4_readClause_139 rfl rfl ?_
  obtain ⟨r1, hvr1, h⟩ := zbind h
  refine g_getR (N := 12) (pc := 140) C ck_4 hvr1 rfl rfl fl_X4_24 dX4_readClause_140 ?_
  refine g_iload_n (pc := 143) C 2 1 dX4_readClause_143 rfl rfl ?_
  refine g_iconst (v := 3) (pc := 144) C dX4_readClause_144 (by decide) ?_
  refine g_iadd (pc := 145) C dX4_readClause_145 ?_
  refine g_aload_n (pc := 146) C 0 0 dX4_readClause_146 rfl rfl ?_
  obtain ⟨v2, hvv2, h⟩ := zbind h
  refine g_getI (N := 12) (pc := 147) C ck_4 hvv2 rfl rfl fl_X4_38 dX4_readClause_147 ?_
  obtain ⟨a3, hqa3, h9⟩ := zbind h
  clear h
  subst hqa3
  have h := h9
  clear h9
  obtain ⟨σ4, hvσ4, h⟩ := zbind h
  refine g_iast (pc := 150) C hvσ4 dX4_readClause_150 ?_
  refine g_aload_n (pc := 151) C 0 0 dX4_readClause_151 rfl rfl ?_
  obtain ⟨r5, hvr5, h⟩ := zbind h
  refine g_getR (N := 12) (pc := 152) C ck_4 hvr5 rfl rfl fl_X4_24 dX4_readClause_152 ?_
  refine g_iload_n (pc := 155) C 2 1 dX4_readClause_155 rfl rfl ?_
  refine g_iconst (v := 5) (pc := 156) C dX4_readClause_156 (by decide) ?_
  refine g_iadd (pc := 157) C dX4_readClause_157 ?_
  refine g_iconst (v := 1) (pc := 158) C dX4_readClause_158 (by decide) ?_
  obtain ⟨a6, hqa6, h9⟩ := zbind h
  clear h
  subst hqa6
  have h := h9
  clear h9
  obtain ⟨σ7, hvσ7, h⟩ := zbind h
  refine g_iast (pc := 159) C hvσ7 dX4_readClause_159 ?_
  refine g_aload_n (pc := 160) C 0 0 dX4_readClause_160 rfl rfl ?_
  obtain ⟨v8, hvv8, h⟩ := zbind h
  refine g_getI (N := 12) (pc := 161) C ck_4 hvv8 rfl rfl fl_X4_31 dX4_readClause_161 ?_
  refine g_if_ne (pc := 164) C 211 dX4_readClause_164 (by decide) (fun c25 => ?_) (fun c25 => ?_)
  · have h := zif_f c25 h
    exact w_X4_readClause_j211 hE C hxn _ _ _ _ _ h hx
  · have h := zif_t c25 h
    refine g_aload_n (pc := 167) C 0 0 dX4_readClause_167 rfl rfl ?_
    obtain ⟨u9, hvu9, h⟩ := zbind h
    obtain ⟨v11, σ10, hvσ10, h⟩ := zcb h
    refine g_callV (pc := 168) (av := []) C (c_X4_kind hE hvσ10) yv_X4_kind ml_X4_55 ck_4 (zopt hvu9).1 rfl (rf_of (by decide)) rfl (Nat.le_of_ble_eq_true rfl) dX4_readClause_168 ?_
    refine g_sipush (v := 323) (pc := 171) C dX4_readClause_171 (by decide) ?_
    refine g_icmp_ne (pc := 174) C 211 dX4_readClause_174 (by decide) (fun c24 => ?_) (fun c24 => ?_)
    · have h := zif_f c24 h
      exact w_X4_readClause_j211 hE C hxn _ _ _ _ _ h hx
    · have h := zif_t c24 h
      refine g_aload_n (pc := 177) C 0 0 dX4_readClause_177 rfl rfl ?_
      refine g_dup (pc := 178) C dX4_readClause_178 rfl ?_
      obtain ⟨v12, hvv12, h⟩ := zbind h
      refine g_getI (N := 12) (pc := 179) C ck_4 hvv12 rfl rfl fl_X4_35 dX4_readClause_179 ?_
      refine g_iconst (v := 1) (pc := 182) C dX4_readClause_182 (by decide) ?_
      refine g_iadd (pc := 183) C dX4_readClause_183 ?_
      obtain ⟨σ13, hvσ13, h⟩ := zbind h
      refine g_putI (N := 12) (pc := 184) C ⟨ck_4, rfl, tyX4_ok⟩ hvσ13 rfl fl_X4_35 rfl rfl dX4_readClause_184 ?_
      refine g_aload_n (pc := 187) C 0 0 dX4_readClause_187 rfl rfl ?_
      obtain ⟨r14, hvr14, h⟩ := zbind h
      refine g_getR (N := 12) (pc := 188) C ck_4 hvr14 rfl rfl fl_X4_24 dX4_readClause_188 ?_
      refine g_iload_n (pc := 191) C 2 1 dX4_readClause_191 rfl rfl ?_
      refine g_iconst (v := 5) (pc := 192) C dX4_readClause_192 (by decide) ?_
      refine g_iadd (pc := 193) C dX4_readClause_193 ?_
      refine g_aload_n (pc := 194) C 0 0 dX4_readClause_194 rfl rfl ?_
      obtain ⟨u15, hvu15, h⟩ := zbind h
      obtain ⟨v17, σ16, hvσ16, h⟩ := zcb h
      refine g_callV (pc := 195) (av := []) C (c_X4_numberNow hE hvσ16) yv_X4_numberNow ml_X4_140 ck_4 (zopt hvu15).1 rfl (rf_of (by decide)) rfl (Nat.le_of_ble_eq_true rfl) dX4_readClause_195 ?_
      obtain ⟨a18, hqa18, h9⟩ := zbind h
      clear h
      subst hqa18
      have h := h9
      clear h9
      obtain ⟨σ19, hvσ19, h⟩ := zbind h
      refine g_iast (pc := 198) C hvσ19 dX4_readClause_198 ?_
      refine g_aload_n (pc := 199) C 0 0 dX4_readClause_199 rfl rfl ?_
      refine g_iconst (v := 1) (pc := 200) C dX4_readClause_200 (by decide) ?_
      refine g_bipush (v := 20) (pc := 201) C dX4_readClause_201 (by decide) ?_
      obtain ⟨u20, hvu20, h⟩ := zbind h
      obtain ⟨v22, σ21, hvσ21, h⟩ := zcb h
      refine g_callV (pc := 203) (av := [tI (1), tI (20)]) C (c_X4_takeNumber hE hvσ21) yv_X4_takeNumber ml_X4_143 ck_4 (zopt hvu20).1 rfl (rf_of (by decide)) rfl (Nat.le_of_ble_eq_true rfl) dX4_readClause_203 ?_
      refine g_if_ne (pc := 206) C 211 dX4_readClause_206 (by decide) (fun c23 => ?_) (fun c23 => ?_)
      · have h := zif_f c23 h
        exact w_X4_readClause_j211 hE C hxn _ _ _ _ _ h hx
      · have h := zif_t c23 h
        refine g_iconst (v := 0) (pc := 209) C dX4_readClause_209 (by decide) ?_
        obtain ⟨rfl, rfl⟩ := zsome h
        exact g_zret (pc := 210) C rfl hx (by decide) (by rw [hxn]; rfl) (by rw [hxn]; rfl) dX4_readClause_210
noncomputable def s_X4_readClause_j98 (h0 : Nat) (l1 : Int32) (l2 : Int32) (σ : Hp) : Option (Int32 × Hp) :=
  (rdR 4 σ h0 4).bind fun r1 =>
  (rdI 4 σ h0 7).bind fun v2 =>
  (r1).bind fun a3 =>
  (stI σ a3 (l2 + 2) (v2)).bind fun σ4 =>
  cb (s_X4_linkOf (l1) σ4) fun v6 σ5 =>
  if v6 = (-1) then
    s_X4_readClause_j139 (h0) (l2) σ5
  else
    (ck 4 σ5 h0).bind fun u7 =>
    cb (s_X4_take h0 (v6) σ5) fun v9 σ8 =>
    if v9 = 0 then
      some ((0), σ8)
    else
      (ck 4 σ8 h0).bind fun u10 =>
      cb (s_parse 80 2 h0 (0) (0) σ8) fun v12 σ11 =>
      if v12 = 0 then
        some ((0), σ11)
      else
        s_X4_readClause_j139 (h0) (l2) σ11
set_option maxRecDepth 100000 in
theorem w_X4_readClause_j98 {E : E0} (hE : EOK E) {X : X0} (C : XOK E X cX4_readClause RX4 4 (some .boolean) rm_X4_readClause) (hxn : xn X = (rm_X4_readClause.cells, rm_X4_readClause.slots)) (h0 : Nat) (l1 : Int32) (l2 : Int32) (σ : Hp) (r : Int32) (σ1 : Hp) (h : s_X4_readClause_j98 h0 l1 l2 σ = some (r, σ1)) (hx : xd X = (some (tI r), σ1)) : G E X 0 0 98 [(0, tR (some (h0))), (1, tI (l1)), (2, tI (l2))] [] σ := by
  unfold s_X4_readClause_j98 at h
  refine g_aload_n (pc := 98) C 0 0 dX4_readClause_98 rfl rfl ?_
  obtain ⟨r1, hvr1, h⟩ := zbind h
  refine g_getR (N := 12) (pc := 99) C ck_4 hvr1 rfl rfl fl_X4_24 dX4_readClause_99 ?_
  refine g_iload_n (pc := 102) C 2 2 dX4_readClause_102 rfl rfl ?_
  refine g_iconst (v := 2) (pc := 103) C dX4_readClause_103 (by decide) ?_
  refine g_iadd (pc := 104) C dX4_readClause_104 ?_
  refine g_aload_n (pc := 105) C 0 0 dX4_readClause_105 rfl rfl ?_
  obtain ⟨v2, hvv2, h⟩ := zbind h
  refine g_getI (N := 12) (pc := 106) C ck_4 hvv2 rfl rfl fl_X4_38 dX4_readClause_106 ?_
  obtain ⟨a3, hqa3, h9⟩ := zbind h
  clear h
  subst hqa3
  have h := h9
  clear h9
  obtain ⟨σ4, hvσ4, h⟩ := zbind h
  refine g_iast (pc := 109) C hvσ4 dX4_readClause_109 ?_
  refine g_iload_n (pc := 110) C 1 1 dX4_readClause_110 rfl rfl ?_
  obtain ⟨v6, σ5, hvσ5, h⟩ := zcb h
  refine g_callS (pc := 111) (av := [tI (l1)]) C (c_X4_linkOf hE hvσ5) ys_X4_linkOf ml_X4_137 rfl (rf_of (by decide)) rfl (Nat.le_of_ble_eq_true rfl) dX4_readClause_111 ?_
  refine g_istore_n (lm' := [(3, tI (v6)), (0, tR (some (h0))), (1, tI (l1)), (2, tI (l2))]) (pc := 114) C 3 dX4_readClause_114 rfl (by decide) rfl ?_
  refine g_iload_n (pc := 115) C 3 0 dX4_readClause_115 rfl rfl ?_
  refine g_iconst (v := (-1)) (pc := 116) C dX4_readClause_116 (by decide) ?_
  refine g_icmp_eq (pc := 117) C 139 dX4_readClause_117 (by decide) (fun c15 => ?_) (fun c15 => ?_)
  · have h := zif_t c15 h
    refine g_sub [1, 3] (lm' := [(0, tR (some (h0))), (2, tI (l2))]) rfl ?_
    exact w_X4_readClause_j139 hE C hxn _ _ _ _ _ h hx
  · have h := zif_f c15 h
    refine g_aload_n (pc := 120) C 0 1 dX4_readClause_120 rfl rfl ?_
    refine g_iload_n (pc := 121) C 3 0 dX4_readClause_121 rfl rfl ?_
    obtain ⟨u7, hvu7, h⟩ := zbind h
    obtain ⟨v9, σ8, hvσ8, h⟩ := zcb h
    refine g_callV (pc := 122) (av := [tI (v6)]) C (c_X4_take hE hvσ8) yv_X4_take ml_X4_70 ck_4 (zopt hvu7).1 rfl (rf_of (by decide)) rfl (Nat.le_of_ble_eq_true rfl) dX4_readClause_122 ?_
    refine g_if_eq (pc := 125) C 137 dX4_readClause_125 (by decide) (fun c14 => ?_) (fun c14 => ?_)
    · have h := zif_t c14 h
      refine g_iconst (v := 0) (pc := 137) C dX4_readClause_137 (by decide) ?_
      obtain ⟨rfl, rfl⟩ := zsome h
      exact g_zret (pc := 138) C rfl hx (by decide) (by rw [hxn]; rfl) (by rw [hxn]; rfl) dX4_readClause_138
    · have h := zif_f c14 h
      refine g_aload_n (pc := 128) C 0 1 dX4_readClause_128 rfl rfl ?_
      refine g_iconst (v := 0) (pc := 129) C dX4_readClause_129 (by decide) ?_
      refine g_iconst (v := 0) (pc := 130) C dX4_readClause_130 (by decide) ?_
      obtain ⟨u10, hvu10, h⟩ := zbind h
      obtain ⟨v12, σ11, hvσ11, h⟩ := zcb h
      refine g_callV (pc := 131) (av := [tI (0), tI (0)]) C ((c_parse hE 80).t2 hvσ11) yv_X4_readSum ml_X4_133 ck_4 (zopt hvu10).1 rfl (rf_of (by decide)) rfl (Nat.le_of_ble_eq_true rfl) dX4_readClause_131 ?_
      refine g_if_ne (pc := 134) C 139 dX4_readClause_134 (by decide) (fun c13 => ?_) (fun c13 => ?_)
      · have h := zif_f c13 h
        refine g_sub [1, 3] (lm' := [(0, tR (some (h0))), (2, tI (l2))]) rfl ?_
        exact w_X4_readClause_j139 hE C hxn _ _ _ _ _ h hx
      · have h := zif_t c13 h
        refine g_iconst (v := 0) (pc := 137) C dX4_readClause_137 (by decide) ?_
        obtain ⟨rfl, rfl⟩ := zsome h
        exact g_zret (pc := 138) C rfl hx (by decide) (by rw [hxn]; rfl) (by rw [hxn]; rfl) dX4_readClause_138
noncomputable def s_X4_readClause (h0 : Nat) (σ : Hp) : Option (Int32 × Hp) :=
  (ck 4 σ h0).bind fun u1 =>
  cb (s_X4_kind h0 σ) fun v3 σ2 =>
  (rdI 4 σ2 h0 8).bind fun v4 =>
  (ck 4 σ2 h0).bind fun u5 =>
  cb (s_X4_beginsClause h0 (v3) σ2) fun v7 σ6 =>
  if v7 = 0 then
    s_X4_readClause_j37 (h0) σ6
  else
    if (v4 * 6) < 0 then
      s_X4_readClause_j37 (h0) σ6
    else
      (rdR 4 σ6 h0 4).bind fun r8 =>
      (r8).bind fun a9 =>
      (lnA 11 σ6 a9).bind fun v10 =>
      if ((v4 * 6) + 6) ≤ v10 then
        (rdI 4 σ6 h0 6).bind fun v11 =>
        (wrI 4 σ6 h0 6 (v11 + 1)).bind fun σ12 =>
        (rdR 4 σ12 h0 4).bind fun r13 =>
        (r13).bind fun a14 =>
        (stI σ12 a14 ((v4 * 6) + 0) (v3)).bind fun σ15 =>
        (rdR 4 σ15 h0 4).bind fun r16 =>
        (rdI 4 σ15 h0 7).bind fun v17 =>
        (r16).bind fun a18 =>
        (stI σ15 a18 ((v4 * 6) + 1) (v17)).bind fun σ19 =>
        if v3 = 302 then
          s_X4_readClause_j98 (h0) (v3) (v4 * 6) σ19
        else
          if v3 = 322 then
            s_X4_readClause_j98 (h0) (v3) (v4 * 6) σ19
          else
            (ck 4 σ19 h0).bind fun u20 =>
            cb (s_parse 80 2 h0 (0) (0) σ19) fun v22 σ21 =>
            if v22 = 0 then
              some ((0), σ21)
            else
              s_X4_readClause_j98 (h0) (v3) (v4 * 6) σ21
      else
        s_X4_readClause_j37 (h0) σ6
set_option maxRecDepth 100000 in
theorem c_X4_readClause {E : E0} (hE : EOK E) {h0 : Nat} {σ σ1 : Hp} {r : Int32} (h : s_X4_readClause h0 σ = some (r, σ1)) : CT E yX4_readClause (.code yX4_readClause cX4_readClause 4 (some .boolean)) rm_X4_readClause [tR (some (h0))] σ (some (tI r)) σ1 := by
  refine CT.mk hE (by decide +kernel) (Nat.le_of_ble_eq_true rfl) [(0, tR (some (h0)))] rfl (fun X C hin hx hxn => ?_)
  have C : XOK E X cX4_readClause RX4 4 (some .boolean) rm_X4_readClause := C
  unfold s_X4_readClause at h
  refine g_aload_n (pc := 0) C 0 0 dX4_readClause_0 rfl rfl ?_
  obtain ⟨u1, hvu1, h⟩ := zbind h
  obtain ⟨v3, σ2, hvσ2, h⟩ := zcb h
  refine g_callV (pc := 1) (av := []) C (c_X4_kind hE hvσ2) yv_X4_kind ml_X4_55 ck_4 (zopt hvu1).1 rfl (rf_of (by decide)) rfl (Nat.le_of_ble_eq_true rfl) dX4_readClause_1 ?_
  refine g_istore_n (lm' := [(1, tI (v3)), (0, tR (some (h0)))]) (pc := 4) C 1 dX4_readClause_4 rfl (by decide) rfl ?_
  refine g_aload_n (pc := 5) C 0 1 dX4_readClause_5 rfl rfl ?_
  obtain ⟨v4, hvv4, h⟩ := zbind h
  refine g_getI (N := 12) (pc := 6) C ck_4 hvv4 rfl rfl fl_X4_41 dX4_readClause_6 ?_
  refine g_bipush (v := 6) (pc := 9) C dX4_readClause_9 (by decide) ?_
  refine g_imul (pc := 11) C dX4_readClause_11 ?_
  refine g_istore_n (lm' := [(2, tI (v4 * 6)), (1, tI (v3)), (0, tR (some (h0)))]) (pc := 12) C 2 dX4_readClause_12 rfl (by decide) rfl ?_
  refine g_aload_n (pc := 13) C 0 2 dX4_readClause_13 rfl rfl ?_
  refine g_iload_n (pc := 14) C 1 1 dX4_readClause_14 rfl rfl ?_
  obtain ⟨u5, hvu5, h⟩ := zbind h
  obtain ⟨v7, σ6, hvσ6, h⟩ := zcb h
  refine g_callV (pc := 15) (av := [tI (v3)]) C (c_X4_beginsClause hE hvσ6) yv_X4_beginsClause ml_X4_130 ck_4 (zopt hvu5).1 rfl (rf_of (by decide)) rfl (Nat.le_of_ble_eq_true rfl) dX4_readClause_15 ?_
  refine g_if_eq (pc := 18) C 37 dX4_readClause_18 (by decide) (fun c28 => ?_) (fun c28 => ?_)
  · have h := zif_t c28 h
    refine g_sub [2] (lm' := [(0, tR (some (h0)))]) rfl ?_
    exact w_X4_readClause_j37 hE C hxn _ _ _ _ h hx
  · have h := zif_f c28 h
    refine g_iload_n (pc := 21) C 2 0 dX4_readClause_21 rfl rfl ?_
    refine g_if_lt (pc := 22) C 37 dX4_readClause_22 (by decide) (fun c27 => ?_) (fun c27 => ?_)
    · have h := zif_t c27 h
      refine g_sub [2] (lm' := [(0, tR (some (h0)))]) rfl ?_
      exact w_X4_readClause_j37 hE C hxn _ _ _ _ h hx
    · have h := zif_f c27 h
      refine g_iload_n (pc := 25) C 2 0 dX4_readClause_25 rfl rfl ?_
      refine g_bipush (v := 6) (pc := 26) C dX4_readClause_26 (by decide) ?_
      refine g_iadd (pc := 28) C dX4_readClause_28 ?_
      refine g_aload_n (pc := 29) C 0 2 dX4_readClause_29 rfl rfl ?_
      obtain ⟨r8, hvr8, h⟩ := zbind h
      refine g_getR (N := 12) (pc := 30) C ck_4 hvr8 rfl rfl fl_X4_24 dX4_readClause_30 ?_
      obtain ⟨a9, hqa9, h9⟩ := zbind h
      clear h
      subst hqa9
      have h := h9
      clear h9
      obtain ⟨v10, hvv10, h⟩ := zbind h
      refine g_alen (c := 11) (pc := 33) C (by decide) hvv10 dX4_readClause_33 ?_
      refine g_icmp_le (pc := 34) C 42 dX4_readClause_34 (by decide) (fun c26 => ?_) (fun c26 => ?_)
      · have h := zif_t c26 h
        refine g_aload_n (pc := 42) C 0 2 dX4_readClause_42 rfl rfl ?_
        refine g_dup (pc := 43) C dX4_readClause_43 rfl ?_
        obtain ⟨v11, hvv11, h⟩ := zbind h
        refine g_getI (N := 12) (pc := 44) C ck_4 hvv11 rfl rfl fl_X4_35 dX4_readClause_44 ?_
        refine g_iconst (v := 1) (pc := 47) C dX4_readClause_47 (by decide) ?_
        refine g_iadd (pc := 48) C dX4_readClause_48 ?_
        obtain ⟨σ12, hvσ12, h⟩ := zbind h
        refine g_putI (N := 12) (pc := 49) C ⟨ck_4, rfl, tyX4_ok⟩ hvσ12 rfl fl_X4_35 rfl rfl dX4_readClause_49 ?_
        refine g_aload_n (pc := 52) C 0 2 dX4_readClause_52 rfl rfl ?_
        obtain ⟨r13, hvr13, h⟩ := zbind h
        refine g_getR (N := 12) (pc := 53) C ck_4 hvr13 rfl rfl fl_X4_24 dX4_readClause_53 ?_
        refine g_iload_n (pc := 56) C 2 0 dX4_readClause_56 rfl rfl ?_
        refine g_iconst (v := 0) (pc := 57) C dX4_readClause_57 (by decide) ?_
        refine g_iadd (pc := 58) C dX4_readClause_58 ?_
        refine g_iload_n (pc := 59) C 1 1 dX4_readClause_59 rfl rfl ?_
        obtain ⟨a14, hqa14, h9⟩ := zbind h
        clear h
        subst hqa14
        have h := h9
        clear h9
        obtain ⟨σ15, hvσ15, h⟩ := zbind h
        refine g_iast (pc := 60) C hvσ15 dX4_readClause_60 ?_
        refine g_aload_n (pc := 61) C 0 2 dX4_readClause_61 rfl rfl ?_
        obtain ⟨r16, hvr16, h⟩ := zbind h
        refine g_getR (N := 12) (pc := 62) C ck_4 hvr16 rfl rfl fl_X4_24 dX4_readClause_62 ?_
        refine g_iload_n (pc := 65) C 2 0 dX4_readClause_65 rfl rfl ?_
        refine g_iconst (v := 1) (pc := 66) C dX4_readClause_66 (by decide) ?_
        refine g_iadd (pc := 67) C dX4_readClause_67 ?_
        refine g_aload_n (pc := 68) C 0 2 dX4_readClause_68 rfl rfl ?_
        obtain ⟨v17, hvv17, h⟩ := zbind h
        refine g_getI (N := 12) (pc := 69) C ck_4 hvv17 rfl rfl fl_X4_38 dX4_readClause_69 ?_
        obtain ⟨a18, hqa18, h9⟩ := zbind h
        clear h
        subst hqa18
        have h := h9
        clear h9
        obtain ⟨σ19, hvσ19, h⟩ := zbind h
        refine g_iast (pc := 72) C hvσ19 dX4_readClause_72 ?_
        refine g_iload_n (pc := 73) C 1 1 dX4_readClause_73 rfl rfl ?_
        refine g_sipush (v := 302) (pc := 74) C dX4_readClause_74 (by decide) ?_
        refine g_icmp_eq (pc := 77) C 98 dX4_readClause_77 (by decide) (fun c25 => ?_) (fun c25 => ?_)
        · have h := zif_t c25 h
          refine g_sub [2, 1, 0] (lm' := [(0, tR (some (h0))), (1, tI (v3)), (2, tI (v4 * 6))]) rfl ?_
          exact w_X4_readClause_j98 hE C hxn _ _ _ _ _ _ h hx
        · have h := zif_f c25 h
          refine g_iload_n (pc := 80) C 1 1 dX4_readClause_80 rfl rfl ?_
          refine g_sipush (v := 322) (pc := 81) C dX4_readClause_81 (by decide) ?_
          refine g_icmp_eq (pc := 84) C 98 dX4_readClause_84 (by decide) (fun c24 => ?_) (fun c24 => ?_)
          · have h := zif_t c24 h
            refine g_sub [2, 1, 0] (lm' := [(0, tR (some (h0))), (1, tI (v3)), (2, tI (v4 * 6))]) rfl ?_
            exact w_X4_readClause_j98 hE C hxn _ _ _ _ _ _ h hx
          · have h := zif_f c24 h
            refine g_aload_n (pc := 87) C 0 2 dX4_readClause_87 rfl rfl ?_
            refine g_iconst (v := 0) (pc := 88) C dX4_readClause_88 (by decide) ?_
            refine g_iconst (v := 0) (pc := 89) C dX4_readClause_89 (by decide) ?_
            obtain ⟨u20, hvu20, h⟩ := zbind h
            obtain ⟨v22, σ21, hvσ21, h⟩ := zcb h
            refine g_callV (pc := 90) (av := [tI (0), tI (0)]) C ((c_parse hE 80).t2 hvσ21) yv_X4_readSum ml_X4_133 ck_4 (zopt hvu20).1 rfl (rf_of (by decide)) rfl (Nat.le_of_ble_eq_true rfl) dX4_readClause_90 ?_
            refine g_if_ne (pc := 93) C 98 dX4_readClause_93 (by decide) (fun c23 => ?_) (fun c23 => ?_)
            · have h := zif_f c23 h
              refine g_sub [2, 1, 0] (lm' := [(0, tR (some (h0))), (1, tI (v3)), (2, tI (v4 * 6))]) rfl ?_
              exact w_X4_readClause_j98 hE C hxn _ _ _ _ _ _ h hx
            · have h := zif_t c23 h
              refine g_iconst (v := 0) (pc := 96) C dX4_readClause_96 (by decide) ?_
              obtain ⟨rfl, rfl⟩ := zsome h
              exact g_zret (pc := 97) C rfl hx (by decide) (by rw [hxn]; rfl) (by rw [hxn]; rfl) dX4_readClause_97
      · have h := zif_f c26 h
        refine g_sub [2] (lm' := [(0, tR (some (h0)))]) rfl ?_
        exact w_X4_readClause_j37 hE C hxn _ _ _ _ h hx
def rm_X4_read : Room := { frames := 100, cells := 3, slots := 1203, locals := 4000 }
noncomputable def s_X4_read_b39 (h0 : Nat) (l4 : Int32) (σ : Hp) : Option (((Nat × Int32) ⊕ (Nat ⊕ (Nat ⊕ (Option Nat)))) × Hp) :=
  if 12 ≤ l4 then
    some (Sum.inr (Sum.inl (h0)), σ)
  else
    (ck 4 σ h0).bind fun u1 =>
    cb (s_X4_readClause h0 σ) fun v3 σ2 =>
    if v3 = 0 then
      some (Sum.inr (Sum.inr (Sum.inr (none))), σ2)
    else
      (ck 4 σ2 h0).bind fun u4 =>
      cb (s_X4_kind h0 σ2) fun v6 σ5 =>
      if v6 = 258 then
        some (Sum.inr (Sum.inr (Sum.inl (h0))), σ5)
      else
        (ck 4 σ5 h0).bind fun u7 =>
        cb (s_X4_take h0 (59) σ5) fun v9 σ8 =>
        if v9 = 0 then
          some (Sum.inr (Sum.inr (Sum.inr (none))), σ8)
        else
          some (Sum.inl ((h0), (l4 + 1)), σ8)
noncomputable def s_X4_read_l39 : (Nat × Int32) → Hp → Option ((Nat ⊕ (Nat ⊕ (Option Nat))) × Hp) := loopF (fun v => s_X4_read_b39 (v.1) (v.2))
set_option maxRecDepth 100000 in
theorem w_X4_read_b39 {E : E0} (hE : EOK E) {X : X0} (C : XOK E X cX4_read RX4 5 (some (.object "LowerHalf$Text")) rm_X4_read) (hxn : xn X = (rm_X4_read.cells, rm_X4_read.slots)) {KE : (Nat ⊕ (Nat ⊕ (Option Nat))) → Hp → Prop} (e_119 : ∀ (h0 : Nat) (σ : Hp), KE (Sum.inl h0) σ → G E X 0 0 119 [(0, tR (some (h0)))] [] σ) (e_65 : ∀ (h0 : Nat) (σ : Hp), KE (Sum.inr (Sum.inl h0)) σ → G E X 0 0 65 [(0, tR (some (h0)))] [] σ) (e_ret : ∀ (r : Option Nat) (σ : Hp), KE (Sum.inr (Sum.inr r)) σ → xd X = (some (tR r), σ)) (h0 : Nat) (l4 : Int32) (σ : Hp) (x : (Nat × Int32) ⊕ (Nat ⊕ (Nat ⊕ (Option Nat)))) (σ1 : Hp) (h : s_X4_read_b39 h0 l4 σ = some (x, σ1)) (hI : ∀ v, x = Sum.inl v → (fun (v : Nat × Int32) (σ : Hp) => G E X 0 0 39 [(0, tR (some ((v.1)))), (4, tI ((v.2)))] [] σ) v σ1) (hO : ∀ e, x = Sum.inr e → KE e σ1) : G E X 0 0 39 [(0, tR (some (h0))), (4, tI (l4))] [] σ := by
  unfold s_X4_read_b39 at h
  refine g_iload (pc := 39) C 1 dX4_read_39 rfl ?_
  refine g_bipush (v := 12) (pc := 41) C dX4_read_41 (by decide) ?_
  refine g_icmp_ge (pc := 43) C 119 dX4_read_43 (by decide) (fun c13 => ?_) (fun c13 => ?_)
  · have h := zif_t c13 h
    refine g_sub [0] (lm' := [(0, tR (some (h0)))]) rfl ?_
    obtain ⟨rfl, rfl⟩ := zsome h
    exact e_119 _ _ (hO _ rfl)
  · have h := zif_f c13 h
    refine g_aload_n (pc := 46) C 0 0 dX4_read_46 rfl rfl ?_
    obtain ⟨u1, hvu1, h⟩ := zbind h
    obtain ⟨v3, σ2, hvσ2, h⟩ := zcb h
    refine g_callV (pc := 47) (av := []) C (c_X4_readClause hE hvσ2) yv_X4_readClause ml_X4_51 ck_4 (zopt hvu1).1 rfl (rf_of (by decide)) rfl (Nat.le_of_ble_eq_true rfl) dX4_read_47 ?_
    refine g_if_ne (pc := 50) C 55 dX4_read_50 (by decide) (fun c12 => ?_) (fun c12 => ?_)
    · have h := zif_f c12 h
      refine g_aload_n (pc := 55) C 0 0 dX4_read_55 rfl rfl ?_
      obtain ⟨u4, hvu4, h⟩ := zbind h
      obtain ⟨v6, σ5, hvσ5, h⟩ := zcb h
      refine g_callV (pc := 56) (av := []) C (c_X4_kind hE hvσ5) yv_X4_kind ml_X4_55 ck_4 (zopt hvu4).1 rfl (rf_of (by decide)) rfl (Nat.le_of_ble_eq_true rfl) dX4_read_56 ?_
      refine g_sipush (v := 258) (pc := 59) C dX4_read_59 (by decide) ?_
      refine g_icmp_ne (pc := 62) C 102 dX4_read_62 (by decide) (fun c11 => ?_) (fun c11 => ?_)
      · have h := zif_f c11 h
        refine g_aload_n (pc := 102) C 0 0 dX4_read_102 rfl rfl ?_
        refine g_bipush (v := 59) (pc := 103) C dX4_read_103 (by decide) ?_
        obtain ⟨u7, hvu7, h⟩ := zbind h
        obtain ⟨v9, σ8, hvσ8, h⟩ := zcb h
        refine g_callV (pc := 105) (av := [tI (59)]) C (c_X4_take hE hvσ8) yv_X4_take ml_X4_70 ck_4 (zopt hvu7).1 rfl (rf_of (by decide)) rfl (Nat.le_of_ble_eq_true rfl) dX4_read_105 ?_
        refine g_if_ne (pc := 108) C 113 dX4_read_108 (by decide) (fun c10 => ?_) (fun c10 => ?_)
        · have h := zif_f c10 h
          refine g_iinc (lm' := [(4, tI (l4 + 1)), (0, tR (some (h0)))]) (v := l4 + 1) (pc := 113) C 1 dX4_read_113 rfl rfl (by decide) rfl ?_
          refine g_goto (pc := 116) C 39 dX4_read_116 (by decide) ?_
          refine g_sub [1, 0] (lm' := [(0, tR (some (h0))), (4, tI (l4 + 1))]) rfl ?_
          obtain ⟨rfl, rfl⟩ := zsome h
          exact hI _ rfl
        · have h := zif_t c10 h
          refine g_null (pc := 111) C dX4_read_111 ?_
          obtain ⟨rfl, rfl⟩ := zsome h
          refine g_widen (k := 3) (n := 1203) (by decide) (by decide) ?_
          exact g_aret (pc := 112) C rfl (by first | exact Or.inl ⟨_, rfl⟩ | exact Or.inr ⟨_, rfl⟩) (e_ret _ _ (hO _ rfl)) (by rw [hxn]; rfl) (by rw [hxn]; rfl) dX4_read_112
      · have h := zif_t c11 h
        refine g_sub [0] (lm' := [(0, tR (some (h0)))]) rfl ?_
        obtain ⟨rfl, rfl⟩ := zsome h
        exact e_65 _ _ (hO _ rfl)
    · have h := zif_t c12 h
      refine g_null (pc := 53) C dX4_read_53 ?_
      obtain ⟨rfl, rfl⟩ := zsome h
      refine g_widen (k := 3) (n := 1203) (by decide) (by decide) ?_
      exact g_aret (pc := 54) C rfl (by first | exact Or.inl ⟨_, rfl⟩ | exact Or.inr ⟨_, rfl⟩) (e_ret _ _ (hO _ rfl)) (by rw [hxn]; rfl) (by rw [hxn]; rfl) dX4_read_54
theorem w_X4_read_l39 {E : E0} (hE : EOK E) {X : X0} (C : XOK E X cX4_read RX4 5 (some (.object "LowerHalf$Text")) rm_X4_read) (hxn : xn X = (rm_X4_read.cells, rm_X4_read.slots)) {KE : (Nat ⊕ (Nat ⊕ (Option Nat))) → Hp → Prop} (e_119 : ∀ (h0 : Nat) (σ : Hp), KE (Sum.inl h0) σ → G E X 0 0 119 [(0, tR (some (h0)))] [] σ) (e_65 : ∀ (h0 : Nat) (σ : Hp), KE (Sum.inr (Sum.inl h0)) σ → G E X 0 0 65 [(0, tR (some (h0)))] [] σ) (e_ret : ∀ (r : Option Nat) (σ : Hp), KE (Sum.inr (Sum.inr r)) σ → xd X = (some (tR r), σ)) {v : Nat × Int32} {σ : Hp} {e : Nat ⊕ (Nat ⊕ (Option Nat))} {σ1 : Hp} (h : s_X4_read_l39 v σ = some (e, σ1)) (hO : KE e σ1) : G E X 0 0 39 [(0, tR (some ((v.1)))), (4, tI ((v.2)))] [] σ := loopF_ind (P := fun (v : Nat × Int32) (σ : Hp) => G E X 0 0 39 [(0, tR (some ((v.1)))), (4, tI ((v.2)))] [] σ) (KE := KE) (fun v σ x σ1 h hI hO => w_X4_read_b39 hE C hxn e_119 e_65 e_ret (v.1) (v.2) σ x σ1 h hI hO) v σ e σ1 h hO
noncomputable def s_X4_read (h0 : Nat) (p1 : Option Nat) (p2 : Int32) (p3 : Int32) (σ : Hp) : Option (Option Nat × Hp) :=
  (wrZ 4 σ h0 10 (p3)).bind fun σ1 =>
  (wrI 4 σ1 h0 6 (0)).bind fun σ2 =>
  (wrI 4 σ2 h0 7 (0)).bind fun σ3 =>
  (wrI 4 σ3 h0 8 (0)).bind fun σ4 =>
  (wrI 4 σ4 h0 9 (0)).bind fun σ5 =>
  (wrI 4 σ5 h0 11 ((-1))).bind fun σ6 =>
  (ck 4 σ6 h0).bind fun u7 =>
  cb (s_X4_cutIntoTokens h0 (p1) (p2) σ6) fun v9 σ8 =>
  cb (s_X4_read_l39 ((h0), (0)) σ8) fun e34 σ33 =>
  match e34 with
  | Sum.inl h10 =>
    (ck 4 σ33 h10).bind fun u12 =>
    cb (s_X4_fail h10 σ33) fun v14 σ13 =>
    some ((none), σ13)
  | Sum.inr (Sum.inl h15) =>
    cb (nw 7 0 σ33) fun a18 σ17 =>
    (rdR 4 σ17 h15 3).bind fun r19 =>
    (rdI 4 σ17 h15 7).bind fun v20 =>
    cb (s_J7_copyOf_59c91 (r19) (v20) σ17) fun r22 σ21 =>
    (rdR 4 σ21 h15 4).bind fun r23 =>
    (rdI 4 σ21 h15 8).bind fun v24 =>
    cb (s_J7_copyOf_59c91 (r23) (v24 * 6) σ21) fun r26 σ25 =>
    (rdI 4 σ25 h15 8).bind fun v27 =>
    (ck 7 σ25 a18).bind fun u28 =>
    cb (s_X7_init a18 (r22) (r26) (v27) σ25) fun v30 σ29 =>
    some ((some (a18)), σ29)
  | Sum.inr (Sum.inr r32) =>
    some (r32, σ33)
set_option maxRecDepth 100000 in
theorem c_X4_read {E : E0} (hE : EOK E) {h0 : Nat} {p1 : Option Nat} {p2 : Int32} {p3 : Int32} {σ σ1 : Hp} {r : Option Nat} (h : s_X4_read h0 p1 p2 p3 σ = some (r, σ1)) : CT E yX4_read (.code yX4_read cX4_read 5 (some (.object "LowerHalf$Text"))) rm_X4_read [tR (some (h0)), tR (p1), tI (p2), tI (p3)] σ (some (tR r)) σ1 := by
  refine CT.mk hE (by decide +kernel) (Nat.le_of_ble_eq_true rfl) [(0, tR (some (h0))), (1, tR (p1)), (2, tI (p2)), (3, tI (p3))] rfl (fun X C hin hx hxn => ?_)
  have C : XOK E X cX4_read RX4 5 (some (.object "LowerHalf$Text")) rm_X4_read := C
  unfold s_X4_read at h
  refine g_aload_n (pc := 0) C 0 0 dX4_read_0 rfl rfl ?_
  refine g_iload_n (pc := 1) C 3 3 dX4_read_1 rfl rfl ?_
  obtain ⟨σ1, hvσ1, h⟩ := zbind h
  refine g_putZ (N := 12) (pc := 2) C ⟨ck_4, rfl, tyX4_ok⟩ hvσ1 rfl fl_X4_31 rfl rfl dX4_read_2 ?_
  refine g_aload_n (pc := 5) C 0 0 dX4_read_5 rfl rfl ?_
  refine g_iconst (v := 0) (pc := 6) C dX4_read_6 (by decide) ?_
  obtain ⟨σ2, hvσ2, h⟩ := zbind h
  refine g_putI (N := 12) (pc := 7) C ⟨ck_4, rfl, tyX4_ok⟩ hvσ2 rfl fl_X4_35 rfl rfl dX4_read_7 ?_
  refine g_aload_n (pc := 10) C 0 0 dX4_read_10 rfl rfl ?_
  refine g_iconst (v := 0) (pc := 11) C dX4_read_11 (by decide) ?_
  obtain ⟨σ3, hvσ3, h⟩ := zbind h
  refine g_putI (N := 12) (pc := 12) C ⟨ck_4, rfl, tyX4_ok⟩ hvσ3 rfl fl_X4_38 rfl rfl dX4_read_12 ?_
  refine g_aload_n (pc := 15) C 0 0 dX4_read_15 rfl rfl ?_
  refine g_iconst (v := 0) (pc := 16) C dX4_read_16 (by decide) ?_
  obtain ⟨σ4, hvσ4, h⟩ := zbind h
  refine g_putI (N := 12) (pc := 17) C ⟨ck_4, rfl, tyX4_ok⟩ hvσ4 rfl fl_X4_41 rfl rfl dX4_read_17 ?_
  refine g_aload_n (pc := 20) C 0 0 dX4_read_20 rfl rfl ?_
  refine g_iconst (v := 0) (pc := 21) C dX4_read_21 (by decide) ?_
  obtain ⟨σ5, hvσ5, h⟩ := zbind h
  refine g_putI (N := 12) (pc := 22) C ⟨ck_4, rfl, tyX4_ok⟩ hvσ5 rfl fl_X4_44 rfl rfl dX4_read_22 ?_
  refine g_aload_n (pc := 25) C 0 0 dX4_read_25 rfl rfl ?_
  refine g_iconst (v := (-1)) (pc := 26) C dX4_read_26 (by decide) ?_
  obtain ⟨σ6, hvσ6, h⟩ := zbind h
  refine g_putI (N := 12) (pc := 27) C ⟨ck_4, rfl, tyX4_ok⟩ hvσ6 rfl fl_X4_27 rfl rfl dX4_read_27 ?_
  refine g_aload_n (pc := 30) C 0 0 dX4_read_30 rfl rfl ?_
  refine g_aload_n (pc := 31) C 1 1 dX4_read_31 rfl rfl ?_
  refine g_iload_n (pc := 32) C 2 2 dX4_read_32 rfl rfl ?_
  obtain ⟨u7, hvu7, h⟩ := zbind h
  obtain ⟨v9, σ8, hvσ8, h⟩ := zcb h
  refine g_callV (pc := 33) (av := [tR (p1), tI (p2)]) C (c_X4_cutIntoTokens hE hvσ8) yv_X4_cutIntoTokens ml_X4_47 ck_4 (zopt hvu7).1 rfl (rf_of (by decide)) rfl (Nat.le_of_ble_eq_true rfl) dX4_read_33 ?_
  refine g_iconst (v := 0) (pc := 36) C dX4_read_36 (by decide) ?_
  refine g_istore (lm' := [(4, tI (0)), (0, tR (some (h0))), (1, tR (p1)), (2, tI (p2)), (3, tI (p3))]) (pc := 37) C dX4_read_37 (by decide) rfl ?_
  refine g_sub [1, 0] (lm' := [(0, tR (some (h0))), (4, tI (0))]) rfl ?_
  obtain ⟨KQ, hKQ, e34, σ33, hle34, h⟩ := zcbK h
  refine w_X4_read_l39 (KE := KQ) hE C hxn ?_ ?_ ?_ hle34 h
  · intro h10 σ11 h
    have h := (hKQ _ _).mp h
    refine g_aload_n (pc := 119) C 0 0 dX4_read_119 rfl rfl ?_
    obtain ⟨u12, hvu12, h⟩ := zbind h
    obtain ⟨v14, σ13, hvσ13, h⟩ := zcb h
    refine g_callV (pc := 120) (av := []) C (c_X4_fail hE hvσ13) yv_X4_fail ml_X4_74 ck_4 (zopt hvu12).1 rfl (rf_of (by decide)) rfl (Nat.le_of_ble_eq_true rfl) dX4_read_120 ?_
    refine g_pop (pc := 123) C dX4_read_123 rfl ?_
    refine g_null (pc := 124) C dX4_read_124 ?_
    obtain ⟨rfl, rfl⟩ := zsome h
    refine g_widen (k := 3) (n := 1203) (by decide) (by decide) ?_
    exact g_aret (pc := 125) C rfl (by first | exact Or.inl ⟨_, rfl⟩ | exact Or.inr ⟨_, rfl⟩) hx (by rw [hxn]; rfl) (by rw [hxn]; rfl) dX4_read_125
  · intro h15 σ16 h
    have h := (hKQ _ _).mp h
    obtain ⟨a18, σ17, hvσ17, h⟩ := zcb h
    refine g_new (c := 7) (N := 3) (pc := 65) C ck_7 tyX7 tyX7_ok df_7 cl_X4_59 in_X7 ii_X7 (by decide) (by decide) dX4_read_65 ?_
    rw [← (nw_h hvσ17).2, ← (nw_h hvσ17).1]
    refine g_dup (pc := 68) C dX4_read_68 rfl ?_
    refine g_aload_n (pc := 69) C 0 0 dX4_read_69 rfl rfl ?_
    obtain ⟨r19, hvr19, h⟩ := zbind h
    refine g_getR (N := 12) (pc := 70) C ck_4 hvr19 rfl rfl fl_X4_21 dX4_read_70 ?_
    refine g_aload_n (pc := 73) C 0 0 dX4_read_73 rfl rfl ?_
    obtain ⟨v20, hvv20, h⟩ := zbind h
    refine g_getI (N := 12) (pc := 74) C ck_4 hvv20 rfl rfl fl_X4_38 dX4_read_74 ?_
    obtain ⟨r22, σ21, hvσ21, h⟩ := zcb h
    refine g_callS (pc := 77) (av := [tR (r19), tI (v20)]) C (c_J7_copyOf_59c91 hE hvσ21) ys_J7_copyOf_59c91 ml_X4_61 rfl (rf_of (by decide)) rfl (Nat.le_of_ble_eq_true rfl) dX4_read_77 ?_
    refine g_aload_n (pc := 80) C 0 0 dX4_read_80 rfl rfl ?_
    obtain ⟨r23, hvr23, h⟩ := zbind h
    refine g_getR (N := 12) (pc := 81) C ck_4 hvr23 rfl rfl fl_X4_24 dX4_read_81 ?_
    refine g_aload_n (pc := 84) C 0 0 dX4_read_84 rfl rfl ?_
    obtain ⟨v24, hvv24, h⟩ := zbind h
    refine g_getI (N := 12) (pc := 85) C ck_4 hvv24 rfl rfl fl_X4_41 dX4_read_85 ?_
    refine g_bipush (v := 6) (pc := 88) C dX4_read_88 (by decide) ?_
    refine g_imul (pc := 90) C dX4_read_90 ?_
    obtain ⟨r26, σ25, hvσ25, h⟩ := zcb h
    refine g_callS (pc := 91) (av := [tR (r23), tI (v24 * 6)]) C (c_J7_copyOf_59c91 hE hvσ25) ys_J7_copyOf_59c91 ml_X4_61 rfl (rf_of (by decide)) rfl (Nat.le_of_ble_eq_true rfl) dX4_read_91 ?_
    refine g_aload_n (pc := 94) C 0 0 dX4_read_94 rfl rfl ?_
    obtain ⟨v27, hvv27, h⟩ := zbind h
    refine g_getI (N := 12) (pc := 95) C ck_4 hvv27 rfl rfl fl_X4_41 dX4_read_95 ?_
    obtain ⟨u28, hvu28, h⟩ := zbind h
    obtain ⟨v30, σ29, hvσ29, h⟩ := zcb h
    refine g_callI (pc := 98) (av := [tR (r22), tR (r26), tI (v27)]) C (c_X7_init hE hvσ29) yi_X7_init ml_X4_67 rfl (rf_of (by decide)) rfl (Nat.le_of_ble_eq_true rfl) dX4_read_98 ?_
    obtain ⟨rfl, rfl⟩ := zsome h
    exact g_aret (pc := 101) C rfl (by first | exact Or.inl ⟨_, rfl⟩ | exact Or.inr ⟨_, rfl⟩) hx (by rw [hxn]; rfl) (by rw [hxn]; rfl) dX4_read_101
  · intro r32 σ31 h
    have h := (hKQ _ _).mp h
    obtain ⟨rfl, rfl⟩ := zsome h
    exact hx
def rm_X8_law : Room := { frames := 101, cells := 3, slots := 1203, locals := 4024 }
noncomputable def s_X8_law_j34 (h0 : Nat) (σ : Hp) : Option (Int32 × Hp) :=
  (ck 8 σ h0).bind fun u1 =>
  cb (s_X8_refuse h0 ((-5)) σ) fun v3 σ2 =>
  some ((v3), σ2)
set_option maxRecDepth 100000 in
theorem w_X8_law_j34 {E : E0} (hE : EOK E) {X : X0} (C : XOK E X cX8_law RX8 4 (some .int) rm_X8_law) (hxn : xn X = (rm_X8_law.cells, rm_X8_law.slots)) (h0 : Nat) (σ : Hp) (r : Int32) (σ1 : Hp) (h : s_X8_law_j34 h0 σ = some (r, σ1)) (hx : xd X = (some (tI r), σ1)) : G E X 0 0 34 [(0, tR (some (h0)))] [] σ := by
  unfold s_X8_law_j34 at h
  refine g_aload_n (pc := 34) C 0 0 dX8_law_34 rfl rfl ?_
  refine g_bipush (v := (-5)) (pc := 35) C dX8_law_35 (by decide) ?_
  obtain ⟨u1, hvu1, h⟩ := zbind h
  obtain ⟨v3, σ2, hvσ2, h⟩ := zcb h
  refine g_callV (pc := 37) (av := [tI ((-5))]) C (c_X8_refuse hE hvσ2) yv_X8_refuse ml_X8_99 ck_8 (zopt hvu1).1 rfl (rf_of (by decide)) rfl (Nat.le_of_ble_eq_true rfl) dX8_law_37 ?_
  obtain ⟨rfl, rfl⟩ := zsome h
  refine g_widen (k := 3) (n := 1203) (by decide) (by decide) ?_
  exact g_iret (pc := 40) C rfl hx (by rw [hxn]; rfl) (by rw [hxn]; rfl) dX8_law_40
noncomputable def s_X8_law (h0 : Nat) (σ : Hp) : Option (Int32 × Hp) :=
  (rdR 8 σ h0 5).bind fun r1 =>
  (r1).bind fun a2 =>
  (rdI 6 σ a2 1).bind fun v3 =>
  (rdR 8 σ h0 5).bind fun r4 =>
  (r4).bind fun a5 =>
  (wrI 6 σ a5 1 (0)).bind fun σ6 =>
  (rdR 8 σ6 h0 0).bind fun r7 =>
  (r7).bind fun a8 =>
  (rdI 1 σ6 a8 17).bind fun v9 =>
  if v9 < 0 then
    s_X8_law_j34 (h0) σ6
  else
    if v9 < 6 then
      (rdR 8 σ6 h0 6).bind fun r10 =>
      (rdR 8 σ6 h0 5).bind fun r11 =>
      (r10).bind fun a12 =>
      (ck 4 σ6 a12).bind fun u13 =>
      cb (s_X4_read a12 (r11) (v3) (1) σ6) fun r15 σ14 =>
      (rdR 8 σ14 h0 6).bind fun r16 =>
      (r16).bind fun a17 =>
      (rdI 4 σ14 a17 11).bind fun v18 =>
      (wrI 8 σ14 h0 15 (v18)).bind fun σ19 =>
      if r15 = none then
        (ck 8 σ19 h0).bind fun u31 =>
        cb (s_X8_refuse h0 ((-6)) σ19) fun v33 σ32 =>
        some ((v33), σ32)
      else
        (rdR 8 σ19 h0 0).bind fun r20 =>
        (r20).bind fun a21 =>
        (rdR 1 σ19 a21 11).bind fun r22 =>
        (r22).bind fun a23 =>
        (stR 15 7 σ19 a23 (v9) (r15)).bind fun σ24 =>
        (rdR 8 σ24 h0 0).bind fun r25 =>
        (r25).bind fun a26 =>
        (wrI 1 σ24 a26 17 (v9 + 1)).bind fun σ27 =>
        (ck 8 σ27 h0).bind fun u28 =>
        cb (s_X8_grant h0 (v9) σ27) fun v30 σ29 =>
        some ((v30), σ29)
    else
      s_X8_law_j34 (h0) σ6
set_option maxRecDepth 100000 in
theorem c_X8_law {E : E0} (hE : EOK E) {h0 : Nat} {σ σ1 : Hp} {r : Int32} (h : s_X8_law h0 σ = some (r, σ1)) : CT E yX8_law (.code yX8_law cX8_law 4 (some .int)) rm_X8_law [tR (some (h0))] σ (some (tI r)) σ1 := by
  refine CT.mk hE (by decide +kernel) (Nat.le_of_ble_eq_true rfl) [(0, tR (some (h0)))] rfl (fun X C hin hx hxn => ?_)
  have C : XOK E X cX8_law RX8 4 (some .int) rm_X8_law := C
  unfold s_X8_law at h
  refine g_aload_n (pc := 0) C 0 0 dX8_law_0 rfl rfl ?_
  obtain ⟨r1, hvr1, h⟩ := zbind h
  refine g_getR (N := 19) (pc := 1) C ck_8 hvr1 rfl rfl fl_X8_33 dX8_law_1 ?_
  obtain ⟨a2, hqa2, h9⟩ := zbind h
  clear h
  subst hqa2
  have h := h9
  clear h9
  obtain ⟨v3, hvv3, h⟩ := zbind h
  refine g_getI (N := 2) (pc := 4) C ck_6 hvv3 rfl rfl fl_X8_216 dX8_law_4 ?_
  refine g_istore_n (lm' := [(1, tI (v3)), (0, tR (some (h0)))]) (pc := 7) C 1 dX8_law_7 rfl (by decide) rfl ?_
  refine g_aload_n (pc := 8) C 0 1 dX8_law_8 rfl rfl ?_
  obtain ⟨r4, hvr4, h⟩ := zbind h
  refine g_getR (N := 19) (pc := 9) C ck_8 hvr4 rfl rfl fl_X8_33 dX8_law_9 ?_
  refine g_iconst (v := 0) (pc := 12) C dX8_law_12 (by decide) ?_
  obtain ⟨a5, hqa5, h9⟩ := zbind h
  clear h
  subst hqa5
  have h := h9
  clear h9
  obtain ⟨σ6, hvσ6, h⟩ := zbind h
  refine g_putI (N := 2) (pc := 13) C ⟨ck_6, rfl, tyX6_ok⟩ hvσ6 rfl fl_X8_216 rfl rfl dX8_law_13 ?_
  refine g_aload_n (pc := 16) C 0 1 dX8_law_16 rfl rfl ?_
  obtain ⟨r7, hvr7, h⟩ := zbind h
  refine g_getR (N := 19) (pc := 17) C ck_8 hvr7 rfl rfl fl_X8_12 dX8_law_17 ?_
  obtain ⟨a8, hqa8, h9⟩ := zbind h
  clear h
  subst hqa8
  have h := h9
  clear h9
  obtain ⟨v9, hvv9, h⟩ := zbind h
  refine g_getI (N := 20) (pc := 20) C ck_1 hvv9 rfl rfl fl_X8_226 dX8_law_20 ?_
  refine g_istore_n (lm' := [(2, tI (v9)), (1, tI (v3)), (0, tR (some (h0)))]) (pc := 23) C 2 dX8_law_23 rfl (by decide) rfl ?_
  refine g_iload_n (pc := 24) C 2 0 dX8_law_24 rfl rfl ?_
  refine g_if_lt (pc := 25) C 34 dX8_law_25 (by decide) (fun c36 => ?_) (fun c36 => ?_)
  · have h := zif_t c36 h
    refine g_sub [2] (lm' := [(0, tR (some (h0)))]) rfl ?_
    exact w_X8_law_j34 hE C hxn _ _ _ _ h hx
  · have h := zif_f c36 h
    refine g_iload_n (pc := 28) C 2 0 dX8_law_28 rfl rfl ?_
    refine g_bipush (v := 6) (pc := 29) C dX8_law_29 (by decide) ?_
    refine g_icmp_lt (pc := 31) C 41 dX8_law_31 (by decide) (fun c35 => ?_) (fun c35 => ?_)
    · have h := zif_t c35 h
      refine g_aload_n (pc := 41) C 0 2 dX8_law_41 rfl rfl ?_
      obtain ⟨r10, hvr10, h⟩ := zbind h
      refine g_getR (N := 19) (pc := 42) C ck_8 hvr10 rfl rfl fl_X8_40 dX8_law_42 ?_
      refine g_aload_n (pc := 45) C 0 2 dX8_law_45 rfl rfl ?_
      obtain ⟨r11, hvr11, h⟩ := zbind h
      refine g_getR (N := 19) (pc := 46) C ck_8 hvr11 rfl rfl fl_X8_33 dX8_law_46 ?_
      refine g_iload_n (pc := 49) C 1 1 dX8_law_49 rfl rfl ?_
      refine g_iconst (v := 1) (pc := 50) C dX8_law_50 (by decide) ?_
      obtain ⟨a12, hqa12, h9⟩ := zbind h
      clear h
      subst hqa12
      have h := h9
      clear h9
      obtain ⟨u13, hvu13, h⟩ := zbind h
      obtain ⟨r15, σ14, hvσ14, h⟩ := zcb h
      refine g_callV (pc := 51) (av := [tR (r11), tI (v3), tI (1)]) C (c_X4_read hE hvσ14) yv_X4_read ml_X8_229 ck_4 (zopt hvu13).1 rfl (rf_of (by decide)) rfl (Nat.le_of_ble_eq_true rfl) dX8_law_51 ?_
      refine g_astore_n (lm' := [(3, tR (r15)), (2, tI (v9)), (1, tI (v3)), (0, tR (some (h0)))]) (pc := 54) C 3 dX8_law_54 rfl (by decide) rfl ?_
      refine g_aload_n (pc := 55) C 0 3 dX8_law_55 rfl rfl ?_
      refine g_aload_n (pc := 56) C 0 3 dX8_law_56 rfl rfl ?_
      obtain ⟨r16, hvr16, h⟩ := zbind h
      refine g_getR (N := 19) (pc := 57) C ck_8 hvr16 rfl rfl fl_X8_40 dX8_law_57 ?_
      obtain ⟨a17, hqa17, h9⟩ := zbind h
      clear h
      subst hqa17
      have h := h9
      clear h9
      obtain ⟨v18, hvv18, h⟩ := zbind h
      refine g_getI (N := 12) (pc := 60) C ck_4 hvv18 rfl rfl fl_X8_233 dX8_law_60 ?_
      obtain ⟨σ19, hvσ19, h⟩ := zbind h
      refine g_putI (N := 19) (pc := 63) C ⟨ck_8, rfl, tyX8_ok⟩ hvσ19 rfl fl_X8_83 rfl rfl dX8_law_63 ?_
      refine g_aload_n (pc := 66) C 3 0 dX8_law_66 rfl rfl ?_
      refine g_ifnonnull (pc := 67) C 77 dX8_law_67 (by decide) (fun c34 => ?_) (fun c34 => ?_)
      · have h := zif_f c34 h
        refine g_aload_n (pc := 77) C 0 3 dX8_law_77 rfl rfl ?_
        obtain ⟨r20, hvr20, h⟩ := zbind h
        refine g_getR (N := 19) (pc := 78) C ck_8 hvr20 rfl rfl fl_X8_12 dX8_law_78 ?_
        obtain ⟨a21, hqa21, h9⟩ := zbind h
        clear h
        subst hqa21
        have h := h9
        clear h9
        obtain ⟨r22, hvr22, h⟩ := zbind h
        refine g_getR (N := 20) (pc := 81) C ck_1 hvr22 rfl rfl fl_X8_236 dX8_law_81 ?_
        refine g_iload_n (pc := 84) C 2 1 dX8_law_84 rfl rfl ?_
        refine g_aload_n (pc := 85) C 3 0 dX8_law_85 rfl rfl ?_
        obtain ⟨a23, hqa23, h9⟩ := zbind h
        clear h
        subst hqa23
        have h := h9
        clear h9
        obtain ⟨σ24, hvσ24, h⟩ := zbind h
        refine g_aast (c := 15) (e := 7) (pc := 86) C (by first | exact Or.inl ⟨rfl, rfl, rfl⟩ | exact Or.inr ⟨rfl, rfl, rfl⟩) hvσ24 dX8_law_86 ?_
        refine g_aload_n (pc := 87) C 0 3 dX8_law_87 rfl rfl ?_
        obtain ⟨r25, hvr25, h⟩ := zbind h
        refine g_getR (N := 19) (pc := 88) C ck_8 hvr25 rfl rfl fl_X8_12 dX8_law_88 ?_
        refine g_iload_n (pc := 91) C 2 1 dX8_law_91 rfl rfl ?_
        refine g_iconst (v := 1) (pc := 92) C dX8_law_92 (by decide) ?_
        refine g_iadd (pc := 93) C dX8_law_93 ?_
        obtain ⟨a26, hqa26, h9⟩ := zbind h
        clear h
        subst hqa26
        have h := h9
        clear h9
        obtain ⟨σ27, hvσ27, h⟩ := zbind h
        refine g_putI (N := 20) (pc := 94) C ⟨ck_1, rfl, tyX1_ok⟩ hvσ27 rfl fl_X8_226 rfl rfl dX8_law_94 ?_
        refine g_aload_n (pc := 97) C 0 3 dX8_law_97 rfl rfl ?_
        refine g_iload_n (pc := 98) C 2 1 dX8_law_98 rfl rfl ?_
        obtain ⟨u28, hvu28, h⟩ := zbind h
        obtain ⟨v30, σ29, hvσ29, h⟩ := zcb h
        refine g_callV (pc := 99) (av := [tI (v9)]) C (c_X8_grant hE hvσ29) yv_X8_grant ml_X8_119 ck_8 (zopt hvu28).1 rfl (rf_of (by decide)) rfl (Nat.le_of_ble_eq_true rfl) dX8_law_99 ?_
        obtain ⟨rfl, rfl⟩ := zsome h
        exact g_iret (pc := 102) C rfl hx (by rw [hxn]; rfl) (by rw [hxn]; rfl) dX8_law_102
      · have h := zif_t c34 h
        refine g_aload_n (pc := 70) C 0 3 dX8_law_70 rfl rfl ?_
        refine g_bipush (v := (-6)) (pc := 71) C dX8_law_71 (by decide) ?_
        obtain ⟨u31, hvu31, h⟩ := zbind h
        obtain ⟨v33, σ32, hvσ32, h⟩ := zcb h
        refine g_callV (pc := 73) (av := [tI ((-6))]) C (c_X8_refuse hE hvσ32) yv_X8_refuse ml_X8_99 ck_8 (zopt hvu31).1 rfl (rf_of (by decide)) rfl (Nat.le_of_ble_eq_true rfl) dX8_law_73 ?_
        obtain ⟨rfl, rfl⟩ := zsome h
        exact g_iret (pc := 76) C rfl hx (by rw [hxn]; rfl) (by rw [hxn]; rfl) dX8_law_76
    · have h := zif_f c35 h
      refine g_sub [2] (lm' := [(0, tR (some (h0)))]) rfl ?_
      exact w_X8_law_j34 hE C hxn _ _ _ _ h hx
def rm_X8_orders : Room := { frames := 101, cells := 3, slots := 1203, locals := 4024 }
noncomputable def s_X8_orders_b107 (h0 : Nat) (l2 : Option Nat) (l3 : Int32) (l4 : Int32) (σ : Hp) : Option (((Nat × (Option Nat) × Int32 × Int32) ⊕ ((Nat × (Option Nat) × Int32) ⊕ (Nat × Int32))) × Hp) :=
  if l4 ≤ 0 then
    some (Sum.inr (Sum.inl ((h0), (l2), (l3))), σ)
  else
    (ck 8 σ h0).bind fun u1 =>
    cb (s_X8_runOnce h0 (l2) (l3) σ) fun v3 σ2 =>
    if v3 = 0 then
      some (Sum.inr (Sum.inr ((h0), (l3))), σ2)
    else
      some (Sum.inl ((h0), (l2), (l3), (l4 + (-1))), σ2)
noncomputable def s_X8_orders_l107 : (Nat × (Option Nat) × Int32 × Int32) → Hp → Option (((Nat × (Option Nat) × Int32) ⊕ (Nat × Int32)) × Hp) := loopF (fun v => s_X8_orders_b107 (v.1) (v.2.1) (v.2.2.1) (v.2.2.2))
set_option maxRecDepth 100000 in
theorem w_X8_orders_b107 {E : E0} (hE : EOK E) {X : X0} (C : XOK E X cX8_orders RX8 5 (some .int) rm_X8_orders) (hxn : xn X = (rm_X8_orders.cells, rm_X8_orders.slots)) {KE : ((Nat × (Option Nat) × Int32) ⊕ (Nat × Int32)) → Hp → Prop} (e_161 : ∀ (h0 : Nat) (l2 : Option Nat) (l3 : Int32) (σ : Hp), KE (Sum.inl (h0, l2, l3)) σ → G E X 3 1203 161 [(0, tR (some (h0))), (2, tR (l2)), (3, tI (l3))] [] σ) (e_121 : ∀ (h0 : Nat) (l3 : Int32) (σ : Hp), KE (Sum.inr (h0, l3)) σ → G E X 3 1203 121 [(0, tR (some (h0))), (3, tI (l3))] [] σ) (h0 : Nat) (l2 : Option Nat) (l3 : Int32) (l4 : Int32) (σ : Hp) (x : (Nat × (Option Nat) × Int32 × Int32) ⊕ ((Nat × (Option Nat) × Int32) ⊕ (Nat × Int32))) (σ1 : Hp) (h : s_X8_orders_b107 h0 l2 l3 l4 σ = some (x, σ1)) (hI : ∀ v, x = Sum.inl v → (fun (v : Nat × (Option Nat) × Int32 × Int32) (σ : Hp) => G E X 3 1203 107 [(0, tR (some ((v.1)))), (2, tR ((v.2.1))), (3, tI ((v.2.2.1))), (4, tI ((v.2.2.2)))] [] σ) v σ1) (hO : ∀ e, x = Sum.inr e → KE e σ1) : G E X 3 1203 107 [(0, tR (some (h0))), (2, tR (l2)), (3, tI (l3)), (4, tI (l4))] [] σ := by
  unfold s_X8_orders_b107 at h
  refine g_iload (pc := 107) C 3 dX8_orders_107 rfl ?_
  refine g_if_le (pc := 109) C 161 dX8_orders_109 (by decide) (fun c5 => ?_) (fun c5 => ?_)
  · have h := zif_t c5 h
    refine g_sub [0, 1, 2] (lm' := [(0, tR (some (h0))), (2, tR (l2)), (3, tI (l3))]) rfl ?_
    obtain ⟨rfl, rfl⟩ := zsome h
    exact e_161 _ _ _ _ (hO _ rfl)
  · have h := zif_f c5 h
    refine g_aload_n (pc := 112) C 0 0 dX8_orders_112 rfl rfl ?_
    refine g_aload_n (pc := 113) C 2 1 dX8_orders_113 rfl rfl ?_
    refine g_iload_n (pc := 114) C 3 2 dX8_orders_114 rfl rfl ?_
    obtain ⟨u1, hvu1, h⟩ := zbind h
    obtain ⟨v3, σ2, hvσ2, h⟩ := zcb h
    refine g_callV (pc := 115) (av := [tR (l2), tI (l3)]) C (c_X8_runOnce hE hvσ2) yv_X8_runOnce ml_X8_255 ck_8 (zopt hvu1).1 rfl (rf_of (by decide)) rfl (Nat.le_of_ble_eq_true rfl) dX8_orders_115 ?_
    refine g_if_ne (pc := 118) C 155 dX8_orders_118 (by decide) (fun c4 => ?_) (fun c4 => ?_)
    · have h := zif_f c4 h
      refine g_iinc (lm' := [(4, tI (l4 + (-1))), (0, tR (some (h0))), (2, tR (l2)), (3, tI (l3))]) (v := l4 + (-1)) (pc := 155) C 3 dX8_orders_155 rfl rfl (by decide) rfl ?_
      refine g_goto (pc := 158) C 107 dX8_orders_158 (by decide) ?_
      refine g_sub [1, 2, 3, 0] (lm' := [(0, tR (some (h0))), (2, tR (l2)), (3, tI (l3)), (4, tI (l4 + (-1)))]) rfl ?_
      obtain ⟨rfl, rfl⟩ := zsome h
      exact hI _ rfl
    · have h := zif_t c4 h
      refine g_sub [0, 2] (lm' := [(0, tR (some (h0))), (3, tI (l3))]) rfl ?_
      obtain ⟨rfl, rfl⟩ := zsome h
      exact e_121 _ _ _ (hO _ rfl)
theorem w_X8_orders_l107 {E : E0} (hE : EOK E) {X : X0} (C : XOK E X cX8_orders RX8 5 (some .int) rm_X8_orders) (hxn : xn X = (rm_X8_orders.cells, rm_X8_orders.slots)) {KE : ((Nat × (Option Nat) × Int32) ⊕ (Nat × Int32)) → Hp → Prop} (e_161 : ∀ (h0 : Nat) (l2 : Option Nat) (l3 : Int32) (σ : Hp), KE (Sum.inl (h0, l2, l3)) σ → G E X 3 1203 161 [(0, tR (some (h0))), (2, tR (l2)), (3, tI (l3))] [] σ) (e_121 : ∀ (h0 : Nat) (l3 : Int32) (σ : Hp), KE (Sum.inr (h0, l3)) σ → G E X 3 1203 121 [(0, tR (some (h0))), (3, tI (l3))] [] σ) {v : Nat × (Option Nat) × Int32 × Int32} {σ : Hp} {e : (Nat × (Option Nat) × Int32) ⊕ (Nat × Int32)} {σ1 : Hp} (h : s_X8_orders_l107 v σ = some (e, σ1)) (hO : KE e σ1) : G E X 3 1203 107 [(0, tR (some ((v.1)))), (2, tR ((v.2.1))), (3, tI ((v.2.2.1))), (4, tI ((v.2.2.2)))] [] σ := loopF_ind (P := fun (v : Nat × (Option Nat) × Int32 × Int32) (σ : Hp) => G E X 3 1203 107 [(0, tR (some ((v.1)))), (2, tR ((v.2.1))), (3, tI ((v.2.2.1))), (4, tI ((v.2.2.2)))] [] σ) (KE := KE) (fun v σ x σ1 h hI hO => w_X8_orders_b107 hE C hxn e_161 e_121 (v.1) (v.2.1) (v.2.2.1) (v.2.2.2) σ x σ1 h hI hO) v σ e σ1 h hO
noncomputable def s_X8_orders_b91 (h0 : Nat) (l2 : Option Nat) (l3 : Int32) (σ : Hp) : Option (((Nat × (Option Nat) × Int32) ⊕ (Nat ⊕ (Nat × Int32))) × Hp) :=
  (l2).bind fun a1 =>
  (rdI 7 σ a1 2).bind fun v2 =>
  if v2 ≤ l3 then
    some (Sum.inr (Sum.inl (h0)), σ)
  else
    (ck 7 σ a1).bind fun u3 =>
    cb (s_X7_field a1 (l3) (5) σ) fun v5 σ4 =>
    cb (s_X8_orders_l107 ((h0), (some (a1)), (l3), (v5)) σ4) fun e15 σ14 =>
    match e15 with
    | Sum.inl (h6, l27, l38) =>
      some (Sum.inl ((h6), (l27), (l38 + 1)), σ14)
    | Sum.inr (h10, l311) =>
      some (Sum.inr (Sum.inr ((h10), (l311))), σ14)
noncomputable def s_X8_orders_l91 : (Nat × (Option Nat) × Int32) → Hp → Option ((Nat ⊕ (Nat × Int32)) × Hp) := loopF (fun v => s_X8_orders_b91 (v.1) (v.2.1) (v.2.2))
set_option maxRecDepth 100000 in
theorem w_X8_orders_b91 {E : E0} (hE : EOK E) {X : X0} (C : XOK E X cX8_orders RX8 5 (some .int) rm_X8_orders) (hxn : xn X = (rm_X8_orders.cells, rm_X8_orders.slots)) {KE : (Nat ⊕ (Nat × Int32)) → Hp → Prop} (e_167 : ∀ (h0 : Nat) (σ : Hp), KE (Sum.inl h0) σ → G E X 3 1203 167 [(0, tR (some (h0)))] [] σ) (e_121 : ∀ (h0 : Nat) (l3 : Int32) (σ : Hp), KE (Sum.inr (h0, l3)) σ → G E X 3 1203 121 [(0, tR (some (h0))), (3, tI (l3))] [] σ) (h0 : Nat) (l2 : Option Nat) (l3 : Int32) (σ : Hp) (x : (Nat × (Option Nat) × Int32) ⊕ (Nat ⊕ (Nat × Int32))) (σ1 : Hp) (h : s_X8_orders_b91 h0 l2 l3 σ = some (x, σ1)) (hI : ∀ v, x = Sum.inl v → (fun (v : Nat × (Option Nat) × Int32) (σ : Hp) => G E X 3 1203 91 [(0, tR (some ((v.1)))), (2, tR ((v.2.1))), (3, tI ((v.2.2)))] [] σ) v σ1) (hO : ∀ e, x = Sum.inr e → KE e σ1) : G E X 3 1203 91 [(0, tR (some (h0))), (2, tR (l2)), (3, tI (l3))] [] σ := by
  unfold s_X8_orders_b91 at h
  refine g_iload_n (pc := 91) C 3 2 dX8_orders_91 rfl rfl ?_
  refine g_aload_n (pc := 92) C 2 1 dX8_orders_92 rfl rfl ?_
  obtain ⟨a1, hqa1, h9⟩ := zbind h
  clear h
  subst hqa1
  have h := h9
  clear h9
  obtain ⟨v2, hvv2, h⟩ := zbind h
  refine g_getI (N := 3) (pc := 93) C ck_7 hvv2 rfl rfl fl_X8_247 dX8_orders_93 ?_
  refine g_icmp_ge (pc := 96) C 167 dX8_orders_96 (by decide) (fun c16 => ?_) (fun c16 => ?_)
  · have h := zif_t c16 h
    refine g_sub [0] (lm' := [(0, tR (some (h0)))]) rfl ?_
    obtain ⟨rfl, rfl⟩ := zsome h
    exact e_167 _ _ (hO _ rfl)
  · have h := zif_f c16 h
    refine g_aload_n (pc := 99) C 2 1 dX8_orders_99 rfl rfl ?_
    refine g_iload_n (pc := 100) C 3 2 dX8_orders_100 rfl rfl ?_
    refine g_iconst (v := 5) (pc := 101) C dX8_orders_101 (by decide) ?_
    obtain ⟨u3, hvu3, h⟩ := zbind h
    obtain ⟨v5, σ4, hvσ4, h⟩ := zcb h
    refine g_callV (pc := 102) (av := [tI (l3), tI (5)]) C (c_X7_field hE hvσ4) yv_X7_field ml_X8_252 ck_7 (zopt hvu3).1 rfl (rf_of (by decide)) rfl (Nat.le_of_ble_eq_true rfl) dX8_orders_102 ?_
    refine g_istore (lm' := [(4, tI (v5)), (0, tR (some (h0))), (2, tR (some (a1))), (3, tI (l3))]) (pc := 105) C dX8_orders_105 (by decide) rfl ?_
    refine g_sub [1, 2, 3, 0] (lm' := [(0, tR (some (h0))), (2, tR (some (a1))), (3, tI (l3)), (4, tI (v5))]) rfl ?_
    obtain ⟨KQ, hKQ, e15, σ14, hle15, h⟩ := zcbK h
    refine w_X8_orders_l107 (KE := KQ) hE C hxn ?_ ?_ hle15 h
    · intro h6 l27 l38 σ9 h
      have h := (hKQ _ _).mp h
      refine g_iinc (lm' := [(3, tI (l38 + 1)), (0, tR (some (h6))), (2, tR (l27))]) (v := l38 + 1) (pc := 161) C 2 dX8_orders_161 rfl rfl (by decide) rfl ?_
      refine g_goto (pc := 164) C 91 dX8_orders_164 (by decide) ?_
      refine g_sub [1, 2, 0] (lm' := [(0, tR (some (h6))), (2, tR (l27)), (3, tI (l38 + 1))]) rfl ?_
      obtain ⟨rfl, rfl⟩ := zsome h
      exact hI _ rfl
    · intro h10 l311 σ12 h
      have h := (hKQ _ _).mp h
      obtain ⟨rfl, rfl⟩ := zsome h
      exact e_121 _ _ _ (hO _ rfl)
theorem w_X8_orders_l91 {E : E0} (hE : EOK E) {X : X0} (C : XOK E X cX8_orders RX8 5 (some .int) rm_X8_orders) (hxn : xn X = (rm_X8_orders.cells, rm_X8_orders.slots)) {KE : (Nat ⊕ (Nat × Int32)) → Hp → Prop} (e_167 : ∀ (h0 : Nat) (σ : Hp), KE (Sum.inl h0) σ → G E X 3 1203 167 [(0, tR (some (h0)))] [] σ) (e_121 : ∀ (h0 : Nat) (l3 : Int32) (σ : Hp), KE (Sum.inr (h0, l3)) σ → G E X 3 1203 121 [(0, tR (some (h0))), (3, tI (l3))] [] σ) {v : Nat × (Option Nat) × Int32} {σ : Hp} {e : Nat ⊕ (Nat × Int32)} {σ1 : Hp} (h : s_X8_orders_l91 v σ = some (e, σ1)) (hO : KE e σ1) : G E X 3 1203 91 [(0, tR (some ((v.1)))), (2, tR ((v.2.1))), (3, tI ((v.2.2)))] [] σ := loopF_ind (P := fun (v : Nat × (Option Nat) × Int32) (σ : Hp) => G E X 3 1203 91 [(0, tR (some ((v.1)))), (2, tR ((v.2.1))), (3, tI ((v.2.2)))] [] σ) (KE := KE) (fun v σ x σ1 h hI hO => w_X8_orders_b91 hE C hxn e_167 e_121 (v.1) (v.2.1) (v.2.2) σ x σ1 h hI hO) v σ e σ1 h hO
noncomputable def s_X8_orders (h0 : Nat) (σ : Hp) : Option (Int32 × Hp) :=
  (rdR 8 σ h0 5).bind fun r1 =>
  (r1).bind fun a2 =>
  (rdI 6 σ a2 1).bind fun v3 =>
  (rdR 8 σ h0 5).bind fun r4 =>
  (r4).bind fun a5 =>
  (wrI 6 σ a5 1 (0)).bind fun σ6 =>
  (wrI 8 σ6 h0 17 ((-1))).bind fun σ7 =>
  (rdR 8 σ7 h0 6).bind fun r8 =>
  (rdR 8 σ7 h0 5).bind fun r9 =>
  (r8).bind fun a10 =>
  (ck 4 σ7 a10).bind fun u11 =>
  cb (s_X4_read a10 (r9) (v3) (0) σ7) fun r13 σ12 =>
  (rdR 8 σ12 h0 6).bind fun r14 =>
  (r14).bind fun a15 =>
  (rdI 4 σ12 a15 11).bind fun v16 =>
  (wrI 8 σ12 h0 15 (v16)).bind fun σ17 =>
  if r13 = none then
    (ck 8 σ17 h0).bind fun u60 =>
    cb (s_X8_refuse h0 ((-6)) σ17) fun v62 σ61 =>
    some ((v62), σ61)
  else
    (rdR 8 σ17 h0 1).bind fun r18 =>
    (rdR 8 σ17 h0 0).bind fun r19 =>
    (r18).bind fun a20 =>
    (ck 1 σ17 a20).bind fun u21 =>
    cb (s_X1_copyFrom a20 (r19) σ17) fun v23 σ22 =>
    (rdR 8 σ22 h0 9).bind fun r24 =>
    (rdR 8 σ22 h0 8).bind fun r25 =>
    (r24).bind fun a26 =>
    (ck 0 σ22 a26).bind fun u27 =>
    cb (s_X0_copyFrom a26 (r25) σ22) fun v29 σ28 =>
    (wrI 8 σ28 h0 13 (0)).bind fun σ30 =>
    (wrI 8 σ30 h0 14 ((-1))).bind fun σ31 =>
    cb (s_X8_orders_l91 ((h0), (r13), (0)) σ31) fun e59 σ58 =>
    match e59 with
    | Sum.inl h32 =>
      (rdI 8 σ58 h32 13).bind fun v34 =>
      (ck 8 σ58 h32).bind fun u35 =>
      cb (s_X8_grant h32 (v34) σ58) fun v37 σ36 =>
      some ((v37), σ36)
    | Sum.inr (h38, l339) =>
      (rdR 8 σ58 h38 0).bind fun r41 =>
      (rdR 8 σ58 h38 1).bind fun r42 =>
      (r41).bind fun a43 =>
      (ck 1 σ58 a43).bind fun u44 =>
      cb (s_X1_copyFrom a43 (r42) σ58) fun v46 σ45 =>
      (rdR 8 σ45 h38 8).bind fun r47 =>
      (rdR 8 σ45 h38 9).bind fun r48 =>
      (r47).bind fun a49 =>
      (ck 0 σ45 a49).bind fun u50 =>
      cb (s_X0_copyFrom a49 (r48) σ45) fun v52 σ51 =>
      (wrI 8 σ51 h38 17 (l339)).bind fun σ53 =>
      (ck 8 σ53 h38).bind fun u54 =>
      cb (s_X8_refuse h38 ((-3)) σ53) fun v56 σ55 =>
      some ((v56), σ55)
set_option maxRecDepth 100000 in
theorem c_X8_orders {E : E0} (hE : EOK E) {h0 : Nat} {σ σ1 : Hp} {r : Int32} (h : s_X8_orders h0 σ = some (r, σ1)) : CT E yX8_orders (.code yX8_orders cX8_orders 5 (some .int)) rm_X8_orders [tR (some (h0))] σ (some (tI r)) σ1 := by
  refine CT.mk hE (by decide +kernel) (Nat.le_of_ble_eq_true rfl) [(0, tR (some (h0)))] rfl (fun X C hin hx hxn => ?_)
  have C : XOK E X cX8_orders RX8 5 (some .int) rm_X8_orders := C
  unfold s_X8_orders at h
  refine g_aload_n (pc := 0) C 0 0 dX8_orders_0 rfl rfl ?_
  obtain ⟨r1, hvr1, h⟩ := zbind h
  refine g_getR (N := 19) (pc := 1) C ck_8 hvr1 rfl rfl fl_X8_33 dX8_orders_1 ?_
  obtain ⟨a2, hqa2, h9⟩ := zbind h
  clear h
  subst hqa2
  have h := h9
  clear h9
  obtain ⟨v3, hvv3, h⟩ := zbind h
  refine g_getI (N := 2) (pc := 4) C ck_6 hvv3 rfl rfl fl_X8_216 dX8_orders_4 ?_
  refine g_istore_n (lm' := [(1, tI (v3)), (0, tR (some (h0)))]) (pc := 7) C 1 dX8_orders_7 rfl (by decide) rfl ?_
  refine g_aload_n (pc := 8) C 0 1 dX8_orders_8 rfl rfl ?_
  obtain ⟨r4, hvr4, h⟩ := zbind h
  refine g_getR (N := 19) (pc := 9) C ck_8 hvr4 rfl rfl fl_X8_33 dX8_orders_9 ?_
  refine g_iconst (v := 0) (pc := 12) C dX8_orders_12 (by decide) ?_
  obtain ⟨a5, hqa5, h9⟩ := zbind h
  clear h
  subst hqa5
  have h := h9
  clear h9
  obtain ⟨σ6, hvσ6, h⟩ := zbind h
  refine g_putI (N := 2) (pc := 13) C ⟨ck_6, rfl, tyX6_ok⟩ hvσ6 rfl fl_X8_216 rfl rfl dX8_orders_13 ?_
  refine g_aload_n (pc := 16) C 0 1 dX8_orders_16 rfl rfl ?_
  refine g_iconst (v := (-1)) (pc := 17) C dX8_orders_17 (by decide) ?_
  obtain ⟨σ7, hvσ7, h⟩ := zbind h
  refine g_putI (N := 19) (pc := 18) C ⟨ck_8, rfl, tyX8_ok⟩ hvσ7 rfl fl_X8_89 rfl rfl dX8_orders_18 ?_
  refine g_aload_n (pc := 21) C 0 1 dX8_orders_21 rfl rfl ?_
  obtain ⟨r8, hvr8, h⟩ := zbind h
  refine g_getR (N := 19) (pc := 22) C ck_8 hvr8 rfl rfl fl_X8_40 dX8_orders_22 ?_
  refine g_aload_n (pc := 25) C 0 1 dX8_orders_25 rfl rfl ?_
  obtain ⟨r9, hvr9, h⟩ := zbind h
  refine g_getR (N := 19) (pc := 26) C ck_8 hvr9 rfl rfl fl_X8_33 dX8_orders_26 ?_
  refine g_iload_n (pc := 29) C 1 0 dX8_orders_29 rfl rfl ?_
  refine g_iconst (v := 0) (pc := 30) C dX8_orders_30 (by decide) ?_
  obtain ⟨a10, hqa10, h9⟩ := zbind h
  clear h
  subst hqa10
  have h := h9
  clear h9
  obtain ⟨u11, hvu11, h⟩ := zbind h
  obtain ⟨r13, σ12, hvσ12, h⟩ := zcb h
  refine g_callV (pc := 31) (av := [tR (r9), tI (v3), tI (0)]) C (c_X4_read hE hvσ12) yv_X4_read ml_X8_229 ck_4 (zopt hvu11).1 rfl (rf_of (by decide)) rfl (Nat.le_of_ble_eq_true rfl) dX8_orders_31 ?_
  refine g_astore_n (lm' := [(2, tR (r13)), (1, tI (v3)), (0, tR (some (h0)))]) (pc := 34) C 2 dX8_orders_34 rfl (by decide) rfl ?_
  refine g_aload_n (pc := 35) C 0 2 dX8_orders_35 rfl rfl ?_
  refine g_aload_n (pc := 36) C 0 2 dX8_orders_36 rfl rfl ?_
  obtain ⟨r14, hvr14, h⟩ := zbind h
  refine g_getR (N := 19) (pc := 37) C ck_8 hvr14 rfl rfl fl_X8_40 dX8_orders_37 ?_
  obtain ⟨a15, hqa15, h9⟩ := zbind h
  clear h
  subst hqa15
  have h := h9
  clear h9
  obtain ⟨v16, hvv16, h⟩ := zbind h
  refine g_getI (N := 12) (pc := 40) C ck_4 hvv16 rfl rfl fl_X8_233 dX8_orders_40 ?_
  obtain ⟨σ17, hvσ17, h⟩ := zbind h
  refine g_putI (N := 19) (pc := 43) C ⟨ck_8, rfl, tyX8_ok⟩ hvσ17 rfl fl_X8_83 rfl rfl dX8_orders_43 ?_
  refine g_aload_n (pc := 46) C 2 0 dX8_orders_46 rfl rfl ?_
  refine g_ifnonnull (pc := 47) C 57 dX8_orders_47 (by decide) (fun c63 => ?_) (fun c63 => ?_)
  · have h := zif_f c63 h
    refine g_aload_n (pc := 57) C 0 2 dX8_orders_57 rfl rfl ?_
    obtain ⟨r18, hvr18, h⟩ := zbind h
    refine g_getR (N := 19) (pc := 58) C ck_8 hvr18 rfl rfl fl_X8_16 dX8_orders_58 ?_
    refine g_aload_n (pc := 61) C 0 2 dX8_orders_61 rfl rfl ?_
    obtain ⟨r19, hvr19, h⟩ := zbind h
    refine g_getR (N := 19) (pc := 62) C ck_8 hvr19 rfl rfl fl_X8_12 dX8_orders_62 ?_
    obtain ⟨a20, hqa20, h9⟩ := zbind h
    clear h
    subst hqa20
    have h := h9
    clear h9
    obtain ⟨u21, hvu21, h⟩ := zbind h
    obtain ⟨v23, σ22, hvσ22, h⟩ := zcb h
    refine g_callV (pc := 65) (av := [tR (r19)]) C (c_X1_copyFrom hE hvσ22) yv_X1_copyFrom ml_X8_240 ck_1 (zopt hvu21).1 rfl (rf_of (by decide)) rfl (Nat.le_of_ble_eq_true rfl) dX8_orders_65 ?_
    refine g_aload_n (pc := 68) C 0 2 dX8_orders_68 rfl rfl ?_
    obtain ⟨r24, hvr24, h⟩ := zbind h
    refine g_getR (N := 19) (pc := 69) C ck_8 hvr24 rfl rfl fl_X8_58 dX8_orders_69 ?_
    refine g_aload_n (pc := 72) C 0 2 dX8_orders_72 rfl rfl ?_
    obtain ⟨r25, hvr25, h⟩ := zbind h
    refine g_getR (N := 19) (pc := 73) C ck_8 hvr25 rfl rfl fl_X8_54 dX8_orders_73 ?_
    obtain ⟨a26, hqa26, h9⟩ := zbind h
    clear h
    subst hqa26
    have h := h9
    clear h9
    obtain ⟨u27, hvu27, h⟩ := zbind h
    obtain ⟨v29, σ28, hvσ28, h⟩ := zcb h
    refine g_callV (pc := 76) (av := [tR (r25)]) C (c_X0_copyFrom hE hvσ28) yv_X0_copyFrom ml_X8_244 ck_0 (zopt hvu27).1 rfl (rf_of (by decide)) rfl (Nat.le_of_ble_eq_true rfl) dX8_orders_76 ?_
    refine g_aload_n (pc := 79) C 0 2 dX8_orders_79 rfl rfl ?_
    refine g_iconst (v := 0) (pc := 80) C dX8_orders_80 (by decide) ?_
    obtain ⟨σ30, hvσ30, h⟩ := zbind h
    refine g_putI (N := 19) (pc := 81) C ⟨ck_8, rfl, tyX8_ok⟩ hvσ30 rfl fl_X8_76 rfl rfl dX8_orders_81 ?_
    refine g_aload_n (pc := 84) C 0 2 dX8_orders_84 rfl rfl ?_
    refine g_iconst (v := (-1)) (pc := 85) C dX8_orders_85 (by decide) ?_
    obtain ⟨σ31, hvσ31, h⟩ := zbind h
    refine g_putI (N := 19) (pc := 86) C ⟨ck_8, rfl, tyX8_ok⟩ hvσ31 rfl fl_X8_80 rfl rfl dX8_orders_86 ?_
    refine g_iconst (v := 0) (pc := 89) C dX8_orders_89 (by decide) ?_
    refine g_istore_n (lm' := [(3, tI (0)), (2, tR (r13)), (1, tI (v3)), (0, tR (some (h0)))]) (pc := 90) C 3 dX8_orders_90 rfl (by decide) rfl ?_
    refine g_sub [3, 1, 0] (lm' := [(0, tR (some (h0))), (2, tR (r13)), (3, tI (0))]) rfl ?_
    obtain ⟨KQ, hKQ, e59, σ58, hle59, h⟩ := zcbK h
    refine w_X8_orders_l91 (KE := KQ) hE C hxn ?_ ?_ hle59 h
    · intro h32 σ33 h
      have h := (hKQ _ _).mp h
      refine g_aload_n (pc := 167) C 0 0 dX8_orders_167 rfl rfl ?_
      refine g_aload_n (pc := 168) C 0 0 dX8_orders_168 rfl rfl ?_
      obtain ⟨v34, hvv34, h⟩ := zbind h
      refine g_getI (N := 19) (pc := 169) C ck_8 hvv34 rfl rfl fl_X8_76 dX8_orders_169 ?_
      obtain ⟨u35, hvu35, h⟩ := zbind h
      obtain ⟨v37, σ36, hvσ36, h⟩ := zcb h
      refine g_callV (pc := 172) (av := [tI (v34)]) C (c_X8_grant hE hvσ36) yv_X8_grant ml_X8_119 ck_8 (zopt hvu35).1 rfl (rf_of (by decide)) rfl (Nat.le_of_ble_eq_true rfl) dX8_orders_172 ?_
      obtain ⟨rfl, rfl⟩ := zsome h
      refine g_widen (k := 3) (n := 1203) (by decide) (by decide) ?_
      exact g_iret (pc := 175) C rfl hx (by rw [hxn]; rfl) (by rw [hxn]; rfl) dX8_orders_175
    · intro h38 l339 σ40 h
      have h := (hKQ _ _).mp h
      refine g_aload_n (pc := 121) C 0 0 dX8_orders_121 rfl rfl ?_
      obtain ⟨r41, hvr41, h⟩ := zbind h
      refine g_getR (N := 19) (pc := 122) C ck_8 hvr41 rfl rfl fl_X8_12 dX8_orders_122 ?_
      refine g_aload_n (pc := 125) C 0 0 dX8_orders_125 rfl rfl ?_
      obtain ⟨r42, hvr42, h⟩ := zbind h
      refine g_getR (N := 19) (pc := 126) C ck_8 hvr42 rfl rfl fl_X8_16 dX8_orders_126 ?_
      obtain ⟨a43, hqa43, h9⟩ := zbind h
      clear h
      subst hqa43
      have h := h9
      clear h9
      obtain ⟨u44, hvu44, h⟩ := zbind h
      obtain ⟨v46, σ45, hvσ45, h⟩ := zcb h
      refine g_callV (pc := 129) (av := [tR (r42)]) C (c_X1_copyFrom hE hvσ45) yv_X1_copyFrom ml_X8_240 ck_1 (zopt hvu44).1 rfl (rf_of (by decide)) rfl (Nat.le_of_ble_eq_true rfl) dX8_orders_129 ?_
      refine g_aload_n (pc := 132) C 0 0 dX8_orders_132 rfl rfl ?_
      obtain ⟨r47, hvr47, h⟩ := zbind h
      refine g_getR (N := 19) (pc := 133) C ck_8 hvr47 rfl rfl fl_X8_54 dX8_orders_133 ?_
      refine g_aload_n (pc := 136) C 0 0 dX8_orders_136 rfl rfl ?_
      obtain ⟨r48, hvr48, h⟩ := zbind h
      refine g_getR (N := 19) (pc := 137) C ck_8 hvr48 rfl rfl fl_X8_58 dX8_orders_137 ?_
      obtain ⟨a49, hqa49, h9⟩ := zbind h
      clear h
      subst hqa49
      have h := h9
      clear h9
      obtain ⟨u50, hvu50, h⟩ := zbind h
      obtain ⟨v52, σ51, hvσ51, h⟩ := zcb h
      refine g_callV (pc := 140) (av := [tR (r48)]) C (c_X0_copyFrom hE hvσ51) yv_X0_copyFrom ml_X8_244 ck_0 (zopt hvu50).1 rfl (rf_of (by decide)) rfl (Nat.le_of_ble_eq_true rfl) dX8_orders_140 ?_
      refine g_aload_n (pc := 143) C 0 0 dX8_orders_143 rfl rfl ?_
      refine g_iload_n (pc := 144) C 3 1 dX8_orders_144 rfl rfl ?_
      obtain ⟨σ53, hvσ53, h⟩ := zbind h
      refine g_putI (N := 19) (pc := 145) C ⟨ck_8, rfl, tyX8_ok⟩ hvσ53 rfl fl_X8_89 rfl rfl dX8_orders_145 ?_
      refine g_aload_n (pc := 148) C 0 0 dX8_orders_148 rfl rfl ?_
      refine g_bipush (v := (-3)) (pc := 149) C dX8_orders_149 (by decide) ?_
      obtain ⟨u54, hvu54, h⟩ := zbind h
      obtain ⟨v56, σ55, hvσ55, h⟩ := zcb h
      refine g_callV (pc := 151) (av := [tI ((-3))]) C (c_X8_refuse hE hvσ55) yv_X8_refuse ml_X8_99 ck_8 (zopt hvu54).1 rfl (rf_of (by decide)) rfl (Nat.le_of_ble_eq_true rfl) dX8_orders_151 ?_
      obtain ⟨rfl, rfl⟩ := zsome h
      refine g_widen (k := 3) (n := 1203) (by decide) (by decide) ?_
      exact g_iret (pc := 154) C rfl hx (by rw [hxn]; rfl) (by rw [hxn]; rfl) dX8_orders_154
  · have h := zif_t c63 h
    refine g_aload_n (pc := 50) C 0 2 dX8_orders_50 rfl rfl ?_
    refine g_bipush (v := (-6)) (pc := 51) C dX8_orders_51 (by decide) ?_
    obtain ⟨u60, hvu60, h⟩ := zbind h
    obtain ⟨v62, σ61, hvσ61, h⟩ := zcb h
    refine g_callV (pc := 53) (av := [tI ((-6))]) C (c_X8_refuse hE hvσ61) yv_X8_refuse ml_X8_99 ck_8 (zopt hvu60).1 rfl (rf_of (by decide)) rfl (Nat.le_of_ble_eq_true rfl) dX8_orders_53 ?_
    obtain ⟨rfl, rfl⟩ := zsome h
    exact g_iret (pc := 56) C rfl hx (by rw [hxn]; rfl) (by rw [hxn]; rfl) dX8_orders_56
