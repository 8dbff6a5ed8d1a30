def rm_X0_init : Room := { frames := 1, cells := 1, slots := 112, locals := 20 }
noncomputable def s_X0_init (h0 : Nat) (σ : Hp) : Option (Unit × Hp) :=
  cb (nw 11 112 σ) fun a2 σ1 =>
  (wrR 0 σ1 h0 0 (some (a2))).bind fun σ3 =>
  (wrI 0 σ3 h0 1 (0)).bind fun σ4 =>
  some ((), σ4)
set_option maxRecDepth 100000 in
theorem c_X0_init {E : E0} (hE : EOK E) {h0 : Nat} {σ σ1 : Hp} {r : Unit} (h : s_X0_init h0 σ = some (r, σ1)) : CT E yX0_init (.code yX0_init cX0_init 1 none) rm_X0_init [tR (some (h0))] σ none σ1 := by
  refine CT.mk hE (by decide +kernel) (Nat.le_of_ble_eq_true rfl) [(0, tR (some (h0)))] rfl (fun X C hin hx hxn => ?_)
  have C : XOK E X cX0_init RX0 1 none rm_X0_init := C
  unfold s_X0_init at h
  refine g_aload_n (pc := 0) C 0 0 dX0_init_0 rfl rfl ?_
  refine g_objInit (pc := 1) C ml_X0_5 oi_1 oi_2 ⟨Nat.le_of_ble_eq_true rfl, Nat.le_of_ble_eq_true rfl⟩ (Nat.le_of_ble_eq_true rfl) dX0_init_1 ?_
  refine g_aload_n (pc := 4) C 0 0 dX0_init_4 rfl rfl ?_
  refine g_bipush (v := 112) (pc := 5) C dX0_init_5 (by decide) ?_
  obtain ⟨a2, σ1, hvσ1, h⟩ := zcb h
  refine g_newaI (N := 112) (pc := 7) C (by decide) (by decide) (by decide) ac_int (by decide) (by decide) dX0_init_7 ?_
  rw [← (nw_h hvσ1).2, ← (nw_h hvσ1).1]
  obtain ⟨σ3, hvσ3, h⟩ := zbind h
  refine g_putRF (N := 2) (pc := 9) C ⟨ck_0, rfl, tyX0_ok⟩ hvσ3 rfl fl_X0_11 rfl hin ⟨rfl, rfl⟩ dX0_init_9 ?_
  refine g_aload_n (pc := 12) C 0 0 dX0_init_12 rfl rfl ?_
  refine g_iconst (v := 0) (pc := 13) C dX0_init_13 (by decide) ?_
  obtain ⟨σ4, hvσ4, h⟩ := zbind h
  refine g_putI (N := 2) (pc := 14) C ⟨ck_0, rfl, tyX0_ok⟩ hvσ4 rfl fl_X0_15 rfl rfl dX0_init_14 ?_
  obtain ⟨rfl, rfl⟩ := zsome h
  exact g_vret (pc := 17) C rfl hx (by rw [hxn]; rfl) (by rw [hxn]; rfl) dX0_init_17
def rm_X0_isEmpty : Room := { frames := 0, cells := 0, slots := 0, locals := 0 }
noncomputable def s_X0_isEmpty (h0 : Nat) (σ : Hp) : Option (Int32 × Hp) :=
  (rdI 0 σ h0 1).bind fun v1 =>
  if 0 < v1 then
    some ((0), σ)
  else
    some ((1), σ)
set_option maxRecDepth 100000 in
theorem c_X0_isEmpty {E : E0} (hE : EOK E) {h0 : Nat} {σ σ1 : Hp} {r : Int32} (h : s_X0_isEmpty h0 σ = some (r, σ1)) : CT E yX0_isEmpty (.code yX0_isEmpty cX0_isEmpty 1 (some .boolean)) rm_X0_isEmpty [tR (some (h0))] σ (some (tI r)) σ1 := by
  refine CT.mk hE (by decide +kernel) (Nat.le_of_ble_eq_true rfl) [(0, tR (some (h0)))] rfl (fun X C hin hx hxn => ?_)
  have C : XOK E X cX0_isEmpty RX0 1 (some .boolean) rm_X0_isEmpty := C
  unfold s_X0_isEmpty at h
  refine g_aload_n (pc := 0) C 0 0 dX0_isEmpty_0 rfl rfl ?_
  obtain ⟨v1, hvv1, h⟩ := zbind h
  refine g_getI (N := 2) (pc := 1) C ck_0 hvv1 rfl rfl fl_X0_15 dX0_isEmpty_1 ?_
  refine g_if_gt (pc := 4) C 11 dX0_isEmpty_4 (by decide) (fun c2 => ?_) (fun c2 => ?_)
  · have h := zif_t c2 h
    refine g_iconst (v := 0) (pc := 11) C dX0_isEmpty_11 (by decide) ?_
    obtain ⟨rfl, rfl⟩ := zsome h
    exact g_zret (pc := 12) C rfl hx (by decide) (by rw [hxn]; rfl) (by rw [hxn]; rfl) dX0_isEmpty_12
  · have h := zif_f c2 h
    refine g_iconst (v := 1) (pc := 7) C dX0_isEmpty_7 (by decide) ?_
    refine g_goto (pc := 8) C 12 dX0_isEmpty_8 (by decide) ?_
    obtain ⟨rfl, rfl⟩ := zsome h
    exact g_zret (pc := 12) C rfl hx (by decide) (by rw [hxn]; rfl) (by rw [hxn]; rfl) dX0_isEmpty_12
def rm_X0_clear : Room := { frames := 0, cells := 0, slots := 0, locals := 0 }
noncomputable def s_X0_clear (h0 : Nat) (σ : Hp) : Option (Unit × Hp) :=
  (wrI 0 σ h0 1 (0)).bind fun σ1 =>
  some ((), σ1)
set_option maxRecDepth 100000 in
theorem c_X0_clear {E : E0} (hE : EOK E) {h0 : Nat} {σ σ1 : Hp} {r : Unit} (h : s_X0_clear h0 σ = some (r, σ1)) : CT E yX0_clear (.code yX0_clear cX0_clear 1 none) rm_X0_clear [tR (some (h0))] σ none σ1 := by
  refine CT.mk hE (by decide +kernel) (Nat.le_of_ble_eq_true rfl) [(0, tR (some (h0)))] rfl (fun X C hin hx hxn => ?_)
  have C : XOK E X cX0_clear RX0 1 none rm_X0_clear := C
  unfold s_X0_clear at h
  refine g_aload_n (pc := 0) C 0 0 dX0_clear_0 rfl rfl ?_
  refine g_iconst (v := 0) (pc := 1) C dX0_clear_1 (by decide) ?_
  obtain ⟨σ1, hvσ1, h⟩ := zbind h
  refine g_putI (N := 2) (pc := 2) C ⟨ck_0, rfl, tyX0_ok⟩ hvσ1 rfl fl_X0_15 rfl rfl dX0_clear_2 ?_
  obtain ⟨rfl, rfl⟩ := zsome h
  exact g_vret (pc := 5) C rfl hx (by rw [hxn]; rfl) (by rw [hxn]; rfl) dX0_clear_5
def rm_X8_copyRow : Room := { frames := 1, cells := 0, slots := 0, locals := 60 }
noncomputable def s_X8_copyRow (p0 : Option Nat) (p1 : Option Nat) (σ : Hp) : Option (Unit × Hp) :=
  (p0).bind fun a1 =>
  (lnA 11 σ a1).bind fun v2 =>
  (p1).bind fun a3 =>
  (lnA 11 σ a3).bind fun v4 =>
  (acopy σ a1 (0) a3 (0) (if v4 < v2 then v4 else v2)).bind fun σ5 =>
  some ((), σ5)
set_option maxRecDepth 100000 in
theorem c_X8_copyRow {E : E0} (hE : EOK E) {p0 : Option Nat} {p1 : Option Nat} {σ σ1 : Hp} {r : Unit} (h : s_X8_copyRow p0 p1 σ = some (r, σ1)) : CT E yX8_copyRow (.code yX8_copyRow cX8_copyRow 2 none) rm_X8_copyRow [tR (p0), tR (p1)] σ none σ1 := by
  refine CT.mk hE (by decide +kernel) (Nat.le_of_ble_eq_true rfl) [(0, tR (p0)), (1, tR (p1))] rfl (fun X C hin hx hxn => ?_)
  have C : XOK E X cX8_copyRow RX8 2 none rm_X8_copyRow := C
  unfold s_X8_copyRow at h
  refine g_aload_n (pc := 0) C 0 0 dX8_copyRow_0 rfl rfl ?_
  refine g_iconst (v := 0) (pc := 1) C dX8_copyRow_1 (by decide) ?_
  refine g_aload_n (pc := 2) C 1 1 dX8_copyRow_2 rfl rfl ?_
  refine g_iconst (v := 0) (pc := 3) C dX8_copyRow_3 (by decide) ?_
  refine g_aload_n (pc := 4) C 0 0 dX8_copyRow_4 rfl rfl ?_
  obtain ⟨a1, hqa1, h9⟩ := zbind h
  clear h
  subst hqa1
  have h := h9
  clear h9
  obtain ⟨v2, hvv2, h⟩ := zbind h
  refine g_alen (c := 11) (pc := 5) C (by decide) hvv2 dX8_copyRow_5 ?_
  refine g_aload_n (pc := 6) C 1 1 dX8_copyRow_6 rfl rfl ?_
  obtain ⟨a3, hqa3, h9⟩ := zbind h
  clear h
  subst hqa3
  have h := h9
  clear h9
  obtain ⟨v4, hvv4, h⟩ := zbind h
  refine g_alen (c := 11) (pc := 7) C (by decide) hvv4 dX8_copyRow_7 ?_
  refine g_mmin (pc := 8) C ml_X8_404 ⟨Nat.le_of_ble_eq_true rfl, Nat.le_of_ble_eq_true rfl⟩ ⟨Nat.le_of_ble_eq_true rfl, Nat.le_of_ble_eq_true rfl⟩ dX8_copyRow_8 ?_
  obtain ⟨σ5, hvσ5, h⟩ := zbind h
  refine g_acopy (pc := 11) C hvσ5 ml_X8_409 ⟨Nat.le_of_ble_eq_true rfl, Nat.le_of_ble_eq_true rfl⟩ dX8_copyRow_11 ?_
  obtain ⟨rfl, rfl⟩ := zsome h
  exact g_vret (pc := 14) C rfl hx (by rw [hxn]; rfl) (by rw [hxn]; rfl) dX8_copyRow_14
def rm_X0_copyFrom : Room := { frames := 2, cells := 0, slots := 0, locals := 81 }
noncomputable def s_X0_copyFrom (h0 : Nat) (p1 : Option Nat) (σ : Hp) : Option (Unit × Hp) :=
  (p1).bind fun a1 =>
  (rdR 0 σ a1 0).bind fun r2 =>
  (rdR 0 σ h0 0).bind fun r3 =>
  cb (s_X8_copyRow (r2) (r3) σ) fun v5 σ4 =>
  (rdI 0 σ4 a1 1).bind fun v6 =>
  (wrI 0 σ4 h0 1 (v6)).bind fun σ7 =>
  some ((), σ7)
set_option maxRecDepth 100000 in
theorem c_X0_copyFrom {E : E0} (hE : EOK E) {h0 : Nat} {p1 : Option Nat} {σ σ1 : Hp} {r : Unit} (h : s_X0_copyFrom h0 p1 σ = some (r, σ1)) : CT E yX0_copyFrom (.code yX0_copyFrom cX0_copyFrom 2 none) rm_X0_copyFrom [tR (some (h0)), tR (p1)] σ none σ1 := by
  refine CT.mk hE (by decide +kernel) (Nat.le_of_ble_eq_true rfl) [(0, tR (some (h0))), (1, tR (p1))] rfl (fun X C hin hx hxn => ?_)
  have C : XOK E X cX0_copyFrom RX0 2 none rm_X0_copyFrom := C
  unfold s_X0_copyFrom at h
  refine g_aload_n (pc := 0) C 1 1 dX0_copyFrom_0 rfl rfl ?_
  obtain ⟨a1, hqa1, h9⟩ := zbind h
  clear h
  subst hqa1
  have h := h9
  clear h9
  obtain ⟨r2, hvr2, h⟩ := zbind h
  refine g_getR (N := 2) (pc := 1) C ck_0 hvr2 rfl rfl fl_X0_11 dX0_copyFrom_1 ?_
  refine g_aload_n (pc := 4) C 0 0 dX0_copyFrom_4 rfl rfl ?_
  obtain ⟨r3, hvr3, h⟩ := zbind h
  refine g_getR (N := 2) (pc := 5) C ck_0 hvr3 rfl rfl fl_X0_11 dX0_copyFrom_5 ?_
  obtain ⟨v5, σ4, hvσ4, h⟩ := zcb h
  refine g_callSN (pc := 8) (av := [tR (r2), tR (r3)]) C (c_X8_copyRow hE hvσ4) ys_X8_copyRow ml_X0_19 rfl (rf_of (by decide)) rfl (Nat.le_of_ble_eq_true rfl) dX0_copyFrom_8 ?_
  refine g_aload_n (pc := 11) C 0 0 dX0_copyFrom_11 rfl rfl ?_
  refine g_aload_n (pc := 12) C 1 1 dX0_copyFrom_12 rfl rfl ?_
  obtain ⟨v6, hvv6, h⟩ := zbind h
  refine g_getI (N := 2) (pc := 13) C ck_0 hvv6 rfl rfl fl_X0_15 dX0_copyFrom_13 ?_
  obtain ⟨σ7, hvσ7, h⟩ := zbind h
  refine g_putI (N := 2) (pc := 16) C ⟨ck_0, rfl, tyX0_ok⟩ hvσ7 rfl fl_X0_15 rfl rfl dX0_copyFrom_16 ?_
  obtain ⟨rfl, rfl⟩ := zsome h
  exact g_vret (pc := 19) C rfl hx (by rw [hxn]; rfl) (by rw [hxn]; rfl) dX0_copyFrom_19
def rm_X0_add : Room := { frames := 1, cells := 0, slots := 0, locals := 60 }
noncomputable def s_X0_add_j54 (h0 : Nat) (l1 : Int32) (l2 : Int32) (l3 : Int32) (l4 : Option Nat) (σ : Hp) : Option (Unit × Hp) :=
  (rdI 0 σ h0 1).bind fun v1 =>
  (rdR 0 σ h0 0).bind fun r2 =>
  (r2).bind fun a3 =>
  (stI σ a3 ((v1 * 7) + 0) (l1)).bind fun σ4 =>
  (rdR 0 σ4 h0 0).bind fun r5 =>
  (r5).bind fun a6 =>
  (stI σ4 a6 ((v1 * 7) + 1) (l2)).bind fun σ7 =>
  (rdR 0 σ7 h0 0).bind fun r8 =>
  (r8).bind fun a9 =>
  (stI σ7 a9 ((v1 * 7) + 2) (l3)).bind fun σ10 =>
  (rdR 0 σ10 h0 0).bind fun r11 =>
  (l4).bind fun a12 =>
  (rdI 1 σ10 a12 18).bind fun v13 =>
  (r11).bind fun a14 =>
  (stI σ10 a14 ((v1 * 7) + 3) (v13)).bind fun σ15 =>
  (rdR 1 σ15 a12 4).bind fun r16 =>
  (rdR 0 σ15 h0 0).bind fun r17 =>
  (r16).bind fun a18 =>
  (r17).bind fun a19 =>
  (acopy σ15 a18 (0) a19 ((v1 * 7) + 4) (3)).bind fun σ20 =>
  (rdI 0 σ20 h0 1).bind fun v21 =>
  (wrI 0 σ20 h0 1 (v21 + 1)).bind fun σ22 =>
  some ((), σ22)
set_option maxRecDepth 100000 in
theorem w_X0_add_j54 {E : E0} (hE : EOK E) {X : X0} (C : XOK E X cX0_add RX0 6 none rm_X0_add) (hxn : xn X = (rm_X0_add.cells, rm_X0_add.slots)) (h0 : Nat) (l1 : Int32) (l2 : Int32) (l3 : Int32) (l4 : Option Nat) (σ : Hp) (r : Unit) (σ1 : Hp) (h : s_X0_add_j54 h0 l1 l2 l3 l4 σ = some (r, σ1)) (hx : xd X = (none, σ1)) : G E X 0 0 54 [(0, tR (some (h0))), (1, tI (l1)), (2, tI (l2)), (3, tI (l3)), (4, tR (l4))] [] σ := by
  unfold s_X0_add_j54 at h
  refine g_aload_n (pc := 54) C 0 0 dX0_add_54 rfl rfl ?_
  obtain ⟨v1, hvv1, h⟩ := zbind h
  refine g_getI (N := 2) (pc := 55) C ck_0 hvv1 rfl rfl fl_X0_15 dX0_add_55 ?_
  refine g_bipush (v := 7) (pc := 58) C dX0_add_58 (by decide) ?_
  refine g_imul (pc := 60) C dX0_add_60 ?_
  refine g_istore (lm' := [(5, tI (v1 * 7)), (0, tR (some (h0))), (1, tI (l1)), (2, tI (l2)), (3, tI (l3)), (4, tR (l4))]) (pc := 61) C dX0_add_61 (by decide) rfl ?_
  refine g_aload_n (pc := 63) C 0 1 dX0_add_63 rfl rfl ?_
  obtain ⟨r2, hvr2, h⟩ := zbind h
  refine g_getR (N := 2) (pc := 64) C ck_0 hvr2 rfl rfl fl_X0_11 dX0_add_64 ?_
  refine g_iload (pc := 67) C 0 dX0_add_67 rfl ?_
  refine g_iconst (v := 0) (pc := 69) C dX0_add_69 (by decide) ?_
  refine g_iadd (pc := 70) C dX0_add_70 ?_
  refine g_iload_n (pc := 71) C 1 2 dX0_add_71 rfl rfl ?_
  obtain ⟨a3, hqa3, h9⟩ := zbind h
  clear h
  subst hqa3
  have h := h9
  clear h9
  obtain ⟨σ4, hvσ4, h⟩ := zbind h
  refine g_iast (pc := 72) C hvσ4 dX0_add_72 ?_
  refine g_aload_n (pc := 73) C 0 1 dX0_add_73 rfl rfl ?_
  obtain ⟨r5, hvr5, h⟩ := zbind h
  refine g_getR (N := 2) (pc := 74) C ck_0 hvr5 rfl rfl fl_X0_11 dX0_add_74 ?_
  refine g_iload (pc := 77) C 0 dX0_add_77 rfl ?_
  refine g_iconst (v := 1) (pc := 79) C dX0_add_79 (by decide) ?_
  refine g_iadd (pc := 80) C dX0_add_80 ?_
  refine g_iload_n (pc := 81) C 2 3 dX0_add_81 rfl rfl ?_
  obtain ⟨a6, hqa6, h9⟩ := zbind h
  clear h
  subst hqa6
  have h := h9
  clear h9
  obtain ⟨σ7, hvσ7, h⟩ := zbind h
  refine g_iast (pc := 82) C hvσ7 dX0_add_82 ?_
  refine g_aload_n (pc := 83) C 0 1 dX0_add_83 rfl rfl ?_
  obtain ⟨r8, hvr8, h⟩ := zbind h
  refine g_getR (N := 2) (pc := 84) C ck_0 hvr8 rfl rfl fl_X0_11 dX0_add_84 ?_
  refine g_iload (pc := 87) C 0 dX0_add_87 rfl ?_
  refine g_iconst (v := 2) (pc := 89) C dX0_add_89 (by decide) ?_
  refine g_iadd (pc := 90) C dX0_add_90 ?_
  refine g_iload_n (pc := 91) C 3 4 dX0_add_91 rfl rfl ?_
  obtain ⟨a9, hqa9, h9⟩ := zbind h
  clear h
  subst hqa9
  have h := h9
  clear h9
  obtain ⟨σ10, hvσ10, h⟩ := zbind h
  refine g_iast (pc := 92) C hvσ10 dX0_add_92 ?_
  refine g_aload_n (pc := 93) C 0 1 dX0_add_93 rfl rfl ?_
  obtain ⟨r11, hvr11, h⟩ := zbind h
  refine g_getR (N := 2) (pc := 94) C ck_0 hvr11 rfl rfl fl_X0_11 dX0_add_94 ?_
  refine g_iload (pc := 97) C 0 dX0_add_97 rfl ?_
  refine g_iconst (v := 3) (pc := 99) C dX0_add_99 (by decide) ?_
  refine g_iadd (pc := 100) C dX0_add_100 ?_
  refine g_aload (pc := 101) C 5 dX0_add_101 rfl ?_
  obtain ⟨a12, hqa12, h9⟩ := zbind h
  clear h
  subst hqa12
  have h := h9
  clear h9
  obtain ⟨v13, hvv13, h⟩ := zbind h
  refine g_getI (N := 20) (pc := 103) C ck_1 hvv13 rfl rfl fl_X0_23 dX0_add_103 ?_
  obtain ⟨a14, hqa14, h9⟩ := zbind h
  clear h
  subst hqa14
  have h := h9
  clear h9
  obtain ⟨σ15, hvσ15, h⟩ := zbind h
  refine g_iast (pc := 106) C hvσ15 dX0_add_106 ?_
  refine g_aload (pc := 107) C 5 dX0_add_107 rfl ?_
  obtain ⟨r16, hvr16, h⟩ := zbind h
  refine g_getR (N := 20) (pc := 109) C ck_1 hvr16 rfl rfl fl_X0_28 dX0_add_109 ?_
  refine g_iconst (v := 0) (pc := 112) C dX0_add_112 (by decide) ?_
  refine g_aload_n (pc := 113) C 0 1 dX0_add_113 rfl rfl ?_
  obtain ⟨r17, hvr17, h⟩ := zbind h
  refine g_getR (N := 2) (pc := 114) C ck_0 hvr17 rfl rfl fl_X0_11 dX0_add_114 ?_
  refine g_iload (pc := 117) C 0 dX0_add_117 rfl ?_
  refine g_iconst (v := 4) (pc := 119) C dX0_add_119 (by decide) ?_
  refine g_iadd (pc := 120) C dX0_add_120 ?_
  refine g_iconst (v := 3) (pc := 121) C dX0_add_121 (by decide) ?_
  obtain ⟨a18, hqa18, h9⟩ := zbind h
  clear h
  subst hqa18
  have h := h9
  clear h9
  obtain ⟨a19, hqa19, h9⟩ := zbind h
  clear h
  subst hqa19
  have h := h9
  clear h9
  obtain ⟨σ20, hvσ20, h⟩ := zbind h
  refine g_acopy (pc := 122) C hvσ20 ml_X0_31 ⟨Nat.le_of_ble_eq_true rfl, Nat.le_of_ble_eq_true rfl⟩ dX0_add_122 ?_
  refine g_aload_n (pc := 125) C 0 1 dX0_add_125 rfl rfl ?_
  refine g_dup (pc := 126) C dX0_add_126 rfl ?_
  obtain ⟨v21, hvv21, h⟩ := zbind h
  refine g_getI (N := 2) (pc := 127) C ck_0 hvv21 rfl rfl fl_X0_15 dX0_add_127 ?_
  refine g_iconst (v := 1) (pc := 130) C dX0_add_130 (by decide) ?_
  refine g_iadd (pc := 131) C dX0_add_131 ?_
  obtain ⟨σ22, hvσ22, h⟩ := zbind h
  refine g_putI (N := 2) (pc := 132) C ⟨ck_0, rfl, tyX0_ok⟩ hvσ22 rfl fl_X0_15 rfl rfl dX0_add_132 ?_
  obtain ⟨rfl, rfl⟩ := zsome h
  exact g_vret (pc := 135) C rfl hx (by rw [hxn]; rfl) (by rw [hxn]; rfl) dX0_add_135
noncomputable def s_X0_add_b12 (h0 : Nat) (l1 : Int32) (l2 : Int32) (l3 : Int32) (l4 : Option Nat) (l5 : Int32) (σ : Hp) : Option (((Nat × Int32 × Int32 × Int32 × (Option Nat) × Int32) ⊕ ((Nat × Int32 × Int32 × Int32 × (Option Nat)))) × Hp) :=
  (rdR 0 σ h0 0).bind fun r1 =>
  (r1).bind fun a2 =>
  (lnA 11 σ a2).bind fun v3 =>
  if v3 ≤ (l5 + 7) then
    some (Sum.inr ((h0), (l1), (l2), (l3), (l4)), σ)
  else
    (rdR 0 σ h0 0).bind fun r4 =>
    (rdR 0 σ h0 0).bind fun r5 =>
    (r5).bind fun a6 =>
    (ldI 11 σ a6 (l5 + 7)).bind fun v7 =>
    (r4).bind fun a8 =>
    (stI σ a8 (l5) (v7)).bind fun σ9 =>
    some (Sum.inl ((h0), (l1), (l2), (l3), (l4), (l5 + 1)), σ9)
noncomputable def s_X0_add_l12 : (Nat × Int32 × Int32 × Int32 × (Option Nat) × Int32) → Hp → Option (((Nat × Int32 × Int32 × Int32 × (Option Nat))) × Hp) := loopF (fun v => s_X0_add_b12 (v.1) (v.2.1) (v.2.2.1) (v.2.2.2.1) (v.2.2.2.2.1) (v.2.2.2.2.2))
set_option maxRecDepth 100000 in
theorem w_X0_add_b12 {E : E0} (hE : EOK E) {X : X0} (C : XOK E X cX0_add RX0 6 none rm_X0_add) (hxn : xn X = (rm_X0_add.cells, rm_X0_add.slots)) {KE : ((Nat × Int32 × Int32 × Int32 × (Option Nat))) → Hp → Prop} (e_48 : ∀ (h0 : Nat) (l1 : Int32) (l2 : Int32) (l3 : Int32) (l4 : Option Nat) (σ : Hp), KE ((h0, l1, l2, l3, l4)) σ → G E X 0 0 48 [(0, tR (some (h0))), (1, tI (l1)), (2, tI (l2)), (3, tI (l3)), (4, tR (l4))] [] σ) (h0 : Nat) (l1 : Int32) (l2 : Int32) (l3 : Int32) (l4 : Option Nat) (l5 : Int32) (σ : Hp) (x : (Nat × Int32 × Int32 × Int32 × (Option Nat) × Int32) ⊕ ((Nat × Int32 × Int32 × Int32 × (Option Nat)))) (σ1 : Hp) (h : s_X0_add_b12 h0 l1 l2 l3 l4 l5 σ = some (x, σ1)) (hI : ∀ v, x = Sum.inl v → (fun (v : Nat × Int32 × Int32 × Int32 × (Option Nat) × Int32) (σ : Hp) => G E X 0 0 12 [(0, tR (some ((v.1)))), (1, tI ((v.2.1))), (2, tI ((v.2.2.1))), (3, tI ((v.2.2.2.1))), (4, tR ((v.2.2.2.2.1))), (5, tI ((v.2.2.2.2.2)))] [] σ) v σ1) (hO : ∀ e, x = Sum.inr e → KE e σ1) : G E X 0 0 12 [(0, tR (some (h0))), (1, tI (l1)), (2, tI (l2)), (3, tI (l3)), (4, tR (l4)), (5, tI (l5))] [] σ := by
  unfold s_X0_add_b12 at h
  refine g_iload (pc := 12) C 5 dX0_add_12 rfl ?_
  refine g_bipush (v := 7) (pc := 14) C dX0_add_14 (by decide) ?_
  refine g_iadd (pc := 16) C dX0_add_16 ?_
  refine g_aload_n (pc := 17) C 0 0 dX0_add_17 rfl rfl ?_
  obtain ⟨r1, hvr1, h⟩ := zbind h
  refine g_getR (N := 2) (pc := 18) C ck_0 hvr1 rfl rfl fl_X0_11 dX0_add_18 ?_
  obtain ⟨a2, hqa2, h9⟩ := zbind h
  clear h
  subst hqa2
  have h := h9
  clear h9
  obtain ⟨v3, hvv3, h⟩ := zbind h
  refine g_alen (c := 11) (pc := 21) C (by decide) hvv3 dX0_add_21 ?_
  refine g_icmp_ge (pc := 22) C 48 dX0_add_22 (by decide) (fun c10 => ?_) (fun c10 => ?_)
  · have h := zif_t c10 h
    refine g_sub [0, 1, 2, 3, 4] (lm' := [(0, tR (some (h0))), (1, tI (l1)), (2, tI (l2)), (3, tI (l3)), (4, tR (l4))]) rfl ?_
    obtain ⟨rfl, rfl⟩ := zsome h
    exact e_48 _ _ _ _ _ _ (hO _ rfl)
  · have h := zif_f c10 h
    refine g_aload_n (pc := 25) C 0 0 dX0_add_25 rfl rfl ?_
    obtain ⟨r4, hvr4, h⟩ := zbind h
    refine g_getR (N := 2) (pc := 26) C ck_0 hvr4 rfl rfl fl_X0_11 dX0_add_26 ?_
    refine g_iload (pc := 29) C 5 dX0_add_29 rfl ?_
    refine g_aload_n (pc := 31) C 0 0 dX0_add_31 rfl rfl ?_
    obtain ⟨r5, hvr5, h⟩ := zbind h
    refine g_getR (N := 2) (pc := 32) C ck_0 hvr5 rfl rfl fl_X0_11 dX0_add_32 ?_
    refine g_iload (pc := 35) C 5 dX0_add_35 rfl ?_
    refine g_bipush (v := 7) (pc := 37) C dX0_add_37 (by decide) ?_
    refine g_iadd (pc := 39) C dX0_add_39 ?_
    obtain ⟨a6, hqa6, h9⟩ := zbind h
    clear h
    subst hqa6
    have h := h9
    clear h9
    obtain ⟨v7, hvv7, h⟩ := zbind h
    refine g_iald (pc := 40) C hvv7 dX0_add_40 ?_
    obtain ⟨a8, hqa8, h9⟩ := zbind h
    clear h
    subst hqa8
    have h := h9
    clear h9
    obtain ⟨σ9, hvσ9, h⟩ := zbind h
    refine g_iast (pc := 41) C hvσ9 dX0_add_41 ?_
    refine g_iinc (lm' := [(5, tI (l5 + 1)), (0, tR (some (h0))), (1, tI (l1)), (2, tI (l2)), (3, tI (l3)), (4, tR (l4))]) (v := l5 + 1) (pc := 42) C 5 dX0_add_42 rfl rfl (by decide) rfl ?_
    refine g_goto (pc := 45) C 12 dX0_add_45 (by decide) ?_
    refine g_sub [1, 2, 3, 4, 5, 0] (lm' := [(0, tR (some (h0))), (1, tI (l1)), (2, tI (l2)), (3, tI (l3)), (4, tR (l4)), (5, tI (l5 + 1))]) rfl ?_
    obtain ⟨rfl, rfl⟩ := zsome h
    exact hI _ rfl
theorem w_X0_add_l12 {E : E0} (hE : EOK E) {X : X0} (C : XOK E X cX0_add RX0 6 none rm_X0_add) (hxn : xn X = (rm_X0_add.cells, rm_X0_add.slots)) {KE : ((Nat × Int32 × Int32 × Int32 × (Option Nat))) → Hp → Prop} (e_48 : ∀ (h0 : Nat) (l1 : Int32) (l2 : Int32) (l3 : Int32) (l4 : Option Nat) (σ : Hp), KE ((h0, l1, l2, l3, l4)) σ → G E X 0 0 48 [(0, tR (some (h0))), (1, tI (l1)), (2, tI (l2)), (3, tI (l3)), (4, tR (l4))] [] σ) {v : Nat × Int32 × Int32 × Int32 × (Option Nat) × Int32} {σ : Hp} {e : (Nat × Int32 × Int32 × Int32 × (Option Nat))} {σ1 : Hp} (h : s_X0_add_l12 v σ = some (e, σ1)) (hO : KE e σ1) : G E X 0 0 12 [(0, tR (some ((v.1)))), (1, tI ((v.2.1))), (2, tI ((v.2.2.1))), (3, tI ((v.2.2.2.1))), (4, tR ((v.2.2.2.2.1))), (5, tI ((v.2.2.2.2.2)))] [] σ := loopF_ind (P := fun (v : Nat × Int32 × Int32 × Int32 × (Option Nat) × Int32) (σ : Hp) => G E X 0 0 12 [(0, tR (some ((v.1)))), (1, tI ((v.2.1))), (2, tI ((v.2.2.1))), (3, tI ((v.2.2.2.1))), (4, tR ((v.2.2.2.2.1))), (5, tI ((v.2.2.2.2.2)))] [] σ) (KE := KE) (fun v σ x σ1 h hI hO => w_X0_add_b12 hE C hxn e_48 (v.1) (v.2.1) (v.2.2.1) (v.2.2.2.1) (v.2.2.2.2.1) (v.2.2.2.2.2) σ x σ1 h hI hO) v σ e σ1 h hO
noncomputable def s_X0_add (h0 : Nat) (p1 : Int32) (p2 : Int32) (p3 : Int32) (p4 : Option Nat) (σ : Hp) : Option (Unit × Hp) :=
  (rdI 0 σ h0 1).bind fun v1 =>
  if v1 < 16 then
    s_X0_add_j54 (h0) (p1) (p2) (p3) (p4) σ
  else
    cb (s_X0_add_l12 ((h0), (p1), (p2), (p3), (p4), (0)) σ) fun e11 σ10 =>
    match e11 with
    | (h2, l13, l24, l35, l46) =>
      (wrI 0 σ10 h2 1 (15)).bind fun σ8 =>
      s_X0_add_j54 (h2) (l13) (l24) (l35) (l46) σ8
set_option maxRecDepth 100000 in
theorem c_X0_add {E : E0} (hE : EOK E) {h0 : Nat} {p1 : Int32} {p2 : Int32} {p3 : Int32} {p4 : Option Nat} {σ σ1 : Hp} {r : Unit} (h : s_X0_add h0 p1 p2 p3 p4 σ = some (r, σ1)) : CT E yX0_add (.code yX0_add cX0_add 6 none) rm_X0_add [tR (some (h0)), tI (p1), tI (p2), tI (p3), tR (p4)] σ none σ1 := by
  refine CT.mk hE (by decide +kernel) (Nat.le_of_ble_eq_true rfl) [(0, tR (some (h0))), (1, tI (p1)), (2, tI (p2)), (3, tI (p3)), (4, tR (p4))] rfl (fun X C hin hx hxn => ?_)
  have C : XOK E X cX0_add RX0 6 none rm_X0_add := C
  unfold s_X0_add at h
  refine g_aload_n (pc := 0) C 0 0 dX0_add_0 rfl rfl ?_
  obtain ⟨v1, hvv1, h⟩ := zbind h
  refine g_getI (N := 2) (pc := 1) C ck_0 hvv1 rfl rfl fl_X0_15 dX0_add_1 ?_
  refine g_bipush (v := 16) (pc := 4) C dX0_add_4 (by decide) ?_
  refine g_icmp_lt (pc := 6) C 54 dX0_add_6 (by decide) (fun c12 => ?_) (fun c12 => ?_)
  · have h := zif_t c12 h
    exact w_X0_add_j54 hE C hxn _ _ _ _ _ _ _ _ h hx
  · have h := zif_f c12 h
    refine g_iconst (v := 0) (pc := 9) C dX0_add_9 (by decide) ?_
    refine g_istore (lm' := [(5, tI (0)), (0, tR (some (h0))), (1, tI (p1)), (2, tI (p2)), (3, tI (p3)), (4, tR (p4))]) (pc := 10) C dX0_add_10 (by decide) rfl ?_
    refine g_sub [1, 2, 3, 4, 5, 0] (lm' := [(0, tR (some (h0))), (1, tI (p1)), (2, tI (p2)), (3, tI (p3)), (4, tR (p4)), (5, tI (0))]) rfl ?_
    obtain ⟨KQ, hKQ, e11, σ10, hle11, h⟩ := zcbK h
    refine w_X0_add_l12 (KE := KQ) hE C hxn ?_ hle11 h
    · intro h2 l13 l24 l35 l46 σ7 h
      have h := (hKQ _ _).mp h
      refine g_aload_n (pc := 48) C 0 0 dX0_add_48 rfl rfl ?_
      refine g_bipush (v := 15) (pc := 49) C dX0_add_49 (by decide) ?_
      obtain ⟨σ8, hvσ8, h⟩ := zbind h
      refine g_putI (N := 2) (pc := 51) C ⟨ck_0, rfl, tyX0_ok⟩ hvσ8 rfl fl_X0_15 rfl rfl dX0_add_51 ?_
      exact w_X0_add_j54 hE C hxn _ _ _ _ _ _ _ _ h hx
def rm_X1_isFolk : Room := { frames := 0, cells := 0, slots := 0, locals := 0 }
noncomputable def s_X1_isFolk (h0 : Nat) (p1 : Int32) (σ : Hp) : Option (Int32 × Hp) :=
  if p1 < 0 then
    some ((0), σ)
  else
    (rdI 1 σ h0 13).bind fun v1 =>
    if v1 ≤ p1 then
      some ((0), σ)
    else
      if 4 ≤ p1 then
        some ((0), σ)
      else
        some ((1), σ)
set_option maxRecDepth 100000 in
theorem c_X1_isFolk {E : E0} (hE : EOK E) {h0 : Nat} {p1 : Int32} {σ σ1 : Hp} {r : Int32} (h : s_X1_isFolk h0 p1 σ = some (r, σ1)) : CT E yX1_isFolk (.code yX1_isFolk cX1_isFolk 2 (some .boolean)) rm_X1_isFolk [tR (some (h0)), tI (p1)] σ (some (tI r)) σ1 := by
  refine CT.mk hE (by decide +kernel) (Nat.le_of_ble_eq_true rfl) [(0, tR (some (h0))), (1, tI (p1))] rfl (fun X C hin hx hxn => ?_)
  have C : XOK E X cX1_isFolk RX1 2 (some .boolean) rm_X1_isFolk := C
  unfold s_X1_isFolk at h
  refine g_iload_n (pc := 0) C 1 1 dX1_isFolk_0 rfl rfl ?_
  refine g_if_lt (pc := 1) C 21 dX1_isFolk_1 (by decide) (fun c4 => ?_) (fun c4 => ?_)
  · have h := zif_t c4 h
    refine g_iconst (v := 0) (pc := 21) C dX1_isFolk_21 (by decide) ?_
    obtain ⟨rfl, rfl⟩ := zsome h
    exact g_zret (pc := 22) C rfl hx (by decide) (by rw [hxn]; rfl) (by rw [hxn]; rfl) dX1_isFolk_22
  · have h := zif_f c4 h
    refine g_iload_n (pc := 4) C 1 1 dX1_isFolk_4 rfl rfl ?_
    refine g_aload_n (pc := 5) C 0 0 dX1_isFolk_5 rfl rfl ?_
    obtain ⟨v1, hvv1, h⟩ := zbind h
    refine g_getI (N := 20) (pc := 6) C ck_1 hvv1 rfl rfl fl_X1_62 dX1_isFolk_6 ?_
    refine g_icmp_ge (pc := 9) C 21 dX1_isFolk_9 (by decide) (fun c3 => ?_) (fun c3 => ?_)
    · have h := zif_t c3 h
      refine g_iconst (v := 0) (pc := 21) C dX1_isFolk_21 (by decide) ?_
      obtain ⟨rfl, rfl⟩ := zsome h
      exact g_zret (pc := 22) C rfl hx (by decide) (by rw [hxn]; rfl) (by rw [hxn]; rfl) dX1_isFolk_22
    · have h := zif_f c3 h
      refine g_iload_n (pc := 12) C 1 1 dX1_isFolk_12 rfl rfl ?_
      refine g_iconst (v := 4) (pc := 13) C dX1_isFolk_13 (by decide) ?_
      refine g_icmp_ge (pc := 14) C 21 dX1_isFolk_14 (by decide) (fun c2 => ?_) (fun c2 => ?_)
      · have h := zif_t c2 h
        refine g_iconst (v := 0) (pc := 21) C dX1_isFolk_21 (by decide) ?_
        obtain ⟨rfl, rfl⟩ := zsome h
        exact g_zret (pc := 22) C rfl hx (by decide) (by rw [hxn]; rfl) (by rw [hxn]; rfl) dX1_isFolk_22
      · have h := zif_f c2 h
        refine g_iconst (v := 1) (pc := 17) C dX1_isFolk_17 (by decide) ?_
        refine g_goto (pc := 18) C 22 dX1_isFolk_18 (by decide) ?_
        obtain ⟨rfl, rfl⟩ := zsome h
        exact g_zret (pc := 22) C rfl hx (by decide) (by rw [hxn]; rfl) (by rw [hxn]; rfl) dX1_isFolk_22
def rm_X1_isThing : Room := { frames := 0, cells := 0, slots := 0, locals := 0 }
noncomputable def s_X1_isThing (h0 : Nat) (p1 : Int32) (σ : Hp) : Option (Int32 × Hp) :=
  if p1 < 0 then
    some ((0), σ)
  else
    (rdI 1 σ h0 15).bind fun v1 =>
    if v1 ≤ p1 then
      some ((0), σ)
    else
      if 6 ≤ p1 then
        some ((0), σ)
      else
        some ((1), σ)
set_option maxRecDepth 100000 in
theorem c_X1_isThing {E : E0} (hE : EOK E) {h0 : Nat} {p1 : Int32} {σ σ1 : Hp} {r : Int32} (h : s_X1_isThing h0 p1 σ = some (r, σ1)) : CT E yX1_isThing (.code yX1_isThing cX1_isThing 2 (some .boolean)) rm_X1_isThing [tR (some (h0)), tI (p1)] σ (some (tI r)) σ1 := by
  refine CT.mk hE (by decide +kernel) (Nat.le_of_ble_eq_true rfl) [(0, tR (some (h0))), (1, tI (p1))] rfl (fun X C hin hx hxn => ?_)
  have C : XOK E X cX1_isThing RX1 2 (some .boolean) rm_X1_isThing := C
  unfold s_X1_isThing at h
  refine g_iload_n (pc := 0) C 1 1 dX1_isThing_0 rfl rfl ?_
  refine g_if_lt (pc := 1) C 22 dX1_isThing_1 (by decide) (fun c4 => ?_) (fun c4 => ?_)
  · have h := zif_t c4 h
    refine g_iconst (v := 0) (pc := 22) C dX1_isThing_22 (by decide) ?_
    obtain ⟨rfl, rfl⟩ := zsome h
    exact g_zret (pc := 23) C rfl hx (by decide) (by rw [hxn]; rfl) (by rw [hxn]; rfl) dX1_isThing_23
  · have h := zif_f c4 h
    refine g_iload_n (pc := 4) C 1 1 dX1_isThing_4 rfl rfl ?_
    refine g_aload_n (pc := 5) C 0 0 dX1_isThing_5 rfl rfl ?_
    obtain ⟨v1, hvv1, h⟩ := zbind h
    refine g_getI (N := 20) (pc := 6) C ck_1 hvv1 rfl rfl fl_X1_69 dX1_isThing_6 ?_
    refine g_icmp_ge (pc := 9) C 22 dX1_isThing_9 (by decide) (fun c3 => ?_) (fun c3 => ?_)
    · have h := zif_t c3 h
      refine g_iconst (v := 0) (pc := 22) C dX1_isThing_22 (by decide) ?_
      obtain ⟨rfl, rfl⟩ := zsome h
      exact g_zret (pc := 23) C rfl hx (by decide) (by rw [hxn]; rfl) (by rw [hxn]; rfl) dX1_isThing_23
    · have h := zif_f c3 h
      refine g_iload_n (pc := 12) C 1 1 dX1_isThing_12 rfl rfl ?_
      refine g_bipush (v := 6) (pc := 13) C dX1_isThing_13 (by decide) ?_
      refine g_icmp_ge (pc := 15) C 22 dX1_isThing_15 (by decide) (fun c2 => ?_) (fun c2 => ?_)
      · have h := zif_t c2 h
        refine g_iconst (v := 0) (pc := 22) C dX1_isThing_22 (by decide) ?_
        obtain ⟨rfl, rfl⟩ := zsome h
        exact g_zret (pc := 23) C rfl hx (by decide) (by rw [hxn]; rfl) (by rw [hxn]; rfl) dX1_isThing_23
      · have h := zif_f c2 h
        refine g_iconst (v := 1) (pc := 18) C dX1_isThing_18 (by decide) ?_
        refine g_goto (pc := 19) C 23 dX1_isThing_19 (by decide) ?_
        obtain ⟨rfl, rfl⟩ := zsome h
        exact g_zret (pc := 23) C rfl hx (by decide) (by rw [hxn]; rfl) (by rw [hxn]; rfl) dX1_isThing_23
def rm_X8_isRoom : Room := { frames := 0, cells := 0, slots := 0, locals := 0 }
noncomputable def s_X8_isRoom (p0 : Int64) (σ : Hp) : Option (Int32 × Hp) :=
  if (lg_cmp (p0 : Int64) (0 : Int64)) < 0 then
    some ((0), σ)
  else
    if 0 ≤ (lg_cmp (p0 : Int64) (6 : Int64)) then
      some ((0), σ)
    else
      some ((1), σ)
set_option maxRecDepth 100000 in
theorem c_X8_isRoom {E : E0} (hE : EOK E) {p0 : Int64} {σ σ1 : Hp} {r : Int32} (h : s_X8_isRoom p0 σ = some (r, σ1)) : CT E yX8_isRoom (.code yX8_isRoom cX8_isRoom 2 (some .boolean)) rm_X8_isRoom [tJ (p0)] σ (some (tI r)) σ1 := by
  refine CT.mk hE (by decide +kernel) (Nat.le_of_ble_eq_true rfl) [(0, tJ (p0))] rfl (fun X C hin hx hxn => ?_)
  have C : XOK E X cX8_isRoom RX8 2 (some .boolean) rm_X8_isRoom := C
  unfold s_X8_isRoom at h
  refine g_lload_n (pc := 0) C 0 0 dX8_isRoom_0 rfl rfl ?_
  refine g_lconst (v := 0) (pc := 1) C dX8_isRoom_1 (by decide) ?_
  refine g_lcmp (pc := 2) C dX8_isRoom_2 ?_
  refine g_if_lt (pc := 3) C 18 dX8_isRoom_3 (by decide) (fun c2 => ?_) (fun c2 => ?_)
  · have h := zif_t c2 h
    refine g_iconst (v := 0) (pc := 18) C dX8_isRoom_18 (by decide) ?_
    obtain ⟨rfl, rfl⟩ := zsome h
    exact g_zret (pc := 19) C rfl hx (by decide) (by rw [hxn]; rfl) (by rw [hxn]; rfl) dX8_isRoom_19
  · have h := zif_f c2 h
    refine g_lload_n (pc := 6) C 0 0 dX8_isRoom_6 rfl rfl ?_
    refine g_ldc2 (v := 6) (pc := 7) C dX8_isRoom_7 kl_X8_402 ?_
    refine g_lcmp (pc := 10) C dX8_isRoom_10 ?_
    refine g_if_ge (pc := 11) C 18 dX8_isRoom_11 (by decide) (fun c1 => ?_) (fun c1 => ?_)
    · have h := zif_t c1 h
      refine g_iconst (v := 0) (pc := 18) C dX8_isRoom_18 (by decide) ?_
      obtain ⟨rfl, rfl⟩ := zsome h
      exact g_zret (pc := 19) C rfl hx (by decide) (by rw [hxn]; rfl) (by rw [hxn]; rfl) dX8_isRoom_19
    · have h := zif_f c1 h
      refine g_iconst (v := 1) (pc := 14) C dX8_isRoom_14 (by decide) ?_
      refine g_goto (pc := 15) C 19 dX8_isRoom_15 (by decide) ?_
      obtain ⟨rfl, rfl⟩ := zsome h
      exact g_zret (pc := 19) C rfl hx (by decide) (by rw [hxn]; rfl) (by rw [hxn]; rfl) dX8_isRoom_19
def rm_X1_turnDoor : Room := { frames := 1, cells := 0, slots := 0, locals := 21 }
noncomputable def s_X1_turnDoor (h0 : Nat) (p1 : Int32) (p2 : Int32) (σ : Hp) : Option (Unit × Hp) :=
  cb (s_X8_isRoom (Int32.toInt64 (p1 : Int32)) σ) fun v2 σ1 =>
  if v2 = 0 then
    some ((), σ1)
  else
    cb (s_X8_isRoom (Int32.toInt64 (p2 : Int32)) σ1) fun v4 σ3 =>
    if v4 = 0 then
      some ((), σ3)
    else
      (rdR 1 σ3 h0 1).bind fun r5 =>
      (r5).bind fun a6 =>
      (ldI 11 σ3 a6 (p1)).bind fun v7 =>
      (stI σ3 a6 (p1) (v7 ^^^ ((1 : Int32) <<< (p2 &&& 31)))).bind fun σ8 =>
      (rdR 1 σ8 h0 1).bind fun r9 =>
      (r9).bind fun a10 =>
      (ldI 11 σ8 a10 (p2)).bind fun v11 =>
      (stI σ8 a10 (p2) (v11 ^^^ ((1 : Int32) <<< (p1 &&& 31)))).bind fun σ12 =>
      some ((), σ12)
set_option maxRecDepth 100000 in
theorem c_X1_turnDoor {E : E0} (hE : EOK E) {h0 : Nat} {p1 : Int32} {p2 : Int32} {σ σ1 : Hp} {r : Unit} (h : s_X1_turnDoor h0 p1 p2 σ = some (r, σ1)) : CT E yX1_turnDoor (.code yX1_turnDoor cX1_turnDoor 3 none) rm_X1_turnDoor [tR (some (h0)), tI (p1), tI (p2)] σ none σ1 := by
  refine CT.mk hE (by decide +kernel) (Nat.le_of_ble_eq_true rfl) [(0, tR (some (h0))), (1, tI (p1)), (2, tI (p2))] rfl (fun X C hin hx hxn => ?_)
  have C : XOK E X cX1_turnDoor RX1 3 none rm_X1_turnDoor := C
  unfold s_X1_turnDoor at h
  refine g_iload_n (pc := 0) C 1 1 dX1_turnDoor_0 rfl rfl ?_
  refine g_i2l (pc := 1) C dX1_turnDoor_1 ?_
  obtain ⟨v2, σ1, hvσ1, h⟩ := zcb h
  refine g_callSN (pc := 2) (av := [tJ (Int32.toInt64 (p1 : Int32))]) C (c_X8_isRoom hE hvσ1) ys_X8_isRoom ml_X1_92 rfl (rf_of (by decide)) rfl (Nat.le_of_ble_eq_true rfl) dX1_turnDoor_2 ?_
  refine g_if_eq (pc := 5) C 40 dX1_turnDoor_5 (by decide) (fun c14 => ?_) (fun c14 => ?_)
  · have h := zif_t c14 h
    obtain ⟨rfl, rfl⟩ := zsome h
    exact g_vret (pc := 40) C rfl hx (by rw [hxn]; rfl) (by rw [hxn]; rfl) dX1_turnDoor_40
  · have h := zif_f c14 h
    refine g_iload_n (pc := 8) C 2 2 dX1_turnDoor_8 rfl rfl ?_
    refine g_i2l (pc := 9) C dX1_turnDoor_9 ?_
    obtain ⟨v4, σ3, hvσ3, h⟩ := zcb h
    refine g_callSN (pc := 10) (av := [tJ (Int32.toInt64 (p2 : Int32))]) C (c_X8_isRoom hE hvσ3) ys_X8_isRoom ml_X1_92 rfl (rf_of (by decide)) rfl (Nat.le_of_ble_eq_true rfl) dX1_turnDoor_10 ?_
    refine g_if_eq (pc := 13) C 40 dX1_turnDoor_13 (by decide) (fun c13 => ?_) (fun c13 => ?_)
    · have h := zif_t c13 h
      obtain ⟨rfl, rfl⟩ := zsome h
      exact g_vret (pc := 40) C rfl hx (by rw [hxn]; rfl) (by rw [hxn]; rfl) dX1_turnDoor_40
    · have h := zif_f c13 h
      refine g_aload_n (pc := 16) C 0 0 dX1_turnDoor_16 rfl rfl ?_
      obtain ⟨r5, hvr5, h⟩ := zbind h
      refine g_getR (N := 20) (pc := 17) C ck_1 hvr5 rfl rfl fl_X1_18 dX1_turnDoor_17 ?_
      refine g_iload_n (pc := 20) C 1 1 dX1_turnDoor_20 rfl rfl ?_
      refine g_dup2 (pc := 21) C dX1_turnDoor_21 rfl rfl ?_
      obtain ⟨a6, hqa6, h9⟩ := zbind h
      clear h
      subst hqa6
      have h := h9
      clear h9
      obtain ⟨v7, hvv7, h⟩ := zbind h
      refine g_iald (pc := 22) C hvv7 dX1_turnDoor_22 ?_
      refine g_iconst (v := 1) (pc := 23) C dX1_turnDoor_23 (by decide) ?_
      refine g_iload_n (pc := 24) C 2 2 dX1_turnDoor_24 rfl rfl ?_
      refine g_ishl (pc := 25) C dX1_turnDoor_25 ?_
      refine g_ixor (pc := 26) C dX1_turnDoor_26 ?_
      obtain ⟨σ8, hvσ8, h⟩ := zbind h
      refine g_iast (pc := 27) C hvσ8 dX1_turnDoor_27 ?_
      refine g_aload_n (pc := 28) C 0 0 dX1_turnDoor_28 rfl rfl ?_
      obtain ⟨r9, hvr9, h⟩ := zbind h
      refine g_getR (N := 20) (pc := 29) C ck_1 hvr9 rfl rfl fl_X1_18 dX1_turnDoor_29 ?_
      refine g_iload_n (pc := 32) C 2 2 dX1_turnDoor_32 rfl rfl ?_
      refine g_dup2 (pc := 33) C dX1_turnDoor_33 rfl rfl ?_
      obtain ⟨a10, hqa10, h9⟩ := zbind h
      clear h
      subst hqa10
      have h := h9
      clear h9
      obtain ⟨v11, hvv11, h⟩ := zbind h
      refine g_iald (pc := 34) C hvv11 dX1_turnDoor_34 ?_
      refine g_iconst (v := 1) (pc := 35) C dX1_turnDoor_35 (by decide) ?_
      refine g_iload_n (pc := 36) C 1 1 dX1_turnDoor_36 rfl rfl ?_
      refine g_ishl (pc := 37) C dX1_turnDoor_37 ?_
      refine g_ixor (pc := 38) C dX1_turnDoor_38 ?_
      obtain ⟨σ12, hvσ12, h⟩ := zbind h
      refine g_iast (pc := 39) C hvσ12 dX1_turnDoor_39 ?_
      obtain ⟨rfl, rfl⟩ := zsome h
      exact g_vret (pc := 40) C rfl hx (by rw [hxn]; rfl) (by rw [hxn]; rfl) dX1_turnDoor_40
def rm_X0_takeBack : Room := { frames := 2, cells := 0, slots := 0, locals := 60 }
noncomputable def s_X0_takeBack_j116 (h0 : Nat) (l1 : Option Nat) (l2 : Int32) (l3 : Int32) (l4 : Int32) (l5 : Int32) (σ : Hp) : Option (Int32 × Hp) :=
  if l3 = 2 then
    (l1).bind fun a16 =>
    (ck 1 σ a16).bind fun u17 =>
    cb (s_X1_turnDoor a16 (l4) (l5) σ) fun v19 σ18 =>
    some ((l3), σ18)
  else
    if l3 = 3 then
      (rdR 0 σ h0 0).bind fun r1 =>
      (r1).bind fun a2 =>
      (ldI 11 σ a2 (l2 + 3)).bind fun v3 =>
      (l1).bind fun a4 =>
      (wrI 1 σ a4 18 (v3)).bind fun σ5 =>
      (rdR 0 σ5 h0 0).bind fun r6 =>
      (rdR 1 σ5 a4 4).bind fun r7 =>
      (r6).bind fun a8 =>
      (r7).bind fun a9 =>
      (acopy σ5 a8 (l2 + 4) a9 (0) (3)).bind fun σ10 =>
      (rdR 1 σ10 a4 10).bind fun r11 =>
      (r11).bind fun a12 =>
      (ldI 11 σ10 a12 (0)).bind fun v13 =>
      (stI σ10 a12 (0) (v13 - 1)).bind fun σ14 =>
      some ((l3), σ14)
    else
      some ((l3), σ)
set_option maxRecDepth 100000 in
theorem w_X0_takeBack_j116 {E : E0} (hE : EOK E) {X : X0} (C : XOK E X cX0_takeBack RX0 6 (some .int) rm_X0_takeBack) (hxn : xn X = (rm_X0_takeBack.cells, rm_X0_takeBack.slots)) (h0 : Nat) (l1 : Option Nat) (l2 : Int32) (l3 : Int32) (l4 : Int32) (l5 : Int32) (σ : Hp) (r : Int32) (σ1 : Hp) (h : s_X0_takeBack_j116 h0 l1 l2 l3 l4 l5 σ = some (r, σ1)) (hx : xd X = (some (tI r), σ1)) : G E X 0 0 116 [(0, tR (some (h0))), (1, tR (l1)), (2, tI (l2)), (3, tI (l3)), (4, tI (l4)), (5, tI (l5))] [] σ := by
  unfold s_X0_takeBack_j116 at h
  refine g_iload_n (pc := 116) C 3 3 dX0_takeBack_116 rfl rfl ?_
  refine g_iconst (v := 2) (pc := 117) C dX0_takeBack_117 (by decide) ?_
  refine g_icmp_ne (pc := 118) C 132 dX0_takeBack_118 (by decide) (fun c20 => ?_) (fun c20 => ?_)
  · have h := zif_f c20 h
    refine g_iload_n (pc := 132) C 3 3 dX0_takeBack_132 rfl rfl ?_
    refine g_iconst (v := 3) (pc := 133) C dX0_takeBack_133 (by decide) ?_
    refine g_icmp_ne (pc := 134) C 175 dX0_takeBack_134 (by decide) (fun c15 => ?_) (fun c15 => ?_)
    · have h := zif_f c15 h
      refine g_iload_n (pc := 175) C 3 3 dX0_takeBack_175 rfl rfl ?_
      obtain ⟨rfl, rfl⟩ := zsome h
      exact g_iret (pc := 176) C rfl hx (by rw [hxn]; rfl) (by rw [hxn]; rfl) dX0_takeBack_176
    · have h := zif_t c15 h
      refine g_aload_n (pc := 137) C 1 1 dX0_takeBack_137 rfl rfl ?_
      refine g_aload_n (pc := 138) C 0 0 dX0_takeBack_138 rfl rfl ?_
      obtain ⟨r1, hvr1, h⟩ := zbind h
      refine g_getR (N := 2) (pc := 139) C ck_0 hvr1 rfl rfl fl_X0_11 dX0_takeBack_139 ?_
      refine g_iload_n (pc := 142) C 2 2 dX0_takeBack_142 rfl rfl ?_
      refine g_iconst (v := 3) (pc := 143) C dX0_takeBack_143 (by decide) ?_
      refine g_iadd (pc := 144) C dX0_takeBack_144 ?_
      obtain ⟨a2, hqa2, h9⟩ := zbind h
      clear h
      subst hqa2
      have h := h9
      clear h9
      obtain ⟨v3, hvv3, h⟩ := zbind h
      refine g_iald (pc := 145) C hvv3 dX0_takeBack_145 ?_
      obtain ⟨a4, hqa4, h9⟩ := zbind h
      clear h
      subst hqa4
      have h := h9
      clear h9
      obtain ⟨σ5, hvσ5, h⟩ := zbind h
      refine g_putI (N := 20) (pc := 146) C ⟨ck_1, rfl, tyX1_ok⟩ hvσ5 rfl fl_X0_23 rfl rfl dX0_takeBack_146 ?_
      refine g_aload_n (pc := 149) C 0 0 dX0_takeBack_149 rfl rfl ?_
      obtain ⟨r6, hvr6, h⟩ := zbind h
      refine g_getR (N := 2) (pc := 150) C ck_0 hvr6 rfl rfl fl_X0_11 dX0_takeBack_150 ?_
      refine g_iload_n (pc := 153) C 2 2 dX0_takeBack_153 rfl rfl ?_
      refine g_iconst (v := 4) (pc := 154) C dX0_takeBack_154 (by decide) ?_
      refine g_iadd (pc := 155) C dX0_takeBack_155 ?_
      refine g_aload_n (pc := 156) C 1 1 dX0_takeBack_156 rfl rfl ?_
      obtain ⟨r7, hvr7, h⟩ := zbind h
      refine g_getR (N := 20) (pc := 157) C ck_1 hvr7 rfl rfl fl_X0_28 dX0_takeBack_157 ?_
      refine g_iconst (v := 0) (pc := 160) C dX0_takeBack_160 (by decide) ?_
      refine g_iconst (v := 3) (pc := 161) C dX0_takeBack_161 (by decide) ?_
      obtain ⟨a8, hqa8, h9⟩ := zbind h
      clear h
      subst hqa8
      have h := h9
      clear h9
      obtain ⟨a9, hqa9, h9⟩ := zbind h
      clear h
      subst hqa9
      have h := h9
      clear h9
      obtain ⟨σ10, hvσ10, h⟩ := zbind h
      refine g_acopy (pc := 162) C hvσ10 ml_X0_31 ⟨Nat.le_of_ble_eq_true rfl, Nat.le_of_ble_eq_true rfl⟩ dX0_takeBack_162 ?_
      refine g_aload_n (pc := 165) C 1 1 dX0_takeBack_165 rfl rfl ?_
      obtain ⟨r11, hvr11, h⟩ := zbind h
      refine g_getR (N := 20) (pc := 166) C ck_1 hvr11 rfl rfl fl_X0_58 dX0_takeBack_166 ?_
      refine g_iconst (v := 0) (pc := 169) C dX0_takeBack_169 (by decide) ?_
      refine g_dup2 (pc := 170) C dX0_takeBack_170 rfl rfl ?_
      obtain ⟨a12, hqa12, h9⟩ := zbind h
      clear h
      subst hqa12
      have h := h9
      clear h9
      obtain ⟨v13, hvv13, h⟩ := zbind h
      refine g_iald (pc := 171) C hvv13 dX0_takeBack_171 ?_
      refine g_iconst (v := 1) (pc := 172) C dX0_takeBack_172 (by decide) ?_
      refine g_isub (pc := 173) C dX0_takeBack_173 ?_
      obtain ⟨σ14, hvσ14, h⟩ := zbind h
      refine g_iast (pc := 174) C hvσ14 dX0_takeBack_174 ?_
      refine g_iload_n (pc := 175) C 3 3 dX0_takeBack_175 rfl rfl ?_
      obtain ⟨rfl, rfl⟩ := zsome h
      exact g_iret (pc := 176) C rfl hx (by rw [hxn]; rfl) (by rw [hxn]; rfl) dX0_takeBack_176
  · have h := zif_t c20 h
    refine g_aload_n (pc := 121) C 1 1 dX0_takeBack_121 rfl rfl ?_
    refine g_iload (pc := 122) C 4 dX0_takeBack_122 rfl ?_
    refine g_iload (pc := 124) C 5 dX0_takeBack_124 rfl ?_
    obtain ⟨a16, hqa16, h9⟩ := zbind h
    clear h
    subst hqa16
    have h := h9
    clear h9
    obtain ⟨u17, hvu17, h⟩ := zbind h
    obtain ⟨v19, σ18, hvσ18, h⟩ := zcb h
    refine g_callV (pc := 126) (av := [tI (l4), tI (l5)]) C (c_X1_turnDoor hE hvσ18) yv_X1_turnDoor ml_X0_54 ck_1 (zopt hvu17).1 rfl (rf_of (by decide)) rfl (Nat.le_of_ble_eq_true rfl) dX0_takeBack_126 ?_
    refine g_goto (pc := 129) C 175 dX0_takeBack_129 (by decide) ?_
    refine g_iload_n (pc := 175) C 3 3 dX0_takeBack_175 rfl rfl ?_
    obtain ⟨rfl, rfl⟩ := zsome h
    exact g_iret (pc := 176) C rfl hx (by rw [hxn]; rfl) (by rw [hxn]; rfl) dX0_takeBack_176
noncomputable def s_X0_takeBack_j90 (h0 : Nat) (l1 : Option Nat) (l2 : Int32) (l3 : Int32) (l4 : Int32) (l5 : Int32) (σ : Hp) : Option (Int32 × Hp) :=
  if l3 = 1 then
    (l1).bind fun a1 =>
    (ck 1 σ a1).bind fun u2 =>
    cb (s_X1_isThing a1 (l4) σ) fun v4 σ3 =>
    if v4 = 0 then
      s_X0_takeBack_j116 (h0) (some (a1)) (l2) (l3) (l4) (l5) σ3
    else
      (rdR 1 σ3 a1 5).bind fun r5 =>
      (r5).bind fun a6 =>
      (stI σ3 a6 (l4) (l5)).bind fun σ7 =>
      some ((l3), σ7)
  else
    s_X0_takeBack_j116 (h0) (l1) (l2) (l3) (l4) (l5) σ
set_option maxRecDepth 100000 in
theorem w_X0_takeBack_j90 {E : E0} (hE : EOK E) {X : X0} (C : XOK E X cX0_takeBack RX0 6 (some .int) rm_X0_takeBack) (hxn : xn X = (rm_X0_takeBack.cells, rm_X0_takeBack.slots)) (h0 : Nat) (l1 : Option Nat) (l2 : Int32) (l3 : Int32) (l4 : Int32) (l5 : Int32) (σ : Hp) (r : Int32) (σ1 : Hp) (h : s_X0_takeBack_j90 h0 l1 l2 l3 l4 l5 σ = some (r, σ1)) (hx : xd X = (some (tI r), σ1)) : G E X 0 0 90 [(0, tR (some (h0))), (1, tR (l1)), (2, tI (l2)), (3, tI (l3)), (4, tI (l4)), (5, tI (l5))] [] σ := by
  unfold s_X0_takeBack_j90 at h
  refine g_iload_n (pc := 90) C 3 3 dX0_takeBack_90 rfl rfl ?_
  refine g_iconst (v := 1) (pc := 91) C dX0_takeBack_91 (by decide) ?_
  refine g_icmp_ne (pc := 92) C 116 dX0_takeBack_92 (by decide) (fun c9 => ?_) (fun c9 => ?_)
  · have h := zif_f c9 h
    exact w_X0_takeBack_j116 hE C hxn _ _ _ _ _ _ _ _ _ h hx
  · have h := zif_t c9 h
    refine g_aload_n (pc := 95) C 1 1 dX0_takeBack_95 rfl rfl ?_
    refine g_iload (pc := 96) C 4 dX0_takeBack_96 rfl ?_
    obtain ⟨a1, hqa1, h9⟩ := zbind h
    clear h
    subst hqa1
    have h := h9
    clear h9
    obtain ⟨u2, hvu2, h⟩ := zbind h
    obtain ⟨v4, σ3, hvσ3, h⟩ := zcb h
    refine g_callV (pc := 98) (av := [tI (l4)]) C (c_X1_isThing hE hvσ3) yv_X1_isThing ml_X0_48 ck_1 (zopt hvu2).1 rfl (rf_of (by decide)) rfl (Nat.le_of_ble_eq_true rfl) dX0_takeBack_98 ?_
    refine g_if_eq (pc := 101) C 116 dX0_takeBack_101 (by decide) (fun c8 => ?_) (fun c8 => ?_)
    · have h := zif_t c8 h
      exact w_X0_takeBack_j116 hE C hxn _ _ _ _ _ _ _ _ _ h hx
    · have h := zif_f c8 h
      refine g_aload_n (pc := 104) C 1 1 dX0_takeBack_104 rfl rfl ?_
      obtain ⟨r5, hvr5, h⟩ := zbind h
      refine g_getR (N := 20) (pc := 105) C ck_1 hvr5 rfl rfl fl_X0_51 dX0_takeBack_105 ?_
      refine g_iload (pc := 108) C 4 dX0_takeBack_108 rfl ?_
      refine g_iload (pc := 110) C 5 dX0_takeBack_110 rfl ?_
      obtain ⟨a6, hqa6, h9⟩ := zbind h
      clear h
      subst hqa6
      have h := h9
      clear h9
      obtain ⟨σ7, hvσ7, h⟩ := zbind h
      refine g_iast (pc := 112) C hvσ7 dX0_takeBack_112 ?_
      refine g_goto (pc := 113) C 175 dX0_takeBack_113 (by decide) ?_
      refine g_iload_n (pc := 175) C 3 3 dX0_takeBack_175 rfl rfl ?_
      obtain ⟨rfl, rfl⟩ := zsome h
      exact g_iret (pc := 176) C rfl hx (by rw [hxn]; rfl) (by rw [hxn]; rfl) dX0_takeBack_176
noncomputable def s_X0_takeBack (h0 : Nat) (p1 : Option Nat) (σ : Hp) : Option (Int32 × Hp) :=
  (ck 0 σ h0).bind fun u1 =>
  cb (s_X0_isEmpty h0 σ) fun v3 σ2 =>
  if v3 = 0 then
    (rdI 0 σ2 h0 1).bind fun v4 =>
    if v4 ≤ 16 then
      (rdI 0 σ2 h0 1).bind fun v5 =>
      (wrI 0 σ2 h0 1 (v5 - 1)).bind fun σ6 =>
      (rdI 0 σ6 h0 1).bind fun v7 =>
      (rdR 0 σ6 h0 0).bind fun r8 =>
      (r8).bind fun a9 =>
      (ldI 11 σ6 a9 ((v7 * 7) + 0)).bind fun v10 =>
      (rdR 0 σ6 h0 0).bind fun r11 =>
      (r11).bind fun a12 =>
      (ldI 11 σ6 a12 ((v7 * 7) + 1)).bind fun v13 =>
      (rdR 0 σ6 h0 0).bind fun r14 =>
      (r14).bind fun a15 =>
      (ldI 11 σ6 a15 ((v7 * 7) + 2)).bind fun v16 =>
      if v10 = 0 then
        (p1).bind fun a17 =>
        (ck 1 σ6 a17).bind fun u18 =>
        cb (s_X1_isFolk a17 (v13) σ6) fun v20 σ19 =>
        if v20 = 0 then
          s_X0_takeBack_j90 (h0) (some (a17)) (v7 * 7) (v10) (v13) (v16) σ19
        else
          (rdR 1 σ19 a17 3).bind fun r21 =>
          (r21).bind fun a22 =>
          (stI σ19 a22 (v13) (v16)).bind fun σ23 =>
          some ((v10), σ23)
      else
        s_X0_takeBack_j90 (h0) (p1) (v7 * 7) (v10) (v13) (v16) σ6
    else
      some (((-1)), σ2)
  else
    some (((-1)), σ2)
set_option maxRecDepth 100000 in
theorem c_X0_takeBack {E : E0} (hE : EOK E) {h0 : Nat} {p1 : Option Nat} {σ σ1 : Hp} {r : Int32} (h : s_X0_takeBack h0 p1 σ = some (r, σ1)) : CT E yX0_takeBack (.code yX0_takeBack cX0_takeBack 6 (some .int)) rm_X0_takeBack [tR (some (h0)), tR (p1)] σ (some (tI r)) σ1 := by
  refine CT.mk hE (by decide +kernel) (Nat.le_of_ble_eq_true rfl) [(0, tR (some (h0))), (1, tR (p1))] rfl (fun X C hin hx hxn => ?_)
  have C : XOK E X cX0_takeBack RX0 6 (some .int) rm_X0_takeBack := C
  unfold s_X0_takeBack at h
  refine g_aload_n (pc := 0) C 0 0 dX0_takeBack_0 rfl rfl ?_
  obtain ⟨u1, hvu1, h⟩ := zbind h
  obtain ⟨v3, σ2, hvσ2, h⟩ := zcb h
  refine g_callV (pc := 1) (av := []) C (c_X0_isEmpty hE hvσ2) yv_X0_isEmpty ml_X0_37 ck_0 (zopt hvu1).1 rfl (rf_of (by decide)) rfl (Nat.le_of_ble_eq_true rfl) dX0_takeBack_1 ?_
  refine g_if_ne (pc := 4) C 16 dX0_takeBack_4 (by decide) (fun c27 => ?_) (fun c27 => ?_)
  · have h := zif_f c27 h
    refine g_iconst (v := (-1)) (pc := 16) C dX0_takeBack_16 (by decide) ?_
    obtain ⟨rfl, rfl⟩ := zsome h
    exact g_iret (pc := 17) C rfl hx (by rw [hxn]; rfl) (by rw [hxn]; rfl) dX0_takeBack_17
  · have h := zif_t c27 h
    refine g_aload_n (pc := 7) C 0 0 dX0_takeBack_7 rfl rfl ?_
    obtain ⟨v4, hvv4, h⟩ := zbind h
    refine g_getI (N := 2) (pc := 8) C ck_0 hvv4 rfl rfl fl_X0_15 dX0_takeBack_8 ?_
    refine g_bipush (v := 16) (pc := 11) C dX0_takeBack_11 (by decide) ?_
    refine g_icmp_le (pc := 13) C 18 dX0_takeBack_13 (by decide) (fun c26 => ?_) (fun c26 => ?_)
    · have h := zif_t c26 h
      refine g_aload_n (pc := 18) C 0 0 dX0_takeBack_18 rfl rfl ?_
      refine g_dup (pc := 19) C dX0_takeBack_19 rfl ?_
      obtain ⟨v5, hvv5, h⟩ := zbind h
      refine g_getI (N := 2) (pc := 20) C ck_0 hvv5 rfl rfl fl_X0_15 dX0_takeBack_20 ?_
      refine g_iconst (v := 1) (pc := 23) C dX0_takeBack_23 (by decide) ?_
      refine g_isub (pc := 24) C dX0_takeBack_24 ?_
      obtain ⟨σ6, hvσ6, h⟩ := zbind h
      refine g_putI (N := 2) (pc := 25) C ⟨ck_0, rfl, tyX0_ok⟩ hvσ6 rfl fl_X0_15 rfl rfl dX0_takeBack_25 ?_
      refine g_aload_n (pc := 28) C 0 0 dX0_takeBack_28 rfl rfl ?_
      obtain ⟨v7, hvv7, h⟩ := zbind h
      refine g_getI (N := 2) (pc := 29) C ck_0 hvv7 rfl rfl fl_X0_15 dX0_takeBack_29 ?_
      refine g_bipush (v := 7) (pc := 32) C dX0_takeBack_32 (by decide) ?_
      refine g_imul (pc := 34) C dX0_takeBack_34 ?_
      refine g_istore_n (lm' := [(2, tI (v7 * 7)), (0, tR (some (h0))), (1, tR (p1))]) (pc := 35) C 2 dX0_takeBack_35 rfl (by decide) rfl ?_
      refine g_aload_n (pc := 36) C 0 1 dX0_takeBack_36 rfl rfl ?_
      obtain ⟨r8, hvr8, h⟩ := zbind h
      refine g_getR (N := 2) (pc := 37) C ck_0 hvr8 rfl rfl fl_X0_11 dX0_takeBack_37 ?_
      refine g_iload_n (pc := 40) C 2 0 dX0_takeBack_40 rfl rfl ?_
      refine g_iconst (v := 0) (pc := 41) C dX0_takeBack_41 (by decide) ?_
      refine g_iadd (pc := 42) C dX0_takeBack_42 ?_
      obtain ⟨a9, hqa9, h9⟩ := zbind h
      clear h
      subst hqa9
      have h := h9
      clear h9
      obtain ⟨v10, hvv10, h⟩ := zbind h
      refine g_iald (pc := 43) C hvv10 dX0_takeBack_43 ?_
      refine g_istore_n (lm' := [(3, tI (v10)), (2, tI (v7 * 7)), (0, tR (some (h0))), (1, tR (p1))]) (pc := 44) C 3 dX0_takeBack_44 rfl (by decide) rfl ?_
      refine g_aload_n (pc := 45) C 0 2 dX0_takeBack_45 rfl rfl ?_
      obtain ⟨r11, hvr11, h⟩ := zbind h
      refine g_getR (N := 2) (pc := 46) C ck_0 hvr11 rfl rfl fl_X0_11 dX0_takeBack_46 ?_
      refine g_iload_n (pc := 49) C 2 1 dX0_takeBack_49 rfl rfl ?_
      refine g_iconst (v := 1) (pc := 50) C dX0_takeBack_50 (by decide) ?_
      refine g_iadd (pc := 51) C dX0_takeBack_51 ?_
      obtain ⟨a12, hqa12, h9⟩ := zbind h
      clear h
      subst hqa12
      have h := h9
      clear h9
      obtain ⟨v13, hvv13, h⟩ := zbind h
      refine g_iald (pc := 52) C hvv13 dX0_takeBack_52 ?_
      refine g_istore (lm' := [(4, tI (v13)), (3, tI (v10)), (2, tI (v7 * 7)), (0, tR (some (h0))), (1, tR (p1))]) (pc := 53) C dX0_takeBack_53 (by decide) rfl ?_
      refine g_aload_n (pc := 55) C 0 3 dX0_takeBack_55 rfl rfl ?_
      obtain ⟨r14, hvr14, h⟩ := zbind h
      refine g_getR (N := 2) (pc := 56) C ck_0 hvr14 rfl rfl fl_X0_11 dX0_takeBack_56 ?_
      refine g_iload_n (pc := 59) C 2 2 dX0_takeBack_59 rfl rfl ?_
      refine g_iconst (v := 2) (pc := 60) C dX0_takeBack_60 (by decide) ?_
      refine g_iadd (pc := 61) C dX0_takeBack_61 ?_
      obtain ⟨a15, hqa15, h9⟩ := zbind h
      clear h
      subst hqa15
      have h := h9
      clear h9
      obtain ⟨v16, hvv16, h⟩ := zbind h
      refine g_iald (pc := 62) C hvv16 dX0_takeBack_62 ?_
      refine g_istore (lm' := [(5, tI (v16)), (4, tI (v13)), (3, tI (v10)), (2, tI (v7 * 7)), (0, tR (some (h0))), (1, tR (p1))]) (pc := 63) C dX0_takeBack_63 (by decide) rfl ?_
      refine g_iload_n (pc := 65) C 3 2 dX0_takeBack_65 rfl rfl ?_
      refine g_if_ne (pc := 66) C 90 dX0_takeBack_66 (by decide) (fun c25 => ?_) (fun c25 => ?_)
      · have h := zif_f c25 h
        refine g_sub [4, 5, 3, 2, 1, 0] (lm' := [(0, tR (some (h0))), (1, tR (p1)), (2, tI (v7 * 7)), (3, tI (v10)), (4, tI (v13)), (5, tI (v16))]) rfl ?_
        exact w_X0_takeBack_j90 hE C hxn _ _ _ _ _ _ _ _ _ h hx
      · have h := zif_t c25 h
        refine g_aload_n (pc := 69) C 1 5 dX0_takeBack_69 rfl rfl ?_
        refine g_iload (pc := 70) C 1 dX0_takeBack_70 rfl ?_
        obtain ⟨a17, hqa17, h9⟩ := zbind h
        clear h
        subst hqa17
        have h := h9
        clear h9
        obtain ⟨u18, hvu18, h⟩ := zbind h
        obtain ⟨v20, σ19, hvσ19, h⟩ := zcb h
        refine g_callV (pc := 72) (av := [tI (v13)]) C (c_X1_isFolk hE hvσ19) yv_X1_isFolk ml_X0_41 ck_1 (zopt hvu18).1 rfl (rf_of (by decide)) rfl (Nat.le_of_ble_eq_true rfl) dX0_takeBack_72 ?_
        refine g_if_eq (pc := 75) C 90 dX0_takeBack_75 (by decide) (fun c24 => ?_) (fun c24 => ?_)
        · have h := zif_t c24 h
          refine g_sub [4, 5, 3, 2, 1, 0] (lm' := [(0, tR (some (h0))), (1, tR (some (a17))), (2, tI (v7 * 7)), (3, tI (v10)), (4, tI (v13)), (5, tI (v16))]) rfl ?_
          exact w_X0_takeBack_j90 hE C hxn _ _ _ _ _ _ _ _ _ h hx
        · have h := zif_f c24 h
          refine g_aload_n (pc := 78) C 1 5 dX0_takeBack_78 rfl rfl ?_
          obtain ⟨r21, hvr21, h⟩ := zbind h
          refine g_getR (N := 20) (pc := 79) C ck_1 hvr21 rfl rfl fl_X0_45 dX0_takeBack_79 ?_
          refine g_iload (pc := 82) C 1 dX0_takeBack_82 rfl ?_
          refine g_iload (pc := 84) C 0 dX0_takeBack_84 rfl ?_
          obtain ⟨a22, hqa22, h9⟩ := zbind h
          clear h
          subst hqa22
          have h := h9
          clear h9
          obtain ⟨σ23, hvσ23, h⟩ := zbind h
          refine g_iast (pc := 86) C hvσ23 dX0_takeBack_86 ?_
          refine g_goto (pc := 87) C 175 dX0_takeBack_87 (by decide) ?_
          refine g_iload_n (pc := 175) C 3 2 dX0_takeBack_175 rfl rfl ?_
          obtain ⟨rfl, rfl⟩ := zsome h
          exact g_iret (pc := 176) C rfl hx (by rw [hxn]; rfl) (by rw [hxn]; rfl) dX0_takeBack_176
    · have h := zif_f c26 h
      refine g_iconst (v := (-1)) (pc := 16) C dX0_takeBack_16 (by decide) ?_
      obtain ⟨rfl, rfl⟩ := zsome h
      exact g_iret (pc := 17) C rfl hx (by rw [hxn]; rfl) (by rw [hxn]; rfl) dX0_takeBack_17
def rm_X3_init : Room := { frames := 1, cells := 3, slots := 120, locals := 20 }
noncomputable def s_X3_init (h0 : Nat) (σ : Hp) : Option (Unit × Hp) :=
  cb (nw 11 10 σ) fun a2 σ1 =>
  (wrR 3 σ1 h0 0 (some (a2))).bind fun σ3 =>
  cb (nw 11 10 σ3) fun a5 σ4 =>
  (wrR 3 σ4 h0 1 (some (a5))).bind fun σ6 =>
  cb (nw 11 100 σ6) fun a8 σ7 =>
  (wrR 3 σ7 h0 2 (some (a8))).bind fun σ9 =>
  (wrI 3 σ9 h0 3 (0)).bind fun σ10 =>
  some ((), σ10)
set_option maxRecDepth 100000 in
theorem c_X3_init {E : E0} (hE : EOK E) {h0 : Nat} {σ σ1 : Hp} {r : Unit} (h : s_X3_init h0 σ = some (r, σ1)) : CT E yX3_init (.code yX3_init cX3_init 1 none) rm_X3_init [tR (some (h0))] σ none σ1 := by
  refine CT.mk hE (by decide +kernel) (Nat.le_of_ble_eq_true rfl) [(0, tR (some (h0)))] rfl (fun X C hin hx hxn => ?_)
  have C : XOK E X cX3_init RX3 1 none rm_X3_init := C
  unfold s_X3_init at h
  refine g_aload_n (pc := 0) C 0 0 dX3_init_0 rfl rfl ?_
  refine g_objInit (pc := 1) C ml_X3_3 oi_1 oi_2 ⟨Nat.le_of_ble_eq_true rfl, Nat.le_of_ble_eq_true rfl⟩ (Nat.le_of_ble_eq_true rfl) dX3_init_1 ?_
  refine g_aload_n (pc := 4) C 0 0 dX3_init_4 rfl rfl ?_
  refine g_bipush (v := 10) (pc := 5) C dX3_init_5 (by decide) ?_
  obtain ⟨a2, σ1, hvσ1, h⟩ := zcb h
  refine g_newaI (N := 10) (pc := 7) C (by decide) (by decide) (by decide) ac_int (by decide) (by decide) dX3_init_7 ?_
  rw [← (nw_h hvσ1).2, ← (nw_h hvσ1).1]
  obtain ⟨σ3, hvσ3, h⟩ := zbind h
  refine g_putRF (N := 4) (pc := 9) C ⟨ck_3, rfl, tyX3_ok⟩ hvσ3 rfl fl_X3_9 rfl hin ⟨rfl, rfl⟩ dX3_init_9 ?_
  refine g_aload_n (pc := 12) C 0 0 dX3_init_12 rfl rfl ?_
  refine g_bipush (v := 10) (pc := 13) C dX3_init_13 (by decide) ?_
  obtain ⟨a5, σ4, hvσ4, h⟩ := zcb h
  refine g_newaI (N := 10) (pc := 15) C (by decide) (by decide) (by decide) ac_int (by decide) (by decide) dX3_init_15 ?_
  rw [← (nw_h hvσ4).2, ← (nw_h hvσ4).1]
  obtain ⟨σ6, hvσ6, h⟩ := zbind h
  refine g_putRF (N := 4) (pc := 17) C ⟨ck_3, rfl, tyX3_ok⟩ hvσ6 rfl fl_X3_15 rfl hin ⟨rfl, rfl⟩ dX3_init_17 ?_
  refine g_aload_n (pc := 20) C 0 0 dX3_init_20 rfl rfl ?_
  refine g_bipush (v := 100) (pc := 21) C dX3_init_21 (by decide) ?_
  obtain ⟨a8, σ7, hvσ7, h⟩ := zcb h
  refine g_newaI (N := 100) (pc := 23) C (by decide) (by decide) (by decide) ac_int (by decide) (by decide) dX3_init_23 ?_
  rw [← (nw_h hvσ7).2, ← (nw_h hvσ7).1]
  obtain ⟨σ9, hvσ9, h⟩ := zbind h
  refine g_putRF (N := 4) (pc := 25) C ⟨ck_3, rfl, tyX3_ok⟩ hvσ9 rfl fl_X3_18 rfl hin ⟨rfl, rfl⟩ dX3_init_25 ?_
  refine g_aload_n (pc := 28) C 0 0 dX3_init_28 rfl rfl ?_
  refine g_iconst (v := 0) (pc := 29) C dX3_init_29 (by decide) ?_
  obtain ⟨σ10, hvσ10, h⟩ := zbind h
  refine g_putI (N := 4) (pc := 30) C ⟨ck_3, rfl, tyX3_ok⟩ hvσ10 rfl fl_X3_21 rfl rfl dX3_init_30 ?_
  obtain ⟨rfl, rfl⟩ := zsome h
  exact g_vret (pc := 33) C rfl hx (by rw [hxn]; rfl) (by rw [hxn]; rfl) dX3_init_33
def rm_X5_init : Room := { frames := 1, cells := 2, slots := 82, locals := 20 }
noncomputable def s_X5_init (h0 : Nat) (σ : Hp) : Option (Unit × Hp) :=
  cb (nw 11 18 σ) fun a2 σ1 =>
  (wrR 5 σ1 h0 0 (some (a2))).bind fun σ3 =>
  cb (nw 12 64 σ3) fun a5 σ4 =>
  (wrR 5 σ4 h0 1 (some (a5))).bind fun σ6 =>
  some ((), σ6)
set_option maxRecDepth 100000 in
theorem c_X5_init {E : E0} (hE : EOK E) {h0 : Nat} {σ σ1 : Hp} {r : Unit} (h : s_X5_init h0 σ = some (r, σ1)) : CT E yX5_init (.code yX5_init cX5_init 1 none) rm_X5_init [tR (some (h0))] σ none σ1 := by
  refine CT.mk hE (by decide +kernel) (Nat.le_of_ble_eq_true rfl) [(0, tR (some (h0)))] rfl (fun X C hin hx hxn => ?_)
  have C : XOK E X cX5_init RX5 1 none rm_X5_init := C
  unfold s_X5_init at h
  refine g_aload_n (pc := 0) C 0 0 dX5_init_0 rfl rfl ?_
  refine g_objInit (pc := 1) C ml_X5_3 oi_1 oi_2 ⟨Nat.le_of_ble_eq_true rfl, Nat.le_of_ble_eq_true rfl⟩ (Nat.le_of_ble_eq_true rfl) dX5_init_1 ?_
  refine g_aload_n (pc := 4) C 0 0 dX5_init_4 rfl rfl ?_
  refine g_bipush (v := 18) (pc := 5) C dX5_init_5 (by decide) ?_
  obtain ⟨a2, σ1, hvσ1, h⟩ := zcb h
  refine g_newaI (N := 18) (pc := 7) C (by decide) (by decide) (by decide) ac_int (by decide) (by decide) dX5_init_7 ?_
  rw [← (nw_h hvσ1).2, ← (nw_h hvσ1).1]
  obtain ⟨σ3, hvσ3, h⟩ := zbind h
  refine g_putRF (N := 2) (pc := 9) C ⟨ck_5, rfl, tyX5_ok⟩ hvσ3 rfl fl_X5_9 rfl hin ⟨rfl, rfl⟩ dX5_init_9 ?_
  refine g_aload_n (pc := 12) C 0 0 dX5_init_12 rfl rfl ?_
  refine g_bipush (v := 64) (pc := 13) C dX5_init_13 (by decide) ?_
  obtain ⟨a5, σ4, hvσ4, h⟩ := zcb h
  refine g_newaJ (N := 64) (pc := 15) C (by decide) (by decide) (by decide) ac_long (by decide) (by decide) dX5_init_15 ?_
  rw [← (nw_h hvσ4).2, ← (nw_h hvσ4).1]
  obtain ⟨σ6, hvσ6, h⟩ := zbind h
  refine g_putRF (N := 2) (pc := 17) C ⟨ck_5, rfl, tyX5_ok⟩ hvσ6 rfl fl_X5_15 rfl hin ⟨rfl, rfl⟩ dX5_init_17 ?_
  obtain ⟨rfl, rfl⟩ := zsome h
  exact g_vret (pc := 20) C rfl hx (by rw [hxn]; rfl) (by rw [hxn]; rfl) dX5_init_20
def rm_X1_init : Room := { frames := 2, cells := 18, slots := 264, locals := 40 }
noncomputable def s_X1_init (h0 : Nat) (σ : Hp) : Option (Unit × Hp) :=
  cb (nw 3 0 σ) fun a2 σ1 =>
  (ck 3 σ1 a2).bind fun u3 =>
  cb (s_X3_init a2 σ1) fun v5 σ4 =>
  (wrR 1 σ4 h0 0 (some (a2))).bind fun σ6 =>
  cb (nw 11 6 σ6) fun a8 σ7 =>
  (wrR 1 σ7 h0 1 (some (a8))).bind fun σ9 =>
  cb (nw 11 4 σ9) fun a11 σ10 =>
  (wrR 1 σ10 h0 2 (some (a11))).bind fun σ12 =>
  cb (nw 11 4 σ12) fun a14 σ13 =>
  (wrR 1 σ13 h0 3 (some (a14))).bind fun σ15 =>
  cb (nw 11 3 σ15) fun a17 σ16 =>
  (wrR 1 σ16 h0 4 (some (a17))).bind fun σ18 =>
  cb (nw 11 6 σ18) fun a20 σ19 =>
  (wrR 1 σ19 h0 5 (some (a20))).bind fun σ21 =>
  cb (nw 11 6 σ21) fun a23 σ22 =>
  (wrR 1 σ22 h0 6 (some (a23))).bind fun σ24 =>
  cb (nw 11 6 σ24) fun a26 σ25 =>
  (wrR 1 σ25 h0 7 (some (a26))).bind fun σ27 =>
  cb (nw 11 6 σ27) fun a29 σ28 =>
  (wrR 1 σ28 h0 8 (some (a29))).bind fun σ30 =>
  cb (nw 11 6 σ30) fun a32 σ31 =>
  (wrR 1 σ31 h0 9 (some (a32))).bind fun σ33 =>
  cb (nw 11 3 σ33) fun a35 σ34 =>
  (stI σ34 a35 (0) (0)).bind fun σ36 =>
  (stI σ36 a35 (1) (1)).bind fun σ37 =>
  (stI σ37 a35 (2) (0)).bind fun σ38 =>
  (wrR 1 σ38 h0 10 (some (a35))).bind fun σ39 =>
  cb (nw 15 6 σ39) fun a41 σ40 =>
  (wrR 1 σ40 h0 11 (some (a41))).bind fun σ42 =>
  cb (nw 5 0 σ42) fun a44 σ43 =>
  (ck 5 σ43 a44).bind fun u45 =>
  cb (s_X5_init a44 σ43) fun v47 σ46 =>
  (wrR 1 σ46 h0 12 (some (a44))).bind fun σ48 =>
  (wrI 1 σ48 h0 13 (0)).bind fun σ49 =>
  (wrI 1 σ49 h0 14 (0)).bind fun σ50 =>
  (wrI 1 σ50 h0 15 (0)).bind fun σ51 =>
  (wrI 1 σ51 h0 16 (0)).bind fun σ52 =>
  (wrI 1 σ52 h0 17 (0)).bind fun σ53 =>
  (wrI 1 σ53 h0 18 (0)).bind fun σ54 =>
  (wrI 1 σ54 h0 19 ((-1))).bind fun σ55 =>
  some ((), σ55)
set_option maxRecDepth 100000 in
theorem c_X1_init {E : E0} (hE : EOK E) {h0 : Nat} {σ σ1 : Hp} {r : Unit} (h : s_X1_init h0 σ = some (r, σ1)) : CT E yX1_init (.code yX1_init cX1_init 1 none) rm_X1_init [tR (some (h0))] σ none σ1 := by
  refine CT.mk hE (by decide +kernel) (Nat.le_of_ble_eq_true rfl) [(0, tR (some (h0)))] rfl (fun X C hin hx hxn => ?_)
  have C : XOK E X cX1_init RX1 1 none rm_X1_init := C
  unfold s_X1_init at h
  refine g_aload_n (pc := 0) C 0 0 dX1_init_0 rfl rfl ?_
  refine g_objInit (pc := 1) C ml_X1_3 oi_1 oi_2 ⟨Nat.le_of_ble_eq_true rfl, Nat.le_of_ble_eq_true rfl⟩ (Nat.le_of_ble_eq_true rfl) dX1_init_1 ?_
  refine g_aload_n (pc := 4) C 0 0 dX1_init_4 rfl rfl ?_
  obtain ⟨a2, σ1, hvσ1, h⟩ := zcb h
  refine g_new (c := 3) (N := 4) (pc := 5) C ck_3 tyX3 tyX3_ok df_3 cl_X1_9 in_X3 ii_X3 (by decide) (by decide) dX1_init_5 ?_
  rw [← (nw_h hvσ1).2, ← (nw_h hvσ1).1]
  refine g_dup (pc := 8) C dX1_init_8 rfl ?_
  obtain ⟨u3, hvu3, h⟩ := zbind h
  obtain ⟨v5, σ4, hvσ4, h⟩ := zcb h
  refine g_callIN (pc := 9) (av := []) C (c_X3_init hE hvσ4) yi_X3_init ml_X1_11 rfl (rf_of (by decide)) rfl (Nat.le_of_ble_eq_true rfl) dX1_init_9 ?_
  obtain ⟨σ6, hvσ6, h⟩ := zbind h
  refine g_putRF (N := 20) (pc := 12) C ⟨ck_1, rfl, tyX1_ok⟩ hvσ6 rfl fl_X1_12 rfl hin ⟨rfl, rfl⟩ dX1_init_12 ?_
  refine g_aload_n (pc := 15) C 0 0 dX1_init_15 rfl rfl ?_
  refine g_bipush (v := 6) (pc := 16) C dX1_init_16 (by decide) ?_
  obtain ⟨a8, σ7, hvσ7, h⟩ := zcb h
  refine g_newaI (N := 6) (pc := 18) C (by decide) (by decide) (by decide) ac_int (by decide) (by decide) dX1_init_18 ?_
  rw [← (nw_h hvσ7).2, ← (nw_h hvσ7).1]
  obtain ⟨σ9, hvσ9, h⟩ := zbind h
  refine g_putRF (N := 20) (pc := 20) C ⟨ck_1, rfl, tyX1_ok⟩ hvσ9 rfl fl_X1_18 rfl hin ⟨rfl, rfl⟩ dX1_init_20 ?_
  refine g_aload_n (pc := 23) C 0 0 dX1_init_23 rfl rfl ?_
  refine g_iconst (v := 4) (pc := 24) C dX1_init_24 (by decide) ?_
  obtain ⟨a11, σ10, hvσ10, h⟩ := zcb h
  refine g_newaI (N := 4) (pc := 25) C (by decide) (by decide) (by decide) ac_int (by decide) (by decide) dX1_init_25 ?_
  rw [← (nw_h hvσ10).2, ← (nw_h hvσ10).1]
  obtain ⟨σ12, hvσ12, h⟩ := zbind h
  refine g_putRF (N := 20) (pc := 27) C ⟨ck_1, rfl, tyX1_ok⟩ hvσ12 rfl fl_X1_22 rfl hin ⟨rfl, rfl⟩ dX1_init_27 ?_
  refine g_aload_n (pc := 30) C 0 0 dX1_init_30 rfl rfl ?_
  refine g_iconst (v := 4) (pc := 31) C dX1_init_31 (by decide) ?_
  obtain ⟨a14, σ13, hvσ13, h⟩ := zcb h
  refine g_newaI (N := 4) (pc := 32) C (by decide) (by decide) (by decide) ac_int (by decide) (by decide) dX1_init_32 ?_
  rw [← (nw_h hvσ13).2, ← (nw_h hvσ13).1]
  obtain ⟨σ15, hvσ15, h⟩ := zbind h
  refine g_putRF (N := 20) (pc := 34) C ⟨ck_1, rfl, tyX1_ok⟩ hvσ15 rfl fl_X1_25 rfl hin ⟨rfl, rfl⟩ dX1_init_34 ?_
  refine g_aload_n (pc := 37) C 0 0 dX1_init_37 rfl rfl ?_
  refine g_iconst (v := 3) (pc := 38) C dX1_init_38 (by decide) ?_
  obtain ⟨a17, σ16, hvσ16, h⟩ := zcb h
  refine g_newaI (N := 3) (pc := 39) C (by decide) (by decide) (by decide) ac_int (by decide) (by decide) dX1_init_39 ?_
  rw [← (nw_h hvσ16).2, ← (nw_h hvσ16).1]
  obtain ⟨σ18, hvσ18, h⟩ := zbind h
  refine g_putRF (N := 20) (pc := 41) C ⟨ck_1, rfl, tyX1_ok⟩ hvσ18 rfl fl_X1_28 rfl hin ⟨rfl, rfl⟩ dX1_init_41 ?_
  refine g_aload_n (pc := 44) C 0 0 dX1_init_44 rfl rfl ?_
  refine g_bipush (v := 6) (pc := 45) C dX1_init_45 (by decide) ?_
  obtain ⟨a20, σ19, hvσ19, h⟩ := zcb h
  refine g_newaI (N := 6) (pc := 47) C (by decide) (by decide) (by decide) ac_int (by decide) (by decide) dX1_init_47 ?_
  rw [← (nw_h hvσ19).2, ← (nw_h hvσ19).1]
  obtain ⟨σ21, hvσ21, h⟩ := zbind h
  refine g_putRF (N := 20) (pc := 49) C ⟨ck_1, rfl, tyX1_ok⟩ hvσ21 rfl fl_X1_31 rfl hin ⟨rfl, rfl⟩ dX1_init_49 ?_
  refine g_aload_n (pc := 52) C 0 0 dX1_init_52 rfl rfl ?_
  refine g_bipush (v := 6) (pc := 53) C dX1_init_53 (by decide) ?_
  obtain ⟨a23, σ22, hvσ22, h⟩ := zcb h
  refine g_newaI (N := 6) (pc := 55) C (by decide) (by decide) (by decide) ac_int (by decide) (by decide) dX1_init_55 ?_
  rw [← (nw_h hvσ22).2, ← (nw_h hvσ22).1]
  obtain ⟨σ24, hvσ24, h⟩ := zbind h
  refine g_putRF (N := 20) (pc := 57) C ⟨ck_1, rfl, tyX1_ok⟩ hvσ24 rfl fl_X1_34 rfl hin ⟨rfl, rfl⟩ dX1_init_57 ?_
  refine g_aload_n (pc := 60) C 0 0 dX1_init_60 rfl rfl ?_
  refine g_bipush (v := 6) (pc := 61) C dX1_init_61 (by decide) ?_
  obtain ⟨a26, σ25, hvσ25, h⟩ := zcb h
  refine g_newaI (N := 6) (pc := 63) C (by decide) (by decide) (by decide) ac_int (by decide) (by decide) dX1_init_63 ?_
  rw [← (nw_h hvσ25).2, ← (nw_h hvσ25).1]
  obtain ⟨σ27, hvσ27, h⟩ := zbind h
  refine g_putRF (N := 20) (pc := 65) C ⟨ck_1, rfl, tyX1_ok⟩ hvσ27 rfl fl_X1_37 rfl hin ⟨rfl, rfl⟩ dX1_init_65 ?_
  refine g_aload_n (pc := 68) C 0 0 dX1_init_68 rfl rfl ?_
  refine g_bipush (v := 6) (pc := 69) C dX1_init_69 (by decide) ?_
  obtain ⟨a29, σ28, hvσ28, h⟩ := zcb h
  refine g_newaI (N := 6) (pc := 71) C (by decide) (by decide) (by decide) ac_int (by decide) (by decide) dX1_init_71 ?_
  rw [← (nw_h hvσ28).2, ← (nw_h hvσ28).1]
  obtain ⟨σ30, hvσ30, h⟩ := zbind h
  refine g_putRF (N := 20) (pc := 73) C ⟨ck_1, rfl, tyX1_ok⟩ hvσ30 rfl fl_X1_40 rfl hin ⟨rfl, rfl⟩ dX1_init_73 ?_
  refine g_aload_n (pc := 76) C 0 0 dX1_init_76 rfl rfl ?_
  refine g_bipush (v := 6) (pc := 77) C dX1_init_77 (by decide) ?_
  obtain ⟨a32, σ31, hvσ31, h⟩ := zcb h
  refine g_newaI (N := 6) (pc := 79) C (by decide) (by decide) (by decide) ac_int (by decide) (by decide) dX1_init_79 ?_
  rw [← (nw_h hvσ31).2, ← (nw_h hvσ31).1]
  obtain ⟨σ33, hvσ33, h⟩ := zbind h
  refine g_putRF (N := 20) (pc := 81) C ⟨ck_1, rfl, tyX1_ok⟩ hvσ33 rfl fl_X1_43 rfl hin ⟨rfl, rfl⟩ dX1_init_81 ?_
  refine g_aload_n (pc := 84) C 0 0 dX1_init_84 rfl rfl ?_
  refine g_iconst (v := 3) (pc := 85) C dX1_init_85 (by decide) ?_
  obtain ⟨a35, σ34, hvσ34, h⟩ := zcb h
  refine g_newaI (N := 3) (pc := 86) C (by decide) (by decide) (by decide) ac_int (by decide) (by decide) dX1_init_86 ?_
  rw [← (nw_h hvσ34).2, ← (nw_h hvσ34).1]
  refine g_dup (pc := 88) C dX1_init_88 rfl ?_
  refine g_iconst (v := 0) (pc := 89) C dX1_init_89 (by decide) ?_
  refine g_iconst (v := 0) (pc := 90) C dX1_init_90 (by decide) ?_
  obtain ⟨σ36, hvσ36, h⟩ := zbind h
  refine g_iast (pc := 91) C hvσ36 dX1_init_91 ?_
  refine g_dup (pc := 92) C dX1_init_92 rfl ?_
  refine g_iconst (v := 1) (pc := 93) C dX1_init_93 (by decide) ?_
  refine g_iconst (v := 1) (pc := 94) C dX1_init_94 (by decide) ?_
  obtain ⟨σ37, hvσ37, h⟩ := zbind h
  refine g_iast (pc := 95) C hvσ37 dX1_init_95 ?_
  refine g_dup (pc := 96) C dX1_init_96 rfl ?_
  refine g_iconst (v := 2) (pc := 97) C dX1_init_97 (by decide) ?_
  refine g_iconst (v := 0) (pc := 98) C dX1_init_98 (by decide) ?_
  obtain ⟨σ38, hvσ38, h⟩ := zbind h
  refine g_iast (pc := 99) C hvσ38 dX1_init_99 ?_
  obtain ⟨σ39, hvσ39, h⟩ := zbind h
  refine g_putRF (N := 20) (pc := 100) C ⟨ck_1, rfl, tyX1_ok⟩ hvσ39 rfl fl_X1_46 rfl hin ⟨rfl, rfl⟩ dX1_init_100 ?_
  refine g_aload_n (pc := 103) C 0 0 dX1_init_103 rfl rfl ?_
  refine g_bipush (v := 6) (pc := 104) C dX1_init_104 (by decide) ?_
  obtain ⟨a41, σ40, hvσ40, h⟩ := zcb h
  refine g_newq15 (N := 6) (pc := 106) C (by decide) (by decide) (by decide) cl_X1_49 ao_X7 (by decide) (by decide) dX1_init_106 ?_
  rw [← (nw_h hvσ40).2, ← (nw_h hvσ40).1]
  obtain ⟨σ42, hvσ42, h⟩ := zbind h
  refine g_putRF (N := 20) (pc := 109) C ⟨ck_1, rfl, tyX1_ok⟩ hvσ42 rfl fl_X1_51 rfl hin ⟨rfl, rfl⟩ dX1_init_109 ?_
  refine g_aload_n (pc := 112) C 0 0 dX1_init_112 rfl rfl ?_
  obtain ⟨a44, σ43, hvσ43, h⟩ := zcb h
  refine g_new (c := 5) (N := 2) (pc := 113) C ck_5 tyX5 tyX5_ok df_5 cl_X1_55 in_X5 ii_X5 (by decide) (by decide) dX1_init_113 ?_
  rw [← (nw_h hvσ43).2, ← (nw_h hvσ43).1]
  refine g_dup (pc := 116) C dX1_init_116 rfl ?_
  obtain ⟨u45, hvu45, h⟩ := zbind h
  obtain ⟨v47, σ46, hvσ46, h⟩ := zcb h
  refine g_callIN (pc := 117) (av := []) C (c_X5_init hE hvσ46) yi_X5_init ml_X1_57 rfl (rf_of (by decide)) rfl (Nat.le_of_ble_eq_true rfl) dX1_init_117 ?_
  obtain ⟨σ48, hvσ48, h⟩ := zbind h
  refine g_putRF (N := 20) (pc := 120) C ⟨ck_1, rfl, tyX1_ok⟩ hvσ48 rfl fl_X1_58 rfl hin ⟨rfl, rfl⟩ dX1_init_120 ?_
  refine g_aload_n (pc := 123) C 0 0 dX1_init_123 rfl rfl ?_
  refine g_iconst (v := 0) (pc := 124) C dX1_init_124 (by decide) ?_
  obtain ⟨σ49, hvσ49, h⟩ := zbind h
  refine g_putI (N := 20) (pc := 125) C ⟨ck_1, rfl, tyX1_ok⟩ hvσ49 rfl fl_X1_62 rfl rfl dX1_init_125 ?_
  refine g_aload_n (pc := 128) C 0 0 dX1_init_128 rfl rfl ?_
  refine g_iconst (v := 0) (pc := 129) C dX1_init_129 (by decide) ?_
  obtain ⟨σ50, hvσ50, h⟩ := zbind h
  refine g_putI (N := 20) (pc := 130) C ⟨ck_1, rfl, tyX1_ok⟩ hvσ50 rfl fl_X1_66 rfl rfl dX1_init_130 ?_
  refine g_aload_n (pc := 133) C 0 0 dX1_init_133 rfl rfl ?_
  refine g_iconst (v := 0) (pc := 134) C dX1_init_134 (by decide) ?_
  obtain ⟨σ51, hvσ51, h⟩ := zbind h
  refine g_putI (N := 20) (pc := 135) C ⟨ck_1, rfl, tyX1_ok⟩ hvσ51 rfl fl_X1_69 rfl rfl dX1_init_135 ?_
  refine g_aload_n (pc := 138) C 0 0 dX1_init_138 rfl rfl ?_
  refine g_iconst (v := 0) (pc := 139) C dX1_init_139 (by decide) ?_
  obtain ⟨σ52, hvσ52, h⟩ := zbind h
  refine g_putI (N := 20) (pc := 140) C ⟨ck_1, rfl, tyX1_ok⟩ hvσ52 rfl fl_X1_72 rfl rfl dX1_init_140 ?_
  refine g_aload_n (pc := 143) C 0 0 dX1_init_143 rfl rfl ?_
  refine g_iconst (v := 0) (pc := 144) C dX1_init_144 (by decide) ?_
  obtain ⟨σ53, hvσ53, h⟩ := zbind h
  refine g_putI (N := 20) (pc := 145) C ⟨ck_1, rfl, tyX1_ok⟩ hvσ53 rfl fl_X1_75 rfl rfl dX1_init_145 ?_
  refine g_aload_n (pc := 148) C 0 0 dX1_init_148 rfl rfl ?_
  refine g_iconst (v := 0) (pc := 149) C dX1_init_149 (by decide) ?_
  obtain ⟨σ54, hvσ54, h⟩ := zbind h
  refine g_putI (N := 20) (pc := 150) C ⟨ck_1, rfl, tyX1_ok⟩ hvσ54 rfl fl_X1_78 rfl rfl dX1_init_150 ?_
  refine g_aload_n (pc := 153) C 0 0 dX1_init_153 rfl rfl ?_
  refine g_iconst (v := (-1)) (pc := 154) C dX1_init_154 (by decide) ?_
  obtain ⟨σ55, hvσ55, h⟩ := zbind h
  refine g_putI (N := 20) (pc := 155) C ⟨ck_1, rfl, tyX1_ok⟩ hvσ55 rfl fl_X1_81 rfl rfl dX1_init_155 ?_
  obtain ⟨rfl, rfl⟩ := zsome h
  exact g_vret (pc := 158) C rfl hx (by rw [hxn]; rfl) (by rw [hxn]; rfl) dX1_init_158
def rm_X3_copyFrom : Room := { frames := 2, cells := 0, slots := 0, locals := 81 }
noncomputable def s_X3_copyFrom (h0 : Nat) (p1 : Option Nat) (σ : Hp) : Option (Unit × Hp) :=
  (p1).bind fun a1 =>
  (rdR 3 σ a1 0).bind fun r2 =>
  (rdR 3 σ h0 0).bind fun r3 =>
  cb (s_X8_copyRow (r2) (r3) σ) fun v5 σ4 =>
  (rdR 3 σ4 a1 1).bind fun r6 =>
  (rdR 3 σ4 h0 1).bind fun r7 =>
  cb (s_X8_copyRow (r6) (r7) σ4) fun v9 σ8 =>
  (rdR 3 σ8 a1 2).bind fun r10 =>
  (rdR 3 σ8 h0 2).bind fun r11 =>
  cb (s_X8_copyRow (r10) (r11) σ8) fun v13 σ12 =>
  (rdI 3 σ12 a1 3).bind fun v14 =>
  (wrI 3 σ12 h0 3 (v14)).bind fun σ15 =>
  some ((), σ15)
set_option maxRecDepth 100000 in
theorem c_X3_copyFrom {E : E0} (hE : EOK E) {h0 : Nat} {p1 : Option Nat} {σ σ1 : Hp} {r : Unit} (h : s_X3_copyFrom h0 p1 σ = some (r, σ1)) : CT E yX3_copyFrom (.code yX3_copyFrom cX3_copyFrom 2 none) rm_X3_copyFrom [tR (some (h0)), tR (p1)] σ none σ1 := by
  refine CT.mk hE (by decide +kernel) (Nat.le_of_ble_eq_true rfl) [(0, tR (some (h0))), (1, tR (p1))] rfl (fun X C hin hx hxn => ?_)
  have C : XOK E X cX3_copyFrom RX3 2 none rm_X3_copyFrom := C
  unfold s_X3_copyFrom at h
  refine g_aload_n (pc := 0) C 1 1 dX3_copyFrom_0 rfl rfl ?_
  obtain ⟨a1, hqa1, h9⟩ := zbind h
  clear h
  subst hqa1
  have h := h9
  clear h9
  obtain ⟨r2, hvr2, h⟩ := zbind h
  refine g_getR (N := 4) (pc := 1) C ck_3 hvr2 rfl rfl fl_X3_9 dX3_copyFrom_1 ?_
  refine g_aload_n (pc := 4) C 0 0 dX3_copyFrom_4 rfl rfl ?_
  obtain ⟨r3, hvr3, h⟩ := zbind h
  refine g_getR (N := 4) (pc := 5) C ck_3 hvr3 rfl rfl fl_X3_9 dX3_copyFrom_5 ?_
  obtain ⟨v5, σ4, hvσ4, h⟩ := zcb h
  refine g_callSN (pc := 8) (av := [tR (r2), tR (r3)]) C (c_X8_copyRow hE hvσ4) ys_X8_copyRow ml_X3_29 rfl (rf_of (by decide)) rfl (Nat.le_of_ble_eq_true rfl) dX3_copyFrom_8 ?_
  refine g_aload_n (pc := 11) C 1 1 dX3_copyFrom_11 rfl rfl ?_
  obtain ⟨r6, hvr6, h⟩ := zbind h
  refine g_getR (N := 4) (pc := 12) C ck_3 hvr6 rfl rfl fl_X3_15 dX3_copyFrom_12 ?_
  refine g_aload_n (pc := 15) C 0 0 dX3_copyFrom_15 rfl rfl ?_
  obtain ⟨r7, hvr7, h⟩ := zbind h
  refine g_getR (N := 4) (pc := 16) C ck_3 hvr7 rfl rfl fl_X3_15 dX3_copyFrom_16 ?_
  obtain ⟨v9, σ8, hvσ8, h⟩ := zcb h
  refine g_callSN (pc := 19) (av := [tR (r6), tR (r7)]) C (c_X8_copyRow hE hvσ8) ys_X8_copyRow ml_X3_29 rfl (rf_of (by decide)) rfl (Nat.le_of_ble_eq_true rfl) dX3_copyFrom_19 ?_
  refine g_aload_n (pc := 22) C 1 1 dX3_copyFrom_22 rfl rfl ?_
  obtain ⟨r10, hvr10, h⟩ := zbind h
  refine g_getR (N := 4) (pc := 23) C ck_3 hvr10 rfl rfl fl_X3_18 dX3_copyFrom_23 ?_
  refine g_aload_n (pc := 26) C 0 0 dX3_copyFrom_26 rfl rfl ?_
  obtain ⟨r11, hvr11, h⟩ := zbind h
  refine g_getR (N := 4) (pc := 27) C ck_3 hvr11 rfl rfl fl_X3_18 dX3_copyFrom_27 ?_
  obtain ⟨v13, σ12, hvσ12, h⟩ := zcb h
  refine g_callSN (pc := 30) (av := [tR (r10), tR (r11)]) C (c_X8_copyRow hE hvσ12) ys_X8_copyRow ml_X3_29 rfl (rf_of (by decide)) rfl (Nat.le_of_ble_eq_true rfl) dX3_copyFrom_30 ?_
  refine g_aload_n (pc := 33) C 0 0 dX3_copyFrom_33 rfl rfl ?_
  refine g_aload_n (pc := 34) C 1 1 dX3_copyFrom_34 rfl rfl ?_
  obtain ⟨v14, hvv14, h⟩ := zbind h
  refine g_getI (N := 4) (pc := 35) C ck_3 hvv14 rfl rfl fl_X3_21 dX3_copyFrom_35 ?_
  obtain ⟨σ15, hvσ15, h⟩ := zbind h
  refine g_putI (N := 4) (pc := 38) C ⟨ck_3, rfl, tyX3_ok⟩ hvσ15 rfl fl_X3_21 rfl rfl dX3_copyFrom_38 ?_
  obtain ⟨rfl, rfl⟩ := zsome h
  exact g_vret (pc := 41) C rfl hx (by rw [hxn]; rfl) (by rw [hxn]; rfl) dX3_copyFrom_41
def rm_X1_copyFrom : Room := { frames := 3, cells := 0, slots := 0, locals := 102 }
noncomputable def s_X1_copyFrom_b123 (h0 : Nat) (l1 : Option Nat) (l2 : Int32) (σ : Hp) : Option (((Nat × (Option Nat) × Int32) ⊕ ((Nat × (Option Nat)))) × Hp) :=
  if 6 ≤ l2 then
    some (Sum.inr ((h0), (l1)), σ)
  else
    (rdR 1 σ h0 11).bind fun r1 =>
    (l1).bind fun a2 =>
    (rdR 1 σ a2 11).bind fun r3 =>
    (r3).bind fun a4 =>
    (ldR 15 σ a4 (l2)).bind fun r5 =>
    (r1).bind fun a6 =>
    (stR 15 7 σ a6 (l2) (r5)).bind fun σ7 =>
    some (Sum.inl ((h0), (some (a2)), (l2 + 1)), σ7)
noncomputable def s_X1_copyFrom_l123 : (Nat × (Option Nat) × Int32) → Hp → Option (((Nat × (Option Nat))) × Hp) := loopF (fun v => s_X1_copyFrom_b123 (v.1) (v.2.1) (v.2.2))
set_option maxRecDepth 100000 in
theorem w_X1_copyFrom_b123 {E : E0} (hE : EOK E) {X : X0} (C : XOK E X cX1_copyFrom RX1 3 none rm_X1_copyFrom) (hxn : xn X = (rm_X1_copyFrom.cells, rm_X1_copyFrom.slots)) {KE : ((Nat × (Option Nat))) → Hp → Prop} (e_147 : ∀ (h0 : Nat) (l1 : Option Nat) (σ : Hp), KE ((h0, l1)) σ → G E X 0 0 147 [(0, tR (some (h0))), (1, tR (l1))] [] σ) (h0 : Nat) (l1 : Option Nat) (l2 : Int32) (σ : Hp) (x : (Nat × (Option Nat) × Int32) ⊕ ((Nat × (Option Nat)))) (σ1 : Hp) (h : s_X1_copyFrom_b123 h0 l1 l2 σ = some (x, σ1)) (hI : ∀ v, x = Sum.inl v → (fun (v : Nat × (Option Nat) × Int32) (σ : Hp) => G E X 0 0 123 [(0, tR (some ((v.1)))), (1, tR ((v.2.1))), (2, tI ((v.2.2)))] [] σ) v σ1) (hO : ∀ e, x = Sum.inr e → KE e σ1) : G E X 0 0 123 [(0, tR (some (h0))), (1, tR (l1)), (2, tI (l2))] [] σ := by
  unfold s_X1_copyFrom_b123 at h
  refine g_iload_n (pc := 123) C 2 2 dX1_copyFrom_123 rfl rfl ?_
  refine g_bipush (v := 6) (pc := 124) C dX1_copyFrom_124 (by decide) ?_
  refine g_icmp_ge (pc := 126) C 147 dX1_copyFrom_126 (by decide) (fun c8 => ?_) (fun c8 => ?_)
  · have h := zif_t c8 h
    refine g_sub [0, 1] (lm' := [(0, tR (some (h0))), (1, tR (l1))]) rfl ?_
    obtain ⟨rfl, rfl⟩ := zsome h
    exact e_147 _ _ _ (hO _ rfl)
  · have h := zif_f c8 h
    refine g_aload_n (pc := 129) C 0 0 dX1_copyFrom_129 rfl rfl ?_
    obtain ⟨r1, hvr1, h⟩ := zbind h
    refine g_getR (N := 20) (pc := 130) C ck_1 hvr1 rfl rfl fl_X1_51 dX1_copyFrom_130 ?_
    refine g_iload_n (pc := 133) C 2 2 dX1_copyFrom_133 rfl rfl ?_
    refine g_aload_n (pc := 134) C 1 1 dX1_copyFrom_134 rfl rfl ?_
    obtain ⟨a2, hqa2, h9⟩ := zbind h
    clear h
    subst hqa2
    have h := h9
    clear h9
    obtain ⟨r3, hvr3, h⟩ := zbind h
    refine g_getR (N := 20) (pc := 135) C ck_1 hvr3 rfl rfl fl_X1_51 dX1_copyFrom_135 ?_
    refine g_iload_n (pc := 138) C 2 2 dX1_copyFrom_138 rfl rfl ?_
    obtain ⟨a4, hqa4, h9⟩ := zbind h
    clear h
    subst hqa4
    have h := h9
    clear h9
    obtain ⟨r5, hvr5, h⟩ := zbind h
    refine g_aald15 (pc := 139) C hvr5 dX1_copyFrom_139 ?_
    obtain ⟨a6, hqa6, h9⟩ := zbind h
    clear h
    subst hqa6
    have h := h9
    clear h9
    obtain ⟨σ7, hvσ7, h⟩ := zbind h
    refine g_aast (c := 15) (e := 7) (pc := 140) C (by first | exact Or.inl ⟨rfl, rfl, rfl⟩ | exact Or.inr ⟨rfl, rfl, rfl⟩) hvσ7 dX1_copyFrom_140 ?_
    refine g_iinc (lm' := [(2, tI (l2 + 1)), (0, tR (some (h0))), (1, tR (some (a2)))]) (v := l2 + 1) (pc := 141) C 2 dX1_copyFrom_141 rfl rfl (by decide) rfl ?_
    refine g_goto (pc := 144) C 123 dX1_copyFrom_144 (by decide) ?_
    refine g_sub [1, 2, 0] (lm' := [(0, tR (some (h0))), (1, tR (some (a2))), (2, tI (l2 + 1))]) rfl ?_
    obtain ⟨rfl, rfl⟩ := zsome h
    exact hI _ rfl
theorem w_X1_copyFrom_l123 {E : E0} (hE : EOK E) {X : X0} (C : XOK E X cX1_copyFrom RX1 3 none rm_X1_copyFrom) (hxn : xn X = (rm_X1_copyFrom.cells, rm_X1_copyFrom.slots)) {KE : ((Nat × (Option Nat))) → Hp → Prop} (e_147 : ∀ (h0 : Nat) (l1 : Option Nat) (σ : Hp), KE ((h0, l1)) σ → G E X 0 0 147 [(0, tR (some (h0))), (1, tR (l1))] [] σ) {v : Nat × (Option Nat) × Int32} {σ : Hp} {e : (Nat × (Option Nat))} {σ1 : Hp} (h : s_X1_copyFrom_l123 v σ = some (e, σ1)) (hO : KE e σ1) : G E X 0 0 123 [(0, tR (some ((v.1)))), (1, tR ((v.2.1))), (2, tI ((v.2.2)))] [] σ := loopF_ind (P := fun (v : Nat × (Option Nat) × Int32) (σ : Hp) => G E X 0 0 123 [(0, tR (some ((v.1)))), (1, tR ((v.2.1))), (2, tI ((v.2.2)))] [] σ) (KE := KE) (fun v σ x σ1 h hI hO => w_X1_copyFrom_b123 hE C hxn e_147 (v.1) (v.2.1) (v.2.2) σ x σ1 h hI hO) v σ e σ1 h hO
noncomputable def s_X1_copyFrom (h0 : Nat) (p1 : Option Nat) (σ : Hp) : Option (Unit × Hp) :=
  (rdR 1 σ h0 0).bind fun r1 =>
  (p1).bind fun a2 =>
  (rdR 1 σ a2 0).bind fun r3 =>
  (r1).bind fun a4 =>
  (ck 3 σ a4).bind fun u5 =>
  cb (s_X3_copyFrom a4 (r3) σ) fun v7 σ6 =>
  (rdR 1 σ6 a2 1).bind fun r8 =>
  (rdR 1 σ6 h0 1).bind fun r9 =>
  cb (s_X8_copyRow (r8) (r9) σ6) fun v11 σ10 =>
  (rdR 1 σ10 a2 2).bind fun r12 =>
  (rdR 1 σ10 h0 2).bind fun r13 =>
  cb (s_X8_copyRow (r12) (r13) σ10) fun v15 σ14 =>
  (rdR 1 σ14 a2 3).bind fun r16 =>
  (rdR 1 σ14 h0 3).bind fun r17 =>
  cb (s_X8_copyRow (r16) (r17) σ14) fun v19 σ18 =>
  (rdR 1 σ18 a2 4).bind fun r20 =>
  (rdR 1 σ18 h0 4).bind fun r21 =>
  cb (s_X8_copyRow (r20) (r21) σ18) fun v23 σ22 =>
  (rdR 1 σ22 a2 5).bind fun r24 =>
  (rdR 1 σ22 h0 5).bind fun r25 =>
  cb (s_X8_copyRow (r24) (r25) σ22) fun v27 σ26 =>
  (rdR 1 σ26 a2 6).bind fun r28 =>
  (rdR 1 σ26 h0 6).bind fun r29 =>
  cb (s_X8_copyRow (r28) (r29) σ26) fun v31 σ30 =>
  (rdR 1 σ30 a2 7).bind fun r32 =>
  (rdR 1 σ30 h0 7).bind fun r33 =>
  cb (s_X8_copyRow (r32) (r33) σ30) fun v35 σ34 =>
  (rdR 1 σ34 a2 8).bind fun r36 =>
  (rdR 1 σ34 h0 8).bind fun r37 =>
  cb (s_X8_copyRow (r36) (r37) σ34) fun v39 σ38 =>
  (rdR 1 σ38 a2 9).bind fun r40 =>
  (rdR 1 σ38 h0 9).bind fun r41 =>
  cb (s_X8_copyRow (r40) (r41) σ38) fun v43 σ42 =>
  (rdR 1 σ42 a2 10).bind fun r44 =>
  (rdR 1 σ42 h0 10).bind fun r45 =>
  cb (s_X8_copyRow (r44) (r45) σ42) fun v47 σ46 =>
  cb (s_X1_copyFrom_l123 ((h0), (some (a2)), (0)) σ46) fun e68 σ67 =>
  match e68 with
  | (h48, l149) =>
    (l149).bind fun a51 =>
    (rdI 1 σ67 a51 13).bind fun v52 =>
    (wrI 1 σ67 h48 13 (v52)).bind fun σ53 =>
    (rdI 1 σ53 a51 14).bind fun v54 =>
    (wrI 1 σ53 h48 14 (v54)).bind fun σ55 =>
    (rdI 1 σ55 a51 15).bind fun v56 =>
    (wrI 1 σ55 h48 15 (v56)).bind fun σ57 =>
    (rdI 1 σ57 a51 16).bind fun v58 =>
    (wrI 1 σ57 h48 16 (v58)).bind fun σ59 =>
    (rdI 1 σ59 a51 17).bind fun v60 =>
    (wrI 1 σ59 h48 17 (v60)).bind fun σ61 =>
    (rdI 1 σ61 a51 18).bind fun v62 =>
    (wrI 1 σ61 h48 18 (v62)).bind fun σ63 =>
    (rdI 1 σ63 a51 19).bind fun v64 =>
    (wrI 1 σ63 h48 19 (v64)).bind fun σ65 =>
    some ((), σ65)
set_option maxRecDepth 100000 in
theorem c_X1_copyFrom {E : E0} (hE : EOK E) {h0 : Nat} {p1 : Option Nat} {σ σ1 : Hp} {r : Unit} (h : s_X1_copyFrom h0 p1 σ = some (r, σ1)) : CT E yX1_copyFrom (.code yX1_copyFrom cX1_copyFrom 3 none) rm_X1_copyFrom [tR (some (h0)), tR (p1)] σ none σ1 := by
  refine CT.mk hE (by decide +kernel) (Nat.le_of_ble_eq_true rfl) [(0, tR (some (h0))), (1, tR (p1))] rfl (fun X C hin hx hxn => ?_)
  have C : XOK E X cX1_copyFrom RX1 3 none rm_X1_copyFrom := C
  unfold s_X1_copyFrom at h
  refine g_aload_n (pc := 0) C 0 0 dX1_copyFrom_0 rfl rfl ?_
  obtain ⟨r1, hvr1, h⟩ := zbind h
  refine g_getR (N := 20) (pc := 1) C ck_1 hvr1 rfl rfl fl_X1_12 dX1_copyFrom_1 ?_
  refine g_aload_n (pc := 4) C 1 1 dX1_copyFrom_4 rfl rfl ?_
  obtain ⟨a2, hqa2, h9⟩ := zbind h
  clear h
  subst hqa2
  have h := h9
  clear h9
  obtain ⟨r3, hvr3, h⟩ := zbind h
  refine g_getR (N := 20) (pc := 5) C ck_1 hvr3 rfl rfl fl_X1_12 dX1_copyFrom_5 ?_
  obtain ⟨a4, hqa4, h9⟩ := zbind h
  clear h
  subst hqa4
  have h := h9
  clear h9
  obtain ⟨u5, hvu5, h⟩ := zbind h
  obtain ⟨v7, σ6, hvσ6, h⟩ := zcb h
  refine g_callV (pc := 8) (av := [tR (r3)]) C (c_X3_copyFrom hE hvσ6) yv_X3_copyFrom ml_X1_84 ck_3 (zopt hvu5).1 rfl (rf_of (by decide)) rfl (Nat.le_of_ble_eq_true rfl) dX1_copyFrom_8 ?_
  refine g_aload_n (pc := 11) C 1 1 dX1_copyFrom_11 rfl rfl ?_
  obtain ⟨r8, hvr8, h⟩ := zbind h
  refine g_getR (N := 20) (pc := 12) C ck_1 hvr8 rfl rfl fl_X1_18 dX1_copyFrom_12 ?_
  refine g_aload_n (pc := 15) C 0 0 dX1_copyFrom_15 rfl rfl ?_
  obtain ⟨r9, hvr9, h⟩ := zbind h
  refine g_getR (N := 20) (pc := 16) C ck_1 hvr9 rfl rfl fl_X1_18 dX1_copyFrom_16 ?_
  obtain ⟨v11, σ10, hvσ10, h⟩ := zcb h
  refine g_callSN (pc := 19) (av := [tR (r8), tR (r9)]) C (c_X8_copyRow hE hvσ10) ys_X8_copyRow ml_X1_88 rfl (rf_of (by decide)) rfl (Nat.le_of_ble_eq_true rfl) dX1_copyFrom_19 ?_
  refine g_aload_n (pc := 22) C 1 1 dX1_copyFrom_22 rfl rfl ?_
  obtain ⟨r12, hvr12, h⟩ := zbind h
  refine g_getR (N := 20) (pc := 23) C ck_1 hvr12 rfl rfl fl_X1_22 dX1_copyFrom_23 ?_
  refine g_aload_n (pc := 26) C 0 0 dX1_copyFrom_26 rfl rfl ?_
  obtain ⟨r13, hvr13, h⟩ := zbind h
  refine g_getR (N := 20) (pc := 27) C ck_1 hvr13 rfl rfl fl_X1_22 dX1_copyFrom_27 ?_
  obtain ⟨v15, σ14, hvσ14, h⟩ := zcb h
  refine g_callSN (pc := 30) (av := [tR (r12), tR (r13)]) C (c_X8_copyRow hE hvσ14) ys_X8_copyRow ml_X1_88 rfl (rf_of (by decide)) rfl (Nat.le_of_ble_eq_true rfl) dX1_copyFrom_30 ?_
  refine g_aload_n (pc := 33) C 1 1 dX1_copyFrom_33 rfl rfl ?_
  obtain ⟨r16, hvr16, h⟩ := zbind h
  refine g_getR (N := 20) (pc := 34) C ck_1 hvr16 rfl rfl fl_X1_25 dX1_copyFrom_34 ?_
  refine g_aload_n (pc := 37) C 0 0 dX1_copyFrom_37 rfl rfl ?_
  obtain ⟨r17, hvr17, h⟩ := zbind h
  refine g_getR (N := 20) (pc := 38) C ck_1 hvr17 rfl rfl fl_X1_25 dX1_copyFrom_38 ?_
  obtain ⟨v19, σ18, hvσ18, h⟩ := zcb h
  refine g_callSN (pc := 41) (av := [tR (r16), tR (r17)]) C (c_X8_copyRow hE hvσ18) ys_X8_copyRow ml_X1_88 rfl (rf_of (by decide)) rfl (Nat.le_of_ble_eq_true rfl) dX1_copyFrom_41 ?_
  refine g_aload_n (pc := 44) C 1 1 dX1_copyFrom_44 rfl rfl ?_
  obtain ⟨r20, hvr20, h⟩ := zbind h
  refine g_getR (N := 20) (pc := 45) C ck_1 hvr20 rfl rfl fl_X1_28 dX1_copyFrom_45 ?_
  refine g_aload_n (pc := 48) C 0 0 dX1_copyFrom_48 rfl rfl ?_
  obtain ⟨r21, hvr21, h⟩ := zbind h
  refine g_getR (N := 20) (pc := 49) C ck_1 hvr21 rfl rfl fl_X1_28 dX1_copyFrom_49 ?_
  obtain ⟨v23, σ22, hvσ22, h⟩ := zcb h
  refine g_callSN (pc := 52) (av := [tR (r20), tR (r21)]) C (c_X8_copyRow hE hvσ22) ys_X8_copyRow ml_X1_88 rfl (rf_of (by decide)) rfl (Nat.le_of_ble_eq_true rfl) dX1_copyFrom_52 ?_
  refine g_aload_n (pc := 55) C 1 1 dX1_copyFrom_55 rfl rfl ?_
  obtain ⟨r24, hvr24, h⟩ := zbind h
  refine g_getR (N := 20) (pc := 56) C ck_1 hvr24 rfl rfl fl_X1_31 dX1_copyFrom_56 ?_
  refine g_aload_n (pc := 59) C 0 0 dX1_copyFrom_59 rfl rfl ?_
  obtain ⟨r25, hvr25, h⟩ := zbind h
  refine g_getR (N := 20) (pc := 60) C ck_1 hvr25 rfl rfl fl_X1_31 dX1_copyFrom_60 ?_
  obtain ⟨v27, σ26, hvσ26, h⟩ := zcb h
  refine g_callSN (pc := 63) (av := [tR (r24), tR (r25)]) C (c_X8_copyRow hE hvσ26) ys_X8_copyRow ml_X1_88 rfl (rf_of (by decide)) rfl (Nat.le_of_ble_eq_true rfl) dX1_copyFrom_63 ?_
  refine g_aload_n (pc := 66) C 1 1 dX1_copyFrom_66 rfl rfl ?_
  obtain ⟨r28, hvr28, h⟩ := zbind h
  refine g_getR (N := 20) (pc := 67) C ck_1 hvr28 rfl rfl fl_X1_34 dX1_copyFrom_67 ?_
  refine g_aload_n (pc := 70) C 0 0 dX1_copyFrom_70 rfl rfl ?_
  obtain ⟨r29, hvr29, h⟩ := zbind h
  refine g_getR (N := 20) (pc := 71) C ck_1 hvr29 rfl rfl fl_X1_34 dX1_copyFrom_71 ?_
  obtain ⟨v31, σ30, hvσ30, h⟩ := zcb h
  refine g_callSN (pc := 74) (av := [tR (r28), tR (r29)]) C (c_X8_copyRow hE hvσ30) ys_X8_copyRow ml_X1_88 rfl (rf_of (by decide)) rfl (Nat.le_of_ble_eq_true rfl) dX1_copyFrom_74 ?_
  refine g_aload_n (pc := 77) C 1 1 dX1_copyFrom_77 rfl rfl ?_
  obtain ⟨r32, hvr32, h⟩ := zbind h
  refine g_getR (N := 20) (pc := 78) C ck_1 hvr32 rfl rfl fl_X1_37 dX1_copyFrom_78 ?_
  refine g_aload_n (pc := 81) C 0 0 dX1_copyFrom_81 rfl rfl ?_
  obtain ⟨r33, hvr33, h⟩ := zbind h
  refine g_getR (N := 20) (pc := 82) C ck_1 hvr33 rfl rfl fl_X1_37 dX1_copyFrom_82 ?_
  obtain ⟨v35, σ34, hvσ34, h⟩ := zcb h
  refine g_callSN (pc := 85) (av := [tR (r32), tR (r33)]) C (c_X8_copyRow hE hvσ34) ys_X8_copyRow ml_X1_88 rfl (rf_of (by decide)) rfl (Nat.le_of_ble_eq_true rfl) dX1_copyFrom_85 ?_
  refine g_aload_n (pc := 88) C 1 1 dX1_copyFrom_88 rfl rfl ?_
  obtain ⟨r36, hvr36, h⟩ := zbind h
  refine g_getR (N := 20) (pc := 89) C ck_1 hvr36 rfl rfl fl_X1_40 dX1_copyFrom_89 ?_
  refine g_aload_n (pc := 92) C 0 0 dX1_copyFrom_92 rfl rfl ?_
  obtain ⟨r37, hvr37, h⟩ := zbind h
  refine g_getR (N := 20) (pc := 93) C ck_1 hvr37 rfl rfl fl_X1_40 dX1_copyFrom_93 ?_
  obtain ⟨v39, σ38, hvσ38, h⟩ := zcb h
  refine g_callSN (pc := 96) (av := [tR (r36), tR (r37)]) C (c_X8_copyRow hE hvσ38) ys_X8_copyRow ml_X1_88 rfl (rf_of (by decide)) rfl (Nat.le_of_ble_eq_true rfl) dX1_copyFrom_96 ?_
  refine g_aload_n (pc := 99) C 1 1 dX1_copyFrom_99 rfl rfl ?_
  obtain ⟨r40, hvr40, h⟩ := zbind h
  refine g_getR (N := 20) (pc := 100) C ck_1 hvr40 rfl rfl fl_X1_43 dX1_copyFrom_100 ?_
  refine g_aload_n (pc := 103) C 0 0 dX1_copyFrom_103 rfl rfl ?_
  obtain ⟨r41, hvr41, h⟩ := zbind h
  refine g_getR (N := 20) (pc := 104) C ck_1 hvr41 rfl rfl fl_X1_43 dX1_copyFrom_104 ?_
  obtain ⟨v43, σ42, hvσ42, h⟩ := zcb h
  refine g_callSN (pc := 107) (av := [tR (r40), tR (r41)]) C (c_X8_copyRow hE hvσ42) ys_X8_copyRow ml_X1_88 rfl (rf_of (by decide)) rfl (Nat.le_of_ble_eq_true rfl) dX1_copyFrom_107 ?_
  refine g_aload_n (pc := 110) C 1 1 dX1_copyFrom_110 rfl rfl ?_
  obtain ⟨r44, hvr44, h⟩ := zbind h
  refine g_getR (N := 20) (pc := 111) C ck_1 hvr44 rfl rfl fl_X1_46 dX1_copyFrom_111 ?_
  refine g_aload_n (pc := 114) C 0 0 dX1_copyFrom_114 rfl rfl ?_
  obtain ⟨r45, hvr45, h⟩ := zbind h
  refine g_getR (N := 20) (pc := 115) C ck_1 hvr45 rfl rfl fl_X1_46 dX1_copyFrom_115 ?_
  obtain ⟨v47, σ46, hvσ46, h⟩ := zcb h
  refine g_callSN (pc := 118) (av := [tR (r44), tR (r45)]) C (c_X8_copyRow hE hvσ46) ys_X8_copyRow ml_X1_88 rfl (rf_of (by decide)) rfl (Nat.le_of_ble_eq_true rfl) dX1_copyFrom_118 ?_
  refine g_iconst (v := 0) (pc := 121) C dX1_copyFrom_121 (by decide) ?_
  refine g_istore_n (lm' := [(2, tI (0)), (0, tR (some (h0))), (1, tR (some (a2)))]) (pc := 122) C 2 dX1_copyFrom_122 rfl (by decide) rfl ?_
  refine g_sub [1, 2, 0] (lm' := [(0, tR (some (h0))), (1, tR (some (a2))), (2, tI (0))]) rfl ?_
  obtain ⟨KQ, hKQ, e68, σ67, hle68, h⟩ := zcbK h
  refine w_X1_copyFrom_l123 (KE := KQ) hE C hxn ?_ hle68 h
  · intro h48 l149 σ50 h
    have h := (hKQ _ _).mp h
    refine g_aload_n (pc := 147) C 0 0 dX1_copyFrom_147 rfl rfl ?_
    refine g_aload_n (pc := 148) C 1 1 dX1_copyFrom_148 rfl rfl ?_
    obtain ⟨a51, hqa51, h9⟩ := zbind h
    clear h
    subst hqa51
    have h := h9
    clear h9
    obtain ⟨v52, hvv52, h⟩ := zbind h
    refine g_getI (N := 20) (pc := 149) C ck_1 hvv52 rfl rfl fl_X1_62 dX1_copyFrom_149 ?_
    obtain ⟨σ53, hvσ53, h⟩ := zbind h
    refine g_putI (N := 20) (pc := 152) C ⟨ck_1, rfl, tyX1_ok⟩ hvσ53 rfl fl_X1_62 rfl rfl dX1_copyFrom_152 ?_
    refine g_aload_n (pc := 155) C 0 0 dX1_copyFrom_155 rfl rfl ?_
    refine g_aload_n (pc := 156) C 1 1 dX1_copyFrom_156 rfl rfl ?_
    obtain ⟨v54, hvv54, h⟩ := zbind h
    refine g_getI (N := 20) (pc := 157) C ck_1 hvv54 rfl rfl fl_X1_66 dX1_copyFrom_157 ?_
    obtain ⟨σ55, hvσ55, h⟩ := zbind h
    refine g_putI (N := 20) (pc := 160) C ⟨ck_1, rfl, tyX1_ok⟩ hvσ55 rfl fl_X1_66 rfl rfl dX1_copyFrom_160 ?_
    refine g_aload_n (pc := 163) C 0 0 dX1_copyFrom_163 rfl rfl ?_
    refine g_aload_n (pc := 164) C 1 1 dX1_copyFrom_164 rfl rfl ?_
    obtain ⟨v56, hvv56, h⟩ := zbind h
    refine g_getI (N := 20) (pc := 165) C ck_1 hvv56 rfl rfl fl_X1_69 dX1_copyFrom_165 ?_
    obtain ⟨σ57, hvσ57, h⟩ := zbind h
    refine g_putI (N := 20) (pc := 168) C ⟨ck_1, rfl, tyX1_ok⟩ hvσ57 rfl fl_X1_69 rfl rfl dX1_copyFrom_168 ?_
    refine g_aload_n (pc := 171) C 0 0 dX1_copyFrom_171 rfl rfl ?_
    refine g_aload_n (pc := 172) C 1 1 dX1_copyFrom_172 rfl rfl ?_
    obtain ⟨v58, hvv58, h⟩ := zbind h
    refine g_getI (N := 20) (pc := 173) C ck_1 hvv58 rfl rfl fl_X1_72 dX1_copyFrom_173 ?_
    obtain ⟨σ59, hvσ59, h⟩ := zbind h
    refine g_putI (N := 20) (pc := 176) C ⟨ck_1, rfl, tyX1_ok⟩ hvσ59 rfl fl_X1_72 rfl rfl dX1_copyFrom_176 ?_
    refine g_aload_n (pc := 179) C 0 0 dX1_copyFrom_179 rfl rfl ?_
    refine g_aload_n (pc := 180) C 1 1 dX1_copyFrom_180 rfl rfl ?_
    obtain ⟨v60, hvv60, h⟩ := zbind h
    refine g_getI (N := 20) (pc := 181) C ck_1 hvv60 rfl rfl fl_X1_75 dX1_copyFrom_181 ?_
    obtain ⟨σ61, hvσ61, h⟩ := zbind h
    refine g_putI (N := 20) (pc := 184) C ⟨ck_1, rfl, tyX1_ok⟩ hvσ61 rfl fl_X1_75 rfl rfl dX1_copyFrom_184 ?_
    refine g_aload_n (pc := 187) C 0 0 dX1_copyFrom_187 rfl rfl ?_
    refine g_aload_n (pc := 188) C 1 1 dX1_copyFrom_188 rfl rfl ?_
    obtain ⟨v62, hvv62, h⟩ := zbind h
    refine g_getI (N := 20) (pc := 189) C ck_1 hvv62 rfl rfl fl_X1_78 dX1_copyFrom_189 ?_
    obtain ⟨σ63, hvσ63, h⟩ := zbind h
    refine g_putI (N := 20) (pc := 192) C ⟨ck_1, rfl, tyX1_ok⟩ hvσ63 rfl fl_X1_78 rfl rfl dX1_copyFrom_192 ?_
    refine g_aload_n (pc := 195) C 0 0 dX1_copyFrom_195 rfl rfl ?_
    refine g_aload_n (pc := 196) C 1 1 dX1_copyFrom_196 rfl rfl ?_
    obtain ⟨v64, hvv64, h⟩ := zbind h
    refine g_getI (N := 20) (pc := 197) C ck_1 hvv64 rfl rfl fl_X1_81 dX1_copyFrom_197 ?_
    obtain ⟨σ65, hvσ65, h⟩ := zbind h
    refine g_putI (N := 20) (pc := 200) C ⟨ck_1, rfl, tyX1_ok⟩ hvσ65 rfl fl_X1_81 rfl rfl dX1_copyFrom_200 ?_
    obtain ⟨rfl, rfl⟩ := zsome h
    exact g_vret (pc := 203) C rfl hx (by rw [hxn]; rfl) (by rw [hxn]; rfl) dX1_copyFrom_203
def rm_X1_isBadger : Room := { frames := 0, cells := 0, slots := 0, locals := 0 }
noncomputable def s_X1_isBadger (h0 : Nat) (p1 : Int32) (σ : Hp) : Option (Int32 × Hp) :=
  if p1 < 0 then
    some ((0), σ)
  else
    (rdI 1 σ h0 14).bind fun v1 =>
    if v1 ≤ p1 then
      some ((0), σ)
    else
      if 3 ≤ p1 then
        some ((0), σ)
      else
        some ((1), σ)
set_option maxRecDepth 100000 in
theorem c_X1_isBadger {E : E0} (hE : EOK E) {h0 : Nat} {p1 : Int32} {σ σ1 : Hp} {r : Int32} (h : s_X1_isBadger h0 p1 σ = some (r, σ1)) : CT E yX1_isBadger (.code yX1_isBadger cX1_isBadger 2 (some .boolean)) rm_X1_isBadger [tR (some (h0)), tI (p1)] σ (some (tI r)) σ1 := by
  refine CT.mk hE (by decide +kernel) (Nat.le_of_ble_eq_true rfl) [(0, tR (some (h0))), (1, tI (p1))] rfl (fun X C hin hx hxn => ?_)
  have C : XOK E X cX1_isBadger RX1 2 (some .boolean) rm_X1_isBadger := C
  unfold s_X1_isBadger at h
  refine g_iload_n (pc := 0) C 1 1 dX1_isBadger_0 rfl rfl ?_
  refine g_if_lt (pc := 1) C 21 dX1_isBadger_1 (by decide) (fun c4 => ?_) (fun c4 => ?_)
  · have h := zif_t c4 h
    refine g_iconst (v := 0) (pc := 21) C dX1_isBadger_21 (by decide) ?_
    obtain ⟨rfl, rfl⟩ := zsome h
    exact g_zret (pc := 22) C rfl hx (by decide) (by rw [hxn]; rfl) (by rw [hxn]; rfl) dX1_isBadger_22
  · have h := zif_f c4 h
    refine g_iload_n (pc := 4) C 1 1 dX1_isBadger_4 rfl rfl ?_
    refine g_aload_n (pc := 5) C 0 0 dX1_isBadger_5 rfl rfl ?_
    obtain ⟨v1, hvv1, h⟩ := zbind h
    refine g_getI (N := 20) (pc := 6) C ck_1 hvv1 rfl rfl fl_X1_66 dX1_isBadger_6 ?_
    refine g_icmp_ge (pc := 9) C 21 dX1_isBadger_9 (by decide) (fun c3 => ?_) (fun c3 => ?_)
    · have h := zif_t c3 h
      refine g_iconst (v := 0) (pc := 21) C dX1_isBadger_21 (by decide) ?_
      obtain ⟨rfl, rfl⟩ := zsome h
      exact g_zret (pc := 22) C rfl hx (by decide) (by rw [hxn]; rfl) (by rw [hxn]; rfl) dX1_isBadger_22
    · have h := zif_f c3 h
      refine g_iload_n (pc := 12) C 1 1 dX1_isBadger_12 rfl rfl ?_
      refine g_iconst (v := 3) (pc := 13) C dX1_isBadger_13 (by decide) ?_
      refine g_icmp_ge (pc := 14) C 21 dX1_isBadger_14 (by decide) (fun c2 => ?_) (fun c2 => ?_)
      · have h := zif_t c2 h
        refine g_iconst (v := 0) (pc := 21) C dX1_isBadger_21 (by decide) ?_
        obtain ⟨rfl, rfl⟩ := zsome h
        exact g_zret (pc := 22) C rfl hx (by decide) (by rw [hxn]; rfl) (by rw [hxn]; rfl) dX1_isBadger_22
      · have h := zif_f c2 h
        refine g_iconst (v := 1) (pc := 17) C dX1_isBadger_17 (by decide) ?_
        refine g_goto (pc := 18) C 22 dX1_isBadger_18 (by decide) ?_
        obtain ⟨rfl, rfl⟩ := zsome h
        exact g_zret (pc := 22) C rfl hx (by decide) (by rw [hxn]; rfl) (by rw [hxn]; rfl) dX1_isBadger_22
def rm_X1_isLaw : Room := { frames := 0, cells := 0, slots := 0, locals := 0 }
noncomputable def s_X1_isLaw (h0 : Nat) (p1 : Int32) (σ : Hp) : Option (Int32 × Hp) :=
  if p1 < 0 then
    some ((0), σ)
  else
    (rdI 1 σ h0 17).bind fun v1 =>
    if v1 ≤ p1 then
      some ((0), σ)
    else
      if 6 ≤ p1 then
        some ((0), σ)
      else
        some ((1), σ)
set_option maxRecDepth 100000 in
theorem c_X1_isLaw {E : E0} (hE : EOK E) {h0 : Nat} {p1 : Int32} {σ σ1 : Hp} {r : Int32} (h : s_X1_isLaw h0 p1 σ = some (r, σ1)) : CT E yX1_isLaw (.code yX1_isLaw cX1_isLaw 2 (some .boolean)) rm_X1_isLaw [tR (some (h0)), tI (p1)] σ (some (tI r)) σ1 := by
  refine CT.mk hE (by decide +kernel) (Nat.le_of_ble_eq_true rfl) [(0, tR (some (h0))), (1, tI (p1))] rfl (fun X C hin hx hxn => ?_)
  have C : XOK E X cX1_isLaw RX1 2 (some .boolean) rm_X1_isLaw := C
  unfold s_X1_isLaw at h
  refine g_iload_n (pc := 0) C 1 1 dX1_isLaw_0 rfl rfl ?_
  refine g_if_lt (pc := 1) C 22 dX1_isLaw_1 (by decide) (fun c4 => ?_) (fun c4 => ?_)
  · have h := zif_t c4 h
    refine g_iconst (v := 0) (pc := 22) C dX1_isLaw_22 (by decide) ?_
    obtain ⟨rfl, rfl⟩ := zsome h
    exact g_zret (pc := 23) C rfl hx (by decide) (by rw [hxn]; rfl) (by rw [hxn]; rfl) dX1_isLaw_23
  · have h := zif_f c4 h
    refine g_iload_n (pc := 4) C 1 1 dX1_isLaw_4 rfl rfl ?_
    refine g_aload_n (pc := 5) C 0 0 dX1_isLaw_5 rfl rfl ?_
    obtain ⟨v1, hvv1, h⟩ := zbind h
    refine g_getI (N := 20) (pc := 6) C ck_1 hvv1 rfl rfl fl_X1_75 dX1_isLaw_6 ?_
    refine g_icmp_ge (pc := 9) C 22 dX1_isLaw_9 (by decide) (fun c3 => ?_) (fun c3 => ?_)
    · have h := zif_t c3 h
      refine g_iconst (v := 0) (pc := 22) C dX1_isLaw_22 (by decide) ?_
      obtain ⟨rfl, rfl⟩ := zsome h
      exact g_zret (pc := 23) C rfl hx (by decide) (by rw [hxn]; rfl) (by rw [hxn]; rfl) dX1_isLaw_23
    · have h := zif_f c3 h
      refine g_iload_n (pc := 12) C 1 1 dX1_isLaw_12 rfl rfl ?_
      refine g_bipush (v := 6) (pc := 13) C dX1_isLaw_13 (by decide) ?_
      refine g_icmp_ge (pc := 15) C 22 dX1_isLaw_15 (by decide) (fun c2 => ?_) (fun c2 => ?_)
      · have h := zif_t c2 h
        refine g_iconst (v := 0) (pc := 22) C dX1_isLaw_22 (by decide) ?_
        obtain ⟨rfl, rfl⟩ := zsome h
        exact g_zret (pc := 23) C rfl hx (by decide) (by rw [hxn]; rfl) (by rw [hxn]; rfl) dX1_isLaw_23
      · have h := zif_f c2 h
        refine g_iconst (v := 1) (pc := 18) C dX1_isLaw_18 (by decide) ?_
        refine g_goto (pc := 19) C 23 dX1_isLaw_19 (by decide) ?_
        obtain ⟨rfl, rfl⟩ := zsome h
        exact g_zret (pc := 23) C rfl hx (by decide) (by rw [hxn]; rfl) (by rw [hxn]; rfl) dX1_isLaw_23
def rm_X8_hasBit : Room := { frames := 0, cells := 0, slots := 0, locals := 0 }
noncomputable def s_X8_hasBit (p0 : Int32) (p1 : Int32) (σ : Hp) : Option (Int32 × Hp) :=
  if ((p0 >>> (p1 &&& 31)) &&& 1) = 1 then
    some ((1), σ)
  else
    some ((0), σ)
set_option maxRecDepth 100000 in
theorem c_X8_hasBit {E : E0} (hE : EOK E) {p0 : Int32} {p1 : Int32} {σ σ1 : Hp} {r : Int32} (h : s_X8_hasBit p0 p1 σ = some (r, σ1)) : CT E yX8_hasBit (.code yX8_hasBit cX8_hasBit 2 (some .boolean)) rm_X8_hasBit [tI (p0), tI (p1)] σ (some (tI r)) σ1 := by
  refine CT.mk hE (by decide +kernel) (Nat.le_of_ble_eq_true rfl) [(0, tI (p0)), (1, tI (p1))] rfl (fun X C hin hx hxn => ?_)
  have C : XOK E X cX8_hasBit RX8 2 (some .boolean) rm_X8_hasBit := C
  unfold s_X8_hasBit at h
  refine g_iload_n (pc := 0) C 0 0 dX8_hasBit_0 rfl rfl ?_
  refine g_iload_n (pc := 1) C 1 1 dX8_hasBit_1 rfl rfl ?_
  refine g_ishr (pc := 2) C dX8_hasBit_2 ?_
  refine g_iconst (v := 1) (pc := 3) C dX8_hasBit_3 (by decide) ?_
  refine g_iand (pc := 4) C dX8_hasBit_4 ?_
  refine g_iconst (v := 1) (pc := 5) C dX8_hasBit_5 (by decide) ?_
  refine g_icmp_ne (pc := 6) C 13 dX8_hasBit_6 (by decide) (fun c1 => ?_) (fun c1 => ?_)
  · have h := zif_f c1 h
    refine g_iconst (v := 0) (pc := 13) C dX8_hasBit_13 (by decide) ?_
    obtain ⟨rfl, rfl⟩ := zsome h
    exact g_zret (pc := 14) C rfl hx (by decide) (by rw [hxn]; rfl) (by rw [hxn]; rfl) dX8_hasBit_14
  · have h := zif_t c1 h
    refine g_iconst (v := 1) (pc := 9) C dX8_hasBit_9 (by decide) ?_
    refine g_goto (pc := 10) C 14 dX8_hasBit_10 (by decide) ?_
    obtain ⟨rfl, rfl⟩ := zsome h
    exact g_zret (pc := 14) C rfl hx (by decide) (by rw [hxn]; rfl) (by rw [hxn]; rfl) dX8_hasBit_14
def rm_X1_isOpen : Room := { frames := 1, cells := 0, slots := 0, locals := 21 }
noncomputable def s_X1_isOpen (h0 : Nat) (p1 : Int32) (p2 : Int32) (σ : Hp) : Option (Int32 × Hp) :=
  cb (s_X8_isRoom (Int32.toInt64 (p1 : Int32)) σ) fun v2 σ1 =>
  if v2 = 0 then
    some ((0), σ1)
  else
    cb (s_X8_isRoom (Int32.toInt64 (p2 : Int32)) σ1) fun v4 σ3 =>
    if v4 = 0 then
      some ((0), σ3)
    else
      (rdR 1 σ3 h0 1).bind fun r5 =>
      (r5).bind fun a6 =>
      (ldI 11 σ3 a6 (p1)).bind fun v7 =>
      cb (s_X8_hasBit (v7) (p2) σ3) fun v9 σ8 =>
      if v9 = 0 then
        some ((0), σ8)
      else
        some ((1), σ8)
set_option maxRecDepth 100000 in
theorem c_X1_isOpen {E : E0} (hE : EOK E) {h0 : Nat} {p1 : Int32} {p2 : Int32} {σ σ1 : Hp} {r : Int32} (h : s_X1_isOpen h0 p1 p2 σ = some (r, σ1)) : CT E yX1_isOpen (.code yX1_isOpen cX1_isOpen 3 (some .boolean)) rm_X1_isOpen [tR (some (h0)), tI (p1), tI (p2)] σ (some (tI r)) σ1 := by
  refine CT.mk hE (by decide +kernel) (Nat.le_of_ble_eq_true rfl) [(0, tR (some (h0))), (1, tI (p1)), (2, tI (p2))] rfl (fun X C hin hx hxn => ?_)
  have C : XOK E X cX1_isOpen RX1 3 (some .boolean) rm_X1_isOpen := C
  unfold s_X1_isOpen at h
  refine g_iload_n (pc := 0) C 1 1 dX1_isOpen_0 rfl rfl ?_
  refine g_i2l (pc := 1) C dX1_isOpen_1 ?_
  obtain ⟨v2, σ1, hvσ1, h⟩ := zcb h
  refine g_callSN (pc := 2) (av := [tJ (Int32.toInt64 (p1 : Int32))]) C (c_X8_isRoom hE hvσ1) ys_X8_isRoom ml_X1_92 rfl (rf_of (by decide)) rfl (Nat.le_of_ble_eq_true rfl) dX1_isOpen_2 ?_
  refine g_if_eq (pc := 5) C 33 dX1_isOpen_5 (by decide) (fun c12 => ?_) (fun c12 => ?_)
  · have h := zif_t c12 h
    refine g_iconst (v := 0) (pc := 33) C dX1_isOpen_33 (by decide) ?_
    obtain ⟨rfl, rfl⟩ := zsome h
    exact g_zret (pc := 34) C rfl hx (by decide) (by rw [hxn]; rfl) (by rw [hxn]; rfl) dX1_isOpen_34
  · have h := zif_f c12 h
    refine g_iload_n (pc := 8) C 2 2 dX1_isOpen_8 rfl rfl ?_
    refine g_i2l (pc := 9) C dX1_isOpen_9 ?_
    obtain ⟨v4, σ3, hvσ3, h⟩ := zcb h
    refine g_callSN (pc := 10) (av := [tJ (Int32.toInt64 (p2 : Int32))]) C (c_X8_isRoom hE hvσ3) ys_X8_isRoom ml_X1_92 rfl (rf_of (by decide)) rfl (Nat.le_of_ble_eq_true rfl) dX1_isOpen_10 ?_
    refine g_if_eq (pc := 13) C 33 dX1_isOpen_13 (by decide) (fun c11 => ?_) (fun c11 => ?_)
    · have h := zif_t c11 h
      refine g_iconst (v := 0) (pc := 33) C dX1_isOpen_33 (by decide) ?_
      obtain ⟨rfl, rfl⟩ := zsome h
      exact g_zret (pc := 34) C rfl hx (by decide) (by rw [hxn]; rfl) (by rw [hxn]; rfl) dX1_isOpen_34
    · have h := zif_f c11 h
      refine g_aload_n (pc := 16) C 0 0 dX1_isOpen_16 rfl rfl ?_
      obtain ⟨r5, hvr5, h⟩ := zbind h
      refine g_getR (N := 20) (pc := 17) C ck_1 hvr5 rfl rfl fl_X1_18 dX1_isOpen_17 ?_
      refine g_iload_n (pc := 20) C 1 1 dX1_isOpen_20 rfl rfl ?_
      obtain ⟨a6, hqa6, h9⟩ := zbind h
      clear h
      subst hqa6
      have h := h9
      clear h9
      obtain ⟨v7, hvv7, h⟩ := zbind h
      refine g_iald (pc := 21) C hvv7 dX1_isOpen_21 ?_
      refine g_iload_n (pc := 22) C 2 2 dX1_isOpen_22 rfl rfl ?_
      obtain ⟨v9, σ8, hvσ8, h⟩ := zcb h
      refine g_callSN (pc := 23) (av := [tI (v7), tI (p2)]) C (c_X8_hasBit hE hvσ8) ys_X8_hasBit ml_X1_96 rfl (rf_of (by decide)) rfl (Nat.le_of_ble_eq_true rfl) dX1_isOpen_23 ?_
      refine g_if_eq (pc := 26) C 33 dX1_isOpen_26 (by decide) (fun c10 => ?_) (fun c10 => ?_)
      · have h := zif_t c10 h
        refine g_iconst (v := 0) (pc := 33) C dX1_isOpen_33 (by decide) ?_
        obtain ⟨rfl, rfl⟩ := zsome h
        exact g_zret (pc := 34) C rfl hx (by decide) (by rw [hxn]; rfl) (by rw [hxn]; rfl) dX1_isOpen_34
      · have h := zif_f c10 h
        refine g_iconst (v := 1) (pc := 29) C dX1_isOpen_29 (by decide) ?_
        refine g_goto (pc := 30) C 34 dX1_isOpen_30 (by decide) ?_
        obtain ⟨rfl, rfl⟩ := zsome h
        exact g_zret (pc := 34) C rfl hx (by decide) (by rw [hxn]; rfl) (by rw [hxn]; rfl) dX1_isOpen_34
def rm_X1_badgersIn : Room := { frames := 0, cells := 0, slots := 0, locals := 0 }
noncomputable def s_X1_badgersIn_j30 (h0 : Nat) (l1 : Int32) (l2 : Int32) (l3 : Int32) (σ : Hp) : Option (((Nat × Int32 × Int32 × Int32) ⊕ (Int32)) × Hp) :=
  some (Sum.inl ((h0), (l1), (l2), (l3 + 1)), σ)
set_option maxRecDepth 100000 in
theorem w_X1_badgersIn_j30 {E : E0} (hE : EOK E) {X : X0} (C : XOK E X cX1_badgersIn RX1 4 (some .int) rm_X1_badgersIn) (hxn : xn X = (rm_X1_badgersIn.cells, rm_X1_badgersIn.slots)) {KE : (Int32) → Hp → Prop} (e_ret : ∀ (r : Int32) (σ : Hp), KE (r) σ → xd X = (some (tI r), σ)) (h0 : Nat) (l1 : Int32) (l2 : Int32) (l3 : Int32) (σ : Hp) (x : (Nat × Int32 × Int32 × Int32) ⊕ (Int32)) (σ1 : Hp) (h : s_X1_badgersIn_j30 h0 l1 l2 l3 σ = some (x, σ1)) (hI : ∀ v, x = Sum.inl v → (fun (v : Nat × Int32 × Int32 × Int32) (σ : Hp) => G E X 0 0 4 [(0, tR (some ((v.1)))), (1, tI ((v.2.1))), (2, tI ((v.2.2.1))), (3, tI ((v.2.2.2)))] [] σ) v σ1) (hO : ∀ e, x = Sum.inr e → KE e σ1) : G E X 0 0 30 [(0, tR (some (h0))), (1, tI (l1)), (2, tI (l2)), (3, tI (l3))] [] σ := by
  unfold s_X1_badgersIn_j30 at h
  refine g_iinc (lm' := [(3, tI (l3 + 1)), (0, tR (some (h0))), (1, tI (l1)), (2, tI (l2))]) (v := l3 + 1) (pc := 30) C 3 dX1_badgersIn_30 rfl rfl (by decide) rfl ?_
  refine g_goto (pc := 33) C 4 dX1_badgersIn_33 (by decide) ?_
  refine g_sub [1, 2, 3, 0] (lm' := [(0, tR (some (h0))), (1, tI (l1)), (2, tI (l2)), (3, tI (l3 + 1))]) rfl ?_
  obtain ⟨rfl, rfl⟩ := zsome h
  exact hI _ rfl
noncomputable def s_X1_badgersIn_b4 (h0 : Nat) (l1 : Int32) (l2 : Int32) (l3 : Int32) (σ : Hp) : Option (((Nat × Int32 × Int32 × Int32) ⊕ (Int32)) × Hp) :=
  (rdI 1 σ h0 14).bind fun v1 =>
  if v1 ≤ l3 then
    some (Sum.inr (l2), σ)
  else
    if 3 ≤ l3 then
      some (Sum.inr (l2), σ)
    else
      (rdR 1 σ h0 4).bind fun r2 =>
      (r2).bind fun a3 =>
      (ldI 11 σ a3 (l3)).bind fun v4 =>
      if v4 = l1 then
        s_X1_badgersIn_j30 (h0) (l1) (l2 + 1) (l3) σ
      else
        s_X1_badgersIn_j30 (h0) (l1) (l2) (l3) σ
noncomputable def s_X1_badgersIn_l4 : (Nat × Int32 × Int32 × Int32) → Hp → Option ((Int32) × Hp) := loopF (fun v => s_X1_badgersIn_b4 (v.1) (v.2.1) (v.2.2.1) (v.2.2.2))
set_option maxRecDepth 100000 in
theorem w_X1_badgersIn_b4 {E : E0} (hE : EOK E) {X : X0} (C : XOK E X cX1_badgersIn RX1 4 (some .int) rm_X1_badgersIn) (hxn : xn X = (rm_X1_badgersIn.cells, rm_X1_badgersIn.slots)) {KE : (Int32) → Hp → Prop} (e_ret : ∀ (r : Int32) (σ : Hp), KE (r) σ → xd X = (some (tI r), σ)) (h0 : Nat) (l1 : Int32) (l2 : Int32) (l3 : Int32) (σ : Hp) (x : (Nat × Int32 × Int32 × Int32) ⊕ (Int32)) (σ1 : Hp) (h : s_X1_badgersIn_b4 h0 l1 l2 l3 σ = some (x, σ1)) (hI : ∀ v, x = Sum.inl v → (fun (v : Nat × Int32 × Int32 × Int32) (σ : Hp) => G E X 0 0 4 [(0, tR (some ((v.1)))), (1, tI ((v.2.1))), (2, tI ((v.2.2.1))), (3, tI ((v.2.2.2)))] [] σ) v σ1) (hO : ∀ e, x = Sum.inr e → KE e σ1) : G E X 0 0 4 [(0, tR (some (h0))), (1, tI (l1)), (2, tI (l2)), (3, tI (l3))] [] σ := by
  unfold s_X1_badgersIn_b4 at h
  refine g_iload_n (pc := 4) C 3 3 dX1_badgersIn_4 rfl rfl ?_
  refine g_aload_n (pc := 5) C 0 0 dX1_badgersIn_5 rfl rfl ?_
  obtain ⟨v1, hvv1, h⟩ := zbind h
  refine g_getI (N := 20) (pc := 6) C ck_1 hvv1 rfl rfl fl_X1_66 dX1_badgersIn_6 ?_
  refine g_icmp_ge (pc := 9) C 36 dX1_badgersIn_9 (by decide) (fun c7 => ?_) (fun c7 => ?_)
  · have h := zif_t c7 h
    refine g_iload_n (pc := 36) C 2 2 dX1_badgersIn_36 rfl rfl ?_
    obtain ⟨rfl, rfl⟩ := zsome h
    exact g_iret (pc := 37) C rfl (e_ret _ _ (hO _ rfl)) (by rw [hxn]; rfl) (by rw [hxn]; rfl) dX1_badgersIn_37
  · have h := zif_f c7 h
    refine g_iload_n (pc := 12) C 3 3 dX1_badgersIn_12 rfl rfl ?_
    refine g_iconst (v := 3) (pc := 13) C dX1_badgersIn_13 (by decide) ?_
    refine g_icmp_ge (pc := 14) C 36 dX1_badgersIn_14 (by decide) (fun c6 => ?_) (fun c6 => ?_)
    · have h := zif_t c6 h
      refine g_iload_n (pc := 36) C 2 2 dX1_badgersIn_36 rfl rfl ?_
      obtain ⟨rfl, rfl⟩ := zsome h
      exact g_iret (pc := 37) C rfl (e_ret _ _ (hO _ rfl)) (by rw [hxn]; rfl) (by rw [hxn]; rfl) dX1_badgersIn_37
    · have h := zif_f c6 h
      refine g_aload_n (pc := 17) C 0 0 dX1_badgersIn_17 rfl rfl ?_
      obtain ⟨r2, hvr2, h⟩ := zbind h
      refine g_getR (N := 20) (pc := 18) C ck_1 hvr2 rfl rfl fl_X1_28 dX1_badgersIn_18 ?_
      refine g_iload_n (pc := 21) C 3 3 dX1_badgersIn_21 rfl rfl ?_
      obtain ⟨a3, hqa3, h9⟩ := zbind h
      clear h
      subst hqa3
      have h := h9
      clear h9
      obtain ⟨v4, hvv4, h⟩ := zbind h
      refine g_iald (pc := 22) C hvv4 dX1_badgersIn_22 ?_
      refine g_iload_n (pc := 23) C 1 1 dX1_badgersIn_23 rfl rfl ?_
      refine g_icmp_ne (pc := 24) C 30 dX1_badgersIn_24 (by decide) (fun c5 => ?_) (fun c5 => ?_)
      · have h := zif_f c5 h
        exact w_X1_badgersIn_j30 hE C hxn e_ret _ _ _ _ _ _ _ h hI hO
      · have h := zif_t c5 h
        refine g_iinc (lm' := [(2, tI (l2 + 1)), (0, tR (some (h0))), (1, tI (l1)), (3, tI (l3))]) (v := l2 + 1) (pc := 27) C 2 dX1_badgersIn_27 rfl rfl (by decide) rfl ?_
        refine g_sub [1, 2, 0, 3] (lm' := [(0, tR (some (h0))), (1, tI (l1)), (2, tI (l2 + 1)), (3, tI (l3))]) rfl ?_
        exact w_X1_badgersIn_j30 hE C hxn e_ret _ _ _ _ _ _ _ h hI hO
theorem w_X1_badgersIn_l4 {E : E0} (hE : EOK E) {X : X0} (C : XOK E X cX1_badgersIn RX1 4 (some .int) rm_X1_badgersIn) (hxn : xn X = (rm_X1_badgersIn.cells, rm_X1_badgersIn.slots)) {KE : (Int32) → Hp → Prop} (e_ret : ∀ (r : Int32) (σ : Hp), KE (r) σ → xd X = (some (tI r), σ)) {v : Nat × Int32 × Int32 × Int32} {σ : Hp} {e : Int32} {σ1 : Hp} (h : s_X1_badgersIn_l4 v σ = some (e, σ1)) (hO : KE e σ1) : G E X 0 0 4 [(0, tR (some ((v.1)))), (1, tI ((v.2.1))), (2, tI ((v.2.2.1))), (3, tI ((v.2.2.2)))] [] σ := loopF_ind (P := fun (v : Nat × Int32 × Int32 × Int32) (σ : Hp) => G E X 0 0 4 [(0, tR (some ((v.1)))), (1, tI ((v.2.1))), (2, tI ((v.2.2.1))), (3, tI ((v.2.2.2)))] [] σ) (KE := KE) (fun v σ x σ1 h hI hO => w_X1_badgersIn_b4 hE C hxn e_ret (v.1) (v.2.1) (v.2.2.1) (v.2.2.2) σ x σ1 h hI hO) v σ e σ1 h hO
noncomputable def s_X1_badgersIn (h0 : Nat) (p1 : Int32) (σ : Hp) : Option (Int32 × Hp) :=
  cb (s_X1_badgersIn_l4 ((h0), (p1), (0), (0)) σ) fun r2 σ3 =>
  some (r2, σ3)
set_option maxRecDepth 100000 in
theorem c_X1_badgersIn {E : E0} (hE : EOK E) {h0 : Nat} {p1 : Int32} {σ σ1 : Hp} {r : Int32} (h : s_X1_badgersIn h0 p1 σ = some (r, σ1)) : CT E yX1_badgersIn (.code yX1_badgersIn cX1_badgersIn 4 (some .int)) rm_X1_badgersIn [tR (some (h0)), tI (p1)] σ (some (tI r)) σ1 := by
  refine CT.mk hE (by decide +kernel) (Nat.le_of_ble_eq_true rfl) [(0, tR (some (h0))), (1, tI (p1))] rfl (fun X C hin hx hxn => ?_)
  have C : XOK E X cX1_badgersIn RX1 4 (some .int) rm_X1_badgersIn := C
  unfold s_X1_badgersIn at h
  refine g_iconst (v := 0) (pc := 0) C dX1_badgersIn_0 (by decide) ?_
  refine g_istore_n (lm' := [(2, tI (0)), (0, tR (some (h0))), (1, tI (p1))]) (pc := 1) C 2 dX1_badgersIn_1 rfl (by decide) rfl ?_
  refine g_iconst (v := 0) (pc := 2) C dX1_badgersIn_2 (by decide) ?_
  refine g_istore_n (lm' := [(3, tI (0)), (2, tI (0)), (0, tR (some (h0))), (1, tI (p1))]) (pc := 3) C 3 dX1_badgersIn_3 rfl (by decide) rfl ?_
  refine g_sub [2, 3, 1, 0] (lm' := [(0, tR (some (h0))), (1, tI (p1)), (2, tI (0)), (3, tI (0))]) rfl ?_
  obtain ⟨KQ, hKQ, r2, σ3, hlr2, h⟩ := zcbK h
  refine w_X1_badgersIn_l4 (KE := KQ) hE C hxn ?_ hlr2 h
  · intro r2 σ1 h
    have h := (hKQ _ _).mp h
    obtain ⟨rfl, rfl⟩ := zsome h
    exact hx
def rm_X1_lawInForce : Room := { frames := 1, cells := 0, slots := 0, locals := 21 }
noncomputable def s_X1_lawInForce (h0 : Nat) (σ : Hp) : Option (Option Nat × Hp) :=
  (rdI 1 σ h0 19).bind fun v1 =>
  (ck 1 σ h0).bind fun u2 =>
  cb (s_X1_isLaw h0 (v1) σ) fun v4 σ3 =>
  if v4 = 0 then
    some ((none), σ3)
  else
    (rdR 1 σ3 h0 11).bind fun r5 =>
    (rdI 1 σ3 h0 19).bind fun v6 =>
    (r5).bind fun a7 =>
    (ldR 15 σ3 a7 (v6)).bind fun r8 =>
    some ((r8), σ3)
set_option maxRecDepth 100000 in
theorem c_X1_lawInForce {E : E0} (hE : EOK E) {h0 : Nat} {σ σ1 : Hp} {r : Option Nat} (h : s_X1_lawInForce h0 σ = some (r, σ1)) : CT E yX1_lawInForce (.code yX1_lawInForce cX1_lawInForce 1 (some (.object "LowerHalf$Text"))) rm_X1_lawInForce [tR (some (h0))] σ (some (tR r)) σ1 := by
  refine CT.mk hE (by decide +kernel) (Nat.le_of_ble_eq_true rfl) [(0, tR (some (h0)))] rfl (fun X C hin hx hxn => ?_)
  have C : XOK E X cX1_lawInForce RX1 1 (some (.object "LowerHalf$Text")) rm_X1_lawInForce := C
  unfold s_X1_lawInForce at h
  refine g_aload_n (pc := 0) C 0 0 dX1_lawInForce_0 rfl rfl ?_
  refine g_aload_n (pc := 1) C 0 0 dX1_lawInForce_1 rfl rfl ?_
  obtain ⟨v1, hvv1, h⟩ := zbind h
  refine g_getI (N := 20) (pc := 2) C ck_1 hvv1 rfl rfl fl_X1_81 dX1_lawInForce_2 ?_
  obtain ⟨u2, hvu2, h⟩ := zbind h
  obtain ⟨v4, σ3, hvσ3, h⟩ := zcb h
  refine g_callV (pc := 5) (av := [tI (v1)]) C (c_X1_isLaw hE hvσ3) yv_X1_isLaw ml_X1_100 ck_1 (zopt hvu2).1 rfl (rf_of (by decide)) rfl (Nat.le_of_ble_eq_true rfl) dX1_lawInForce_5 ?_
  refine g_if_eq (pc := 8) C 23 dX1_lawInForce_8 (by decide) (fun c9 => ?_) (fun c9 => ?_)
  · have h := zif_t c9 h
    refine g_null (pc := 23) C dX1_lawInForce_23 ?_
    obtain ⟨rfl, rfl⟩ := zsome h
    exact g_aret (pc := 24) C rfl (by first | exact Or.inl ⟨_, rfl⟩ | exact Or.inr ⟨_, rfl⟩) hx (by rw [hxn]; rfl) (by rw [hxn]; rfl) dX1_lawInForce_24
  · have h := zif_f c9 h
    refine g_aload_n (pc := 11) C 0 0 dX1_lawInForce_11 rfl rfl ?_
    obtain ⟨r5, hvr5, h⟩ := zbind h
    refine g_getR (N := 20) (pc := 12) C ck_1 hvr5 rfl rfl fl_X1_51 dX1_lawInForce_12 ?_
    refine g_aload_n (pc := 15) C 0 0 dX1_lawInForce_15 rfl rfl ?_
    obtain ⟨v6, hvv6, h⟩ := zbind h
    refine g_getI (N := 20) (pc := 16) C ck_1 hvv6 rfl rfl fl_X1_81 dX1_lawInForce_16 ?_
    obtain ⟨a7, hqa7, h9⟩ := zbind h
    clear h
    subst hqa7
    have h := h9
    clear h9
    obtain ⟨r8, hvr8, h⟩ := zbind h
    refine g_aald15 (pc := 19) C hvr8 dX1_lawInForce_19 ?_
    refine g_goto (pc := 20) C 24 dX1_lawInForce_20 (by decide) ?_
    obtain ⟨rfl, rfl⟩ := zsome h
    exact g_aret (pc := 24) C rfl (by first | exact Or.inl ⟨_, rfl⟩ | exact Or.inr ⟨_, rfl⟩) hx (by rw [hxn]; rfl) (by rw [hxn]; rfl) dX1_lawInForce_24
def rm_J7_fill_53178 : Room := { frames := 0, cells := 0, slots := 0, locals := 0 }
noncomputable def s_J7_fill_53178_b5 (l0 : Option Nat) (l1 : Int32) (l2 : Int32) (l3 : Int32) (σ : Hp) : Option ((((Option Nat) × Int32 × Int32 × Int32) ⊕ (Unit)) × Hp) :=
  if l3 ≤ l2 then
    some (Sum.inr (), σ)
  else
    (l0).bind fun a1 =>
    (stI σ a1 (l2) (l1)).bind fun σ2 =>
    some (Sum.inl ((some (a1)), (l1), (l2 + 1), (l3)), σ2)
noncomputable def s_J7_fill_53178_l5 : ((Option Nat) × Int32 × Int32 × Int32) → Hp → Option ((Unit) × Hp) := loopF (fun v => s_J7_fill_53178_b5 (v.1) (v.2.1) (v.2.2.1) (v.2.2.2))
set_option maxRecDepth 100000 in
theorem w_J7_fill_53178_b5 {E : E0} (hE : EOK E) {X : X0} (C : XOK E X cJ7_fill_53178 RJ7 4 none rm_J7_fill_53178) (hxn : xn X = (rm_J7_fill_53178.cells, rm_J7_fill_53178.slots)) {KE : (Unit) → Hp → Prop} (e_ret : ∀ (r : Unit) (σ : Hp), KE (r) σ → xd X = (none, σ)) (l0 : Option Nat) (l1 : Int32) (l2 : Int32) (l3 : Int32) (σ : Hp) (x : ((Option Nat) × Int32 × Int32 × Int32) ⊕ (Unit)) (σ1 : Hp) (h : s_J7_fill_53178_b5 l0 l1 l2 l3 σ = some (x, σ1)) (hI : ∀ v, x = Sum.inl v → (fun (v : (Option Nat) × Int32 × Int32 × Int32) (σ : Hp) => G E X 0 0 5 [(0, tR ((v.1))), (1, tI ((v.2.1))), (2, tI ((v.2.2.1))), (3, tI ((v.2.2.2)))] [] σ) v σ1) (hO : ∀ e, x = Sum.inr e → KE e σ1) : G E X 0 0 5 [(0, tR (l0)), (1, tI (l1)), (2, tI (l2)), (3, tI (l3))] [] σ := by
  unfold s_J7_fill_53178_b5 at h
  refine g_iload_n (pc := 5) C 2 2 dJ7_fill_53178_5 rfl rfl ?_
  refine g_iload_n (pc := 6) C 3 3 dJ7_fill_53178_6 rfl rfl ?_
  refine g_icmp_ge (pc := 7) C 20 dJ7_fill_53178_7 (by decide) (fun c3 => ?_) (fun c3 => ?_)
  · have h := zif_t c3 h
    obtain ⟨rfl, rfl⟩ := zsome h
    exact g_vret (pc := 20) C rfl (e_ret _ _ (hO _ rfl)) (by rw [hxn]; rfl) (by rw [hxn]; rfl) dJ7_fill_53178_20
  · have h := zif_f c3 h
    refine g_aload_n (pc := 10) C 0 0 dJ7_fill_53178_10 rfl rfl ?_
    refine g_iload_n (pc := 11) C 2 2 dJ7_fill_53178_11 rfl rfl ?_
    refine g_iload_n (pc := 12) C 1 1 dJ7_fill_53178_12 rfl rfl ?_
    obtain ⟨a1, hqa1, h9⟩ := zbind h
    clear h
    subst hqa1
    have h := h9
    clear h9
    obtain ⟨σ2, hvσ2, h⟩ := zbind h
    refine g_iast (pc := 13) C hvσ2 dJ7_fill_53178_13 ?_
    refine g_iinc (lm' := [(2, tI (l2 + 1)), (0, tR (some (a1))), (1, tI (l1)), (3, tI (l3))]) (v := l2 + 1) (pc := 14) C 2 dJ7_fill_53178_14 rfl rfl (by decide) rfl ?_
    refine g_goto (pc := 17) C 5 dJ7_fill_53178_17 (by decide) ?_
    refine g_sub [1, 2, 0, 3] (lm' := [(0, tR (some (a1))), (1, tI (l1)), (2, tI (l2 + 1)), (3, tI (l3))]) rfl ?_
    obtain ⟨rfl, rfl⟩ := zsome h
    exact hI _ rfl
theorem w_J7_fill_53178_l5 {E : E0} (hE : EOK E) {X : X0} (C : XOK E X cJ7_fill_53178 RJ7 4 none rm_J7_fill_53178) (hxn : xn X = (rm_J7_fill_53178.cells, rm_J7_fill_53178.slots)) {KE : (Unit) → Hp → Prop} (e_ret : ∀ (r : Unit) (σ : Hp), KE (r) σ → xd X = (none, σ)) {v : (Option Nat) × Int32 × Int32 × Int32} {σ : Hp} {e : Unit} {σ1 : Hp} (h : s_J7_fill_53178_l5 v σ = some (e, σ1)) (hO : KE e σ1) : G E X 0 0 5 [(0, tR ((v.1))), (1, tI ((v.2.1))), (2, tI ((v.2.2.1))), (3, tI ((v.2.2.2)))] [] σ := loopF_ind (P := fun (v : (Option Nat) × Int32 × Int32 × Int32) (σ : Hp) => G E X 0 0 5 [(0, tR ((v.1))), (1, tI ((v.2.1))), (2, tI ((v.2.2.1))), (3, tI ((v.2.2.2)))] [] σ) (KE := KE) (fun v σ x σ1 h hI hO => w_J7_fill_53178_b5 hE C hxn e_ret (v.1) (v.2.1) (v.2.2.1) (v.2.2.2) σ x σ1 h hI hO) v σ e σ1 h hO
noncomputable def s_J7_fill_53178 (p0 : Option Nat) (p1 : Int32) (σ : Hp) : Option (Unit × Hp) :=
  (p0).bind fun a1 =>
  (lnA 11 σ a1).bind fun v2 =>
  cb (s_J7_fill_53178_l5 ((some (a1)), (p1), (0), (v2)) σ) fun r4 σ5 =>
  some (r4, σ5)
set_option maxRecDepth 100000 in
theorem c_J7_fill_53178 {E : E0} (hE : EOK E) {p0 : Option Nat} {p1 : Int32} {σ σ1 : Hp} {r : Unit} (h : s_J7_fill_53178 p0 p1 σ = some (r, σ1)) : CT E yJ7_fill_53178 (.code yJ7_fill_53178 cJ7_fill_53178 4 none) rm_J7_fill_53178 [tR (p0), tI (p1)] σ none σ1 := by
  refine CT.mk hE (by decide +kernel) (Nat.le_of_ble_eq_true rfl) [(0, tR (p0)), (1, tI (p1))] rfl (fun X C hin hx hxn => ?_)
  have C : XOK E X cJ7_fill_53178 RJ7 4 none rm_J7_fill_53178 := C
  unfold s_J7_fill_53178 at h
  refine g_iconst (v := 0) (pc := 0) C dJ7_fill_53178_0 (by decide) ?_
  refine g_istore_n (lm' := [(2, tI (0)), (0, tR (p0)), (1, tI (p1))]) (pc := 1) C 2 dJ7_fill_53178_1 rfl (by decide) rfl ?_
  refine g_aload_n (pc := 2) C 0 1 dJ7_fill_53178_2 rfl rfl ?_
  obtain ⟨a1, hqa1, h9⟩ := zbind h
  clear h
  subst hqa1
  have h := h9
  clear h9
  obtain ⟨v2, hvv2, h⟩ := zbind h
  refine g_alen (c := 11) (pc := 3) C (by decide) hvv2 dJ7_fill_53178_3 ?_
  refine g_istore_n (lm' := [(3, tI (v2)), (2, tI (0)), (0, tR (some (a1))), (1, tI (p1))]) (pc := 4) C 3 dJ7_fill_53178_4 rfl (by decide) rfl ?_
  refine g_sub [2, 3, 1, 0] (lm' := [(0, tR (some (a1))), (1, tI (p1)), (2, tI (0)), (3, tI (v2))]) rfl ?_
  obtain ⟨KQ, hKQ, r4, σ5, hlr4, h⟩ := zcbK h
  refine w_J7_fill_53178_l5 (KE := KQ) hE C hxn ?_ hlr4 h
  · intro r4 σ3 h
    have h := (hKQ _ _).mp h
    obtain ⟨rfl, rfl⟩ := zsome h
    exact hx
def rm_X5_tellLawWords : Room := { frames := 1, cells := 0, slots := 0, locals := 23 }
noncomputable def s_X5_tellLawWords (h0 : Nat) (p1 : Int32) (p2 : Int32) (p3 : Int32) (σ : Hp) : Option (Unit × Hp) :=
  (rdR 5 σ h0 0).bind fun r1 =>
  cb (s_J7_fill_53178 (r1) ((-1)) σ) fun v3 σ2 =>
  (rdR 5 σ2 h0 0).bind fun r4 =>
  (r4).bind fun a5 =>
  (stI σ2 a5 (0) (p1)).bind fun σ6 =>
  (rdR 5 σ6 h0 0).bind fun r7 =>
  (r7).bind fun a8 =>
  (stI σ6 a8 (1) (p2 - p2 / 24 * 24)).bind fun σ9 =>
  (rdR 5 σ9 h0 0).bind fun r10 =>
  (r10).bind fun a11 =>
  (stI σ9 a11 (2) (p2)).bind fun σ12 =>
  (rdR 5 σ12 h0 0).bind fun r13 =>
  (r13).bind fun a14 =>
  (stI σ12 a14 (8) (p3)).bind fun σ15 =>
  some ((), σ15)
set_option maxRecDepth 100000 in
theorem c_X5_tellLawWords {E : E0} (hE : EOK E) {h0 : Nat} {p1 : Int32} {p2 : Int32} {p3 : Int32} {σ σ1 : Hp} {r : Unit} (h : s_X5_tellLawWords h0 p1 p2 p3 σ = some (r, σ1)) : CT E yX5_tellLawWords (.code yX5_tellLawWords cX5_tellLawWords 4 none) rm_X5_tellLawWords [tR (some (h0)), tI (p1), tI (p2), tI (p3)] σ none σ1 := by
  refine CT.mk hE (by decide +kernel) (Nat.le_of_ble_eq_true rfl) [(0, tR (some (h0))), (1, tI (p1)), (2, tI (p2)), (3, tI (p3))] rfl (fun X C hin hx hxn => ?_)
  have C : XOK E X cX5_tellLawWords RX5 4 none rm_X5_tellLawWords := C
  unfold s_X5_tellLawWords at h
  refine g_aload_n (pc := 0) C 0 0 dX5_tellLawWords_0 rfl rfl ?_
  obtain ⟨r1, hvr1, h⟩ := zbind h
  refine g_getR (N := 2) (pc := 1) C ck_5 hvr1 rfl rfl fl_X5_9 dX5_tellLawWords_1 ?_
  refine g_iconst (v := (-1)) (pc := 4) C dX5_tellLawWords_4 (by decide) ?_
  obtain ⟨v3, σ2, hvσ2, h⟩ := zcb h
  refine g_callS (pc := 5) (av := [tR (r1), tI ((-1))]) C (c_J7_fill_53178 hE hvσ2) ys_J7_fill_53178 ml_X5_19 rfl (rf_of (by decide)) rfl (Nat.le_of_ble_eq_true rfl) dX5_tellLawWords_5 ?_
  refine g_aload_n (pc := 8) C 0 0 dX5_tellLawWords_8 rfl rfl ?_
  obtain ⟨r4, hvr4, h⟩ := zbind h
  refine g_getR (N := 2) (pc := 9) C ck_5 hvr4 rfl rfl fl_X5_9 dX5_tellLawWords_9 ?_
  refine g_iconst (v := 0) (pc := 12) C dX5_tellLawWords_12 (by decide) ?_
  refine g_iload_n (pc := 13) C 1 1 dX5_tellLawWords_13 rfl rfl ?_
  obtain ⟨a5, hqa5, h9⟩ := zbind h
  clear h
  subst hqa5
  have h := h9
  clear h9
  obtain ⟨σ6, hvσ6, h⟩ := zbind h
  refine g_iast (pc := 14) C hvσ6 dX5_tellLawWords_14 ?_
  refine g_aload_n (pc := 15) C 0 0 dX5_tellLawWords_15 rfl rfl ?_
  obtain ⟨r7, hvr7, h⟩ := zbind h
  refine g_getR (N := 2) (pc := 16) C ck_5 hvr7 rfl rfl fl_X5_9 dX5_tellLawWords_16 ?_
  refine g_iconst (v := 1) (pc := 19) C dX5_tellLawWords_19 (by decide) ?_
  refine g_iload_n (pc := 20) C 2 2 dX5_tellLawWords_20 rfl rfl ?_
  refine g_bipush (v := 24) (pc := 21) C dX5_tellLawWords_21 (by decide) ?_
  refine g_irem (pc := 23) C dX5_tellLawWords_23 (by decide) ?_
  obtain ⟨a8, hqa8, h9⟩ := zbind h
  clear h
  subst hqa8
  have h := h9
  clear h9
  obtain ⟨σ9, hvσ9, h⟩ := zbind h
  refine g_iast (pc := 24) C hvσ9 dX5_tellLawWords_24 ?_
  refine g_aload_n (pc := 25) C 0 0 dX5_tellLawWords_25 rfl rfl ?_
  obtain ⟨r10, hvr10, h⟩ := zbind h
  refine g_getR (N := 2) (pc := 26) C ck_5 hvr10 rfl rfl fl_X5_9 dX5_tellLawWords_26 ?_
  refine g_iconst (v := 2) (pc := 29) C dX5_tellLawWords_29 (by decide) ?_
  refine g_iload_n (pc := 30) C 2 2 dX5_tellLawWords_30 rfl rfl ?_
  obtain ⟨a11, hqa11, h9⟩ := zbind h
  clear h
  subst hqa11
  have h := h9
  clear h9
  obtain ⟨σ12, hvσ12, h⟩ := zbind h
  refine g_iast (pc := 31) C hvσ12 dX5_tellLawWords_31 ?_
  refine g_aload_n (pc := 32) C 0 0 dX5_tellLawWords_32 rfl rfl ?_
  obtain ⟨r13, hvr13, h⟩ := zbind h
  refine g_getR (N := 2) (pc := 33) C ck_5 hvr13 rfl rfl fl_X5_9 dX5_tellLawWords_33 ?_
  refine g_bipush (v := 8) (pc := 36) C dX5_tellLawWords_36 (by decide) ?_
  refine g_iload_n (pc := 38) C 3 3 dX5_tellLawWords_38 rfl rfl ?_
  obtain ⟨a14, hqa14, h9⟩ := zbind h
  clear h
  subst hqa14
  have h := h9
  clear h9
  obtain ⟨σ15, hvσ15, h⟩ := zbind h
  refine g_iast (pc := 39) C hvσ15 dX5_tellLawWords_39 ?_
  obtain ⟨rfl, rfl⟩ := zsome h
  exact g_vret (pc := 40) C rfl hx (by rw [hxn]; rfl) (by rw [hxn]; rfl) dX5_tellLawWords_40
def rm_X7_field : Room := { frames := 0, cells := 0, slots := 0, locals := 0 }
noncomputable def s_X7_field (h0 : Nat) (p1 : Int32) (p2 : Int32) (σ : Hp) : Option (Int32 × Hp) :=
  if ((p1 * 6) + p2) < 0 then
    some ((0), σ)
  else
    (rdR 7 σ h0 1).bind fun r1 =>
    (r1).bind fun a2 =>
    (lnA 11 σ a2).bind fun v3 =>
    if v3 ≤ ((p1 * 6) + p2) then
      some ((0), σ)
    else
      (rdR 7 σ h0 1).bind fun r4 =>
      (r4).bind fun a5 =>
      (ldI 11 σ a5 ((p1 * 6) + p2)).bind fun v6 =>
      some ((v6), σ)
set_option maxRecDepth 100000 in
theorem c_X7_field {E : E0} (hE : EOK E) {h0 : Nat} {p1 : Int32} {p2 : Int32} {σ σ1 : Hp} {r : Int32} (h : s_X7_field h0 p1 p2 σ = some (r, σ1)) : CT E yX7_field (.code yX7_field cX7_field 4 (some .int)) rm_X7_field [tR (some (h0)), tI (p1), tI (p2)] σ (some (tI r)) σ1 := by
  refine CT.mk hE (by decide +kernel) (Nat.le_of_ble_eq_true rfl) [(0, tR (some (h0))), (1, tI (p1)), (2, tI (p2))] rfl (fun X C hin hx hxn => ?_)
  have C : XOK E X cX7_field RX7 4 (some .int) rm_X7_field := C
  unfold s_X7_field at h
  refine g_iload_n (pc := 0) C 1 1 dX7_field_0 rfl rfl ?_
  refine g_bipush (v := 6) (pc := 1) C dX7_field_1 (by decide) ?_
  refine g_imul (pc := 3) C dX7_field_3 ?_
  refine g_iload_n (pc := 4) C 2 2 dX7_field_4 rfl rfl ?_
  refine g_iadd (pc := 5) C dX7_field_5 ?_
  refine g_istore_n (lm' := [(3, tI ((p1 * 6) + p2)), (0, tR (some (h0))), (1, tI (p1)), (2, tI (p2))]) (pc := 6) C 3 dX7_field_6 rfl (by decide) rfl ?_
  refine g_iload_n (pc := 7) C 3 0 dX7_field_7 rfl rfl ?_
  refine g_if_lt (pc := 8) C 29 dX7_field_8 (by decide) (fun c8 => ?_) (fun c8 => ?_)
  · have h := zif_t c8 h
    refine g_iconst (v := 0) (pc := 29) C dX7_field_29 (by decide) ?_
    obtain ⟨rfl, rfl⟩ := zsome h
    exact g_iret (pc := 30) C rfl hx (by rw [hxn]; rfl) (by rw [hxn]; rfl) dX7_field_30
  · have h := zif_f c8 h
    refine g_iload_n (pc := 11) C 3 0 dX7_field_11 rfl rfl ?_
    refine g_aload_n (pc := 12) C 0 1 dX7_field_12 rfl rfl ?_
    obtain ⟨r1, hvr1, h⟩ := zbind h
    refine g_getR (N := 3) (pc := 13) C ck_7 hvr1 rfl rfl fl_X7_15 dX7_field_13 ?_
    obtain ⟨a2, hqa2, h9⟩ := zbind h
    clear h
    subst hqa2
    have h := h9
    clear h9
    obtain ⟨v3, hvv3, h⟩ := zbind h
    refine g_alen (c := 11) (pc := 16) C (by decide) hvv3 dX7_field_16 ?_
    refine g_icmp_ge (pc := 17) C 29 dX7_field_17 (by decide) (fun c7 => ?_) (fun c7 => ?_)
    · have h := zif_t c7 h
      refine g_iconst (v := 0) (pc := 29) C dX7_field_29 (by decide) ?_
      obtain ⟨rfl, rfl⟩ := zsome h
      exact g_iret (pc := 30) C rfl hx (by rw [hxn]; rfl) (by rw [hxn]; rfl) dX7_field_30
    · have h := zif_f c7 h
      refine g_aload_n (pc := 20) C 0 1 dX7_field_20 rfl rfl ?_
      obtain ⟨r4, hvr4, h⟩ := zbind h
      refine g_getR (N := 3) (pc := 21) C ck_7 hvr4 rfl rfl fl_X7_15 dX7_field_21 ?_
      refine g_iload_n (pc := 24) C 3 0 dX7_field_24 rfl rfl ?_
      obtain ⟨a5, hqa5, h9⟩ := zbind h
      clear h
      subst hqa5
      have h := h9
      clear h9
      obtain ⟨v6, hvv6, h⟩ := zbind h
      refine g_iald (pc := 25) C hvv6 dX7_field_25 ?_
      refine g_goto (pc := 26) C 30 dX7_field_26 (by decide) ?_
      obtain ⟨rfl, rfl⟩ := zsome h
      exact g_iret (pc := 30) C rfl hx (by rw [hxn]; rfl) (by rw [hxn]; rfl) dX7_field_30
def rm_X5_joined : Room := { frames := 0, cells := 0, slots := 0, locals := 0 }
noncomputable def s_X5_joined_j140 (l5 : Int64) (σ : Hp) : Option (Int64 × Hp) :=
  if 0 < (lg_cmp (l5 : Int64) (1000000000 : Int64)) then
    some ((9000000000), σ)
  else
    if 0 ≤ (lg_cmp (l5 : Int64) ((-1000000000) : Int64)) then
      some ((l5), σ)
    else
      some ((9000000000), σ)
set_option maxRecDepth 100000 in
theorem w_X5_joined_j140 {E : E0} (hE : EOK E) {X : X0} (C : XOK E X cX5_joined RX5 7 (some .long) rm_X5_joined) (hxn : xn X = (rm_X5_joined.cells, rm_X5_joined.slots)) (l5 : Int64) (σ : Hp) (r : Int64) (σ1 : Hp) (h : s_X5_joined_j140 l5 σ = some (r, σ1)) (hx : xd X = (some (tJ r), σ1)) : G E X 0 0 140 [(5, tJ (l5))] [] σ := by
  unfold s_X5_joined_j140 at h
  refine g_lload (pc := 140) C 0 dX5_joined_140 rfl ?_
  refine g_ldc2 (v := 1000000000) (pc := 142) C dX5_joined_142 kl_X5_37 ?_
  refine g_lcmp (pc := 145) C dX5_joined_145 ?_
  refine g_if_gt (pc := 146) C 158 dX5_joined_146 (by decide) (fun c2 => ?_) (fun c2 => ?_)
  · have h := zif_t c2 h
    refine g_ldc2 (v := 9000000000) (pc := 158) C dX5_joined_158 kl_X5_31 ?_
    refine g_goto (pc := 161) C 166 dX5_joined_161 (by decide) ?_
    obtain ⟨rfl, rfl⟩ := zsome h
    exact g_lret (pc := 166) C rfl hx (by rw [hxn]; rfl) (by rw [hxn]; rfl) dX5_joined_166
  · have h := zif_f c2 h
    refine g_lload (pc := 149) C 0 dX5_joined_149 rfl ?_
    refine g_ldc2 (v := (-1000000000)) (pc := 151) C dX5_joined_151 kl_X5_39 ?_
    refine g_lcmp (pc := 154) C dX5_joined_154 ?_
    refine g_if_ge (pc := 155) C 164 dX5_joined_155 (by decide) (fun c1 => ?_) (fun c1 => ?_)
    · have h := zif_t c1 h
      refine g_lload (pc := 164) C 0 dX5_joined_164 rfl ?_
      obtain ⟨rfl, rfl⟩ := zsome h
      exact g_lret (pc := 166) C rfl hx (by rw [hxn]; rfl) (by rw [hxn]; rfl) dX5_joined_166
    · have h := zif_f c1 h
      refine g_ldc2 (v := 9000000000) (pc := 158) C dX5_joined_158 kl_X5_31 ?_
      refine g_goto (pc := 161) C 166 dX5_joined_161 (by decide) ?_
      obtain ⟨rfl, rfl⟩ := zsome h
      exact g_lret (pc := 166) C rfl hx (by rw [hxn]; rfl) (by rw [hxn]; rfl) dX5_joined_166
noncomputable def s_X5_joined (p0 : Int32) (p1 : Int64) (p3 : Int64) (σ : Hp) : Option (Int64 × Hp) :=
  if p0 = 2 then
    s_X5_joined_j140 (p1 + p3) σ
  else
    if p0 = 3 then
      s_X5_joined_j140 (p1 - p3) σ
    else
      if p0 = 4 then
        s_X5_joined_j140 (p1 * p3) σ
      else
        if p0 = 5 then
          if (lg_cmp (p3 : Int64) (0 : Int64)) = 0 then
            some ((9000000000), σ)
          else
            (zne (p3 = 0)).bind fun u4 =>
            s_X5_joined_j140 (p1 / p3) σ
        else
          if p0 = 6 then
            if (lg_cmp (p3 : Int64) (0 : Int64)) = 0 then
              some ((9000000000), σ)
            else
              (zne (p3 = 0)).bind fun u7 =>
              s_X5_joined_j140 (p1 - p1 / p3 * p3) σ
          else
            if p0 = 7 then
              if 0 ≤ (lg_cmp (p1 : Int64) (p3 : Int64)) then
                some ((0), σ)
              else
                some ((1), σ)
            else
              if p0 = 8 then
                if (lg_cmp (p1 : Int64) (p3 : Int64)) ≤ 0 then
                  some ((0), σ)
                else
                  some ((1), σ)
              else
                if (lg_cmp (p1 : Int64) (p3 : Int64)) = 0 then
                  some ((1), σ)
                else
                  some ((0), σ)
set_option maxRecDepth 100000 in
theorem c_X5_joined {E : E0} (hE : EOK E) {p0 : Int32} {p1 : Int64} {p3 : Int64} {σ σ1 : Hp} {r : Int64} (h : s_X5_joined p0 p1 p3 σ = some (r, σ1)) : CT E yX5_joined (.code yX5_joined cX5_joined 7 (some .long)) rm_X5_joined [tI (p0), tJ (p1), tJ (p3)] σ (some (tJ r)) σ1 := by
  refine CT.mk hE (by decide +kernel) (Nat.le_of_ble_eq_true rfl) [(0, tI (p0)), (1, tJ (p1)), (3, tJ (p3))] rfl (fun X C hin hx hxn => ?_)
  have C : XOK E X cX5_joined RX5 7 (some .long) rm_X5_joined := C
  unfold s_X5_joined at h
  refine g_iload_n (pc := 0) C 0 0 dX5_joined_0 rfl rfl ?_
  by_cases c1 : p0 = 2
  · refine g_tswIn (pc := 1) C 44 dX5_joined_1 (by rw [c1]; decide) (by rw [c1]; decide) (by rw [c1]; rfl) (by decide) ?_
    have h := zif_t c1 h
    refine g_lload_n (pc := 44) C 1 1 dX5_joined_44 rfl rfl ?_
    refine g_lload_n (pc := 45) C 3 2 dX5_joined_45 rfl rfl ?_
    refine g_ladd (pc := 46) C dX5_joined_46 ?_
    refine g_lstore (lm' := [(5, tJ (p1 + p3)), (0, tI (p0)), (1, tJ (p1)), (3, tJ (p3))]) (pc := 47) C dX5_joined_47 (by decide) rfl ?_
    refine g_goto (pc := 49) C 140 dX5_joined_49 (by decide) ?_
    refine g_sub [0] (lm' := [(5, tJ (p1 + p3))]) rfl ?_
    exact w_X5_joined_j140 hE C hxn _ _ _ _ h hx
  · have h := zif_f c1 h
    by_cases c2 : p0 = 3
    · refine g_tswIn (pc := 1) C 52 dX5_joined_1 (by rw [c2]; decide) (by rw [c2]; decide) (by rw [c2]; rfl) (by decide) ?_
      have h := zif_t c2 h
      refine g_lload_n (pc := 52) C 1 1 dX5_joined_52 rfl rfl ?_
      refine g_lload_n (pc := 53) C 3 2 dX5_joined_53 rfl rfl ?_
      refine g_lsub (pc := 54) C dX5_joined_54 ?_
      refine g_lstore (lm' := [(5, tJ (p1 - p3)), (0, tI (p0)), (1, tJ (p1)), (3, tJ (p3))]) (pc := 55) C dX5_joined_55 (by decide) rfl ?_
      refine g_goto (pc := 57) C 140 dX5_joined_57 (by decide) ?_
      refine g_sub [0] (lm' := [(5, tJ (p1 - p3))]) rfl ?_
      exact w_X5_joined_j140 hE C hxn _ _ _ _ h hx
    · have h := zif_f c2 h
      by_cases c3 : p0 = 4
      · refine g_tswIn (pc := 1) C 60 dX5_joined_1 (by rw [c3]; decide) (by rw [c3]; decide) (by rw [c3]; rfl) (by decide) ?_
        have h := zif_t c3 h
        refine g_lload_n (pc := 60) C 1 1 dX5_joined_60 rfl rfl ?_
        refine g_lload_n (pc := 61) C 3 2 dX5_joined_61 rfl rfl ?_
        refine g_lmul (pc := 62) C dX5_joined_62 ?_
        refine g_lstore (lm' := [(5, tJ (p1 * p3)), (0, tI (p0)), (1, tJ (p1)), (3, tJ (p3))]) (pc := 63) C dX5_joined_63 (by decide) rfl ?_
        refine g_goto (pc := 65) C 140 dX5_joined_65 (by decide) ?_
        refine g_sub [0] (lm' := [(5, tJ (p1 * p3))]) rfl ?_
        exact w_X5_joined_j140 hE C hxn _ _ _ _ h hx
      · have h := zif_f c3 h
        by_cases c6 : p0 = 5
        · refine g_tswIn (pc := 1) C 68 dX5_joined_1 (by rw [c6]; decide) (by rw [c6]; decide) (by rw [c6]; rfl) (by decide) ?_
          have h := zif_t c6 h
          refine g_lload_n (pc := 68) C 3 2 dX5_joined_68 rfl rfl ?_
          refine g_lconst (v := 0) (pc := 69) C dX5_joined_69 (by decide) ?_
          refine g_lcmp (pc := 70) C dX5_joined_70 ?_
          refine g_if_ne (pc := 71) C 78 dX5_joined_71 (by decide) (fun c5 => ?_) (fun c5 => ?_)
          · have h := zif_f c5 h
            refine g_lload_n (pc := 78) C 1 1 dX5_joined_78 rfl rfl ?_
            refine g_lload_n (pc := 79) C 3 2 dX5_joined_79 rfl rfl ?_
            obtain ⟨u4, hvu4, h⟩ := zbind h
            refine g_ldiv (pc := 80) C dX5_joined_80 (zne_h hvu4) ?_
            refine g_lstore (lm' := [(5, tJ (p1 / p3)), (0, tI (p0)), (1, tJ (p1)), (3, tJ (p3))]) (pc := 81) C dX5_joined_81 (by decide) rfl ?_
            refine g_goto (pc := 83) C 140 dX5_joined_83 (by decide) ?_
            refine g_sub [0] (lm' := [(5, tJ (p1 / p3))]) rfl ?_
            exact w_X5_joined_j140 hE C hxn _ _ _ _ h hx
          · have h := zif_t c5 h
            refine g_ldc2 (v := 9000000000) (pc := 74) C dX5_joined_74 kl_X5_31 ?_
            obtain ⟨rfl, rfl⟩ := zsome h
            exact g_lret (pc := 77) C rfl hx (by rw [hxn]; rfl) (by rw [hxn]; rfl) dX5_joined_77
        · have h := zif_f c6 h
          by_cases c9 : p0 = 6
          · refine g_tswIn (pc := 1) C 86 dX5_joined_1 (by rw [c9]; decide) (by rw [c9]; decide) (by rw [c9]; rfl) (by decide) ?_
            have h := zif_t c9 h
            refine g_lload_n (pc := 86) C 3 2 dX5_joined_86 rfl rfl ?_
            refine g_lconst (v := 0) (pc := 87) C dX5_joined_87 (by decide) ?_
            refine g_lcmp (pc := 88) C dX5_joined_88 ?_
            refine g_if_ne (pc := 89) C 96 dX5_joined_89 (by decide) (fun c8 => ?_) (fun c8 => ?_)
            · have h := zif_f c8 h
              refine g_lload_n (pc := 96) C 1 1 dX5_joined_96 rfl rfl ?_
              refine g_lload_n (pc := 97) C 3 2 dX5_joined_97 rfl rfl ?_
              obtain ⟨u7, hvu7, h⟩ := zbind h
              refine g_lrem (pc := 98) C dX5_joined_98 (zne_h hvu7) ?_
              refine g_lstore (lm' := [(5, tJ (p1 - p1 / p3 * p3)), (0, tI (p0)), (1, tJ (p1)), (3, tJ (p3))]) (pc := 99) C dX5_joined_99 (by decide) rfl ?_
              refine g_goto (pc := 101) C 140 dX5_joined_101 (by decide) ?_
              refine g_sub [0] (lm' := [(5, tJ (p1 - p1 / p3 * p3))]) rfl ?_
              exact w_X5_joined_j140 hE C hxn _ _ _ _ h hx
            · have h := zif_t c8 h
              refine g_ldc2 (v := 9000000000) (pc := 92) C dX5_joined_92 kl_X5_31 ?_
              obtain ⟨rfl, rfl⟩ := zsome h
              exact g_lret (pc := 95) C rfl hx (by rw [hxn]; rfl) (by rw [hxn]; rfl) dX5_joined_95
          · have h := zif_f c9 h
            by_cases c11 : p0 = 7
            · refine g_tswIn (pc := 1) C 104 dX5_joined_1 (by rw [c11]; decide) (by rw [c11]; decide) (by rw [c11]; rfl) (by decide) ?_
              have h := zif_t c11 h
              refine g_lload_n (pc := 104) C 1 1 dX5_joined_104 rfl rfl ?_
              refine g_lload_n (pc := 105) C 3 2 dX5_joined_105 rfl rfl ?_
              refine g_lcmp (pc := 106) C dX5_joined_106 ?_
              refine g_if_ge (pc := 107) C 114 dX5_joined_107 (by decide) (fun c10 => ?_) (fun c10 => ?_)
              · have h := zif_t c10 h
                refine g_lconst (v := 0) (pc := 114) C dX5_joined_114 (by decide) ?_
                obtain ⟨rfl, rfl⟩ := zsome h
                exact g_lret (pc := 115) C rfl hx (by rw [hxn]; rfl) (by rw [hxn]; rfl) dX5_joined_115
              · have h := zif_f c10 h
                refine g_lconst (v := 1) (pc := 110) C dX5_joined_110 (by decide) ?_
                refine g_goto (pc := 111) C 115 dX5_joined_111 (by decide) ?_
                obtain ⟨rfl, rfl⟩ := zsome h
                exact g_lret (pc := 115) C rfl hx (by rw [hxn]; rfl) (by rw [hxn]; rfl) dX5_joined_115
            · have h := zif_f c11 h
              by_cases c13 : p0 = 8
              · refine g_tswIn (pc := 1) C 116 dX5_joined_1 (by rw [c13]; decide) (by rw [c13]; decide) (by rw [c13]; rfl) (by decide) ?_
                have h := zif_t c13 h
                refine g_lload_n (pc := 116) C 1 1 dX5_joined_116 rfl rfl ?_
                refine g_lload_n (pc := 117) C 3 2 dX5_joined_117 rfl rfl ?_
                refine g_lcmp (pc := 118) C dX5_joined_118 ?_
                refine g_if_le (pc := 119) C 126 dX5_joined_119 (by decide) (fun c12 => ?_) (fun c12 => ?_)
                · have h := zif_t c12 h
                  refine g_lconst (v := 0) (pc := 126) C dX5_joined_126 (by decide) ?_
                  obtain ⟨rfl, rfl⟩ := zsome h
                  exact g_lret (pc := 127) C rfl hx (by rw [hxn]; rfl) (by rw [hxn]; rfl) dX5_joined_127
                · have h := zif_f c12 h
                  refine g_lconst (v := 1) (pc := 122) C dX5_joined_122 (by decide) ?_
                  refine g_goto (pc := 123) C 127 dX5_joined_123 (by decide) ?_
                  obtain ⟨rfl, rfl⟩ := zsome h
                  exact g_lret (pc := 127) C rfl hx (by rw [hxn]; rfl) (by rw [hxn]; rfl) dX5_joined_127
              · have h := zif_f c13 h
                refine g_tswOut (pc := 1) C 128 dX5_joined_1 (by have ec1 := n32 (k := 2) (n := 2) (by decide) c1; have ec2 := n32 (k := 3) (n := 3) (by decide) c2; have ec3 := n32 (k := 4) (n := 4) (by decide) c3; have ec6 := n32 (k := 5) (n := 5) (by decide) c6; have ec9 := n32 (k := 6) (n := 6) (by decide) c9; have ec11 := n32 (k := 7) (n := 7) (by decide) c11; have ec13 := n32 (k := 8) (n := 8) (by decide) c13; omega) (by decide) ?_
                refine g_lload_n (pc := 128) C 1 1 dX5_joined_128 rfl rfl ?_
                refine g_lload_n (pc := 129) C 3 2 dX5_joined_129 rfl rfl ?_
                refine g_lcmp (pc := 130) C dX5_joined_130 ?_
                refine g_if_ne (pc := 131) C 138 dX5_joined_131 (by decide) (fun c14 => ?_) (fun c14 => ?_)
                · have h := zif_f c14 h
                  refine g_lconst (v := 0) (pc := 138) C dX5_joined_138 (by decide) ?_
                  obtain ⟨rfl, rfl⟩ := zsome h
                  exact g_lret (pc := 139) C rfl hx (by rw [hxn]; rfl) (by rw [hxn]; rfl) dX5_joined_139
                · have h := zif_t c14 h
                  refine g_lconst (v := 1) (pc := 134) C dX5_joined_134 (by decide) ?_
                  refine g_goto (pc := 135) C 139 dX5_joined_135 (by decide) ?_
                  obtain ⟨rfl, rfl⟩ := zsome h
                  exact g_lret (pc := 139) C rfl hx (by rw [hxn]; rfl) (by rw [hxn]; rfl) dX5_joined_139
def rm_X5_value : Room := { frames := 1, cells := 0, slots := 0, locals := 26 }
noncomputable def s_X5_value_j285 (h0 : Nat) (l1 : Option Nat) (l3 : Int32) (l4 : Int32) (l5 : Int32) (σ : Hp) : Option (((Nat × (Option Nat) × Int32 × Int32 × Int32) ⊕ ((Nat × Int32) ⊕ Int64)) × Hp) :=
  some (Sum.inl ((h0), (l1), (l3), (l4), (l5 + 1)), σ)
set_option maxRecDepth 100000 in
theorem w_X5_value_j285 {E : E0} (hE : EOK E) {X : X0} (C : XOK E X cX5_value RX5 9 (some .long) rm_X5_value) (hxn : xn X = (rm_X5_value.cells, rm_X5_value.slots)) {KE : ((Nat × Int32) ⊕ Int64) → Hp → Prop} (e_291 : ∀ (h0 : Nat) (l4 : Int32) (σ : Hp), KE (Sum.inl (h0, l4)) σ → G E X 0 0 291 [(0, tR (some (h0))), (4, tI (l4))] [] σ) (e_ret : ∀ (r : Int64) (σ : Hp), KE (Sum.inr r) σ → xd X = (some (tJ r), σ)) (h0 : Nat) (l1 : Option Nat) (l3 : Int32) (l4 : Int32) (l5 : Int32) (σ : Hp) (x : (Nat × (Option Nat) × Int32 × Int32 × Int32) ⊕ ((Nat × Int32) ⊕ Int64)) (σ1 : Hp) (h : s_X5_value_j285 h0 l1 l3 l4 l5 σ = some (x, σ1)) (hI : ∀ v, x = Sum.inl v → (fun (v : Nat × (Option Nat) × Int32 × Int32 × Int32) (σ : Hp) => G E X 0 0 10 [(0, tR (some ((v.1)))), (1, tR ((v.2.1))), (3, tI ((v.2.2.1))), (4, tI ((v.2.2.2.1))), (5, tI ((v.2.2.2.2)))] [] σ) v σ1) (hO : ∀ e, x = Sum.inr e → KE e σ1) : G E X 0 0 285 [(0, tR (some (h0))), (1, tR (l1)), (3, tI (l3)), (4, tI (l4)), (5, tI (l5))] [] σ := by
  unfold s_X5_value_j285 at h
  refine g_iinc (lm' := [(5, tI (l5 + 1)), (0, tR (some (h0))), (1, tR (l1)), (3, tI (l3)), (4, tI (l4))]) (v := l5 + 1) (pc := 285) C 4 dX5_value_285 rfl rfl (by decide) rfl ?_
  refine g_goto (pc := 288) C 10 dX5_value_288 (by decide) ?_
  refine g_sub [1, 2, 3, 4, 0] (lm' := [(0, tR (some (h0))), (1, tR (l1)), (3, tI (l3)), (4, tI (l4)), (5, tI (l5 + 1))]) rfl ?_
  obtain ⟨rfl, rfl⟩ := zsome h
  exact hI _ rfl
noncomputable def s_X5_value_j114 (h0 : Nat) (l1 : Option Nat) (l3 : Int32) (l4 : Int32) (l5 : Int32) (t0 : Option Nat) (t1 : Int32) (t2 : Int64) (σ : Hp) : Option (((Nat × (Option Nat) × Int32 × Int32 × Int32) ⊕ ((Nat × Int32) ⊕ Int64)) × Hp) :=
  (t0).bind fun a1 =>
  (stJ σ a1 (t1) (t2)).bind fun σ2 =>
  s_X5_value_j285 (h0) (l1) (l3) (l4) (l5) σ2
set_option maxRecDepth 100000 in
theorem w_X5_value_j114 {E : E0} (hE : EOK E) {X : X0} (C : XOK E X cX5_value RX5 9 (some .long) rm_X5_value) (hxn : xn X = (rm_X5_value.cells, rm_X5_value.slots)) {KE : ((Nat × Int32) ⊕ Int64) → Hp → Prop} (e_291 : ∀ (h0 : Nat) (l4 : Int32) (σ : Hp), KE (Sum.inl (h0, l4)) σ → G E X 0 0 291 [(0, tR (some (h0))), (4, tI (l4))] [] σ) (e_ret : ∀ (r : Int64) (σ : Hp), KE (Sum.inr r) σ → xd X = (some (tJ r), σ)) (h0 : Nat) (l1 : Option Nat) (l3 : Int32) (l4 : Int32) (l5 : Int32) (t0 : Option Nat) (t1 : Int32) (t2 : Int64) (σ : Hp) (x : (Nat × (Option Nat) × Int32 × Int32 × Int32) ⊕ ((Nat × Int32) ⊕ Int64)) (σ1 : Hp) (h : s_X5_value_j114 h0 l1 l3 l4 l5 t0 t1 t2 σ = some (x, σ1)) (hI : ∀ v, x = Sum.inl v → (fun (v : Nat × (Option Nat) × Int32 × Int32 × Int32) (σ : Hp) => G E X 0 0 10 [(0, tR (some ((v.1)))), (1, tR ((v.2.1))), (3, tI ((v.2.2.1))), (4, tI ((v.2.2.2.1))), (5, tI ((v.2.2.2.2)))] [] σ) v σ1) (hO : ∀ e, x = Sum.inr e → KE e σ1) : G E X 0 0 114 [(0, tR (some (h0))), (1, tR (l1)), (3, tI (l3)), (4, tI (l4)), (5, tI (l5))] [tJ (t2), tI (t1), tR (t0)] σ := by
  unfold s_X5_value_j114 at h
  obtain ⟨a1, hqa1, h9⟩ := zbind h
  clear h
  subst hqa1
  have h := h9
  clear h9
  obtain ⟨σ2, hvσ2, h⟩ := zbind h
  refine g_last (pc := 114) C hvσ2 dX5_value_114 ?_
  refine g_goto (pc := 115) C 285 dX5_value_115 (by decide) ?_
  exact w_X5_value_j285 hE C hxn e_291 e_ret _ _ _ _ _ _ _ _ h hI hO
noncomputable def s_X5_value_j86 (h0 : Nat) (l1 : Option Nat) (l3 : Int32) (l4 : Int32) (l5 : Int32) (l6 : Int32) (l7 : Int32) (σ : Hp) : Option (((Nat × (Option Nat) × Int32 × Int32 × Int32) ⊕ ((Nat × Int32) ⊕ Int64)) × Hp) :=
  (rdR 5 σ h0 1).bind fun r1 =>
  if l6 = 0 then
    s_X5_value_j114 (h0) (l1) (l3) (l4 + 1) (l5) (r1) (l4) (Int32.toInt64 (l7 : Int32)) σ
  else
    (rdR 5 σ h0 0).bind fun r2 =>
    (r2).bind fun a3 =>
    (ldI 11 σ a3 (l7)).bind fun v4 =>
    s_X5_value_j114 (h0) (l1) (l3) (l4 + 1) (l5) (r1) (l4) (Int32.toInt64 (v4 : Int32)) σ
set_option maxRecDepth 100000 in
theorem w_X5_value_j86 {E : E0} (hE : EOK E) {X : X0} (C : XOK E X cX5_value RX5 9 (some .long) rm_X5_value) (hxn : xn X = (rm_X5_value.cells, rm_X5_value.slots)) {KE : ((Nat × Int32) ⊕ Int64) → Hp → Prop} (e_291 : ∀ (h0 : Nat) (l4 : Int32) (σ : Hp), KE (Sum.inl (h0, l4)) σ → G E X 0 0 291 [(0, tR (some (h0))), (4, tI (l4))] [] σ) (e_ret : ∀ (r : Int64) (σ : Hp), KE (Sum.inr r) σ → xd X = (some (tJ r), σ)) (h0 : Nat) (l1 : Option Nat) (l3 : Int32) (l4 : Int32) (l5 : Int32) (l6 : Int32) (l7 : Int32) (σ : Hp) (x : (Nat × (Option Nat) × Int32 × Int32 × Int32) ⊕ ((Nat × Int32) ⊕ Int64)) (σ1 : Hp) (h : s_X5_value_j86 h0 l1 l3 l4 l5 l6 l7 σ = some (x, σ1)) (hI : ∀ v, x = Sum.inl v → (fun (v : Nat × (Option Nat) × Int32 × Int32 × Int32) (σ : Hp) => G E X 0 0 10 [(0, tR (some ((v.1)))), (1, tR ((v.2.1))), (3, tI ((v.2.2.1))), (4, tI ((v.2.2.2.1))), (5, tI ((v.2.2.2.2)))] [] σ) v σ1) (hO : ∀ e, x = Sum.inr e → KE e σ1) : G E X 0 0 86 [(0, tR (some (h0))), (1, tR (l1)), (3, tI (l3)), (4, tI (l4)), (5, tI (l5)), (6, tI (l6)), (7, tI (l7))] [] σ := by
  unfold s_X5_value_j86 at h
  refine g_aload_n (pc := 86) C 0 0 dX5_value_86 rfl rfl ?_
  obtain ⟨r1, hvr1, h⟩ := zbind h
  refine g_getR (N := 2) (pc := 87) C ck_5 hvr1 rfl rfl fl_X5_15 dX5_value_87 ?_
  refine g_iload (pc := 90) C 3 dX5_value_90 rfl ?_
  refine g_iinc (lm' := [(4, tI (l4 + 1)), (0, tR (some (h0))), (1, tR (l1)), (3, tI (l3)), (5, tI (l5)), (6, tI (l6)), (7, tI (l7))]) (v := l4 + 1) (pc := 92) C 3 dX5_value_92 rfl rfl (by decide) rfl ?_
  refine g_iload (pc := 95) C 5 dX5_value_95 rfl ?_
  refine g_if_ne (pc := 97) C 106 dX5_value_97 (by decide) (fun c5 => ?_) (fun c5 => ?_)
  · have h := zif_f c5 h
    refine g_aload_n (pc := 106) C 0 1 dX5_value_106 rfl rfl ?_
    obtain ⟨r2, hvr2, h⟩ := zbind h
    refine g_getR (N := 2) (pc := 107) C ck_5 hvr2 rfl rfl fl_X5_9 dX5_value_107 ?_
    refine g_iload (pc := 110) C 6 dX5_value_110 rfl ?_
    obtain ⟨a3, hqa3, h9⟩ := zbind h
    clear h
    subst hqa3
    have h := h9
    clear h9
    obtain ⟨v4, hvv4, h⟩ := zbind h
    refine g_iald (pc := 112) C hvv4 dX5_value_112 ?_
    refine g_i2l (pc := 113) C dX5_value_113 ?_
    refine g_sub [1, 2, 3, 0, 4] (lm' := [(0, tR (some (h0))), (1, tR (l1)), (3, tI (l3)), (4, tI (l4 + 1)), (5, tI (l5))]) rfl ?_
    exact w_X5_value_j114 hE C hxn e_291 e_ret _ _ _ _ _ _ _ _ _ _ _ h hI hO
  · have h := zif_t c5 h
    refine g_iload (pc := 100) C 6 dX5_value_100 rfl ?_
    refine g_i2l (pc := 102) C dX5_value_102 ?_
    refine g_goto (pc := 103) C 114 dX5_value_103 (by decide) ?_
    refine g_sub [1, 2, 3, 0, 4] (lm' := [(0, tR (some (h0))), (1, tR (l1)), (3, tI (l3)), (4, tI (l4 + 1)), (5, tI (l5))]) rfl ?_
    exact w_X5_value_j114 hE C hxn e_291 e_ret _ _ _ _ _ _ _ _ _ _ _ h hI hO
noncomputable def s_X5_value_j51 (h0 : Nat) (l1 : Option Nat) (l3 : Int32) (l4 : Int32) (l5 : Int32) (l6 : Int32) (l7 : Int32) (σ : Hp) : Option (((Nat × (Option Nat) × Int32 × Int32 × Int32) ⊕ ((Nat × Int32) ⊕ Int64)) × Hp) :=
  (rdR 5 σ h0 1).bind fun r1 =>
  (r1).bind fun a2 =>
  (lnA 12 σ a2).bind fun v3 =>
  if v3 ≤ l4 then
    some (Sum.inr (Sum.inr (9000000000)), σ)
  else
    if l6 = 1 then
      if l7 < 0 then
        some (Sum.inr (Sum.inr (9000000000)), σ)
      else
        (rdR 5 σ h0 0).bind fun r4 =>
        (r4).bind fun a5 =>
        (lnA 11 σ a5).bind fun v6 =>
        if l7 < v6 then
          s_X5_value_j86 (h0) (l1) (l3) (l4) (l5) (l6) (l7) σ
        else
          some (Sum.inr (Sum.inr (9000000000)), σ)
    else
      s_X5_value_j86 (h0) (l1) (l3) (l4) (l5) (l6) (l7) σ
set_option maxRecDepth 100000 in
theorem w_X5_value_j51 {E : E0} (hE : EOK E) {X : X0} (C : XOK E X cX5_value RX5 9 (some .long) rm_X5_value) (hxn : xn X = (rm_X5_value.cells, rm_X5_value.slots)) {KE : ((Nat × Int32) ⊕ Int64) → Hp → Prop} (e_291 : ∀ (h0 : Nat) (l4 : Int32) (σ : Hp), KE (Sum.inl (h0, l4)) σ → G E X 0 0 291 [(0, tR (some (h0))), (4, tI (l4))] [] σ) (e_ret : ∀ (r : Int64) (σ : Hp), KE (Sum.inr r) σ → xd X = (some (tJ r), σ)) (h0 : Nat) (l1 : Option Nat) (l3 : Int32) (l4 : Int32) (l5 : Int32) (l6 : Int32) (l7 : Int32) (σ : Hp) (x : (Nat × (Option Nat) × Int32 × Int32 × Int32) ⊕ ((Nat × Int32) ⊕ Int64)) (σ1 : Hp) (h : s_X5_value_j51 h0 l1 l3 l4 l5 l6 l7 σ = some (x, σ1)) (hI : ∀ v, x = Sum.inl v → (fun (v : Nat × (Option Nat) × Int32 × Int32 × Int32) (σ : Hp) => G E X 0 0 10 [(0, tR (some ((v.1)))), (1, tR ((v.2.1))), (3, tI ((v.2.2.1))), (4, tI ((v.2.2.2.1))), (5, tI ((v.2.2.2.2)))] [] σ) v σ1) (hO : ∀ e, x = Sum.inr e → KE e σ1) : G E X 0 0 51 [(0, tR (some (h0))), (1, tR (l1)), (3, tI (l3)), (4, tI (l4)), (5, tI (l5)), (6, tI (l6)), (7, tI (l7))] [] σ := by
  unfold s_X5_value_j51 at h
  refine g_iload (pc := 51) C 3 dX5_value_51 rfl ?_
  refine g_aload_n (pc := 53) C 0 0 dX5_value_53 rfl rfl ?_
  obtain ⟨r1, hvr1, h⟩ := zbind h
  refine g_getR (N := 2) (pc := 54) C ck_5 hvr1 rfl rfl fl_X5_15 dX5_value_54 ?_
  obtain ⟨a2, hqa2, h9⟩ := zbind h
  clear h
  subst hqa2
  have h := h9
  clear h9
  obtain ⟨v3, hvv3, h⟩ := zbind h
  refine g_alen (c := 12) (pc := 57) C (by decide) hvv3 dX5_value_57 ?_
  refine g_icmp_ge (pc := 58) C 82 dX5_value_58 (by decide) (fun c10 => ?_) (fun c10 => ?_)
  · have h := zif_t c10 h
    refine g_ldc2 (v := 9000000000) (pc := 82) C dX5_value_82 kl_X5_31 ?_
    obtain ⟨rfl, rfl⟩ := zsome h
    exact g_lret (pc := 85) C rfl (e_ret _ _ (hO _ rfl)) (by rw [hxn]; rfl) (by rw [hxn]; rfl) dX5_value_85
  · have h := zif_f c10 h
    refine g_iload (pc := 61) C 5 dX5_value_61 rfl ?_
    refine g_iconst (v := 1) (pc := 63) C dX5_value_63 (by decide) ?_
    refine g_icmp_ne (pc := 64) C 86 dX5_value_64 (by decide) (fun c9 => ?_) (fun c9 => ?_)
    · have h := zif_f c9 h
      exact w_X5_value_j86 hE C hxn e_291 e_ret _ _ _ _ _ _ _ _ _ _ h hI hO
    · have h := zif_t c9 h
      refine g_iload (pc := 67) C 6 dX5_value_67 rfl ?_
      refine g_if_lt (pc := 69) C 82 dX5_value_69 (by decide) (fun c8 => ?_) (fun c8 => ?_)
      · have h := zif_t c8 h
        refine g_ldc2 (v := 9000000000) (pc := 82) C dX5_value_82 kl_X5_31 ?_
        obtain ⟨rfl, rfl⟩ := zsome h
        exact g_lret (pc := 85) C rfl (e_ret _ _ (hO _ rfl)) (by rw [hxn]; rfl) (by rw [hxn]; rfl) dX5_value_85
      · have h := zif_f c8 h
        refine g_iload (pc := 72) C 6 dX5_value_72 rfl ?_
        refine g_aload_n (pc := 74) C 0 0 dX5_value_74 rfl rfl ?_
        obtain ⟨r4, hvr4, h⟩ := zbind h
        refine g_getR (N := 2) (pc := 75) C ck_5 hvr4 rfl rfl fl_X5_9 dX5_value_75 ?_
        obtain ⟨a5, hqa5, h9⟩ := zbind h
        clear h
        subst hqa5
        have h := h9
        clear h9
        obtain ⟨v6, hvv6, h⟩ := zbind h
        refine g_alen (c := 11) (pc := 78) C (by decide) hvv6 dX5_value_78 ?_
        refine g_icmp_lt (pc := 79) C 86 dX5_value_79 (by decide) (fun c7 => ?_) (fun c7 => ?_)
        · have h := zif_t c7 h
          exact w_X5_value_j86 hE C hxn e_291 e_ret _ _ _ _ _ _ _ _ _ _ h hI hO
        · have h := zif_f c7 h
          refine g_ldc2 (v := 9000000000) (pc := 82) C dX5_value_82 kl_X5_31 ?_
          obtain ⟨rfl, rfl⟩ := zsome h
          exact g_lret (pc := 85) C rfl (e_ret _ _ (hO _ rfl)) (by rw [hxn]; rfl) (by rw [hxn]; rfl) dX5_value_85
noncomputable def s_X5_value_j219 (h0 : Nat) (l1 : Option Nat) (l3 : Int32) (l4 : Int32) (l5 : Int32) (σ : Hp) : Option (((Nat × (Option Nat) × Int32 × Int32 × Int32) ⊕ ((Nat × Int32) ⊕ Int64)) × Hp) :=
  s_X5_value_j285 (h0) (l1) (l3) (l4) (l5) σ
set_option maxRecDepth 100000 in
theorem w_X5_value_j219 {E : E0} (hE : EOK E) {X : X0} (C : XOK E X cX5_value RX5 9 (some .long) rm_X5_value) (hxn : xn X = (rm_X5_value.cells, rm_X5_value.slots)) {KE : ((Nat × Int32) ⊕ Int64) → Hp → Prop} (e_291 : ∀ (h0 : Nat) (l4 : Int32) (σ : Hp), KE (Sum.inl (h0, l4)) σ → G E X 0 0 291 [(0, tR (some (h0))), (4, tI (l4))] [] σ) (e_ret : ∀ (r : Int64) (σ : Hp), KE (Sum.inr r) σ → xd X = (some (tJ r), σ)) (h0 : Nat) (l1 : Option Nat) (l3 : Int32) (l4 : Int32) (l5 : Int32) (σ : Hp) (x : (Nat × (Option Nat) × Int32 × Int32 × Int32) ⊕ ((Nat × Int32) ⊕ Int64)) (σ1 : Hp) (h : s_X5_value_j219 h0 l1 l3 l4 l5 σ = some (x, σ1)) (hI : ∀ v, x = Sum.inl v → (fun (v : Nat × (Option Nat) × Int32 × Int32 × Int32) (σ : Hp) => G E X 0 0 10 [(0, tR (some ((v.1)))), (1, tR ((v.2.1))), (3, tI ((v.2.2.1))), (4, tI ((v.2.2.2.1))), (5, tI ((v.2.2.2.2)))] [] σ) v σ1) (hO : ∀ e, x = Sum.inr e → KE e σ1) : G E X 0 0 219 [(0, tR (some (h0))), (1, tR (l1)), (3, tI (l3)), (4, tI (l4)), (5, tI (l5))] [] σ := by
  unfold s_X5_value_j219 at h
  refine g_goto (pc := 219) C 285 dX5_value_219 (by decide) ?_
  exact w_X5_value_j285 hE C hxn e_291 e_ret _ _ _ _ _ _ _ _ h hI hO
noncomputable def s_X5_value_j199 (h0 : Nat) (l1 : Option Nat) (l3 : Int32) (l4 : Int32) (l5 : Int32) (l7 : Int32) (t0 : Int32) (t1 : Int32) (σ : Hp) : Option (((Nat × (Option Nat) × Int32 × Int32 × Int32) ⊕ ((Nat × Int32) ⊕ Int64)) × Hp) :=
  if t0 = t1 then
    s_X5_value_j219 (h0) (l1) (l3) (l4) (if l5 < (l7 - 1) then (l7 - 1) else l5) σ
  else
    s_X5_value_j219 (h0) (l1) (l3) (l4 + (-1)) (l5) σ
set_option maxRecDepth 100000 in
theorem w_X5_value_j199 {E : E0} (hE : EOK E) {X : X0} (C : XOK E X cX5_value RX5 9 (some .long) rm_X5_value) (hxn : xn X = (rm_X5_value.cells, rm_X5_value.slots)) {KE : ((Nat × Int32) ⊕ Int64) → Hp → Prop} (e_291 : ∀ (h0 : Nat) (l4 : Int32) (σ : Hp), KE (Sum.inl (h0, l4)) σ → G E X 0 0 291 [(0, tR (some (h0))), (4, tI (l4))] [] σ) (e_ret : ∀ (r : Int64) (σ : Hp), KE (Sum.inr r) σ → xd X = (some (tJ r), σ)) (h0 : Nat) (l1 : Option Nat) (l3 : Int32) (l4 : Int32) (l5 : Int32) (l7 : Int32) (t0 : Int32) (t1 : Int32) (σ : Hp) (x : (Nat × (Option Nat) × Int32 × Int32 × Int32) ⊕ ((Nat × Int32) ⊕ Int64)) (σ1 : Hp) (h : s_X5_value_j199 h0 l1 l3 l4 l5 l7 t0 t1 σ = some (x, σ1)) (hI : ∀ v, x = Sum.inl v → (fun (v : Nat × (Option Nat) × Int32 × Int32 × Int32) (σ : Hp) => G E X 0 0 10 [(0, tR (some ((v.1)))), (1, tR ((v.2.1))), (3, tI ((v.2.2.1))), (4, tI ((v.2.2.2.1))), (5, tI ((v.2.2.2.2)))] [] σ) v σ1) (hO : ∀ e, x = Sum.inr e → KE e σ1) : G E X 0 0 199 [(0, tR (some (h0))), (1, tR (l1)), (3, tI (l3)), (4, tI (l4)), (5, tI (l5)), (7, tI (l7))] [tI (t1), tI (t0)] σ := by
  unfold s_X5_value_j199 at h
  refine g_icmp_ne (pc := 199) C 216 dX5_value_199 (by decide) (fun c1 => ?_) (fun c1 => ?_)
  · have h := zif_f c1 h
    refine g_iinc (lm' := [(4, tI (l4 + (-1))), (0, tR (some (h0))), (1, tR (l1)), (3, tI (l3)), (5, tI (l5)), (7, tI (l7))]) (v := l4 + (-1)) (pc := 216) C 3 dX5_value_216 rfl rfl (by decide) rfl ?_
    refine g_sub [1, 2, 3, 0, 4] (lm' := [(0, tR (some (h0))), (1, tR (l1)), (3, tI (l3)), (4, tI (l4 + (-1))), (5, tI (l5))]) rfl ?_
    exact w_X5_value_j219 hE C hxn e_291 e_ret _ _ _ _ _ _ _ _ h hI hO
  · have h := zif_t c1 h
    refine g_iload (pc := 202) C 4 dX5_value_202 rfl ?_
    refine g_iload (pc := 204) C 5 dX5_value_204 rfl ?_
    refine g_iconst (v := 1) (pc := 206) C dX5_value_206 (by decide) ?_
    refine g_isub (pc := 207) C dX5_value_207 ?_
    refine g_mmax (pc := 208) C ml_X5_25 ⟨Nat.le_of_ble_eq_true rfl, Nat.le_of_ble_eq_true rfl⟩ ⟨Nat.le_of_ble_eq_true rfl, Nat.le_of_ble_eq_true rfl⟩ dX5_value_208 ?_
    refine g_istore (lm' := [(5, tI (if l5 < (l7 - 1) then (l7 - 1) else l5)), (0, tR (some (h0))), (1, tR (l1)), (3, tI (l3)), (4, tI (l4)), (7, tI (l7))]) (pc := 211) C dX5_value_211 (by decide) rfl ?_
    refine g_goto (pc := 213) C 219 dX5_value_213 (by decide) ?_
    refine g_sub [1, 2, 3, 4, 0] (lm' := [(0, tR (some (h0))), (1, tR (l1)), (3, tI (l3)), (4, tI (l4)), (5, tI (if l5 < (l7 - 1) then (l7 - 1) else l5))]) rfl ?_
    exact w_X5_value_j219 hE C hxn e_291 e_ret _ _ _ _ _ _ _ _ h hI hO
noncomputable def s_X5_value_j181 (h0 : Nat) (l1 : Option Nat) (l3 : Int32) (l4 : Int32) (l5 : Int32) (t0 : Option Nat) (t1 : Int32) (t2 : Int64) (σ : Hp) : Option (((Nat × (Option Nat) × Int32 × Int32 × Int32) ⊕ ((Nat × Int32) ⊕ Int64)) × Hp) :=
  (t0).bind fun a1 =>
  (stJ σ a1 (t1) (t2)).bind fun σ2 =>
  s_X5_value_j219 (h0) (l1) (l3) (l4) (l5) σ2
set_option maxRecDepth 100000 in
theorem w_X5_value_j181 {E : E0} (hE : EOK E) {X : X0} (C : XOK E X cX5_value RX5 9 (some .long) rm_X5_value) (hxn : xn X = (rm_X5_value.cells, rm_X5_value.slots)) {KE : ((Nat × Int32) ⊕ Int64) → Hp → Prop} (e_291 : ∀ (h0 : Nat) (l4 : Int32) (σ : Hp), KE (Sum.inl (h0, l4)) σ → G E X 0 0 291 [(0, tR (some (h0))), (4, tI (l4))] [] σ) (e_ret : ∀ (r : Int64) (σ : Hp), KE (Sum.inr r) σ → xd X = (some (tJ r), σ)) (h0 : Nat) (l1 : Option Nat) (l3 : Int32) (l4 : Int32) (l5 : Int32) (t0 : Option Nat) (t1 : Int32) (t2 : Int64) (σ : Hp) (x : (Nat × (Option Nat) × Int32 × Int32 × Int32) ⊕ ((Nat × Int32) ⊕ Int64)) (σ1 : Hp) (h : s_X5_value_j181 h0 l1 l3 l4 l5 t0 t1 t2 σ = some (x, σ1)) (hI : ∀ v, x = Sum.inl v → (fun (v : Nat × (Option Nat) × Int32 × Int32 × Int32) (σ : Hp) => G E X 0 0 10 [(0, tR (some ((v.1)))), (1, tR ((v.2.1))), (3, tI ((v.2.2.1))), (4, tI ((v.2.2.2.1))), (5, tI ((v.2.2.2.2)))] [] σ) v σ1) (hO : ∀ e, x = Sum.inr e → KE e σ1) : G E X 0 0 181 [(0, tR (some (h0))), (1, tR (l1)), (3, tI (l3)), (4, tI (l4)), (5, tI (l5))] [tJ (t2), tI (t1), tR (t0)] σ := by
  unfold s_X5_value_j181 at h
  obtain ⟨a1, hqa1, h9⟩ := zbind h
  clear h
  subst hqa1
  have h := h9
  clear h9
  obtain ⟨σ2, hvσ2, h⟩ := zbind h
  refine g_last (pc := 181) C hvσ2 dX5_value_181 ?_
  refine g_goto (pc := 182) C 219 dX5_value_182 (by decide) ?_
  exact w_X5_value_j219 hE C hxn e_291 e_ret _ _ _ _ _ _ _ _ h hI hO
noncomputable def s_X5_value_j154 (h0 : Nat) (l1 : Option Nat) (l3 : Int32) (l4 : Int32) (l5 : Int32) (l6 : Int32) (l7 : Int32) (t0 : Int32) (σ : Hp) : Option (((Nat × (Option Nat) × Int32 × Int32 × Int32) ⊕ ((Nat × Int32) ⊕ Int64)) × Hp) :=
  if l6 = 10 then
    (rdR 5 σ h0 1).bind fun r2 =>
    if t0 = 0 then
      s_X5_value_j181 (h0) (l1) (l3) (l4) (l5) (r2) (l4 - 1) (1) σ
    else
      s_X5_value_j181 (h0) (l1) (l3) (l4) (l5) (r2) (l4 - 1) (0) σ
  else
    if l6 = 11 then
      s_X5_value_j199 (h0) (l1) (l3) (l4) (l5) (l7) (t0) (1) σ
    else
      s_X5_value_j199 (h0) (l1) (l3) (l4) (l5) (l7) (t0) (0) σ
set_option maxRecDepth 100000 in
theorem w_X5_value_j154 {E : E0} (hE : EOK E) {X : X0} (C : XOK E X cX5_value RX5 9 (some .long) rm_X5_value) (hxn : xn X = (rm_X5_value.cells, rm_X5_value.slots)) {KE : ((Nat × Int32) ⊕ Int64) → Hp → Prop} (e_291 : ∀ (h0 : Nat) (l4 : Int32) (σ : Hp), KE (Sum.inl (h0, l4)) σ → G E X 0 0 291 [(0, tR (some (h0))), (4, tI (l4))] [] σ) (e_ret : ∀ (r : Int64) (σ : Hp), KE (Sum.inr r) σ → xd X = (some (tJ r), σ)) (h0 : Nat) (l1 : Option Nat) (l3 : Int32) (l4 : Int32) (l5 : Int32) (l6 : Int32) (l7 : Int32) (t0 : Int32) (σ : Hp) (x : (Nat × (Option Nat) × Int32 × Int32 × Int32) ⊕ ((Nat × Int32) ⊕ Int64)) (σ1 : Hp) (h : s_X5_value_j154 h0 l1 l3 l4 l5 l6 l7 t0 σ = some (x, σ1)) (hI : ∀ v, x = Sum.inl v → (fun (v : Nat × (Option Nat) × Int32 × Int32 × Int32) (σ : Hp) => G E X 0 0 10 [(0, tR (some ((v.1)))), (1, tR ((v.2.1))), (3, tI ((v.2.2.1))), (4, tI ((v.2.2.2.1))), (5, tI ((v.2.2.2.2)))] [] σ) v σ1) (hO : ∀ e, x = Sum.inr e → KE e σ1) : G E X 0 0 154 [(0, tR (some (h0))), (1, tR (l1)), (3, tI (l3)), (4, tI (l4)), (5, tI (l5)), (6, tI (l6)), (7, tI (l7))] [tI (t0)] σ := by
  unfold s_X5_value_j154 at h
  refine g_istore (lm' := [(8, tI (t0)), (0, tR (some (h0))), (1, tR (l1)), (3, tI (l3)), (4, tI (l4)), (5, tI (l5)), (6, tI (l6)), (7, tI (l7))]) (pc := 154) C dX5_value_154 (by decide) rfl ?_
  refine g_iload (pc := 156) C 6 dX5_value_156 rfl ?_
  refine g_bipush (v := 10) (pc := 158) C dX5_value_158 (by decide) ?_
  refine g_icmp_ne (pc := 160) C 185 dX5_value_160 (by decide) (fun c4 => ?_) (fun c4 => ?_)
  · have h := zif_f c4 h
    refine g_iload (pc := 185) C 0 dX5_value_185 rfl ?_
    refine g_iload (pc := 187) C 6 dX5_value_187 rfl ?_
    refine g_bipush (v := 11) (pc := 189) C dX5_value_189 (by decide) ?_
    refine g_icmp_ne (pc := 191) C 198 dX5_value_191 (by decide) (fun c1 => ?_) (fun c1 => ?_)
    · have h := zif_f c1 h
      refine g_iconst (v := 0) (pc := 198) C dX5_value_198 (by decide) ?_
      refine g_sub [1, 2, 3, 4, 5, 7] (lm' := [(0, tR (some (h0))), (1, tR (l1)), (3, tI (l3)), (4, tI (l4)), (5, tI (l5)), (7, tI (l7))]) rfl ?_
      exact w_X5_value_j199 hE C hxn e_291 e_ret _ _ _ _ _ _ _ _ _ _ _ h hI hO
    · have h := zif_t c1 h
      refine g_iconst (v := 1) (pc := 194) C dX5_value_194 (by decide) ?_
      refine g_goto (pc := 195) C 199 dX5_value_195 (by decide) ?_
      refine g_sub [1, 2, 3, 4, 5, 7] (lm' := [(0, tR (some (h0))), (1, tR (l1)), (3, tI (l3)), (4, tI (l4)), (5, tI (l5)), (7, tI (l7))]) rfl ?_
      exact w_X5_value_j199 hE C hxn e_291 e_ret _ _ _ _ _ _ _ _ _ _ _ h hI hO
  · have h := zif_t c4 h
    refine g_aload_n (pc := 163) C 0 1 dX5_value_163 rfl rfl ?_
    obtain ⟨r2, hvr2, h⟩ := zbind h
    refine g_getR (N := 2) (pc := 164) C ck_5 hvr2 rfl rfl fl_X5_15 dX5_value_164 ?_
    refine g_iload (pc := 167) C 4 dX5_value_167 rfl ?_
    refine g_iconst (v := 1) (pc := 169) C dX5_value_169 (by decide) ?_
    refine g_isub (pc := 170) C dX5_value_170 ?_
    refine g_iload (pc := 171) C 0 dX5_value_171 rfl ?_
    refine g_if_eq (pc := 173) C 180 dX5_value_173 (by decide) (fun c3 => ?_) (fun c3 => ?_)
    · have h := zif_t c3 h
      refine g_lconst (v := 1) (pc := 180) C dX5_value_180 (by decide) ?_
      refine g_sub [1, 2, 3, 4, 5] (lm' := [(0, tR (some (h0))), (1, tR (l1)), (3, tI (l3)), (4, tI (l4)), (5, tI (l5))]) rfl ?_
      exact w_X5_value_j181 hE C hxn e_291 e_ret _ _ _ _ _ _ _ _ _ _ _ h hI hO
    · have h := zif_f c3 h
      refine g_lconst (v := 0) (pc := 176) C dX5_value_176 (by decide) ?_
      refine g_goto (pc := 177) C 181 dX5_value_177 (by decide) ?_
      refine g_sub [1, 2, 3, 4, 5] (lm' := [(0, tR (some (h0))), (1, tR (l1)), (3, tI (l3)), (4, tI (l4)), (5, tI (l5))]) rfl ?_
      exact w_X5_value_j181 hE C hxn e_291 e_ret _ _ _ _ _ _ _ _ _ _ _ h hI hO
noncomputable def s_X5_value_b10 (h0 : Nat) (l1 : Option Nat) (l3 : Int32) (l4 : Int32) (l5 : Int32) (σ : Hp) : Option (((Nat × (Option Nat) × Int32 × Int32 × Int32) ⊕ ((Nat × Int32) ⊕ Int64)) × Hp) :=
  if l3 ≤ l5 then
    some (Sum.inr (Sum.inl ((h0), (l4))), σ)
  else
    (l1).bind fun a1 =>
    (lnA 11 σ a1).bind fun v2 =>
    if v2 ≤ l5 then
      some (Sum.inr (Sum.inl ((h0), (l4))), σ)
    else
      (ldI 11 σ a1 (l5)).bind fun v3 =>
      (ldI 11 σ a1 (l5)).bind fun v4 =>
      if (v3 &&& 15) = 0 then
        s_X5_value_j51 (h0) (some (a1)) (l3) (l4) (l5) (v3 &&& 15) (v4 >>> (4 &&& 31)) σ
      else
        if (v3 &&& 15) = 1 then
          s_X5_value_j51 (h0) (some (a1)) (l3) (l4) (l5) (v3 &&& 15) (v4 >>> (4 &&& 31)) σ
        else
          if (v3 &&& 15) < 10 then
            if 2 ≤ l4 then
              (rdR 5 σ h0 1).bind fun r5 =>
              (rdR 5 σ h0 1).bind fun r6 =>
              (r6).bind fun a7 =>
              (ldJ σ a7 ((l4 + (-1)) - 1)).bind fun v8 =>
              (rdR 5 σ h0 1).bind fun r9 =>
              (r9).bind fun a10 =>
              (ldJ σ a10 (l4 + (-1))).bind fun v11 =>
              cb (s_X5_joined (v3 &&& 15) (v8) (v11) σ) fun v13 σ12 =>
              (r5).bind fun a14 =>
              (stJ σ12 a14 ((l4 + (-1)) - 1) (v13)).bind fun σ15 =>
              (rdR 5 σ15 h0 1).bind fun r16 =>
              (r16).bind fun a17 =>
              (ldJ σ15 a17 ((l4 + (-1)) - 1)).bind fun v18 =>
              if (lg_cmp (v18 : Int64) (9000000000 : Int64)) = 0 then
                some (Sum.inr (Sum.inr (9000000000)), σ15)
              else
                s_X5_value_j285 (h0) (some (a1)) (l3) (l4 + (-1)) (l5) σ15
            else
              some (Sum.inr (Sum.inr (9000000000)), σ)
          else
            if 1 ≤ l4 then
              (rdR 5 σ h0 1).bind fun r21 =>
              (r21).bind fun a22 =>
              (ldJ σ a22 (l4 - 1)).bind fun v23 =>
              if (lg_cmp (v23 : Int64) (1 : Int64)) = 0 then
                s_X5_value_j154 (h0) (some (a1)) (l3) (l4) (l5) (v3 &&& 15) (v4 >>> (4 &&& 31)) (1) σ
              else
                s_X5_value_j154 (h0) (some (a1)) (l3) (l4) (l5) (v3 &&& 15) (v4 >>> (4 &&& 31)) (0) σ
            else
              some (Sum.inr (Sum.inr (9000000000)), σ)
noncomputable def s_X5_value_l10 : (Nat × (Option Nat) × Int32 × Int32 × Int32) → Hp → Option (((Nat × Int32) ⊕ Int64) × Hp) := loopF (fun v => s_X5_value_b10 (v.1) (v.2.1) (v.2.2.1) (v.2.2.2.1) (v.2.2.2.2))
set_option maxRecDepth 100000 in
theorem w_X5_value_b10 {E : E0} (hE : EOK E) {X : X0} (C : XOK E X cX5_value RX5 9 (some .long) rm_X5_value) (hxn : xn X = (rm_X5_value.cells, rm_X5_value.slots)) {KE : ((Nat × Int32) ⊕ Int64) → Hp → Prop} (e_291 : ∀ (h0 : Nat) (l4 : Int32) (σ : Hp), KE (Sum.inl (h0, l4)) σ → G E X 0 0 291 [(0, tR (some (h0))), (4, tI (l4))] [] σ) (e_ret : ∀ (r : Int64) (σ : Hp), KE (Sum.inr r) σ → xd X = (some (tJ r), σ)) (h0 : Nat) (l1 : Option Nat) (l3 : Int32) (l4 : Int32) (l5 : Int32) (σ : Hp) (x : (Nat × (Option Nat) × Int32 × Int32 × Int32) ⊕ ((Nat × Int32) ⊕ Int64)) (σ1 : Hp) (h : s_X5_value_b10 h0 l1 l3 l4 l5 σ = some (x, σ1)) (hI : ∀ v, x = Sum.inl v → (fun (v : Nat × (Option Nat) × Int32 × Int32 × Int32) (σ : Hp) => G E X 0 0 10 [(0, tR (some ((v.1)))), (1, tR ((v.2.1))), (3, tI ((v.2.2.1))), (4, tI ((v.2.2.2.1))), (5, tI ((v.2.2.2.2)))] [] σ) v σ1) (hO : ∀ e, x = Sum.inr e → KE e σ1) : G E X 0 0 10 [(0, tR (some (h0))), (1, tR (l1)), (3, tI (l3)), (4, tI (l4)), (5, tI (l5))] [] σ := by
  unfold s_X5_value_b10 at h
  refine g_iload (pc := 10) C 4 dX5_value_10 rfl ?_
  refine g_iload_n (pc := 12) C 3 2 dX5_value_12 rfl rfl ?_
  refine g_icmp_ge (pc := 13) C 291 dX5_value_13 (by decide) (fun c30 => ?_) (fun c30 => ?_)
  · have h := zif_t c30 h
    refine g_sub [0, 3] (lm' := [(0, tR (some (h0))), (4, tI (l4))]) rfl ?_
    obtain ⟨rfl, rfl⟩ := zsome h
    exact e_291 _ _ _ (hO _ rfl)
  · have h := zif_f c30 h
    refine g_iload (pc := 16) C 4 dX5_value_16 rfl ?_
    refine g_aload_n (pc := 18) C 1 1 dX5_value_18 rfl rfl ?_
    obtain ⟨a1, hqa1, h9⟩ := zbind h
    clear h
    subst hqa1
    have h := h9
    clear h9
    obtain ⟨v2, hvv2, h⟩ := zbind h
    refine g_alen (c := 11) (pc := 19) C (by decide) hvv2 dX5_value_19 ?_
    refine g_icmp_ge (pc := 20) C 291 dX5_value_20 (by decide) (fun c29 => ?_) (fun c29 => ?_)
    · have h := zif_t c29 h
      refine g_sub [0, 3] (lm' := [(0, tR (some (h0))), (4, tI (l4))]) rfl ?_
      obtain ⟨rfl, rfl⟩ := zsome h
      exact e_291 _ _ _ (hO _ rfl)
    · have h := zif_f c29 h
      refine g_aload_n (pc := 23) C 1 1 dX5_value_23 rfl rfl ?_
      refine g_iload (pc := 24) C 4 dX5_value_24 rfl ?_
      obtain ⟨v3, hvv3, h⟩ := zbind h
      refine g_iald (pc := 26) C hvv3 dX5_value_26 ?_
      refine g_bipush (v := 15) (pc := 27) C dX5_value_27 (by decide) ?_
      refine g_iand (pc := 29) C dX5_value_29 ?_
      refine g_istore (lm' := [(6, tI (v3 &&& 15)), (0, tR (some (h0))), (1, tR (some (a1))), (3, tI (l3)), (4, tI (l4)), (5, tI (l5))]) (pc := 30) C dX5_value_30 (by decide) rfl ?_
      refine g_aload_n (pc := 32) C 1 2 dX5_value_32 rfl rfl ?_
      refine g_iload (pc := 33) C 5 dX5_value_33 rfl ?_
      obtain ⟨v4, hvv4, h⟩ := zbind h
      refine g_iald (pc := 35) C hvv4 dX5_value_35 ?_
      refine g_iconst (v := 4) (pc := 36) C dX5_value_36 (by decide) ?_
      refine g_ishr (pc := 37) C dX5_value_37 ?_
      refine g_istore (lm' := [(7, tI (v4 >>> (4 &&& 31))), (6, tI (v3 &&& 15)), (0, tR (some (h0))), (1, tR (some (a1))), (3, tI (l3)), (4, tI (l4)), (5, tI (l5))]) (pc := 38) C dX5_value_38 (by decide) rfl ?_
      refine g_iload (pc := 40) C 1 dX5_value_40 rfl ?_
      refine g_if_eq (pc := 42) C 51 dX5_value_42 (by decide) (fun c28 => ?_) (fun c28 => ?_)
      · have h := zif_t c28 h
        refine g_sub [2, 3, 4, 5, 6, 1, 0] (lm' := [(0, tR (some (h0))), (1, tR (some (a1))), (3, tI (l3)), (4, tI (l4)), (5, tI (l5)), (6, tI (v3 &&& 15)), (7, tI (v4 >>> (4 &&& 31)))]) rfl ?_
        exact w_X5_value_j51 hE C hxn e_291 e_ret _ _ _ _ _ _ _ _ _ _ h hI hO
      · have h := zif_f c28 h
        refine g_iload (pc := 45) C 1 dX5_value_45 rfl ?_
        refine g_iconst (v := 1) (pc := 47) C dX5_value_47 (by decide) ?_
        refine g_icmp_ne (pc := 48) C 118 dX5_value_48 (by decide) (fun c27 => ?_) (fun c27 => ?_)
        · have h := zif_f c27 h
          refine g_iload (pc := 118) C 1 dX5_value_118 rfl ?_
          refine g_bipush (v := 10) (pc := 120) C dX5_value_120 (by decide) ?_
          refine g_icmp_lt (pc := 122) C 222 dX5_value_122 (by decide) (fun c26 => ?_) (fun c26 => ?_)
          · have h := zif_t c26 h
            refine g_iload (pc := 222) C 5 dX5_value_222 rfl ?_
            refine g_iconst (v := 2) (pc := 224) C dX5_value_224 (by decide) ?_
            refine g_icmp_ge (pc := 225) C 232 dX5_value_225 (by decide) (fun c20 => ?_) (fun c20 => ?_)
            · have h := zif_t c20 h
              refine g_iinc (lm' := [(4, tI (l4 + (-1))), (7, tI (v4 >>> (4 &&& 31))), (6, tI (v3 &&& 15)), (0, tR (some (h0))), (1, tR (some (a1))), (3, tI (l3)), (5, tI (l5))]) (v := l4 + (-1)) (pc := 232) C 5 dX5_value_232 rfl rfl (by decide) rfl ?_
              refine g_aload_n (pc := 235) C 0 3 dX5_value_235 rfl rfl ?_
              obtain ⟨r5, hvr5, h⟩ := zbind h
              refine g_getR (N := 2) (pc := 236) C ck_5 hvr5 rfl rfl fl_X5_15 dX5_value_236 ?_
              refine g_iload (pc := 239) C 0 dX5_value_239 rfl ?_
              refine g_iconst (v := 1) (pc := 241) C dX5_value_241 (by decide) ?_
              refine g_isub (pc := 242) C dX5_value_242 ?_
              refine g_iload (pc := 243) C 2 dX5_value_243 rfl ?_
              refine g_aload_n (pc := 245) C 0 3 dX5_value_245 rfl rfl ?_
              obtain ⟨r6, hvr6, h⟩ := zbind h
              refine g_getR (N := 2) (pc := 246) C ck_5 hvr6 rfl rfl fl_X5_15 dX5_value_246 ?_
              refine g_iload (pc := 249) C 0 dX5_value_249 rfl ?_
              refine g_iconst (v := 1) (pc := 251) C dX5_value_251 (by decide) ?_
              refine g_isub (pc := 252) C dX5_value_252 ?_
              obtain ⟨a7, hqa7, h9⟩ := zbind h
              clear h
              subst hqa7
              have h := h9
              clear h9
              obtain ⟨v8, hvv8, h⟩ := zbind h
              refine g_lald (pc := 253) C hvv8 dX5_value_253 ?_
              refine g_aload_n (pc := 254) C 0 3 dX5_value_254 rfl rfl ?_
              obtain ⟨r9, hvr9, h⟩ := zbind h
              refine g_getR (N := 2) (pc := 255) C ck_5 hvr9 rfl rfl fl_X5_15 dX5_value_255 ?_
              refine g_iload (pc := 258) C 0 dX5_value_258 rfl ?_
              obtain ⟨a10, hqa10, h9⟩ := zbind h
              clear h
              subst hqa10
              have h := h9
              clear h9
              obtain ⟨v11, hvv11, h⟩ := zbind h
              refine g_lald (pc := 260) C hvv11 dX5_value_260 ?_
              obtain ⟨v13, σ12, hvσ12, h⟩ := zcb h
              refine g_callS (pc := 261) (av := [tI (v3 &&& 15), tJ (v8), tJ (v11)]) C (c_X5_joined hE hvσ12) ys_X5_joined ml_X5_33 rfl (rf_of (by decide)) rfl (Nat.le_of_ble_eq_true rfl) dX5_value_261 ?_
              obtain ⟨a14, hqa14, h9⟩ := zbind h
              clear h
              subst hqa14
              have h := h9
              clear h9
              obtain ⟨σ15, hvσ15, h⟩ := zbind h
              refine g_last (pc := 264) C hvσ15 dX5_value_264 ?_
              refine g_aload_n (pc := 265) C 0 3 dX5_value_265 rfl rfl ?_
              obtain ⟨r16, hvr16, h⟩ := zbind h
              refine g_getR (N := 2) (pc := 266) C ck_5 hvr16 rfl rfl fl_X5_15 dX5_value_266 ?_
              refine g_iload (pc := 269) C 0 dX5_value_269 rfl ?_
              refine g_iconst (v := 1) (pc := 271) C dX5_value_271 (by decide) ?_
              refine g_isub (pc := 272) C dX5_value_272 ?_
              obtain ⟨a17, hqa17, h9⟩ := zbind h
              clear h
              subst hqa17
              have h := h9
              clear h9
              obtain ⟨v18, hvv18, h⟩ := zbind h
              refine g_lald (pc := 273) C hvv18 dX5_value_273 ?_
              refine g_ldc2 (v := 9000000000) (pc := 274) C dX5_value_274 kl_X5_31 ?_
              refine g_lcmp (pc := 277) C dX5_value_277 ?_
              refine g_if_ne (pc := 278) C 285 dX5_value_278 (by decide) (fun c19 => ?_) (fun c19 => ?_)
              · have h := zif_f c19 h
                refine g_sub [3, 4, 5, 0, 6] (lm' := [(0, tR (some (h0))), (1, tR (some (a1))), (3, tI (l3)), (4, tI (l4 + (-1))), (5, tI (l5))]) rfl ?_
                exact w_X5_value_j285 hE C hxn e_291 e_ret _ _ _ _ _ _ _ _ h hI hO
              · have h := zif_t c19 h
                refine g_ldc2 (v := 9000000000) (pc := 281) C dX5_value_281 kl_X5_31 ?_
                obtain ⟨rfl, rfl⟩ := zsome h
                exact g_lret (pc := 284) C rfl (e_ret _ _ (hO _ rfl)) (by rw [hxn]; rfl) (by rw [hxn]; rfl) dX5_value_284
            · have h := zif_f c20 h
              refine g_ldc2 (v := 9000000000) (pc := 228) C dX5_value_228 kl_X5_31 ?_
              obtain ⟨rfl, rfl⟩ := zsome h
              exact g_lret (pc := 231) C rfl (e_ret _ _ (hO _ rfl)) (by rw [hxn]; rfl) (by rw [hxn]; rfl) dX5_value_231
          · have h := zif_f c26 h
            refine g_iload (pc := 125) C 5 dX5_value_125 rfl ?_
            refine g_iconst (v := 1) (pc := 127) C dX5_value_127 (by decide) ?_
            refine g_icmp_ge (pc := 128) C 135 dX5_value_128 (by decide) (fun c25 => ?_) (fun c25 => ?_)
            · have h := zif_t c25 h
              refine g_aload_n (pc := 135) C 0 2 dX5_value_135 rfl rfl ?_
              obtain ⟨r21, hvr21, h⟩ := zbind h
              refine g_getR (N := 2) (pc := 136) C ck_5 hvr21 rfl rfl fl_X5_15 dX5_value_136 ?_
              refine g_iload (pc := 139) C 5 dX5_value_139 rfl ?_
              refine g_iconst (v := 1) (pc := 141) C dX5_value_141 (by decide) ?_
              refine g_isub (pc := 142) C dX5_value_142 ?_
              obtain ⟨a22, hqa22, h9⟩ := zbind h
              clear h
              subst hqa22
              have h := h9
              clear h9
              obtain ⟨v23, hvv23, h⟩ := zbind h
              refine g_lald (pc := 143) C hvv23 dX5_value_143 ?_
              refine g_lconst (v := 1) (pc := 144) C dX5_value_144 (by decide) ?_
              refine g_lcmp (pc := 145) C dX5_value_145 ?_
              refine g_if_ne (pc := 146) C 153 dX5_value_146 (by decide) (fun c24 => ?_) (fun c24 => ?_)
              · have h := zif_f c24 h
                refine g_iconst (v := 0) (pc := 153) C dX5_value_153 (by decide) ?_
                refine g_sub [2, 3, 4, 5, 6, 1, 0] (lm' := [(0, tR (some (h0))), (1, tR (some (a1))), (3, tI (l3)), (4, tI (l4)), (5, tI (l5)), (6, tI (v3 &&& 15)), (7, tI (v4 >>> (4 &&& 31)))]) rfl ?_
                exact w_X5_value_j154 hE C hxn e_291 e_ret _ _ _ _ _ _ _ _ _ _ _ h hI hO
              · have h := zif_t c24 h
                refine g_iconst (v := 1) (pc := 149) C dX5_value_149 (by decide) ?_
                refine g_goto (pc := 150) C 154 dX5_value_150 (by decide) ?_
                refine g_sub [2, 3, 4, 5, 6, 1, 0] (lm' := [(0, tR (some (h0))), (1, tR (some (a1))), (3, tI (l3)), (4, tI (l4)), (5, tI (l5)), (6, tI (v3 &&& 15)), (7, tI (v4 >>> (4 &&& 31)))]) rfl ?_
                exact w_X5_value_j154 hE C hxn e_291 e_ret _ _ _ _ _ _ _ _ _ _ _ h hI hO
            · have h := zif_f c25 h
              refine g_ldc2 (v := 9000000000) (pc := 131) C dX5_value_131 kl_X5_31 ?_
              obtain ⟨rfl, rfl⟩ := zsome h
              exact g_lret (pc := 134) C rfl (e_ret _ _ (hO _ rfl)) (by rw [hxn]; rfl) (by rw [hxn]; rfl) dX5_value_134
        · have h := zif_t c27 h
          refine g_sub [2, 3, 4, 5, 6, 1, 0] (lm' := [(0, tR (some (h0))), (1, tR (some (a1))), (3, tI (l3)), (4, tI (l4)), (5, tI (l5)), (6, tI (v3 &&& 15)), (7, tI (v4 >>> (4 &&& 31)))]) rfl ?_
          exact w_X5_value_j51 hE C hxn e_291 e_ret _ _ _ _ _ _ _ _ _ _ h hI hO
theorem w_X5_value_l10 {E : E0} (hE : EOK E) {X : X0} (C : XOK E X cX5_value RX5 9 (some .long) rm_X5_value) (hxn : xn X = (rm_X5_value.cells, rm_X5_value.slots)) {KE : ((Nat × Int32) ⊕ Int64) → Hp → Prop} (e_291 : ∀ (h0 : Nat) (l4 : Int32) (σ : Hp), KE (Sum.inl (h0, l4)) σ → G E X 0 0 291 [(0, tR (some (h0))), (4, tI (l4))] [] σ) (e_ret : ∀ (r : Int64) (σ : Hp), KE (Sum.inr r) σ → xd X = (some (tJ r), σ)) {v : Nat × (Option Nat) × Int32 × Int32 × Int32} {σ : Hp} {e : (Nat × Int32) ⊕ Int64} {σ1 : Hp} (h : s_X5_value_l10 v σ = some (e, σ1)) (hO : KE e σ1) : G E X 0 0 10 [(0, tR (some ((v.1)))), (1, tR ((v.2.1))), (3, tI ((v.2.2.1))), (4, tI ((v.2.2.2.1))), (5, tI ((v.2.2.2.2)))] [] σ := loopF_ind (P := fun (v : Nat × (Option Nat) × Int32 × Int32 × Int32) (σ : Hp) => G E X 0 0 10 [(0, tR (some ((v.1)))), (1, tR ((v.2.1))), (3, tI ((v.2.2.1))), (4, tI ((v.2.2.2.1))), (5, tI ((v.2.2.2.2)))] [] σ) (KE := KE) (fun v σ x σ1 h hI hO => w_X5_value_b10 hE C hxn e_291 e_ret (v.1) (v.2.1) (v.2.2.1) (v.2.2.2.1) (v.2.2.2.2) σ x σ1 h hI hO) v σ e σ1 h hO
noncomputable def s_X5_value_j291 (h0 : Nat) (l4 : Int32) (σ : Hp) : Option (Int64 × Hp) :=
  if l4 = 1 then
    (rdR 5 σ h0 1).bind fun r1 =>
    (r1).bind fun a2 =>
    (ldJ σ a2 (0)).bind fun v3 =>
    some ((v3), σ)
  else
    some ((9000000000), σ)
set_option maxRecDepth 100000 in
theorem w_X5_value_j291 {E : E0} (hE : EOK E) {X : X0} (C : XOK E X cX5_value RX5 9 (some .long) rm_X5_value) (hxn : xn X = (rm_X5_value.cells, rm_X5_value.slots)) (h0 : Nat) (l4 : Int32) (σ : Hp) (r : Int64) (σ1 : Hp) (h : s_X5_value_j291 h0 l4 σ = some (r, σ1)) (hx : xd X = (some (tJ r), σ1)) : G E X 0 0 291 [(0, tR (some (h0))), (4, tI (l4))] [] σ := by
  unfold s_X5_value_j291 at h
  refine g_iload (pc := 291) C 1 dX5_value_291 rfl ?_
  refine g_iconst (v := 1) (pc := 293) C dX5_value_293 (by decide) ?_
  refine g_icmp_ne (pc := 294) C 306 dX5_value_294 (by decide) (fun c4 => ?_) (fun c4 => ?_)
  · have h := zif_f c4 h
    refine g_ldc2 (v := 9000000000) (pc := 306) C dX5_value_306 kl_X5_31 ?_
    obtain ⟨rfl, rfl⟩ := zsome h
    exact g_lret (pc := 309) C rfl hx (by rw [hxn]; rfl) (by rw [hxn]; rfl) dX5_value_309
  · have h := zif_t c4 h
    refine g_aload_n (pc := 297) C 0 0 dX5_value_297 rfl rfl ?_
    obtain ⟨r1, hvr1, h⟩ := zbind h
    refine g_getR (N := 2) (pc := 298) C ck_5 hvr1 rfl rfl fl_X5_15 dX5_value_298 ?_
    refine g_iconst (v := 0) (pc := 301) C dX5_value_301 (by decide) ?_
    obtain ⟨a2, hqa2, h9⟩ := zbind h
    clear h
    subst hqa2
    have h := h9
    clear h9
    obtain ⟨v3, hvv3, h⟩ := zbind h
    refine g_lald (pc := 302) C hvv3 dX5_value_302 ?_
    refine g_goto (pc := 303) C 309 dX5_value_303 (by decide) ?_
    obtain ⟨rfl, rfl⟩ := zsome h
    exact g_lret (pc := 309) C rfl hx (by rw [hxn]; rfl) (by rw [hxn]; rfl) dX5_value_309
noncomputable def s_X5_value (h0 : Nat) (p1 : Option Nat) (p2 : Int32) (p3 : Int32) (σ : Hp) : Option (Int64 × Hp) :=
  cb (s_X5_value_l10 ((h0), (p1), (p3), (0), (if p2 < 0 then 0 else p2)) σ) fun e7 σ6 =>
  match e7 with
  | Sum.inl (h1, l42) =>
    s_X5_value_j291 (h1) (l42) σ6
  | Sum.inr r5 =>
    some (r5, σ6)
set_option maxRecDepth 100000 in
theorem c_X5_value {E : E0} (hE : EOK E) {h0 : Nat} {p1 : Option Nat} {p2 : Int32} {p3 : Int32} {σ σ1 : Hp} {r : Int64} (h : s_X5_value h0 p1 p2 p3 σ = some (r, σ1)) : CT E yX5_value (.code yX5_value cX5_value 9 (some .long)) rm_X5_value [tR (some (h0)), tR (p1), tI (p2), tI (p3)] σ (some (tJ r)) σ1 := by
  refine CT.mk hE (by decide +kernel) (Nat.le_of_ble_eq_true rfl) [(0, tR (some (h0))), (1, tR (p1)), (2, tI (p2)), (3, tI (p3))] rfl (fun X C hin hx hxn => ?_)
  have C : XOK E X cX5_value RX5 9 (some .long) rm_X5_value := C
  unfold s_X5_value at h
  refine g_iconst (v := 0) (pc := 0) C dX5_value_0 (by decide) ?_
  refine g_istore (lm' := [(4, tI (0)), (0, tR (some (h0))), (1, tR (p1)), (2, tI (p2)), (3, tI (p3))]) (pc := 1) C dX5_value_1 (by decide) rfl ?_
  refine g_iload_n (pc := 3) C 2 3 dX5_value_3 rfl rfl ?_
  refine g_iconst (v := 0) (pc := 4) C dX5_value_4 (by decide) ?_
  refine g_mmax (pc := 5) C ml_X5_25 ⟨Nat.le_of_ble_eq_true rfl, Nat.le_of_ble_eq_true rfl⟩ ⟨Nat.le_of_ble_eq_true rfl, Nat.le_of_ble_eq_true rfl⟩ dX5_value_5 ?_
  refine g_istore (lm' := [(5, tI (if p2 < 0 then 0 else p2)), (4, tI (0)), (0, tR (some (h0))), (1, tR (p1)), (2, tI (p2)), (3, tI (p3))]) (pc := 8) C dX5_value_8 (by decide) rfl ?_
  refine g_sub [2, 3, 5, 1, 0] (lm' := [(0, tR (some (h0))), (1, tR (p1)), (3, tI (p3)), (4, tI (0)), (5, tI (if p2 < 0 then 0 else p2))]) rfl ?_
  obtain ⟨KQ, hKQ, e7, σ6, hle7, h⟩ := zcbK h
  refine w_X5_value_l10 (KE := KQ) hE C hxn ?_ ?_ hle7 h
  · intro h1 l42 σ3 h
    have h := (hKQ _ _).mp h
    exact w_X5_value_j291 hE C hxn _ _ _ _ _ h hx
  · intro r5 σ4 h
    have h := (hKQ _ _).mp h
    obtain ⟨rfl, rfl⟩ := zsome h
    exact hx
def rm_X7_told : Room := { frames := 2, cells := 0, slots := 0, locals := 54 }
noncomputable def s_X7_told_j108 (h0 : Nat) (l1 : Int32) (l2 : Option Nat) (l3 : Int32) (σ : Hp) : Option (((Nat × Int32 × (Option Nat) × Int32) ⊕ (Int64)) × Hp) :=
  some (Sum.inl ((h0), (l1), (l2), (l3 + (-1))), σ)
set_option maxRecDepth 100000 in
theorem w_X7_told_j108 {E : E0} (hE : EOK E) {X : X0} (C : XOK E X cX7_told RX7 8 (some .long) rm_X7_told) (hxn : xn X = (rm_X7_told.cells, rm_X7_told.slots)) {KE : (Int64) → Hp → Prop} (e_ret : ∀ (r : Int64) (σ : Hp), KE (r) σ → xd X = (some (tJ r), σ)) (h0 : Nat) (l1 : Int32) (l2 : Option Nat) (l3 : Int32) (σ : Hp) (x : (Nat × Int32 × (Option Nat) × Int32) ⊕ (Int64)) (σ1 : Hp) (h : s_X7_told_j108 h0 l1 l2 l3 σ = some (x, σ1)) (hI : ∀ v, x = Sum.inl v → (fun (v : Nat × Int32 × (Option Nat) × Int32) (σ : Hp) => G E X 0 0 7 [(0, tR (some ((v.1)))), (1, tI ((v.2.1))), (2, tR ((v.2.2.1))), (3, tI ((v.2.2.2)))] [] σ) v σ1) (hO : ∀ e, x = Sum.inr e → KE e σ1) : G E X 0 0 108 [(0, tR (some (h0))), (1, tI (l1)), (2, tR (l2)), (3, tI (l3))] [] σ := by
  unfold s_X7_told_j108 at h
  refine g_iinc (lm' := [(3, tI (l3 + (-1))), (0, tR (some (h0))), (1, tI (l1)), (2, tR (l2))]) (v := l3 + (-1)) (pc := 108) C 3 dX7_told_108 rfl rfl (by decide) rfl ?_
  refine g_goto (pc := 111) C 7 dX7_told_111 (by decide) ?_
  refine g_sub [1, 2, 3, 0] (lm' := [(0, tR (some (h0))), (1, tI (l1)), (2, tR (l2)), (3, tI (l3 + (-1)))]) rfl ?_
  obtain ⟨rfl, rfl⟩ := zsome h
  exact hI _ rfl
noncomputable def s_X7_told_j94 (h0 : Nat) (l1 : Int32) (l2 : Option Nat) (l3 : Int32) (t0 : Int64) (σ : Hp) : Option (((Nat × Int32 × (Option Nat) × Int32) ⊕ (Int64)) × Hp) :=
  if (lg_cmp (t0 : Int64) (9000000000 : Int64)) = 0 then
    s_X7_told_j108 (h0) (l1) (l2) (l3) σ
  else
    some (Sum.inr (t0), σ)
set_option maxRecDepth 100000 in
theorem w_X7_told_j94 {E : E0} (hE : EOK E) {X : X0} (C : XOK E X cX7_told RX7 8 (some .long) rm_X7_told) (hxn : xn X = (rm_X7_told.cells, rm_X7_told.slots)) {KE : (Int64) → Hp → Prop} (e_ret : ∀ (r : Int64) (σ : Hp), KE (r) σ → xd X = (some (tJ r), σ)) (h0 : Nat) (l1 : Int32) (l2 : Option Nat) (l3 : Int32) (t0 : Int64) (σ : Hp) (x : (Nat × Int32 × (Option Nat) × Int32) ⊕ (Int64)) (σ1 : Hp) (h : s_X7_told_j94 h0 l1 l2 l3 t0 σ = some (x, σ1)) (hI : ∀ v, x = Sum.inl v → (fun (v : Nat × Int32 × (Option Nat) × Int32) (σ : Hp) => G E X 0 0 7 [(0, tR (some ((v.1)))), (1, tI ((v.2.1))), (2, tR ((v.2.2.1))), (3, tI ((v.2.2.2)))] [] σ) v σ1) (hO : ∀ e, x = Sum.inr e → KE e σ1) : G E X 0 0 94 [(0, tR (some (h0))), (1, tI (l1)), (2, tR (l2)), (3, tI (l3))] [tJ (t0)] σ := by
  unfold s_X7_told_j94 at h
  refine g_lstore (lm' := [(6, tJ (t0)), (0, tR (some (h0))), (1, tI (l1)), (2, tR (l2)), (3, tI (l3))]) (pc := 94) C dX7_told_94 (by decide) rfl ?_
  refine g_lload (pc := 96) C 0 dX7_told_96 rfl ?_
  refine g_ldc2 (v := 9000000000) (pc := 98) C dX7_told_98 kl_X7_32 ?_
  refine g_lcmp (pc := 101) C dX7_told_101 ?_
  refine g_if_eq (pc := 102) C 108 dX7_told_102 (by decide) (fun c1 => ?_) (fun c1 => ?_)
  · have h := zif_t c1 h
    refine g_sub [1, 2, 3, 4] (lm' := [(0, tR (some (h0))), (1, tI (l1)), (2, tR (l2)), (3, tI (l3))]) rfl ?_
    exact w_X7_told_j108 hE C hxn e_ret _ _ _ _ _ _ _ h hI hO
  · have h := zif_f c1 h
    refine g_lload (pc := 105) C 0 dX7_told_105 rfl ?_
    obtain ⟨rfl, rfl⟩ := zsome h
    exact g_lret (pc := 107) C rfl (e_ret _ _ (hO _ rfl)) (by rw [hxn]; rfl) (by rw [hxn]; rfl) dX7_told_107
noncomputable def s_X7_told_j67 (h0 : Nat) (l1 : Int32) (l2 : Option Nat) (l3 : Int32) (l4 : Int32) (σ : Hp) : Option (((Nat × Int32 × (Option Nat) × Int32) ⊕ (Int64)) × Hp) :=
  if l1 = 302 then
    s_X7_told_j94 (h0) (l1) (l2) (l3) (1) σ
  else
    (rdR 7 σ h0 0).bind fun r1 =>
    (ck 7 σ h0).bind fun u2 =>
    cb (s_X7_field h0 (l3) (1) σ) fun v4 σ3 =>
    (l2).bind fun a5 =>
    (ck 5 σ3 a5).bind fun u6 =>
    cb (s_X5_value a5 (r1) (v4) (l4) σ3) fun v8 σ7 =>
    s_X7_told_j94 (h0) (l1) (some (a5)) (l3) (v8) σ7
set_option maxRecDepth 100000 in
theorem w_X7_told_j67 {E : E0} (hE : EOK E) {X : X0} (C : XOK E X cX7_told RX7 8 (some .long) rm_X7_told) (hxn : xn X = (rm_X7_told.cells, rm_X7_told.slots)) {KE : (Int64) → Hp → Prop} (e_ret : ∀ (r : Int64) (σ : Hp), KE (r) σ → xd X = (some (tJ r), σ)) (h0 : Nat) (l1 : Int32) (l2 : Option Nat) (l3 : Int32) (l4 : Int32) (σ : Hp) (x : (Nat × Int32 × (Option Nat) × Int32) ⊕ (Int64)) (σ1 : Hp) (h : s_X7_told_j67 h0 l1 l2 l3 l4 σ = some (x, σ1)) (hI : ∀ v, x = Sum.inl v → (fun (v : Nat × Int32 × (Option Nat) × Int32) (σ : Hp) => G E X 0 0 7 [(0, tR (some ((v.1)))), (1, tI ((v.2.1))), (2, tR ((v.2.2.1))), (3, tI ((v.2.2.2)))] [] σ) v σ1) (hO : ∀ e, x = Sum.inr e → KE e σ1) : G E X 0 0 67 [(0, tR (some (h0))), (1, tI (l1)), (2, tR (l2)), (3, tI (l3)), (4, tI (l4))] [] σ := by
  unfold s_X7_told_j67 at h
  refine g_iload_n (pc := 67) C 1 1 dX7_told_67 rfl rfl ?_
  refine g_sipush (v := 302) (pc := 68) C dX7_told_68 (by decide) ?_
  refine g_icmp_ne (pc := 71) C 78 dX7_told_71 (by decide) (fun c9 => ?_) (fun c9 => ?_)
  · have h := zif_f c9 h
    refine g_aload_n (pc := 78) C 2 2 dX7_told_78 rfl rfl ?_
    refine g_aload_n (pc := 79) C 0 0 dX7_told_79 rfl rfl ?_
    obtain ⟨r1, hvr1, h⟩ := zbind h
    refine g_getR (N := 3) (pc := 80) C ck_7 hvr1 rfl rfl fl_X7_9 dX7_told_80 ?_
    refine g_aload_n (pc := 83) C 0 0 dX7_told_83 rfl rfl ?_
    refine g_iload_n (pc := 84) C 3 3 dX7_told_84 rfl rfl ?_
    refine g_iconst (v := 1) (pc := 85) C dX7_told_85 (by decide) ?_
    obtain ⟨u2, hvu2, h⟩ := zbind h
    obtain ⟨v4, σ3, hvσ3, h⟩ := zcb h
    refine g_callV (pc := 86) (av := [tI (l3), tI (1)]) C (c_X7_field hE hvσ3) yv_X7_field ml_X7_22 ck_7 (zopt hvu2).1 rfl (rf_of (by decide)) rfl (Nat.le_of_ble_eq_true rfl) dX7_told_86 ?_
    refine g_iload (pc := 89) C 4 dX7_told_89 rfl ?_
    obtain ⟨a5, hqa5, h9⟩ := zbind h
    clear h
    subst hqa5
    have h := h9
    clear h9
    obtain ⟨u6, hvu6, h⟩ := zbind h
    obtain ⟨v8, σ7, hvσ7, h⟩ := zcb h
    refine g_callV (pc := 91) (av := [tR (r1), tI (v4), tI (l4)]) C (c_X5_value hE hvσ7) yv_X5_value ml_X7_26 ck_5 (zopt hvu6).1 rfl (rf_of (by decide)) rfl (Nat.le_of_ble_eq_true rfl) dX7_told_91 ?_
    refine g_sub [0, 1, 2, 3] (lm' := [(0, tR (some (h0))), (1, tI (l1)), (2, tR (some (a5))), (3, tI (l3))]) rfl ?_
    exact w_X7_told_j94 hE C hxn e_ret _ _ _ _ _ _ _ _ h hI hO
  · have h := zif_t c9 h
    refine g_lconst (v := 1) (pc := 74) C dX7_told_74 (by decide) ?_
    refine g_goto (pc := 75) C 94 dX7_told_75 (by decide) ?_
    refine g_sub [0, 1, 2, 3] (lm' := [(0, tR (some (h0))), (1, tI (l1)), (2, tR (l2)), (3, tI (l3))]) rfl ?_
    exact w_X7_told_j94 hE C hxn e_ret _ _ _ _ _ _ _ _ h hI hO
noncomputable def s_X7_told_b7 (h0 : Nat) (l1 : Int32) (l2 : Option Nat) (l3 : Int32) (σ : Hp) : Option (((Nat × Int32 × (Option Nat) × Int32) ⊕ (Int64)) × Hp) :=
  if l3 < 0 then
    some (Sum.inr (9000000000), σ)
  else
    (ck 7 σ h0).bind fun u1 =>
    cb (s_X7_field h0 (l3) (0) σ) fun v3 σ2 =>
    if v3 = l1 then
      (ck 7 σ2 h0).bind fun u4 =>
      cb (s_X7_field h0 (l3) (3) σ2) fun v6 σ5 =>
      (ck 7 σ5 h0).bind fun u7 =>
      cb (s_X7_field h0 (l3) (4) σ5) fun v9 σ8 =>
      if v9 ≤ v6 then
        s_X7_told_j67 (h0) (l1) (l2) (l3) (v6) σ8
      else
        (rdR 7 σ8 h0 0).bind fun r10 =>
        (l2).bind fun a11 =>
        (ck 5 σ8 a11).bind fun u12 =>
        cb (s_X5_value a11 (r10) (v6) (v9) σ8) fun v14 σ13 =>
        if (lg_cmp (v14 : Int64) (1 : Int64)) = 0 then
          s_X7_told_j67 (h0) (l1) (some (a11)) (l3) (v6) σ13
        else
          s_X7_told_j108 (h0) (l1) (some (a11)) (l3) σ13
    else
      s_X7_told_j108 (h0) (l1) (l2) (l3) σ2
noncomputable def s_X7_told_l7 : (Nat × Int32 × (Option Nat) × Int32) → Hp → Option ((Int64) × Hp) := loopF (fun v => s_X7_told_b7 (v.1) (v.2.1) (v.2.2.1) (v.2.2.2))
set_option maxRecDepth 100000 in
theorem w_X7_told_b7 {E : E0} (hE : EOK E) {X : X0} (C : XOK E X cX7_told RX7 8 (some .long) rm_X7_told) (hxn : xn X = (rm_X7_told.cells, rm_X7_told.slots)) {KE : (Int64) → Hp → Prop} (e_ret : ∀ (r : Int64) (σ : Hp), KE (r) σ → xd X = (some (tJ r), σ)) (h0 : Nat) (l1 : Int32) (l2 : Option Nat) (l3 : Int32) (σ : Hp) (x : (Nat × Int32 × (Option Nat) × Int32) ⊕ (Int64)) (σ1 : Hp) (h : s_X7_told_b7 h0 l1 l2 l3 σ = some (x, σ1)) (hI : ∀ v, x = Sum.inl v → (fun (v : Nat × Int32 × (Option Nat) × Int32) (σ : Hp) => G E X 0 0 7 [(0, tR (some ((v.1)))), (1, tI ((v.2.1))), (2, tR ((v.2.2.1))), (3, tI ((v.2.2.2)))] [] σ) v σ1) (hO : ∀ e, x = Sum.inr e → KE e σ1) : G E X 0 0 7 [(0, tR (some (h0))), (1, tI (l1)), (2, tR (l2)), (3, tI (l3))] [] σ := by
  unfold s_X7_told_b7 at h
  refine g_iload_n (pc := 7) C 3 3 dX7_told_7 rfl rfl ?_
  refine g_if_lt (pc := 8) C 114 dX7_told_8 (by decide) (fun c18 => ?_) (fun c18 => ?_)
  · have h := zif_t c18 h
    refine g_ldc2 (v := 9000000000) (pc := 114) C dX7_told_114 kl_X7_32 ?_
    obtain ⟨rfl, rfl⟩ := zsome h
    exact g_lret (pc := 117) C rfl (e_ret _ _ (hO _ rfl)) (by rw [hxn]; rfl) (by rw [hxn]; rfl) dX7_told_117
  · have h := zif_f c18 h
    refine g_aload_n (pc := 11) C 0 0 dX7_told_11 rfl rfl ?_
    refine g_iload_n (pc := 12) C 3 3 dX7_told_12 rfl rfl ?_
    refine g_iconst (v := 0) (pc := 13) C dX7_told_13 (by decide) ?_
    obtain ⟨u1, hvu1, h⟩ := zbind h
    obtain ⟨v3, σ2, hvσ2, h⟩ := zcb h
    refine g_callV (pc := 14) (av := [tI (l3), tI (0)]) C (c_X7_field hE hvσ2) yv_X7_field ml_X7_22 ck_7 (zopt hvu1).1 rfl (rf_of (by decide)) rfl (Nat.le_of_ble_eq_true rfl) dX7_told_14 ?_
    refine g_iload_n (pc := 17) C 1 1 dX7_told_17 rfl rfl ?_
    refine g_icmp_eq (pc := 18) C 24 dX7_told_18 (by decide) (fun c17 => ?_) (fun c17 => ?_)
    · have h := zif_t c17 h
      refine g_aload_n (pc := 24) C 0 0 dX7_told_24 rfl rfl ?_
      refine g_iload_n (pc := 25) C 3 3 dX7_told_25 rfl rfl ?_
      refine g_iconst (v := 3) (pc := 26) C dX7_told_26 (by decide) ?_
      obtain ⟨u4, hvu4, h⟩ := zbind h
      obtain ⟨v6, σ5, hvσ5, h⟩ := zcb h
      refine g_callV (pc := 27) (av := [tI (l3), tI (3)]) C (c_X7_field hE hvσ5) yv_X7_field ml_X7_22 ck_7 (zopt hvu4).1 rfl (rf_of (by decide)) rfl (Nat.le_of_ble_eq_true rfl) dX7_told_27 ?_
      refine g_istore (lm' := [(4, tI (v6)), (0, tR (some (h0))), (1, tI (l1)), (2, tR (l2)), (3, tI (l3))]) (pc := 30) C dX7_told_30 (by decide) rfl ?_
      refine g_aload_n (pc := 32) C 0 1 dX7_told_32 rfl rfl ?_
      refine g_iload_n (pc := 33) C 3 4 dX7_told_33 rfl rfl ?_
      refine g_iconst (v := 4) (pc := 34) C dX7_told_34 (by decide) ?_
      obtain ⟨u7, hvu7, h⟩ := zbind h
      obtain ⟨v9, σ8, hvσ8, h⟩ := zcb h
      refine g_callV (pc := 35) (av := [tI (l3), tI (4)]) C (c_X7_field hE hvσ8) yv_X7_field ml_X7_22 ck_7 (zopt hvu7).1 rfl (rf_of (by decide)) rfl (Nat.le_of_ble_eq_true rfl) dX7_told_35 ?_
      refine g_istore (lm' := [(5, tI (v9)), (4, tI (v6)), (0, tR (some (h0))), (1, tI (l1)), (2, tR (l2)), (3, tI (l3))]) (pc := 38) C dX7_told_38 (by decide) rfl ?_
      refine g_iload (pc := 40) C 1 dX7_told_40 rfl ?_
      refine g_iload (pc := 42) C 0 dX7_told_42 rfl ?_
      refine g_icmp_ge (pc := 44) C 67 dX7_told_44 (by decide) (fun c16 => ?_) (fun c16 => ?_)
      · have h := zif_t c16 h
        refine g_sub [2, 3, 4, 5, 1] (lm' := [(0, tR (some (h0))), (1, tI (l1)), (2, tR (l2)), (3, tI (l3)), (4, tI (v6))]) rfl ?_
        exact w_X7_told_j67 hE C hxn e_ret _ _ _ _ _ _ _ _ h hI hO
      · have h := zif_f c16 h
        refine g_aload_n (pc := 47) C 2 4 dX7_told_47 rfl rfl ?_
        refine g_aload_n (pc := 48) C 0 2 dX7_told_48 rfl rfl ?_
        obtain ⟨r10, hvr10, h⟩ := zbind h
        refine g_getR (N := 3) (pc := 49) C ck_7 hvr10 rfl rfl fl_X7_9 dX7_told_49 ?_
        refine g_iload (pc := 52) C 1 dX7_told_52 rfl ?_
        refine g_iload (pc := 54) C 0 dX7_told_54 rfl ?_
        obtain ⟨a11, hqa11, h9⟩ := zbind h
        clear h
        subst hqa11
        have h := h9
        clear h9
        obtain ⟨u12, hvu12, h⟩ := zbind h
        obtain ⟨v14, σ13, hvσ13, h⟩ := zcb h
        refine g_callV (pc := 56) (av := [tR (r10), tI (v6), tI (v9)]) C (c_X5_value hE hvσ13) yv_X5_value ml_X7_26 ck_5 (zopt hvu12).1 rfl (rf_of (by decide)) rfl (Nat.le_of_ble_eq_true rfl) dX7_told_56 ?_
        refine g_lconst (v := 1) (pc := 59) C dX7_told_59 (by decide) ?_
        refine g_lcmp (pc := 60) C dX7_told_60 ?_
        refine g_if_eq (pc := 61) C 67 dX7_told_61 (by decide) (fun c15 => ?_) (fun c15 => ?_)
        · have h := zif_t c15 h
          refine g_sub [2, 3, 4, 5, 1] (lm' := [(0, tR (some (h0))), (1, tI (l1)), (2, tR (some (a11))), (3, tI (l3)), (4, tI (v6))]) rfl ?_
          exact w_X7_told_j67 hE C hxn e_ret _ _ _ _ _ _ _ _ h hI hO
        · have h := zif_f c15 h
          refine g_goto (pc := 64) C 108 dX7_told_64 (by decide) ?_
          refine g_sub [2, 3, 4, 5] (lm' := [(0, tR (some (h0))), (1, tI (l1)), (2, tR (some (a11))), (3, tI (l3))]) rfl ?_
          exact w_X7_told_j108 hE C hxn e_ret _ _ _ _ _ _ _ h hI hO
    · have h := zif_f c17 h
      refine g_goto (pc := 21) C 108 dX7_told_21 (by decide) ?_
      exact w_X7_told_j108 hE C hxn e_ret _ _ _ _ _ _ _ h hI hO
theorem w_X7_told_l7 {E : E0} (hE : EOK E) {X : X0} (C : XOK E X cX7_told RX7 8 (some .long) rm_X7_told) (hxn : xn X = (rm_X7_told.cells, rm_X7_told.slots)) {KE : (Int64) → Hp → Prop} (e_ret : ∀ (r : Int64) (σ : Hp), KE (r) σ → xd X = (some (tJ r), σ)) {v : Nat × Int32 × (Option Nat) × Int32} {σ : Hp} {e : Int64} {σ1 : Hp} (h : s_X7_told_l7 v σ = some (e, σ1)) (hO : KE e σ1) : G E X 0 0 7 [(0, tR (some ((v.1)))), (1, tI ((v.2.1))), (2, tR ((v.2.2.1))), (3, tI ((v.2.2.2)))] [] σ := loopF_ind (P := fun (v : Nat × Int32 × (Option Nat) × Int32) (σ : Hp) => G E X 0 0 7 [(0, tR (some ((v.1)))), (1, tI ((v.2.1))), (2, tR ((v.2.2.1))), (3, tI ((v.2.2.2)))] [] σ) (KE := KE) (fun v σ x σ1 h hI hO => w_X7_told_b7 hE C hxn e_ret (v.1) (v.2.1) (v.2.2.1) (v.2.2.2) σ x σ1 h hI hO) v σ e σ1 h hO
noncomputable def s_X7_told (h0 : Nat) (p1 : Int32) (p2 : Option Nat) (σ : Hp) : Option (Int64 × Hp) :=
  (rdI 7 σ h0 2).bind fun v1 =>
  cb (s_X7_told_l7 ((h0), (p1), (p2), (v1 - 1)) σ) fun r3 σ4 =>
  some (r3, σ4)
set_option maxRecDepth 100000 in
theorem c_X7_told {E : E0} (hE : EOK E) {h0 : Nat} {p1 : Int32} {p2 : Option Nat} {σ σ1 : Hp} {r : Int64} (h : s_X7_told h0 p1 p2 σ = some (r, σ1)) : CT E yX7_told (.code yX7_told cX7_told 8 (some .long)) rm_X7_told [tR (some (h0)), tI (p1), tR (p2)] σ (some (tJ r)) σ1 := by
  refine CT.mk hE (by decide +kernel) (Nat.le_of_ble_eq_true rfl) [(0, tR (some (h0))), (1, tI (p1)), (2, tR (p2))] rfl (fun X C hin hx hxn => ?_)
  have C : XOK E X cX7_told RX7 8 (some .long) rm_X7_told := C
  unfold s_X7_told at h
  refine g_aload_n (pc := 0) C 0 0 dX7_told_0 rfl rfl ?_
  obtain ⟨v1, hvv1, h⟩ := zbind h
  refine g_getI (N := 3) (pc := 1) C ck_7 hvv1 rfl rfl fl_X7_18 dX7_told_1 ?_
  refine g_iconst (v := 1) (pc := 4) C dX7_told_4 (by decide) ?_
  refine g_isub (pc := 5) C dX7_told_5 ?_
  refine g_istore_n (lm' := [(3, tI (v1 - 1)), (0, tR (some (h0))), (1, tI (p1)), (2, tR (p2))]) (pc := 6) C 3 dX7_told_6 rfl (by decide) rfl ?_
  refine g_sub [1, 2, 3, 0] (lm' := [(0, tR (some (h0))), (1, tI (p1)), (2, tR (p2)), (3, tI (v1 - 1))]) rfl ?_
  obtain ⟨KQ, hKQ, r3, σ4, hlr3, h⟩ := zcbK h
  refine w_X7_told_l7 (KE := KQ) hE C hxn ?_ hlr3 h
  · intro r3 σ2 h
    have h := (hKQ _ _).mp h
    obtain ⟨rfl, rfl⟩ := zsome h
    exact hx
def rm_X1_theirsBy : Room := { frames := 3, cells := 0, slots := 0, locals := 81 }
noncomputable def s_X1_theirsBy_j55 (l3 : Int32) (σ : Hp) : Option (Int32 × Hp) :=
  if 18 ≤ (l3 - l3 / 24 * 24) then
    some ((2), σ)
  else
    if 5 < (l3 - l3 / 24 * 24) then
      some ((0), σ)
    else
      some ((2), σ)
set_option maxRecDepth 100000 in
theorem w_X1_theirsBy_j55 {E : E0} (hE : EOK E) {X : X0} (C : XOK E X cX1_theirsBy RX1 6 (some .int) rm_X1_theirsBy) (hxn : xn X = (rm_X1_theirsBy.cells, rm_X1_theirsBy.slots)) (l3 : Int32) (σ : Hp) (r : Int32) (σ1 : Hp) (h : s_X1_theirsBy_j55 l3 σ = some (r, σ1)) (hx : xd X = (some (tI r), σ1)) : G E X 0 0 55 [(3, tI (l3))] [] σ := by
  unfold s_X1_theirsBy_j55 at h
  refine g_iload_n (pc := 55) C 3 0 dX1_theirsBy_55 rfl rfl ?_
  refine g_bipush (v := 24) (pc := 56) C dX1_theirsBy_56 (by decide) ?_
  refine g_irem (pc := 58) C dX1_theirsBy_58 (by decide) ?_
  refine g_istore (lm' := [(4, tI (l3 - l3 / 24 * 24)), (3, tI (l3))]) (pc := 59) C dX1_theirsBy_59 (by decide) rfl ?_
  refine g_iload (pc := 61) C 0 dX1_theirsBy_61 rfl ?_
  refine g_bipush (v := 18) (pc := 63) C dX1_theirsBy_63 (by decide) ?_
  refine g_icmp_ge (pc := 65) C 74 dX1_theirsBy_65 (by decide) (fun c2 => ?_) (fun c2 => ?_)
  · have h := zif_t c2 h
    refine g_iconst (v := 2) (pc := 74) C dX1_theirsBy_74 (by decide) ?_
    refine g_goto (pc := 75) C 79 dX1_theirsBy_75 (by decide) ?_
    obtain ⟨rfl, rfl⟩ := zsome h
    exact g_iret (pc := 79) C rfl hx (by rw [hxn]; rfl) (by rw [hxn]; rfl) dX1_theirsBy_79
  · have h := zif_f c2 h
    refine g_iload (pc := 68) C 0 dX1_theirsBy_68 rfl ?_
    refine g_iconst (v := 5) (pc := 70) C dX1_theirsBy_70 (by decide) ?_
    refine g_icmp_gt (pc := 71) C 78 dX1_theirsBy_71 (by decide) (fun c1 => ?_) (fun c1 => ?_)
    · have h := zif_t c1 h
      refine g_iconst (v := 0) (pc := 78) C dX1_theirsBy_78 (by decide) ?_
      obtain ⟨rfl, rfl⟩ := zsome h
      exact g_iret (pc := 79) C rfl hx (by rw [hxn]; rfl) (by rw [hxn]; rfl) dX1_theirsBy_79
    · have h := zif_f c1 h
      refine g_iconst (v := 2) (pc := 74) C dX1_theirsBy_74 (by decide) ?_
      refine g_goto (pc := 75) C 79 dX1_theirsBy_75 (by decide) ?_
      obtain ⟨rfl, rfl⟩ := zsome h
      exact g_iret (pc := 79) C rfl hx (by rw [hxn]; rfl) (by rw [hxn]; rfl) dX1_theirsBy_79
noncomputable def s_X1_theirsBy (h0 : Nat) (p1 : Option Nat) (p2 : Int32) (p3 : Int32) (σ : Hp) : Option (Int32 × Hp) :=
  if p1 = none then
    s_X1_theirsBy_j55 (p3) σ
  else
    (rdR 1 σ h0 12).bind fun r1 =>
    (rdR 1 σ h0 10).bind fun r2 =>
    (r2).bind fun a3 =>
    (ldI 11 σ a3 (2)).bind fun v4 =>
    (r1).bind fun a5 =>
    (ck 5 σ a5).bind fun u6 =>
    cb (s_X5_tellLawWords a5 (p2) (p3) (v4) σ) fun v8 σ7 =>
    (rdR 1 σ7 h0 12).bind fun r9 =>
    (p1).bind fun a10 =>
    (ck 7 σ7 a10).bind fun u11 =>
    cb (s_X7_told a10 (300) (r9) σ7) fun v13 σ12 =>
    if (lg_cmp (v13 : Int64) (9000000000 : Int64)) = 0 then
      s_X1_theirsBy_j55 (p3) σ12
    else
      some ((Int64.toInt32 (if (if v13 < 10 then v13 else 10) < 0 then 0 else (if v13 < 10 then v13 else 10) : Int64)), σ12)
set_option maxRecDepth 100000 in
theorem c_X1_theirsBy {E : E0} (hE : EOK E) {h0 : Nat} {p1 : Option Nat} {p2 : Int32} {p3 : Int32} {σ σ1 : Hp} {r : Int32} (h : s_X1_theirsBy h0 p1 p2 p3 σ = some (r, σ1)) : CT E yX1_theirsBy (.code yX1_theirsBy cX1_theirsBy 6 (some .int)) rm_X1_theirsBy [tR (some (h0)), tR (p1), tI (p2), tI (p3)] σ (some (tI r)) σ1 := by
  refine CT.mk hE (by decide +kernel) (Nat.le_of_ble_eq_true rfl) [(0, tR (some (h0))), (1, tR (p1)), (2, tI (p2)), (3, tI (p3))] rfl (fun X C hin hx hxn => ?_)
  have C : XOK E X cX1_theirsBy RX1 6 (some .int) rm_X1_theirsBy := C
  unfold s_X1_theirsBy at h
  refine g_aload_n (pc := 0) C 1 1 dX1_theirsBy_0 rfl rfl ?_
  refine g_ifnull (pc := 1) C 55 dX1_theirsBy_1 (by decide) (fun c15 => ?_) (fun c15 => ?_)
  · have h := zif_t c15 h
    refine g_sub [3] (lm' := [(3, tI (p3))]) rfl ?_
    exact w_X1_theirsBy_j55 hE C hxn _ _ _ _ h hx
  · have h := zif_f c15 h
    refine g_aload_n (pc := 4) C 0 0 dX1_theirsBy_4 rfl rfl ?_
    obtain ⟨r1, hvr1, h⟩ := zbind h
    refine g_getR (N := 20) (pc := 5) C ck_1 hvr1 rfl rfl fl_X1_58 dX1_theirsBy_5 ?_
    refine g_iload_n (pc := 8) C 2 2 dX1_theirsBy_8 rfl rfl ?_
    refine g_iload_n (pc := 9) C 3 3 dX1_theirsBy_9 rfl rfl ?_
    refine g_aload_n (pc := 10) C 0 0 dX1_theirsBy_10 rfl rfl ?_
    obtain ⟨r2, hvr2, h⟩ := zbind h
    refine g_getR (N := 20) (pc := 11) C ck_1 hvr2 rfl rfl fl_X1_46 dX1_theirsBy_11 ?_
    refine g_iconst (v := 2) (pc := 14) C dX1_theirsBy_14 (by decide) ?_
    obtain ⟨a3, hqa3, h9⟩ := zbind h
    clear h
    subst hqa3
    have h := h9
    clear h9
    obtain ⟨v4, hvv4, h⟩ := zbind h
    refine g_iald (pc := 15) C hvv4 dX1_theirsBy_15 ?_
    obtain ⟨a5, hqa5, h9⟩ := zbind h
    clear h
    subst hqa5
    have h := h9
    clear h9
    obtain ⟨u6, hvu6, h⟩ := zbind h
    obtain ⟨v8, σ7, hvσ7, h⟩ := zcb h
    refine g_callV (pc := 16) (av := [tI (p2), tI (p3), tI (v4)]) C (c_X5_tellLawWords hE hvσ7) yv_X5_tellLawWords ml_X1_104 ck_5 (zopt hvu6).1 rfl (rf_of (by decide)) rfl (Nat.le_of_ble_eq_true rfl) dX1_theirsBy_16 ?_
    refine g_aload_n (pc := 19) C 1 1 dX1_theirsBy_19 rfl rfl ?_
    refine g_sipush (v := 300) (pc := 20) C dX1_theirsBy_20 (by decide) ?_
    refine g_aload_n (pc := 23) C 0 0 dX1_theirsBy_23 rfl rfl ?_
    obtain ⟨r9, hvr9, h⟩ := zbind h
    refine g_getR (N := 20) (pc := 24) C ck_1 hvr9 rfl rfl fl_X1_58 dX1_theirsBy_24 ?_
    obtain ⟨a10, hqa10, h9⟩ := zbind h
    clear h
    subst hqa10
    have h := h9
    clear h9
    obtain ⟨u11, hvu11, h⟩ := zbind h
    obtain ⟨v13, σ12, hvσ12, h⟩ := zcb h
    refine g_callV (pc := 27) (av := [tI (300), tR (r9)]) C (c_X7_told hE hvσ12) yv_X7_told ml_X1_108 ck_7 (zopt hvu11).1 rfl (rf_of (by decide)) rfl (Nat.le_of_ble_eq_true rfl) dX1_theirsBy_27 ?_
    refine g_lstore (lm' := [(4, tJ (v13)), (0, tR (some (h0))), (1, tR (some (a10))), (2, tI (p2)), (3, tI (p3))]) (pc := 30) C dX1_theirsBy_30 (by decide) rfl ?_
    refine g_lload (pc := 32) C 0 dX1_theirsBy_32 rfl ?_
    refine g_ldc2 (v := 9000000000) (pc := 34) C dX1_theirsBy_34 kl_X1_112 ?_
    refine g_lcmp (pc := 37) C dX1_theirsBy_37 ?_
    refine g_if_eq (pc := 38) C 55 dX1_theirsBy_38 (by decide) (fun c14 => ?_) (fun c14 => ?_)
    · have h := zif_t c14 h
      refine g_sub [4] (lm' := [(3, tI (p3))]) rfl ?_
      exact w_X1_theirsBy_j55 hE C hxn _ _ _ _ h hx
    · have h := zif_f c14 h
      refine g_lconst (v := 0) (pc := 41) C dX1_theirsBy_41 (by decide) ?_
      refine g_ldc2 (v := 10) (pc := 42) C dX1_theirsBy_42 kl_X1_114 ?_
      refine g_lload (pc := 45) C 0 dX1_theirsBy_45 rfl ?_
      refine g_mminl (pc := 47) C ml_X1_116 ⟨Nat.le_of_ble_eq_true rfl, Nat.le_of_ble_eq_true rfl⟩ ⟨Nat.le_of_ble_eq_true rfl, Nat.le_of_ble_eq_true rfl⟩ dX1_theirsBy_47 ?_
      refine g_mmaxl (pc := 50) C ml_X1_122 ⟨Nat.le_of_ble_eq_true rfl, Nat.le_of_ble_eq_true rfl⟩ ⟨Nat.le_of_ble_eq_true rfl, Nat.le_of_ble_eq_true rfl⟩ dX1_theirsBy_50 ?_
      refine g_l2i (pc := 53) C dX1_theirsBy_53 ?_
      obtain ⟨rfl, rfl⟩ := zsome h
      exact g_iret (pc := 54) C rfl hx (by rw [hxn]; rfl) (by rw [hxn]; rfl) dX1_theirsBy_54
def rm_X1_whither : Room := { frames := 3, cells := 0, slots := 0, locals := 81 }
noncomputable def s_X1_whither_j77 (h0 : Nat) (l2 : Int32) (l4 : Int64) (σ : Hp) : Option (Int32 × Hp) :=
  cb (s_X8_isRoom (l4) σ) fun v2 σ1 =>
  if v2 = 0 then
    some ((l2), σ1)
  else
    (ck 1 σ1 h0).bind fun u3 =>
    cb (s_X1_isOpen h0 (l2) (Int64.toInt32 (l4 : Int64)) σ1) fun v5 σ4 =>
    if v5 = 0 then
      some ((l2), σ4)
    else
      some ((Int64.toInt32 (l4 : Int64)), σ4)
set_option maxRecDepth 100000 in
theorem w_X1_whither_j77 {E : E0} (hE : EOK E) {X : X0} (C : XOK E X cX1_whither RX1 9 (some .int) rm_X1_whither) (hxn : xn X = (rm_X1_whither.cells, rm_X1_whither.slots)) (h0 : Nat) (l2 : Int32) (l4 : Int64) (σ : Hp) (r : Int32) (σ1 : Hp) (h : s_X1_whither_j77 h0 l2 l4 σ = some (r, σ1)) (hx : xd X = (some (tI r), σ1)) : G E X 0 0 77 [(0, tR (some (h0))), (2, tI (l2)), (4, tJ (l4))] [] σ := by
  unfold s_X1_whither_j77 at h
  refine g_lload (pc := 77) C 2 dX1_whither_77 rfl ?_
  obtain ⟨v2, σ1, hvσ1, h⟩ := zcb h
  refine g_callSN (pc := 79) (av := [tJ (l4)]) C (c_X8_isRoom hE hvσ1) ys_X8_isRoom ml_X1_92 rfl (rf_of (by decide)) rfl (Nat.le_of_ble_eq_true rfl) dX1_whither_79 ?_
  refine g_if_eq (pc := 82) C 102 dX1_whither_82 (by decide) (fun c7 => ?_) (fun c7 => ?_)
  · have h := zif_t c7 h
    refine g_iload_n (pc := 102) C 2 1 dX1_whither_102 rfl rfl ?_
    obtain ⟨rfl, rfl⟩ := zsome h
    exact g_iret (pc := 103) C rfl hx (by rw [hxn]; rfl) (by rw [hxn]; rfl) dX1_whither_103
  · have h := zif_f c7 h
    refine g_aload_n (pc := 85) C 0 0 dX1_whither_85 rfl rfl ?_
    refine g_iload_n (pc := 86) C 2 1 dX1_whither_86 rfl rfl ?_
    refine g_lload (pc := 87) C 2 dX1_whither_87 rfl ?_
    refine g_l2i (pc := 89) C dX1_whither_89 ?_
    obtain ⟨u3, hvu3, h⟩ := zbind h
    obtain ⟨v5, σ4, hvσ4, h⟩ := zcb h
    refine g_callV (pc := 90) (av := [tI (l2), tI (Int64.toInt32 (l4 : Int64))]) C (c_X1_isOpen hE hvσ4) yv_X1_isOpen ml_X1_132 ck_1 (zopt hvu3).1 rfl (rf_of (by decide)) rfl (Nat.le_of_ble_eq_true rfl) dX1_whither_90 ?_
    refine g_if_eq (pc := 93) C 102 dX1_whither_93 (by decide) (fun c6 => ?_) (fun c6 => ?_)
    · have h := zif_t c6 h
      refine g_iload_n (pc := 102) C 2 1 dX1_whither_102 rfl rfl ?_
      obtain ⟨rfl, rfl⟩ := zsome h
      exact g_iret (pc := 103) C rfl hx (by rw [hxn]; rfl) (by rw [hxn]; rfl) dX1_whither_103
    · have h := zif_f c6 h
      refine g_lload (pc := 96) C 2 dX1_whither_96 rfl ?_
      refine g_l2i (pc := 98) C dX1_whither_98 ?_
      refine g_goto (pc := 99) C 103 dX1_whither_99 (by decide) ?_
      obtain ⟨rfl, rfl⟩ := zsome h
      exact g_iret (pc := 103) C rfl hx (by rw [hxn]; rfl) (by rw [hxn]; rfl) dX1_whither_103
noncomputable def s_X1_whither_j75 (h0 : Nat) (l2 : Int32) (t0 : Int64) (σ : Hp) : Option (Int32 × Hp) :=
  s_X1_whither_j77 (h0) (l2) (t0) σ
set_option maxRecDepth 100000 in
theorem w_X1_whither_j75 {E : E0} (hE : EOK E) {X : X0} (C : XOK E X cX1_whither RX1 9 (some .int) rm_X1_whither) (hxn : xn X = (rm_X1_whither.cells, rm_X1_whither.slots)) (h0 : Nat) (l2 : Int32) (t0 : Int64) (σ : Hp) (r : Int32) (σ1 : Hp) (h : s_X1_whither_j75 h0 l2 t0 σ = some (r, σ1)) (hx : xd X = (some (tI r), σ1)) : G E X 0 0 75 [(0, tR (some (h0))), (2, tI (l2))] [tJ (t0)] σ := by
  unfold s_X1_whither_j75 at h
  refine g_lstore (lm' := [(4, tJ (t0)), (0, tR (some (h0))), (2, tI (l2))]) (pc := 75) C dX1_whither_75 (by decide) rfl ?_
  refine g_sub [1, 2, 0] (lm' := [(0, tR (some (h0))), (2, tI (l2)), (4, tJ (t0))]) rfl ?_
  exact w_X1_whither_j77 hE C hxn _ _ _ _ _ _ h hx
noncomputable def s_X1_whither (h0 : Nat) (p1 : Int32) (p2 : Int32) (p3 : Int32) (σ : Hp) : Option (Int32 × Hp) :=
  (ck 1 σ h0).bind fun u1 =>
  cb (s_X1_lawInForce h0 σ) fun r3 σ2 =>
  if r3 = none then
    s_X1_whither_j77 (h0) (p2) (Int32.toInt64 ((p2 + 1) - (p2 + 1) / 6 * 6 : Int32)) σ2
  else
    (rdR 1 σ2 h0 12).bind fun r4 =>
    (rdR 1 σ2 h0 10).bind fun r5 =>
    (r5).bind fun a6 =>
    (ldI 11 σ2 a6 (2)).bind fun v7 =>
    (r4).bind fun a8 =>
    (ck 5 σ2 a8).bind fun u9 =>
    cb (s_X5_tellLawWords a8 (p2) (p3) (v7) σ2) fun v11 σ10 =>
    (rdR 1 σ10 h0 12).bind fun r12 =>
    (r12).bind fun a13 =>
    (rdR 5 σ10 a13 0).bind fun r14 =>
    (r14).bind fun a15 =>
    (stI σ10 a15 (3) (p1)).bind fun σ16 =>
    (rdR 1 σ16 h0 12).bind fun r17 =>
    (r3).bind fun a18 =>
    (ck 7 σ16 a18).bind fun u19 =>
    cb (s_X7_told a18 (301) (r17) σ16) fun v21 σ20 =>
    if (lg_cmp (v21 : Int64) (9000000000 : Int64)) = 0 then
      s_X1_whither_j75 (h0) (p2) (Int32.toInt64 ((p2 + 1) - (p2 + 1) / 6 * 6 : Int32)) σ20
    else
      s_X1_whither_j75 (h0) (p2) (v21) σ20
set_option maxRecDepth 100000 in
theorem c_X1_whither {E : E0} (hE : EOK E) {h0 : Nat} {p1 : Int32} {p2 : Int32} {p3 : Int32} {σ σ1 : Hp} {r : Int32} (h : s_X1_whither h0 p1 p2 p3 σ = some (r, σ1)) : CT E yX1_whither (.code yX1_whither cX1_whither 9 (some .int)) rm_X1_whither [tR (some (h0)), tI (p1), tI (p2), tI (p3)] σ (some (tI r)) σ1 := by
  refine CT.mk hE (by decide +kernel) (Nat.le_of_ble_eq_true rfl) [(0, tR (some (h0))), (1, tI (p1)), (2, tI (p2)), (3, tI (p3))] rfl (fun X C hin hx hxn => ?_)
  have C : XOK E X cX1_whither RX1 9 (some .int) rm_X1_whither := C
  unfold s_X1_whither at h
  refine g_iload_n (pc := 0) C 2 2 dX1_whither_0 rfl rfl ?_
  refine g_iconst (v := 1) (pc := 1) C dX1_whither_1 (by decide) ?_
  refine g_iadd (pc := 2) C dX1_whither_2 ?_
  refine g_bipush (v := 6) (pc := 3) C dX1_whither_3 (by decide) ?_
  refine g_irem (pc := 5) C dX1_whither_5 (by decide) ?_
  refine g_i2l (pc := 6) C dX1_whither_6 ?_
  refine g_lstore (lm' := [(4, tJ (Int32.toInt64 ((p2 + 1) - (p2 + 1) / 6 * 6 : Int32))), (0, tR (some (h0))), (1, tI (p1)), (2, tI (p2)), (3, tI (p3))]) (pc := 7) C dX1_whither_7 (by decide) rfl ?_
  refine g_aload_n (pc := 9) C 0 1 dX1_whither_9 rfl rfl ?_
  obtain ⟨u1, hvu1, h⟩ := zbind h
  obtain ⟨r3, σ2, hvσ2, h⟩ := zcb h
  refine g_callV (pc := 10) (av := []) C (c_X1_lawInForce hE hvσ2) yv_X1_lawInForce ml_X1_125 ck_1 (zopt hvu1).1 rfl (rf_of (by decide)) rfl (Nat.le_of_ble_eq_true rfl) dX1_whither_10 ?_
  refine g_astore (lm' := [(6, tR (r3)), (4, tJ (Int32.toInt64 ((p2 + 1) - (p2 + 1) / 6 * 6 : Int32))), (0, tR (some (h0))), (1, tI (p1)), (2, tI (p2)), (3, tI (p3))]) (pc := 13) C dX1_whither_13 (by decide) rfl ?_
  refine g_aload (pc := 15) C 0 dX1_whither_15 rfl ?_
  refine g_ifnull (pc := 17) C 77 dX1_whither_17 (by decide) (fun c23 => ?_) (fun c23 => ?_)
  · have h := zif_t c23 h
    refine g_sub [2, 4, 1] (lm' := [(0, tR (some (h0))), (2, tI (p2)), (4, tJ (Int32.toInt64 ((p2 + 1) - (p2 + 1) / 6 * 6 : Int32)))]) rfl ?_
    exact w_X1_whither_j77 hE C hxn _ _ _ _ _ _ h hx
  · have h := zif_f c23 h
    refine g_aload_n (pc := 20) C 0 2 dX1_whither_20 rfl rfl ?_
    obtain ⟨r4, hvr4, h⟩ := zbind h
    refine g_getR (N := 20) (pc := 21) C ck_1 hvr4 rfl rfl fl_X1_58 dX1_whither_21 ?_
    refine g_iload_n (pc := 24) C 2 4 dX1_whither_24 rfl rfl ?_
    refine g_iload_n (pc := 25) C 3 5 dX1_whither_25 rfl rfl ?_
    refine g_aload_n (pc := 26) C 0 2 dX1_whither_26 rfl rfl ?_
    obtain ⟨r5, hvr5, h⟩ := zbind h
    refine g_getR (N := 20) (pc := 27) C ck_1 hvr5 rfl rfl fl_X1_46 dX1_whither_27 ?_
    refine g_iconst (v := 2) (pc := 30) C dX1_whither_30 (by decide) ?_
    obtain ⟨a6, hqa6, h9⟩ := zbind h
    clear h
    subst hqa6
    have h := h9
    clear h9
    obtain ⟨v7, hvv7, h⟩ := zbind h
    refine g_iald (pc := 31) C hvv7 dX1_whither_31 ?_
    obtain ⟨a8, hqa8, h9⟩ := zbind h
    clear h
    subst hqa8
    have h := h9
    clear h9
    obtain ⟨u9, hvu9, h⟩ := zbind h
    obtain ⟨v11, σ10, hvσ10, h⟩ := zcb h
    refine g_callV (pc := 32) (av := [tI (p2), tI (p3), tI (v7)]) C (c_X5_tellLawWords hE hvσ10) yv_X5_tellLawWords ml_X1_104 ck_5 (zopt hvu9).1 rfl (rf_of (by decide)) rfl (Nat.le_of_ble_eq_true rfl) dX1_whither_32 ?_
    refine g_aload_n (pc := 35) C 0 2 dX1_whither_35 rfl rfl ?_
    obtain ⟨r12, hvr12, h⟩ := zbind h
    refine g_getR (N := 20) (pc := 36) C ck_1 hvr12 rfl rfl fl_X1_58 dX1_whither_36 ?_
    obtain ⟨a13, hqa13, h9⟩ := zbind h
    clear h
    subst hqa13
    have h := h9
    clear h9
    obtain ⟨r14, hvr14, h⟩ := zbind h
    refine g_getR (N := 2) (pc := 39) C ck_5 hvr14 rfl rfl fl_X1_129 dX1_whither_39 ?_
    refine g_iconst (v := 3) (pc := 42) C dX1_whither_42 (by decide) ?_
    refine g_iload_n (pc := 43) C 1 3 dX1_whither_43 rfl rfl ?_
    obtain ⟨a15, hqa15, h9⟩ := zbind h
    clear h
    subst hqa15
    have h := h9
    clear h9
    obtain ⟨σ16, hvσ16, h⟩ := zbind h
    refine g_iast (pc := 44) C hvσ16 dX1_whither_44 ?_
    refine g_aload (pc := 45) C 0 dX1_whither_45 rfl ?_
    refine g_sipush (v := 301) (pc := 47) C dX1_whither_47 (by decide) ?_
    refine g_aload_n (pc := 50) C 0 2 dX1_whither_50 rfl rfl ?_
    obtain ⟨r17, hvr17, h⟩ := zbind h
    refine g_getR (N := 20) (pc := 51) C ck_1 hvr17 rfl rfl fl_X1_58 dX1_whither_51 ?_
    obtain ⟨a18, hqa18, h9⟩ := zbind h
    clear h
    subst hqa18
    have h := h9
    clear h9
    obtain ⟨u19, hvu19, h⟩ := zbind h
    obtain ⟨v21, σ20, hvσ20, h⟩ := zcb h
    refine g_callV (pc := 54) (av := [tI (301), tR (r17)]) C (c_X7_told hE hvσ20) yv_X7_told ml_X1_108 ck_7 (zopt hvu19).1 rfl (rf_of (by decide)) rfl (Nat.le_of_ble_eq_true rfl) dX1_whither_54 ?_
    refine g_lstore (lm' := [(7, tJ (v21)), (6, tR (some (a18))), (4, tJ (Int32.toInt64 ((p2 + 1) - (p2 + 1) / 6 * 6 : Int32))), (0, tR (some (h0))), (1, tI (p1)), (2, tI (p2)), (3, tI (p3))]) (pc := 57) C dX1_whither_57 (by decide) rfl ?_
    refine g_lload (pc := 59) C 0 dX1_whither_59 rfl ?_
    refine g_ldc2 (v := 9000000000) (pc := 61) C dX1_whither_61 kl_X1_112 ?_
    refine g_lcmp (pc := 64) C dX1_whither_64 ?_
    refine g_if_ne (pc := 65) C 73 dX1_whither_65 (by decide) (fun c22 => ?_) (fun c22 => ?_)
    · have h := zif_f c22 h
      refine g_lload (pc := 73) C 0 dX1_whither_73 rfl ?_
      refine g_sub [3, 5] (lm' := [(0, tR (some (h0))), (2, tI (p2))]) rfl ?_
      exact w_X1_whither_j75 hE C hxn _ _ _ _ _ _ h hx
    · have h := zif_t c22 h
      refine g_lload (pc := 68) C 2 dX1_whither_68 rfl ?_
      refine g_goto (pc := 70) C 75 dX1_whither_70 (by decide) ?_
      refine g_sub [3, 5] (lm' := [(0, tR (some (h0))), (2, tI (p2))]) rfl ?_
      exact w_X1_whither_j75 hE C hxn _ _ _ _ _ _ h hx
def rm_X3_isOne : Room := { frames := 0, cells := 0, slots := 0, locals := 0 }
noncomputable def s_X3_isOne (h0 : Nat) (p1 : Int32) (σ : Hp) : Option (Int32 × Hp) :=
  if p1 < 0 then
    some ((0), σ)
  else
    (rdI 3 σ h0 3).bind fun v1 =>
    if v1 ≤ p1 then
      some ((0), σ)
    else
      if 10 ≤ p1 then
        some ((0), σ)
      else
        some ((1), σ)
set_option maxRecDepth 100000 in
theorem c_X3_isOne {E : E0} (hE : EOK E) {h0 : Nat} {p1 : Int32} {σ σ1 : Hp} {r : Int32} (h : s_X3_isOne h0 p1 σ = some (r, σ1)) : CT E yX3_isOne (.code yX3_isOne cX3_isOne 2 (some .boolean)) rm_X3_isOne [tR (some (h0)), tI (p1)] σ (some (tI r)) σ1 := by
  refine CT.mk hE (by decide +kernel) (Nat.le_of_ble_eq_true rfl) [(0, tR (some (h0))), (1, tI (p1))] rfl (fun X C hin hx hxn => ?_)
  have C : XOK E X cX3_isOne RX3 2 (some .boolean) rm_X3_isOne := C
  unfold s_X3_isOne at h
  refine g_iload_n (pc := 0) C 1 1 dX3_isOne_0 rfl rfl ?_
  refine g_if_lt (pc := 1) C 22 dX3_isOne_1 (by decide) (fun c4 => ?_) (fun c4 => ?_)
  · have h := zif_t c4 h
    refine g_iconst (v := 0) (pc := 22) C dX3_isOne_22 (by decide) ?_
    obtain ⟨rfl, rfl⟩ := zsome h
    exact g_zret (pc := 23) C rfl hx (by decide) (by rw [hxn]; rfl) (by rw [hxn]; rfl) dX3_isOne_23
  · have h := zif_f c4 h
    refine g_iload_n (pc := 4) C 1 1 dX3_isOne_4 rfl rfl ?_
    refine g_aload_n (pc := 5) C 0 0 dX3_isOne_5 rfl rfl ?_
    obtain ⟨v1, hvv1, h⟩ := zbind h
    refine g_getI (N := 4) (pc := 6) C ck_3 hvv1 rfl rfl fl_X3_21 dX3_isOne_6 ?_
    refine g_icmp_ge (pc := 9) C 22 dX3_isOne_9 (by decide) (fun c3 => ?_) (fun c3 => ?_)
    · have h := zif_t c3 h
      refine g_iconst (v := 0) (pc := 22) C dX3_isOne_22 (by decide) ?_
      obtain ⟨rfl, rfl⟩ := zsome h
      exact g_zret (pc := 23) C rfl hx (by decide) (by rw [hxn]; rfl) (by rw [hxn]; rfl) dX3_isOne_23
    · have h := zif_f c3 h
      refine g_iload_n (pc := 12) C 1 1 dX3_isOne_12 rfl rfl ?_
      refine g_bipush (v := 10) (pc := 13) C dX3_isOne_13 (by decide) ?_
      refine g_icmp_ge (pc := 15) C 22 dX3_isOne_15 (by decide) (fun c2 => ?_) (fun c2 => ?_)
      · have h := zif_t c2 h
        refine g_iconst (v := 0) (pc := 22) C dX3_isOne_22 (by decide) ?_
        obtain ⟨rfl, rfl⟩ := zsome h
        exact g_zret (pc := 23) C rfl hx (by decide) (by rw [hxn]; rfl) (by rw [hxn]; rfl) dX3_isOne_23
      · have h := zif_f c2 h
        refine g_iconst (v := 1) (pc := 18) C dX3_isOne_18 (by decide) ?_
        refine g_goto (pc := 19) C 23 dX3_isOne_19 (by decide) ?_
        obtain ⟨rfl, rfl⟩ := zsome h
        exact g_zret (pc := 23) C rfl hx (by decide) (by rw [hxn]; rfl) (by rw [hxn]; rfl) dX3_isOne_23
def rm_X3_roomOf : Room := { frames := 1, cells := 0, slots := 0, locals := 21 }
noncomputable def s_X3_roomOf (h0 : Nat) (p1 : Int32) (σ : Hp) : Option (Int32 × Hp) :=
  (ck 3 σ h0).bind fun u1 =>
  cb (s_X3_isOne h0 (p1) σ) fun v3 σ2 =>
  if v3 = 0 then
    some (((-1)), σ2)
  else
    (rdR 3 σ2 h0 0).bind fun r4 =>
    (r4).bind fun a5 =>
    (ldI 11 σ2 a5 (p1)).bind fun v6 =>
    some ((v6), σ2)
set_option maxRecDepth 100000 in
theorem c_X3_roomOf {E : E0} (hE : EOK E) {h0 : Nat} {p1 : Int32} {σ σ1 : Hp} {r : Int32} (h : s_X3_roomOf h0 p1 σ = some (r, σ1)) : CT E yX3_roomOf (.code yX3_roomOf cX3_roomOf 2 (some .int)) rm_X3_roomOf [tR (some (h0)), tI (p1)] σ (some (tI r)) σ1 := by
  refine CT.mk hE (by decide +kernel) (Nat.le_of_ble_eq_true rfl) [(0, tR (some (h0))), (1, tI (p1))] rfl (fun X C hin hx hxn => ?_)
  have C : XOK E X cX3_roomOf RX3 2 (some .int) rm_X3_roomOf := C
  unfold s_X3_roomOf at h
  refine g_aload_n (pc := 0) C 0 0 dX3_roomOf_0 rfl rfl ?_
  refine g_iload_n (pc := 1) C 1 1 dX3_roomOf_1 rfl rfl ?_
  obtain ⟨u1, hvu1, h⟩ := zbind h
  obtain ⟨v3, σ2, hvσ2, h⟩ := zcb h
  refine g_callV (pc := 2) (av := [tI (p1)]) C (c_X3_isOne hE hvσ2) yv_X3_isOne ml_X3_25 ck_3 (zopt hvu1).1 rfl (rf_of (by decide)) rfl (Nat.le_of_ble_eq_true rfl) dX3_roomOf_2 ?_
  refine g_if_eq (pc := 5) C 17 dX3_roomOf_5 (by decide) (fun c7 => ?_) (fun c7 => ?_)
  · have h := zif_t c7 h
    refine g_iconst (v := (-1)) (pc := 17) C dX3_roomOf_17 (by decide) ?_
    obtain ⟨rfl, rfl⟩ := zsome h
    exact g_iret (pc := 18) C rfl hx (by rw [hxn]; rfl) (by rw [hxn]; rfl) dX3_roomOf_18
  · have h := zif_f c7 h
    refine g_aload_n (pc := 8) C 0 0 dX3_roomOf_8 rfl rfl ?_
    obtain ⟨r4, hvr4, h⟩ := zbind h
    refine g_getR (N := 4) (pc := 9) C ck_3 hvr4 rfl rfl fl_X3_9 dX3_roomOf_9 ?_
    refine g_iload_n (pc := 12) C 1 1 dX3_roomOf_12 rfl rfl ?_
    obtain ⟨a5, hqa5, h9⟩ := zbind h
    clear h
    subst hqa5
    have h := h9
    clear h9
    obtain ⟨v6, hvv6, h⟩ := zbind h
    refine g_iald (pc := 13) C hvv6 dX3_roomOf_13 ?_
    refine g_goto (pc := 14) C 18 dX3_roomOf_14 (by decide) ?_
    obtain ⟨rfl, rfl⟩ := zsome h
    exact g_iret (pc := 18) C rfl hx (by rw [hxn]; rfl) (by rw [hxn]; rfl) dX3_roomOf_18
def rm_X3_highOf : Room := { frames := 1, cells := 0, slots := 0, locals := 21 }
noncomputable def s_X3_highOf (h0 : Nat) (p1 : Int32) (σ : Hp) : Option (Int32 × Hp) :=
  (ck 3 σ h0).bind fun u1 =>
  cb (s_X3_isOne h0 (p1) σ) fun v3 σ2 =>
  if v3 = 0 then
    some (((-1)), σ2)
  else
    (rdR 3 σ2 h0 1).bind fun r4 =>
    (r4).bind fun a5 =>
    (ldI 11 σ2 a5 (p1)).bind fun v6 =>
    some ((v6), σ2)
set_option maxRecDepth 100000 in
theorem c_X3_highOf {E : E0} (hE : EOK E) {h0 : Nat} {p1 : Int32} {σ σ1 : Hp} {r : Int32} (h : s_X3_highOf h0 p1 σ = some (r, σ1)) : CT E yX3_highOf (.code yX3_highOf cX3_highOf 2 (some .int)) rm_X3_highOf [tR (some (h0)), tI (p1)] σ (some (tI r)) σ1 := by
  refine CT.mk hE (by decide +kernel) (Nat.le_of_ble_eq_true rfl) [(0, tR (some (h0))), (1, tI (p1))] rfl (fun X C hin hx hxn => ?_)
  have C : XOK E X cX3_highOf RX3 2 (some .int) rm_X3_highOf := C
  unfold s_X3_highOf at h
  refine g_aload_n (pc := 0) C 0 0 dX3_highOf_0 rfl rfl ?_
  refine g_iload_n (pc := 1) C 1 1 dX3_highOf_1 rfl rfl ?_
  obtain ⟨u1, hvu1, h⟩ := zbind h
  obtain ⟨v3, σ2, hvσ2, h⟩ := zcb h
  refine g_callV (pc := 2) (av := [tI (p1)]) C (c_X3_isOne hE hvσ2) yv_X3_isOne ml_X3_25 ck_3 (zopt hvu1).1 rfl (rf_of (by decide)) rfl (Nat.le_of_ble_eq_true rfl) dX3_highOf_2 ?_
  refine g_if_eq (pc := 5) C 17 dX3_highOf_5 (by decide) (fun c7 => ?_) (fun c7 => ?_)
  · have h := zif_t c7 h
    refine g_iconst (v := (-1)) (pc := 17) C dX3_highOf_17 (by decide) ?_
    obtain ⟨rfl, rfl⟩ := zsome h
    exact g_iret (pc := 18) C rfl hx (by rw [hxn]; rfl) (by rw [hxn]; rfl) dX3_highOf_18
  · have h := zif_f c7 h
    refine g_aload_n (pc := 8) C 0 0 dX3_highOf_8 rfl rfl ?_
    obtain ⟨r4, hvr4, h⟩ := zbind h
    refine g_getR (N := 4) (pc := 9) C ck_3 hvr4 rfl rfl fl_X3_15 dX3_highOf_9 ?_
    refine g_iload_n (pc := 12) C 1 1 dX3_highOf_12 rfl rfl ?_
    obtain ⟨a5, hqa5, h9⟩ := zbind h
    clear h
    subst hqa5
    have h := h9
    clear h9
    obtain ⟨v6, hvv6, h⟩ := zbind h
    refine g_iald (pc := 13) C hvv6 dX3_highOf_13 ?_
    refine g_goto (pc := 14) C 18 dX3_highOf_14 (by decide) ?_
    obtain ⟨rfl, rfl⟩ := zsome h
    exact g_iret (pc := 18) C rfl hx (by rw [hxn]; rfl) (by rw [hxn]; rfl) dX3_highOf_18
def rm_X1_isBarred : Room := { frames := 3, cells := 0, slots := 0, locals := 81 }
noncomputable def s_X1_isBarred (h0 : Nat) (p1 : Int32) (p2 : Int32) (p3 : Int32) (σ : Hp) : Option (Int32 × Hp) :=
  (ck 1 σ h0).bind fun u1 =>
  cb (s_X1_lawInForce h0 σ) fun r3 σ2 =>
  if r3 = none then
    some ((0), σ2)
  else
    (ck 1 σ2 h0).bind fun u4 =>
    cb (s_X1_isFolk h0 (p1) σ2) fun v6 σ5 =>
    if v6 = 0 then
      some ((0), σ5)
    else
      (rdR 1 σ5 h0 0).bind fun r7 =>
      (r7).bind fun a8 =>
      (ck 3 σ5 a8).bind fun u9 =>
      cb (s_X3_isOne a8 (p2) σ5) fun v11 σ10 =>
      if v11 = 0 then
        some ((0), σ10)
      else
        (rdR 1 σ10 h0 12).bind fun r12 =>
        (rdR 1 σ10 h0 0).bind fun r13 =>
        (r13).bind fun a14 =>
        (ck 3 σ10 a14).bind fun u15 =>
        cb (s_X3_roomOf a14 (p2) σ10) fun v17 σ16 =>
        (rdR 1 σ16 h0 10).bind fun r18 =>
        (r18).bind fun a19 =>
        (ldI 11 σ16 a19 (2)).bind fun v20 =>
        (r12).bind fun a21 =>
        (ck 5 σ16 a21).bind fun u22 =>
        cb (s_X5_tellLawWords a21 (v17) (p3) (v20) σ16) fun v24 σ23 =>
        (rdR 1 σ23 h0 12).bind fun r25 =>
        (r25).bind fun a26 =>
        (rdR 5 σ23 a26 0).bind fun r27 =>
        (r27).bind fun a28 =>
        (stI σ23 a28 (4) (p1)).bind fun σ29 =>
        (rdR 1 σ29 h0 12).bind fun r30 =>
        (r30).bind fun a31 =>
        (rdR 5 σ29 a31 0).bind fun r32 =>
        (rdR 1 σ29 h0 2).bind fun r33 =>
        (r33).bind fun a34 =>
        (ldI 11 σ29 a34 (p1)).bind fun v35 =>
        (r32).bind fun a36 =>
        (stI σ29 a36 (5) (v35)).bind fun σ37 =>
        (rdR 1 σ37 h0 12).bind fun r38 =>
        (r38).bind fun a39 =>
        (rdR 5 σ37 a39 0).bind fun r40 =>
        (r40).bind fun a41 =>
        (stI σ37 a41 (6) (p2)).bind fun σ42 =>
        (rdR 1 σ42 h0 12).bind fun r43 =>
        (r43).bind fun a44 =>
        (rdR 5 σ42 a44 0).bind fun r45 =>
        (rdR 1 σ42 h0 0).bind fun r46 =>
        (r46).bind fun a47 =>
        (ck 3 σ42 a47).bind fun u48 =>
        cb (s_X3_highOf a47 (p2) σ42) fun v50 σ49 =>
        (r45).bind fun a51 =>
        (stI σ49 a51 (7) (v50)).bind fun σ52 =>
        (rdR 1 σ52 h0 12).bind fun r53 =>
        (r3).bind fun a54 =>
        (ck 7 σ52 a54).bind fun u55 =>
        cb (s_X7_told a54 (302) (r53) σ52) fun v57 σ56 =>
        if (lg_cmp (v57 : Int64) (9000000000 : Int64)) = 0 then
          some ((0), σ56)
        else
          some ((1), σ56)
set_option maxRecDepth 100000 in
theorem c_X1_isBarred {E : E0} (hE : EOK E) {h0 : Nat} {p1 : Int32} {p2 : Int32} {p3 : Int32} {σ σ1 : Hp} {r : Int32} (h : s_X1_isBarred h0 p1 p2 p3 σ = some (r, σ1)) : CT E yX1_isBarred (.code yX1_isBarred cX1_isBarred 5 (some .boolean)) rm_X1_isBarred [tR (some (h0)), tI (p1), tI (p2), tI (p3)] σ (some (tI r)) σ1 := by
  refine CT.mk hE (by decide +kernel) (Nat.le_of_ble_eq_true rfl) [(0, tR (some (h0))), (1, tI (p1)), (2, tI (p2)), (3, tI (p3))] rfl (fun X C hin hx hxn => ?_)
  have C : XOK E X cX1_isBarred RX1 5 (some .boolean) rm_X1_isBarred := C
  unfold s_X1_isBarred at h
  refine g_aload_n (pc := 0) C 0 0 dX1_isBarred_0 rfl rfl ?_
  obtain ⟨u1, hvu1, h⟩ := zbind h
  obtain ⟨r3, σ2, hvσ2, h⟩ := zcb h
  refine g_callV (pc := 1) (av := []) C (c_X1_lawInForce hE hvσ2) yv_X1_lawInForce ml_X1_125 ck_1 (zopt hvu1).1 rfl (rf_of (by decide)) rfl (Nat.le_of_ble_eq_true rfl) dX1_isBarred_1 ?_
  refine g_astore (lm' := [(4, tR (r3)), (0, tR (some (h0))), (1, tI (p1)), (2, tI (p2)), (3, tI (p3))]) (pc := 4) C dX1_isBarred_4 (by decide) rfl ?_
  refine g_aload (pc := 6) C 0 dX1_isBarred_6 rfl ?_
  refine g_ifnull (pc := 8) C 30 dX1_isBarred_8 (by decide) (fun c61 => ?_) (fun c61 => ?_)
  · have h := zif_t c61 h
    refine g_iconst (v := 0) (pc := 30) C dX1_isBarred_30 (by decide) ?_
    obtain ⟨rfl, rfl⟩ := zsome h
    exact g_zret (pc := 31) C rfl hx (by decide) (by rw [hxn]; rfl) (by rw [hxn]; rfl) dX1_isBarred_31
  · have h := zif_f c61 h
    refine g_aload_n (pc := 11) C 0 1 dX1_isBarred_11 rfl rfl ?_
    refine g_iload_n (pc := 12) C 1 2 dX1_isBarred_12 rfl rfl ?_
    obtain ⟨u4, hvu4, h⟩ := zbind h
    obtain ⟨v6, σ5, hvσ5, h⟩ := zcb h
    refine g_callV (pc := 13) (av := [tI (p1)]) C (c_X1_isFolk hE hvσ5) yv_X1_isFolk ml_X1_135 ck_1 (zopt hvu4).1 rfl (rf_of (by decide)) rfl (Nat.le_of_ble_eq_true rfl) dX1_isBarred_13 ?_
    refine g_if_eq (pc := 16) C 30 dX1_isBarred_16 (by decide) (fun c60 => ?_) (fun c60 => ?_)
    · have h := zif_t c60 h
      refine g_iconst (v := 0) (pc := 30) C dX1_isBarred_30 (by decide) ?_
      obtain ⟨rfl, rfl⟩ := zsome h
      exact g_zret (pc := 31) C rfl hx (by decide) (by rw [hxn]; rfl) (by rw [hxn]; rfl) dX1_isBarred_31
    · have h := zif_f c60 h
      refine g_aload_n (pc := 19) C 0 1 dX1_isBarred_19 rfl rfl ?_
      obtain ⟨r7, hvr7, h⟩ := zbind h
      refine g_getR (N := 20) (pc := 20) C ck_1 hvr7 rfl rfl fl_X1_12 dX1_isBarred_20 ?_
      refine g_iload_n (pc := 23) C 2 3 dX1_isBarred_23 rfl rfl ?_
      obtain ⟨a8, hqa8, h9⟩ := zbind h
      clear h
      subst hqa8
      have h := h9
      clear h9
      obtain ⟨u9, hvu9, h⟩ := zbind h
      obtain ⟨v11, σ10, hvσ10, h⟩ := zcb h
      refine g_callV (pc := 24) (av := [tI (p2)]) C (c_X3_isOne hE hvσ10) yv_X3_isOne ml_X1_138 ck_3 (zopt hvu9).1 rfl (rf_of (by decide)) rfl (Nat.le_of_ble_eq_true rfl) dX1_isBarred_24 ?_
      refine g_if_ne (pc := 27) C 32 dX1_isBarred_27 (by decide) (fun c59 => ?_) (fun c59 => ?_)
      · have h := zif_f c59 h
        refine g_aload_n (pc := 32) C 0 1 dX1_isBarred_32 rfl rfl ?_
        obtain ⟨r12, hvr12, h⟩ := zbind h
        refine g_getR (N := 20) (pc := 33) C ck_1 hvr12 rfl rfl fl_X1_58 dX1_isBarred_33 ?_
        refine g_aload_n (pc := 36) C 0 1 dX1_isBarred_36 rfl rfl ?_
        obtain ⟨r13, hvr13, h⟩ := zbind h
        refine g_getR (N := 20) (pc := 37) C ck_1 hvr13 rfl rfl fl_X1_12 dX1_isBarred_37 ?_
        refine g_iload_n (pc := 40) C 2 3 dX1_isBarred_40 rfl rfl ?_
        obtain ⟨a14, hqa14, h9⟩ := zbind h
        clear h
        subst hqa14
        have h := h9
        clear h9
        obtain ⟨u15, hvu15, h⟩ := zbind h
        obtain ⟨v17, σ16, hvσ16, h⟩ := zcb h
        refine g_callV (pc := 41) (av := [tI (p2)]) C (c_X3_roomOf hE hvσ16) yv_X3_roomOf ml_X1_141 ck_3 (zopt hvu15).1 rfl (rf_of (by decide)) rfl (Nat.le_of_ble_eq_true rfl) dX1_isBarred_41 ?_
        refine g_iload_n (pc := 44) C 3 4 dX1_isBarred_44 rfl rfl ?_
        refine g_aload_n (pc := 45) C 0 1 dX1_isBarred_45 rfl rfl ?_
        obtain ⟨r18, hvr18, h⟩ := zbind h
        refine g_getR (N := 20) (pc := 46) C ck_1 hvr18 rfl rfl fl_X1_46 dX1_isBarred_46 ?_
        refine g_iconst (v := 2) (pc := 49) C dX1_isBarred_49 (by decide) ?_
        obtain ⟨a19, hqa19, h9⟩ := zbind h
        clear h
        subst hqa19
        have h := h9
        clear h9
        obtain ⟨v20, hvv20, h⟩ := zbind h
        refine g_iald (pc := 50) C hvv20 dX1_isBarred_50 ?_
        obtain ⟨a21, hqa21, h9⟩ := zbind h
        clear h
        subst hqa21
        have h := h9
        clear h9
        obtain ⟨u22, hvu22, h⟩ := zbind h
        obtain ⟨v24, σ23, hvσ23, h⟩ := zcb h
        refine g_callV (pc := 51) (av := [tI (v17), tI (p3), tI (v20)]) C (c_X5_tellLawWords hE hvσ23) yv_X5_tellLawWords ml_X1_104 ck_5 (zopt hvu22).1 rfl (rf_of (by decide)) rfl (Nat.le_of_ble_eq_true rfl) dX1_isBarred_51 ?_
        refine g_aload_n (pc := 54) C 0 1 dX1_isBarred_54 rfl rfl ?_
        obtain ⟨r25, hvr25, h⟩ := zbind h
        refine g_getR (N := 20) (pc := 55) C ck_1 hvr25 rfl rfl fl_X1_58 dX1_isBarred_55 ?_
        obtain ⟨a26, hqa26, h9⟩ := zbind h
        clear h
        subst hqa26
        have h := h9
        clear h9
        obtain ⟨r27, hvr27, h⟩ := zbind h
        refine g_getR (N := 2) (pc := 58) C ck_5 hvr27 rfl rfl fl_X1_129 dX1_isBarred_58 ?_
        refine g_iconst (v := 4) (pc := 61) C dX1_isBarred_61 (by decide) ?_
        refine g_iload_n (pc := 62) C 1 2 dX1_isBarred_62 rfl rfl ?_
        obtain ⟨a28, hqa28, h9⟩ := zbind h
        clear h
        subst hqa28
        have h := h9
        clear h9
        obtain ⟨σ29, hvσ29, h⟩ := zbind h
        refine g_iast (pc := 63) C hvσ29 dX1_isBarred_63 ?_
        refine g_aload_n (pc := 64) C 0 1 dX1_isBarred_64 rfl rfl ?_
        obtain ⟨r30, hvr30, h⟩ := zbind h
        refine g_getR (N := 20) (pc := 65) C ck_1 hvr30 rfl rfl fl_X1_58 dX1_isBarred_65 ?_
        obtain ⟨a31, hqa31, h9⟩ := zbind h
        clear h
        subst hqa31
        have h := h9
        clear h9
        obtain ⟨r32, hvr32, h⟩ := zbind h
        refine g_getR (N := 2) (pc := 68) C ck_5 hvr32 rfl rfl fl_X1_129 dX1_isBarred_68 ?_
        refine g_iconst (v := 5) (pc := 71) C dX1_isBarred_71 (by decide) ?_
        refine g_aload_n (pc := 72) C 0 1 dX1_isBarred_72 rfl rfl ?_
        obtain ⟨r33, hvr33, h⟩ := zbind h
        refine g_getR (N := 20) (pc := 73) C ck_1 hvr33 rfl rfl fl_X1_22 dX1_isBarred_73 ?_
        refine g_iload_n (pc := 76) C 1 2 dX1_isBarred_76 rfl rfl ?_
        obtain ⟨a34, hqa34, h9⟩ := zbind h
        clear h
        subst hqa34
        have h := h9
        clear h9
        obtain ⟨v35, hvv35, h⟩ := zbind h
        refine g_iald (pc := 77) C hvv35 dX1_isBarred_77 ?_
        obtain ⟨a36, hqa36, h9⟩ := zbind h
        clear h
        subst hqa36
        have h := h9
        clear h9
        obtain ⟨σ37, hvσ37, h⟩ := zbind h
        refine g_iast (pc := 78) C hvσ37 dX1_isBarred_78 ?_
        refine g_aload_n (pc := 79) C 0 1 dX1_isBarred_79 rfl rfl ?_
        obtain ⟨r38, hvr38, h⟩ := zbind h
        refine g_getR (N := 20) (pc := 80) C ck_1 hvr38 rfl rfl fl_X1_58 dX1_isBarred_80 ?_
        obtain ⟨a39, hqa39, h9⟩ := zbind h
        clear h
        subst hqa39
        have h := h9
        clear h9
        obtain ⟨r40, hvr40, h⟩ := zbind h
        refine g_getR (N := 2) (pc := 83) C ck_5 hvr40 rfl rfl fl_X1_129 dX1_isBarred_83 ?_
        refine g_bipush (v := 6) (pc := 86) C dX1_isBarred_86 (by decide) ?_
        refine g_iload_n (pc := 88) C 2 3 dX1_isBarred_88 rfl rfl ?_
        obtain ⟨a41, hqa41, h9⟩ := zbind h
        clear h
        subst hqa41
        have h := h9
        clear h9
        obtain ⟨σ42, hvσ42, h⟩ := zbind h
        refine g_iast (pc := 89) C hvσ42 dX1_isBarred_89 ?_
        refine g_aload_n (pc := 90) C 0 1 dX1_isBarred_90 rfl rfl ?_
        obtain ⟨r43, hvr43, h⟩ := zbind h
        refine g_getR (N := 20) (pc := 91) C ck_1 hvr43 rfl rfl fl_X1_58 dX1_isBarred_91 ?_
        obtain ⟨a44, hqa44, h9⟩ := zbind h
        clear h
        subst hqa44
        have h := h9
        clear h9
        obtain ⟨r45, hvr45, h⟩ := zbind h
        refine g_getR (N := 2) (pc := 94) C ck_5 hvr45 rfl rfl fl_X1_129 dX1_isBarred_94 ?_
        refine g_bipush (v := 7) (pc := 97) C dX1_isBarred_97 (by decide) ?_
        refine g_aload_n (pc := 99) C 0 1 dX1_isBarred_99 rfl rfl ?_
        obtain ⟨r46, hvr46, h⟩ := zbind h
        refine g_getR (N := 20) (pc := 100) C ck_1 hvr46 rfl rfl fl_X1_12 dX1_isBarred_100 ?_
        refine g_iload_n (pc := 103) C 2 3 dX1_isBarred_103 rfl rfl ?_
        obtain ⟨a47, hqa47, h9⟩ := zbind h
        clear h
        subst hqa47
        have h := h9
        clear h9
        obtain ⟨u48, hvu48, h⟩ := zbind h
        obtain ⟨v50, σ49, hvσ49, h⟩ := zcb h
        refine g_callV (pc := 104) (av := [tI (p2)]) C (c_X3_highOf hE hvσ49) yv_X3_highOf ml_X1_145 ck_3 (zopt hvu48).1 rfl (rf_of (by decide)) rfl (Nat.le_of_ble_eq_true rfl) dX1_isBarred_104 ?_
        obtain ⟨a51, hqa51, h9⟩ := zbind h
        clear h
        subst hqa51
        have h := h9
        clear h9
        obtain ⟨σ52, hvσ52, h⟩ := zbind h
        refine g_iast (pc := 107) C hvσ52 dX1_isBarred_107 ?_
        refine g_aload (pc := 108) C 0 dX1_isBarred_108 rfl ?_
        refine g_sipush (v := 302) (pc := 110) C dX1_isBarred_110 (by decide) ?_
        refine g_aload_n (pc := 113) C 0 1 dX1_isBarred_113 rfl rfl ?_
        obtain ⟨r53, hvr53, h⟩ := zbind h
        refine g_getR (N := 20) (pc := 114) C ck_1 hvr53 rfl rfl fl_X1_58 dX1_isBarred_114 ?_
        obtain ⟨a54, hqa54, h9⟩ := zbind h
        clear h
        subst hqa54
        have h := h9
        clear h9
        obtain ⟨u55, hvu55, h⟩ := zbind h
        obtain ⟨v57, σ56, hvσ56, h⟩ := zcb h
        refine g_callV (pc := 117) (av := [tI (302), tR (r53)]) C (c_X7_told hE hvσ56) yv_X7_told ml_X1_108 ck_7 (zopt hvu55).1 rfl (rf_of (by decide)) rfl (Nat.le_of_ble_eq_true rfl) dX1_isBarred_117 ?_
        refine g_ldc2 (v := 9000000000) (pc := 120) C dX1_isBarred_120 kl_X1_112 ?_
        refine g_lcmp (pc := 123) C dX1_isBarred_123 ?_
        refine g_if_eq (pc := 124) C 131 dX1_isBarred_124 (by decide) (fun c58 => ?_) (fun c58 => ?_)
        · have h := zif_t c58 h
          refine g_iconst (v := 0) (pc := 131) C dX1_isBarred_131 (by decide) ?_
          obtain ⟨rfl, rfl⟩ := zsome h
          exact g_zret (pc := 132) C rfl hx (by decide) (by rw [hxn]; rfl) (by rw [hxn]; rfl) dX1_isBarred_132
        · have h := zif_f c58 h
          refine g_iconst (v := 1) (pc := 127) C dX1_isBarred_127 (by decide) ?_
          refine g_goto (pc := 128) C 132 dX1_isBarred_128 (by decide) ?_
          obtain ⟨rfl, rfl⟩ := zsome h
          exact g_zret (pc := 132) C rfl hx (by decide) (by rw [hxn]; rfl) (by rw [hxn]; rfl) dX1_isBarred_132
      · have h := zif_t c59 h
        refine g_iconst (v := 0) (pc := 30) C dX1_isBarred_30 (by decide) ?_
        obtain ⟨rfl, rfl⟩ := zsome h
        exact g_zret (pc := 31) C rfl hx (by decide) (by rw [hxn]; rfl) (by rw [hxn]; rfl) dX1_isBarred_31
def rm_X1_unbarred : Room := { frames := 4, cells := 0, slots := 0, locals := 105 }
noncomputable def s_X1_unbarred_j47 (h0 : Nat) (l1 : Int32) (l2 : Int32) (l3 : Int32) (l4 : Int32) (l5 : Int32) (σ : Hp) : Option (((Nat × Int32 × Int32 × Int32 × Int32 × Int32) ⊕ (Int32)) × Hp) :=
  some (Sum.inl ((h0), (l1), (l2), (l3), (l4), (l5 + 1)), σ)
set_option maxRecDepth 100000 in
theorem w_X1_unbarred_j47 {E : E0} (hE : EOK E) {X : X0} (C : XOK E X cX1_unbarred RX1 6 (some .int) rm_X1_unbarred) (hxn : xn X = (rm_X1_unbarred.cells, rm_X1_unbarred.slots)) {KE : (Int32) → Hp → Prop} (e_ret : ∀ (r : Int32) (σ : Hp), KE (r) σ → xd X = (some (tI r), σ)) (h0 : Nat) (l1 : Int32) (l2 : Int32) (l3 : Int32) (l4 : Int32) (l5 : Int32) (σ : Hp) (x : (Nat × Int32 × Int32 × Int32 × Int32 × Int32) ⊕ (Int32)) (σ1 : Hp) (h : s_X1_unbarred_j47 h0 l1 l2 l3 l4 l5 σ = some (x, σ1)) (hI : ∀ v, x = Sum.inl v → (fun (v : Nat × Int32 × Int32 × Int32 × Int32 × Int32) (σ : Hp) => G E X 0 0 6 [(0, tR (some ((v.1)))), (1, tI ((v.2.1))), (2, tI ((v.2.2.1))), (3, tI ((v.2.2.2.1))), (4, tI ((v.2.2.2.2.1))), (5, tI ((v.2.2.2.2.2)))] [] σ) v σ1) (hO : ∀ e, x = Sum.inr e → KE e σ1) : G E X 0 0 47 [(0, tR (some (h0))), (1, tI (l1)), (2, tI (l2)), (3, tI (l3)), (4, tI (l4)), (5, tI (l5))] [] σ := by
  unfold s_X1_unbarred_j47 at h
  refine g_iinc (lm' := [(5, tI (l5 + 1)), (0, tR (some (h0))), (1, tI (l1)), (2, tI (l2)), (3, tI (l3)), (4, tI (l4))]) (v := l5 + 1) (pc := 47) C 5 dX1_unbarred_47 rfl rfl (by decide) rfl ?_
  refine g_goto (pc := 50) C 6 dX1_unbarred_50 (by decide) ?_
  refine g_sub [1, 2, 3, 4, 5, 0] (lm' := [(0, tR (some (h0))), (1, tI (l1)), (2, tI (l2)), (3, tI (l3)), (4, tI (l4)), (5, tI (l5 + 1))]) rfl ?_
  obtain ⟨rfl, rfl⟩ := zsome h
  exact hI _ rfl
noncomputable def s_X1_unbarred_b6 (h0 : Nat) (l1 : Int32) (l2 : Int32) (l3 : Int32) (l4 : Int32) (l5 : Int32) (σ : Hp) : Option (((Nat × Int32 × Int32 × Int32 × Int32 × Int32) ⊕ (Int32)) × Hp) :=
  (rdR 1 σ h0 0).bind fun r1 =>
  (r1).bind fun a2 =>
  (rdI 3 σ a2 3).bind fun v3 =>
  if v3 ≤ l5 then
    some (Sum.inr (l4), σ)
  else
    cb (s_X8_hasBit (l2) (l5) σ) fun v5 σ4 =>
    if v5 = 0 then
      s_X1_unbarred_j47 (h0) (l1) (l2) (l3) (l4) (l5) σ4
    else
      (ck 1 σ4 h0).bind fun u6 =>
      cb (s_X1_isBarred h0 (l1) (l5) (l3) σ4) fun v8 σ7 =>
      if v8 = 0 then
        s_X1_unbarred_j47 (h0) (l1) (l2) (l3) (l4 ||| ((1 : Int32) <<< (l5 &&& 31))) (l5) σ7
      else
        s_X1_unbarred_j47 (h0) (l1) (l2) (l3) (l4) (l5) σ7
noncomputable def s_X1_unbarred_l6 : (Nat × Int32 × Int32 × Int32 × Int32 × Int32) → Hp → Option ((Int32) × Hp) := loopF (fun v => s_X1_unbarred_b6 (v.1) (v.2.1) (v.2.2.1) (v.2.2.2.1) (v.2.2.2.2.1) (v.2.2.2.2.2))
set_option maxRecDepth 100000 in
theorem w_X1_unbarred_b6 {E : E0} (hE : EOK E) {X : X0} (C : XOK E X cX1_unbarred RX1 6 (some .int) rm_X1_unbarred) (hxn : xn X = (rm_X1_unbarred.cells, rm_X1_unbarred.slots)) {KE : (Int32) → Hp → Prop} (e_ret : ∀ (r : Int32) (σ : Hp), KE (r) σ → xd X = (some (tI r), σ)) (h0 : Nat) (l1 : Int32) (l2 : Int32) (l3 : Int32) (l4 : Int32) (l5 : Int32) (σ : Hp) (x : (Nat × Int32 × Int32 × Int32 × Int32 × Int32) ⊕ (Int32)) (σ1 : Hp) (h : s_X1_unbarred_b6 h0 l1 l2 l3 l4 l5 σ = some (x, σ1)) (hI : ∀ v, x = Sum.inl v → (fun (v : Nat × Int32 × Int32 × Int32 × Int32 × Int32) (σ : Hp) => G E X 0 0 6 [(0, tR (some ((v.1)))), (1, tI ((v.2.1))), (2, tI ((v.2.2.1))), (3, tI ((v.2.2.2.1))), (4, tI ((v.2.2.2.2.1))), (5, tI ((v.2.2.2.2.2)))] [] σ) v σ1) (hO : ∀ e, x = Sum.inr e → KE e σ1) : G E X 0 0 6 [(0, tR (some (h0))), (1, tI (l1)), (2, tI (l2)), (3, tI (l3)), (4, tI (l4)), (5, tI (l5))] [] σ := by
  unfold s_X1_unbarred_b6 at h
  refine g_iload (pc := 6) C 5 dX1_unbarred_6 rfl ?_
  refine g_aload_n (pc := 8) C 0 0 dX1_unbarred_8 rfl rfl ?_
  obtain ⟨r1, hvr1, h⟩ := zbind h
  refine g_getR (N := 20) (pc := 9) C ck_1 hvr1 rfl rfl fl_X1_12 dX1_unbarred_9 ?_
  obtain ⟨a2, hqa2, h9⟩ := zbind h
  clear h
  subst hqa2
  have h := h9
  clear h9
  obtain ⟨v3, hvv3, h⟩ := zbind h
  refine g_getI (N := 4) (pc := 12) C ck_3 hvv3 rfl rfl fl_X1_148 dX1_unbarred_12 ?_
  refine g_icmp_ge (pc := 15) C 53 dX1_unbarred_15 (by decide) (fun c11 => ?_) (fun c11 => ?_)
  · have h := zif_t c11 h
    refine g_iload (pc := 53) C 4 dX1_unbarred_53 rfl ?_
    obtain ⟨rfl, rfl⟩ := zsome h
    exact g_iret (pc := 55) C rfl (e_ret _ _ (hO _ rfl)) (by rw [hxn]; rfl) (by rw [hxn]; rfl) dX1_unbarred_55
  · have h := zif_f c11 h
    refine g_iload_n (pc := 18) C 2 2 dX1_unbarred_18 rfl rfl ?_
    refine g_iload (pc := 19) C 5 dX1_unbarred_19 rfl ?_
    obtain ⟨v5, σ4, hvσ4, h⟩ := zcb h
    refine g_callSN (pc := 21) (av := [tI (l2), tI (l5)]) C (c_X8_hasBit hE hvσ4) ys_X8_hasBit ml_X1_96 rfl (rf_of (by decide)) rfl (Nat.le_of_ble_eq_true rfl) dX1_unbarred_21 ?_
    refine g_if_eq (pc := 24) C 47 dX1_unbarred_24 (by decide) (fun c10 => ?_) (fun c10 => ?_)
    · have h := zif_t c10 h
      exact w_X1_unbarred_j47 hE C hxn e_ret _ _ _ _ _ _ _ _ _ h hI hO
    · have h := zif_f c10 h
      refine g_aload_n (pc := 27) C 0 0 dX1_unbarred_27 rfl rfl ?_
      refine g_iload_n (pc := 28) C 1 1 dX1_unbarred_28 rfl rfl ?_
      refine g_iload (pc := 29) C 5 dX1_unbarred_29 rfl ?_
      refine g_iload_n (pc := 31) C 3 3 dX1_unbarred_31 rfl rfl ?_
      obtain ⟨u6, hvu6, h⟩ := zbind h
      obtain ⟨v8, σ7, hvσ7, h⟩ := zcb h
      refine g_callV (pc := 32) (av := [tI (l1), tI (l5), tI (l3)]) C (c_X1_isBarred hE hvσ7) yv_X1_isBarred ml_X1_151 ck_1 (zopt hvu6).1 rfl (rf_of (by decide)) rfl (Nat.le_of_ble_eq_true rfl) dX1_unbarred_32 ?_
      refine g_if_ne (pc := 35) C 47 dX1_unbarred_35 (by decide) (fun c9 => ?_) (fun c9 => ?_)
      · have h := zif_f c9 h
        exact w_X1_unbarred_j47 hE C hxn e_ret _ _ _ _ _ _ _ _ _ h hI hO
      · have h := zif_t c9 h
        refine g_iload (pc := 38) C 4 dX1_unbarred_38 rfl ?_
        refine g_iconst (v := 1) (pc := 40) C dX1_unbarred_40 (by decide) ?_
        refine g_iload (pc := 41) C 5 dX1_unbarred_41 rfl ?_
        refine g_ishl (pc := 43) C dX1_unbarred_43 ?_
        refine g_ior (pc := 44) C dX1_unbarred_44 ?_
        refine g_istore (lm' := [(4, tI (l4 ||| ((1 : Int32) <<< (l5 &&& 31)))), (0, tR (some (h0))), (1, tI (l1)), (2, tI (l2)), (3, tI (l3)), (5, tI (l5))]) (pc := 45) C dX1_unbarred_45 (by decide) rfl ?_
        refine g_sub [1, 2, 3, 4, 0, 5] (lm' := [(0, tR (some (h0))), (1, tI (l1)), (2, tI (l2)), (3, tI (l3)), (4, tI (l4 ||| ((1 : Int32) <<< (l5 &&& 31)))), (5, tI (l5))]) rfl ?_
        exact w_X1_unbarred_j47 hE C hxn e_ret _ _ _ _ _ _ _ _ _ h hI hO
theorem w_X1_unbarred_l6 {E : E0} (hE : EOK E) {X : X0} (C : XOK E X cX1_unbarred RX1 6 (some .int) rm_X1_unbarred) (hxn : xn X = (rm_X1_unbarred.cells, rm_X1_unbarred.slots)) {KE : (Int32) → Hp → Prop} (e_ret : ∀ (r : Int32) (σ : Hp), KE (r) σ → xd X = (some (tI r), σ)) {v : Nat × Int32 × Int32 × Int32 × Int32 × Int32} {σ : Hp} {e : Int32} {σ1 : Hp} (h : s_X1_unbarred_l6 v σ = some (e, σ1)) (hO : KE e σ1) : G E X 0 0 6 [(0, tR (some ((v.1)))), (1, tI ((v.2.1))), (2, tI ((v.2.2.1))), (3, tI ((v.2.2.2.1))), (4, tI ((v.2.2.2.2.1))), (5, tI ((v.2.2.2.2.2)))] [] σ := loopF_ind (P := fun (v : Nat × Int32 × Int32 × Int32 × Int32 × Int32) (σ : Hp) => G E X 0 0 6 [(0, tR (some ((v.1)))), (1, tI ((v.2.1))), (2, tI ((v.2.2.1))), (3, tI ((v.2.2.2.1))), (4, tI ((v.2.2.2.2.1))), (5, tI ((v.2.2.2.2.2)))] [] σ) (KE := KE) (fun v σ x σ1 h hI hO => w_X1_unbarred_b6 hE C hxn e_ret (v.1) (v.2.1) (v.2.2.1) (v.2.2.2.1) (v.2.2.2.2.1) (v.2.2.2.2.2) σ x σ1 h hI hO) v σ e σ1 h hO
noncomputable def s_X1_unbarred (h0 : Nat) (p1 : Int32) (p2 : Int32) (p3 : Int32) (σ : Hp) : Option (Int32 × Hp) :=
  cb (s_X1_unbarred_l6 ((h0), (p1), (p2), (p3), (0), (0)) σ) fun r2 σ3 =>
  some (r2, σ3)
set_option maxRecDepth 100000 in
theorem c_X1_unbarred {E : E0} (hE : EOK E) {h0 : Nat} {p1 : Int32} {p2 : Int32} {p3 : Int32} {σ σ1 : Hp} {r : Int32} (h : s_X1_unbarred h0 p1 p2 p3 σ = some (r, σ1)) : CT E yX1_unbarred (.code yX1_unbarred cX1_unbarred 6 (some .int)) rm_X1_unbarred [tR (some (h0)), tI (p1), tI (p2), tI (p3)] σ (some (tI r)) σ1 := by
  refine CT.mk hE (by decide +kernel) (Nat.le_of_ble_eq_true rfl) [(0, tR (some (h0))), (1, tI (p1)), (2, tI (p2)), (3, tI (p3))] rfl (fun X C hin hx hxn => ?_)
  have C : XOK E X cX1_unbarred RX1 6 (some .int) rm_X1_unbarred := C
  unfold s_X1_unbarred at h
  refine g_iconst (v := 0) (pc := 0) C dX1_unbarred_0 (by decide) ?_
  refine g_istore (lm' := [(4, tI (0)), (0, tR (some (h0))), (1, tI (p1)), (2, tI (p2)), (3, tI (p3))]) (pc := 1) C dX1_unbarred_1 (by decide) rfl ?_
  refine g_iconst (v := 0) (pc := 3) C dX1_unbarred_3 (by decide) ?_
  refine g_istore (lm' := [(5, tI (0)), (4, tI (0)), (0, tR (some (h0))), (1, tI (p1)), (2, tI (p2)), (3, tI (p3))]) (pc := 4) C dX1_unbarred_4 (by decide) rfl ?_
  refine g_sub [2, 3, 4, 5, 1, 0] (lm' := [(0, tR (some (h0))), (1, tI (p1)), (2, tI (p2)), (3, tI (p3)), (4, tI (0)), (5, tI (0))]) rfl ?_
  obtain ⟨KQ, hKQ, r2, σ3, hlr2, h⟩ := zcbK h
  refine w_X1_unbarred_l6 (KE := KQ) hE C hxn ?_ hlr2 h
  · intro r2 σ1 h
    have h := (hKQ _ _).mp h
    obtain ⟨rfl, rfl⟩ := zsome h
    exact hx
def rm_X1_isSafe : Room := { frames := 4, cells := 0, slots := 0, locals := 106 }
noncomputable def s_X1_isSafe (h0 : Nat) (p1 : Int32) (p2 : Int32) (σ : Hp) : Option (Int32 × Hp) :=
  (rdR 1 σ h0 0).bind fun r1 =>
  (r1).bind fun a2 =>
  (ck 3 σ a2).bind fun u3 =>
  cb (s_X3_isOne a2 (p1) σ) fun v5 σ4 =>
  if v5 = 0 then
    some ((0), σ4)
  else
    (rdR 1 σ4 h0 0).bind fun r6 =>
    (r6).bind fun a7 =>
    (ck 3 σ4 a7).bind fun u8 =>
    cb (s_X3_highOf a7 (p1) σ4) fun v10 σ9 =>
    (ck 1 σ9 h0).bind fun u11 =>
    cb (s_X1_lawInForce h0 σ9) fun r13 σ12 =>
    (rdR 1 σ12 h0 0).bind fun r14 =>
    (r14).bind fun a15 =>
    (ck 3 σ12 a15).bind fun u16 =>
    cb (s_X3_roomOf a15 (p1) σ12) fun v18 σ17 =>
    (ck 1 σ17 h0).bind fun u19 =>
    cb (s_X1_theirsBy h0 (r13) (v18) (p2) σ17) fun v21 σ20 =>
    if v10 < v21 then
      some ((0), σ20)
    else
      some ((1), σ20)
set_option maxRecDepth 100000 in
theorem c_X1_isSafe {E : E0} (hE : EOK E) {h0 : Nat} {p1 : Int32} {p2 : Int32} {σ σ1 : Hp} {r : Int32} (h : s_X1_isSafe h0 p1 p2 σ = some (r, σ1)) : CT E yX1_isSafe (.code yX1_isSafe cX1_isSafe 3 (some .boolean)) rm_X1_isSafe [tR (some (h0)), tI (p1), tI (p2)] σ (some (tI r)) σ1 := by
  refine CT.mk hE (by decide +kernel) (Nat.le_of_ble_eq_true rfl) [(0, tR (some (h0))), (1, tI (p1)), (2, tI (p2))] rfl (fun X C hin hx hxn => ?_)
  have C : XOK E X cX1_isSafe RX1 3 (some .boolean) rm_X1_isSafe := C
  unfold s_X1_isSafe at h
  refine g_aload_n (pc := 0) C 0 0 dX1_isSafe_0 rfl rfl ?_
  obtain ⟨r1, hvr1, h⟩ := zbind h
  refine g_getR (N := 20) (pc := 1) C ck_1 hvr1 rfl rfl fl_X1_12 dX1_isSafe_1 ?_
  refine g_iload_n (pc := 4) C 1 1 dX1_isSafe_4 rfl rfl ?_
  obtain ⟨a2, hqa2, h9⟩ := zbind h
  clear h
  subst hqa2
  have h := h9
  clear h9
  obtain ⟨u3, hvu3, h⟩ := zbind h
  obtain ⟨v5, σ4, hvσ4, h⟩ := zcb h
  refine g_callV (pc := 5) (av := [tI (p1)]) C (c_X3_isOne hE hvσ4) yv_X3_isOne ml_X1_138 ck_3 (zopt hvu3).1 rfl (rf_of (by decide)) rfl (Nat.le_of_ble_eq_true rfl) dX1_isSafe_5 ?_
  refine g_if_eq (pc := 8) C 43 dX1_isSafe_8 (by decide) (fun c23 => ?_) (fun c23 => ?_)
  · have h := zif_t c23 h
    refine g_iconst (v := 0) (pc := 43) C dX1_isSafe_43 (by decide) ?_
    obtain ⟨rfl, rfl⟩ := zsome h
    exact g_zret (pc := 44) C rfl hx (by decide) (by rw [hxn]; rfl) (by rw [hxn]; rfl) dX1_isSafe_44
  · have h := zif_f c23 h
    refine g_aload_n (pc := 11) C 0 0 dX1_isSafe_11 rfl rfl ?_
    obtain ⟨r6, hvr6, h⟩ := zbind h
    refine g_getR (N := 20) (pc := 12) C ck_1 hvr6 rfl rfl fl_X1_12 dX1_isSafe_12 ?_
    refine g_iload_n (pc := 15) C 1 1 dX1_isSafe_15 rfl rfl ?_
    obtain ⟨a7, hqa7, h9⟩ := zbind h
    clear h
    subst hqa7
    have h := h9
    clear h9
    obtain ⟨u8, hvu8, h⟩ := zbind h
    obtain ⟨v10, σ9, hvσ9, h⟩ := zcb h
    refine g_callV (pc := 16) (av := [tI (p1)]) C (c_X3_highOf hE hvσ9) yv_X3_highOf ml_X1_145 ck_3 (zopt hvu8).1 rfl (rf_of (by decide)) rfl (Nat.le_of_ble_eq_true rfl) dX1_isSafe_16 ?_
    refine g_aload_n (pc := 19) C 0 0 dX1_isSafe_19 rfl rfl ?_
    refine g_aload_n (pc := 20) C 0 0 dX1_isSafe_20 rfl rfl ?_
    obtain ⟨u11, hvu11, h⟩ := zbind h
    obtain ⟨r13, σ12, hvσ12, h⟩ := zcb h
    refine g_callV (pc := 21) (av := []) C (c_X1_lawInForce hE hvσ12) yv_X1_lawInForce ml_X1_125 ck_1 (zopt hvu11).1 rfl (rf_of (by decide)) rfl (Nat.le_of_ble_eq_true rfl) dX1_isSafe_21 ?_
    refine g_aload_n (pc := 24) C 0 0 dX1_isSafe_24 rfl rfl ?_
    obtain ⟨r14, hvr14, h⟩ := zbind h
    refine g_getR (N := 20) (pc := 25) C ck_1 hvr14 rfl rfl fl_X1_12 dX1_isSafe_25 ?_
    refine g_iload_n (pc := 28) C 1 1 dX1_isSafe_28 rfl rfl ?_
    obtain ⟨a15, hqa15, h9⟩ := zbind h
    clear h
    subst hqa15
    have h := h9
    clear h9
    obtain ⟨u16, hvu16, h⟩ := zbind h
    obtain ⟨v18, σ17, hvσ17, h⟩ := zcb h
    refine g_callV (pc := 29) (av := [tI (p1)]) C (c_X3_roomOf hE hvσ17) yv_X3_roomOf ml_X1_141 ck_3 (zopt hvu16).1 rfl (rf_of (by decide)) rfl (Nat.le_of_ble_eq_true rfl) dX1_isSafe_29 ?_
    refine g_iload_n (pc := 32) C 2 2 dX1_isSafe_32 rfl rfl ?_
    obtain ⟨u19, hvu19, h⟩ := zbind h
    obtain ⟨v21, σ20, hvσ20, h⟩ := zcb h
    refine g_callV (pc := 33) (av := [tR (r13), tI (v18), tI (p2)]) C (c_X1_theirsBy hE hvσ20) yv_X1_theirsBy ml_X1_155 ck_1 (zopt hvu19).1 rfl (rf_of (by decide)) rfl (Nat.le_of_ble_eq_true rfl) dX1_isSafe_33 ?_
    refine g_icmp_lt (pc := 36) C 43 dX1_isSafe_36 (by decide) (fun c22 => ?_) (fun c22 => ?_)
    · have h := zif_t c22 h
      refine g_iconst (v := 0) (pc := 43) C dX1_isSafe_43 (by decide) ?_
      obtain ⟨rfl, rfl⟩ := zsome h
      exact g_zret (pc := 44) C rfl hx (by decide) (by rw [hxn]; rfl) (by rw [hxn]; rfl) dX1_isSafe_44
    · have h := zif_f c22 h
      refine g_iconst (v := 1) (pc := 39) C dX1_isSafe_39 (by decide) ?_
      refine g_goto (pc := 40) C 44 dX1_isSafe_40 (by decide) ?_
      obtain ⟨rfl, rfl⟩ := zsome h
      exact g_zret (pc := 44) C rfl hx (by decide) (by rw [hxn]; rfl) (by rw [hxn]; rfl) dX1_isSafe_44
def rm_X1_safePerches : Room := { frames := 4, cells := 0, slots := 0, locals := 106 }
noncomputable def s_X1_safePerches_j71 (h0 : Nat) (l1 : Int32) (l2 : Int32) (l3 : Int32) (l4 : Int32) (l5 : Int32) (σ : Hp) : Option (((Nat × Int32 × Int32 × Int32 × Int32 × Int32) ⊕ ((Nat × Int32 × Int32 × Int32))) × Hp) :=
  some (Sum.inl ((h0), (l1), (l2), (l3), (l4), (l5 + 1)), σ)
set_option maxRecDepth 100000 in
theorem w_X1_safePerches_j71 {E : E0} (hE : EOK E) {X : X0} (C : XOK E X cX1_safePerches RX1 6 (some .int) rm_X1_safePerches) (hxn : xn X = (rm_X1_safePerches.cells, rm_X1_safePerches.slots)) {KE : ((Nat × Int32 × Int32 × Int32)) → Hp → Prop} (e_77 : ∀ (h0 : Nat) (l1 : Int32) (l2 : Int32) (l3 : Int32) (σ : Hp), KE ((h0, l1, l2, l3)) σ → G E X 0 0 77 [(0, tR (some (h0))), (1, tI (l1)), (2, tI (l2)), (3, tI (l3))] [] σ) (h0 : Nat) (l1 : Int32) (l2 : Int32) (l3 : Int32) (l4 : Int32) (l5 : Int32) (σ : Hp) (x : (Nat × Int32 × Int32 × Int32 × Int32 × Int32) ⊕ ((Nat × Int32 × Int32 × Int32))) (σ1 : Hp) (h : s_X1_safePerches_j71 h0 l1 l2 l3 l4 l5 σ = some (x, σ1)) (hI : ∀ v, x = Sum.inl v → (fun (v : Nat × Int32 × Int32 × Int32 × Int32 × Int32) (σ : Hp) => G E X 0 0 25 [(0, tR (some ((v.1)))), (1, tI ((v.2.1))), (2, tI ((v.2.2.1))), (3, tI ((v.2.2.2.1))), (4, tI ((v.2.2.2.2.1))), (5, tI ((v.2.2.2.2.2)))] [] σ) v σ1) (hO : ∀ e, x = Sum.inr e → KE e σ1) : G E X 0 0 71 [(0, tR (some (h0))), (1, tI (l1)), (2, tI (l2)), (3, tI (l3)), (4, tI (l4)), (5, tI (l5))] [] σ := by
  unfold s_X1_safePerches_j71 at h
  refine g_iinc (lm' := [(5, tI (l5 + 1)), (0, tR (some (h0))), (1, tI (l1)), (2, tI (l2)), (3, tI (l3)), (4, tI (l4))]) (v := l5 + 1) (pc := 71) C 5 dX1_safePerches_71 rfl rfl (by decide) rfl ?_
  refine g_goto (pc := 74) C 25 dX1_safePerches_74 (by decide) ?_
  refine g_sub [1, 2, 3, 4, 5, 0] (lm' := [(0, tR (some (h0))), (1, tI (l1)), (2, tI (l2)), (3, tI (l3)), (4, tI (l4)), (5, tI (l5 + 1))]) rfl ?_
  obtain ⟨rfl, rfl⟩ := zsome h
  exact hI _ rfl
noncomputable def s_X1_safePerches_b25 (h0 : Nat) (l1 : Int32) (l2 : Int32) (l3 : Int32) (l4 : Int32) (l5 : Int32) (σ : Hp) : Option (((Nat × Int32 × Int32 × Int32 × Int32 × Int32) ⊕ ((Nat × Int32 × Int32 × Int32))) × Hp) :=
  (rdR 1 σ h0 0).bind fun r1 =>
  (r1).bind fun a2 =>
  (rdI 3 σ a2 3).bind fun v3 =>
  if v3 ≤ l5 then
    some (Sum.inr ((h0), (l1), (l2), (l3)), σ)
  else
    (rdR 1 σ h0 0).bind fun r4 =>
    (r4).bind fun a5 =>
    (ck 3 σ a5).bind fun u6 =>
    cb (s_X3_roomOf a5 (l5) σ) fun v8 σ7 =>
    if v8 = l3 then
      (rdR 1 σ7 h0 0).bind fun r9 =>
      (r9).bind fun a10 =>
      (ck 3 σ7 a10).bind fun u11 =>
      cb (s_X3_highOf a10 (l5) σ7) fun v13 σ12 =>
      if v13 < l4 then
        s_X1_safePerches_j71 (h0) (l1) (l2) (l3) (l4) (l5) σ12
      else
        s_X1_safePerches_j71 (h0) (l1) (l2 ||| ((1 : Int32) <<< (l5 &&& 31))) (l3) (l4) (l5) σ12
    else
      s_X1_safePerches_j71 (h0) (l1) (l2) (l3) (l4) (l5) σ7
noncomputable def s_X1_safePerches_l25 : (Nat × Int32 × Int32 × Int32 × Int32 × Int32) → Hp → Option (((Nat × Int32 × Int32 × Int32)) × Hp) := loopF (fun v => s_X1_safePerches_b25 (v.1) (v.2.1) (v.2.2.1) (v.2.2.2.1) (v.2.2.2.2.1) (v.2.2.2.2.2))
set_option maxRecDepth 100000 in
theorem w_X1_safePerches_b25 {E : E0} (hE : EOK E) {X : X0} (C : XOK E X cX1_safePerches RX1 6 (some .int) rm_X1_safePerches) (hxn : xn X = (rm_X1_safePerches.cells, rm_X1_safePerches.slots)) {KE : ((Nat × Int32 × Int32 × Int32)) → Hp → Prop} (e_77 : ∀ (h0 : Nat) (l1 : Int32) (l2 : Int32) (l3 : Int32) (σ : Hp), KE ((h0, l1, l2, l3)) σ → G E X 0 0 77 [(0, tR (some (h0))), (1, tI (l1)), (2, tI (l2)), (3, tI (l3))] [] σ) (h0 : Nat) (l1 : Int32) (l2 : Int32) (l3 : Int32) (l4 : Int32) (l5 : Int32) (σ : Hp) (x : (Nat × Int32 × Int32 × Int32 × Int32 × Int32) ⊕ ((Nat × Int32 × Int32 × Int32))) (σ1 : Hp) (h : s_X1_safePerches_b25 h0 l1 l2 l3 l4 l5 σ = some (x, σ1)) (hI : ∀ v, x = Sum.inl v → (fun (v : Nat × Int32 × Int32 × Int32 × Int32 × Int32) (σ : Hp) => G E X 0 0 25 [(0, tR (some ((v.1)))), (1, tI ((v.2.1))), (2, tI ((v.2.2.1))), (3, tI ((v.2.2.2.1))), (4, tI ((v.2.2.2.2.1))), (5, tI ((v.2.2.2.2.2)))] [] σ) v σ1) (hO : ∀ e, x = Sum.inr e → KE e σ1) : G E X 0 0 25 [(0, tR (some (h0))), (1, tI (l1)), (2, tI (l2)), (3, tI (l3)), (4, tI (l4)), (5, tI (l5))] [] σ := by
  unfold s_X1_safePerches_b25 at h
  refine g_iload (pc := 25) C 5 dX1_safePerches_25 rfl ?_
  refine g_aload_n (pc := 27) C 0 0 dX1_safePerches_27 rfl rfl ?_
  obtain ⟨r1, hvr1, h⟩ := zbind h
  refine g_getR (N := 20) (pc := 28) C ck_1 hvr1 rfl rfl fl_X1_12 dX1_safePerches_28 ?_
  obtain ⟨a2, hqa2, h9⟩ := zbind h
  clear h
  subst hqa2
  have h := h9
  clear h9
  obtain ⟨v3, hvv3, h⟩ := zbind h
  refine g_getI (N := 4) (pc := 31) C ck_3 hvv3 rfl rfl fl_X1_148 dX1_safePerches_31 ?_
  refine g_icmp_ge (pc := 34) C 77 dX1_safePerches_34 (by decide) (fun c16 => ?_) (fun c16 => ?_)
  · have h := zif_t c16 h
    refine g_sub [0, 1, 2, 3] (lm' := [(0, tR (some (h0))), (1, tI (l1)), (2, tI (l2)), (3, tI (l3))]) rfl ?_
    obtain ⟨rfl, rfl⟩ := zsome h
    exact e_77 _ _ _ _ _ (hO _ rfl)
  · have h := zif_f c16 h
    refine g_aload_n (pc := 37) C 0 0 dX1_safePerches_37 rfl rfl ?_
    obtain ⟨r4, hvr4, h⟩ := zbind h
    refine g_getR (N := 20) (pc := 38) C ck_1 hvr4 rfl rfl fl_X1_12 dX1_safePerches_38 ?_
    refine g_iload (pc := 41) C 5 dX1_safePerches_41 rfl ?_
    obtain ⟨a5, hqa5, h9⟩ := zbind h
    clear h
    subst hqa5
    have h := h9
    clear h9
    obtain ⟨u6, hvu6, h⟩ := zbind h
    obtain ⟨v8, σ7, hvσ7, h⟩ := zcb h
    refine g_callV (pc := 43) (av := [tI (l5)]) C (c_X3_roomOf hE hvσ7) yv_X3_roomOf ml_X1_141 ck_3 (zopt hvu6).1 rfl (rf_of (by decide)) rfl (Nat.le_of_ble_eq_true rfl) dX1_safePerches_43 ?_
    refine g_iload_n (pc := 46) C 3 3 dX1_safePerches_46 rfl rfl ?_
    refine g_icmp_ne (pc := 47) C 71 dX1_safePerches_47 (by decide) (fun c15 => ?_) (fun c15 => ?_)
    · have h := zif_f c15 h
      exact w_X1_safePerches_j71 hE C hxn e_77 _ _ _ _ _ _ _ _ _ h hI hO
    · have h := zif_t c15 h
      refine g_aload_n (pc := 50) C 0 0 dX1_safePerches_50 rfl rfl ?_
      obtain ⟨r9, hvr9, h⟩ := zbind h
      refine g_getR (N := 20) (pc := 51) C ck_1 hvr9 rfl rfl fl_X1_12 dX1_safePerches_51 ?_
      refine g_iload (pc := 54) C 5 dX1_safePerches_54 rfl ?_
      obtain ⟨a10, hqa10, h9⟩ := zbind h
      clear h
      subst hqa10
      have h := h9
      clear h9
      obtain ⟨u11, hvu11, h⟩ := zbind h
      obtain ⟨v13, σ12, hvσ12, h⟩ := zcb h
      refine g_callV (pc := 56) (av := [tI (l5)]) C (c_X3_highOf hE hvσ12) yv_X3_highOf ml_X1_145 ck_3 (zopt hvu11).1 rfl (rf_of (by decide)) rfl (Nat.le_of_ble_eq_true rfl) dX1_safePerches_56 ?_
      refine g_iload (pc := 59) C 4 dX1_safePerches_59 rfl ?_
      refine g_icmp_lt (pc := 61) C 71 dX1_safePerches_61 (by decide) (fun c14 => ?_) (fun c14 => ?_)
      · have h := zif_t c14 h
        exact w_X1_safePerches_j71 hE C hxn e_77 _ _ _ _ _ _ _ _ _ h hI hO
      · have h := zif_f c14 h
        refine g_iload_n (pc := 64) C 2 2 dX1_safePerches_64 rfl rfl ?_
        refine g_iconst (v := 1) (pc := 65) C dX1_safePerches_65 (by decide) ?_
        refine g_iload (pc := 66) C 5 dX1_safePerches_66 rfl ?_
        refine g_ishl (pc := 68) C dX1_safePerches_68 ?_
        refine g_ior (pc := 69) C dX1_safePerches_69 ?_
        refine g_istore_n (lm' := [(2, tI (l2 ||| ((1 : Int32) <<< (l5 &&& 31)))), (0, tR (some (h0))), (1, tI (l1)), (3, tI (l3)), (4, tI (l4)), (5, tI (l5))]) (pc := 70) C 2 dX1_safePerches_70 rfl (by decide) rfl ?_
        refine g_sub [1, 2, 0, 3, 4, 5] (lm' := [(0, tR (some (h0))), (1, tI (l1)), (2, tI (l2 ||| ((1 : Int32) <<< (l5 &&& 31)))), (3, tI (l3)), (4, tI (l4)), (5, tI (l5))]) rfl ?_
        exact w_X1_safePerches_j71 hE C hxn e_77 _ _ _ _ _ _ _ _ _ h hI hO
theorem w_X1_safePerches_l25 {E : E0} (hE : EOK E) {X : X0} (C : XOK E X cX1_safePerches RX1 6 (some .int) rm_X1_safePerches) (hxn : xn X = (rm_X1_safePerches.cells, rm_X1_safePerches.slots)) {KE : ((Nat × Int32 × Int32 × Int32)) → Hp → Prop} (e_77 : ∀ (h0 : Nat) (l1 : Int32) (l2 : Int32) (l3 : Int32) (σ : Hp), KE ((h0, l1, l2, l3)) σ → G E X 0 0 77 [(0, tR (some (h0))), (1, tI (l1)), (2, tI (l2)), (3, tI (l3))] [] σ) {v : Nat × Int32 × Int32 × Int32 × Int32 × Int32} {σ : Hp} {e : (Nat × Int32 × Int32 × Int32)} {σ1 : Hp} (h : s_X1_safePerches_l25 v σ = some (e, σ1)) (hO : KE e σ1) : G E X 0 0 25 [(0, tR (some ((v.1)))), (1, tI ((v.2.1))), (2, tI ((v.2.2.1))), (3, tI ((v.2.2.2.1))), (4, tI ((v.2.2.2.2.1))), (5, tI ((v.2.2.2.2.2)))] [] σ := loopF_ind (P := fun (v : Nat × Int32 × Int32 × Int32 × Int32 × Int32) (σ : Hp) => G E X 0 0 25 [(0, tR (some ((v.1)))), (1, tI ((v.2.1))), (2, tI ((v.2.2.1))), (3, tI ((v.2.2.2.1))), (4, tI ((v.2.2.2.2.1))), (5, tI ((v.2.2.2.2.2)))] [] σ) (KE := KE) (fun v σ x σ1 h hI hO => w_X1_safePerches_b25 hE C hxn e_77 (v.1) (v.2.1) (v.2.2.1) (v.2.2.2.1) (v.2.2.2.2.1) (v.2.2.2.2.2) σ x σ1 h hI hO) v σ e σ1 h hO
noncomputable def s_X1_safePerches_b4 (h0 : Nat) (l1 : Int32) (l2 : Int32) (l3 : Int32) (σ : Hp) : Option (((Nat × Int32 × Int32 × Int32) ⊕ (Int32)) × Hp) :=
  if 6 ≤ l3 then
    some (Sum.inr (l2), σ)
  else
    (ck 1 σ h0).bind fun u1 =>
    cb (s_X1_lawInForce h0 σ) fun r3 σ2 =>
    (ck 1 σ2 h0).bind fun u4 =>
    cb (s_X1_theirsBy h0 (r3) (l3) (l1) σ2) fun v6 σ5 =>
    cb (s_X1_safePerches_l25 ((h0), (l1), (l2), (l3), (v6), (0)) σ5) fun e14 σ13 =>
    match e14 with
    | (h7, l18, l29, l310) =>
      some (Sum.inl ((h7), (l18), (l29), (l310 + 1)), σ13)
noncomputable def s_X1_safePerches_l4 : (Nat × Int32 × Int32 × Int32) → Hp → Option ((Int32) × Hp) := loopF (fun v => s_X1_safePerches_b4 (v.1) (v.2.1) (v.2.2.1) (v.2.2.2))
set_option maxRecDepth 100000 in
theorem w_X1_safePerches_b4 {E : E0} (hE : EOK E) {X : X0} (C : XOK E X cX1_safePerches RX1 6 (some .int) rm_X1_safePerches) (hxn : xn X = (rm_X1_safePerches.cells, rm_X1_safePerches.slots)) {KE : (Int32) → Hp → Prop} (e_ret : ∀ (r : Int32) (σ : Hp), KE (r) σ → xd X = (some (tI r), σ)) (h0 : Nat) (l1 : Int32) (l2 : Int32) (l3 : Int32) (σ : Hp) (x : (Nat × Int32 × Int32 × Int32) ⊕ (Int32)) (σ1 : Hp) (h : s_X1_safePerches_b4 h0 l1 l2 l3 σ = some (x, σ1)) (hI : ∀ v, x = Sum.inl v → (fun (v : Nat × Int32 × Int32 × Int32) (σ : Hp) => G E X 0 0 4 [(0, tR (some ((v.1)))), (1, tI ((v.2.1))), (2, tI ((v.2.2.1))), (3, tI ((v.2.2.2)))] [] σ) v σ1) (hO : ∀ e, x = Sum.inr e → KE e σ1) : G E X 0 0 4 [(0, tR (some (h0))), (1, tI (l1)), (2, tI (l2)), (3, tI (l3))] [] σ := by
  unfold s_X1_safePerches_b4 at h
  refine g_iload_n (pc := 4) C 3 3 dX1_safePerches_4 rfl rfl ?_
  refine g_bipush (v := 6) (pc := 5) C dX1_safePerches_5 (by decide) ?_
  refine g_icmp_ge (pc := 7) C 83 dX1_safePerches_7 (by decide) (fun c15 => ?_) (fun c15 => ?_)
  · have h := zif_t c15 h
    refine g_iload_n (pc := 83) C 2 2 dX1_safePerches_83 rfl rfl ?_
    obtain ⟨rfl, rfl⟩ := zsome h
    exact g_iret (pc := 84) C rfl (e_ret _ _ (hO _ rfl)) (by rw [hxn]; rfl) (by rw [hxn]; rfl) dX1_safePerches_84
  · have h := zif_f c15 h
    refine g_aload_n (pc := 10) C 0 0 dX1_safePerches_10 rfl rfl ?_
    refine g_aload_n (pc := 11) C 0 0 dX1_safePerches_11 rfl rfl ?_
    obtain ⟨u1, hvu1, h⟩ := zbind h
    obtain ⟨r3, σ2, hvσ2, h⟩ := zcb h
    refine g_callV (pc := 12) (av := []) C (c_X1_lawInForce hE hvσ2) yv_X1_lawInForce ml_X1_125 ck_1 (zopt hvu1).1 rfl (rf_of (by decide)) rfl (Nat.le_of_ble_eq_true rfl) dX1_safePerches_12 ?_
    refine g_iload_n (pc := 15) C 3 3 dX1_safePerches_15 rfl rfl ?_
    refine g_iload_n (pc := 16) C 1 1 dX1_safePerches_16 rfl rfl ?_
    obtain ⟨u4, hvu4, h⟩ := zbind h
    obtain ⟨v6, σ5, hvσ5, h⟩ := zcb h
    refine g_callV (pc := 17) (av := [tR (r3), tI (l3), tI (l1)]) C (c_X1_theirsBy hE hvσ5) yv_X1_theirsBy ml_X1_155 ck_1 (zopt hvu4).1 rfl (rf_of (by decide)) rfl (Nat.le_of_ble_eq_true rfl) dX1_safePerches_17 ?_
    refine g_istore (lm' := [(4, tI (v6)), (0, tR (some (h0))), (1, tI (l1)), (2, tI (l2)), (3, tI (l3))]) (pc := 20) C dX1_safePerches_20 (by decide) rfl ?_
    refine g_iconst (v := 0) (pc := 22) C dX1_safePerches_22 (by decide) ?_
    refine g_istore (lm' := [(5, tI (0)), (4, tI (v6)), (0, tR (some (h0))), (1, tI (l1)), (2, tI (l2)), (3, tI (l3))]) (pc := 23) C dX1_safePerches_23 (by decide) rfl ?_
    refine g_sub [2, 3, 4, 5, 1, 0] (lm' := [(0, tR (some (h0))), (1, tI (l1)), (2, tI (l2)), (3, tI (l3)), (4, tI (v6)), (5, tI (0))]) rfl ?_
    obtain ⟨KQ, hKQ, e14, σ13, hle14, h⟩ := zcbK h
    refine w_X1_safePerches_l25 (KE := KQ) hE C hxn ?_ hle14 h
    · intro h7 l18 l29 l310 σ11 h
      have h := (hKQ _ _).mp h
      refine g_iinc (lm' := [(3, tI (l310 + 1)), (0, tR (some (h7))), (1, tI (l18)), (2, tI (l29))]) (v := l310 + 1) (pc := 77) C 3 dX1_safePerches_77 rfl rfl (by decide) rfl ?_
      refine g_goto (pc := 80) C 4 dX1_safePerches_80 (by decide) ?_
      refine g_sub [1, 2, 3, 0] (lm' := [(0, tR (some (h7))), (1, tI (l18)), (2, tI (l29)), (3, tI (l310 + 1))]) rfl ?_
      obtain ⟨rfl, rfl⟩ := zsome h
      exact hI _ rfl
theorem w_X1_safePerches_l4 {E : E0} (hE : EOK E) {X : X0} (C : XOK E X cX1_safePerches RX1 6 (some .int) rm_X1_safePerches) (hxn : xn X = (rm_X1_safePerches.cells, rm_X1_safePerches.slots)) {KE : (Int32) → Hp → Prop} (e_ret : ∀ (r : Int32) (σ : Hp), KE (r) σ → xd X = (some (tI r), σ)) {v : Nat × Int32 × Int32 × Int32} {σ : Hp} {e : Int32} {σ1 : Hp} (h : s_X1_safePerches_l4 v σ = some (e, σ1)) (hO : KE e σ1) : G E X 0 0 4 [(0, tR (some ((v.1)))), (1, tI ((v.2.1))), (2, tI ((v.2.2.1))), (3, tI ((v.2.2.2)))] [] σ := loopF_ind (P := fun (v : Nat × Int32 × Int32 × Int32) (σ : Hp) => G E X 0 0 4 [(0, tR (some ((v.1)))), (1, tI ((v.2.1))), (2, tI ((v.2.2.1))), (3, tI ((v.2.2.2)))] [] σ) (KE := KE) (fun v σ x σ1 h hI hO => w_X1_safePerches_b4 hE C hxn e_ret (v.1) (v.2.1) (v.2.2.1) (v.2.2.2) σ x σ1 h hI hO) v σ e σ1 h hO
noncomputable def s_X1_safePerches (h0 : Nat) (p1 : Int32) (σ : Hp) : Option (Int32 × Hp) :=
  cb (s_X1_safePerches_l4 ((h0), (p1), (0), (0)) σ) fun r2 σ3 =>
  some (r2, σ3)
set_option maxRecDepth 100000 in
theorem c_X1_safePerches {E : E0} (hE : EOK E) {h0 : Nat} {p1 : Int32} {σ σ1 : Hp} {r : Int32} (h : s_X1_safePerches h0 p1 σ = some (r, σ1)) : CT E yX1_safePerches (.code yX1_safePerches cX1_safePerches 6 (some .int)) rm_X1_safePerches [tR (some (h0)), tI (p1)] σ (some (tI r)) σ1 := by
  refine CT.mk hE (by decide +kernel) (Nat.le_of_ble_eq_true rfl) [(0, tR (some (h0))), (1, tI (p1))] rfl (fun X C hin hx hxn => ?_)
  have C : XOK E X cX1_safePerches RX1 6 (some .int) rm_X1_safePerches := C
  unfold s_X1_safePerches at h
  refine g_iconst (v := 0) (pc := 0) C dX1_safePerches_0 (by decide) ?_
  refine g_istore_n (lm' := [(2, tI (0)), (0, tR (some (h0))), (1, tI (p1))]) (pc := 1) C 2 dX1_safePerches_1 rfl (by decide) rfl ?_
  refine g_iconst (v := 0) (pc := 2) C dX1_safePerches_2 (by decide) ?_
  refine g_istore_n (lm' := [(3, tI (0)), (2, tI (0)), (0, tR (some (h0))), (1, tI (p1))]) (pc := 3) C 3 dX1_safePerches_3 rfl (by decide) rfl ?_
  refine g_sub [2, 3, 1, 0] (lm' := [(0, tR (some (h0))), (1, tI (p1)), (2, tI (0)), (3, tI (0))]) rfl ?_
  obtain ⟨KQ, hKQ, r2, σ3, hlr2, h⟩ := zcbK h
  refine w_X1_safePerches_l4 (KE := KQ) hE C hxn ?_ hlr2 h
  · intro r2 σ1 h
    have h := (hKQ _ _).mp h
    obtain ⟨rfl, rfl⟩ := zsome h
    exact hx
def rm_X3_between : Room := { frames := 1, cells := 0, slots := 0, locals := 21 }
noncomputable def s_X3_between (h0 : Nat) (p1 : Int32) (p2 : Int32) (σ : Hp) : Option (Int32 × Hp) :=
  (ck 3 σ h0).bind fun u1 =>
  cb (s_X3_isOne h0 (p1) σ) fun v3 σ2 =>
  if v3 = 0 then
    some ((0), σ2)
  else
    (ck 3 σ2 h0).bind fun u4 =>
    cb (s_X3_isOne h0 (p2) σ2) fun v6 σ5 =>
    if v6 = 0 then
      some ((0), σ5)
    else
      (rdR 3 σ5 h0 2).bind fun r7 =>
      (r7).bind fun a8 =>
      (ldI 11 σ5 a8 ((p1 * 10) + p2)).bind fun v9 =>
      some ((v9), σ5)
set_option maxRecDepth 100000 in
theorem c_X3_between {E : E0} (hE : EOK E) {h0 : Nat} {p1 : Int32} {p2 : Int32} {σ σ1 : Hp} {r : Int32} (h : s_X3_between h0 p1 p2 σ = some (r, σ1)) : CT E yX3_between (.code yX3_between cX3_between 3 (some .int)) rm_X3_between [tR (some (h0)), tI (p1), tI (p2)] σ (some (tI r)) σ1 := by
  refine CT.mk hE (by decide +kernel) (Nat.le_of_ble_eq_true rfl) [(0, tR (some (h0))), (1, tI (p1)), (2, tI (p2))] rfl (fun X C hin hx hxn => ?_)
  have C : XOK E X cX3_between RX3 3 (some .int) rm_X3_between := C
  unfold s_X3_between at h
  refine g_aload_n (pc := 0) C 0 0 dX3_between_0 rfl rfl ?_
  refine g_iload_n (pc := 1) C 1 1 dX3_between_1 rfl rfl ?_
  obtain ⟨u1, hvu1, h⟩ := zbind h
  obtain ⟨v3, σ2, hvσ2, h⟩ := zcb h
  refine g_callV (pc := 2) (av := [tI (p1)]) C (c_X3_isOne hE hvσ2) yv_X3_isOne ml_X3_25 ck_3 (zopt hvu1).1 rfl (rf_of (by decide)) rfl (Nat.le_of_ble_eq_true rfl) dX3_between_2 ?_
  refine g_if_eq (pc := 5) C 30 dX3_between_5 (by decide) (fun c11 => ?_) (fun c11 => ?_)
  · have h := zif_t c11 h
    refine g_iconst (v := 0) (pc := 30) C dX3_between_30 (by decide) ?_
    obtain ⟨rfl, rfl⟩ := zsome h
    exact g_iret (pc := 31) C rfl hx (by rw [hxn]; rfl) (by rw [hxn]; rfl) dX3_between_31
  · have h := zif_f c11 h
    refine g_aload_n (pc := 8) C 0 0 dX3_between_8 rfl rfl ?_
    refine g_iload_n (pc := 9) C 2 2 dX3_between_9 rfl rfl ?_
    obtain ⟨u4, hvu4, h⟩ := zbind h
    obtain ⟨v6, σ5, hvσ5, h⟩ := zcb h
    refine g_callV (pc := 10) (av := [tI (p2)]) C (c_X3_isOne hE hvσ5) yv_X3_isOne ml_X3_25 ck_3 (zopt hvu4).1 rfl (rf_of (by decide)) rfl (Nat.le_of_ble_eq_true rfl) dX3_between_10 ?_
    refine g_if_eq (pc := 13) C 30 dX3_between_13 (by decide) (fun c10 => ?_) (fun c10 => ?_)
    · have h := zif_t c10 h
      refine g_iconst (v := 0) (pc := 30) C dX3_between_30 (by decide) ?_
      obtain ⟨rfl, rfl⟩ := zsome h
      exact g_iret (pc := 31) C rfl hx (by rw [hxn]; rfl) (by rw [hxn]; rfl) dX3_between_31
    · have h := zif_f c10 h
      refine g_aload_n (pc := 16) C 0 0 dX3_between_16 rfl rfl ?_
      obtain ⟨r7, hvr7, h⟩ := zbind h
      refine g_getR (N := 4) (pc := 17) C ck_3 hvr7 rfl rfl fl_X3_18 dX3_between_17 ?_
      refine g_iload_n (pc := 20) C 1 1 dX3_between_20 rfl rfl ?_
      refine g_bipush (v := 10) (pc := 21) C dX3_between_21 (by decide) ?_
      refine g_imul (pc := 23) C dX3_between_23 ?_
      refine g_iload_n (pc := 24) C 2 2 dX3_between_24 rfl rfl ?_
      refine g_iadd (pc := 25) C dX3_between_25 ?_
      obtain ⟨a8, hqa8, h9⟩ := zbind h
      clear h
      subst hqa8
      have h := h9
      clear h9
      obtain ⟨v9, hvv9, h⟩ := zbind h
      refine g_iald (pc := 26) C hvv9 dX3_between_26 ?_
      refine g_goto (pc := 27) C 31 dX3_between_27 (by decide) ?_
      obtain ⟨rfl, rfl⟩ := zsome h
      exact g_iret (pc := 31) C rfl hx (by rw [hxn]; rfl) (by rw [hxn]; rfl) dX3_between_31
def rm_X1_leads : Room := { frames := 2, cells := 0, slots := 0, locals := 43 }
noncomputable def s_X1_leads (h0 : Nat) (p1 : Int32) (p2 : Int32) (p3 : Int32) (σ : Hp) : Option (Int32 × Hp) :=
  (rdR 1 σ h0 0).bind fun r1 =>
  (r1).bind fun a2 =>
  (ck 3 σ a2).bind fun u3 =>
  cb (s_X3_between a2 (p2) (p3) σ) fun v5 σ4 =>
  if v5 = 0 then
    some ((0), σ4)
  else
    (ck 1 σ4 h0).bind fun u6 =>
    cb (s_X1_isFolk h0 (p1) σ4) fun v8 σ7 =>
    if v8 = 0 then
      some ((0), σ7)
    else
      (rdR 1 σ7 h0 2).bind fun r9 =>
      (r9).bind fun a10 =>
      (ldI 11 σ7 a10 (p1)).bind fun v11 =>
      if v5 ≤ v11 then
        (rdR 1 σ7 h0 0).bind fun r12 =>
        (r12).bind fun a13 =>
        (ck 3 σ7 a13).bind fun u14 =>
        cb (s_X3_roomOf a13 (p2) σ7) fun v16 σ15 =>
        (rdR 1 σ15 h0 0).bind fun r17 =>
        (r17).bind fun a18 =>
        (ck 3 σ15 a18).bind fun u19 =>
        cb (s_X3_roomOf a18 (p3) σ15) fun v21 σ20 =>
        if v16 = v21 then
          some ((1), σ20)
        else
          (ck 1 σ20 h0).bind fun u22 =>
          cb (s_X1_isOpen h0 (v16) (v21) σ20) fun v24 σ23 =>
          if v24 = 0 then
            some ((0), σ23)
          else
            some ((1), σ23)
      else
        some ((0), σ7)
set_option maxRecDepth 100000 in
theorem c_X1_leads {E : E0} (hE : EOK E) {h0 : Nat} {p1 : Int32} {p2 : Int32} {p3 : Int32} {σ σ1 : Hp} {r : Int32} (h : s_X1_leads h0 p1 p2 p3 σ = some (r, σ1)) : CT E yX1_leads (.code yX1_leads cX1_leads 7 (some .boolean)) rm_X1_leads [tR (some (h0)), tI (p1), tI (p2), tI (p3)] σ (some (tI r)) σ1 := by
  refine CT.mk hE (by decide +kernel) (Nat.le_of_ble_eq_true rfl) [(0, tR (some (h0))), (1, tI (p1)), (2, tI (p2)), (3, tI (p3))] rfl (fun X C hin hx hxn => ?_)
  have C : XOK E X cX1_leads RX1 7 (some .boolean) rm_X1_leads := C
  unfold s_X1_leads at h
  refine g_aload_n (pc := 0) C 0 0 dX1_leads_0 rfl rfl ?_
  obtain ⟨r1, hvr1, h⟩ := zbind h
  refine g_getR (N := 20) (pc := 1) C ck_1 hvr1 rfl rfl fl_X1_12 dX1_leads_1 ?_
  refine g_iload_n (pc := 4) C 2 2 dX1_leads_4 rfl rfl ?_
  refine g_iload_n (pc := 5) C 3 3 dX1_leads_5 rfl rfl ?_
  obtain ⟨a2, hqa2, h9⟩ := zbind h
  clear h
  subst hqa2
  have h := h9
  clear h9
  obtain ⟨u3, hvu3, h⟩ := zbind h
  obtain ⟨v5, σ4, hvσ4, h⟩ := zcb h
  refine g_callV (pc := 6) (av := [tI (p2), tI (p3)]) C (c_X3_between hE hvσ4) yv_X3_between ml_X1_159 ck_3 (zopt hvu3).1 rfl (rf_of (by decide)) rfl (Nat.le_of_ble_eq_true rfl) dX1_leads_6 ?_
  refine g_istore (lm' := [(4, tI (v5)), (0, tR (some (h0))), (1, tI (p1)), (2, tI (p2)), (3, tI (p3))]) (pc := 9) C dX1_leads_9 (by decide) rfl ?_
  refine g_iload (pc := 11) C 0 dX1_leads_11 rfl ?_
  refine g_if_eq (pc := 13) C 35 dX1_leads_13 (by decide) (fun c29 => ?_) (fun c29 => ?_)
  · have h := zif_t c29 h
    refine g_iconst (v := 0) (pc := 35) C dX1_leads_35 (by decide) ?_
    obtain ⟨rfl, rfl⟩ := zsome h
    exact g_zret (pc := 36) C rfl hx (by decide) (by rw [hxn]; rfl) (by rw [hxn]; rfl) dX1_leads_36
  · have h := zif_f c29 h
    refine g_aload_n (pc := 16) C 0 1 dX1_leads_16 rfl rfl ?_
    refine g_iload_n (pc := 17) C 1 2 dX1_leads_17 rfl rfl ?_
    obtain ⟨u6, hvu6, h⟩ := zbind h
    obtain ⟨v8, σ7, hvσ7, h⟩ := zcb h
    refine g_callV (pc := 18) (av := [tI (p1)]) C (c_X1_isFolk hE hvσ7) yv_X1_isFolk ml_X1_135 ck_1 (zopt hvu6).1 rfl (rf_of (by decide)) rfl (Nat.le_of_ble_eq_true rfl) dX1_leads_18 ?_
    refine g_if_eq (pc := 21) C 35 dX1_leads_21 (by decide) (fun c28 => ?_) (fun c28 => ?_)
    · have h := zif_t c28 h
      refine g_iconst (v := 0) (pc := 35) C dX1_leads_35 (by decide) ?_
      obtain ⟨rfl, rfl⟩ := zsome h
      exact g_zret (pc := 36) C rfl hx (by decide) (by rw [hxn]; rfl) (by rw [hxn]; rfl) dX1_leads_36
    · have h := zif_f c28 h
      refine g_iload (pc := 24) C 0 dX1_leads_24 rfl ?_
      refine g_aload_n (pc := 26) C 0 1 dX1_leads_26 rfl rfl ?_
      obtain ⟨r9, hvr9, h⟩ := zbind h
      refine g_getR (N := 20) (pc := 27) C ck_1 hvr9 rfl rfl fl_X1_22 dX1_leads_27 ?_
      refine g_iload_n (pc := 30) C 1 2 dX1_leads_30 rfl rfl ?_
      obtain ⟨a10, hqa10, h9⟩ := zbind h
      clear h
      subst hqa10
      have h := h9
      clear h9
      obtain ⟨v11, hvv11, h⟩ := zbind h
      refine g_iald (pc := 31) C hvv11 dX1_leads_31 ?_
      refine g_icmp_le (pc := 32) C 37 dX1_leads_32 (by decide) (fun c27 => ?_) (fun c27 => ?_)
      · have h := zif_t c27 h
        refine g_aload_n (pc := 37) C 0 1 dX1_leads_37 rfl rfl ?_
        obtain ⟨r12, hvr12, h⟩ := zbind h
        refine g_getR (N := 20) (pc := 38) C ck_1 hvr12 rfl rfl fl_X1_12 dX1_leads_38 ?_
        refine g_iload_n (pc := 41) C 2 3 dX1_leads_41 rfl rfl ?_
        obtain ⟨a13, hqa13, h9⟩ := zbind h
        clear h
        subst hqa13
        have h := h9
        clear h9
        obtain ⟨u14, hvu14, h⟩ := zbind h
        obtain ⟨v16, σ15, hvσ15, h⟩ := zcb h
        refine g_callV (pc := 42) (av := [tI (p2)]) C (c_X3_roomOf hE hvσ15) yv_X3_roomOf ml_X1_141 ck_3 (zopt hvu14).1 rfl (rf_of (by decide)) rfl (Nat.le_of_ble_eq_true rfl) dX1_leads_42 ?_
        refine g_istore (lm' := [(5, tI (v16)), (4, tI (v5)), (0, tR (some (h0))), (1, tI (p1)), (2, tI (p2)), (3, tI (p3))]) (pc := 45) C dX1_leads_45 (by decide) rfl ?_
        refine g_aload_n (pc := 47) C 0 2 dX1_leads_47 rfl rfl ?_
        obtain ⟨r17, hvr17, h⟩ := zbind h
        refine g_getR (N := 20) (pc := 48) C ck_1 hvr17 rfl rfl fl_X1_12 dX1_leads_48 ?_
        refine g_iload_n (pc := 51) C 3 5 dX1_leads_51 rfl rfl ?_
        obtain ⟨a18, hqa18, h9⟩ := zbind h
        clear h
        subst hqa18
        have h := h9
        clear h9
        obtain ⟨u19, hvu19, h⟩ := zbind h
        obtain ⟨v21, σ20, hvσ20, h⟩ := zcb h
        refine g_callV (pc := 52) (av := [tI (p3)]) C (c_X3_roomOf hE hvσ20) yv_X3_roomOf ml_X1_141 ck_3 (zopt hvu19).1 rfl (rf_of (by decide)) rfl (Nat.le_of_ble_eq_true rfl) dX1_leads_52 ?_
        refine g_istore (lm' := [(6, tI (v21)), (5, tI (v16)), (4, tI (v5)), (0, tR (some (h0))), (1, tI (p1)), (2, tI (p2)), (3, tI (p3))]) (pc := 55) C dX1_leads_55 (by decide) rfl ?_
        refine g_iload (pc := 57) C 1 dX1_leads_57 rfl ?_
        refine g_iload (pc := 59) C 0 dX1_leads_59 rfl ?_
        refine g_icmp_eq (pc := 61) C 75 dX1_leads_61 (by decide) (fun c26 => ?_) (fun c26 => ?_)
        · have h := zif_t c26 h
          refine g_iconst (v := 1) (pc := 75) C dX1_leads_75 (by decide) ?_
          refine g_goto (pc := 76) C 80 dX1_leads_76 (by decide) ?_
          obtain ⟨rfl, rfl⟩ := zsome h
          exact g_zret (pc := 80) C rfl hx (by decide) (by rw [hxn]; rfl) (by rw [hxn]; rfl) dX1_leads_80
        · have h := zif_f c26 h
          refine g_aload_n (pc := 64) C 0 3 dX1_leads_64 rfl rfl ?_
          refine g_iload (pc := 65) C 1 dX1_leads_65 rfl ?_
          refine g_iload (pc := 67) C 0 dX1_leads_67 rfl ?_
          obtain ⟨u22, hvu22, h⟩ := zbind h
          obtain ⟨v24, σ23, hvσ23, h⟩ := zcb h
          refine g_callV (pc := 69) (av := [tI (v16), tI (v21)]) C (c_X1_isOpen hE hvσ23) yv_X1_isOpen ml_X1_132 ck_1 (zopt hvu22).1 rfl (rf_of (by decide)) rfl (Nat.le_of_ble_eq_true rfl) dX1_leads_69 ?_
          refine g_if_eq (pc := 72) C 79 dX1_leads_72 (by decide) (fun c25 => ?_) (fun c25 => ?_)
          · have h := zif_t c25 h
            refine g_iconst (v := 0) (pc := 79) C dX1_leads_79 (by decide) ?_
            obtain ⟨rfl, rfl⟩ := zsome h
            exact g_zret (pc := 80) C rfl hx (by decide) (by rw [hxn]; rfl) (by rw [hxn]; rfl) dX1_leads_80
          · have h := zif_f c25 h
            refine g_iconst (v := 1) (pc := 75) C dX1_leads_75 (by decide) ?_
            refine g_goto (pc := 76) C 80 dX1_leads_76 (by decide) ?_
            obtain ⟨rfl, rfl⟩ := zsome h
            exact g_zret (pc := 80) C rfl hx (by decide) (by rw [hxn]; rfl) (by rw [hxn]; rfl) dX1_leads_80
      · have h := zif_f c27 h
        refine g_iconst (v := 0) (pc := 35) C dX1_leads_35 (by decide) ?_
        obtain ⟨rfl, rfl⟩ := zsome h
        exact g_zret (pc := 36) C rfl hx (by decide) (by rw [hxn]; rfl) (by rw [hxn]; rfl) dX1_leads_36
def rm_X1_mayStride : Room := { frames := 4, cells := 0, slots := 0, locals := 105 }
noncomputable def s_X1_mayStride (h0 : Nat) (p1 : Int32) (p2 : Int32) (σ : Hp) : Option (Int32 × Hp) :=
  (ck 1 σ h0).bind fun u1 =>
  cb (s_X1_isFolk h0 (p1) σ) fun v3 σ2 =>
  if v3 = 0 then
    some ((0), σ2)
  else
    (rdR 1 σ2 h0 3).bind fun r4 =>
    (r4).bind fun a5 =>
    (ldI 11 σ2 a5 (p1)).bind fun v6 =>
    (ck 1 σ2 h0).bind fun u7 =>
    cb (s_X1_leads h0 (p1) (v6) (p2) σ2) fun v9 σ8 =>
    if v9 = 0 then
      some ((0), σ8)
    else
      (rdR 1 σ8 h0 10).bind fun r10 =>
      (r10).bind fun a11 =>
      (ldI 11 σ8 a11 (0)).bind fun v12 =>
      (ck 1 σ8 h0).bind fun u13 =>
      cb (s_X1_isBarred h0 (p1) (p2) (v12) σ8) fun v15 σ14 =>
      if v15 = 0 then
        some ((1), σ14)
      else
        some ((0), σ14)
set_option maxRecDepth 100000 in
theorem c_X1_mayStride {E : E0} (hE : EOK E) {h0 : Nat} {p1 : Int32} {p2 : Int32} {σ σ1 : Hp} {r : Int32} (h : s_X1_mayStride h0 p1 p2 σ = some (r, σ1)) : CT E yX1_mayStride (.code yX1_mayStride cX1_mayStride 3 (some .boolean)) rm_X1_mayStride [tR (some (h0)), tI (p1), tI (p2)] σ (some (tI r)) σ1 := by
  refine CT.mk hE (by decide +kernel) (Nat.le_of_ble_eq_true rfl) [(0, tR (some (h0))), (1, tI (p1)), (2, tI (p2))] rfl (fun X C hin hx hxn => ?_)
  have C : XOK E X cX1_mayStride RX1 3 (some .boolean) rm_X1_mayStride := C
  unfold s_X1_mayStride at h
  refine g_aload_n (pc := 0) C 0 0 dX1_mayStride_0 rfl rfl ?_
  refine g_iload_n (pc := 1) C 1 1 dX1_mayStride_1 rfl rfl ?_
  obtain ⟨u1, hvu1, h⟩ := zbind h
  obtain ⟨v3, σ2, hvσ2, h⟩ := zcb h
  refine g_callV (pc := 2) (av := [tI (p1)]) C (c_X1_isFolk hE hvσ2) yv_X1_isFolk ml_X1_135 ck_1 (zopt hvu1).1 rfl (rf_of (by decide)) rfl (Nat.le_of_ble_eq_true rfl) dX1_mayStride_2 ?_
  refine g_if_eq (pc := 5) C 42 dX1_mayStride_5 (by decide) (fun c18 => ?_) (fun c18 => ?_)
  · have h := zif_t c18 h
    refine g_iconst (v := 0) (pc := 42) C dX1_mayStride_42 (by decide) ?_
    obtain ⟨rfl, rfl⟩ := zsome h
    exact g_zret (pc := 43) C rfl hx (by decide) (by rw [hxn]; rfl) (by rw [hxn]; rfl) dX1_mayStride_43
  · have h := zif_f c18 h
    refine g_aload_n (pc := 8) C 0 0 dX1_mayStride_8 rfl rfl ?_
    refine g_iload_n (pc := 9) C 1 1 dX1_mayStride_9 rfl rfl ?_
    refine g_aload_n (pc := 10) C 0 0 dX1_mayStride_10 rfl rfl ?_
    obtain ⟨r4, hvr4, h⟩ := zbind h
    refine g_getR (N := 20) (pc := 11) C ck_1 hvr4 rfl rfl fl_X1_25 dX1_mayStride_11 ?_
    refine g_iload_n (pc := 14) C 1 1 dX1_mayStride_14 rfl rfl ?_
    obtain ⟨a5, hqa5, h9⟩ := zbind h
    clear h
    subst hqa5
    have h := h9
    clear h9
    obtain ⟨v6, hvv6, h⟩ := zbind h
    refine g_iald (pc := 15) C hvv6 dX1_mayStride_15 ?_
    refine g_iload_n (pc := 16) C 2 2 dX1_mayStride_16 rfl rfl ?_
    obtain ⟨u7, hvu7, h⟩ := zbind h
    obtain ⟨v9, σ8, hvσ8, h⟩ := zcb h
    refine g_callV (pc := 17) (av := [tI (p1), tI (v6), tI (p2)]) C (c_X1_leads hE hvσ8) yv_X1_leads ml_X1_163 ck_1 (zopt hvu7).1 rfl (rf_of (by decide)) rfl (Nat.le_of_ble_eq_true rfl) dX1_mayStride_17 ?_
    refine g_if_eq (pc := 20) C 42 dX1_mayStride_20 (by decide) (fun c17 => ?_) (fun c17 => ?_)
    · have h := zif_t c17 h
      refine g_iconst (v := 0) (pc := 42) C dX1_mayStride_42 (by decide) ?_
      obtain ⟨rfl, rfl⟩ := zsome h
      exact g_zret (pc := 43) C rfl hx (by decide) (by rw [hxn]; rfl) (by rw [hxn]; rfl) dX1_mayStride_43
    · have h := zif_f c17 h
      refine g_aload_n (pc := 23) C 0 0 dX1_mayStride_23 rfl rfl ?_
      refine g_iload_n (pc := 24) C 1 1 dX1_mayStride_24 rfl rfl ?_
      refine g_iload_n (pc := 25) C 2 2 dX1_mayStride_25 rfl rfl ?_
      refine g_aload_n (pc := 26) C 0 0 dX1_mayStride_26 rfl rfl ?_
      obtain ⟨r10, hvr10, h⟩ := zbind h
      refine g_getR (N := 20) (pc := 27) C ck_1 hvr10 rfl rfl fl_X1_46 dX1_mayStride_27 ?_
      refine g_iconst (v := 0) (pc := 30) C dX1_mayStride_30 (by decide) ?_
      obtain ⟨a11, hqa11, h9⟩ := zbind h
      clear h
      subst hqa11
      have h := h9
      clear h9
      obtain ⟨v12, hvv12, h⟩ := zbind h
      refine g_iald (pc := 31) C hvv12 dX1_mayStride_31 ?_
      obtain ⟨u13, hvu13, h⟩ := zbind h
      obtain ⟨v15, σ14, hvσ14, h⟩ := zcb h
      refine g_callV (pc := 32) (av := [tI (p1), tI (p2), tI (v12)]) C (c_X1_isBarred hE hvσ14) yv_X1_isBarred ml_X1_151 ck_1 (zopt hvu13).1 rfl (rf_of (by decide)) rfl (Nat.le_of_ble_eq_true rfl) dX1_mayStride_32 ?_
      refine g_if_ne (pc := 35) C 42 dX1_mayStride_35 (by decide) (fun c16 => ?_) (fun c16 => ?_)
      · have h := zif_f c16 h
        refine g_iconst (v := 0) (pc := 42) C dX1_mayStride_42 (by decide) ?_
        obtain ⟨rfl, rfl⟩ := zsome h
        exact g_zret (pc := 43) C rfl hx (by decide) (by rw [hxn]; rfl) (by rw [hxn]; rfl) dX1_mayStride_43
      · have h := zif_t c16 h
        refine g_iconst (v := 1) (pc := 38) C dX1_mayStride_38 (by decide) ?_
        refine g_goto (pc := 39) C 43 dX1_mayStride_39 (by decide) ?_
        obtain ⟨rfl, rfl⟩ := zsome h
        exact g_zret (pc := 43) C rfl hx (by decide) (by rw [hxn]; rfl) (by rw [hxn]; rfl) dX1_mayStride_43
def rm_X1_passHour : Room := { frames := 4, cells := 0, slots := 0, locals := 109 }
noncomputable def s_X1_passHour_j78 (h0 : Nat) (l1 : Int32) (l2 : Int32) (l3 : Int32) (σ : Hp) : Option (((Nat × Int32 × Int32 × Int32) ⊕ ((Nat × Int32 × Int32))) × Hp) :=
  some (Sum.inl ((h0), (l1), (l2), (l3 + 1)), σ)
set_option maxRecDepth 100000 in
theorem w_X1_passHour_j78 {E : E0} (hE : EOK E) {X : X0} (C : XOK E X cX1_passHour RX1 6 (some .int) rm_X1_passHour) (hxn : xn X = (rm_X1_passHour.cells, rm_X1_passHour.slots)) {KE : ((Nat × Int32 × Int32)) → Hp → Prop} (e_84 : ∀ (h0 : Nat) (l1 : Int32) (l2 : Int32) (σ : Hp), KE ((h0, l1, l2)) σ → G E X 0 0 84 [(0, tR (some (h0))), (1, tI (l1)), (2, tI (l2))] [] σ) (h0 : Nat) (l1 : Int32) (l2 : Int32) (l3 : Int32) (σ : Hp) (x : (Nat × Int32 × Int32 × Int32) ⊕ ((Nat × Int32 × Int32))) (σ1 : Hp) (h : s_X1_passHour_j78 h0 l1 l2 l3 σ = some (x, σ1)) (hI : ∀ v, x = Sum.inl v → (fun (v : Nat × Int32 × Int32 × Int32) (σ : Hp) => G E X 0 0 11 [(0, tR (some ((v.1)))), (1, tI ((v.2.1))), (2, tI ((v.2.2.1))), (3, tI ((v.2.2.2)))] [] σ) v σ1) (hO : ∀ e, x = Sum.inr e → KE e σ1) : G E X 0 0 78 [(0, tR (some (h0))), (1, tI (l1)), (2, tI (l2)), (3, tI (l3))] [] σ := by
  unfold s_X1_passHour_j78 at h
  refine g_iinc (lm' := [(3, tI (l3 + 1)), (0, tR (some (h0))), (1, tI (l1)), (2, tI (l2))]) (v := l3 + 1) (pc := 78) C 3 dX1_passHour_78 rfl rfl (by decide) rfl ?_
  refine g_goto (pc := 81) C 11 dX1_passHour_81 (by decide) ?_
  refine g_sub [1, 2, 3, 0] (lm' := [(0, tR (some (h0))), (1, tI (l1)), (2, tI (l2)), (3, tI (l3 + 1))]) rfl ?_
  obtain ⟨rfl, rfl⟩ := zsome h
  exact hI _ rfl
noncomputable def s_X1_passHour_b11 (h0 : Nat) (l1 : Int32) (l2 : Int32) (l3 : Int32) (σ : Hp) : Option (((Nat × Int32 × Int32 × Int32) ⊕ ((Nat × Int32 × Int32))) × Hp) :=
  (rdI 1 σ h0 13).bind fun v1 =>
  if v1 ≤ l3 then
    some (Sum.inr ((h0), (l1), (l2)), σ)
  else
    if 4 ≤ l3 then
      some (Sum.inr ((h0), (l1), (l2)), σ)
    else
      (rdR 1 σ h0 3).bind fun r2 =>
      (r2).bind fun a3 =>
      (ldI 11 σ a3 (l3)).bind fun v4 =>
      (rdR 1 σ h0 0).bind fun r5 =>
      (r5).bind fun a6 =>
      (ck 3 σ a6).bind fun u7 =>
      cb (s_X3_roomOf a6 (v4) σ) fun v9 σ8 =>
      (ck 1 σ8 h0).bind fun u10 =>
      cb (s_X1_badgersIn h0 (v9) σ8) fun v12 σ11 =>
      if v12 ≤ 0 then
        s_X1_passHour_j78 (h0) (l1) (l2) (l3) σ11
      else
        (rdR 1 σ11 h0 0).bind fun r13 =>
        (r13).bind fun a14 =>
        (ck 3 σ11 a14).bind fun u15 =>
        cb (s_X3_highOf a14 (v4) σ11) fun v17 σ16 =>
        (ck 1 σ16 h0).bind fun u18 =>
        cb (s_X1_lawInForce h0 σ16) fun r20 σ19 =>
        (ck 1 σ19 h0).bind fun u21 =>
        cb (s_X1_theirsBy h0 (r20) (v9) (l1) σ19) fun v23 σ22 =>
        if v23 ≤ v17 then
          s_X1_passHour_j78 (h0) (l1) (l2) (l3) σ22
        else
          s_X1_passHour_j78 (h0) (l1) (l2 + 1) (l3) σ22
noncomputable def s_X1_passHour_l11 : (Nat × Int32 × Int32 × Int32) → Hp → Option (((Nat × Int32 × Int32)) × Hp) := loopF (fun v => s_X1_passHour_b11 (v.1) (v.2.1) (v.2.2.1) (v.2.2.2))
set_option maxRecDepth 100000 in
theorem w_X1_passHour_b11 {E : E0} (hE : EOK E) {X : X0} (C : XOK E X cX1_passHour RX1 6 (some .int) rm_X1_passHour) (hxn : xn X = (rm_X1_passHour.cells, rm_X1_passHour.slots)) {KE : ((Nat × Int32 × Int32)) → Hp → Prop} (e_84 : ∀ (h0 : Nat) (l1 : Int32) (l2 : Int32) (σ : Hp), KE ((h0, l1, l2)) σ → G E X 0 0 84 [(0, tR (some (h0))), (1, tI (l1)), (2, tI (l2))] [] σ) (h0 : Nat) (l1 : Int32) (l2 : Int32) (l3 : Int32) (σ : Hp) (x : (Nat × Int32 × Int32 × Int32) ⊕ ((Nat × Int32 × Int32))) (σ1 : Hp) (h : s_X1_passHour_b11 h0 l1 l2 l3 σ = some (x, σ1)) (hI : ∀ v, x = Sum.inl v → (fun (v : Nat × Int32 × Int32 × Int32) (σ : Hp) => G E X 0 0 11 [(0, tR (some ((v.1)))), (1, tI ((v.2.1))), (2, tI ((v.2.2.1))), (3, tI ((v.2.2.2)))] [] σ) v σ1) (hO : ∀ e, x = Sum.inr e → KE e σ1) : G E X 0 0 11 [(0, tR (some (h0))), (1, tI (l1)), (2, tI (l2)), (3, tI (l3))] [] σ := by
  unfold s_X1_passHour_b11 at h
  refine g_iload_n (pc := 11) C 3 3 dX1_passHour_11 rfl rfl ?_
  refine g_aload_n (pc := 12) C 0 0 dX1_passHour_12 rfl rfl ?_
  obtain ⟨v1, hvv1, h⟩ := zbind h
  refine g_getI (N := 20) (pc := 13) C ck_1 hvv1 rfl rfl fl_X1_62 dX1_passHour_13 ?_
  refine g_icmp_ge (pc := 16) C 84 dX1_passHour_16 (by decide) (fun c27 => ?_) (fun c27 => ?_)
  · have h := zif_t c27 h
    refine g_sub [0, 1, 2] (lm' := [(0, tR (some (h0))), (1, tI (l1)), (2, tI (l2))]) rfl ?_
    obtain ⟨rfl, rfl⟩ := zsome h
    exact e_84 _ _ _ _ (hO _ rfl)
  · have h := zif_f c27 h
    refine g_iload_n (pc := 19) C 3 3 dX1_passHour_19 rfl rfl ?_
    refine g_iconst (v := 4) (pc := 20) C dX1_passHour_20 (by decide) ?_
    refine g_icmp_ge (pc := 21) C 84 dX1_passHour_21 (by decide) (fun c26 => ?_) (fun c26 => ?_)
    · have h := zif_t c26 h
      refine g_sub [0, 1, 2] (lm' := [(0, tR (some (h0))), (1, tI (l1)), (2, tI (l2))]) rfl ?_
      obtain ⟨rfl, rfl⟩ := zsome h
      exact e_84 _ _ _ _ (hO _ rfl)
    · have h := zif_f c26 h
      refine g_aload_n (pc := 24) C 0 0 dX1_passHour_24 rfl rfl ?_
      obtain ⟨r2, hvr2, h⟩ := zbind h
      refine g_getR (N := 20) (pc := 25) C ck_1 hvr2 rfl rfl fl_X1_25 dX1_passHour_25 ?_
      refine g_iload_n (pc := 28) C 3 3 dX1_passHour_28 rfl rfl ?_
      obtain ⟨a3, hqa3, h9⟩ := zbind h
      clear h
      subst hqa3
      have h := h9
      clear h9
      obtain ⟨v4, hvv4, h⟩ := zbind h
      refine g_iald (pc := 29) C hvv4 dX1_passHour_29 ?_
      refine g_istore (lm' := [(4, tI (v4)), (0, tR (some (h0))), (1, tI (l1)), (2, tI (l2)), (3, tI (l3))]) (pc := 30) C dX1_passHour_30 (by decide) rfl ?_
      refine g_aload_n (pc := 32) C 0 1 dX1_passHour_32 rfl rfl ?_
      obtain ⟨r5, hvr5, h⟩ := zbind h
      refine g_getR (N := 20) (pc := 33) C ck_1 hvr5 rfl rfl fl_X1_12 dX1_passHour_33 ?_
      refine g_iload (pc := 36) C 0 dX1_passHour_36 rfl ?_
      obtain ⟨a6, hqa6, h9⟩ := zbind h
      clear h
      subst hqa6
      have h := h9
      clear h9
      obtain ⟨u7, hvu7, h⟩ := zbind h
      obtain ⟨v9, σ8, hvσ8, h⟩ := zcb h
      refine g_callV (pc := 38) (av := [tI (v4)]) C (c_X3_roomOf hE hvσ8) yv_X3_roomOf ml_X1_141 ck_3 (zopt hvu7).1 rfl (rf_of (by decide)) rfl (Nat.le_of_ble_eq_true rfl) dX1_passHour_38 ?_
      refine g_istore (lm' := [(5, tI (v9)), (4, tI (v4)), (0, tR (some (h0))), (1, tI (l1)), (2, tI (l2)), (3, tI (l3))]) (pc := 41) C dX1_passHour_41 (by decide) rfl ?_
      refine g_aload_n (pc := 43) C 0 2 dX1_passHour_43 rfl rfl ?_
      refine g_iload (pc := 44) C 0 dX1_passHour_44 rfl ?_
      obtain ⟨u10, hvu10, h⟩ := zbind h
      obtain ⟨v12, σ11, hvσ11, h⟩ := zcb h
      refine g_callV (pc := 46) (av := [tI (v9)]) C (c_X1_badgersIn hE hvσ11) yv_X1_badgersIn ml_X1_166 ck_1 (zopt hvu10).1 rfl (rf_of (by decide)) rfl (Nat.le_of_ble_eq_true rfl) dX1_passHour_46 ?_
      refine g_if_le (pc := 49) C 78 dX1_passHour_49 (by decide) (fun c25 => ?_) (fun c25 => ?_)
      · have h := zif_t c25 h
        refine g_sub [2, 3, 4, 5] (lm' := [(0, tR (some (h0))), (1, tI (l1)), (2, tI (l2)), (3, tI (l3))]) rfl ?_
        exact w_X1_passHour_j78 hE C hxn e_84 _ _ _ _ _ _ _ h hI hO
      · have h := zif_f c25 h
        refine g_aload_n (pc := 52) C 0 2 dX1_passHour_52 rfl rfl ?_
        obtain ⟨r13, hvr13, h⟩ := zbind h
        refine g_getR (N := 20) (pc := 53) C ck_1 hvr13 rfl rfl fl_X1_12 dX1_passHour_53 ?_
        refine g_iload (pc := 56) C 1 dX1_passHour_56 rfl ?_
        obtain ⟨a14, hqa14, h9⟩ := zbind h
        clear h
        subst hqa14
        have h := h9
        clear h9
        obtain ⟨u15, hvu15, h⟩ := zbind h
        obtain ⟨v17, σ16, hvσ16, h⟩ := zcb h
        refine g_callV (pc := 58) (av := [tI (v4)]) C (c_X3_highOf hE hvσ16) yv_X3_highOf ml_X1_145 ck_3 (zopt hvu15).1 rfl (rf_of (by decide)) rfl (Nat.le_of_ble_eq_true rfl) dX1_passHour_58 ?_
        refine g_aload_n (pc := 61) C 0 2 dX1_passHour_61 rfl rfl ?_
        refine g_aload_n (pc := 62) C 0 2 dX1_passHour_62 rfl rfl ?_
        obtain ⟨u18, hvu18, h⟩ := zbind h
        obtain ⟨r20, σ19, hvσ19, h⟩ := zcb h
        refine g_callV (pc := 63) (av := []) C (c_X1_lawInForce hE hvσ19) yv_X1_lawInForce ml_X1_125 ck_1 (zopt hvu18).1 rfl (rf_of (by decide)) rfl (Nat.le_of_ble_eq_true rfl) dX1_passHour_63 ?_
        refine g_iload (pc := 66) C 0 dX1_passHour_66 rfl ?_
        refine g_iload_n (pc := 68) C 1 3 dX1_passHour_68 rfl rfl ?_
        obtain ⟨u21, hvu21, h⟩ := zbind h
        obtain ⟨v23, σ22, hvσ22, h⟩ := zcb h
        refine g_callV (pc := 69) (av := [tR (r20), tI (v9), tI (l1)]) C (c_X1_theirsBy hE hvσ22) yv_X1_theirsBy ml_X1_155 ck_1 (zopt hvu21).1 rfl (rf_of (by decide)) rfl (Nat.le_of_ble_eq_true rfl) dX1_passHour_69 ?_
        refine g_icmp_ge (pc := 72) C 78 dX1_passHour_72 (by decide) (fun c24 => ?_) (fun c24 => ?_)
        · have h := zif_t c24 h
          refine g_sub [2, 3, 4, 5] (lm' := [(0, tR (some (h0))), (1, tI (l1)), (2, tI (l2)), (3, tI (l3))]) rfl ?_
          exact w_X1_passHour_j78 hE C hxn e_84 _ _ _ _ _ _ _ h hI hO
        · have h := zif_f c24 h
          refine g_iinc (lm' := [(2, tI (l2 + 1)), (5, tI (v9)), (4, tI (v4)), (0, tR (some (h0))), (1, tI (l1)), (3, tI (l3))]) (v := l2 + 1) (pc := 75) C 4 dX1_passHour_75 rfl rfl (by decide) rfl ?_
          refine g_sub [3, 4, 0, 5] (lm' := [(0, tR (some (h0))), (1, tI (l1)), (2, tI (l2 + 1)), (3, tI (l3))]) rfl ?_
          exact w_X1_passHour_j78 hE C hxn e_84 _ _ _ _ _ _ _ h hI hO
theorem w_X1_passHour_l11 {E : E0} (hE : EOK E) {X : X0} (C : XOK E X cX1_passHour RX1 6 (some .int) rm_X1_passHour) (hxn : xn X = (rm_X1_passHour.cells, rm_X1_passHour.slots)) {KE : ((Nat × Int32 × Int32)) → Hp → Prop} (e_84 : ∀ (h0 : Nat) (l1 : Int32) (l2 : Int32) (σ : Hp), KE ((h0, l1, l2)) σ → G E X 0 0 84 [(0, tR (some (h0))), (1, tI (l1)), (2, tI (l2))] [] σ) {v : Nat × Int32 × Int32 × Int32} {σ : Hp} {e : (Nat × Int32 × Int32)} {σ1 : Hp} (h : s_X1_passHour_l11 v σ = some (e, σ1)) (hO : KE e σ1) : G E X 0 0 11 [(0, tR (some ((v.1)))), (1, tI ((v.2.1))), (2, tI ((v.2.2.1))), (3, tI ((v.2.2.2)))] [] σ := loopF_ind (P := fun (v : Nat × Int32 × Int32 × Int32) (σ : Hp) => G E X 0 0 11 [(0, tR (some ((v.1)))), (1, tI ((v.2.1))), (2, tI ((v.2.2.1))), (3, tI ((v.2.2.2)))] [] σ) (KE := KE) (fun v σ x σ1 h hI hO => w_X1_passHour_b11 hE C hxn e_84 (v.1) (v.2.1) (v.2.2.1) (v.2.2.2) σ x σ1 h hI hO) v σ e σ1 h hO
noncomputable def s_X1_passHour_b102 (h0 : Nat) (l1 : Int32) (l2 : Int32) (l3 : Int32) (σ : Hp) : Option (((Nat × Int32 × Int32 × Int32) ⊕ ((Nat × Int32 × Int32))) × Hp) :=
  (rdI 1 σ h0 14).bind fun v1 =>
  if v1 ≤ l3 then
    some (Sum.inr ((h0), (l1), (l2)), σ)
  else
    if 3 ≤ l3 then
      some (Sum.inr ((h0), (l1), (l2)), σ)
    else
      (rdR 1 σ h0 4).bind fun r2 =>
      (rdR 1 σ h0 4).bind fun r3 =>
      (r3).bind fun a4 =>
      (ldI 11 σ a4 (l3)).bind fun v5 =>
      (ck 1 σ h0).bind fun u6 =>
      cb (s_X1_whither h0 (l3) (v5) (l1) σ) fun v8 σ7 =>
      (r2).bind fun a9 =>
      (stI σ7 a9 (l3) (v8)).bind fun σ10 =>
      some (Sum.inl ((h0), (l1), (l2), (l3 + 1)), σ10)
noncomputable def s_X1_passHour_l102 : (Nat × Int32 × Int32 × Int32) → Hp → Option (((Nat × Int32 × Int32)) × Hp) := loopF (fun v => s_X1_passHour_b102 (v.1) (v.2.1) (v.2.2.1) (v.2.2.2))
set_option maxRecDepth 100000 in
theorem w_X1_passHour_b102 {E : E0} (hE : EOK E) {X : X0} (C : XOK E X cX1_passHour RX1 6 (some .int) rm_X1_passHour) (hxn : xn X = (rm_X1_passHour.cells, rm_X1_passHour.slots)) {KE : ((Nat × Int32 × Int32)) → Hp → Prop} (e_139 : ∀ (h0 : Nat) (l1 : Int32) (l2 : Int32) (σ : Hp), KE ((h0, l1, l2)) σ → G E X 0 0 139 [(0, tR (some (h0))), (1, tI (l1)), (2, tI (l2))] [] σ) (h0 : Nat) (l1 : Int32) (l2 : Int32) (l3 : Int32) (σ : Hp) (x : (Nat × Int32 × Int32 × Int32) ⊕ ((Nat × Int32 × Int32))) (σ1 : Hp) (h : s_X1_passHour_b102 h0 l1 l2 l3 σ = some (x, σ1)) (hI : ∀ v, x = Sum.inl v → (fun (v : Nat × Int32 × Int32 × Int32) (σ : Hp) => G E X 0 0 102 [(0, tR (some ((v.1)))), (1, tI ((v.2.1))), (2, tI ((v.2.2.1))), (3, tI ((v.2.2.2)))] [] σ) v σ1) (hO : ∀ e, x = Sum.inr e → KE e σ1) : G E X 0 0 102 [(0, tR (some (h0))), (1, tI (l1)), (2, tI (l2)), (3, tI (l3))] [] σ := by
  unfold s_X1_passHour_b102 at h
  refine g_iload_n (pc := 102) C 3 3 dX1_passHour_102 rfl rfl ?_
  refine g_aload_n (pc := 103) C 0 0 dX1_passHour_103 rfl rfl ?_
  obtain ⟨v1, hvv1, h⟩ := zbind h
  refine g_getI (N := 20) (pc := 104) C ck_1 hvv1 rfl rfl fl_X1_66 dX1_passHour_104 ?_
  refine g_icmp_ge (pc := 107) C 139 dX1_passHour_107 (by decide) (fun c12 => ?_) (fun c12 => ?_)
  · have h := zif_t c12 h
    refine g_sub [0, 1, 2] (lm' := [(0, tR (some (h0))), (1, tI (l1)), (2, tI (l2))]) rfl ?_
    obtain ⟨rfl, rfl⟩ := zsome h
    exact e_139 _ _ _ _ (hO _ rfl)
  · have h := zif_f c12 h
    refine g_iload_n (pc := 110) C 3 3 dX1_passHour_110 rfl rfl ?_
    refine g_iconst (v := 3) (pc := 111) C dX1_passHour_111 (by decide) ?_
    refine g_icmp_ge (pc := 112) C 139 dX1_passHour_112 (by decide) (fun c11 => ?_) (fun c11 => ?_)
    · have h := zif_t c11 h
      refine g_sub [0, 1, 2] (lm' := [(0, tR (some (h0))), (1, tI (l1)), (2, tI (l2))]) rfl ?_
      obtain ⟨rfl, rfl⟩ := zsome h
      exact e_139 _ _ _ _ (hO _ rfl)
    · have h := zif_f c11 h
      refine g_aload_n (pc := 115) C 0 0 dX1_passHour_115 rfl rfl ?_
      obtain ⟨r2, hvr2, h⟩ := zbind h
      refine g_getR (N := 20) (pc := 116) C ck_1 hvr2 rfl rfl fl_X1_28 dX1_passHour_116 ?_
      refine g_iload_n (pc := 119) C 3 3 dX1_passHour_119 rfl rfl ?_
      refine g_aload_n (pc := 120) C 0 0 dX1_passHour_120 rfl rfl ?_
      refine g_iload_n (pc := 121) C 3 3 dX1_passHour_121 rfl rfl ?_
      refine g_aload_n (pc := 122) C 0 0 dX1_passHour_122 rfl rfl ?_
      obtain ⟨r3, hvr3, h⟩ := zbind h
      refine g_getR (N := 20) (pc := 123) C ck_1 hvr3 rfl rfl fl_X1_28 dX1_passHour_123 ?_
      refine g_iload_n (pc := 126) C 3 3 dX1_passHour_126 rfl rfl ?_
      obtain ⟨a4, hqa4, h9⟩ := zbind h
      clear h
      subst hqa4
      have h := h9
      clear h9
      obtain ⟨v5, hvv5, h⟩ := zbind h
      refine g_iald (pc := 127) C hvv5 dX1_passHour_127 ?_
      refine g_iload_n (pc := 128) C 1 1 dX1_passHour_128 rfl rfl ?_
      obtain ⟨u6, hvu6, h⟩ := zbind h
      obtain ⟨v8, σ7, hvσ7, h⟩ := zcb h
      refine g_callV (pc := 129) (av := [tI (l3), tI (v5), tI (l1)]) C (c_X1_whither hE hvσ7) yv_X1_whither ml_X1_171 ck_1 (zopt hvu6).1 rfl (rf_of (by decide)) rfl (Nat.le_of_ble_eq_true rfl) dX1_passHour_129 ?_
      obtain ⟨a9, hqa9, h9⟩ := zbind h
      clear h
      subst hqa9
      have h := h9
      clear h9
      obtain ⟨σ10, hvσ10, h⟩ := zbind h
      refine g_iast (pc := 132) C hvσ10 dX1_passHour_132 ?_
      refine g_iinc (lm' := [(3, tI (l3 + 1)), (0, tR (some (h0))), (1, tI (l1)), (2, tI (l2))]) (v := l3 + 1) (pc := 133) C 3 dX1_passHour_133 rfl rfl (by decide) rfl ?_
      refine g_goto (pc := 136) C 102 dX1_passHour_136 (by decide) ?_
      refine g_sub [1, 2, 3, 0] (lm' := [(0, tR (some (h0))), (1, tI (l1)), (2, tI (l2)), (3, tI (l3 + 1))]) rfl ?_
      obtain ⟨rfl, rfl⟩ := zsome h
      exact hI _ rfl
theorem w_X1_passHour_l102 {E : E0} (hE : EOK E) {X : X0} (C : XOK E X cX1_passHour RX1 6 (some .int) rm_X1_passHour) (hxn : xn X = (rm_X1_passHour.cells, rm_X1_passHour.slots)) {KE : ((Nat × Int32 × Int32)) → Hp → Prop} (e_139 : ∀ (h0 : Nat) (l1 : Int32) (l2 : Int32) (σ : Hp), KE ((h0, l1, l2)) σ → G E X 0 0 139 [(0, tR (some (h0))), (1, tI (l1)), (2, tI (l2))] [] σ) {v : Nat × Int32 × Int32 × Int32} {σ : Hp} {e : (Nat × Int32 × Int32)} {σ1 : Hp} (h : s_X1_passHour_l102 v σ = some (e, σ1)) (hO : KE e σ1) : G E X 0 0 102 [(0, tR (some ((v.1)))), (1, tI ((v.2.1))), (2, tI ((v.2.2.1))), (3, tI ((v.2.2.2)))] [] σ := loopF_ind (P := fun (v : Nat × Int32 × Int32 × Int32) (σ : Hp) => G E X 0 0 102 [(0, tR (some ((v.1)))), (1, tI ((v.2.1))), (2, tI ((v.2.2.1))), (3, tI ((v.2.2.2)))] [] σ) (KE := KE) (fun v σ x σ1 h hI hO => w_X1_passHour_b102 hE C hxn e_139 (v.1) (v.2.1) (v.2.2.1) (v.2.2.2) σ x σ1 h hI hO) v σ e σ1 h hO
noncomputable def s_X1_passHour_j139 (h0 : Nat) (l1 : Int32) (l2 : Int32) (σ : Hp) : Option (Int32 × Hp) :=
  (rdR 1 σ h0 10).bind fun r1 =>
  (r1).bind fun a2 =>
  (stI σ a2 (0) (l1 + 1)).bind fun σ3 =>
  some ((l2), σ3)
set_option maxRecDepth 100000 in
theorem w_X1_passHour_j139 {E : E0} (hE : EOK E) {X : X0} (C : XOK E X cX1_passHour RX1 6 (some .int) rm_X1_passHour) (hxn : xn X = (rm_X1_passHour.cells, rm_X1_passHour.slots)) (h0 : Nat) (l1 : Int32) (l2 : Int32) (σ : Hp) (r : Int32) (σ1 : Hp) (h : s_X1_passHour_j139 h0 l1 l2 σ = some (r, σ1)) (hx : xd X = (some (tI r), σ1)) : G E X 0 0 139 [(0, tR (some (h0))), (1, tI (l1)), (2, tI (l2))] [] σ := by
  unfold s_X1_passHour_j139 at h
  refine g_aload_n (pc := 139) C 0 0 dX1_passHour_139 rfl rfl ?_
  obtain ⟨r1, hvr1, h⟩ := zbind h
  refine g_getR (N := 20) (pc := 140) C ck_1 hvr1 rfl rfl fl_X1_46 dX1_passHour_140 ?_
  refine g_iconst (v := 0) (pc := 143) C dX1_passHour_143 (by decide) ?_
  refine g_iload_n (pc := 144) C 1 1 dX1_passHour_144 rfl rfl ?_
  refine g_iconst (v := 1) (pc := 145) C dX1_passHour_145 (by decide) ?_
  refine g_iadd (pc := 146) C dX1_passHour_146 ?_
  obtain ⟨a2, hqa2, h9⟩ := zbind h
  clear h
  subst hqa2
  have h := h9
  clear h9
  obtain ⟨σ3, hvσ3, h⟩ := zbind h
  refine g_iast (pc := 147) C hvσ3 dX1_passHour_147 ?_
  refine g_iload_n (pc := 148) C 2 2 dX1_passHour_148 rfl rfl ?_
  obtain ⟨rfl, rfl⟩ := zsome h
  exact g_iret (pc := 149) C rfl hx (by rw [hxn]; rfl) (by rw [hxn]; rfl) dX1_passHour_149
noncomputable def s_X1_passHour_j84 (h0 : Nat) (l1 : Int32) (l2 : Int32) (σ : Hp) : Option (Int32 × Hp) :=
  (rdI 1 σ h0 18).bind fun v1 =>
  (wrI 1 σ h0 18 (if 999 < (v1 + l2) then 999 else (v1 + l2))).bind fun σ2 =>
  cb (s_X1_passHour_l102 ((h0), (l1), (l2), (0)) σ2) fun e9 σ8 =>
  match e9 with
  | (h3, l14, l25) =>
    s_X1_passHour_j139 (h3) (l14) (l25) σ8
set_option maxRecDepth 100000 in
theorem w_X1_passHour_j84 {E : E0} (hE : EOK E) {X : X0} (C : XOK E X cX1_passHour RX1 6 (some .int) rm_X1_passHour) (hxn : xn X = (rm_X1_passHour.cells, rm_X1_passHour.slots)) (h0 : Nat) (l1 : Int32) (l2 : Int32) (σ : Hp) (r : Int32) (σ1 : Hp) (h : s_X1_passHour_j84 h0 l1 l2 σ = some (r, σ1)) (hx : xd X = (some (tI r), σ1)) : G E X 0 0 84 [(0, tR (some (h0))), (1, tI (l1)), (2, tI (l2))] [] σ := by
  unfold s_X1_passHour_j84 at h
  refine g_aload_n (pc := 84) C 0 0 dX1_passHour_84 rfl rfl ?_
  refine g_aload_n (pc := 85) C 0 0 dX1_passHour_85 rfl rfl ?_
  obtain ⟨v1, hvv1, h⟩ := zbind h
  refine g_getI (N := 20) (pc := 86) C ck_1 hvv1 rfl rfl fl_X1_78 dX1_passHour_86 ?_
  refine g_iload_n (pc := 89) C 2 2 dX1_passHour_89 rfl rfl ?_
  refine g_iadd (pc := 90) C dX1_passHour_90 ?_
  refine g_sipush (v := 999) (pc := 91) C dX1_passHour_91 (by decide) ?_
  refine g_mmin (pc := 94) C ml_X1_169 ⟨Nat.le_of_ble_eq_true rfl, Nat.le_of_ble_eq_true rfl⟩ ⟨Nat.le_of_ble_eq_true rfl, Nat.le_of_ble_eq_true rfl⟩ dX1_passHour_94 ?_
  obtain ⟨σ2, hvσ2, h⟩ := zbind h
  refine g_putI (N := 20) (pc := 97) C ⟨ck_1, rfl, tyX1_ok⟩ hvσ2 rfl fl_X1_78 rfl rfl dX1_passHour_97 ?_
  refine g_iconst (v := 0) (pc := 100) C dX1_passHour_100 (by decide) ?_
  refine g_istore_n (lm' := [(3, tI (0)), (0, tR (some (h0))), (1, tI (l1)), (2, tI (l2))]) (pc := 101) C 3 dX1_passHour_101 rfl (by decide) rfl ?_
  refine g_sub [1, 2, 3, 0] (lm' := [(0, tR (some (h0))), (1, tI (l1)), (2, tI (l2)), (3, tI (0))]) rfl ?_
  obtain ⟨KQ, hKQ, e9, σ8, hle9, h⟩ := zcbK h
  refine w_X1_passHour_l102 (KE := KQ) hE C hxn ?_ hle9 h
  · intro h3 l14 l25 σ6 h
    have h := (hKQ _ _).mp h
    exact w_X1_passHour_j139 hE C hxn _ _ _ _ _ _ h hx
noncomputable def s_X1_passHour (h0 : Nat) (σ : Hp) : Option (Int32 × Hp) :=
  (rdR 1 σ h0 10).bind fun r1 =>
  (r1).bind fun a2 =>
  (ldI 11 σ a2 (0)).bind fun v3 =>
  cb (s_X1_passHour_l11 ((h0), (v3), (0), (0)) σ) fun e10 σ9 =>
  match e10 with
  | (h4, l15, l26) =>
    s_X1_passHour_j84 (h4) (l15) (l26) σ9
set_option maxRecDepth 100000 in
theorem c_X1_passHour {E : E0} (hE : EOK E) {h0 : Nat} {σ σ1 : Hp} {r : Int32} (h : s_X1_passHour h0 σ = some (r, σ1)) : CT E yX1_passHour (.code yX1_passHour cX1_passHour 6 (some .int)) rm_X1_passHour [tR (some (h0))] σ (some (tI r)) σ1 := by
  refine CT.mk hE (by decide +kernel) (Nat.le_of_ble_eq_true rfl) [(0, tR (some (h0)))] rfl (fun X C hin hx hxn => ?_)
  have C : XOK E X cX1_passHour RX1 6 (some .int) rm_X1_passHour := C
  unfold s_X1_passHour at h
  refine g_aload_n (pc := 0) C 0 0 dX1_passHour_0 rfl rfl ?_
  obtain ⟨r1, hvr1, h⟩ := zbind h
  refine g_getR (N := 20) (pc := 1) C ck_1 hvr1 rfl rfl fl_X1_46 dX1_passHour_1 ?_
  refine g_iconst (v := 0) (pc := 4) C dX1_passHour_4 (by decide) ?_
  obtain ⟨a2, hqa2, h9⟩ := zbind h
  clear h
  subst hqa2
  have h := h9
  clear h9
  obtain ⟨v3, hvv3, h⟩ := zbind h
  refine g_iald (pc := 5) C hvv3 dX1_passHour_5 ?_
  refine g_istore_n (lm' := [(1, tI (v3)), (0, tR (some (h0)))]) (pc := 6) C 1 dX1_passHour_6 rfl (by decide) rfl ?_
  refine g_iconst (v := 0) (pc := 7) C dX1_passHour_7 (by decide) ?_
  refine g_istore_n (lm' := [(2, tI (0)), (1, tI (v3)), (0, tR (some (h0)))]) (pc := 8) C 2 dX1_passHour_8 rfl (by decide) rfl ?_
  refine g_iconst (v := 0) (pc := 9) C dX1_passHour_9 (by decide) ?_
  refine g_istore_n (lm' := [(3, tI (0)), (2, tI (0)), (1, tI (v3)), (0, tR (some (h0)))]) (pc := 10) C 3 dX1_passHour_10 rfl (by decide) rfl ?_
  refine g_sub [3, 2, 1, 0] (lm' := [(0, tR (some (h0))), (1, tI (v3)), (2, tI (0)), (3, tI (0))]) rfl ?_
  obtain ⟨KQ, hKQ, e10, σ9, hle10, h⟩ := zcbK h
  refine w_X1_passHour_l11 (KE := KQ) hE C hxn ?_ hle10 h
  · intro h4 l15 l26 σ7 h
    have h := (hKQ _ _).mp h
    exact w_X1_passHour_j84 hE C hxn _ _ _ _ _ _ h hx
def rm_X1_lesserShare : Room := { frames := 1, cells := 0, slots := 0, locals := 23 }
noncomputable def s_X1_lesserShare_j55 (h0 : Nat) (l1 : Int32) (l2 : Int32) (l3 : Int32) (l4 : Int32) (σ : Hp) : Option (((Nat × Int32 × Int32 × Int32 × Int32) ⊕ ((Int32 × Int32))) × Hp) :=
  some (Sum.inl ((h0), (l1), (l2), (l3), (l4 + 1)), σ)
set_option maxRecDepth 100000 in
theorem w_X1_lesserShare_j55 {E : E0} (hE : EOK E) {X : X0} (C : XOK E X cX1_lesserShare RX1 5 (some .int) rm_X1_lesserShare) (hxn : xn X = (rm_X1_lesserShare.cells, rm_X1_lesserShare.slots)) {KE : ((Int32 × Int32)) → Hp → Prop} (e_61 : ∀ (l2 : Int32) (l3 : Int32) (σ : Hp), KE ((l2, l3)) σ → G E X 0 0 61 [(2, tI (l2)), (3, tI (l3))] [] σ) (h0 : Nat) (l1 : Int32) (l2 : Int32) (l3 : Int32) (l4 : Int32) (σ : Hp) (x : (Nat × Int32 × Int32 × Int32 × Int32) ⊕ ((Int32 × Int32))) (σ1 : Hp) (h : s_X1_lesserShare_j55 h0 l1 l2 l3 l4 σ = some (x, σ1)) (hI : ∀ v, x = Sum.inl v → (fun (v : Nat × Int32 × Int32 × Int32 × Int32) (σ : Hp) => G E X 0 0 7 [(0, tR (some ((v.1)))), (1, tI ((v.2.1))), (2, tI ((v.2.2.1))), (3, tI ((v.2.2.2.1))), (4, tI ((v.2.2.2.2)))] [] σ) v σ1) (hO : ∀ e, x = Sum.inr e → KE e σ1) : G E X 0 0 55 [(0, tR (some (h0))), (1, tI (l1)), (2, tI (l2)), (3, tI (l3)), (4, tI (l4))] [] σ := by
  unfold s_X1_lesserShare_j55 at h
  refine g_iinc (lm' := [(4, tI (l4 + 1)), (0, tR (some (h0))), (1, tI (l1)), (2, tI (l2)), (3, tI (l3))]) (v := l4 + 1) (pc := 55) C 4 dX1_lesserShare_55 rfl rfl (by decide) rfl ?_
  refine g_goto (pc := 58) C 7 dX1_lesserShare_58 (by decide) ?_
  refine g_sub [1, 2, 3, 4, 0] (lm' := [(0, tR (some (h0))), (1, tI (l1)), (2, tI (l2)), (3, tI (l3)), (4, tI (l4 + 1))]) rfl ?_
  obtain ⟨rfl, rfl⟩ := zsome h
  exact hI _ rfl
noncomputable def s_X1_lesserShare_b7 (h0 : Nat) (l1 : Int32) (l2 : Int32) (l3 : Int32) (l4 : Int32) (σ : Hp) : Option (((Nat × Int32 × Int32 × Int32 × Int32) ⊕ ((Int32 × Int32))) × Hp) :=
  (rdI 1 σ h0 15).bind fun v1 =>
  if v1 ≤ l4 then
    some (Sum.inr ((l2), (l3)), σ)
  else
    if 6 ≤ l4 then
      some (Sum.inr ((l2), (l3)), σ)
    else
      cb (s_X8_hasBit (l1) (l4) σ) fun v3 σ2 =>
      if v3 = 0 then
        (rdR 1 σ2 h0 7).bind fun r4 =>
        (r4).bind fun a5 =>
        (ldI 11 σ2 a5 (l4)).bind fun v6 =>
        s_X1_lesserShare_j55 (h0) (l1) (l2) (l3 + v6) (l4) σ2
      else
        (rdR 1 σ2 h0 6).bind fun r7 =>
        (r7).bind fun a8 =>
        (ldI 11 σ2 a8 (l4)).bind fun v9 =>
        s_X1_lesserShare_j55 (h0) (l1) (l2 + v9) (l3) (l4) σ2
noncomputable def s_X1_lesserShare_l7 : (Nat × Int32 × Int32 × Int32 × Int32) → Hp → Option (((Int32 × Int32)) × Hp) := loopF (fun v => s_X1_lesserShare_b7 (v.1) (v.2.1) (v.2.2.1) (v.2.2.2.1) (v.2.2.2.2))
set_option maxRecDepth 100000 in
theorem w_X1_lesserShare_b7 {E : E0} (hE : EOK E) {X : X0} (C : XOK E X cX1_lesserShare RX1 5 (some .int) rm_X1_lesserShare) (hxn : xn X = (rm_X1_lesserShare.cells, rm_X1_lesserShare.slots)) {KE : ((Int32 × Int32)) → Hp → Prop} (e_61 : ∀ (l2 : Int32) (l3 : Int32) (σ : Hp), KE ((l2, l3)) σ → G E X 0 0 61 [(2, tI (l2)), (3, tI (l3))] [] σ) (h0 : Nat) (l1 : Int32) (l2 : Int32) (l3 : Int32) (l4 : Int32) (σ : Hp) (x : (Nat × Int32 × Int32 × Int32 × Int32) ⊕ ((Int32 × Int32))) (σ1 : Hp) (h : s_X1_lesserShare_b7 h0 l1 l2 l3 l4 σ = some (x, σ1)) (hI : ∀ v, x = Sum.inl v → (fun (v : Nat × Int32 × Int32 × Int32 × Int32) (σ : Hp) => G E X 0 0 7 [(0, tR (some ((v.1)))), (1, tI ((v.2.1))), (2, tI ((v.2.2.1))), (3, tI ((v.2.2.2.1))), (4, tI ((v.2.2.2.2)))] [] σ) v σ1) (hO : ∀ e, x = Sum.inr e → KE e σ1) : G E X 0 0 7 [(0, tR (some (h0))), (1, tI (l1)), (2, tI (l2)), (3, tI (l3)), (4, tI (l4))] [] σ := by
  unfold s_X1_lesserShare_b7 at h
  refine g_iload (pc := 7) C 4 dX1_lesserShare_7 rfl ?_
  refine g_aload_n (pc := 9) C 0 0 dX1_lesserShare_9 rfl rfl ?_
  obtain ⟨v1, hvv1, h⟩ := zbind h
  refine g_getI (N := 20) (pc := 10) C ck_1 hvv1 rfl rfl fl_X1_69 dX1_lesserShare_10 ?_
  refine g_icmp_ge (pc := 13) C 61 dX1_lesserShare_13 (by decide) (fun c12 => ?_) (fun c12 => ?_)
  · have h := zif_t c12 h
    refine g_sub [2, 3] (lm' := [(2, tI (l2)), (3, tI (l3))]) rfl ?_
    obtain ⟨rfl, rfl⟩ := zsome h
    exact e_61 _ _ _ (hO _ rfl)
  · have h := zif_f c12 h
    refine g_iload (pc := 16) C 4 dX1_lesserShare_16 rfl ?_
    refine g_bipush (v := 6) (pc := 18) C dX1_lesserShare_18 (by decide) ?_
    refine g_icmp_ge (pc := 20) C 61 dX1_lesserShare_20 (by decide) (fun c11 => ?_) (fun c11 => ?_)
    · have h := zif_t c11 h
      refine g_sub [2, 3] (lm' := [(2, tI (l2)), (3, tI (l3))]) rfl ?_
      obtain ⟨rfl, rfl⟩ := zsome h
      exact e_61 _ _ _ (hO _ rfl)
    · have h := zif_f c11 h
      refine g_iload_n (pc := 23) C 1 1 dX1_lesserShare_23 rfl rfl ?_
      refine g_iload (pc := 24) C 4 dX1_lesserShare_24 rfl ?_
      obtain ⟨v3, σ2, hvσ2, h⟩ := zcb h
      refine g_callSN (pc := 26) (av := [tI (l1), tI (l4)]) C (c_X8_hasBit hE hvσ2) ys_X8_hasBit ml_X1_96 rfl (rf_of (by decide)) rfl (Nat.le_of_ble_eq_true rfl) dX1_lesserShare_26 ?_
      refine g_if_eq (pc := 29) C 45 dX1_lesserShare_29 (by decide) (fun c10 => ?_) (fun c10 => ?_)
      · have h := zif_t c10 h
        refine g_iload_n (pc := 45) C 3 3 dX1_lesserShare_45 rfl rfl ?_
        refine g_aload_n (pc := 46) C 0 0 dX1_lesserShare_46 rfl rfl ?_
        obtain ⟨r4, hvr4, h⟩ := zbind h
        refine g_getR (N := 20) (pc := 47) C ck_1 hvr4 rfl rfl fl_X1_37 dX1_lesserShare_47 ?_
        refine g_iload (pc := 50) C 4 dX1_lesserShare_50 rfl ?_
        obtain ⟨a5, hqa5, h9⟩ := zbind h
        clear h
        subst hqa5
        have h := h9
        clear h9
        obtain ⟨v6, hvv6, h⟩ := zbind h
        refine g_iald (pc := 52) C hvv6 dX1_lesserShare_52 ?_
        refine g_iadd (pc := 53) C dX1_lesserShare_53 ?_
        refine g_istore_n (lm' := [(3, tI (l3 + v6)), (0, tR (some (h0))), (1, tI (l1)), (2, tI (l2)), (4, tI (l4))]) (pc := 54) C 3 dX1_lesserShare_54 rfl (by decide) rfl ?_
        refine g_sub [1, 2, 3, 0, 4] (lm' := [(0, tR (some (h0))), (1, tI (l1)), (2, tI (l2)), (3, tI (l3 + v6)), (4, tI (l4))]) rfl ?_
        exact w_X1_lesserShare_j55 hE C hxn e_61 _ _ _ _ _ _ _ _ h hI hO
      · have h := zif_f c10 h
        refine g_iload_n (pc := 32) C 2 2 dX1_lesserShare_32 rfl rfl ?_
        refine g_aload_n (pc := 33) C 0 0 dX1_lesserShare_33 rfl rfl ?_
        obtain ⟨r7, hvr7, h⟩ := zbind h
        refine g_getR (N := 20) (pc := 34) C ck_1 hvr7 rfl rfl fl_X1_34 dX1_lesserShare_34 ?_
        refine g_iload (pc := 37) C 4 dX1_lesserShare_37 rfl ?_
        obtain ⟨a8, hqa8, h9⟩ := zbind h
        clear h
        subst hqa8
        have h := h9
        clear h9
        obtain ⟨v9, hvv9, h⟩ := zbind h
        refine g_iald (pc := 39) C hvv9 dX1_lesserShare_39 ?_
        refine g_iadd (pc := 40) C dX1_lesserShare_40 ?_
        refine g_istore_n (lm' := [(2, tI (l2 + v9)), (0, tR (some (h0))), (1, tI (l1)), (3, tI (l3)), (4, tI (l4))]) (pc := 41) C 2 dX1_lesserShare_41 rfl (by decide) rfl ?_
        refine g_goto (pc := 42) C 55 dX1_lesserShare_42 (by decide) ?_
        refine g_sub [1, 2, 0, 3, 4] (lm' := [(0, tR (some (h0))), (1, tI (l1)), (2, tI (l2 + v9)), (3, tI (l3)), (4, tI (l4))]) rfl ?_
        exact w_X1_lesserShare_j55 hE C hxn e_61 _ _ _ _ _ _ _ _ h hI hO
theorem w_X1_lesserShare_l7 {E : E0} (hE : EOK E) {X : X0} (C : XOK E X cX1_lesserShare RX1 5 (some .int) rm_X1_lesserShare) (hxn : xn X = (rm_X1_lesserShare.cells, rm_X1_lesserShare.slots)) {KE : ((Int32 × Int32)) → Hp → Prop} (e_61 : ∀ (l2 : Int32) (l3 : Int32) (σ : Hp), KE ((l2, l3)) σ → G E X 0 0 61 [(2, tI (l2)), (3, tI (l3))] [] σ) {v : Nat × Int32 × Int32 × Int32 × Int32} {σ : Hp} {e : (Int32 × Int32)} {σ1 : Hp} (h : s_X1_lesserShare_l7 v σ = some (e, σ1)) (hO : KE e σ1) : G E X 0 0 7 [(0, tR (some ((v.1)))), (1, tI ((v.2.1))), (2, tI ((v.2.2.1))), (3, tI ((v.2.2.2.1))), (4, tI ((v.2.2.2.2)))] [] σ := loopF_ind (P := fun (v : Nat × Int32 × Int32 × Int32 × Int32) (σ : Hp) => G E X 0 0 7 [(0, tR (some ((v.1)))), (1, tI ((v.2.1))), (2, tI ((v.2.2.1))), (3, tI ((v.2.2.2.1))), (4, tI ((v.2.2.2.2)))] [] σ) (KE := KE) (fun v σ x σ1 h hI hO => w_X1_lesserShare_b7 hE C hxn e_61 (v.1) (v.2.1) (v.2.2.1) (v.2.2.2.1) (v.2.2.2.2) σ x σ1 h hI hO) v σ e σ1 h hO
noncomputable def s_X1_lesserShare_j61 (l2 : Int32) (l3 : Int32) (σ : Hp) : Option (Int32 × Hp) :=
  some ((if l3 < l2 then l3 else l2), σ)
set_option maxRecDepth 100000 in
theorem w_X1_lesserShare_j61 {E : E0} (hE : EOK E) {X : X0} (C : XOK E X cX1_lesserShare RX1 5 (some .int) rm_X1_lesserShare) (hxn : xn X = (rm_X1_lesserShare.cells, rm_X1_lesserShare.slots)) (l2 : Int32) (l3 : Int32) (σ : Hp) (r : Int32) (σ1 : Hp) (h : s_X1_lesserShare_j61 l2 l3 σ = some (r, σ1)) (hx : xd X = (some (tI r), σ1)) : G E X 0 0 61 [(2, tI (l2)), (3, tI (l3))] [] σ := by
  unfold s_X1_lesserShare_j61 at h
  refine g_iload_n (pc := 61) C 2 0 dX1_lesserShare_61 rfl rfl ?_
  refine g_iload_n (pc := 62) C 3 1 dX1_lesserShare_62 rfl rfl ?_
  refine g_mmin (pc := 63) C ml_X1_169 ⟨Nat.le_of_ble_eq_true rfl, Nat.le_of_ble_eq_true rfl⟩ ⟨Nat.le_of_ble_eq_true rfl, Nat.le_of_ble_eq_true rfl⟩ dX1_lesserShare_63 ?_
  obtain ⟨rfl, rfl⟩ := zsome h
  exact g_iret (pc := 66) C rfl hx (by rw [hxn]; rfl) (by rw [hxn]; rfl) dX1_lesserShare_66
noncomputable def s_X1_lesserShare (h0 : Nat) (p1 : Int32) (σ : Hp) : Option (Int32 × Hp) :=
  cb (s_X1_lesserShare_l7 ((h0), (p1), (0), (0), (0)) σ) fun e6 σ5 =>
  match e6 with
  | (l21, l32) =>
    s_X1_lesserShare_j61 (l21) (l32) σ5
set_option maxRecDepth 100000 in
theorem c_X1_lesserShare {E : E0} (hE : EOK E) {h0 : Nat} {p1 : Int32} {σ σ1 : Hp} {r : Int32} (h : s_X1_lesserShare h0 p1 σ = some (r, σ1)) : CT E yX1_lesserShare (.code yX1_lesserShare cX1_lesserShare 5 (some .int)) rm_X1_lesserShare [tR (some (h0)), tI (p1)] σ (some (tI r)) σ1 := by
  refine CT.mk hE (by decide +kernel) (Nat.le_of_ble_eq_true rfl) [(0, tR (some (h0))), (1, tI (p1))] rfl (fun X C hin hx hxn => ?_)
  have C : XOK E X cX1_lesserShare RX1 5 (some .int) rm_X1_lesserShare := C
  unfold s_X1_lesserShare at h
  refine g_iconst (v := 0) (pc := 0) C dX1_lesserShare_0 (by decide) ?_
  refine g_istore_n (lm' := [(2, tI (0)), (0, tR (some (h0))), (1, tI (p1))]) (pc := 1) C 2 dX1_lesserShare_1 rfl (by decide) rfl ?_
  refine g_iconst (v := 0) (pc := 2) C dX1_lesserShare_2 (by decide) ?_
  refine g_istore_n (lm' := [(3, tI (0)), (2, tI (0)), (0, tR (some (h0))), (1, tI (p1))]) (pc := 3) C 3 dX1_lesserShare_3 rfl (by decide) rfl ?_
  refine g_iconst (v := 0) (pc := 4) C dX1_lesserShare_4 (by decide) ?_
  refine g_istore (lm' := [(4, tI (0)), (3, tI (0)), (2, tI (0)), (0, tR (some (h0))), (1, tI (p1))]) (pc := 5) C dX1_lesserShare_5 (by decide) rfl ?_
  refine g_sub [3, 4, 2, 1, 0] (lm' := [(0, tR (some (h0))), (1, tI (p1)), (2, tI (0)), (3, tI (0)), (4, tI (0))]) rfl ?_
  obtain ⟨KQ, hKQ, e6, σ5, hle6, h⟩ := zcbK h
  refine w_X1_lesserShare_l7 (KE := KQ) hE C hxn ?_ hle6 h
  · intro l21 l32 σ3 h
    have h := (hKQ _ _).mp h
    exact w_X1_lesserShare_j61 hE C hxn _ _ _ _ _ h hx
def rm_X2_drawSteps : Room := { frames := 3, cells := 0, slots := 0, locals := 69 }
noncomputable def s_X2_drawSteps_j49 (h0 : Nat) (l1 : Option Nat) (l2 : Int32) (l3 : Int32) (l4 : Int32) (σ : Hp) : Option (((Nat × (Option Nat) × Int32 × Int32 × Int32) ⊕ ((Nat × (Option Nat) × Int32 × Int32))) × Hp) :=
  some (Sum.inl ((h0), (l1), (l2), (l3), (l4 + 1)), σ)
set_option maxRecDepth 100000 in
theorem w_X2_drawSteps_j49 {E : E0} (hE : EOK E) {X : X0} (C : XOK E X cX2_drawSteps RX2 5 none rm_X2_drawSteps) (hxn : xn X = (rm_X2_drawSteps.cells, rm_X2_drawSteps.slots)) {KE : ((Nat × (Option Nat) × Int32 × Int32)) → Hp → Prop} (e_55 : ∀ (h0 : Nat) (l1 : Option Nat) (l2 : Int32) (l3 : Int32) (σ : Hp), KE ((h0, l1, l2, l3)) σ → G E X 0 0 55 [(0, tR (some (h0))), (1, tR (l1)), (2, tI (l2)), (3, tI (l3))] [] σ) (h0 : Nat) (l1 : Option Nat) (l2 : Int32) (l3 : Int32) (l4 : Int32) (σ : Hp) (x : (Nat × (Option Nat) × Int32 × Int32 × Int32) ⊕ ((Nat × (Option Nat) × Int32 × Int32))) (σ1 : Hp) (h : s_X2_drawSteps_j49 h0 l1 l2 l3 l4 σ = some (x, σ1)) (hI : ∀ v, x = Sum.inl v → (fun (v : Nat × (Option Nat) × Int32 × Int32 × Int32) (σ : Hp) => G E X 0 0 18 [(0, tR (some ((v.1)))), (1, tR ((v.2.1))), (2, tI ((v.2.2.1))), (3, tI ((v.2.2.2.1))), (4, tI ((v.2.2.2.2)))] [] σ) v σ1) (hO : ∀ e, x = Sum.inr e → KE e σ1) : G E X 0 0 49 [(0, tR (some (h0))), (1, tR (l1)), (2, tI (l2)), (3, tI (l3)), (4, tI (l4))] [] σ := by
  unfold s_X2_drawSteps_j49 at h
  refine g_iinc (lm' := [(4, tI (l4 + 1)), (0, tR (some (h0))), (1, tR (l1)), (2, tI (l2)), (3, tI (l3))]) (v := l4 + 1) (pc := 49) C 4 dX2_drawSteps_49 rfl rfl (by decide) rfl ?_
  refine g_goto (pc := 52) C 18 dX2_drawSteps_52 (by decide) ?_
  refine g_sub [1, 2, 3, 4, 0] (lm' := [(0, tR (some (h0))), (1, tR (l1)), (2, tI (l2)), (3, tI (l3)), (4, tI (l4 + 1))]) rfl ?_
  obtain ⟨rfl, rfl⟩ := zsome h
  exact hI _ rfl
noncomputable def s_X2_drawSteps_b18 (h0 : Nat) (l1 : Option Nat) (l2 : Int32) (l3 : Int32) (l4 : Int32) (σ : Hp) : Option (((Nat × (Option Nat) × Int32 × Int32 × Int32) ⊕ ((Nat × (Option Nat) × Int32 × Int32))) × Hp) :=
  if 10 ≤ l4 then
    some (Sum.inr ((h0), (l1), (l2), (l3)), σ)
  else
    (l1).bind fun a1 =>
    (ck 1 σ a1).bind fun u2 =>
    cb (s_X1_leads a1 (l2) (l3) (l4) σ) fun v4 σ3 =>
    if v4 = 0 then
      s_X2_drawSteps_j49 (h0) (some (a1)) (l2) (l3) (l4) σ3
    else
      (rdR 2 σ3 h0 2).bind fun r5 =>
      (r5).bind fun a6 =>
      (ldI 11 σ3 a6 (l3)).bind fun v7 =>
      (stI σ3 a6 (l3) (v7 ||| ((1 : Int32) <<< (l4 &&& 31)))).bind fun σ8 =>
      s_X2_drawSteps_j49 (h0) (some (a1)) (l2) (l3) (l4) σ8
noncomputable def s_X2_drawSteps_l18 : (Nat × (Option Nat) × Int32 × Int32 × Int32) → Hp → Option (((Nat × (Option Nat) × Int32 × Int32)) × Hp) := loopF (fun v => s_X2_drawSteps_b18 (v.1) (v.2.1) (v.2.2.1) (v.2.2.2.1) (v.2.2.2.2))
set_option maxRecDepth 100000 in
theorem w_X2_drawSteps_b18 {E : E0} (hE : EOK E) {X : X0} (C : XOK E X cX2_drawSteps RX2 5 none rm_X2_drawSteps) (hxn : xn X = (rm_X2_drawSteps.cells, rm_X2_drawSteps.slots)) {KE : ((Nat × (Option Nat) × Int32 × Int32)) → Hp → Prop} (e_55 : ∀ (h0 : Nat) (l1 : Option Nat) (l2 : Int32) (l3 : Int32) (σ : Hp), KE ((h0, l1, l2, l3)) σ → G E X 0 0 55 [(0, tR (some (h0))), (1, tR (l1)), (2, tI (l2)), (3, tI (l3))] [] σ) (h0 : Nat) (l1 : Option Nat) (l2 : Int32) (l3 : Int32) (l4 : Int32) (σ : Hp) (x : (Nat × (Option Nat) × Int32 × Int32 × Int32) ⊕ ((Nat × (Option Nat) × Int32 × Int32))) (σ1 : Hp) (h : s_X2_drawSteps_b18 h0 l1 l2 l3 l4 σ = some (x, σ1)) (hI : ∀ v, x = Sum.inl v → (fun (v : Nat × (Option Nat) × Int32 × Int32 × Int32) (σ : Hp) => G E X 0 0 18 [(0, tR (some ((v.1)))), (1, tR ((v.2.1))), (2, tI ((v.2.2.1))), (3, tI ((v.2.2.2.1))), (4, tI ((v.2.2.2.2)))] [] σ) v σ1) (hO : ∀ e, x = Sum.inr e → KE e σ1) : G E X 0 0 18 [(0, tR (some (h0))), (1, tR (l1)), (2, tI (l2)), (3, tI (l3)), (4, tI (l4))] [] σ := by
  unfold s_X2_drawSteps_b18 at h
  refine g_iload (pc := 18) C 4 dX2_drawSteps_18 rfl ?_
  refine g_bipush (v := 10) (pc := 20) C dX2_drawSteps_20 (by decide) ?_
  refine g_icmp_ge (pc := 22) C 55 dX2_drawSteps_22 (by decide) (fun c10 => ?_) (fun c10 => ?_)
  · have h := zif_t c10 h
    refine g_sub [0, 1, 2, 3] (lm' := [(0, tR (some (h0))), (1, tR (l1)), (2, tI (l2)), (3, tI (l3))]) rfl ?_
    obtain ⟨rfl, rfl⟩ := zsome h
    exact e_55 _ _ _ _ _ (hO _ rfl)
  · have h := zif_f c10 h
    refine g_aload_n (pc := 25) C 1 1 dX2_drawSteps_25 rfl rfl ?_
    refine g_iload_n (pc := 26) C 2 2 dX2_drawSteps_26 rfl rfl ?_
    refine g_iload_n (pc := 27) C 3 3 dX2_drawSteps_27 rfl rfl ?_
    refine g_iload (pc := 28) C 4 dX2_drawSteps_28 rfl ?_
    obtain ⟨a1, hqa1, h9⟩ := zbind h
    clear h
    subst hqa1
    have h := h9
    clear h9
    obtain ⟨u2, hvu2, h⟩ := zbind h
    obtain ⟨v4, σ3, hvσ3, h⟩ := zcb h
    refine g_callV (pc := 30) (av := [tI (l2), tI (l3), tI (l4)]) C (c_X1_leads hE hvσ3) yv_X1_leads ml_X2_36 ck_1 (zopt hvu2).1 rfl (rf_of (by decide)) rfl (Nat.le_of_ble_eq_true rfl) dX2_drawSteps_30 ?_
    refine g_if_eq (pc := 33) C 49 dX2_drawSteps_33 (by decide) (fun c9 => ?_) (fun c9 => ?_)
    · have h := zif_t c9 h
      exact w_X2_drawSteps_j49 hE C hxn e_55 _ _ _ _ _ _ _ _ h hI hO
    · have h := zif_f c9 h
      refine g_aload_n (pc := 36) C 0 0 dX2_drawSteps_36 rfl rfl ?_
      obtain ⟨r5, hvr5, h⟩ := zbind h
      refine g_getR (N := 7) (pc := 37) C ck_2 hvr5 rfl rfl fl_X2_20 dX2_drawSteps_37 ?_
      refine g_iload_n (pc := 40) C 3 3 dX2_drawSteps_40 rfl rfl ?_
      refine g_dup2 (pc := 41) C dX2_drawSteps_41 rfl rfl ?_
      obtain ⟨a6, hqa6, h9⟩ := zbind h
      clear h
      subst hqa6
      have h := h9
      clear h9
      obtain ⟨v7, hvv7, h⟩ := zbind h
      refine g_iald (pc := 42) C hvv7 dX2_drawSteps_42 ?_
      refine g_iconst (v := 1) (pc := 43) C dX2_drawSteps_43 (by decide) ?_
      refine g_iload (pc := 44) C 4 dX2_drawSteps_44 rfl ?_
      refine g_ishl (pc := 46) C dX2_drawSteps_46 ?_
      refine g_ior (pc := 47) C dX2_drawSteps_47 ?_
      obtain ⟨σ8, hvσ8, h⟩ := zbind h
      refine g_iast (pc := 48) C hvσ8 dX2_drawSteps_48 ?_
      exact w_X2_drawSteps_j49 hE C hxn e_55 _ _ _ _ _ _ _ _ h hI hO
theorem w_X2_drawSteps_l18 {E : E0} (hE : EOK E) {X : X0} (C : XOK E X cX2_drawSteps RX2 5 none rm_X2_drawSteps) (hxn : xn X = (rm_X2_drawSteps.cells, rm_X2_drawSteps.slots)) {KE : ((Nat × (Option Nat) × Int32 × Int32)) → Hp → Prop} (e_55 : ∀ (h0 : Nat) (l1 : Option Nat) (l2 : Int32) (l3 : Int32) (σ : Hp), KE ((h0, l1, l2, l3)) σ → G E X 0 0 55 [(0, tR (some (h0))), (1, tR (l1)), (2, tI (l2)), (3, tI (l3))] [] σ) {v : Nat × (Option Nat) × Int32 × Int32 × Int32} {σ : Hp} {e : (Nat × (Option Nat) × Int32 × Int32)} {σ1 : Hp} (h : s_X2_drawSteps_l18 v σ = some (e, σ1)) (hO : KE e σ1) : G E X 0 0 18 [(0, tR (some ((v.1)))), (1, tR ((v.2.1))), (2, tI ((v.2.2.1))), (3, tI ((v.2.2.2.1))), (4, tI ((v.2.2.2.2)))] [] σ := loopF_ind (P := fun (v : Nat × (Option Nat) × Int32 × Int32 × Int32) (σ : Hp) => G E X 0 0 18 [(0, tR (some ((v.1)))), (1, tR ((v.2.1))), (2, tI ((v.2.2.1))), (3, tI ((v.2.2.2.1))), (4, tI ((v.2.2.2.2)))] [] σ) (KE := KE) (fun v σ x σ1 h hI hO => w_X2_drawSteps_b18 hE C hxn e_55 (v.1) (v.2.1) (v.2.2.1) (v.2.2.2.1) (v.2.2.2.2) σ x σ1 h hI hO) v σ e σ1 h hO
noncomputable def s_X2_drawSteps_b2 (h0 : Nat) (l1 : Option Nat) (l2 : Int32) (l3 : Int32) (σ : Hp) : Option (((Nat × (Option Nat) × Int32 × Int32) ⊕ (Unit)) × Hp) :=
  if 10 ≤ l3 then
    some (Sum.inr (), σ)
  else
    (rdR 2 σ h0 2).bind fun r1 =>
    (r1).bind fun a2 =>
    (stI σ a2 (l3) (0)).bind fun σ3 =>
    cb (s_X2_drawSteps_l18 ((h0), (l1), (l2), (l3), (0)) σ3) fun e11 σ10 =>
    match e11 with
    | (h4, l15, l26, l37) =>
      some (Sum.inl ((h4), (l15), (l26), (l37 + 1)), σ10)
noncomputable def s_X2_drawSteps_l2 : (Nat × (Option Nat) × Int32 × Int32) → Hp → Option ((Unit) × Hp) := loopF (fun v => s_X2_drawSteps_b2 (v.1) (v.2.1) (v.2.2.1) (v.2.2.2))
set_option maxRecDepth 100000 in
theorem w_X2_drawSteps_b2 {E : E0} (hE : EOK E) {X : X0} (C : XOK E X cX2_drawSteps RX2 5 none rm_X2_drawSteps) (hxn : xn X = (rm_X2_drawSteps.cells, rm_X2_drawSteps.slots)) {KE : (Unit) → Hp → Prop} (e_ret : ∀ (r : Unit) (σ : Hp), KE (r) σ → xd X = (none, σ)) (h0 : Nat) (l1 : Option Nat) (l2 : Int32) (l3 : Int32) (σ : Hp) (x : (Nat × (Option Nat) × Int32 × Int32) ⊕ (Unit)) (σ1 : Hp) (h : s_X2_drawSteps_b2 h0 l1 l2 l3 σ = some (x, σ1)) (hI : ∀ v, x = Sum.inl v → (fun (v : Nat × (Option Nat) × Int32 × Int32) (σ : Hp) => G E X 0 0 2 [(0, tR (some ((v.1)))), (1, tR ((v.2.1))), (2, tI ((v.2.2.1))), (3, tI ((v.2.2.2)))] [] σ) v σ1) (hO : ∀ e, x = Sum.inr e → KE e σ1) : G E X 0 0 2 [(0, tR (some (h0))), (1, tR (l1)), (2, tI (l2)), (3, tI (l3))] [] σ := by
  unfold s_X2_drawSteps_b2 at h
  refine g_iload_n (pc := 2) C 3 3 dX2_drawSteps_2 rfl rfl ?_
  refine g_bipush (v := 10) (pc := 3) C dX2_drawSteps_3 (by decide) ?_
  refine g_icmp_ge (pc := 5) C 61 dX2_drawSteps_5 (by decide) (fun c12 => ?_) (fun c12 => ?_)
  · have h := zif_t c12 h
    obtain ⟨rfl, rfl⟩ := zsome h
    exact g_vret (pc := 61) C rfl (e_ret _ _ (hO _ rfl)) (by rw [hxn]; rfl) (by rw [hxn]; rfl) dX2_drawSteps_61
  · have h := zif_f c12 h
    refine g_aload_n (pc := 8) C 0 0 dX2_drawSteps_8 rfl rfl ?_
    obtain ⟨r1, hvr1, h⟩ := zbind h
    refine g_getR (N := 7) (pc := 9) C ck_2 hvr1 rfl rfl fl_X2_20 dX2_drawSteps_9 ?_
    refine g_iload_n (pc := 12) C 3 3 dX2_drawSteps_12 rfl rfl ?_
    refine g_iconst (v := 0) (pc := 13) C dX2_drawSteps_13 (by decide) ?_
    obtain ⟨a2, hqa2, h9⟩ := zbind h
    clear h
    subst hqa2
    have h := h9
    clear h9
    obtain ⟨σ3, hvσ3, h⟩ := zbind h
    refine g_iast (pc := 14) C hvσ3 dX2_drawSteps_14 ?_
    refine g_iconst (v := 0) (pc := 15) C dX2_drawSteps_15 (by decide) ?_
    refine g_istore (lm' := [(4, tI (0)), (0, tR (some (h0))), (1, tR (l1)), (2, tI (l2)), (3, tI (l3))]) (pc := 16) C dX2_drawSteps_16 (by decide) rfl ?_
    refine g_sub [1, 2, 3, 4, 0] (lm' := [(0, tR (some (h0))), (1, tR (l1)), (2, tI (l2)), (3, tI (l3)), (4, tI (0))]) rfl ?_
    obtain ⟨KQ, hKQ, e11, σ10, hle11, h⟩ := zcbK h
    refine w_X2_drawSteps_l18 (KE := KQ) hE C hxn ?_ hle11 h
    · intro h4 l15 l26 l37 σ8 h
      have h := (hKQ _ _).mp h
      refine g_iinc (lm' := [(3, tI (l37 + 1)), (0, tR (some (h4))), (1, tR (l15)), (2, tI (l26))]) (v := l37 + 1) (pc := 55) C 3 dX2_drawSteps_55 rfl rfl (by decide) rfl ?_
      refine g_goto (pc := 58) C 2 dX2_drawSteps_58 (by decide) ?_
      refine g_sub [1, 2, 3, 0] (lm' := [(0, tR (some (h4))), (1, tR (l15)), (2, tI (l26)), (3, tI (l37 + 1))]) rfl ?_
      obtain ⟨rfl, rfl⟩ := zsome h
      exact hI _ rfl
theorem w_X2_drawSteps_l2 {E : E0} (hE : EOK E) {X : X0} (C : XOK E X cX2_drawSteps RX2 5 none rm_X2_drawSteps) (hxn : xn X = (rm_X2_drawSteps.cells, rm_X2_drawSteps.slots)) {KE : (Unit) → Hp → Prop} (e_ret : ∀ (r : Unit) (σ : Hp), KE (r) σ → xd X = (none, σ)) {v : Nat × (Option Nat) × Int32 × Int32} {σ : Hp} {e : Unit} {σ1 : Hp} (h : s_X2_drawSteps_l2 v σ = some (e, σ1)) (hO : KE e σ1) : G E X 0 0 2 [(0, tR (some ((v.1)))), (1, tR ((v.2.1))), (2, tI ((v.2.2.1))), (3, tI ((v.2.2.2)))] [] σ := loopF_ind (P := fun (v : Nat × (Option Nat) × Int32 × Int32) (σ : Hp) => G E X 0 0 2 [(0, tR (some ((v.1)))), (1, tR ((v.2.1))), (2, tI ((v.2.2.1))), (3, tI ((v.2.2.2)))] [] σ) (KE := KE) (fun v σ x σ1 h hI hO => w_X2_drawSteps_b2 hE C hxn e_ret (v.1) (v.2.1) (v.2.2.1) (v.2.2.2) σ x σ1 h hI hO) v σ e σ1 h hO
noncomputable def s_X2_drawSteps (h0 : Nat) (p1 : Option Nat) (p2 : Int32) (σ : Hp) : Option (Unit × Hp) :=
  cb (s_X2_drawSteps_l2 ((h0), (p1), (p2), (0)) σ) fun r2 σ3 =>
  some (r2, σ3)
set_option maxRecDepth 100000 in
theorem c_X2_drawSteps {E : E0} (hE : EOK E) {h0 : Nat} {p1 : Option Nat} {p2 : Int32} {σ σ1 : Hp} {r : Unit} (h : s_X2_drawSteps h0 p1 p2 σ = some (r, σ1)) : CT E yX2_drawSteps (.code yX2_drawSteps cX2_drawSteps 5 none) rm_X2_drawSteps [tR (some (h0)), tR (p1), tI (p2)] σ none σ1 := by
  refine CT.mk hE (by decide +kernel) (Nat.le_of_ble_eq_true rfl) [(0, tR (some (h0))), (1, tR (p1)), (2, tI (p2))] rfl (fun X C hin hx hxn => ?_)
  have C : XOK E X cX2_drawSteps RX2 5 none rm_X2_drawSteps := C
  unfold s_X2_drawSteps at h
  refine g_iconst (v := 0) (pc := 0) C dX2_drawSteps_0 (by decide) ?_
  refine g_istore_n (lm' := [(3, tI (0)), (0, tR (some (h0))), (1, tR (p1)), (2, tI (p2))]) (pc := 1) C 3 dX2_drawSteps_1 rfl (by decide) rfl ?_
  refine g_sub [1, 2, 3, 0] (lm' := [(0, tR (some (h0))), (1, tR (p1)), (2, tI (p2)), (3, tI (0))]) rfl ?_
  obtain ⟨KQ, hKQ, r2, σ3, hlr2, h⟩ := zcbK h
  refine w_X2_drawSteps_l2 (KE := KQ) hE C hxn ?_ hlr2 h
  · intro r2 σ1 h
    have h := (hKQ _ _).mp h
    obtain ⟨rfl, rfl⟩ := zsome h
    exact hx
def rm_X2_onward : Room := { frames := 1, cells := 0, slots := 0, locals := 21 }
noncomputable def s_X2_onward_j27 (h0 : Nat) (l1 : Int32) (l2 : Int32) (l3 : Int32) (σ : Hp) : Option (((Nat × Int32 × Int32 × Int32) ⊕ (Int32)) × Hp) :=
  some (Sum.inl ((h0), (l1), (l2), (l3 + 1)), σ)
set_option maxRecDepth 100000 in
theorem w_X2_onward_j27 {E : E0} (hE : EOK E) {X : X0} (C : XOK E X cX2_onward RX2 4 (some .int) rm_X2_onward) (hxn : xn X = (rm_X2_onward.cells, rm_X2_onward.slots)) {KE : (Int32) → Hp → Prop} (e_ret : ∀ (r : Int32) (σ : Hp), KE (r) σ → xd X = (some (tI r), σ)) (h0 : Nat) (l1 : Int32) (l2 : Int32) (l3 : Int32) (σ : Hp) (x : (Nat × Int32 × Int32 × Int32) ⊕ (Int32)) (σ1 : Hp) (h : s_X2_onward_j27 h0 l1 l2 l3 σ = some (x, σ1)) (hI : ∀ v, x = Sum.inl v → (fun (v : Nat × Int32 × Int32 × Int32) (σ : Hp) => G E X 0 0 4 [(0, tR (some ((v.1)))), (1, tI ((v.2.1))), (2, tI ((v.2.2.1))), (3, tI ((v.2.2.2)))] [] σ) v σ1) (hO : ∀ e, x = Sum.inr e → KE e σ1) : G E X 0 0 27 [(0, tR (some (h0))), (1, tI (l1)), (2, tI (l2)), (3, tI (l3))] [] σ := by
  unfold s_X2_onward_j27 at h
  refine g_iinc (lm' := [(3, tI (l3 + 1)), (0, tR (some (h0))), (1, tI (l1)), (2, tI (l2))]) (v := l3 + 1) (pc := 27) C 3 dX2_onward_27 rfl rfl (by decide) rfl ?_
  refine g_goto (pc := 30) C 4 dX2_onward_30 (by decide) ?_
  refine g_sub [1, 2, 3, 0] (lm' := [(0, tR (some (h0))), (1, tI (l1)), (2, tI (l2)), (3, tI (l3 + 1))]) rfl ?_
  obtain ⟨rfl, rfl⟩ := zsome h
  exact hI _ rfl
noncomputable def s_X2_onward_b4 (h0 : Nat) (l1 : Int32) (l2 : Int32) (l3 : Int32) (σ : Hp) : Option (((Nat × Int32 × Int32 × Int32) ⊕ (Int32)) × Hp) :=
  if 10 ≤ l3 then
    some (Sum.inr (l2), σ)
  else
    cb (s_X8_hasBit (l1) (l3) σ) fun v2 σ1 =>
    if v2 = 0 then
      s_X2_onward_j27 (h0) (l1) (l2) (l3) σ1
    else
      (rdR 2 σ1 h0 2).bind fun r3 =>
      (r3).bind fun a4 =>
      (ldI 11 σ1 a4 (l3)).bind fun v5 =>
      s_X2_onward_j27 (h0) (l1) (l2 ||| v5) (l3) σ1
noncomputable def s_X2_onward_l4 : (Nat × Int32 × Int32 × Int32) → Hp → Option ((Int32) × Hp) := loopF (fun v => s_X2_onward_b4 (v.1) (v.2.1) (v.2.2.1) (v.2.2.2))
set_option maxRecDepth 100000 in
theorem w_X2_onward_b4 {E : E0} (hE : EOK E) {X : X0} (C : XOK E X cX2_onward RX2 4 (some .int) rm_X2_onward) (hxn : xn X = (rm_X2_onward.cells, rm_X2_onward.slots)) {KE : (Int32) → Hp → Prop} (e_ret : ∀ (r : Int32) (σ : Hp), KE (r) σ → xd X = (some (tI r), σ)) (h0 : Nat) (l1 : Int32) (l2 : Int32) (l3 : Int32) (σ : Hp) (x : (Nat × Int32 × Int32 × Int32) ⊕ (Int32)) (σ1 : Hp) (h : s_X2_onward_b4 h0 l1 l2 l3 σ = some (x, σ1)) (hI : ∀ v, x = Sum.inl v → (fun (v : Nat × Int32 × Int32 × Int32) (σ : Hp) => G E X 0 0 4 [(0, tR (some ((v.1)))), (1, tI ((v.2.1))), (2, tI ((v.2.2.1))), (3, tI ((v.2.2.2)))] [] σ) v σ1) (hO : ∀ e, x = Sum.inr e → KE e σ1) : G E X 0 0 4 [(0, tR (some (h0))), (1, tI (l1)), (2, tI (l2)), (3, tI (l3))] [] σ := by
  unfold s_X2_onward_b4 at h
  refine g_iload_n (pc := 4) C 3 3 dX2_onward_4 rfl rfl ?_
  refine g_bipush (v := 10) (pc := 5) C dX2_onward_5 (by decide) ?_
  refine g_icmp_ge (pc := 7) C 33 dX2_onward_7 (by decide) (fun c7 => ?_) (fun c7 => ?_)
  · have h := zif_t c7 h
    refine g_iload_n (pc := 33) C 2 2 dX2_onward_33 rfl rfl ?_
    obtain ⟨rfl, rfl⟩ := zsome h
    exact g_iret (pc := 34) C rfl (e_ret _ _ (hO _ rfl)) (by rw [hxn]; rfl) (by rw [hxn]; rfl) dX2_onward_34
  · have h := zif_f c7 h
    refine g_iload_n (pc := 10) C 1 1 dX2_onward_10 rfl rfl ?_
    refine g_iload_n (pc := 11) C 3 3 dX2_onward_11 rfl rfl ?_
    obtain ⟨v2, σ1, hvσ1, h⟩ := zcb h
    refine g_callSN (pc := 12) (av := [tI (l1), tI (l3)]) C (c_X8_hasBit hE hvσ1) ys_X8_hasBit ml_X2_42 rfl (rf_of (by decide)) rfl (Nat.le_of_ble_eq_true rfl) dX2_onward_12 ?_
    refine g_if_eq (pc := 15) C 27 dX2_onward_15 (by decide) (fun c6 => ?_) (fun c6 => ?_)
    · have h := zif_t c6 h
      exact w_X2_onward_j27 hE C hxn e_ret _ _ _ _ _ _ _ h hI hO
    · have h := zif_f c6 h
      refine g_iload_n (pc := 18) C 2 2 dX2_onward_18 rfl rfl ?_
      refine g_aload_n (pc := 19) C 0 0 dX2_onward_19 rfl rfl ?_
      obtain ⟨r3, hvr3, h⟩ := zbind h
      refine g_getR (N := 7) (pc := 20) C ck_2 hvr3 rfl rfl fl_X2_20 dX2_onward_20 ?_
      refine g_iload_n (pc := 23) C 3 3 dX2_onward_23 rfl rfl ?_
      obtain ⟨a4, hqa4, h9⟩ := zbind h
      clear h
      subst hqa4
      have h := h9
      clear h9
      obtain ⟨v5, hvv5, h⟩ := zbind h
      refine g_iald (pc := 24) C hvv5 dX2_onward_24 ?_
      refine g_ior (pc := 25) C dX2_onward_25 ?_
      refine g_istore_n (lm' := [(2, tI (l2 ||| v5)), (0, tR (some (h0))), (1, tI (l1)), (3, tI (l3))]) (pc := 26) C 2 dX2_onward_26 rfl (by decide) rfl ?_
      refine g_sub [1, 2, 0, 3] (lm' := [(0, tR (some (h0))), (1, tI (l1)), (2, tI (l2 ||| v5)), (3, tI (l3))]) rfl ?_
      exact w_X2_onward_j27 hE C hxn e_ret _ _ _ _ _ _ _ h hI hO
theorem w_X2_onward_l4 {E : E0} (hE : EOK E) {X : X0} (C : XOK E X cX2_onward RX2 4 (some .int) rm_X2_onward) (hxn : xn X = (rm_X2_onward.cells, rm_X2_onward.slots)) {KE : (Int32) → Hp → Prop} (e_ret : ∀ (r : Int32) (σ : Hp), KE (r) σ → xd X = (some (tI r), σ)) {v : Nat × Int32 × Int32 × Int32} {σ : Hp} {e : Int32} {σ1 : Hp} (h : s_X2_onward_l4 v σ = some (e, σ1)) (hO : KE e σ1) : G E X 0 0 4 [(0, tR (some ((v.1)))), (1, tI ((v.2.1))), (2, tI ((v.2.2.1))), (3, tI ((v.2.2.2)))] [] σ := loopF_ind (P := fun (v : Nat × Int32 × Int32 × Int32) (σ : Hp) => G E X 0 0 4 [(0, tR (some ((v.1)))), (1, tI ((v.2.1))), (2, tI ((v.2.2.1))), (3, tI ((v.2.2.2)))] [] σ) (KE := KE) (fun v σ x σ1 h hI hO => w_X2_onward_b4 hE C hxn e_ret (v.1) (v.2.1) (v.2.2.1) (v.2.2.2) σ x σ1 h hI hO) v σ e σ1 h hO
noncomputable def s_X2_onward (h0 : Nat) (p1 : Int32) (σ : Hp) : Option (Int32 × Hp) :=
  cb (s_X2_onward_l4 ((h0), (p1), (0), (0)) σ) fun r2 σ3 =>
  some (r2, σ3)
set_option maxRecDepth 100000 in
theorem c_X2_onward {E : E0} (hE : EOK E) {h0 : Nat} {p1 : Int32} {σ σ1 : Hp} {r : Int32} (h : s_X2_onward h0 p1 σ = some (r, σ1)) : CT E yX2_onward (.code yX2_onward cX2_onward 4 (some .int)) rm_X2_onward [tR (some (h0)), tI (p1)] σ (some (tI r)) σ1 := by
  refine CT.mk hE (by decide +kernel) (Nat.le_of_ble_eq_true rfl) [(0, tR (some (h0))), (1, tI (p1))] rfl (fun X C hin hx hxn => ?_)
  have C : XOK E X cX2_onward RX2 4 (some .int) rm_X2_onward := C
  unfold s_X2_onward at h
  refine g_iconst (v := 0) (pc := 0) C dX2_onward_0 (by decide) ?_
  refine g_istore_n (lm' := [(2, tI (0)), (0, tR (some (h0))), (1, tI (p1))]) (pc := 1) C 2 dX2_onward_1 rfl (by decide) rfl ?_
  refine g_iconst (v := 0) (pc := 2) C dX2_onward_2 (by decide) ?_
  refine g_istore_n (lm' := [(3, tI (0)), (2, tI (0)), (0, tR (some (h0))), (1, tI (p1))]) (pc := 3) C 3 dX2_onward_3 rfl (by decide) rfl ?_
  refine g_sub [2, 3, 1, 0] (lm' := [(0, tR (some (h0))), (1, tI (p1)), (2, tI (0)), (3, tI (0))]) rfl ?_
  obtain ⟨KQ, hKQ, r2, σ3, hlr2, h⟩ := zcbK h
  refine w_X2_onward_l4 (KE := KQ) hE C hxn ?_ hlr2 h
  · intro r2 σ1 h
    have h := (hKQ _ _).mp h
    obtain ⟨rfl, rfl⟩ := zsome h
    exact hx
def rm_X2_reached : Room := { frames := 2, cells := 0, slots := 0, locals := 44 }
noncomputable def s_X2_reached_b6 (h0 : Nat) (l2 : Int32) (l3 : Int32) (l4 : Int32) (l5 : Int32) (σ : Hp) : Option (((Nat × Int32 × Int32 × Int32 × Int32) ⊕ (Int32)) × Hp) :=
  if l2 ≤ l5 then
    some (Sum.inr (l4), σ)
  else
    (ck 2 σ h0).bind fun u1 =>
    cb (s_X2_onward h0 (l4) σ) fun v3 σ2 =>
    if (l4 ||| (v3 &&& l3)) = l4 then
      some (Sum.inr (l4), σ2)
    else
      some (Sum.inl ((h0), (l2), (l3), (l4 ||| (v3 &&& l3)), (l5 + 1)), σ2)
noncomputable def s_X2_reached_l6 : (Nat × Int32 × Int32 × Int32 × Int32) → Hp → Option ((Int32) × Hp) := loopF (fun v => s_X2_reached_b6 (v.1) (v.2.1) (v.2.2.1) (v.2.2.2.1) (v.2.2.2.2))
set_option maxRecDepth 100000 in
theorem w_X2_reached_b6 {E : E0} (hE : EOK E) {X : X0} (C : XOK E X cX2_reached RX2 7 (some .int) rm_X2_reached) (hxn : xn X = (rm_X2_reached.cells, rm_X2_reached.slots)) {KE : (Int32) → Hp → Prop} (e_ret : ∀ (r : Int32) (σ : Hp), KE (r) σ → xd X = (some (tI r), σ)) (h0 : Nat) (l2 : Int32) (l3 : Int32) (l4 : Int32) (l5 : Int32) (σ : Hp) (x : (Nat × Int32 × Int32 × Int32 × Int32) ⊕ (Int32)) (σ1 : Hp) (h : s_X2_reached_b6 h0 l2 l3 l4 l5 σ = some (x, σ1)) (hI : ∀ v, x = Sum.inl v → (fun (v : Nat × Int32 × Int32 × Int32 × Int32) (σ : Hp) => G E X 0 0 6 [(0, tR (some ((v.1)))), (2, tI ((v.2.1))), (3, tI ((v.2.2.1))), (4, tI ((v.2.2.2.1))), (5, tI ((v.2.2.2.2)))] [] σ) v σ1) (hO : ∀ e, x = Sum.inr e → KE e σ1) : G E X 0 0 6 [(0, tR (some (h0))), (2, tI (l2)), (3, tI (l3)), (4, tI (l4)), (5, tI (l5))] [] σ := by
  unfold s_X2_reached_b6 at h
  refine g_iload (pc := 6) C 4 dX2_reached_6 rfl ?_
  refine g_iload_n (pc := 8) C 2 1 dX2_reached_8 rfl rfl ?_
  refine g_icmp_ge (pc := 9) C 45 dX2_reached_9 (by decide) (fun c5 => ?_) (fun c5 => ?_)
  · have h := zif_t c5 h
    refine g_iload (pc := 45) C 3 dX2_reached_45 rfl ?_
    obtain ⟨rfl, rfl⟩ := zsome h
    exact g_iret (pc := 47) C rfl (e_ret _ _ (hO _ rfl)) (by rw [hxn]; rfl) (by rw [hxn]; rfl) dX2_reached_47
  · have h := zif_f c5 h
    refine g_iload (pc := 12) C 3 dX2_reached_12 rfl ?_
    refine g_aload_n (pc := 14) C 0 0 dX2_reached_14 rfl rfl ?_
    refine g_iload (pc := 15) C 3 dX2_reached_15 rfl ?_
    obtain ⟨u1, hvu1, h⟩ := zbind h
    obtain ⟨v3, σ2, hvσ2, h⟩ := zcb h
    refine g_callV (pc := 17) (av := [tI (l4)]) C (c_X2_onward hE hvσ2) yv_X2_onward ml_X2_46 ck_2 (zopt hvu1).1 rfl (rf_of (by decide)) rfl (Nat.le_of_ble_eq_true rfl) dX2_reached_17 ?_
    refine g_iload_n (pc := 20) C 3 2 dX2_reached_20 rfl rfl ?_
    refine g_iand (pc := 21) C dX2_reached_21 ?_
    refine g_ior (pc := 22) C dX2_reached_22 ?_
    refine g_istore (lm' := [(6, tI (l4 ||| (v3 &&& l3))), (0, tR (some (h0))), (2, tI (l2)), (3, tI (l3)), (4, tI (l4)), (5, tI (l5))]) (pc := 23) C dX2_reached_23 (by decide) rfl ?_
    refine g_iload (pc := 25) C 0 dX2_reached_25 rfl ?_
    refine g_iload (pc := 27) C 4 dX2_reached_27 rfl ?_
    refine g_icmp_ne (pc := 29) C 35 dX2_reached_29 (by decide) (fun c4 => ?_) (fun c4 => ?_)
    · have h := zif_f c4 h
      refine g_iload (pc := 35) C 0 dX2_reached_35 rfl ?_
      refine g_istore (lm' := [(4, tI (l4 ||| (v3 &&& l3))), (6, tI (l4 ||| (v3 &&& l3))), (0, tR (some (h0))), (2, tI (l2)), (3, tI (l3)), (5, tI (l5))]) (pc := 37) C dX2_reached_37 (by decide) rfl ?_
      refine g_iinc (lm' := [(5, tI (l5 + 1)), (4, tI (l4 ||| (v3 &&& l3))), (6, tI (l4 ||| (v3 &&& l3))), (0, tR (some (h0))), (2, tI (l2)), (3, tI (l3))]) (v := l5 + 1) (pc := 39) C 5 dX2_reached_39 rfl rfl (by decide) rfl ?_
      refine g_goto (pc := 42) C 6 dX2_reached_42 (by decide) ?_
      refine g_sub [3, 4, 5, 1, 0] (lm' := [(0, tR (some (h0))), (2, tI (l2)), (3, tI (l3)), (4, tI (l4 ||| (v3 &&& l3))), (5, tI (l5 + 1))]) rfl ?_
      obtain ⟨rfl, rfl⟩ := zsome h
      exact hI _ rfl
    · have h := zif_t c4 h
      refine g_goto (pc := 32) C 45 dX2_reached_32 (by decide) ?_
      refine g_iload (pc := 45) C 4 dX2_reached_45 rfl ?_
      obtain ⟨rfl, rfl⟩ := zsome h
      exact g_iret (pc := 47) C rfl (e_ret _ _ (hO _ rfl)) (by rw [hxn]; rfl) (by rw [hxn]; rfl) dX2_reached_47
theorem w_X2_reached_l6 {E : E0} (hE : EOK E) {X : X0} (C : XOK E X cX2_reached RX2 7 (some .int) rm_X2_reached) (hxn : xn X = (rm_X2_reached.cells, rm_X2_reached.slots)) {KE : (Int32) → Hp → Prop} (e_ret : ∀ (r : Int32) (σ : Hp), KE (r) σ → xd X = (some (tI r), σ)) {v : Nat × Int32 × Int32 × Int32 × Int32} {σ : Hp} {e : Int32} {σ1 : Hp} (h : s_X2_reached_l6 v σ = some (e, σ1)) (hO : KE e σ1) : G E X 0 0 6 [(0, tR (some ((v.1)))), (2, tI ((v.2.1))), (3, tI ((v.2.2.1))), (4, tI ((v.2.2.2.1))), (5, tI ((v.2.2.2.2)))] [] σ := loopF_ind (P := fun (v : Nat × Int32 × Int32 × Int32 × Int32) (σ : Hp) => G E X 0 0 6 [(0, tR (some ((v.1)))), (2, tI ((v.2.1))), (3, tI ((v.2.2.1))), (4, tI ((v.2.2.2.1))), (5, tI ((v.2.2.2.2)))] [] σ) (KE := KE) (fun v σ x σ1 h hI hO => w_X2_reached_b6 hE C hxn e_ret (v.1) (v.2.1) (v.2.2.1) (v.2.2.2.1) (v.2.2.2.2) σ x σ1 h hI hO) v σ e σ1 h hO
noncomputable def s_X2_reached (h0 : Nat) (p1 : Int32) (p2 : Int32) (p3 : Int32) (σ : Hp) : Option (Int32 × Hp) :=
  cb (s_X2_reached_l6 ((h0), (p2), (p3), (p1), (0)) σ) fun r2 σ3 =>
  some (r2, σ3)
set_option maxRecDepth 100000 in
theorem c_X2_reached {E : E0} (hE : EOK E) {h0 : Nat} {p1 : Int32} {p2 : Int32} {p3 : Int32} {σ σ1 : Hp} {r : Int32} (h : s_X2_reached h0 p1 p2 p3 σ = some (r, σ1)) : CT E yX2_reached (.code yX2_reached cX2_reached 7 (some .int)) rm_X2_reached [tR (some (h0)), tI (p1), tI (p2), tI (p3)] σ (some (tI r)) σ1 := by
  refine CT.mk hE (by decide +kernel) (Nat.le_of_ble_eq_true rfl) [(0, tR (some (h0))), (1, tI (p1)), (2, tI (p2)), (3, tI (p3))] rfl (fun X C hin hx hxn => ?_)
  have C : XOK E X cX2_reached RX2 7 (some .int) rm_X2_reached := C
  unfold s_X2_reached at h
  refine g_iload_n (pc := 0) C 1 1 dX2_reached_0 rfl rfl ?_
  refine g_istore (lm' := [(4, tI (p1)), (0, tR (some (h0))), (1, tI (p1)), (2, tI (p2)), (3, tI (p3))]) (pc := 1) C dX2_reached_1 (by decide) rfl ?_
  refine g_iconst (v := 0) (pc := 3) C dX2_reached_3 (by decide) ?_
  refine g_istore (lm' := [(5, tI (0)), (4, tI (p1)), (0, tR (some (h0))), (1, tI (p1)), (2, tI (p2)), (3, tI (p3))]) (pc := 4) C dX2_reached_4 (by decide) rfl ?_
  refine g_sub [2, 4, 5, 1, 0] (lm' := [(0, tR (some (h0))), (2, tI (p2)), (3, tI (p3)), (4, tI (p1)), (5, tI (0))]) rfl ?_
  obtain ⟨KQ, hKQ, r2, σ3, hlr2, h⟩ := zcbK h
  refine w_X2_reached_l6 (KE := KQ) hE C hxn ?_ hlr2 h
  · intro r2 σ1 h
    have h := (hKQ _ _).mp h
    obtain ⟨rfl, rfl⟩ := zsome h
    exact hx
def rm_X2_keepThoseThatComeTo : Room := { frames := 1, cells := 0, slots := 0, locals := 21 }
noncomputable def s_X2_keepThoseThatComeTo_j84 (h0 : Nat) (l3 : Int32) (l4 : Int32) (l5 : Int32) (σ : Hp) : Option (((Nat × Int32 × Int32 × Int32) ⊕ ((Nat × Int32 × Int32))) × Hp) :=
  some (Sum.inl ((h0), (l3), (l4), (l5 + 1)), σ)
set_option maxRecDepth 100000 in
theorem w_X2_keepThoseThatComeTo_j84 {E : E0} (hE : EOK E) {X : X0} (C : XOK E X cX2_keepThoseThatComeTo RX2 6 none rm_X2_keepThoseThatComeTo) (hxn : xn X = (rm_X2_keepThoseThatComeTo.cells, rm_X2_keepThoseThatComeTo.slots)) {KE : ((Nat × Int32 × Int32)) → Hp → Prop} (e_90 : ∀ (h0 : Nat) (l3 : Int32) (l4 : Int32) (σ : Hp), KE ((h0, l3, l4)) σ → G E X 0 0 90 [(0, tR (some (h0))), (3, tI (l3)), (4, tI (l4))] [] σ) (h0 : Nat) (l3 : Int32) (l4 : Int32) (l5 : Int32) (σ : Hp) (x : (Nat × Int32 × Int32 × Int32) ⊕ ((Nat × Int32 × Int32))) (σ1 : Hp) (h : s_X2_keepThoseThatComeTo_j84 h0 l3 l4 l5 σ = some (x, σ1)) (hI : ∀ v, x = Sum.inl v → (fun (v : Nat × Int32 × Int32 × Int32) (σ : Hp) => G E X 0 0 23 [(0, tR (some ((v.1)))), (3, tI ((v.2.1))), (4, tI ((v.2.2.1))), (5, tI ((v.2.2.2)))] [] σ) v σ1) (hO : ∀ e, x = Sum.inr e → KE e σ1) : G E X 0 0 84 [(0, tR (some (h0))), (3, tI (l3)), (4, tI (l4)), (5, tI (l5))] [] σ := by
  unfold s_X2_keepThoseThatComeTo_j84 at h
  refine g_iinc (lm' := [(5, tI (l5 + 1)), (0, tR (some (h0))), (3, tI (l3)), (4, tI (l4))]) (v := l5 + 1) (pc := 84) C 3 dX2_keepThoseThatComeTo_84 rfl rfl (by decide) rfl ?_
  refine g_goto (pc := 87) C 23 dX2_keepThoseThatComeTo_87 (by decide) ?_
  refine g_sub [1, 2, 3, 0] (lm' := [(0, tR (some (h0))), (3, tI (l3)), (4, tI (l4)), (5, tI (l5 + 1))]) rfl ?_
  obtain ⟨rfl, rfl⟩ := zsome h
  exact hI _ rfl
noncomputable def s_X2_keepThoseThatComeTo_b23 (h0 : Nat) (l3 : Int32) (l4 : Int32) (l5 : Int32) (σ : Hp) : Option (((Nat × Int32 × Int32 × Int32) ⊕ ((Nat × Int32 × Int32))) × Hp) :=
  if 10 ≤ l5 then
    some (Sum.inr ((h0), (l3), (l4)), σ)
  else
    (rdR 2 σ h0 4).bind fun r1 =>
    (r1).bind fun a2 =>
    (ldI 11 σ a2 (l3)).bind fun v3 =>
    cb (s_X8_hasBit (v3) (l5) σ) fun v5 σ4 =>
    if v5 = 0 then
      s_X2_keepThoseThatComeTo_j84 (h0) (l3) (l4) (l5) σ4
    else
      (rdR 2 σ4 h0 2).bind fun r6 =>
      (r6).bind fun a7 =>
      (ldI 11 σ4 a7 (l5)).bind fun v8 =>
      (rdR 2 σ4 h0 3).bind fun r9 =>
      (r9).bind fun a10 =>
      (ldI 11 σ4 a10 (l3)).bind fun v11 =>
      (rdR 2 σ4 h0 4).bind fun r12 =>
      (r12).bind fun a13 =>
      (ldI 11 σ4 a13 (l3 + 1)).bind fun v14 =>
      if ((((1 : Int32) <<< (l5 &&& 31)) ||| (v8 &&& v11)) &&& v14) = 0 then
        s_X2_keepThoseThatComeTo_j84 (h0) (l3) (l4) (l5) σ4
      else
        s_X2_keepThoseThatComeTo_j84 (h0) (l3) (l4 ||| ((1 : Int32) <<< (l5 &&& 31))) (l5) σ4
noncomputable def s_X2_keepThoseThatComeTo_l23 : (Nat × Int32 × Int32 × Int32) → Hp → Option (((Nat × Int32 × Int32)) × Hp) := loopF (fun v => s_X2_keepThoseThatComeTo_b23 (v.1) (v.2.1) (v.2.2.1) (v.2.2.2))
set_option maxRecDepth 100000 in
theorem w_X2_keepThoseThatComeTo_b23 {E : E0} (hE : EOK E) {X : X0} (C : XOK E X cX2_keepThoseThatComeTo RX2 6 none rm_X2_keepThoseThatComeTo) (hxn : xn X = (rm_X2_keepThoseThatComeTo.cells, rm_X2_keepThoseThatComeTo.slots)) {KE : ((Nat × Int32 × Int32)) → Hp → Prop} (e_90 : ∀ (h0 : Nat) (l3 : Int32) (l4 : Int32) (σ : Hp), KE ((h0, l3, l4)) σ → G E X 0 0 90 [(0, tR (some (h0))), (3, tI (l3)), (4, tI (l4))] [] σ) (h0 : Nat) (l3 : Int32) (l4 : Int32) (l5 : Int32) (σ : Hp) (x : (Nat × Int32 × Int32 × Int32) ⊕ ((Nat × Int32 × Int32))) (σ1 : Hp) (h : s_X2_keepThoseThatComeTo_b23 h0 l3 l4 l5 σ = some (x, σ1)) (hI : ∀ v, x = Sum.inl v → (fun (v : Nat × Int32 × Int32 × Int32) (σ : Hp) => G E X 0 0 23 [(0, tR (some ((v.1)))), (3, tI ((v.2.1))), (4, tI ((v.2.2.1))), (5, tI ((v.2.2.2)))] [] σ) v σ1) (hO : ∀ e, x = Sum.inr e → KE e σ1) : G E X 0 0 23 [(0, tR (some (h0))), (3, tI (l3)), (4, tI (l4)), (5, tI (l5))] [] σ := by
  unfold s_X2_keepThoseThatComeTo_b23 at h
  refine g_iload (pc := 23) C 3 dX2_keepThoseThatComeTo_23 rfl ?_
  refine g_bipush (v := 10) (pc := 25) C dX2_keepThoseThatComeTo_25 (by decide) ?_
  refine g_icmp_ge (pc := 27) C 90 dX2_keepThoseThatComeTo_27 (by decide) (fun c17 => ?_) (fun c17 => ?_)
  · have h := zif_t c17 h
    refine g_sub [0, 1, 2] (lm' := [(0, tR (some (h0))), (3, tI (l3)), (4, tI (l4))]) rfl ?_
    obtain ⟨rfl, rfl⟩ := zsome h
    exact e_90 _ _ _ _ (hO _ rfl)
  · have h := zif_f c17 h
    refine g_aload_n (pc := 30) C 0 0 dX2_keepThoseThatComeTo_30 rfl rfl ?_
    obtain ⟨r1, hvr1, h⟩ := zbind h
    refine g_getR (N := 7) (pc := 31) C ck_2 hvr1 rfl rfl fl_X2_26 dX2_keepThoseThatComeTo_31 ?_
    refine g_iload_n (pc := 34) C 3 1 dX2_keepThoseThatComeTo_34 rfl rfl ?_
    obtain ⟨a2, hqa2, h9⟩ := zbind h
    clear h
    subst hqa2
    have h := h9
    clear h9
    obtain ⟨v3, hvv3, h⟩ := zbind h
    refine g_iald (pc := 35) C hvv3 dX2_keepThoseThatComeTo_35 ?_
    refine g_iload (pc := 36) C 3 dX2_keepThoseThatComeTo_36 rfl ?_
    obtain ⟨v5, σ4, hvσ4, h⟩ := zcb h
    refine g_callSN (pc := 38) (av := [tI (v3), tI (l5)]) C (c_X8_hasBit hE hvσ4) ys_X8_hasBit ml_X2_42 rfl (rf_of (by decide)) rfl (Nat.le_of_ble_eq_true rfl) dX2_keepThoseThatComeTo_38 ?_
    refine g_if_eq (pc := 41) C 84 dX2_keepThoseThatComeTo_41 (by decide) (fun c16 => ?_) (fun c16 => ?_)
    · have h := zif_t c16 h
      exact w_X2_keepThoseThatComeTo_j84 hE C hxn e_90 _ _ _ _ _ _ _ h hI hO
    · have h := zif_f c16 h
      refine g_iconst (v := 1) (pc := 44) C dX2_keepThoseThatComeTo_44 (by decide) ?_
      refine g_iload (pc := 45) C 3 dX2_keepThoseThatComeTo_45 rfl ?_
      refine g_ishl (pc := 47) C dX2_keepThoseThatComeTo_47 ?_
      refine g_aload_n (pc := 48) C 0 0 dX2_keepThoseThatComeTo_48 rfl rfl ?_
      obtain ⟨r6, hvr6, h⟩ := zbind h
      refine g_getR (N := 7) (pc := 49) C ck_2 hvr6 rfl rfl fl_X2_20 dX2_keepThoseThatComeTo_49 ?_
      refine g_iload (pc := 52) C 3 dX2_keepThoseThatComeTo_52 rfl ?_
      obtain ⟨a7, hqa7, h9⟩ := zbind h
      clear h
      subst hqa7
      have h := h9
      clear h9
      obtain ⟨v8, hvv8, h⟩ := zbind h
      refine g_iald (pc := 54) C hvv8 dX2_keepThoseThatComeTo_54 ?_
      refine g_aload_n (pc := 55) C 0 0 dX2_keepThoseThatComeTo_55 rfl rfl ?_
      obtain ⟨r9, hvr9, h⟩ := zbind h
      refine g_getR (N := 7) (pc := 56) C ck_2 hvr9 rfl rfl fl_X2_23 dX2_keepThoseThatComeTo_56 ?_
      refine g_iload_n (pc := 59) C 3 1 dX2_keepThoseThatComeTo_59 rfl rfl ?_
      obtain ⟨a10, hqa10, h9⟩ := zbind h
      clear h
      subst hqa10
      have h := h9
      clear h9
      obtain ⟨v11, hvv11, h⟩ := zbind h
      refine g_iald (pc := 60) C hvv11 dX2_keepThoseThatComeTo_60 ?_
      refine g_iand (pc := 61) C dX2_keepThoseThatComeTo_61 ?_
      refine g_ior (pc := 62) C dX2_keepThoseThatComeTo_62 ?_
      refine g_aload_n (pc := 63) C 0 0 dX2_keepThoseThatComeTo_63 rfl rfl ?_
      obtain ⟨r12, hvr12, h⟩ := zbind h
      refine g_getR (N := 7) (pc := 64) C ck_2 hvr12 rfl rfl fl_X2_26 dX2_keepThoseThatComeTo_64 ?_
      refine g_iload_n (pc := 67) C 3 1 dX2_keepThoseThatComeTo_67 rfl rfl ?_
      refine g_iconst (v := 1) (pc := 68) C dX2_keepThoseThatComeTo_68 (by decide) ?_
      refine g_iadd (pc := 69) C dX2_keepThoseThatComeTo_69 ?_
      obtain ⟨a13, hqa13, h9⟩ := zbind h
      clear h
      subst hqa13
      have h := h9
      clear h9
      obtain ⟨v14, hvv14, h⟩ := zbind h
      refine g_iald (pc := 70) C hvv14 dX2_keepThoseThatComeTo_70 ?_
      refine g_iand (pc := 71) C dX2_keepThoseThatComeTo_71 ?_
      refine g_if_eq (pc := 72) C 84 dX2_keepThoseThatComeTo_72 (by decide) (fun c15 => ?_) (fun c15 => ?_)
      · have h := zif_t c15 h
        exact w_X2_keepThoseThatComeTo_j84 hE C hxn e_90 _ _ _ _ _ _ _ h hI hO
      · have h := zif_f c15 h
        refine g_iload (pc := 75) C 2 dX2_keepThoseThatComeTo_75 rfl ?_
        refine g_iconst (v := 1) (pc := 77) C dX2_keepThoseThatComeTo_77 (by decide) ?_
        refine g_iload (pc := 78) C 3 dX2_keepThoseThatComeTo_78 rfl ?_
        refine g_ishl (pc := 80) C dX2_keepThoseThatComeTo_80 ?_
        refine g_ior (pc := 81) C dX2_keepThoseThatComeTo_81 ?_
        refine g_istore (lm' := [(4, tI (l4 ||| ((1 : Int32) <<< (l5 &&& 31)))), (0, tR (some (h0))), (3, tI (l3)), (5, tI (l5))]) (pc := 82) C dX2_keepThoseThatComeTo_82 (by decide) rfl ?_
        refine g_sub [1, 2, 0, 3] (lm' := [(0, tR (some (h0))), (3, tI (l3)), (4, tI (l4 ||| ((1 : Int32) <<< (l5 &&& 31)))), (5, tI (l5))]) rfl ?_
        exact w_X2_keepThoseThatComeTo_j84 hE C hxn e_90 _ _ _ _ _ _ _ h hI hO
theorem w_X2_keepThoseThatComeTo_l23 {E : E0} (hE : EOK E) {X : X0} (C : XOK E X cX2_keepThoseThatComeTo RX2 6 none rm_X2_keepThoseThatComeTo) (hxn : xn X = (rm_X2_keepThoseThatComeTo.cells, rm_X2_keepThoseThatComeTo.slots)) {KE : ((Nat × Int32 × Int32)) → Hp → Prop} (e_90 : ∀ (h0 : Nat) (l3 : Int32) (l4 : Int32) (σ : Hp), KE ((h0, l3, l4)) σ → G E X 0 0 90 [(0, tR (some (h0))), (3, tI (l3)), (4, tI (l4))] [] σ) {v : Nat × Int32 × Int32 × Int32} {σ : Hp} {e : (Nat × Int32 × Int32)} {σ1 : Hp} (h : s_X2_keepThoseThatComeTo_l23 v σ = some (e, σ1)) (hO : KE e σ1) : G E X 0 0 23 [(0, tR (some ((v.1)))), (3, tI ((v.2.1))), (4, tI ((v.2.2.1))), (5, tI ((v.2.2.2)))] [] σ := loopF_ind (P := fun (v : Nat × Int32 × Int32 × Int32) (σ : Hp) => G E X 0 0 23 [(0, tR (some ((v.1)))), (3, tI ((v.2.1))), (4, tI ((v.2.2.1))), (5, tI ((v.2.2.2)))] [] σ) (KE := KE) (fun v σ x σ1 h hI hO => w_X2_keepThoseThatComeTo_b23 hE C hxn e_90 (v.1) (v.2.1) (v.2.2.1) (v.2.2.2) σ x σ1 h hI hO) v σ e σ1 h hO
noncomputable def s_X2_keepThoseThatComeTo_b13 (h0 : Nat) (l3 : Int32) (σ : Hp) : Option (((Nat × Int32) ⊕ (Unit)) × Hp) :=
  if l3 < 0 then
    some (Sum.inr (), σ)
  else
    cb (s_X2_keepThoseThatComeTo_l23 ((h0), (l3), (0), (0)) σ) fun e10 σ9 =>
    match e10 with
    | (h1, l32, l43) =>
      (rdR 2 σ9 h1 4).bind fun r5 =>
      (r5).bind fun a6 =>
      (stI σ9 a6 (l32) (l43)).bind fun σ7 =>
      some (Sum.inl ((h1), (l32 + (-1))), σ7)
noncomputable def s_X2_keepThoseThatComeTo_l13 : (Nat × Int32) → Hp → Option ((Unit) × Hp) := loopF (fun v => s_X2_keepThoseThatComeTo_b13 (v.1) (v.2))
set_option maxRecDepth 100000 in
theorem w_X2_keepThoseThatComeTo_b13 {E : E0} (hE : EOK E) {X : X0} (C : XOK E X cX2_keepThoseThatComeTo RX2 6 none rm_X2_keepThoseThatComeTo) (hxn : xn X = (rm_X2_keepThoseThatComeTo.cells, rm_X2_keepThoseThatComeTo.slots)) {KE : (Unit) → Hp → Prop} (e_ret : ∀ (r : Unit) (σ : Hp), KE (r) σ → xd X = (none, σ)) (h0 : Nat) (l3 : Int32) (σ : Hp) (x : (Nat × Int32) ⊕ (Unit)) (σ1 : Hp) (h : s_X2_keepThoseThatComeTo_b13 h0 l3 σ = some (x, σ1)) (hI : ∀ v, x = Sum.inl v → (fun (v : Nat × Int32) (σ : Hp) => G E X 0 0 13 [(0, tR (some ((v.1)))), (3, tI ((v.2)))] [] σ) v σ1) (hO : ∀ e, x = Sum.inr e → KE e σ1) : G E X 0 0 13 [(0, tR (some (h0))), (3, tI (l3))] [] σ := by
  unfold s_X2_keepThoseThatComeTo_b13 at h
  refine g_iload_n (pc := 13) C 3 1 dX2_keepThoseThatComeTo_13 rfl rfl ?_
  refine g_if_lt (pc := 14) C 104 dX2_keepThoseThatComeTo_14 (by decide) (fun c11 => ?_) (fun c11 => ?_)
  · have h := zif_t c11 h
    obtain ⟨rfl, rfl⟩ := zsome h
    exact g_vret (pc := 104) C rfl (e_ret _ _ (hO _ rfl)) (by rw [hxn]; rfl) (by rw [hxn]; rfl) dX2_keepThoseThatComeTo_104
  · have h := zif_f c11 h
    refine g_iconst (v := 0) (pc := 17) C dX2_keepThoseThatComeTo_17 (by decide) ?_
    refine g_istore (lm' := [(4, tI (0)), (0, tR (some (h0))), (3, tI (l3))]) (pc := 18) C dX2_keepThoseThatComeTo_18 (by decide) rfl ?_
    refine g_iconst (v := 0) (pc := 20) C dX2_keepThoseThatComeTo_20 (by decide) ?_
    refine g_istore (lm' := [(5, tI (0)), (4, tI (0)), (0, tR (some (h0))), (3, tI (l3))]) (pc := 21) C dX2_keepThoseThatComeTo_21 (by decide) rfl ?_
    refine g_sub [2, 3, 1, 0] (lm' := [(0, tR (some (h0))), (3, tI (l3)), (4, tI (0)), (5, tI (0))]) rfl ?_
    obtain ⟨KQ, hKQ, e10, σ9, hle10, h⟩ := zcbK h
    refine w_X2_keepThoseThatComeTo_l23 (KE := KQ) hE C hxn ?_ hle10 h
    · intro h1 l32 l43 σ4 h
      have h := (hKQ _ _).mp h
      refine g_aload_n (pc := 90) C 0 0 dX2_keepThoseThatComeTo_90 rfl rfl ?_
      obtain ⟨r5, hvr5, h⟩ := zbind h
      refine g_getR (N := 7) (pc := 91) C ck_2 hvr5 rfl rfl fl_X2_26 dX2_keepThoseThatComeTo_91 ?_
      refine g_iload_n (pc := 94) C 3 1 dX2_keepThoseThatComeTo_94 rfl rfl ?_
      refine g_iload (pc := 95) C 2 dX2_keepThoseThatComeTo_95 rfl ?_
      obtain ⟨a6, hqa6, h9⟩ := zbind h
      clear h
      subst hqa6
      have h := h9
      clear h9
      obtain ⟨σ7, hvσ7, h⟩ := zbind h
      refine g_iast (pc := 97) C hvσ7 dX2_keepThoseThatComeTo_97 ?_
      refine g_iinc (lm' := [(3, tI (l32 + (-1))), (0, tR (some (h1))), (4, tI (l43))]) (v := l32 + (-1)) (pc := 98) C 1 dX2_keepThoseThatComeTo_98 rfl rfl (by decide) rfl ?_
      refine g_goto (pc := 101) C 13 dX2_keepThoseThatComeTo_101 (by decide) ?_
      refine g_sub [1, 0] (lm' := [(0, tR (some (h1))), (3, tI (l32 + (-1)))]) rfl ?_
      obtain ⟨rfl, rfl⟩ := zsome h
      exact hI _ rfl
theorem w_X2_keepThoseThatComeTo_l13 {E : E0} (hE : EOK E) {X : X0} (C : XOK E X cX2_keepThoseThatComeTo RX2 6 none rm_X2_keepThoseThatComeTo) (hxn : xn X = (rm_X2_keepThoseThatComeTo.cells, rm_X2_keepThoseThatComeTo.slots)) {KE : (Unit) → Hp → Prop} (e_ret : ∀ (r : Unit) (σ : Hp), KE (r) σ → xd X = (none, σ)) {v : Nat × Int32} {σ : Hp} {e : Unit} {σ1 : Hp} (h : s_X2_keepThoseThatComeTo_l13 v σ = some (e, σ1)) (hO : KE e σ1) : G E X 0 0 13 [(0, tR (some ((v.1)))), (3, tI ((v.2)))] [] σ := loopF_ind (P := fun (v : Nat × Int32) (σ : Hp) => G E X 0 0 13 [(0, tR (some ((v.1)))), (3, tI ((v.2)))] [] σ) (KE := KE) (fun v σ x σ1 h hI hO => w_X2_keepThoseThatComeTo_b13 hE C hxn e_ret (v.1) (v.2) σ x σ1 h hI hO) v σ e σ1 h hO
noncomputable def s_X2_keepThoseThatComeTo (h0 : Nat) (p1 : Int32) (p2 : Int32) (σ : Hp) : Option (Unit × Hp) :=
  (rdR 2 σ h0 4).bind fun r1 =>
  (r1).bind fun a2 =>
  (stI σ a2 (p2) ((1 : Int32) <<< (p1 &&& 31))).bind fun σ3 =>
  cb (s_X2_keepThoseThatComeTo_l13 ((h0), (p2 - 1)) σ3) fun r5 σ6 =>
  some (r5, σ6)
set_option maxRecDepth 100000 in
theorem c_X2_keepThoseThatComeTo {E : E0} (hE : EOK E) {h0 : Nat} {p1 : Int32} {p2 : Int32} {σ σ1 : Hp} {r : Unit} (h : s_X2_keepThoseThatComeTo h0 p1 p2 σ = some (r, σ1)) : CT E yX2_keepThoseThatComeTo (.code yX2_keepThoseThatComeTo cX2_keepThoseThatComeTo 6 none) rm_X2_keepThoseThatComeTo [tR (some (h0)), tI (p1), tI (p2)] σ none σ1 := by
  refine CT.mk hE (by decide +kernel) (Nat.le_of_ble_eq_true rfl) [(0, tR (some (h0))), (1, tI (p1)), (2, tI (p2))] rfl (fun X C hin hx hxn => ?_)
  have C : XOK E X cX2_keepThoseThatComeTo RX2 6 none rm_X2_keepThoseThatComeTo := C
  unfold s_X2_keepThoseThatComeTo at h
  refine g_aload_n (pc := 0) C 0 0 dX2_keepThoseThatComeTo_0 rfl rfl ?_
  obtain ⟨r1, hvr1, h⟩ := zbind h
  refine g_getR (N := 7) (pc := 1) C ck_2 hvr1 rfl rfl fl_X2_26 dX2_keepThoseThatComeTo_1 ?_
  refine g_iload_n (pc := 4) C 2 2 dX2_keepThoseThatComeTo_4 rfl rfl ?_
  refine g_iconst (v := 1) (pc := 5) C dX2_keepThoseThatComeTo_5 (by decide) ?_
  refine g_iload_n (pc := 6) C 1 1 dX2_keepThoseThatComeTo_6 rfl rfl ?_
  refine g_ishl (pc := 7) C dX2_keepThoseThatComeTo_7 ?_
  obtain ⟨a2, hqa2, h9⟩ := zbind h
  clear h
  subst hqa2
  have h := h9
  clear h9
  obtain ⟨σ3, hvσ3, h⟩ := zbind h
  refine g_iast (pc := 8) C hvσ3 dX2_keepThoseThatComeTo_8 ?_
  refine g_iload_n (pc := 9) C 2 2 dX2_keepThoseThatComeTo_9 rfl rfl ?_
  refine g_iconst (v := 1) (pc := 10) C dX2_keepThoseThatComeTo_10 (by decide) ?_
  refine g_isub (pc := 11) C dX2_keepThoseThatComeTo_11 ?_
  refine g_istore_n (lm' := [(3, tI (p2 - 1)), (0, tR (some (h0))), (1, tI (p1)), (2, tI (p2))]) (pc := 12) C 3 dX2_keepThoseThatComeTo_12 rfl (by decide) rfl ?_
  refine g_sub [1, 0] (lm' := [(0, tR (some (h0))), (3, tI (p2 - 1))]) rfl ?_
  obtain ⟨KQ, hKQ, r5, σ6, hlr5, h⟩ := zcbK h
  refine w_X2_keepThoseThatComeTo_l13 (KE := KQ) hE C hxn ?_ hlr5 h
  · intro r5 σ4 h
    have h := (hKQ _ _).mp h
    obtain ⟨rfl, rfl⟩ := zsome h
    exact hx
def rm_X2_lowestOf : Room := { frames := 1, cells := 0, slots := 0, locals := 21 }
noncomputable def s_X2_lowestOf_b2 (l0 : Int32) (l1 : Int32) (σ : Hp) : Option (((Int32 × Int32) ⊕ (Int32)) × Hp) :=
  if 10 ≤ l1 then
    some (Sum.inr ((-1)), σ)
  else
    cb (s_X8_hasBit (l0) (l1) σ) fun v2 σ1 =>
    if v2 = 0 then
      some (Sum.inl ((l0), (l1 + 1)), σ1)
    else
      some (Sum.inr (l1), σ1)
noncomputable def s_X2_lowestOf_l2 : (Int32 × Int32) → Hp → Option ((Int32) × Hp) := loopF (fun v => s_X2_lowestOf_b2 (v.1) (v.2))
set_option maxRecDepth 100000 in
theorem w_X2_lowestOf_b2 {E : E0} (hE : EOK E) {X : X0} (C : XOK E X cX2_lowestOf RX2 2 (some .int) rm_X2_lowestOf) (hxn : xn X = (rm_X2_lowestOf.cells, rm_X2_lowestOf.slots)) {KE : (Int32) → Hp → Prop} (e_ret : ∀ (r : Int32) (σ : Hp), KE (r) σ → xd X = (some (tI r), σ)) (l0 : Int32) (l1 : Int32) (σ : Hp) (x : (Int32 × Int32) ⊕ (Int32)) (σ1 : Hp) (h : s_X2_lowestOf_b2 l0 l1 σ = some (x, σ1)) (hI : ∀ v, x = Sum.inl v → (fun (v : Int32 × Int32) (σ : Hp) => G E X 0 0 2 [(0, tI ((v.1))), (1, tI ((v.2)))] [] σ) v σ1) (hO : ∀ e, x = Sum.inr e → KE e σ1) : G E X 0 0 2 [(0, tI (l0)), (1, tI (l1))] [] σ := by
  unfold s_X2_lowestOf_b2 at h
  refine g_iload_n (pc := 2) C 1 1 dX2_lowestOf_2 rfl rfl ?_
  refine g_bipush (v := 10) (pc := 3) C dX2_lowestOf_3 (by decide) ?_
  refine g_icmp_ge (pc := 5) C 24 dX2_lowestOf_5 (by decide) (fun c4 => ?_) (fun c4 => ?_)
  · have h := zif_t c4 h
    refine g_iconst (v := (-1)) (pc := 24) C dX2_lowestOf_24 (by decide) ?_
    obtain ⟨rfl, rfl⟩ := zsome h
    exact g_iret (pc := 25) C rfl (e_ret _ _ (hO _ rfl)) (by rw [hxn]; rfl) (by rw [hxn]; rfl) dX2_lowestOf_25
  · have h := zif_f c4 h
    refine g_iload_n (pc := 8) C 0 0 dX2_lowestOf_8 rfl rfl ?_
    refine g_iload_n (pc := 9) C 1 1 dX2_lowestOf_9 rfl rfl ?_
    obtain ⟨v2, σ1, hvσ1, h⟩ := zcb h
    refine g_callSN (pc := 10) (av := [tI (l0), tI (l1)]) C (c_X8_hasBit hE hvσ1) ys_X8_hasBit ml_X2_42 rfl (rf_of (by decide)) rfl (Nat.le_of_ble_eq_true rfl) dX2_lowestOf_10 ?_
    refine g_if_eq (pc := 13) C 18 dX2_lowestOf_13 (by decide) (fun c3 => ?_) (fun c3 => ?_)
    · have h := zif_t c3 h
      refine g_iinc (lm' := [(1, tI (l1 + 1)), (0, tI (l0))]) (v := l1 + 1) (pc := 18) C 1 dX2_lowestOf_18 rfl rfl (by decide) rfl ?_
      refine g_goto (pc := 21) C 2 dX2_lowestOf_21 (by decide) ?_
      refine g_sub [1, 0] (lm' := [(0, tI (l0)), (1, tI (l1 + 1))]) rfl ?_
      obtain ⟨rfl, rfl⟩ := zsome h
      exact hI _ rfl
    · have h := zif_f c3 h
      refine g_iload_n (pc := 16) C 1 1 dX2_lowestOf_16 rfl rfl ?_
      obtain ⟨rfl, rfl⟩ := zsome h
      exact g_iret (pc := 17) C rfl (e_ret _ _ (hO _ rfl)) (by rw [hxn]; rfl) (by rw [hxn]; rfl) dX2_lowestOf_17
theorem w_X2_lowestOf_l2 {E : E0} (hE : EOK E) {X : X0} (C : XOK E X cX2_lowestOf RX2 2 (some .int) rm_X2_lowestOf) (hxn : xn X = (rm_X2_lowestOf.cells, rm_X2_lowestOf.slots)) {KE : (Int32) → Hp → Prop} (e_ret : ∀ (r : Int32) (σ : Hp), KE (r) σ → xd X = (some (tI r), σ)) {v : Int32 × Int32} {σ : Hp} {e : Int32} {σ1 : Hp} (h : s_X2_lowestOf_l2 v σ = some (e, σ1)) (hO : KE e σ1) : G E X 0 0 2 [(0, tI ((v.1))), (1, tI ((v.2)))] [] σ := loopF_ind (P := fun (v : Int32 × Int32) (σ : Hp) => G E X 0 0 2 [(0, tI ((v.1))), (1, tI ((v.2)))] [] σ) (KE := KE) (fun v σ x σ1 h hI hO => w_X2_lowestOf_b2 hE C hxn e_ret (v.1) (v.2) σ x σ1 h hI hO) v σ e σ1 h hO
noncomputable def s_X2_lowestOf (p0 : Int32) (σ : Hp) : Option (Int32 × Hp) :=
  cb (s_X2_lowestOf_l2 ((p0), (0)) σ) fun r2 σ3 =>
  some (r2, σ3)
set_option maxRecDepth 100000 in
theorem c_X2_lowestOf {E : E0} (hE : EOK E) {p0 : Int32} {σ σ1 : Hp} {r : Int32} (h : s_X2_lowestOf p0 σ = some (r, σ1)) : CT E yX2_lowestOf (.code yX2_lowestOf cX2_lowestOf 2 (some .int)) rm_X2_lowestOf [tI (p0)] σ (some (tI r)) σ1 := by
  refine CT.mk hE (by decide +kernel) (Nat.le_of_ble_eq_true rfl) [(0, tI (p0))] rfl (fun X C hin hx hxn => ?_)
  have C : XOK E X cX2_lowestOf RX2 2 (some .int) rm_X2_lowestOf := C
  unfold s_X2_lowestOf at h
  refine g_iconst (v := 0) (pc := 0) C dX2_lowestOf_0 (by decide) ?_
  refine g_istore_n (lm' := [(1, tI (0)), (0, tI (p0))]) (pc := 1) C 1 dX2_lowestOf_1 rfl (by decide) rfl ?_
  refine g_sub [1, 0] (lm' := [(0, tI (p0)), (1, tI (0))]) rfl ?_
  obtain ⟨KQ, hKQ, r2, σ3, hlr2, h⟩ := zcbK h
  refine w_X2_lowestOf_l2 (KE := KQ) hE C hxn ?_ hlr2 h
  · intro r2 σ1 h
    have h := (hKQ _ _).mp h
    obtain ⟨rfl, rfl⟩ := zsome h
    exact hx
def rm_X2_drawWay : Room := { frames := 2, cells := 0, slots := 0, locals := 42 }
noncomputable def s_X2_drawWay_j50 (h0 : Nat) (l2 : Int32) (l4 : Int32) (t0 : Int32) (σ : Hp) : Option (((Nat × Int32 × Int32 × Int32) ⊕ (Unit)) × Hp) :=
  (rdR 2 σ h0 4).bind fun r1 =>
  (r1).bind fun a2 =>
  (ldI 11 σ a2 (l4 + 1)).bind fun v3 =>
  cb (s_X2_lowestOf (t0 &&& v3) σ) fun v5 σ4 =>
  (rdR 2 σ4 h0 0).bind fun r6 =>
  (r6).bind fun a7 =>
  (stI σ4 a7 (l4) (v5)).bind fun σ8 =>
  some (Sum.inl ((h0), (l2), (v5), (l4 + 1)), σ8)
set_option maxRecDepth 100000 in
theorem w_X2_drawWay_j50 {E : E0} (hE : EOK E) {X : X0} (C : XOK E X cX2_drawWay RX2 6 none rm_X2_drawWay) (hxn : xn X = (rm_X2_drawWay.cells, rm_X2_drawWay.slots)) {KE : (Unit) → Hp → Prop} (e_ret : ∀ (r : Unit) (σ : Hp), KE (r) σ → xd X = (none, σ)) (h0 : Nat) (l2 : Int32) (l4 : Int32) (t0 : Int32) (σ : Hp) (x : (Nat × Int32 × Int32 × Int32) ⊕ (Unit)) (σ1 : Hp) (h : s_X2_drawWay_j50 h0 l2 l4 t0 σ = some (x, σ1)) (hI : ∀ v, x = Sum.inl v → (fun (v : Nat × Int32 × Int32 × Int32) (σ : Hp) => G E X 0 0 5 [(0, tR (some ((v.1)))), (2, tI ((v.2.1))), (3, tI ((v.2.2.1))), (4, tI ((v.2.2.2)))] [] σ) v σ1) (hO : ∀ e, x = Sum.inr e → KE e σ1) : G E X 0 0 50 [(0, tR (some (h0))), (2, tI (l2)), (4, tI (l4))] [tI (t0)] σ := by
  unfold s_X2_drawWay_j50 at h
  refine g_istore (lm' := [(5, tI (t0)), (0, tR (some (h0))), (2, tI (l2)), (4, tI (l4))]) (pc := 50) C dX2_drawWay_50 (by decide) rfl ?_
  refine g_iload (pc := 52) C 0 dX2_drawWay_52 rfl ?_
  refine g_aload_n (pc := 54) C 0 1 dX2_drawWay_54 rfl rfl ?_
  obtain ⟨r1, hvr1, h⟩ := zbind h
  refine g_getR (N := 7) (pc := 55) C ck_2 hvr1 rfl rfl fl_X2_26 dX2_drawWay_55 ?_
  refine g_iload (pc := 58) C 3 dX2_drawWay_58 rfl ?_
  refine g_iconst (v := 1) (pc := 60) C dX2_drawWay_60 (by decide) ?_
  refine g_iadd (pc := 61) C dX2_drawWay_61 ?_
  obtain ⟨a2, hqa2, h9⟩ := zbind h
  clear h
  subst hqa2
  have h := h9
  clear h9
  obtain ⟨v3, hvv3, h⟩ := zbind h
  refine g_iald (pc := 62) C hvv3 dX2_drawWay_62 ?_
  refine g_iand (pc := 63) C dX2_drawWay_63 ?_
  obtain ⟨v5, σ4, hvσ4, h⟩ := zcb h
  refine g_callS (pc := 64) (av := [tI (t0 &&& v3)]) C (c_X2_lowestOf hE hvσ4) ys_X2_lowestOf ml_X2_74 rfl (rf_of (by decide)) rfl (Nat.le_of_ble_eq_true rfl) dX2_drawWay_64 ?_
  refine g_istore_n (lm' := [(3, tI (v5)), (5, tI (t0)), (0, tR (some (h0))), (2, tI (l2)), (4, tI (l4))]) (pc := 67) C 3 dX2_drawWay_67 rfl (by decide) rfl ?_
  refine g_aload_n (pc := 68) C 0 2 dX2_drawWay_68 rfl rfl ?_
  obtain ⟨r6, hvr6, h⟩ := zbind h
  refine g_getR (N := 7) (pc := 69) C ck_2 hvr6 rfl rfl fl_X2_9 dX2_drawWay_69 ?_
  refine g_iload (pc := 72) C 4 dX2_drawWay_72 rfl ?_
  refine g_iload_n (pc := 74) C 3 0 dX2_drawWay_74 rfl rfl ?_
  obtain ⟨a7, hqa7, h9⟩ := zbind h
  clear h
  subst hqa7
  have h := h9
  clear h9
  obtain ⟨σ8, hvσ8, h⟩ := zbind h
  refine g_iast (pc := 75) C hvσ8 dX2_drawWay_75 ?_
  refine g_iinc (lm' := [(4, tI (l4 + 1)), (3, tI (v5)), (5, tI (t0)), (0, tR (some (h0))), (2, tI (l2))]) (v := l4 + 1) (pc := 76) C 4 dX2_drawWay_76 rfl rfl (by decide) rfl ?_
  refine g_goto (pc := 79) C 5 dX2_drawWay_79 (by decide) ?_
  refine g_sub [3, 4, 1, 0] (lm' := [(0, tR (some (h0))), (2, tI (l2)), (3, tI (v5)), (4, tI (l4 + 1))]) rfl ?_
  obtain ⟨rfl, rfl⟩ := zsome h
  exact hI _ rfl
noncomputable def s_X2_drawWay_j49 (h0 : Nat) (l2 : Int32) (l4 : Int32) (σ : Hp) : Option (((Nat × Int32 × Int32 × Int32) ⊕ (Unit)) × Hp) :=
  s_X2_drawWay_j50 (h0) (l2) (l4) (0) σ
set_option maxRecDepth 100000 in
theorem w_X2_drawWay_j49 {E : E0} (hE : EOK E) {X : X0} (C : XOK E X cX2_drawWay RX2 6 none rm_X2_drawWay) (hxn : xn X = (rm_X2_drawWay.cells, rm_X2_drawWay.slots)) {KE : (Unit) → Hp → Prop} (e_ret : ∀ (r : Unit) (σ : Hp), KE (r) σ → xd X = (none, σ)) (h0 : Nat) (l2 : Int32) (l4 : Int32) (σ : Hp) (x : (Nat × Int32 × Int32 × Int32) ⊕ (Unit)) (σ1 : Hp) (h : s_X2_drawWay_j49 h0 l2 l4 σ = some (x, σ1)) (hI : ∀ v, x = Sum.inl v → (fun (v : Nat × Int32 × Int32 × Int32) (σ : Hp) => G E X 0 0 5 [(0, tR (some ((v.1)))), (2, tI ((v.2.1))), (3, tI ((v.2.2.1))), (4, tI ((v.2.2.2)))] [] σ) v σ1) (hO : ∀ e, x = Sum.inr e → KE e σ1) : G E X 0 0 49 [(0, tR (some (h0))), (2, tI (l2)), (4, tI (l4))] [] σ := by
  unfold s_X2_drawWay_j49 at h
  refine g_iconst (v := 0) (pc := 49) C dX2_drawWay_49 (by decide) ?_
  exact w_X2_drawWay_j50 hE C hxn e_ret _ _ _ _ _ _ _ h hI hO
noncomputable def s_X2_drawWay_b5 (h0 : Nat) (l2 : Int32) (l3 : Int32) (l4 : Int32) (σ : Hp) : Option (((Nat × Int32 × Int32 × Int32) ⊕ (Unit)) × Hp) :=
  if l2 ≤ l4 then
    some (Sum.inr (), σ)
  else
    if 48 ≤ l4 then
      some (Sum.inr (), σ)
    else
      if l3 < 0 then
        s_X2_drawWay_j49 (h0) (l2) (l4) σ
      else
        if 10 ≤ l3 then
          s_X2_drawWay_j49 (h0) (l2) (l4) σ
        else
          (rdR 2 σ h0 2).bind fun r1 =>
          (r1).bind fun a2 =>
          (ldI 11 σ a2 (l3)).bind fun v3 =>
          (rdR 2 σ h0 3).bind fun r4 =>
          (r4).bind fun a5 =>
          (ldI 11 σ a5 (l4)).bind fun v6 =>
          s_X2_drawWay_j50 (h0) (l2) (l4) (((1 : Int32) <<< (l3 &&& 31)) ||| (v3 &&& v6)) σ
noncomputable def s_X2_drawWay_l5 : (Nat × Int32 × Int32 × Int32) → Hp → Option ((Unit) × Hp) := loopF (fun v => s_X2_drawWay_b5 (v.1) (v.2.1) (v.2.2.1) (v.2.2.2))
set_option maxRecDepth 100000 in
theorem w_X2_drawWay_b5 {E : E0} (hE : EOK E) {X : X0} (C : XOK E X cX2_drawWay RX2 6 none rm_X2_drawWay) (hxn : xn X = (rm_X2_drawWay.cells, rm_X2_drawWay.slots)) {KE : (Unit) → Hp → Prop} (e_ret : ∀ (r : Unit) (σ : Hp), KE (r) σ → xd X = (none, σ)) (h0 : Nat) (l2 : Int32) (l3 : Int32) (l4 : Int32) (σ : Hp) (x : (Nat × Int32 × Int32 × Int32) ⊕ (Unit)) (σ1 : Hp) (h : s_X2_drawWay_b5 h0 l2 l3 l4 σ = some (x, σ1)) (hI : ∀ v, x = Sum.inl v → (fun (v : Nat × Int32 × Int32 × Int32) (σ : Hp) => G E X 0 0 5 [(0, tR (some ((v.1)))), (2, tI ((v.2.1))), (3, tI ((v.2.2.1))), (4, tI ((v.2.2.2)))] [] σ) v σ1) (hO : ∀ e, x = Sum.inr e → KE e σ1) : G E X 0 0 5 [(0, tR (some (h0))), (2, tI (l2)), (3, tI (l3)), (4, tI (l4))] [] σ := by
  unfold s_X2_drawWay_b5 at h
  refine g_iload (pc := 5) C 3 dX2_drawWay_5 rfl ?_
  refine g_iload_n (pc := 7) C 2 1 dX2_drawWay_7 rfl rfl ?_
  refine g_icmp_ge (pc := 8) C 82 dX2_drawWay_8 (by decide) (fun c10 => ?_) (fun c10 => ?_)
  · have h := zif_t c10 h
    obtain ⟨rfl, rfl⟩ := zsome h
    exact g_vret (pc := 82) C rfl (e_ret _ _ (hO _ rfl)) (by rw [hxn]; rfl) (by rw [hxn]; rfl) dX2_drawWay_82
  · have h := zif_f c10 h
    refine g_iload (pc := 11) C 3 dX2_drawWay_11 rfl ?_
    refine g_bipush (v := 48) (pc := 13) C dX2_drawWay_13 (by decide) ?_
    refine g_icmp_ge (pc := 15) C 82 dX2_drawWay_15 (by decide) (fun c9 => ?_) (fun c9 => ?_)
    · have h := zif_t c9 h
      obtain ⟨rfl, rfl⟩ := zsome h
      exact g_vret (pc := 82) C rfl (e_ret _ _ (hO _ rfl)) (by rw [hxn]; rfl) (by rw [hxn]; rfl) dX2_drawWay_82
    · have h := zif_f c9 h
      refine g_iload_n (pc := 18) C 3 2 dX2_drawWay_18 rfl rfl ?_
      refine g_if_lt (pc := 19) C 49 dX2_drawWay_19 (by decide) (fun c8 => ?_) (fun c8 => ?_)
      · have h := zif_t c8 h
        refine g_sub [0, 1, 3] (lm' := [(0, tR (some (h0))), (2, tI (l2)), (4, tI (l4))]) rfl ?_
        exact w_X2_drawWay_j49 hE C hxn e_ret _ _ _ _ _ _ h hI hO
      · have h := zif_f c8 h
        refine g_iload_n (pc := 22) C 3 2 dX2_drawWay_22 rfl rfl ?_
        refine g_bipush (v := 10) (pc := 23) C dX2_drawWay_23 (by decide) ?_
        refine g_icmp_ge (pc := 25) C 49 dX2_drawWay_25 (by decide) (fun c7 => ?_) (fun c7 => ?_)
        · have h := zif_t c7 h
          refine g_sub [0, 1, 3] (lm' := [(0, tR (some (h0))), (2, tI (l2)), (4, tI (l4))]) rfl ?_
          exact w_X2_drawWay_j49 hE C hxn e_ret _ _ _ _ _ _ h hI hO
        · have h := zif_f c7 h
          refine g_iconst (v := 1) (pc := 28) C dX2_drawWay_28 (by decide) ?_
          refine g_iload_n (pc := 29) C 3 2 dX2_drawWay_29 rfl rfl ?_
          refine g_ishl (pc := 30) C dX2_drawWay_30 ?_
          refine g_aload_n (pc := 31) C 0 0 dX2_drawWay_31 rfl rfl ?_
          obtain ⟨r1, hvr1, h⟩ := zbind h
          refine g_getR (N := 7) (pc := 32) C ck_2 hvr1 rfl rfl fl_X2_20 dX2_drawWay_32 ?_
          refine g_iload_n (pc := 35) C 3 2 dX2_drawWay_35 rfl rfl ?_
          obtain ⟨a2, hqa2, h9⟩ := zbind h
          clear h
          subst hqa2
          have h := h9
          clear h9
          obtain ⟨v3, hvv3, h⟩ := zbind h
          refine g_iald (pc := 36) C hvv3 dX2_drawWay_36 ?_
          refine g_aload_n (pc := 37) C 0 0 dX2_drawWay_37 rfl rfl ?_
          obtain ⟨r4, hvr4, h⟩ := zbind h
          refine g_getR (N := 7) (pc := 38) C ck_2 hvr4 rfl rfl fl_X2_23 dX2_drawWay_38 ?_
          refine g_iload (pc := 41) C 3 dX2_drawWay_41 rfl ?_
          obtain ⟨a5, hqa5, h9⟩ := zbind h
          clear h
          subst hqa5
          have h := h9
          clear h9
          obtain ⟨v6, hvv6, h⟩ := zbind h
          refine g_iald (pc := 43) C hvv6 dX2_drawWay_43 ?_
          refine g_iand (pc := 44) C dX2_drawWay_44 ?_
          refine g_ior (pc := 45) C dX2_drawWay_45 ?_
          refine g_goto (pc := 46) C 50 dX2_drawWay_46 (by decide) ?_
          refine g_sub [0, 1, 3] (lm' := [(0, tR (some (h0))), (2, tI (l2)), (4, tI (l4))]) rfl ?_
          exact w_X2_drawWay_j50 hE C hxn e_ret _ _ _ _ _ _ _ h hI hO
theorem w_X2_drawWay_l5 {E : E0} (hE : EOK E) {X : X0} (C : XOK E X cX2_drawWay RX2 6 none rm_X2_drawWay) (hxn : xn X = (rm_X2_drawWay.cells, rm_X2_drawWay.slots)) {KE : (Unit) → Hp → Prop} (e_ret : ∀ (r : Unit) (σ : Hp), KE (r) σ → xd X = (none, σ)) {v : Nat × Int32 × Int32 × Int32} {σ : Hp} {e : Unit} {σ1 : Hp} (h : s_X2_drawWay_l5 v σ = some (e, σ1)) (hO : KE e σ1) : G E X 0 0 5 [(0, tR (some ((v.1)))), (2, tI ((v.2.1))), (3, tI ((v.2.2.1))), (4, tI ((v.2.2.2)))] [] σ := loopF_ind (P := fun (v : Nat × Int32 × Int32 × Int32) (σ : Hp) => G E X 0 0 5 [(0, tR (some ((v.1)))), (2, tI ((v.2.1))), (3, tI ((v.2.2.1))), (4, tI ((v.2.2.2)))] [] σ) (KE := KE) (fun v σ x σ1 h hI hO => w_X2_drawWay_b5 hE C hxn e_ret (v.1) (v.2.1) (v.2.2.1) (v.2.2.2) σ x σ1 h hI hO) v σ e σ1 h hO
noncomputable def s_X2_drawWay (h0 : Nat) (p1 : Int32) (p2 : Int32) (σ : Hp) : Option (Unit × Hp) :=
  cb (s_X2_drawWay_l5 ((h0), (p2), (p1), (0)) σ) fun r2 σ3 =>
  some (r2, σ3)
set_option maxRecDepth 100000 in
theorem c_X2_drawWay {E : E0} (hE : EOK E) {h0 : Nat} {p1 : Int32} {p2 : Int32} {σ σ1 : Hp} {r : Unit} (h : s_X2_drawWay h0 p1 p2 σ = some (r, σ1)) : CT E yX2_drawWay (.code yX2_drawWay cX2_drawWay 6 none) rm_X2_drawWay [tR (some (h0)), tI (p1), tI (p2)] σ none σ1 := by
  refine CT.mk hE (by decide +kernel) (Nat.le_of_ble_eq_true rfl) [(0, tR (some (h0))), (1, tI (p1)), (2, tI (p2))] rfl (fun X C hin hx hxn => ?_)
  have C : XOK E X cX2_drawWay RX2 6 none rm_X2_drawWay := C
  unfold s_X2_drawWay at h
  refine g_iload_n (pc := 0) C 1 1 dX2_drawWay_0 rfl rfl ?_
  refine g_istore_n (lm' := [(3, tI (p1)), (0, tR (some (h0))), (1, tI (p1)), (2, tI (p2))]) (pc := 1) C 3 dX2_drawWay_1 rfl (by decide) rfl ?_
  refine g_iconst (v := 0) (pc := 2) C dX2_drawWay_2 (by decide) ?_
  refine g_istore (lm' := [(4, tI (0)), (3, tI (p1)), (0, tR (some (h0))), (1, tI (p1)), (2, tI (p2))]) (pc := 3) C dX2_drawWay_3 (by decide) rfl ?_
  refine g_sub [2, 4, 1, 0] (lm' := [(0, tR (some (h0))), (2, tI (p2)), (3, tI (p1)), (4, tI (0))]) rfl ?_
  obtain ⟨KQ, hKQ, r2, σ3, hlr2, h⟩ := zcbK h
  refine w_X2_drawWay_l5 (KE := KQ) hE C hxn ?_ hlr2 h
  · intro r2 σ1 h
    have h := (hKQ _ _).mp h
    obtain ⟨rfl, rfl⟩ := zsome h
    exact hx
def rm_X2_hoursTo : Room := { frames := 5, cells := 0, slots := 0, locals := 131 }
noncomputable def s_X2_hoursTo_b43 (h0 : Nat) (l1 : Option Nat) (l2 : Int32) (l3 : Int32) (l4 : Int32) (l5 : Int32) (l6 : Int32) (σ : Hp) : Option (((Nat × (Option Nat) × Int32 × Int32 × Int32 × Int32 × Int32) ⊕ ((Nat × Int32 × Int32 × Int32) ⊕ Int32)) × Hp) :=
  if 48 ≤ l6 then
    some (Sum.inr (Sum.inr ((-1))), σ)
  else
    (rdR 2 σ h0 4).bind fun r1 =>
    (r1).bind fun a2 =>
    (ldI 11 σ a2 (l6)).bind fun v3 =>
    if v3 = 0 then
      some (Sum.inr (Sum.inr ((-1))), σ)
    else
      (rdR 2 σ h0 4).bind fun r4 =>
      (r4).bind fun a5 =>
      (ldI 11 σ a5 (l6)).bind fun v6 =>
      (ck 2 σ h0).bind fun u7 =>
      cb (s_X2_onward h0 (v6) σ) fun v9 σ8 =>
      (rdR 2 σ8 h0 3).bind fun r10 =>
      (l1).bind fun a11 =>
      (ck 1 σ8 a11).bind fun u12 =>
      cb (s_X1_unbarred a11 (l2) (v9) (l5 + l6) σ8) fun v14 σ13 =>
      (r10).bind fun a15 =>
      (stI σ13 a15 (l6) (v14)).bind fun σ16 =>
      (rdR 2 σ16 h0 4).bind fun r17 =>
      (rdR 2 σ16 h0 4).bind fun r18 =>
      (r18).bind fun a19 =>
      (ldI 11 σ16 a19 (l6)).bind fun v20 =>
      (rdR 2 σ16 h0 3).bind fun r21 =>
      (r21).bind fun a22 =>
      (ldI 11 σ16 a22 (l6)).bind fun v23 =>
      (ck 1 σ16 a11).bind fun u24 =>
      cb (s_X1_safePerches a11 ((l5 + l6) + 1) σ16) fun v26 σ25 =>
      (r17).bind fun a27 =>
      (stI σ25 a27 (l6 + 1) ((v20 ||| (v9 &&& v23)) &&& v26)).bind fun σ28 =>
      (rdR 2 σ28 h0 4).bind fun r29 =>
      (r29).bind fun a30 =>
      (ldI 11 σ28 a30 (l6 + 1)).bind fun v31 =>
      cb (s_X8_hasBit (v31) (l3) σ28) fun v33 σ32 =>
      if v33 = 0 then
        some (Sum.inl ((h0), (some (a11)), (l2), (l3), (l4), (l5), (l6 + 1)), σ32)
      else
        some (Sum.inr (Sum.inl ((h0), (l3), (l4), (l6))), σ32)
noncomputable def s_X2_hoursTo_l43 : (Nat × (Option Nat) × Int32 × Int32 × Int32 × Int32 × Int32) → Hp → Option (((Nat × Int32 × Int32 × Int32) ⊕ Int32) × Hp) := loopF (fun v => s_X2_hoursTo_b43 (v.1) (v.2.1) (v.2.2.1) (v.2.2.2.1) (v.2.2.2.2.1) (v.2.2.2.2.2.1) (v.2.2.2.2.2.2))
set_option maxRecDepth 100000 in
theorem w_X2_hoursTo_b43 {E : E0} (hE : EOK E) {X : X0} (C : XOK E X cX2_hoursTo RX2 8 (some .int) rm_X2_hoursTo) (hxn : xn X = (rm_X2_hoursTo.cells, rm_X2_hoursTo.slots)) {KE : ((Nat × Int32 × Int32 × Int32) ⊕ Int32) → Hp → Prop} (e_147 : ∀ (h0 : Nat) (l3 : Int32) (l4 : Int32) (l6 : Int32) (σ : Hp), KE (Sum.inl (h0, l3, l4, l6)) σ → G E X 0 0 147 [(0, tR (some (h0))), (3, tI (l3)), (4, tI (l4)), (6, tI (l6))] [] σ) (e_ret : ∀ (r : Int32) (σ : Hp), KE (Sum.inr r) σ → xd X = (some (tI r), σ)) (h0 : Nat) (l1 : Option Nat) (l2 : Int32) (l3 : Int32) (l4 : Int32) (l5 : Int32) (l6 : Int32) (σ : Hp) (x : (Nat × (Option Nat) × Int32 × Int32 × Int32 × Int32 × Int32) ⊕ ((Nat × Int32 × Int32 × Int32) ⊕ Int32)) (σ1 : Hp) (h : s_X2_hoursTo_b43 h0 l1 l2 l3 l4 l5 l6 σ = some (x, σ1)) (hI : ∀ v, x = Sum.inl v → (fun (v : Nat × (Option Nat) × Int32 × Int32 × Int32 × Int32 × Int32) (σ : Hp) => G E X 0 0 43 [(0, tR (some ((v.1)))), (1, tR ((v.2.1))), (2, tI ((v.2.2.1))), (3, tI ((v.2.2.2.1))), (4, tI ((v.2.2.2.2.1))), (5, tI ((v.2.2.2.2.2.1))), (6, tI ((v.2.2.2.2.2.2)))] [] σ) v σ1) (hO : ∀ e, x = Sum.inr e → KE e σ1) : G E X 0 0 43 [(0, tR (some (h0))), (1, tR (l1)), (2, tI (l2)), (3, tI (l3)), (4, tI (l4)), (5, tI (l5)), (6, tI (l6))] [] σ := by
  unfold s_X2_hoursTo_b43 at h
  refine g_iload (pc := 43) C 6 dX2_hoursTo_43 rfl ?_
  refine g_bipush (v := 48) (pc := 45) C dX2_hoursTo_45 (by decide) ?_
  refine g_icmp_ge (pc := 47) C 177 dX2_hoursTo_47 (by decide) (fun c36 => ?_) (fun c36 => ?_)
  · have h := zif_t c36 h
    refine g_iconst (v := (-1)) (pc := 177) C dX2_hoursTo_177 (by decide) ?_
    obtain ⟨rfl, rfl⟩ := zsome h
    exact g_iret (pc := 178) C rfl (e_ret _ _ (hO _ rfl)) (by rw [hxn]; rfl) (by rw [hxn]; rfl) dX2_hoursTo_178
  · have h := zif_f c36 h
    refine g_aload_n (pc := 50) C 0 0 dX2_hoursTo_50 rfl rfl ?_
    obtain ⟨r1, hvr1, h⟩ := zbind h
    refine g_getR (N := 7) (pc := 51) C ck_2 hvr1 rfl rfl fl_X2_26 dX2_hoursTo_51 ?_
    refine g_iload (pc := 54) C 6 dX2_hoursTo_54 rfl ?_
    obtain ⟨a2, hqa2, h9⟩ := zbind h
    clear h
    subst hqa2
    have h := h9
    clear h9
    obtain ⟨v3, hvv3, h⟩ := zbind h
    refine g_iald (pc := 56) C hvv3 dX2_hoursTo_56 ?_
    refine g_if_eq (pc := 57) C 177 dX2_hoursTo_57 (by decide) (fun c35 => ?_) (fun c35 => ?_)
    · have h := zif_t c35 h
      refine g_iconst (v := (-1)) (pc := 177) C dX2_hoursTo_177 (by decide) ?_
      obtain ⟨rfl, rfl⟩ := zsome h
      exact g_iret (pc := 178) C rfl (e_ret _ _ (hO _ rfl)) (by rw [hxn]; rfl) (by rw [hxn]; rfl) dX2_hoursTo_178
    · have h := zif_f c35 h
      refine g_aload_n (pc := 60) C 0 0 dX2_hoursTo_60 rfl rfl ?_
      refine g_aload_n (pc := 61) C 0 0 dX2_hoursTo_61 rfl rfl ?_
      obtain ⟨r4, hvr4, h⟩ := zbind h
      refine g_getR (N := 7) (pc := 62) C ck_2 hvr4 rfl rfl fl_X2_26 dX2_hoursTo_62 ?_
      refine g_iload (pc := 65) C 6 dX2_hoursTo_65 rfl ?_
      obtain ⟨a5, hqa5, h9⟩ := zbind h
      clear h
      subst hqa5
      have h := h9
      clear h9
      obtain ⟨v6, hvv6, h⟩ := zbind h
      refine g_iald (pc := 67) C hvv6 dX2_hoursTo_67 ?_
      obtain ⟨u7, hvu7, h⟩ := zbind h
      obtain ⟨v9, σ8, hvσ8, h⟩ := zcb h
      refine g_callV (pc := 68) (av := [tI (v6)]) C (c_X2_onward hE hvσ8) yv_X2_onward ml_X2_46 ck_2 (zopt hvu7).1 rfl (rf_of (by decide)) rfl (Nat.le_of_ble_eq_true rfl) dX2_hoursTo_68 ?_
      refine g_istore (lm' := [(7, tI (v9)), (0, tR (some (h0))), (1, tR (l1)), (2, tI (l2)), (3, tI (l3)), (4, tI (l4)), (5, tI (l5)), (6, tI (l6))]) (pc := 71) C dX2_hoursTo_71 (by decide) rfl ?_
      refine g_aload_n (pc := 73) C 0 1 dX2_hoursTo_73 rfl rfl ?_
      obtain ⟨r10, hvr10, h⟩ := zbind h
      refine g_getR (N := 7) (pc := 74) C ck_2 hvr10 rfl rfl fl_X2_23 dX2_hoursTo_74 ?_
      refine g_iload (pc := 77) C 7 dX2_hoursTo_77 rfl ?_
      refine g_aload_n (pc := 79) C 1 2 dX2_hoursTo_79 rfl rfl ?_
      refine g_iload_n (pc := 80) C 2 3 dX2_hoursTo_80 rfl rfl ?_
      refine g_iload (pc := 81) C 0 dX2_hoursTo_81 rfl ?_
      refine g_iload (pc := 83) C 6 dX2_hoursTo_83 rfl ?_
      refine g_iload (pc := 85) C 7 dX2_hoursTo_85 rfl ?_
      refine g_iadd (pc := 87) C dX2_hoursTo_87 ?_
      obtain ⟨a11, hqa11, h9⟩ := zbind h
      clear h
      subst hqa11
      have h := h9
      clear h9
      obtain ⟨u12, hvu12, h⟩ := zbind h
      obtain ⟨v14, σ13, hvσ13, h⟩ := zcb h
      refine g_callV (pc := 88) (av := [tI (l2), tI (v9), tI (l5 + l6)]) C (c_X1_unbarred hE hvσ13) yv_X1_unbarred ml_X2_60 ck_1 (zopt hvu12).1 rfl (rf_of (by decide)) rfl (Nat.le_of_ble_eq_true rfl) dX2_hoursTo_88 ?_
      obtain ⟨a15, hqa15, h9⟩ := zbind h
      clear h
      subst hqa15
      have h := h9
      clear h9
      obtain ⟨σ16, hvσ16, h⟩ := zbind h
      refine g_iast (pc := 91) C hvσ16 dX2_hoursTo_91 ?_
      refine g_aload_n (pc := 92) C 0 1 dX2_hoursTo_92 rfl rfl ?_
      obtain ⟨r17, hvr17, h⟩ := zbind h
      refine g_getR (N := 7) (pc := 93) C ck_2 hvr17 rfl rfl fl_X2_26 dX2_hoursTo_93 ?_
      refine g_iload (pc := 96) C 7 dX2_hoursTo_96 rfl ?_
      refine g_iconst (v := 1) (pc := 98) C dX2_hoursTo_98 (by decide) ?_
      refine g_iadd (pc := 99) C dX2_hoursTo_99 ?_
      refine g_aload_n (pc := 100) C 0 1 dX2_hoursTo_100 rfl rfl ?_
      obtain ⟨r18, hvr18, h⟩ := zbind h
      refine g_getR (N := 7) (pc := 101) C ck_2 hvr18 rfl rfl fl_X2_26 dX2_hoursTo_101 ?_
      refine g_iload (pc := 104) C 7 dX2_hoursTo_104 rfl ?_
      obtain ⟨a19, hqa19, h9⟩ := zbind h
      clear h
      subst hqa19
      have h := h9
      clear h9
      obtain ⟨v20, hvv20, h⟩ := zbind h
      refine g_iald (pc := 106) C hvv20 dX2_hoursTo_106 ?_
      refine g_iload (pc := 107) C 0 dX2_hoursTo_107 rfl ?_
      refine g_aload_n (pc := 109) C 0 1 dX2_hoursTo_109 rfl rfl ?_
      obtain ⟨r21, hvr21, h⟩ := zbind h
      refine g_getR (N := 7) (pc := 110) C ck_2 hvr21 rfl rfl fl_X2_23 dX2_hoursTo_110 ?_
      refine g_iload (pc := 113) C 7 dX2_hoursTo_113 rfl ?_
      obtain ⟨a22, hqa22, h9⟩ := zbind h
      clear h
      subst hqa22
      have h := h9
      clear h9
      obtain ⟨v23, hvv23, h⟩ := zbind h
      refine g_iald (pc := 115) C hvv23 dX2_hoursTo_115 ?_
      refine g_iand (pc := 116) C dX2_hoursTo_116 ?_
      refine g_ior (pc := 117) C dX2_hoursTo_117 ?_
      refine g_aload_n (pc := 118) C 1 2 dX2_hoursTo_118 rfl rfl ?_
      refine g_iload (pc := 119) C 6 dX2_hoursTo_119 rfl ?_
      refine g_iload (pc := 121) C 7 dX2_hoursTo_121 rfl ?_
      refine g_iadd (pc := 123) C dX2_hoursTo_123 ?_
      refine g_iconst (v := 1) (pc := 124) C dX2_hoursTo_124 (by decide) ?_
      refine g_iadd (pc := 125) C dX2_hoursTo_125 ?_
      obtain ⟨u24, hvu24, h⟩ := zbind h
      obtain ⟨v26, σ25, hvσ25, h⟩ := zcb h
      refine g_callV (pc := 126) (av := [tI ((l5 + l6) + 1)]) C (c_X1_safePerches hE hvσ25) yv_X1_safePerches ml_X2_64 ck_1 (zopt hvu24).1 rfl (rf_of (by decide)) rfl (Nat.le_of_ble_eq_true rfl) dX2_hoursTo_126 ?_
      refine g_iand (pc := 129) C dX2_hoursTo_129 ?_
      obtain ⟨a27, hqa27, h9⟩ := zbind h
      clear h
      subst hqa27
      have h := h9
      clear h9
      obtain ⟨σ28, hvσ28, h⟩ := zbind h
      refine g_iast (pc := 130) C hvσ28 dX2_hoursTo_130 ?_
      refine g_aload_n (pc := 131) C 0 1 dX2_hoursTo_131 rfl rfl ?_
      obtain ⟨r29, hvr29, h⟩ := zbind h
      refine g_getR (N := 7) (pc := 132) C ck_2 hvr29 rfl rfl fl_X2_26 dX2_hoursTo_132 ?_
      refine g_iload (pc := 135) C 7 dX2_hoursTo_135 rfl ?_
      refine g_iconst (v := 1) (pc := 137) C dX2_hoursTo_137 (by decide) ?_
      refine g_iadd (pc := 138) C dX2_hoursTo_138 ?_
      obtain ⟨a30, hqa30, h9⟩ := zbind h
      clear h
      subst hqa30
      have h := h9
      clear h9
      obtain ⟨v31, hvv31, h⟩ := zbind h
      refine g_iald (pc := 139) C hvv31 dX2_hoursTo_139 ?_
      refine g_iload_n (pc := 140) C 3 4 dX2_hoursTo_140 rfl rfl ?_
      obtain ⟨v33, σ32, hvσ32, h⟩ := zcb h
      refine g_callSN (pc := 141) (av := [tI (v31), tI (l3)]) C (c_X8_hasBit hE hvσ32) ys_X8_hasBit ml_X2_42 rfl (rf_of (by decide)) rfl (Nat.le_of_ble_eq_true rfl) dX2_hoursTo_141 ?_
      refine g_if_eq (pc := 144) C 171 dX2_hoursTo_144 (by decide) (fun c34 => ?_) (fun c34 => ?_)
      · have h := zif_t c34 h
        refine g_iinc (lm' := [(6, tI (l6 + 1)), (7, tI (v9)), (0, tR (some (h0))), (1, tR (some (a11))), (2, tI (l2)), (3, tI (l3)), (4, tI (l4)), (5, tI (l5))]) (v := l6 + 1) (pc := 171) C 7 dX2_hoursTo_171 rfl rfl (by decide) rfl ?_
        refine g_goto (pc := 174) C 43 dX2_hoursTo_174 (by decide) ?_
        refine g_sub [2, 3, 4, 5, 6, 7, 0] (lm' := [(0, tR (some (h0))), (1, tR (some (a11))), (2, tI (l2)), (3, tI (l3)), (4, tI (l4)), (5, tI (l5)), (6, tI (l6 + 1))]) rfl ?_
        obtain ⟨rfl, rfl⟩ := zsome h
        exact hI _ rfl
      · have h := zif_f c34 h
        refine g_sub [1, 4, 5, 7] (lm' := [(0, tR (some (h0))), (3, tI (l3)), (4, tI (l4)), (6, tI (l6))]) rfl ?_
        obtain ⟨rfl, rfl⟩ := zsome h
        exact e_147 _ _ _ _ _ (hO _ rfl)
theorem w_X2_hoursTo_l43 {E : E0} (hE : EOK E) {X : X0} (C : XOK E X cX2_hoursTo RX2 8 (some .int) rm_X2_hoursTo) (hxn : xn X = (rm_X2_hoursTo.cells, rm_X2_hoursTo.slots)) {KE : ((Nat × Int32 × Int32 × Int32) ⊕ Int32) → Hp → Prop} (e_147 : ∀ (h0 : Nat) (l3 : Int32) (l4 : Int32) (l6 : Int32) (σ : Hp), KE (Sum.inl (h0, l3, l4, l6)) σ → G E X 0 0 147 [(0, tR (some (h0))), (3, tI (l3)), (4, tI (l4)), (6, tI (l6))] [] σ) (e_ret : ∀ (r : Int32) (σ : Hp), KE (Sum.inr r) σ → xd X = (some (tI r), σ)) {v : Nat × (Option Nat) × Int32 × Int32 × Int32 × Int32 × Int32} {σ : Hp} {e : (Nat × Int32 × Int32 × Int32) ⊕ Int32} {σ1 : Hp} (h : s_X2_hoursTo_l43 v σ = some (e, σ1)) (hO : KE e σ1) : G E X 0 0 43 [(0, tR (some ((v.1)))), (1, tR ((v.2.1))), (2, tI ((v.2.2.1))), (3, tI ((v.2.2.2.1))), (4, tI ((v.2.2.2.2.1))), (5, tI ((v.2.2.2.2.2.1))), (6, tI ((v.2.2.2.2.2.2)))] [] σ := loopF_ind (P := fun (v : Nat × (Option Nat) × Int32 × Int32 × Int32 × Int32 × Int32) (σ : Hp) => G E X 0 0 43 [(0, tR (some ((v.1)))), (1, tR ((v.2.1))), (2, tI ((v.2.2.1))), (3, tI ((v.2.2.2.1))), (4, tI ((v.2.2.2.2.1))), (5, tI ((v.2.2.2.2.2.1))), (6, tI ((v.2.2.2.2.2.2)))] [] σ) (KE := KE) (fun v σ x σ1 h hI hO => w_X2_hoursTo_b43 hE C hxn e_147 e_ret (v.1) (v.2.1) (v.2.2.1) (v.2.2.2.1) (v.2.2.2.2.1) (v.2.2.2.2.2.1) (v.2.2.2.2.2.2) σ x σ1 h hI hO) v σ e σ1 h hO
noncomputable def s_X2_hoursTo (h0 : Nat) (p1 : Option Nat) (p2 : Int32) (p3 : Int32) (σ : Hp) : Option (Int32 × Hp) :=
  (p1).bind fun a1 =>
  (rdR 1 σ a1 3).bind fun r2 =>
  (r2).bind fun a3 =>
  (ldI 11 σ a3 (p2)).bind fun v4 =>
  if v4 = p3 then
    some ((0), σ)
  else
    (ck 2 σ h0).bind fun u5 =>
    cb (s_X2_drawSteps h0 (some (a1)) (p2) σ) fun v7 σ6 =>
    (rdR 1 σ6 a1 10).bind fun r8 =>
    (r8).bind fun a9 =>
    (ldI 11 σ6 a9 (0)).bind fun v10 =>
    (rdR 2 σ6 h0 4).bind fun r11 =>
    (r11).bind fun a12 =>
    (stI σ6 a12 (0) ((1 : Int32) <<< (v4 &&& 31))).bind fun σ13 =>
    cb (s_X2_hoursTo_l43 ((h0), (some (a1)), (p2), (p3), (v4), (v10), (0)) σ13) fun e28 σ27 =>
    match e28 with
    | Sum.inl (h14, l315, l416, l617) =>
      (ck 2 σ27 h14).bind fun u19 =>
      cb (s_X2_keepThoseThatComeTo h14 (l315) (l617 + 1) σ27) fun v21 σ20 =>
      (ck 2 σ20 h14).bind fun u22 =>
      cb (s_X2_drawWay h14 (l416) (l617 + 1) σ20) fun v24 σ23 =>
      some ((l617 + 1), σ23)
    | Sum.inr r26 =>
      some (r26, σ27)
set_option maxRecDepth 100000 in
theorem c_X2_hoursTo {E : E0} (hE : EOK E) {h0 : Nat} {p1 : Option Nat} {p2 : Int32} {p3 : Int32} {σ σ1 : Hp} {r : Int32} (h : s_X2_hoursTo h0 p1 p2 p3 σ = some (r, σ1)) : CT E yX2_hoursTo (.code yX2_hoursTo cX2_hoursTo 8 (some .int)) rm_X2_hoursTo [tR (some (h0)), tR (p1), tI (p2), tI (p3)] σ (some (tI r)) σ1 := by
  refine CT.mk hE (by decide +kernel) (Nat.le_of_ble_eq_true rfl) [(0, tR (some (h0))), (1, tR (p1)), (2, tI (p2)), (3, tI (p3))] rfl (fun X C hin hx hxn => ?_)
  have C : XOK E X cX2_hoursTo RX2 8 (some .int) rm_X2_hoursTo := C
  unfold s_X2_hoursTo at h
  refine g_aload_n (pc := 0) C 1 1 dX2_hoursTo_0 rfl rfl ?_
  obtain ⟨a1, hqa1, h9⟩ := zbind h
  clear h
  subst hqa1
  have h := h9
  clear h9
  obtain ⟨r2, hvr2, h⟩ := zbind h
  refine g_getR (N := 20) (pc := 1) C ck_1 hvr2 rfl rfl fl_X2_50 dX2_hoursTo_1 ?_
  refine g_iload_n (pc := 4) C 2 2 dX2_hoursTo_4 rfl rfl ?_
  obtain ⟨a3, hqa3, h9⟩ := zbind h
  clear h
  subst hqa3
  have h := h9
  clear h9
  obtain ⟨v4, hvv4, h⟩ := zbind h
  refine g_iald (pc := 5) C hvv4 dX2_hoursTo_5 ?_
  refine g_istore (lm' := [(4, tI (v4)), (0, tR (some (h0))), (1, tR (some (a1))), (2, tI (p2)), (3, tI (p3))]) (pc := 6) C dX2_hoursTo_6 (by decide) rfl ?_
  refine g_iload (pc := 8) C 0 dX2_hoursTo_8 rfl ?_
  refine g_iload_n (pc := 10) C 3 4 dX2_hoursTo_10 rfl rfl ?_
  refine g_icmp_ne (pc := 11) C 16 dX2_hoursTo_11 (by decide) (fun c29 => ?_) (fun c29 => ?_)
  · have h := zif_f c29 h
    refine g_aload_n (pc := 16) C 0 1 dX2_hoursTo_16 rfl rfl ?_
    refine g_aload_n (pc := 17) C 1 2 dX2_hoursTo_17 rfl rfl ?_
    refine g_iload_n (pc := 18) C 2 3 dX2_hoursTo_18 rfl rfl ?_
    obtain ⟨u5, hvu5, h⟩ := zbind h
    obtain ⟨v7, σ6, hvσ6, h⟩ := zcb h
    refine g_callV (pc := 19) (av := [tR (some (a1)), tI (p2)]) C (c_X2_drawSteps hE hvσ6) yv_X2_drawSteps ml_X2_53 ck_2 (zopt hvu5).1 rfl (rf_of (by decide)) rfl (Nat.le_of_ble_eq_true rfl) dX2_hoursTo_19 ?_
    refine g_aload_n (pc := 22) C 1 2 dX2_hoursTo_22 rfl rfl ?_
    obtain ⟨r8, hvr8, h⟩ := zbind h
    refine g_getR (N := 20) (pc := 23) C ck_1 hvr8 rfl rfl fl_X2_57 dX2_hoursTo_23 ?_
    refine g_iconst (v := 0) (pc := 26) C dX2_hoursTo_26 (by decide) ?_
    obtain ⟨a9, hqa9, h9⟩ := zbind h
    clear h
    subst hqa9
    have h := h9
    clear h9
    obtain ⟨v10, hvv10, h⟩ := zbind h
    refine g_iald (pc := 27) C hvv10 dX2_hoursTo_27 ?_
    refine g_istore (lm' := [(5, tI (v10)), (4, tI (v4)), (0, tR (some (h0))), (1, tR (some (a1))), (2, tI (p2)), (3, tI (p3))]) (pc := 28) C dX2_hoursTo_28 (by decide) rfl ?_
    refine g_aload_n (pc := 30) C 0 2 dX2_hoursTo_30 rfl rfl ?_
    obtain ⟨r11, hvr11, h⟩ := zbind h
    refine g_getR (N := 7) (pc := 31) C ck_2 hvr11 rfl rfl fl_X2_26 dX2_hoursTo_31 ?_
    refine g_iconst (v := 0) (pc := 34) C dX2_hoursTo_34 (by decide) ?_
    refine g_iconst (v := 1) (pc := 35) C dX2_hoursTo_35 (by decide) ?_
    refine g_iload (pc := 36) C 1 dX2_hoursTo_36 rfl ?_
    refine g_ishl (pc := 38) C dX2_hoursTo_38 ?_
    obtain ⟨a12, hqa12, h9⟩ := zbind h
    clear h
    subst hqa12
    have h := h9
    clear h9
    obtain ⟨σ13, hvσ13, h⟩ := zbind h
    refine g_iast (pc := 39) C hvσ13 dX2_hoursTo_39 ?_
    refine g_iconst (v := 0) (pc := 40) C dX2_hoursTo_40 (by decide) ?_
    refine g_istore (lm' := [(6, tI (0)), (5, tI (v10)), (4, tI (v4)), (0, tR (some (h0))), (1, tR (some (a1))), (2, tI (p2)), (3, tI (p3))]) (pc := 41) C dX2_hoursTo_41 (by decide) rfl ?_
    refine g_sub [3, 4, 5, 6, 2, 1, 0] (lm' := [(0, tR (some (h0))), (1, tR (some (a1))), (2, tI (p2)), (3, tI (p3)), (4, tI (v4)), (5, tI (v10)), (6, tI (0))]) rfl ?_
    obtain ⟨KQ, hKQ, e28, σ27, hle28, h⟩ := zcbK h
    refine w_X2_hoursTo_l43 (KE := KQ) hE C hxn ?_ ?_ hle28 h
    · intro h14 l315 l416 l617 σ18 h
      have h := (hKQ _ _).mp h
      refine g_aload_n (pc := 147) C 0 0 dX2_hoursTo_147 rfl rfl ?_
      refine g_iload_n (pc := 148) C 3 1 dX2_hoursTo_148 rfl rfl ?_
      refine g_iload (pc := 149) C 3 dX2_hoursTo_149 rfl ?_
      refine g_iconst (v := 1) (pc := 151) C dX2_hoursTo_151 (by decide) ?_
      refine g_iadd (pc := 152) C dX2_hoursTo_152 ?_
      obtain ⟨u19, hvu19, h⟩ := zbind h
      obtain ⟨v21, σ20, hvσ20, h⟩ := zcb h
      refine g_callV (pc := 153) (av := [tI (l315), tI (l617 + 1)]) C (c_X2_keepThoseThatComeTo hE hvσ20) yv_X2_keepThoseThatComeTo ml_X2_67 ck_2 (zopt hvu19).1 rfl (rf_of (by decide)) rfl (Nat.le_of_ble_eq_true rfl) dX2_hoursTo_153 ?_
      refine g_aload_n (pc := 156) C 0 0 dX2_hoursTo_156 rfl rfl ?_
      refine g_iload (pc := 157) C 2 dX2_hoursTo_157 rfl ?_
      refine g_iload (pc := 159) C 3 dX2_hoursTo_159 rfl ?_
      refine g_iconst (v := 1) (pc := 161) C dX2_hoursTo_161 (by decide) ?_
      refine g_iadd (pc := 162) C dX2_hoursTo_162 ?_
      obtain ⟨u22, hvu22, h⟩ := zbind h
      obtain ⟨v24, σ23, hvσ23, h⟩ := zcb h
      refine g_callV (pc := 163) (av := [tI (l416), tI (l617 + 1)]) C (c_X2_drawWay hE hvσ23) yv_X2_drawWay ml_X2_71 ck_2 (zopt hvu22).1 rfl (rf_of (by decide)) rfl (Nat.le_of_ble_eq_true rfl) dX2_hoursTo_163 ?_
      refine g_iload (pc := 166) C 3 dX2_hoursTo_166 rfl ?_
      refine g_iconst (v := 1) (pc := 168) C dX2_hoursTo_168 (by decide) ?_
      refine g_iadd (pc := 169) C dX2_hoursTo_169 ?_
      obtain ⟨rfl, rfl⟩ := zsome h
      exact g_iret (pc := 170) C rfl hx (by rw [hxn]; rfl) (by rw [hxn]; rfl) dX2_hoursTo_170
    · intro r26 σ25 h
      have h := (hKQ _ _).mp h
      obtain ⟨rfl, rfl⟩ := zsome h
      exact hx
  · have h := zif_t c29 h
    refine g_iconst (v := 0) (pc := 14) C dX2_hoursTo_14 (by decide) ?_
    obtain ⟨rfl, rfl⟩ := zsome h
    exact g_iret (pc := 15) C rfl hx (by rw [hxn]; rfl) (by rw [hxn]; rfl) dX2_hoursTo_15
def rm_X3_all : Room := { frames := 0, cells := 0, slots := 0, locals := 0 }
noncomputable def s_X3_all (h0 : Nat) (σ : Hp) : Option (Int32 × Hp) :=
  (rdI 3 σ h0 3).bind fun v1 =>
  some ((((1 : Int32) <<< (v1 &&& 31)) - 1), σ)
set_option maxRecDepth 100000 in
theorem c_X3_all {E : E0} (hE : EOK E) {h0 : Nat} {σ σ1 : Hp} {r : Int32} (h : s_X3_all h0 σ = some (r, σ1)) : CT E yX3_all (.code yX3_all cX3_all 1 (some .int)) rm_X3_all [tR (some (h0))] σ (some (tI r)) σ1 := by
  refine CT.mk hE (by decide +kernel) (Nat.le_of_ble_eq_true rfl) [(0, tR (some (h0)))] rfl (fun X C hin hx hxn => ?_)
  have C : XOK E X cX3_all RX3 1 (some .int) rm_X3_all := C
  unfold s_X3_all at h
  refine g_iconst (v := 1) (pc := 0) C dX3_all_0 (by decide) ?_
  refine g_aload_n (pc := 1) C 0 0 dX3_all_1 rfl rfl ?_
  obtain ⟨v1, hvv1, h⟩ := zbind h
  refine g_getI (N := 4) (pc := 2) C ck_3 hvv1 rfl rfl fl_X3_21 dX3_all_2 ?_
  refine g_ishl (pc := 5) C dX3_all_5 ?_
  refine g_iconst (v := 1) (pc := 6) C dX3_all_6 (by decide) ?_
  refine g_isub (pc := 7) C dX3_all_7 ?_
  obtain ⟨rfl, rfl⟩ := zsome h
  exact g_iret (pc := 8) C rfl hx (by rw [hxn]; rfl) (by rw [hxn]; rfl) dX3_all_8
def rm_J6_bitCount_0f7a4 : Room := { frames := 0, cells := 0, slots := 0, locals := 0 }
noncomputable def s_J6_bitCount_0f7a4 (p0 : Int32) (σ : Hp) : Option (Int32 × Hp) :=
  some (((((((((p0 - ((((p0 : Int32).toUInt32 >>> ((1 : Int32).toUInt32 &&& Int32.toUInt32 31)).toInt32) &&& 1431655765)) &&& 858993459) + ((((p0 - ((((p0 : Int32).toUInt32 >>> ((1 : Int32).toUInt32 &&& Int32.toUInt32 31)).toInt32) &&& 1431655765) : Int32).toUInt32 >>> ((2 : Int32).toUInt32 &&& Int32.toUInt32 31)).toInt32) &&& 858993459)) + (((((p0 - ((((p0 : Int32).toUInt32 >>> ((1 : Int32).toUInt32 &&& Int32.toUInt32 31)).toInt32) &&& 1431655765)) &&& 858993459) + ((((p0 - ((((p0 : Int32).toUInt32 >>> ((1 : Int32).toUInt32 &&& Int32.toUInt32 31)).toInt32) &&& 1431655765) : Int32).toUInt32 >>> ((2 : Int32).toUInt32 &&& Int32.toUInt32 31)).toInt32) &&& 858993459) : Int32).toUInt32 >>> ((4 : Int32).toUInt32 &&& Int32.toUInt32 31)).toInt32)) &&& 252645135) + (((((((p0 - ((((p0 : Int32).toUInt32 >>> ((1 : Int32).toUInt32 &&& Int32.toUInt32 31)).toInt32) &&& 1431655765)) &&& 858993459) + ((((p0 - ((((p0 : Int32).toUInt32 >>> ((1 : Int32).toUInt32 &&& Int32.toUInt32 31)).toInt32) &&& 1431655765) : Int32).toUInt32 >>> ((2 : Int32).toUInt32 &&& Int32.toUInt32 31)).toInt32) &&& 858993459)) + (((((p0 - ((((p0 : Int32).toUInt32 >>> ((1 : Int32).toUInt32 &&& Int32.toUInt32 31)).toInt32) &&& 1431655765)) &&& 858993459) + ((((p0 - ((((p0 : Int32).toUInt32 >>> ((1 : Int32).toUInt32 &&& Int32.toUInt32 31)).toInt32) &&& 1431655765) : Int32).toUInt32 >>> ((2 : Int32).toUInt32 &&& Int32.toUInt32 31)).toInt32) &&& 858993459) : Int32).toUInt32 >>> ((4 : Int32).toUInt32 &&& Int32.toUInt32 31)).toInt32)) &&& 252645135 : Int32).toUInt32 >>> ((8 : Int32).toUInt32 &&& Int32.toUInt32 31)).toInt32)) + ((((((((p0 - ((((p0 : Int32).toUInt32 >>> ((1 : Int32).toUInt32 &&& Int32.toUInt32 31)).toInt32) &&& 1431655765)) &&& 858993459) + ((((p0 - ((((p0 : Int32).toUInt32 >>> ((1 : Int32).toUInt32 &&& Int32.toUInt32 31)).toInt32) &&& 1431655765) : Int32).toUInt32 >>> ((2 : Int32).toUInt32 &&& Int32.toUInt32 31)).toInt32) &&& 858993459)) + (((((p0 - ((((p0 : Int32).toUInt32 >>> ((1 : Int32).toUInt32 &&& Int32.toUInt32 31)).toInt32) &&& 1431655765)) &&& 858993459) + ((((p0 - ((((p0 : Int32).toUInt32 >>> ((1 : Int32).toUInt32 &&& Int32.toUInt32 31)).toInt32) &&& 1431655765) : Int32).toUInt32 >>> ((2 : Int32).toUInt32 &&& Int32.toUInt32 31)).toInt32) &&& 858993459) : Int32).toUInt32 >>> ((4 : Int32).toUInt32 &&& Int32.toUInt32 31)).toInt32)) &&& 252645135) + (((((((p0 - ((((p0 : Int32).toUInt32 >>> ((1 : Int32).toUInt32 &&& Int32.toUInt32 31)).toInt32) &&& 1431655765)) &&& 858993459) + ((((p0 - ((((p0 : Int32).toUInt32 >>> ((1 : Int32).toUInt32 &&& Int32.toUInt32 31)).toInt32) &&& 1431655765) : Int32).toUInt32 >>> ((2 : Int32).toUInt32 &&& Int32.toUInt32 31)).toInt32) &&& 858993459)) + (((((p0 - ((((p0 : Int32).toUInt32 >>> ((1 : Int32).toUInt32 &&& Int32.toUInt32 31)).toInt32) &&& 1431655765)) &&& 858993459) + ((((p0 - ((((p0 : Int32).toUInt32 >>> ((1 : Int32).toUInt32 &&& Int32.toUInt32 31)).toInt32) &&& 1431655765) : Int32).toUInt32 >>> ((2 : Int32).toUInt32 &&& Int32.toUInt32 31)).toInt32) &&& 858993459) : Int32).toUInt32 >>> ((4 : Int32).toUInt32 &&& Int32.toUInt32 31)).toInt32)) &&& 252645135 : Int32).toUInt32 >>> ((8 : Int32).toUInt32 &&& Int32.toUInt32 31)).toInt32) : Int32).toUInt32 >>> ((16 : Int32).toUInt32 &&& Int32.toUInt32 31)).toInt32)) &&& 63), σ)
set_option maxRecDepth 100000 in
theorem c_J6_bitCount_0f7a4 {E : E0} (hE : EOK E) {p0 : Int32} {σ σ1 : Hp} {r : Int32} (h : s_J6_bitCount_0f7a4 p0 σ = some (r, σ1)) : CT E yJ6_bitCount_0f7a4 (.code yJ6_bitCount_0f7a4 cJ6_bitCount_0f7a4 1 (some .int)) rm_J6_bitCount_0f7a4 [tI (p0)] σ (some (tI r)) σ1 := by
  refine CT.mk hE (by decide +kernel) (Nat.le_of_ble_eq_true rfl) [(0, tI (p0))] rfl (fun X C hin hx hxn => ?_)
  have C : XOK E X cJ6_bitCount_0f7a4 RJ6 1 (some .int) rm_J6_bitCount_0f7a4 := C
  unfold s_J6_bitCount_0f7a4 at h
  refine g_iload_n (pc := 0) C 0 0 dJ6_bitCount_0f7a4_0 rfl rfl ?_
  refine g_iload_n (pc := 1) C 0 0 dJ6_bitCount_0f7a4_1 rfl rfl ?_
  refine g_iconst (v := 1) (pc := 2) C dJ6_bitCount_0f7a4_2 (by decide) ?_
  refine g_iushr (pc := 3) C dJ6_bitCount_0f7a4_3 ?_
  refine g_ldcw (v := 1431655765) (pc := 4) C dJ6_bitCount_0f7a4_4 kc_J6_265 ?_
  refine g_iand (pc := 7) C dJ6_bitCount_0f7a4_7 ?_
  refine g_isub (pc := 8) C dJ6_bitCount_0f7a4_8 ?_
  refine g_istore_n (lm' := [(0, tI (p0 - ((((p0 : Int32).toUInt32 >>> ((1 : Int32).toUInt32 &&& Int32.toUInt32 31)).toInt32) &&& 1431655765)))]) (pc := 9) C 0 dJ6_bitCount_0f7a4_9 rfl (by decide) rfl ?_
  refine g_iload_n (pc := 10) C 0 0 dJ6_bitCount_0f7a4_10 rfl rfl ?_
  refine g_ldcw (v := 858993459) (pc := 11) C dJ6_bitCount_0f7a4_11 kc_J6_266 ?_
  refine g_iand (pc := 14) C dJ6_bitCount_0f7a4_14 ?_
  refine g_iload_n (pc := 15) C 0 0 dJ6_bitCount_0f7a4_15 rfl rfl ?_
  refine g_iconst (v := 2) (pc := 16) C dJ6_bitCount_0f7a4_16 (by decide) ?_
  refine g_iushr (pc := 17) C dJ6_bitCount_0f7a4_17 ?_
  refine g_ldcw (v := 858993459) (pc := 18) C dJ6_bitCount_0f7a4_18 kc_J6_266 ?_
  refine g_iand (pc := 21) C dJ6_bitCount_0f7a4_21 ?_
  refine g_iadd (pc := 22) C dJ6_bitCount_0f7a4_22 ?_
  refine g_istore_n (lm' := [(0, tI (((p0 - ((((p0 : Int32).toUInt32 >>> ((1 : Int32).toUInt32 &&& Int32.toUInt32 31)).toInt32) &&& 1431655765)) &&& 858993459) + ((((p0 - ((((p0 : Int32).toUInt32 >>> ((1 : Int32).toUInt32 &&& Int32.toUInt32 31)).toInt32) &&& 1431655765) : Int32).toUInt32 >>> ((2 : Int32).toUInt32 &&& Int32.toUInt32 31)).toInt32) &&& 858993459)))]) (pc := 23) C 0 dJ6_bitCount_0f7a4_23 rfl (by decide) rfl ?_
  refine g_iload_n (pc := 24) C 0 0 dJ6_bitCount_0f7a4_24 rfl rfl ?_
  refine g_iload_n (pc := 25) C 0 0 dJ6_bitCount_0f7a4_25 rfl rfl ?_
  refine g_iconst (v := 4) (pc := 26) C dJ6_bitCount_0f7a4_26 (by decide) ?_
  refine g_iushr (pc := 27) C dJ6_bitCount_0f7a4_27 ?_
  refine g_iadd (pc := 28) C dJ6_bitCount_0f7a4_28 ?_
  refine g_ldcw (v := 252645135) (pc := 29) C dJ6_bitCount_0f7a4_29 kc_J6_267 ?_
  refine g_iand (pc := 32) C dJ6_bitCount_0f7a4_32 ?_
  refine g_istore_n (lm' := [(0, tI (((((p0 - ((((p0 : Int32).toUInt32 >>> ((1 : Int32).toUInt32 &&& Int32.toUInt32 31)).toInt32) &&& 1431655765)) &&& 858993459) + ((((p0 - ((((p0 : Int32).toUInt32 >>> ((1 : Int32).toUInt32 &&& Int32.toUInt32 31)).toInt32) &&& 1431655765) : Int32).toUInt32 >>> ((2 : Int32).toUInt32 &&& Int32.toUInt32 31)).toInt32) &&& 858993459)) + (((((p0 - ((((p0 : Int32).toUInt32 >>> ((1 : Int32).toUInt32 &&& Int32.toUInt32 31)).toInt32) &&& 1431655765)) &&& 858993459) + ((((p0 - ((((p0 : Int32).toUInt32 >>> ((1 : Int32).toUInt32 &&& Int32.toUInt32 31)).toInt32) &&& 1431655765) : Int32).toUInt32 >>> ((2 : Int32).toUInt32 &&& Int32.toUInt32 31)).toInt32) &&& 858993459) : Int32).toUInt32 >>> ((4 : Int32).toUInt32 &&& Int32.toUInt32 31)).toInt32)) &&& 252645135))]) (pc := 33) C 0 dJ6_bitCount_0f7a4_33 rfl (by decide) rfl ?_
  refine g_iload_n (pc := 34) C 0 0 dJ6_bitCount_0f7a4_34 rfl rfl ?_
  refine g_iload_n (pc := 35) C 0 0 dJ6_bitCount_0f7a4_35 rfl rfl ?_
  refine g_bipush (v := 8) (pc := 36) C dJ6_bitCount_0f7a4_36 (by decide) ?_
  refine g_iushr (pc := 38) C dJ6_bitCount_0f7a4_38 ?_
  refine g_iadd (pc := 39) C dJ6_bitCount_0f7a4_39 ?_
  refine g_istore_n (lm' := [(0, tI ((((((p0 - ((((p0 : Int32).toUInt32 >>> ((1 : Int32).toUInt32 &&& Int32.toUInt32 31)).toInt32) &&& 1431655765)) &&& 858993459) + ((((p0 - ((((p0 : Int32).toUInt32 >>> ((1 : Int32).toUInt32 &&& Int32.toUInt32 31)).toInt32) &&& 1431655765) : Int32).toUInt32 >>> ((2 : Int32).toUInt32 &&& Int32.toUInt32 31)).toInt32) &&& 858993459)) + (((((p0 - ((((p0 : Int32).toUInt32 >>> ((1 : Int32).toUInt32 &&& Int32.toUInt32 31)).toInt32) &&& 1431655765)) &&& 858993459) + ((((p0 - ((((p0 : Int32).toUInt32 >>> ((1 : Int32).toUInt32 &&& Int32.toUInt32 31)).toInt32) &&& 1431655765) : Int32).toUInt32 >>> ((2 : Int32).toUInt32 &&& Int32.toUInt32 31)).toInt32) &&& 858993459) : Int32).toUInt32 >>> ((4 : Int32).toUInt32 &&& Int32.toUInt32 31)).toInt32)) &&& 252645135) + (((((((p0 - ((((p0 : Int32).toUInt32 >>> ((1 : Int32).toUInt32 &&& Int32.toUInt32 31)).toInt32) &&& 1431655765)) &&& 858993459) + ((((p0 - ((((p0 : Int32).toUInt32 >>> ((1 : Int32).toUInt32 &&& Int32.toUInt32 31)).toInt32) &&& 1431655765) : Int32).toUInt32 >>> ((2 : Int32).toUInt32 &&& Int32.toUInt32 31)).toInt32) &&& 858993459)) + (((((p0 - ((((p0 : Int32).toUInt32 >>> ((1 : Int32).toUInt32 &&& Int32.toUInt32 31)).toInt32) &&& 1431655765)) &&& 858993459) + ((((p0 - ((((p0 : Int32).toUInt32 >>> ((1 : Int32).toUInt32 &&& Int32.toUInt32 31)).toInt32) &&& 1431655765) : Int32).toUInt32 >>> ((2 : Int32).toUInt32 &&& Int32.toUInt32 31)).toInt32) &&& 858993459) : Int32).toUInt32 >>> ((4 : Int32).toUInt32 &&& Int32.toUInt32 31)).toInt32)) &&& 252645135 : Int32).toUInt32 >>> ((8 : Int32).toUInt32 &&& Int32.toUInt32 31)).toInt32)))]) (pc := 40) C 0 dJ6_bitCount_0f7a4_40 rfl (by decide) rfl ?_
  refine g_iload_n (pc := 41) C 0 0 dJ6_bitCount_0f7a4_41 rfl rfl ?_
  refine g_iload_n (pc := 42) C 0 0 dJ6_bitCount_0f7a4_42 rfl rfl ?_
  refine g_bipush (v := 16) (pc := 43) C dJ6_bitCount_0f7a4_43 (by decide) ?_
  refine g_iushr (pc := 45) C dJ6_bitCount_0f7a4_45 ?_
  refine g_iadd (pc := 46) C dJ6_bitCount_0f7a4_46 ?_
  refine g_istore_n (lm' := [(0, tI (((((((p0 - ((((p0 : Int32).toUInt32 >>> ((1 : Int32).toUInt32 &&& Int32.toUInt32 31)).toInt32) &&& 1431655765)) &&& 858993459) + ((((p0 - ((((p0 : Int32).toUInt32 >>> ((1 : Int32).toUInt32 &&& Int32.toUInt32 31)).toInt32) &&& 1431655765) : Int32).toUInt32 >>> ((2 : Int32).toUInt32 &&& Int32.toUInt32 31)).toInt32) &&& 858993459)) + (((((p0 - ((((p0 : Int32).toUInt32 >>> ((1 : Int32).toUInt32 &&& Int32.toUInt32 31)).toInt32) &&& 1431655765)) &&& 858993459) + ((((p0 - ((((p0 : Int32).toUInt32 >>> ((1 : Int32).toUInt32 &&& Int32.toUInt32 31)).toInt32) &&& 1431655765) : Int32).toUInt32 >>> ((2 : Int32).toUInt32 &&& Int32.toUInt32 31)).toInt32) &&& 858993459) : Int32).toUInt32 >>> ((4 : Int32).toUInt32 &&& Int32.toUInt32 31)).toInt32)) &&& 252645135) + (((((((p0 - ((((p0 : Int32).toUInt32 >>> ((1 : Int32).toUInt32 &&& Int32.toUInt32 31)).toInt32) &&& 1431655765)) &&& 858993459) + ((((p0 - ((((p0 : Int32).toUInt32 >>> ((1 : Int32).toUInt32 &&& Int32.toUInt32 31)).toInt32) &&& 1431655765) : Int32).toUInt32 >>> ((2 : Int32).toUInt32 &&& Int32.toUInt32 31)).toInt32) &&& 858993459)) + (((((p0 - ((((p0 : Int32).toUInt32 >>> ((1 : Int32).toUInt32 &&& Int32.toUInt32 31)).toInt32) &&& 1431655765)) &&& 858993459) + ((((p0 - ((((p0 : Int32).toUInt32 >>> ((1 : Int32).toUInt32 &&& Int32.toUInt32 31)).toInt32) &&& 1431655765) : Int32).toUInt32 >>> ((2 : Int32).toUInt32 &&& Int32.toUInt32 31)).toInt32) &&& 858993459) : Int32).toUInt32 >>> ((4 : Int32).toUInt32 &&& Int32.toUInt32 31)).toInt32)) &&& 252645135 : Int32).toUInt32 >>> ((8 : Int32).toUInt32 &&& Int32.toUInt32 31)).toInt32)) + ((((((((p0 - ((((p0 : Int32).toUInt32 >>> ((1 : Int32).toUInt32 &&& Int32.toUInt32 31)).toInt32) &&& 1431655765)) &&& 858993459) + ((((p0 - ((((p0 : Int32).toUInt32 >>> ((1 : Int32).toUInt32 &&& Int32.toUInt32 31)).toInt32) &&& 1431655765) : Int32).toUInt32 >>> ((2 : Int32).toUInt32 &&& Int32.toUInt32 31)).toInt32) &&& 858993459)) + (((((p0 - ((((p0 : Int32).toUInt32 >>> ((1 : Int32).toUInt32 &&& Int32.toUInt32 31)).toInt32) &&& 1431655765)) &&& 858993459) + ((((p0 - ((((p0 : Int32).toUInt32 >>> ((1 : Int32).toUInt32 &&& Int32.toUInt32 31)).toInt32) &&& 1431655765) : Int32).toUInt32 >>> ((2 : Int32).toUInt32 &&& Int32.toUInt32 31)).toInt32) &&& 858993459) : Int32).toUInt32 >>> ((4 : Int32).toUInt32 &&& Int32.toUInt32 31)).toInt32)) &&& 252645135) + (((((((p0 - ((((p0 : Int32).toUInt32 >>> ((1 : Int32).toUInt32 &&& Int32.toUInt32 31)).toInt32) &&& 1431655765)) &&& 858993459) + ((((p0 - ((((p0 : Int32).toUInt32 >>> ((1 : Int32).toUInt32 &&& Int32.toUInt32 31)).toInt32) &&& 1431655765) : Int32).toUInt32 >>> ((2 : Int32).toUInt32 &&& Int32.toUInt32 31)).toInt32) &&& 858993459)) + (((((p0 - ((((p0 : Int32).toUInt32 >>> ((1 : Int32).toUInt32 &&& Int32.toUInt32 31)).toInt32) &&& 1431655765)) &&& 858993459) + ((((p0 - ((((p0 : Int32).toUInt32 >>> ((1 : Int32).toUInt32 &&& Int32.toUInt32 31)).toInt32) &&& 1431655765) : Int32).toUInt32 >>> ((2 : Int32).toUInt32 &&& Int32.toUInt32 31)).toInt32) &&& 858993459) : Int32).toUInt32 >>> ((4 : Int32).toUInt32 &&& Int32.toUInt32 31)).toInt32)) &&& 252645135 : Int32).toUInt32 >>> ((8 : Int32).toUInt32 &&& Int32.toUInt32 31)).toInt32) : Int32).toUInt32 >>> ((16 : Int32).toUInt32 &&& Int32.toUInt32 31)).toInt32)))]) (pc := 47) C 0 dJ6_bitCount_0f7a4_47 rfl (by decide) rfl ?_
  refine g_iload_n (pc := 48) C 0 0 dJ6_bitCount_0f7a4_48 rfl rfl ?_
  refine g_bipush (v := 63) (pc := 49) C dJ6_bitCount_0f7a4_49 (by decide) ?_
  refine g_iand (pc := 51) C dJ6_bitCount_0f7a4_51 ?_
  obtain ⟨rfl, rfl⟩ := zsome h
  exact g_iret (pc := 52) C rfl hx (by rw [hxn]; rfl) (by rw [hxn]; rfl) dJ6_bitCount_0f7a4_52
def rm_X2_fewestBetween : Room := { frames := 5, cells := 0, slots := 0, locals := 130 }
noncomputable def s_X2_fewestBetween_j119 (h0 : Nat) (l3 : Int32) (l5 : Int32) (l6 : Int32) (l7 : Int32) (l8 : Int32) (l9 : Int32) (σ : Hp) : Option (((Nat × Int32 × Int32 × Int32 × Int32 × Int32 × Int32) ⊕ (Int32)) × Hp) :=
  some (Sum.inl ((h0), (l3), (l5), (l6), (l7), (l8), (l9 + 1)), σ)
set_option maxRecDepth 100000 in
theorem w_X2_fewestBetween_j119 {E : E0} (hE : EOK E) {X : X0} (C : XOK E X cX2_fewestBetween RX2 10 (some .int) rm_X2_fewestBetween) (hxn : xn X = (rm_X2_fewestBetween.cells, rm_X2_fewestBetween.slots)) {KE : (Int32) → Hp → Prop} (e_ret : ∀ (r : Int32) (σ : Hp), KE (r) σ → xd X = (some (tI r), σ)) (h0 : Nat) (l3 : Int32) (l5 : Int32) (l6 : Int32) (l7 : Int32) (l8 : Int32) (l9 : Int32) (σ : Hp) (x : (Nat × Int32 × Int32 × Int32 × Int32 × Int32 × Int32) ⊕ (Int32)) (σ1 : Hp) (h : s_X2_fewestBetween_j119 h0 l3 l5 l6 l7 l8 l9 σ = some (x, σ1)) (hI : ∀ v, x = Sum.inl v → (fun (v : Nat × Int32 × Int32 × Int32 × Int32 × Int32 × Int32) (σ : Hp) => G E X 0 0 60 [(0, tR (some ((v.1)))), (3, tI ((v.2.1))), (5, tI ((v.2.2.1))), (6, tI ((v.2.2.2.1))), (7, tI ((v.2.2.2.2.1))), (8, tI ((v.2.2.2.2.2.1))), (9, tI ((v.2.2.2.2.2.2)))] [] σ) v σ1) (hO : ∀ e, x = Sum.inr e → KE e σ1) : G E X 0 0 119 [(0, tR (some (h0))), (3, tI (l3)), (5, tI (l5)), (6, tI (l6)), (7, tI (l7)), (8, tI (l8)), (9, tI (l9))] [] σ := by
  unfold s_X2_fewestBetween_j119 at h
  refine g_iinc (lm' := [(9, tI (l9 + 1)), (0, tR (some (h0))), (3, tI (l3)), (5, tI (l5)), (6, tI (l6)), (7, tI (l7)), (8, tI (l8))]) (v := l9 + 1) (pc := 119) C 6 dX2_fewestBetween_119 rfl rfl (by decide) rfl ?_
  refine g_goto (pc := 122) C 60 dX2_fewestBetween_122 (by decide) ?_
  refine g_sub [1, 2, 3, 4, 5, 6, 0] (lm' := [(0, tR (some (h0))), (3, tI (l3)), (5, tI (l5)), (6, tI (l6)), (7, tI (l7)), (8, tI (l8)), (9, tI (l9 + 1))]) rfl ?_
  obtain ⟨rfl, rfl⟩ := zsome h
  exact hI _ rfl
noncomputable def s_X2_fewestBetween_b60 (h0 : Nat) (l3 : Int32) (l5 : Int32) (l6 : Int32) (l7 : Int32) (l8 : Int32) (l9 : Int32) (σ : Hp) : Option (((Nat × Int32 × Int32 × Int32 × Int32 × Int32 × Int32) ⊕ (Int32)) × Hp) :=
  if l7 ≤ l9 then
    some (Sum.inr (l8), σ)
  else
    if (l9 &&& (l7 ^^^ (-1))) = 0 then
      cb (s_J6_bitCount_0f7a4 (l9) σ) fun v2 σ1 =>
      cb (s_J6_bitCount_0f7a4 (l8) σ1) fun v4 σ3 =>
      if v2 < v4 then
        (ck 2 σ3 h0).bind fun u5 =>
        cb (s_X2_reached h0 (l6) (10) (l5 &&& (l9 ^^^ (-1))) σ3) fun v7 σ6 =>
        cb (s_X8_hasBit (v7) (l3) σ6) fun v9 σ8 =>
        if v9 = 0 then
          s_X2_fewestBetween_j119 (h0) (l3) (l5) (l6) (l7) (l9) (l9) σ8
        else
          s_X2_fewestBetween_j119 (h0) (l3) (l5) (l6) (l7) (l8) (l9) σ8
      else
        s_X2_fewestBetween_j119 (h0) (l3) (l5) (l6) (l7) (l8) (l9) σ3
    else
      s_X2_fewestBetween_j119 (h0) (l3) (l5) (l6) (l7) (l8) (l9) σ
noncomputable def s_X2_fewestBetween_l60 : (Nat × Int32 × Int32 × Int32 × Int32 × Int32 × Int32) → Hp → Option ((Int32) × Hp) := loopF (fun v => s_X2_fewestBetween_b60 (v.1) (v.2.1) (v.2.2.1) (v.2.2.2.1) (v.2.2.2.2.1) (v.2.2.2.2.2.1) (v.2.2.2.2.2.2))
set_option maxRecDepth 100000 in
theorem w_X2_fewestBetween_b60 {E : E0} (hE : EOK E) {X : X0} (C : XOK E X cX2_fewestBetween RX2 10 (some .int) rm_X2_fewestBetween) (hxn : xn X = (rm_X2_fewestBetween.cells, rm_X2_fewestBetween.slots)) {KE : (Int32) → Hp → Prop} (e_ret : ∀ (r : Int32) (σ : Hp), KE (r) σ → xd X = (some (tI r), σ)) (h0 : Nat) (l3 : Int32) (l5 : Int32) (l6 : Int32) (l7 : Int32) (l8 : Int32) (l9 : Int32) (σ : Hp) (x : (Nat × Int32 × Int32 × Int32 × Int32 × Int32 × Int32) ⊕ (Int32)) (σ1 : Hp) (h : s_X2_fewestBetween_b60 h0 l3 l5 l6 l7 l8 l9 σ = some (x, σ1)) (hI : ∀ v, x = Sum.inl v → (fun (v : Nat × Int32 × Int32 × Int32 × Int32 × Int32 × Int32) (σ : Hp) => G E X 0 0 60 [(0, tR (some ((v.1)))), (3, tI ((v.2.1))), (5, tI ((v.2.2.1))), (6, tI ((v.2.2.2.1))), (7, tI ((v.2.2.2.2.1))), (8, tI ((v.2.2.2.2.2.1))), (9, tI ((v.2.2.2.2.2.2)))] [] σ) v σ1) (hO : ∀ e, x = Sum.inr e → KE e σ1) : G E X 0 0 60 [(0, tR (some (h0))), (3, tI (l3)), (5, tI (l5)), (6, tI (l6)), (7, tI (l7)), (8, tI (l8)), (9, tI (l9))] [] σ := by
  unfold s_X2_fewestBetween_b60 at h
  refine g_iload (pc := 60) C 6 dX2_fewestBetween_60 rfl ?_
  refine g_iload (pc := 62) C 4 dX2_fewestBetween_62 rfl ?_
  refine g_icmp_ge (pc := 64) C 125 dX2_fewestBetween_64 (by decide) (fun c13 => ?_) (fun c13 => ?_)
  · have h := zif_t c13 h
    refine g_iload (pc := 125) C 5 dX2_fewestBetween_125 rfl ?_
    obtain ⟨rfl, rfl⟩ := zsome h
    exact g_iret (pc := 127) C rfl (e_ret _ _ (hO _ rfl)) (by rw [hxn]; rfl) (by rw [hxn]; rfl) dX2_fewestBetween_127
  · have h := zif_f c13 h
    refine g_iload (pc := 67) C 6 dX2_fewestBetween_67 rfl ?_
    refine g_iload (pc := 69) C 4 dX2_fewestBetween_69 rfl ?_
    refine g_iconst (v := (-1)) (pc := 71) C dX2_fewestBetween_71 (by decide) ?_
    refine g_ixor (pc := 72) C dX2_fewestBetween_72 ?_
    refine g_iand (pc := 73) C dX2_fewestBetween_73 ?_
    refine g_if_ne (pc := 74) C 119 dX2_fewestBetween_74 (by decide) (fun c12 => ?_) (fun c12 => ?_)
    · have h := zif_f c12 h
      exact w_X2_fewestBetween_j119 hE C hxn e_ret _ _ _ _ _ _ _ _ _ _ h hI hO
    · have h := zif_t c12 h
      refine g_iload (pc := 77) C 6 dX2_fewestBetween_77 rfl ?_
      obtain ⟨v2, σ1, hvσ1, h⟩ := zcb h
      refine g_callS (pc := 79) (av := [tI (l9)]) C (c_J6_bitCount_0f7a4 hE hvσ1) ys_J6_bitCount_0f7a4 ml_X2_87 rfl (rf_of (by decide)) rfl (Nat.le_of_ble_eq_true rfl) dX2_fewestBetween_79 ?_
      refine g_iload (pc := 82) C 5 dX2_fewestBetween_82 rfl ?_
      obtain ⟨v4, σ3, hvσ3, h⟩ := zcb h
      refine g_callS (pc := 84) (av := [tI (l8)]) C (c_J6_bitCount_0f7a4 hE hvσ3) ys_J6_bitCount_0f7a4 ml_X2_87 rfl (rf_of (by decide)) rfl (Nat.le_of_ble_eq_true rfl) dX2_fewestBetween_84 ?_
      refine g_icmp_lt (pc := 87) C 93 dX2_fewestBetween_87 (by decide) (fun c11 => ?_) (fun c11 => ?_)
      · have h := zif_t c11 h
        refine g_aload_n (pc := 93) C 0 0 dX2_fewestBetween_93 rfl rfl ?_
        refine g_iload (pc := 94) C 3 dX2_fewestBetween_94 rfl ?_
        refine g_bipush (v := 10) (pc := 96) C dX2_fewestBetween_96 (by decide) ?_
        refine g_iload (pc := 98) C 2 dX2_fewestBetween_98 rfl ?_
        refine g_iload (pc := 100) C 6 dX2_fewestBetween_100 rfl ?_
        refine g_iconst (v := (-1)) (pc := 102) C dX2_fewestBetween_102 (by decide) ?_
        refine g_ixor (pc := 103) C dX2_fewestBetween_103 ?_
        refine g_iand (pc := 104) C dX2_fewestBetween_104 ?_
        obtain ⟨u5, hvu5, h⟩ := zbind h
        obtain ⟨v7, σ6, hvσ6, h⟩ := zcb h
        refine g_callV (pc := 105) (av := [tI (l6), tI (10), tI (l5 &&& (l9 ^^^ (-1)))]) C (c_X2_reached hE hvσ6) yv_X2_reached ml_X2_92 ck_2 (zopt hvu5).1 rfl (rf_of (by decide)) rfl (Nat.le_of_ble_eq_true rfl) dX2_fewestBetween_105 ?_
        refine g_iload_n (pc := 108) C 3 1 dX2_fewestBetween_108 rfl rfl ?_
        obtain ⟨v9, σ8, hvσ8, h⟩ := zcb h
        refine g_callSN (pc := 109) (av := [tI (v7), tI (l3)]) C (c_X8_hasBit hE hvσ8) ys_X8_hasBit ml_X2_42 rfl (rf_of (by decide)) rfl (Nat.le_of_ble_eq_true rfl) dX2_fewestBetween_109 ?_
        refine g_if_ne (pc := 112) C 119 dX2_fewestBetween_112 (by decide) (fun c10 => ?_) (fun c10 => ?_)
        · have h := zif_f c10 h
          exact w_X2_fewestBetween_j119 hE C hxn e_ret _ _ _ _ _ _ _ _ _ _ h hI hO
        · have h := zif_t c10 h
          refine g_iload (pc := 115) C 6 dX2_fewestBetween_115 rfl ?_
          refine g_istore (lm' := [(8, tI (l9)), (0, tR (some (h0))), (3, tI (l3)), (5, tI (l5)), (6, tI (l6)), (7, tI (l7)), (9, tI (l9))]) (pc := 117) C dX2_fewestBetween_117 (by decide) rfl ?_
          refine g_sub [1, 2, 3, 4, 5, 0, 6] (lm' := [(0, tR (some (h0))), (3, tI (l3)), (5, tI (l5)), (6, tI (l6)), (7, tI (l7)), (8, tI (l9)), (9, tI (l9))]) rfl ?_
          exact w_X2_fewestBetween_j119 hE C hxn e_ret _ _ _ _ _ _ _ _ _ _ h hI hO
      · have h := zif_f c11 h
        refine g_goto (pc := 90) C 119 dX2_fewestBetween_90 (by decide) ?_
        exact w_X2_fewestBetween_j119 hE C hxn e_ret _ _ _ _ _ _ _ _ _ _ h hI hO
theorem w_X2_fewestBetween_l60 {E : E0} (hE : EOK E) {X : X0} (C : XOK E X cX2_fewestBetween RX2 10 (some .int) rm_X2_fewestBetween) (hxn : xn X = (rm_X2_fewestBetween.cells, rm_X2_fewestBetween.slots)) {KE : (Int32) → Hp → Prop} (e_ret : ∀ (r : Int32) (σ : Hp), KE (r) σ → xd X = (some (tI r), σ)) {v : Nat × Int32 × Int32 × Int32 × Int32 × Int32 × Int32} {σ : Hp} {e : Int32} {σ1 : Hp} (h : s_X2_fewestBetween_l60 v σ = some (e, σ1)) (hO : KE e σ1) : G E X 0 0 60 [(0, tR (some ((v.1)))), (3, tI ((v.2.1))), (5, tI ((v.2.2.1))), (6, tI ((v.2.2.2.1))), (7, tI ((v.2.2.2.2.1))), (8, tI ((v.2.2.2.2.2.1))), (9, tI ((v.2.2.2.2.2.2)))] [] σ := loopF_ind (P := fun (v : Nat × Int32 × Int32 × Int32 × Int32 × Int32 × Int32) (σ : Hp) => G E X 0 0 60 [(0, tR (some ((v.1)))), (3, tI ((v.2.1))), (5, tI ((v.2.2.1))), (6, tI ((v.2.2.2.1))), (7, tI ((v.2.2.2.2.1))), (8, tI ((v.2.2.2.2.2.1))), (9, tI ((v.2.2.2.2.2.2)))] [] σ) (KE := KE) (fun v σ x σ1 h hI hO => w_X2_fewestBetween_b60 hE C hxn e_ret (v.1) (v.2.1) (v.2.2.1) (v.2.2.2.1) (v.2.2.2.2.1) (v.2.2.2.2.2.1) (v.2.2.2.2.2.2) σ x σ1 h hI hO) v σ e σ1 h hO
noncomputable def s_X2_fewestBetween (h0 : Nat) (p1 : Option Nat) (p2 : Int32) (p3 : Int32) (σ : Hp) : Option (Int32 × Hp) :=
  (ck 2 σ h0).bind fun u1 =>
  cb (s_X2_drawSteps h0 (p1) (p2) σ) fun v3 σ2 =>
  (p1).bind fun a4 =>
  (rdR 1 σ2 a4 0).bind fun r5 =>
  (r5).bind fun a6 =>
  (ck 3 σ2 a6).bind fun u7 =>
  cb (s_X3_all a6 σ2) fun v9 σ8 =>
  (rdR 1 σ8 a4 10).bind fun r10 =>
  (r10).bind fun a11 =>
  (ldI 11 σ8 a11 (0)).bind fun v12 =>
  (ck 1 σ8 a4).bind fun u13 =>
  cb (s_X1_unbarred a4 (p2) (v9) (v12) σ8) fun v15 σ14 =>
  (rdR 1 σ14 a4 3).bind fun r16 =>
  (r16).bind fun a17 =>
  (ldI 11 σ14 a17 (p2)).bind fun v18 =>
  cb (s_X2_fewestBetween_l60 ((h0), (p3), (v15), ((1 : Int32) <<< (v18 &&& 31)), (v9 &&& ((((1 : Int32) <<< (v18 &&& 31)) ||| ((1 : Int32) <<< (p3 &&& 31))) ^^^ (-1))), (v9 &&& ((((1 : Int32) <<< (v18 &&& 31)) ||| ((1 : Int32) <<< (p3 &&& 31))) ^^^ (-1))), (0)) σ14) fun r20 σ21 =>
  some (r20, σ21)
set_option maxRecDepth 100000 in
theorem c_X2_fewestBetween {E : E0} (hE : EOK E) {h0 : Nat} {p1 : Option Nat} {p2 : Int32} {p3 : Int32} {σ σ1 : Hp} {r : Int32} (h : s_X2_fewestBetween h0 p1 p2 p3 σ = some (r, σ1)) : CT E yX2_fewestBetween (.code yX2_fewestBetween cX2_fewestBetween 10 (some .int)) rm_X2_fewestBetween [tR (some (h0)), tR (p1), tI (p2), tI (p3)] σ (some (tI r)) σ1 := by
  refine CT.mk hE (by decide +kernel) (Nat.le_of_ble_eq_true rfl) [(0, tR (some (h0))), (1, tR (p1)), (2, tI (p2)), (3, tI (p3))] rfl (fun X C hin hx hxn => ?_)
  have C : XOK E X cX2_fewestBetween RX2 10 (some .int) rm_X2_fewestBetween := C
  unfold s_X2_fewestBetween at h
  refine g_aload_n (pc := 0) C 0 0 dX2_fewestBetween_0 rfl rfl ?_
  refine g_aload_n (pc := 1) C 1 1 dX2_fewestBetween_1 rfl rfl ?_
  refine g_iload_n (pc := 2) C 2 2 dX2_fewestBetween_2 rfl rfl ?_
  obtain ⟨u1, hvu1, h⟩ := zbind h
  obtain ⟨v3, σ2, hvσ2, h⟩ := zcb h
  refine g_callV (pc := 3) (av := [tR (p1), tI (p2)]) C (c_X2_drawSteps hE hvσ2) yv_X2_drawSteps ml_X2_53 ck_2 (zopt hvu1).1 rfl (rf_of (by decide)) rfl (Nat.le_of_ble_eq_true rfl) dX2_fewestBetween_3 ?_
  refine g_aload_n (pc := 6) C 1 1 dX2_fewestBetween_6 rfl rfl ?_
  obtain ⟨a4, hqa4, h9⟩ := zbind h
  clear h
  subst hqa4
  have h := h9
  clear h9
  obtain ⟨r5, hvr5, h⟩ := zbind h
  refine g_getR (N := 20) (pc := 7) C ck_1 hvr5 rfl rfl fl_X2_77 dX2_fewestBetween_7 ?_
  obtain ⟨a6, hqa6, h9⟩ := zbind h
  clear h
  subst hqa6
  have h := h9
  clear h9
  obtain ⟨u7, hvu7, h⟩ := zbind h
  obtain ⟨v9, σ8, hvσ8, h⟩ := zcb h
  refine g_callV (pc := 10) (av := []) C (c_X3_all hE hvσ8) yv_X3_all ml_X2_81 ck_3 (zopt hvu7).1 rfl (rf_of (by decide)) rfl (Nat.le_of_ble_eq_true rfl) dX2_fewestBetween_10 ?_
  refine g_istore (lm' := [(4, tI (v9)), (0, tR (some (h0))), (1, tR (some (a4))), (2, tI (p2)), (3, tI (p3))]) (pc := 13) C dX2_fewestBetween_13 (by decide) rfl ?_
  refine g_aload_n (pc := 15) C 1 2 dX2_fewestBetween_15 rfl rfl ?_
  refine g_iload_n (pc := 16) C 2 3 dX2_fewestBetween_16 rfl rfl ?_
  refine g_iload (pc := 17) C 0 dX2_fewestBetween_17 rfl ?_
  refine g_aload_n (pc := 19) C 1 2 dX2_fewestBetween_19 rfl rfl ?_
  obtain ⟨r10, hvr10, h⟩ := zbind h
  refine g_getR (N := 20) (pc := 20) C ck_1 hvr10 rfl rfl fl_X2_57 dX2_fewestBetween_20 ?_
  refine g_iconst (v := 0) (pc := 23) C dX2_fewestBetween_23 (by decide) ?_
  obtain ⟨a11, hqa11, h9⟩ := zbind h
  clear h
  subst hqa11
  have h := h9
  clear h9
  obtain ⟨v12, hvv12, h⟩ := zbind h
  refine g_iald (pc := 24) C hvv12 dX2_fewestBetween_24 ?_
  obtain ⟨u13, hvu13, h⟩ := zbind h
  obtain ⟨v15, σ14, hvσ14, h⟩ := zcb h
  refine g_callV (pc := 25) (av := [tI (p2), tI (v9), tI (v12)]) C (c_X1_unbarred hE hvσ14) yv_X1_unbarred ml_X2_60 ck_1 (zopt hvu13).1 rfl (rf_of (by decide)) rfl (Nat.le_of_ble_eq_true rfl) dX2_fewestBetween_25 ?_
  refine g_istore (lm' := [(5, tI (v15)), (4, tI (v9)), (0, tR (some (h0))), (1, tR (some (a4))), (2, tI (p2)), (3, tI (p3))]) (pc := 28) C dX2_fewestBetween_28 (by decide) rfl ?_
  refine g_iconst (v := 1) (pc := 30) C dX2_fewestBetween_30 (by decide) ?_
  refine g_aload_n (pc := 31) C 1 3 dX2_fewestBetween_31 rfl rfl ?_
  obtain ⟨r16, hvr16, h⟩ := zbind h
  refine g_getR (N := 20) (pc := 32) C ck_1 hvr16 rfl rfl fl_X2_50 dX2_fewestBetween_32 ?_
  refine g_iload_n (pc := 35) C 2 4 dX2_fewestBetween_35 rfl rfl ?_
  obtain ⟨a17, hqa17, h9⟩ := zbind h
  clear h
  subst hqa17
  have h := h9
  clear h9
  obtain ⟨v18, hvv18, h⟩ := zbind h
  refine g_iald (pc := 36) C hvv18 dX2_fewestBetween_36 ?_
  refine g_ishl (pc := 37) C dX2_fewestBetween_37 ?_
  refine g_istore (lm' := [(6, tI ((1 : Int32) <<< (v18 &&& 31))), (5, tI (v15)), (4, tI (v9)), (0, tR (some (h0))), (1, tR (some (a4))), (2, tI (p2)), (3, tI (p3))]) (pc := 38) C dX2_fewestBetween_38 (by decide) rfl ?_
  refine g_iload (pc := 40) C 2 dX2_fewestBetween_40 rfl ?_
  refine g_iload (pc := 42) C 0 dX2_fewestBetween_42 rfl ?_
  refine g_iconst (v := 1) (pc := 44) C dX2_fewestBetween_44 (by decide) ?_
  refine g_iload_n (pc := 45) C 3 6 dX2_fewestBetween_45 rfl rfl ?_
  refine g_ishl (pc := 46) C dX2_fewestBetween_46 ?_
  refine g_ior (pc := 47) C dX2_fewestBetween_47 ?_
  refine g_iconst (v := (-1)) (pc := 48) C dX2_fewestBetween_48 (by decide) ?_
  refine g_ixor (pc := 49) C dX2_fewestBetween_49 ?_
  refine g_iand (pc := 50) C dX2_fewestBetween_50 ?_
  refine g_istore (lm' := [(7, tI (v9 &&& ((((1 : Int32) <<< (v18 &&& 31)) ||| ((1 : Int32) <<< (p3 &&& 31))) ^^^ (-1)))), (6, tI ((1 : Int32) <<< (v18 &&& 31))), (5, tI (v15)), (4, tI (v9)), (0, tR (some (h0))), (1, tR (some (a4))), (2, tI (p2)), (3, tI (p3))]) (pc := 51) C dX2_fewestBetween_51 (by decide) rfl ?_
  refine g_iload (pc := 53) C 0 dX2_fewestBetween_53 rfl ?_
  refine g_istore (lm' := [(8, tI (v9 &&& ((((1 : Int32) <<< (v18 &&& 31)) ||| ((1 : Int32) <<< (p3 &&& 31))) ^^^ (-1)))), (7, tI (v9 &&& ((((1 : Int32) <<< (v18 &&& 31)) ||| ((1 : Int32) <<< (p3 &&& 31))) ^^^ (-1)))), (6, tI ((1 : Int32) <<< (v18 &&& 31))), (5, tI (v15)), (4, tI (v9)), (0, tR (some (h0))), (1, tR (some (a4))), (2, tI (p2)), (3, tI (p3))]) (pc := 55) C dX2_fewestBetween_55 (by decide) rfl ?_
  refine g_iconst (v := 0) (pc := 57) C dX2_fewestBetween_57 (by decide) ?_
  refine g_istore (lm' := [(9, tI (0)), (8, tI (v9 &&& ((((1 : Int32) <<< (v18 &&& 31)) ||| ((1 : Int32) <<< (p3 &&& 31))) ^^^ (-1)))), (7, tI (v9 &&& ((((1 : Int32) <<< (v18 &&& 31)) ||| ((1 : Int32) <<< (p3 &&& 31))) ^^^ (-1)))), (6, tI ((1 : Int32) <<< (v18 &&& 31))), (5, tI (v15)), (4, tI (v9)), (0, tR (some (h0))), (1, tR (some (a4))), (2, tI (p2)), (3, tI (p3))]) (pc := 58) C dX2_fewestBetween_58 (by decide) rfl ?_
  refine g_sub [6, 9, 4, 3, 2, 1, 0] (lm' := [(0, tR (some (h0))), (3, tI (p3)), (5, tI (v15)), (6, tI ((1 : Int32) <<< (v18 &&& 31))), (7, tI (v9 &&& ((((1 : Int32) <<< (v18 &&& 31)) ||| ((1 : Int32) <<< (p3 &&& 31))) ^^^ (-1)))), (8, tI (v9 &&& ((((1 : Int32) <<< (v18 &&& 31)) ||| ((1 : Int32) <<< (p3 &&& 31))) ^^^ (-1)))), (9, tI (0))]) rfl ?_
  obtain ⟨KQ, hKQ, r20, σ21, hlr20, h⟩ := zcbK h
  refine w_X2_fewestBetween_l60 (KE := KQ) hE C hxn ?_ hlr20 h
  · intro r20 σ19 h
    have h := (hKQ _ _).mp h
    obtain ⟨rfl, rfl⟩ := zsome h
    exact hx
def rm_X2_nearestRoost : Room := { frames := 5, cells := 0, slots := 0, locals := 131 }
noncomputable def s_X2_nearestRoost_b19 (h0 : Nat) (l1 : Option Nat) (l2 : Int32) (l3 : Int32) (l4 : Int32) (l5 : Int32) (σ : Hp) : Option (((Nat × (Option Nat) × Int32 × Int32 × Int32 × Int32) ⊕ ((Nat × (Option Nat) × Int32 × Int32 × Int32))) × Hp) :=
  if 24 ≤ l5 then
    some (Sum.inr ((h0), (l1), (l2), (l3), (l4)), σ)
  else
    (l1).bind fun a1 =>
    (ck 1 σ a1).bind fun u2 =>
    cb (s_X1_safePerches a1 (l3 + l5) σ) fun v4 σ3 =>
    some (Sum.inl ((h0), (some (a1)), (l2), (l3), (l4 &&& v4), (l5 + 1)), σ3)
noncomputable def s_X2_nearestRoost_l19 : (Nat × (Option Nat) × Int32 × Int32 × Int32 × Int32) → Hp → Option (((Nat × (Option Nat) × Int32 × Int32 × Int32)) × Hp) := loopF (fun v => s_X2_nearestRoost_b19 (v.1) (v.2.1) (v.2.2.1) (v.2.2.2.1) (v.2.2.2.2.1) (v.2.2.2.2.2))
set_option maxRecDepth 100000 in
theorem w_X2_nearestRoost_b19 {E : E0} (hE : EOK E) {X : X0} (C : XOK E X cX2_nearestRoost RX2 8 (some .int) rm_X2_nearestRoost) (hxn : xn X = (rm_X2_nearestRoost.cells, rm_X2_nearestRoost.slots)) {KE : ((Nat × (Option Nat) × Int32 × Int32 × Int32)) → Hp → Prop} (e_45 : ∀ (h0 : Nat) (l1 : Option Nat) (l2 : Int32) (l3 : Int32) (l4 : Int32) (σ : Hp), KE ((h0, l1, l2, l3, l4)) σ → G E X 0 0 45 [(0, tR (some (h0))), (1, tR (l1)), (2, tI (l2)), (3, tI (l3)), (4, tI (l4))] [] σ) (h0 : Nat) (l1 : Option Nat) (l2 : Int32) (l3 : Int32) (l4 : Int32) (l5 : Int32) (σ : Hp) (x : (Nat × (Option Nat) × Int32 × Int32 × Int32 × Int32) ⊕ ((Nat × (Option Nat) × Int32 × Int32 × Int32))) (σ1 : Hp) (h : s_X2_nearestRoost_b19 h0 l1 l2 l3 l4 l5 σ = some (x, σ1)) (hI : ∀ v, x = Sum.inl v → (fun (v : Nat × (Option Nat) × Int32 × Int32 × Int32 × Int32) (σ : Hp) => G E X 0 0 19 [(0, tR (some ((v.1)))), (1, tR ((v.2.1))), (2, tI ((v.2.2.1))), (3, tI ((v.2.2.2.1))), (4, tI ((v.2.2.2.2.1))), (5, tI ((v.2.2.2.2.2)))] [] σ) v σ1) (hO : ∀ e, x = Sum.inr e → KE e σ1) : G E X 0 0 19 [(0, tR (some (h0))), (1, tR (l1)), (2, tI (l2)), (3, tI (l3)), (4, tI (l4)), (5, tI (l5))] [] σ := by
  unfold s_X2_nearestRoost_b19 at h
  refine g_iload (pc := 19) C 5 dX2_nearestRoost_19 rfl ?_
  refine g_bipush (v := 24) (pc := 21) C dX2_nearestRoost_21 (by decide) ?_
  refine g_icmp_ge (pc := 23) C 45 dX2_nearestRoost_23 (by decide) (fun c5 => ?_) (fun c5 => ?_)
  · have h := zif_t c5 h
    refine g_sub [0, 1, 2, 3, 4] (lm' := [(0, tR (some (h0))), (1, tR (l1)), (2, tI (l2)), (3, tI (l3)), (4, tI (l4))]) rfl ?_
    obtain ⟨rfl, rfl⟩ := zsome h
    exact e_45 _ _ _ _ _ _ (hO _ rfl)
  · have h := zif_f c5 h
    refine g_iload (pc := 26) C 4 dX2_nearestRoost_26 rfl ?_
    refine g_aload_n (pc := 28) C 1 1 dX2_nearestRoost_28 rfl rfl ?_
    refine g_iload_n (pc := 29) C 3 3 dX2_nearestRoost_29 rfl rfl ?_
    refine g_iload (pc := 30) C 5 dX2_nearestRoost_30 rfl ?_
    refine g_iadd (pc := 32) C dX2_nearestRoost_32 ?_
    obtain ⟨a1, hqa1, h9⟩ := zbind h
    clear h
    subst hqa1
    have h := h9
    clear h9
    obtain ⟨u2, hvu2, h⟩ := zbind h
    obtain ⟨v4, σ3, hvσ3, h⟩ := zcb h
    refine g_callV (pc := 33) (av := [tI (l3 + l5)]) C (c_X1_safePerches hE hvσ3) yv_X1_safePerches ml_X2_64 ck_1 (zopt hvu2).1 rfl (rf_of (by decide)) rfl (Nat.le_of_ble_eq_true rfl) dX2_nearestRoost_33 ?_
    refine g_iand (pc := 36) C dX2_nearestRoost_36 ?_
    refine g_istore (lm' := [(4, tI (l4 &&& v4)), (0, tR (some (h0))), (1, tR (some (a1))), (2, tI (l2)), (3, tI (l3)), (5, tI (l5))]) (pc := 37) C dX2_nearestRoost_37 (by decide) rfl ?_
    refine g_iinc (lm' := [(5, tI (l5 + 1)), (4, tI (l4 &&& v4)), (0, tR (some (h0))), (1, tR (some (a1))), (2, tI (l2)), (3, tI (l3))]) (v := l5 + 1) (pc := 39) C 5 dX2_nearestRoost_39 rfl rfl (by decide) rfl ?_
    refine g_goto (pc := 42) C 19 dX2_nearestRoost_42 (by decide) ?_
    refine g_sub [2, 3, 4, 5, 1, 0] (lm' := [(0, tR (some (h0))), (1, tR (some (a1))), (2, tI (l2)), (3, tI (l3)), (4, tI (l4 &&& v4)), (5, tI (l5 + 1))]) rfl ?_
    obtain ⟨rfl, rfl⟩ := zsome h
    exact hI _ rfl
theorem w_X2_nearestRoost_l19 {E : E0} (hE : EOK E) {X : X0} (C : XOK E X cX2_nearestRoost RX2 8 (some .int) rm_X2_nearestRoost) (hxn : xn X = (rm_X2_nearestRoost.cells, rm_X2_nearestRoost.slots)) {KE : ((Nat × (Option Nat) × Int32 × Int32 × Int32)) → Hp → Prop} (e_45 : ∀ (h0 : Nat) (l1 : Option Nat) (l2 : Int32) (l3 : Int32) (l4 : Int32) (σ : Hp), KE ((h0, l1, l2, l3, l4)) σ → G E X 0 0 45 [(0, tR (some (h0))), (1, tR (l1)), (2, tI (l2)), (3, tI (l3)), (4, tI (l4))] [] σ) {v : Nat × (Option Nat) × Int32 × Int32 × Int32 × Int32} {σ : Hp} {e : (Nat × (Option Nat) × Int32 × Int32 × Int32)} {σ1 : Hp} (h : s_X2_nearestRoost_l19 v σ = some (e, σ1)) (hO : KE e σ1) : G E X 0 0 19 [(0, tR (some ((v.1)))), (1, tR ((v.2.1))), (2, tI ((v.2.2.1))), (3, tI ((v.2.2.2.1))), (4, tI ((v.2.2.2.2.1))), (5, tI ((v.2.2.2.2.2)))] [] σ := loopF_ind (P := fun (v : Nat × (Option Nat) × Int32 × Int32 × Int32 × Int32) (σ : Hp) => G E X 0 0 19 [(0, tR (some ((v.1)))), (1, tR ((v.2.1))), (2, tI ((v.2.2.1))), (3, tI ((v.2.2.2.1))), (4, tI ((v.2.2.2.2.1))), (5, tI ((v.2.2.2.2.2)))] [] σ) (KE := KE) (fun v σ x σ1 h hI hO => w_X2_nearestRoost_b19 hE C hxn e_45 (v.1) (v.2.1) (v.2.2.1) (v.2.2.2.1) (v.2.2.2.2.1) (v.2.2.2.2.2) σ x σ1 h hI hO) v σ e σ1 h hO
noncomputable def s_X2_nearestRoost_b69 (h0 : Nat) (l1 : Option Nat) (l2 : Int32) (l4 : Int32) (l5 : Int32) (l6 : Int32) (σ : Hp) : Option (((Nat × (Option Nat) × Int32 × Int32 × Int32 × Int32) ⊕ (Int32 ⊕ Int32)) × Hp) :=
  if 10 < l6 then
    some (Sum.inr (Sum.inr ((-1))), σ)
  else
    (l1).bind fun a1 =>
    (rdR 1 σ a1 3).bind fun r2 =>
    (r2).bind fun a3 =>
    (ldI 11 σ a3 (l2)).bind fun v4 =>
    (ck 2 σ h0).bind fun u5 =>
    cb (s_X2_reached h0 ((1 : Int32) <<< (v4 &&& 31)) (l6) (l5) σ) fun v7 σ6 =>
    if (v7 &&& l4) = 0 then
      some (Sum.inl ((h0), (some (a1)), (l2), (l4), (l5), (l6 + 1)), σ6)
    else
      some (Sum.inr (Sum.inl (v7 &&& l4)), σ6)
noncomputable def s_X2_nearestRoost_l69 : (Nat × (Option Nat) × Int32 × Int32 × Int32 × Int32) → Hp → Option ((Int32 ⊕ Int32) × Hp) := loopF (fun v => s_X2_nearestRoost_b69 (v.1) (v.2.1) (v.2.2.1) (v.2.2.2.1) (v.2.2.2.2.1) (v.2.2.2.2.2))
set_option maxRecDepth 100000 in
theorem w_X2_nearestRoost_b69 {E : E0} (hE : EOK E) {X : X0} (C : XOK E X cX2_nearestRoost RX2 8 (some .int) rm_X2_nearestRoost) (hxn : xn X = (rm_X2_nearestRoost.cells, rm_X2_nearestRoost.slots)) {KE : (Int32 ⊕ Int32) → Hp → Prop} (e_102 : ∀ (l7 : Int32) (σ : Hp), KE (Sum.inl l7) σ → G E X 0 0 102 [(7, tI (l7))] [] σ) (e_ret : ∀ (r : Int32) (σ : Hp), KE (Sum.inr r) σ → xd X = (some (tI r), σ)) (h0 : Nat) (l1 : Option Nat) (l2 : Int32) (l4 : Int32) (l5 : Int32) (l6 : Int32) (σ : Hp) (x : (Nat × (Option Nat) × Int32 × Int32 × Int32 × Int32) ⊕ (Int32 ⊕ Int32)) (σ1 : Hp) (h : s_X2_nearestRoost_b69 h0 l1 l2 l4 l5 l6 σ = some (x, σ1)) (hI : ∀ v, x = Sum.inl v → (fun (v : Nat × (Option Nat) × Int32 × Int32 × Int32 × Int32) (σ : Hp) => G E X 0 0 69 [(0, tR (some ((v.1)))), (1, tR ((v.2.1))), (2, tI ((v.2.2.1))), (4, tI ((v.2.2.2.1))), (5, tI ((v.2.2.2.2.1))), (6, tI ((v.2.2.2.2.2)))] [] σ) v σ1) (hO : ∀ e, x = Sum.inr e → KE e σ1) : G E X 0 0 69 [(0, tR (some (h0))), (1, tR (l1)), (2, tI (l2)), (4, tI (l4)), (5, tI (l5)), (6, tI (l6))] [] σ := by
  unfold s_X2_nearestRoost_b69 at h
  refine g_iload (pc := 69) C 5 dX2_nearestRoost_69 rfl ?_
  refine g_bipush (v := 10) (pc := 71) C dX2_nearestRoost_71 (by decide) ?_
  refine g_icmp_gt (pc := 73) C 114 dX2_nearestRoost_73 (by decide) (fun c9 => ?_) (fun c9 => ?_)
  · have h := zif_t c9 h
    refine g_iconst (v := (-1)) (pc := 114) C dX2_nearestRoost_114 (by decide) ?_
    obtain ⟨rfl, rfl⟩ := zsome h
    exact g_iret (pc := 115) C rfl (e_ret _ _ (hO _ rfl)) (by rw [hxn]; rfl) (by rw [hxn]; rfl) dX2_nearestRoost_115
  · have h := zif_f c9 h
    refine g_aload_n (pc := 76) C 0 0 dX2_nearestRoost_76 rfl rfl ?_
    refine g_iconst (v := 1) (pc := 77) C dX2_nearestRoost_77 (by decide) ?_
    refine g_aload_n (pc := 78) C 1 1 dX2_nearestRoost_78 rfl rfl ?_
    obtain ⟨a1, hqa1, h9⟩ := zbind h
    clear h
    subst hqa1
    have h := h9
    clear h9
    obtain ⟨r2, hvr2, h⟩ := zbind h
    refine g_getR (N := 20) (pc := 79) C ck_1 hvr2 rfl rfl fl_X2_50 dX2_nearestRoost_79 ?_
    refine g_iload_n (pc := 82) C 2 2 dX2_nearestRoost_82 rfl rfl ?_
    obtain ⟨a3, hqa3, h9⟩ := zbind h
    clear h
    subst hqa3
    have h := h9
    clear h9
    obtain ⟨v4, hvv4, h⟩ := zbind h
    refine g_iald (pc := 83) C hvv4 dX2_nearestRoost_83 ?_
    refine g_ishl (pc := 84) C dX2_nearestRoost_84 ?_
    refine g_iload (pc := 85) C 5 dX2_nearestRoost_85 rfl ?_
    refine g_iload (pc := 87) C 4 dX2_nearestRoost_87 rfl ?_
    obtain ⟨u5, hvu5, h⟩ := zbind h
    obtain ⟨v7, σ6, hvσ6, h⟩ := zcb h
    refine g_callV (pc := 89) (av := [tI ((1 : Int32) <<< (v4 &&& 31)), tI (l6), tI (l5)]) C (c_X2_reached hE hvσ6) yv_X2_reached ml_X2_92 ck_2 (zopt hvu5).1 rfl (rf_of (by decide)) rfl (Nat.le_of_ble_eq_true rfl) dX2_nearestRoost_89 ?_
    refine g_iload (pc := 92) C 3 dX2_nearestRoost_92 rfl ?_
    refine g_iand (pc := 94) C dX2_nearestRoost_94 ?_
    refine g_istore (lm' := [(7, tI (v7 &&& l4)), (0, tR (some (h0))), (1, tR (some (a1))), (2, tI (l2)), (4, tI (l4)), (5, tI (l5)), (6, tI (l6))]) (pc := 95) C dX2_nearestRoost_95 (by decide) rfl ?_
    refine g_iload (pc := 97) C 0 dX2_nearestRoost_97 rfl ?_
    refine g_if_eq (pc := 99) C 108 dX2_nearestRoost_99 (by decide) (fun c8 => ?_) (fun c8 => ?_)
    · have h := zif_t c8 h
      refine g_iinc (lm' := [(6, tI (l6 + 1)), (7, tI (v7 &&& l4)), (0, tR (some (h0))), (1, tR (some (a1))), (2, tI (l2)), (4, tI (l4)), (5, tI (l5))]) (v := l6 + 1) (pc := 108) C 6 dX2_nearestRoost_108 rfl rfl (by decide) rfl ?_
      refine g_goto (pc := 111) C 69 dX2_nearestRoost_111 (by decide) ?_
      refine g_sub [2, 3, 4, 5, 6, 0] (lm' := [(0, tR (some (h0))), (1, tR (some (a1))), (2, tI (l2)), (4, tI (l4)), (5, tI (l5)), (6, tI (l6 + 1))]) rfl ?_
      obtain ⟨rfl, rfl⟩ := zsome h
      exact hI _ rfl
    · have h := zif_f c8 h
      refine g_sub [0] (lm' := [(7, tI (v7 &&& l4))]) rfl ?_
      obtain ⟨rfl, rfl⟩ := zsome h
      exact e_102 _ _ (hO _ rfl)
theorem w_X2_nearestRoost_l69 {E : E0} (hE : EOK E) {X : X0} (C : XOK E X cX2_nearestRoost RX2 8 (some .int) rm_X2_nearestRoost) (hxn : xn X = (rm_X2_nearestRoost.cells, rm_X2_nearestRoost.slots)) {KE : (Int32 ⊕ Int32) → Hp → Prop} (e_102 : ∀ (l7 : Int32) (σ : Hp), KE (Sum.inl l7) σ → G E X 0 0 102 [(7, tI (l7))] [] σ) (e_ret : ∀ (r : Int32) (σ : Hp), KE (Sum.inr r) σ → xd X = (some (tI r), σ)) {v : Nat × (Option Nat) × Int32 × Int32 × Int32 × Int32} {σ : Hp} {e : Int32 ⊕ Int32} {σ1 : Hp} (h : s_X2_nearestRoost_l69 v σ = some (e, σ1)) (hO : KE e σ1) : G E X 0 0 69 [(0, tR (some ((v.1)))), (1, tR ((v.2.1))), (2, tI ((v.2.2.1))), (4, tI ((v.2.2.2.1))), (5, tI ((v.2.2.2.2.1))), (6, tI ((v.2.2.2.2.2)))] [] σ := loopF_ind (P := fun (v : Nat × (Option Nat) × Int32 × Int32 × Int32 × Int32) (σ : Hp) => G E X 0 0 69 [(0, tR (some ((v.1)))), (1, tR ((v.2.1))), (2, tI ((v.2.2.1))), (4, tI ((v.2.2.2.1))), (5, tI ((v.2.2.2.2.1))), (6, tI ((v.2.2.2.2.2)))] [] σ) (KE := KE) (fun v σ x σ1 h hI hO => w_X2_nearestRoost_b69 hE C hxn e_102 e_ret (v.1) (v.2.1) (v.2.2.1) (v.2.2.2.1) (v.2.2.2.2.1) (v.2.2.2.2.2) σ x σ1 h hI hO) v σ e σ1 h hO
noncomputable def s_X2_nearestRoost (h0 : Nat) (p1 : Option Nat) (p2 : Int32) (σ : Hp) : Option (Int32 × Hp) :=
  (p1).bind fun a1 =>
  (rdR 1 σ a1 10).bind fun r2 =>
  (r2).bind fun a3 =>
  (ldI 11 σ a3 (0)).bind fun v4 =>
  (rdR 1 σ a1 0).bind fun r5 =>
  (r5).bind fun a6 =>
  (ck 3 σ a6).bind fun u7 =>
  cb (s_X3_all a6 σ) fun v9 σ8 =>
  cb (s_X2_nearestRoost_l19 ((h0), (some (a1)), (p2), (v4), (v9), (0)) σ8) fun e38 σ37 =>
  match e38 with
  | (h10, l111, l212, l313, l414) =>
    (ck 2 σ37 h10).bind fun u16 =>
    cb (s_X2_drawSteps h10 (l111) (l212) σ37) fun v18 σ17 =>
    (l111).bind fun a19 =>
    (rdR 1 σ17 a19 0).bind fun r20 =>
    (r20).bind fun a21 =>
    (ck 3 σ17 a21).bind fun u22 =>
    cb (s_X3_all a21 σ17) fun v24 σ23 =>
    (ck 1 σ23 a19).bind fun u25 =>
    cb (s_X1_unbarred a19 (l212) (v24) (l313) σ23) fun v27 σ26 =>
    cb (s_X2_nearestRoost_l69 ((h10), (some (a19)), (l212), (l414), (v27), (0)) σ26) fun e35 σ34 =>
    match e35 with
    | Sum.inl l728 =>
      cb (s_X2_lowestOf (l728) σ34) fun v31 σ30 =>
      some ((v31), σ30)
    | Sum.inr r33 =>
      some (r33, σ34)
set_option maxRecDepth 100000 in
theorem c_X2_nearestRoost {E : E0} (hE : EOK E) {h0 : Nat} {p1 : Option Nat} {p2 : Int32} {σ σ1 : Hp} {r : Int32} (h : s_X2_nearestRoost h0 p1 p2 σ = some (r, σ1)) : CT E yX2_nearestRoost (.code yX2_nearestRoost cX2_nearestRoost 8 (some .int)) rm_X2_nearestRoost [tR (some (h0)), tR (p1), tI (p2)] σ (some (tI r)) σ1 := by
  refine CT.mk hE (by decide +kernel) (Nat.le_of_ble_eq_true rfl) [(0, tR (some (h0))), (1, tR (p1)), (2, tI (p2))] rfl (fun X C hin hx hxn => ?_)
  have C : XOK E X cX2_nearestRoost RX2 8 (some .int) rm_X2_nearestRoost := C
  unfold s_X2_nearestRoost at h
  refine g_aload_n (pc := 0) C 1 1 dX2_nearestRoost_0 rfl rfl ?_
  obtain ⟨a1, hqa1, h9⟩ := zbind h
  clear h
  subst hqa1
  have h := h9
  clear h9
  obtain ⟨r2, hvr2, h⟩ := zbind h
  refine g_getR (N := 20) (pc := 1) C ck_1 hvr2 rfl rfl fl_X2_57 dX2_nearestRoost_1 ?_
  refine g_iconst (v := 0) (pc := 4) C dX2_nearestRoost_4 (by decide) ?_
  obtain ⟨a3, hqa3, h9⟩ := zbind h
  clear h
  subst hqa3
  have h := h9
  clear h9
  obtain ⟨v4, hvv4, h⟩ := zbind h
  refine g_iald (pc := 5) C hvv4 dX2_nearestRoost_5 ?_
  refine g_istore_n (lm' := [(3, tI (v4)), (0, tR (some (h0))), (1, tR (some (a1))), (2, tI (p2))]) (pc := 6) C 3 dX2_nearestRoost_6 rfl (by decide) rfl ?_
  refine g_aload_n (pc := 7) C 1 2 dX2_nearestRoost_7 rfl rfl ?_
  obtain ⟨r5, hvr5, h⟩ := zbind h
  refine g_getR (N := 20) (pc := 8) C ck_1 hvr5 rfl rfl fl_X2_77 dX2_nearestRoost_8 ?_
  obtain ⟨a6, hqa6, h9⟩ := zbind h
  clear h
  subst hqa6
  have h := h9
  clear h9
  obtain ⟨u7, hvu7, h⟩ := zbind h
  obtain ⟨v9, σ8, hvσ8, h⟩ := zcb h
  refine g_callV (pc := 11) (av := []) C (c_X3_all hE hvσ8) yv_X3_all ml_X2_81 ck_3 (zopt hvu7).1 rfl (rf_of (by decide)) rfl (Nat.le_of_ble_eq_true rfl) dX2_nearestRoost_11 ?_
  refine g_istore (lm' := [(4, tI (v9)), (3, tI (v4)), (0, tR (some (h0))), (1, tR (some (a1))), (2, tI (p2))]) (pc := 14) C dX2_nearestRoost_14 (by decide) rfl ?_
  refine g_iconst (v := 0) (pc := 16) C dX2_nearestRoost_16 (by decide) ?_
  refine g_istore (lm' := [(5, tI (0)), (4, tI (v9)), (3, tI (v4)), (0, tR (some (h0))), (1, tR (some (a1))), (2, tI (p2))]) (pc := 17) C dX2_nearestRoost_17 (by decide) rfl ?_
  refine g_sub [3, 4, 5, 2, 1, 0] (lm' := [(0, tR (some (h0))), (1, tR (some (a1))), (2, tI (p2)), (3, tI (v4)), (4, tI (v9)), (5, tI (0))]) rfl ?_
  obtain ⟨KQ, hKQ, e38, σ37, hle38, h⟩ := zcbK h
  refine w_X2_nearestRoost_l19 (KE := KQ) hE C hxn ?_ hle38 h
  · intro h10 l111 l212 l313 l414 σ15 h
    have h := (hKQ _ _).mp h
    refine g_aload_n (pc := 45) C 0 0 dX2_nearestRoost_45 rfl rfl ?_
    refine g_aload_n (pc := 46) C 1 1 dX2_nearestRoost_46 rfl rfl ?_
    refine g_iload_n (pc := 47) C 2 2 dX2_nearestRoost_47 rfl rfl ?_
    obtain ⟨u16, hvu16, h⟩ := zbind h
    obtain ⟨v18, σ17, hvσ17, h⟩ := zcb h
    refine g_callV (pc := 48) (av := [tR (l111), tI (l212)]) C (c_X2_drawSteps hE hvσ17) yv_X2_drawSteps ml_X2_53 ck_2 (zopt hvu16).1 rfl (rf_of (by decide)) rfl (Nat.le_of_ble_eq_true rfl) dX2_nearestRoost_48 ?_
    refine g_aload_n (pc := 51) C 1 1 dX2_nearestRoost_51 rfl rfl ?_
    refine g_iload_n (pc := 52) C 2 2 dX2_nearestRoost_52 rfl rfl ?_
    refine g_aload_n (pc := 53) C 1 1 dX2_nearestRoost_53 rfl rfl ?_
    obtain ⟨a19, hqa19, h9⟩ := zbind h
    clear h
    subst hqa19
    have h := h9
    clear h9
    obtain ⟨r20, hvr20, h⟩ := zbind h
    refine g_getR (N := 20) (pc := 54) C ck_1 hvr20 rfl rfl fl_X2_77 dX2_nearestRoost_54 ?_
    obtain ⟨a21, hqa21, h9⟩ := zbind h
    clear h
    subst hqa21
    have h := h9
    clear h9
    obtain ⟨u22, hvu22, h⟩ := zbind h
    obtain ⟨v24, σ23, hvσ23, h⟩ := zcb h
    refine g_callV (pc := 57) (av := []) C (c_X3_all hE hvσ23) yv_X3_all ml_X2_81 ck_3 (zopt hvu22).1 rfl (rf_of (by decide)) rfl (Nat.le_of_ble_eq_true rfl) dX2_nearestRoost_57 ?_
    refine g_iload_n (pc := 60) C 3 3 dX2_nearestRoost_60 rfl rfl ?_
    obtain ⟨u25, hvu25, h⟩ := zbind h
    obtain ⟨v27, σ26, hvσ26, h⟩ := zcb h
    refine g_callV (pc := 61) (av := [tI (l212), tI (v24), tI (l313)]) C (c_X1_unbarred hE hvσ26) yv_X1_unbarred ml_X2_60 ck_1 (zopt hvu25).1 rfl (rf_of (by decide)) rfl (Nat.le_of_ble_eq_true rfl) dX2_nearestRoost_61 ?_
    refine g_istore (lm' := [(5, tI (v27)), (0, tR (some (h10))), (1, tR (some (a19))), (2, tI (l212)), (3, tI (l313)), (4, tI (l414))]) (pc := 64) C dX2_nearestRoost_64 (by decide) rfl ?_
    refine g_iconst (v := 0) (pc := 66) C dX2_nearestRoost_66 (by decide) ?_
    refine g_istore (lm' := [(6, tI (0)), (5, tI (v27)), (0, tR (some (h10))), (1, tR (some (a19))), (2, tI (l212)), (3, tI (l313)), (4, tI (l414))]) (pc := 67) C dX2_nearestRoost_67 (by decide) rfl ?_
    refine g_sub [2, 3, 4, 6, 1, 0] (lm' := [(0, tR (some (h10))), (1, tR (some (a19))), (2, tI (l212)), (4, tI (l414)), (5, tI (v27)), (6, tI (0))]) rfl ?_
    obtain ⟨KQ, hKQ, e35, σ34, hle35, h⟩ := zcbK h
    refine w_X2_nearestRoost_l69 (KE := KQ) hE C hxn ?_ ?_ hle35 h
    · intro l728 σ29 h
      have h := (hKQ _ _).mp h
      refine g_iload (pc := 102) C 0 dX2_nearestRoost_102 rfl ?_
      obtain ⟨v31, σ30, hvσ30, h⟩ := zcb h
      refine g_callS (pc := 104) (av := [tI (l728)]) C (c_X2_lowestOf hE hvσ30) ys_X2_lowestOf ml_X2_74 rfl (rf_of (by decide)) rfl (Nat.le_of_ble_eq_true rfl) dX2_nearestRoost_104 ?_
      obtain ⟨rfl, rfl⟩ := zsome h
      exact g_iret (pc := 107) C rfl hx (by rw [hxn]; rfl) (by rw [hxn]; rfl) dX2_nearestRoost_107
    · intro r33 σ32 h
      have h := (hKQ _ _).mp h
      obtain ⟨rfl, rfl⟩ := zsome h
      exact hx
def rm_X2_drawTrack : Room := { frames := 4, cells := 0, slots := 0, locals := 109 }
noncomputable def s_X2_drawTrack_b27 (l1 : Option Nat) (l2 : Int32) (l3 : Option Nat) (l4 : Int32) (l5 : Int32) (σ : Hp) : Option ((((Option Nat) × Int32 × (Option Nat) × Int32 × Int32) ⊕ (Unit)) × Hp) :=
  if 60 < l5 then
    some (Sum.inr (), σ)
  else
    (l3).bind fun a1 =>
    (stI σ a1 (l5) (l4)).bind fun σ2 =>
    (l1).bind fun a3 =>
    (rdR 1 σ2 a3 10).bind fun r4 =>
    (r4).bind fun a5 =>
    (ldI 11 σ2 a5 (0)).bind fun v6 =>
    (ck 1 σ2 a3).bind fun u7 =>
    cb (s_X1_whither a3 (l2) (l4) (v6 + l5) σ2) fun v9 σ8 =>
    some (Sum.inl ((some (a3)), (l2), (some (a1)), (v9), (l5 + 1)), σ8)
noncomputable def s_X2_drawTrack_l27 : ((Option Nat) × Int32 × (Option Nat) × Int32 × Int32) → Hp → Option ((Unit) × Hp) := loopF (fun v => s_X2_drawTrack_b27 (v.1) (v.2.1) (v.2.2.1) (v.2.2.2.1) (v.2.2.2.2))
set_option maxRecDepth 100000 in
theorem w_X2_drawTrack_b27 {E : E0} (hE : EOK E) {X : X0} (C : XOK E X cX2_drawTrack RX2 6 none rm_X2_drawTrack) (hxn : xn X = (rm_X2_drawTrack.cells, rm_X2_drawTrack.slots)) {KE : (Unit) → Hp → Prop} (e_ret : ∀ (r : Unit) (σ : Hp), KE (r) σ → xd X = (none, σ)) (l1 : Option Nat) (l2 : Int32) (l3 : Option Nat) (l4 : Int32) (l5 : Int32) (σ : Hp) (x : ((Option Nat) × Int32 × (Option Nat) × Int32 × Int32) ⊕ (Unit)) (σ1 : Hp) (h : s_X2_drawTrack_b27 l1 l2 l3 l4 l5 σ = some (x, σ1)) (hI : ∀ v, x = Sum.inl v → (fun (v : (Option Nat) × Int32 × (Option Nat) × Int32 × Int32) (σ : Hp) => G E X 0 0 27 [(1, tR ((v.1))), (2, tI ((v.2.1))), (3, tR ((v.2.2.1))), (4, tI ((v.2.2.2.1))), (5, tI ((v.2.2.2.2)))] [] σ) v σ1) (hO : ∀ e, x = Sum.inr e → KE e σ1) : G E X 0 0 27 [(1, tR (l1)), (2, tI (l2)), (3, tR (l3)), (4, tI (l4)), (5, tI (l5))] [] σ := by
  unfold s_X2_drawTrack_b27 at h
  refine g_iload (pc := 27) C 4 dX2_drawTrack_27 rfl ?_
  refine g_bipush (v := 60) (pc := 29) C dX2_drawTrack_29 (by decide) ?_
  refine g_icmp_gt (pc := 31) C 64 dX2_drawTrack_31 (by decide) (fun c10 => ?_) (fun c10 => ?_)
  · have h := zif_t c10 h
    obtain ⟨rfl, rfl⟩ := zsome h
    exact g_vret (pc := 64) C rfl (e_ret _ _ (hO _ rfl)) (by rw [hxn]; rfl) (by rw [hxn]; rfl) dX2_drawTrack_64
  · have h := zif_f c10 h
    refine g_aload_n (pc := 34) C 3 2 dX2_drawTrack_34 rfl rfl ?_
    refine g_iload (pc := 35) C 4 dX2_drawTrack_35 rfl ?_
    refine g_iload (pc := 37) C 3 dX2_drawTrack_37 rfl ?_
    obtain ⟨a1, hqa1, h9⟩ := zbind h
    clear h
    subst hqa1
    have h := h9
    clear h9
    obtain ⟨σ2, hvσ2, h⟩ := zbind h
    refine g_iast (pc := 39) C hvσ2 dX2_drawTrack_39 ?_
    refine g_aload_n (pc := 40) C 1 0 dX2_drawTrack_40 rfl rfl ?_
    refine g_iload_n (pc := 41) C 2 1 dX2_drawTrack_41 rfl rfl ?_
    refine g_iload (pc := 42) C 3 dX2_drawTrack_42 rfl ?_
    refine g_aload_n (pc := 44) C 1 0 dX2_drawTrack_44 rfl rfl ?_
    obtain ⟨a3, hqa3, h9⟩ := zbind h
    clear h
    subst hqa3
    have h := h9
    clear h9
    obtain ⟨r4, hvr4, h⟩ := zbind h
    refine g_getR (N := 20) (pc := 45) C ck_1 hvr4 rfl rfl fl_X2_57 dX2_drawTrack_45 ?_
    refine g_iconst (v := 0) (pc := 48) C dX2_drawTrack_48 (by decide) ?_
    obtain ⟨a5, hqa5, h9⟩ := zbind h
    clear h
    subst hqa5
    have h := h9
    clear h9
    obtain ⟨v6, hvv6, h⟩ := zbind h
    refine g_iald (pc := 49) C hvv6 dX2_drawTrack_49 ?_
    refine g_iload (pc := 50) C 4 dX2_drawTrack_50 rfl ?_
    refine g_iadd (pc := 52) C dX2_drawTrack_52 ?_
    obtain ⟨u7, hvu7, h⟩ := zbind h
    obtain ⟨v9, σ8, hvσ8, h⟩ := zcb h
    refine g_callV (pc := 53) (av := [tI (l2), tI (l4), tI (v6 + l5)]) C (c_X1_whither hE hvσ8) yv_X1_whither ml_X2_102 ck_1 (zopt hvu7).1 rfl (rf_of (by decide)) rfl (Nat.le_of_ble_eq_true rfl) dX2_drawTrack_53 ?_
    refine g_istore (lm' := [(4, tI (v9)), (1, tR (some (a3))), (2, tI (l2)), (3, tR (some (a1))), (5, tI (l5))]) (pc := 56) C dX2_drawTrack_56 (by decide) rfl ?_
    refine g_iinc (lm' := [(5, tI (l5 + 1)), (4, tI (v9)), (1, tR (some (a3))), (2, tI (l2)), (3, tR (some (a1)))]) (v := l5 + 1) (pc := 58) C 4 dX2_drawTrack_58 rfl rfl (by decide) rfl ?_
    refine g_goto (pc := 61) C 27 dX2_drawTrack_61 (by decide) ?_
    refine g_sub [2, 3, 4, 1, 0] (lm' := [(1, tR (some (a3))), (2, tI (l2)), (3, tR (some (a1))), (4, tI (v9)), (5, tI (l5 + 1))]) rfl ?_
    obtain ⟨rfl, rfl⟩ := zsome h
    exact hI _ rfl
theorem w_X2_drawTrack_l27 {E : E0} (hE : EOK E) {X : X0} (C : XOK E X cX2_drawTrack RX2 6 none rm_X2_drawTrack) (hxn : xn X = (rm_X2_drawTrack.cells, rm_X2_drawTrack.slots)) {KE : (Unit) → Hp → Prop} (e_ret : ∀ (r : Unit) (σ : Hp), KE (r) σ → xd X = (none, σ)) {v : (Option Nat) × Int32 × (Option Nat) × Int32 × Int32} {σ : Hp} {e : Unit} {σ1 : Hp} (h : s_X2_drawTrack_l27 v σ = some (e, σ1)) (hO : KE e σ1) : G E X 0 0 27 [(1, tR ((v.1))), (2, tI ((v.2.1))), (3, tR ((v.2.2.1))), (4, tI ((v.2.2.2.1))), (5, tI ((v.2.2.2.2)))] [] σ := loopF_ind (P := fun (v : (Option Nat) × Int32 × (Option Nat) × Int32 × Int32) (σ : Hp) => G E X 0 0 27 [(1, tR ((v.1))), (2, tI ((v.2.1))), (3, tR ((v.2.2.1))), (4, tI ((v.2.2.2.1))), (5, tI ((v.2.2.2.2)))] [] σ) (KE := KE) (fun v σ x σ1 h hI hO => w_X2_drawTrack_b27 hE C hxn e_ret (v.1) (v.2.1) (v.2.2.1) (v.2.2.2.1) (v.2.2.2.2) σ x σ1 h hI hO) v σ e σ1 h hO
noncomputable def s_X2_drawTrack (h0 : Nat) (p1 : Option Nat) (p2 : Int32) (σ : Hp) : Option (Unit × Hp) :=
  (p1).bind fun a1 =>
  (ck 1 σ a1).bind fun u2 =>
  cb (s_X1_isBadger a1 (p2) σ) fun v4 σ3 =>
  if v4 = 0 then
    some ((), σ3)
  else
    (rdR 2 σ3 h0 1).bind fun r5 =>
    (r5).bind fun a6 =>
    (ldR 16 σ3 a6 (p2)).bind fun r7 =>
    (rdR 1 σ3 a1 4).bind fun r8 =>
    (r8).bind fun a9 =>
    (ldI 11 σ3 a9 (p2)).bind fun v10 =>
    cb (s_X2_drawTrack_l27 ((some (a1)), (p2), (r7), (v10), (0)) σ3) fun r12 σ13 =>
    some (r12, σ13)
set_option maxRecDepth 100000 in
theorem c_X2_drawTrack {E : E0} (hE : EOK E) {h0 : Nat} {p1 : Option Nat} {p2 : Int32} {σ σ1 : Hp} {r : Unit} (h : s_X2_drawTrack h0 p1 p2 σ = some (r, σ1)) : CT E yX2_drawTrack (.code yX2_drawTrack cX2_drawTrack 6 none) rm_X2_drawTrack [tR (some (h0)), tR (p1), tI (p2)] σ none σ1 := by
  refine CT.mk hE (by decide +kernel) (Nat.le_of_ble_eq_true rfl) [(0, tR (some (h0))), (1, tR (p1)), (2, tI (p2))] rfl (fun X C hin hx hxn => ?_)
  have C : XOK E X cX2_drawTrack RX2 6 none rm_X2_drawTrack := C
  unfold s_X2_drawTrack at h
  refine g_aload_n (pc := 0) C 1 1 dX2_drawTrack_0 rfl rfl ?_
  refine g_iload_n (pc := 1) C 2 2 dX2_drawTrack_1 rfl rfl ?_
  obtain ⟨a1, hqa1, h9⟩ := zbind h
  clear h
  subst hqa1
  have h := h9
  clear h9
  obtain ⟨u2, hvu2, h⟩ := zbind h
  obtain ⟨v4, σ3, hvσ3, h⟩ := zcb h
  refine g_callV (pc := 2) (av := [tI (p2)]) C (c_X1_isBadger hE hvσ3) yv_X1_isBadger ml_X2_95 ck_1 (zopt hvu2).1 rfl (rf_of (by decide)) rfl (Nat.le_of_ble_eq_true rfl) dX2_drawTrack_2 ?_
  refine g_if_ne (pc := 5) C 9 dX2_drawTrack_5 (by decide) (fun c15 => ?_) (fun c15 => ?_)
  · have h := zif_f c15 h
    refine g_aload_n (pc := 9) C 0 0 dX2_drawTrack_9 rfl rfl ?_
    obtain ⟨r5, hvr5, h⟩ := zbind h
    refine g_getR (N := 7) (pc := 10) C ck_2 hvr5 rfl rfl fl_X2_17 dX2_drawTrack_10 ?_
    refine g_iload_n (pc := 13) C 2 2 dX2_drawTrack_13 rfl rfl ?_
    obtain ⟨a6, hqa6, h9⟩ := zbind h
    clear h
    subst hqa6
    have h := h9
    clear h9
    obtain ⟨r7, hvr7, h⟩ := zbind h
    refine g_aald16 (pc := 14) C hvr7 dX2_drawTrack_14 ?_
    refine g_astore_n (lm' := [(3, tR (r7)), (0, tR (some (h0))), (1, tR (some (a1))), (2, tI (p2))]) (pc := 15) C 3 dX2_drawTrack_15 rfl (by decide) rfl ?_
    refine g_aload_n (pc := 16) C 1 2 dX2_drawTrack_16 rfl rfl ?_
    obtain ⟨r8, hvr8, h⟩ := zbind h
    refine g_getR (N := 20) (pc := 17) C ck_1 hvr8 rfl rfl fl_X2_99 dX2_drawTrack_17 ?_
    refine g_iload_n (pc := 20) C 2 3 dX2_drawTrack_20 rfl rfl ?_
    obtain ⟨a9, hqa9, h9⟩ := zbind h
    clear h
    subst hqa9
    have h := h9
    clear h9
    obtain ⟨v10, hvv10, h⟩ := zbind h
    refine g_iald (pc := 21) C hvv10 dX2_drawTrack_21 ?_
    refine g_istore (lm' := [(4, tI (v10)), (3, tR (r7)), (0, tR (some (h0))), (1, tR (some (a1))), (2, tI (p2))]) (pc := 22) C dX2_drawTrack_22 (by decide) rfl ?_
    refine g_iconst (v := 0) (pc := 24) C dX2_drawTrack_24 (by decide) ?_
    refine g_istore (lm' := [(5, tI (0)), (4, tI (v10)), (3, tR (r7)), (0, tR (some (h0))), (1, tR (some (a1))), (2, tI (p2))]) (pc := 25) C dX2_drawTrack_25 (by decide) rfl ?_
    refine g_sub [4, 5, 2, 1, 0] (lm' := [(1, tR (some (a1))), (2, tI (p2)), (3, tR (r7)), (4, tI (v10)), (5, tI (0))]) rfl ?_
    obtain ⟨KQ, hKQ, r12, σ13, hlr12, h⟩ := zcbK h
    refine w_X2_drawTrack_l27 (KE := KQ) hE C hxn ?_ hlr12 h
    · intro r12 σ11 h
      have h := (hKQ _ _).mp h
      obtain ⟨rfl, rfl⟩ := zsome h
      exact hx
  · have h := zif_t c15 h
    obtain ⟨rfl, rfl⟩ := zsome h
    exact g_vret (pc := 8) C rfl hx (by rw [hxn]; rfl) (by rw [hxn]; rfl) dX2_drawTrack_8
def rm_X2_whoCanBe : Room := { frames := 5, cells := 0, slots := 0, locals := 134 }
noncomputable def s_X2_whoCanBe_j88 (h0 : Nat) (l1 : Option Nat) (l2 : Int32) (l3 : Int32) (l4 : Int32) (l5 : Int32) (σ : Hp) : Option (((Nat × (Option Nat) × Int32 × Int32 × Int32 × Int32) ⊕ ((Nat × (Option Nat) × Int32 × Int32 × Int32))) × Hp) :=
  some (Sum.inl ((h0), (l1), (l2), (l3), (l4), (l5 + 1)), σ)
set_option maxRecDepth 100000 in
theorem w_X2_whoCanBe_j88 {E : E0} (hE : EOK E) {X : X0} (C : XOK E X cX2_whoCanBe RX2 7 (some .int) rm_X2_whoCanBe) (hxn : xn X = (rm_X2_whoCanBe.cells, rm_X2_whoCanBe.slots)) {KE : ((Nat × (Option Nat) × Int32 × Int32 × Int32)) → Hp → Prop} (e_94 : ∀ (h0 : Nat) (l1 : Option Nat) (l2 : Int32) (l3 : Int32) (l4 : Int32) (σ : Hp), KE ((h0, l1, l2, l3, l4)) σ → G E X 0 0 94 [(0, tR (some (h0))), (1, tR (l1)), (2, tI (l2)), (3, tI (l3)), (4, tI (l4))] [] σ) (h0 : Nat) (l1 : Option Nat) (l2 : Int32) (l3 : Int32) (l4 : Int32) (l5 : Int32) (σ : Hp) (x : (Nat × (Option Nat) × Int32 × Int32 × Int32 × Int32) ⊕ ((Nat × (Option Nat) × Int32 × Int32 × Int32))) (σ1 : Hp) (h : s_X2_whoCanBe_j88 h0 l1 l2 l3 l4 l5 σ = some (x, σ1)) (hI : ∀ v, x = Sum.inl v → (fun (v : Nat × (Option Nat) × Int32 × Int32 × Int32 × Int32) (σ : Hp) => G E X 0 0 29 [(0, tR (some ((v.1)))), (1, tR ((v.2.1))), (2, tI ((v.2.2.1))), (3, tI ((v.2.2.2.1))), (4, tI ((v.2.2.2.2.1))), (5, tI ((v.2.2.2.2.2)))] [] σ) v σ1) (hO : ∀ e, x = Sum.inr e → KE e σ1) : G E X 0 0 88 [(0, tR (some (h0))), (1, tR (l1)), (2, tI (l2)), (3, tI (l3)), (4, tI (l4)), (5, tI (l5))] [] σ := by
  unfold s_X2_whoCanBe_j88 at h
  refine g_iinc (lm' := [(5, tI (l5 + 1)), (0, tR (some (h0))), (1, tR (l1)), (2, tI (l2)), (3, tI (l3)), (4, tI (l4))]) (v := l5 + 1) (pc := 88) C 5 dX2_whoCanBe_88 rfl rfl (by decide) rfl ?_
  refine g_goto (pc := 91) C 29 dX2_whoCanBe_91 (by decide) ?_
  refine g_sub [1, 2, 3, 4, 5, 0] (lm' := [(0, tR (some (h0))), (1, tR (l1)), (2, tI (l2)), (3, tI (l3)), (4, tI (l4)), (5, tI (l5 + 1))]) rfl ?_
  obtain ⟨rfl, rfl⟩ := zsome h
  exact hI _ rfl
noncomputable def s_X2_whoCanBe_j85 (h0 : Nat) (l1 : Option Nat) (l2 : Int32) (l3 : Int32) (l5 : Int32) (σ : Hp) : Option (((Nat × (Option Nat) × Int32 × Int32 × Int32 × Int32) ⊕ ((Nat × (Option Nat) × Int32 × Int32 × Int32))) × Hp) :=
  s_X2_whoCanBe_j88 (h0) (l1) (l2) (l3) (0) (l5) σ
set_option maxRecDepth 100000 in
theorem w_X2_whoCanBe_j85 {E : E0} (hE : EOK E) {X : X0} (C : XOK E X cX2_whoCanBe RX2 7 (some .int) rm_X2_whoCanBe) (hxn : xn X = (rm_X2_whoCanBe.cells, rm_X2_whoCanBe.slots)) {KE : ((Nat × (Option Nat) × Int32 × Int32 × Int32)) → Hp → Prop} (e_94 : ∀ (h0 : Nat) (l1 : Option Nat) (l2 : Int32) (l3 : Int32) (l4 : Int32) (σ : Hp), KE ((h0, l1, l2, l3, l4)) σ → G E X 0 0 94 [(0, tR (some (h0))), (1, tR (l1)), (2, tI (l2)), (3, tI (l3)), (4, tI (l4))] [] σ) (h0 : Nat) (l1 : Option Nat) (l2 : Int32) (l3 : Int32) (l5 : Int32) (σ : Hp) (x : (Nat × (Option Nat) × Int32 × Int32 × Int32 × Int32) ⊕ ((Nat × (Option Nat) × Int32 × Int32 × Int32))) (σ1 : Hp) (h : s_X2_whoCanBe_j85 h0 l1 l2 l3 l5 σ = some (x, σ1)) (hI : ∀ v, x = Sum.inl v → (fun (v : Nat × (Option Nat) × Int32 × Int32 × Int32 × Int32) (σ : Hp) => G E X 0 0 29 [(0, tR (some ((v.1)))), (1, tR ((v.2.1))), (2, tI ((v.2.2.1))), (3, tI ((v.2.2.2.1))), (4, tI ((v.2.2.2.2.1))), (5, tI ((v.2.2.2.2.2)))] [] σ) v σ1) (hO : ∀ e, x = Sum.inr e → KE e σ1) : G E X 0 0 85 [(0, tR (some (h0))), (1, tR (l1)), (2, tI (l2)), (3, tI (l3)), (5, tI (l5))] [] σ := by
  unfold s_X2_whoCanBe_j85 at h
  refine g_iconst (v := 0) (pc := 85) C dX2_whoCanBe_85 (by decide) ?_
  refine g_istore (lm' := [(4, tI (0)), (0, tR (some (h0))), (1, tR (l1)), (2, tI (l2)), (3, tI (l3)), (5, tI (l5))]) (pc := 86) C dX2_whoCanBe_86 (by decide) rfl ?_
  refine g_sub [1, 2, 3, 4, 0, 5] (lm' := [(0, tR (some (h0))), (1, tR (l1)), (2, tI (l2)), (3, tI (l3)), (4, tI (0)), (5, tI (l5))]) rfl ?_
  exact w_X2_whoCanBe_j88 hE C hxn e_94 _ _ _ _ _ _ _ _ _ h hI hO
noncomputable def s_X2_whoCanBe_b29 (h0 : Nat) (l1 : Option Nat) (l2 : Int32) (l3 : Int32) (l4 : Int32) (l5 : Int32) (σ : Hp) : Option (((Nat × (Option Nat) × Int32 × Int32 × Int32 × Int32) ⊕ ((Nat × (Option Nat) × Int32 × Int32 × Int32))) × Hp) :=
  (l1).bind fun a1 =>
  (rdI 1 σ a1 16).bind fun v2 =>
  if v2 ≤ l5 then
    some (Sum.inr ((h0), (some (a1)), (l2), (l3), (l4)), σ)
  else
    if 6 ≤ l5 then
      some (Sum.inr ((h0), (some (a1)), (l2), (l3), (l4)), σ)
    else
      (rdR 1 σ a1 8).bind fun r3 =>
      (r3).bind fun a4 =>
      (ldI 11 σ a4 (l5)).bind fun v5 =>
      if v5 < 0 then
        s_X2_whoCanBe_j85 (h0) (some (a1)) (l2) (l3) (l5) σ
      else
        if 60 < v5 then
          s_X2_whoCanBe_j85 (h0) (some (a1)) (l2) (l3) (l5) σ
        else
          (rdR 2 σ h0 1).bind fun r6 =>
          (r6).bind fun a7 =>
          (ldR 16 σ a7 (l3)).bind fun r8 =>
          (r8).bind fun a9 =>
          (ldI 11 σ a9 (v5)).bind fun v10 =>
          (rdR 1 σ a1 9).bind fun r11 =>
          (r11).bind fun a12 =>
          (ldI 11 σ a12 (l5)).bind fun v13 =>
          if v10 = v13 then
            s_X2_whoCanBe_j88 (h0) (some (a1)) (l2) (l3) (l4) (l5) σ
          else
            s_X2_whoCanBe_j85 (h0) (some (a1)) (l2) (l3) (l5) σ
noncomputable def s_X2_whoCanBe_l29 : (Nat × (Option Nat) × Int32 × Int32 × Int32 × Int32) → Hp → Option (((Nat × (Option Nat) × Int32 × Int32 × Int32)) × Hp) := loopF (fun v => s_X2_whoCanBe_b29 (v.1) (v.2.1) (v.2.2.1) (v.2.2.2.1) (v.2.2.2.2.1) (v.2.2.2.2.2))
set_option maxRecDepth 100000 in
theorem w_X2_whoCanBe_b29 {E : E0} (hE : EOK E) {X : X0} (C : XOK E X cX2_whoCanBe RX2 7 (some .int) rm_X2_whoCanBe) (hxn : xn X = (rm_X2_whoCanBe.cells, rm_X2_whoCanBe.slots)) {KE : ((Nat × (Option Nat) × Int32 × Int32 × Int32)) → Hp → Prop} (e_94 : ∀ (h0 : Nat) (l1 : Option Nat) (l2 : Int32) (l3 : Int32) (l4 : Int32) (σ : Hp), KE ((h0, l1, l2, l3, l4)) σ → G E X 0 0 94 [(0, tR (some (h0))), (1, tR (l1)), (2, tI (l2)), (3, tI (l3)), (4, tI (l4))] [] σ) (h0 : Nat) (l1 : Option Nat) (l2 : Int32) (l3 : Int32) (l4 : Int32) (l5 : Int32) (σ : Hp) (x : (Nat × (Option Nat) × Int32 × Int32 × Int32 × Int32) ⊕ ((Nat × (Option Nat) × Int32 × Int32 × Int32))) (σ1 : Hp) (h : s_X2_whoCanBe_b29 h0 l1 l2 l3 l4 l5 σ = some (x, σ1)) (hI : ∀ v, x = Sum.inl v → (fun (v : Nat × (Option Nat) × Int32 × Int32 × Int32 × Int32) (σ : Hp) => G E X 0 0 29 [(0, tR (some ((v.1)))), (1, tR ((v.2.1))), (2, tI ((v.2.2.1))), (3, tI ((v.2.2.2.1))), (4, tI ((v.2.2.2.2.1))), (5, tI ((v.2.2.2.2.2)))] [] σ) v σ1) (hO : ∀ e, x = Sum.inr e → KE e σ1) : G E X 0 0 29 [(0, tR (some (h0))), (1, tR (l1)), (2, tI (l2)), (3, tI (l3)), (4, tI (l4)), (5, tI (l5))] [] σ := by
  unfold s_X2_whoCanBe_b29 at h
  refine g_iload (pc := 29) C 5 dX2_whoCanBe_29 rfl ?_
  refine g_aload_n (pc := 31) C 1 1 dX2_whoCanBe_31 rfl rfl ?_
  obtain ⟨a1, hqa1, h9⟩ := zbind h
  clear h
  subst hqa1
  have h := h9
  clear h9
  obtain ⟨v2, hvv2, h⟩ := zbind h
  refine g_getI (N := 20) (pc := 32) C ck_1 hvv2 rfl rfl fl_X2_112 dX2_whoCanBe_32 ?_
  refine g_icmp_ge (pc := 35) C 94 dX2_whoCanBe_35 (by decide) (fun c18 => ?_) (fun c18 => ?_)
  · have h := zif_t c18 h
    refine g_sub [0, 1, 2, 3, 4] (lm' := [(0, tR (some (h0))), (1, tR (some (a1))), (2, tI (l2)), (3, tI (l3)), (4, tI (l4))]) rfl ?_
    obtain ⟨rfl, rfl⟩ := zsome h
    exact e_94 _ _ _ _ _ _ (hO _ rfl)
  · have h := zif_f c18 h
    refine g_iload (pc := 38) C 5 dX2_whoCanBe_38 rfl ?_
    refine g_bipush (v := 6) (pc := 40) C dX2_whoCanBe_40 (by decide) ?_
    refine g_icmp_ge (pc := 42) C 94 dX2_whoCanBe_42 (by decide) (fun c17 => ?_) (fun c17 => ?_)
    · have h := zif_t c17 h
      refine g_sub [0, 1, 2, 3, 4] (lm' := [(0, tR (some (h0))), (1, tR (some (a1))), (2, tI (l2)), (3, tI (l3)), (4, tI (l4))]) rfl ?_
      obtain ⟨rfl, rfl⟩ := zsome h
      exact e_94 _ _ _ _ _ _ (hO _ rfl)
    · have h := zif_f c17 h
      refine g_aload_n (pc := 45) C 1 1 dX2_whoCanBe_45 rfl rfl ?_
      obtain ⟨r3, hvr3, h⟩ := zbind h
      refine g_getR (N := 20) (pc := 46) C ck_1 hvr3 rfl rfl fl_X2_115 dX2_whoCanBe_46 ?_
      refine g_iload (pc := 49) C 5 dX2_whoCanBe_49 rfl ?_
      obtain ⟨a4, hqa4, h9⟩ := zbind h
      clear h
      subst hqa4
      have h := h9
      clear h9
      obtain ⟨v5, hvv5, h⟩ := zbind h
      refine g_iald (pc := 51) C hvv5 dX2_whoCanBe_51 ?_
      refine g_istore (lm' := [(6, tI (v5)), (0, tR (some (h0))), (1, tR (some (a1))), (2, tI (l2)), (3, tI (l3)), (4, tI (l4)), (5, tI (l5))]) (pc := 52) C dX2_whoCanBe_52 (by decide) rfl ?_
      refine g_iload (pc := 54) C 0 dX2_whoCanBe_54 rfl ?_
      refine g_if_lt (pc := 56) C 85 dX2_whoCanBe_56 (by decide) (fun c16 => ?_) (fun c16 => ?_)
      · have h := zif_t c16 h
        refine g_sub [1, 2, 3, 4, 6] (lm' := [(0, tR (some (h0))), (1, tR (some (a1))), (2, tI (l2)), (3, tI (l3)), (5, tI (l5))]) rfl ?_
        exact w_X2_whoCanBe_j85 hE C hxn e_94 _ _ _ _ _ _ _ _ h hI hO
      · have h := zif_f c16 h
        refine g_iload (pc := 59) C 0 dX2_whoCanBe_59 rfl ?_
        refine g_bipush (v := 60) (pc := 61) C dX2_whoCanBe_61 (by decide) ?_
        refine g_icmp_gt (pc := 63) C 85 dX2_whoCanBe_63 (by decide) (fun c15 => ?_) (fun c15 => ?_)
        · have h := zif_t c15 h
          refine g_sub [1, 2, 3, 4, 6] (lm' := [(0, tR (some (h0))), (1, tR (some (a1))), (2, tI (l2)), (3, tI (l3)), (5, tI (l5))]) rfl ?_
          exact w_X2_whoCanBe_j85 hE C hxn e_94 _ _ _ _ _ _ _ _ h hI hO
        · have h := zif_f c15 h
          refine g_aload_n (pc := 66) C 0 1 dX2_whoCanBe_66 rfl rfl ?_
          obtain ⟨r6, hvr6, h⟩ := zbind h
          refine g_getR (N := 7) (pc := 67) C ck_2 hvr6 rfl rfl fl_X2_17 dX2_whoCanBe_67 ?_
          refine g_iload_n (pc := 70) C 3 4 dX2_whoCanBe_70 rfl rfl ?_
          obtain ⟨a7, hqa7, h9⟩ := zbind h
          clear h
          subst hqa7
          have h := h9
          clear h9
          obtain ⟨r8, hvr8, h⟩ := zbind h
          refine g_aald16 (pc := 71) C hvr8 dX2_whoCanBe_71 ?_
          refine g_iload (pc := 72) C 0 dX2_whoCanBe_72 rfl ?_
          obtain ⟨a9, hqa9, h9⟩ := zbind h
          clear h
          subst hqa9
          have h := h9
          clear h9
          obtain ⟨v10, hvv10, h⟩ := zbind h
          refine g_iald (pc := 74) C hvv10 dX2_whoCanBe_74 ?_
          refine g_aload_n (pc := 75) C 1 2 dX2_whoCanBe_75 rfl rfl ?_
          obtain ⟨r11, hvr11, h⟩ := zbind h
          refine g_getR (N := 20) (pc := 76) C ck_1 hvr11 rfl rfl fl_X2_118 dX2_whoCanBe_76 ?_
          refine g_iload (pc := 79) C 6 dX2_whoCanBe_79 rfl ?_
          obtain ⟨a12, hqa12, h9⟩ := zbind h
          clear h
          subst hqa12
          have h := h9
          clear h9
          obtain ⟨v13, hvv13, h⟩ := zbind h
          refine g_iald (pc := 81) C hvv13 dX2_whoCanBe_81 ?_
          refine g_icmp_eq (pc := 82) C 88 dX2_whoCanBe_82 (by decide) (fun c14 => ?_) (fun c14 => ?_)
          · have h := zif_t c14 h
            refine g_sub [1, 2, 3, 4, 5, 6] (lm' := [(0, tR (some (h0))), (1, tR (some (a1))), (2, tI (l2)), (3, tI (l3)), (4, tI (l4)), (5, tI (l5))]) rfl ?_
            exact w_X2_whoCanBe_j88 hE C hxn e_94 _ _ _ _ _ _ _ _ _ h hI hO
          · have h := zif_f c14 h
            refine g_sub [1, 2, 3, 4, 6] (lm' := [(0, tR (some (h0))), (1, tR (some (a1))), (2, tI (l2)), (3, tI (l3)), (5, tI (l5))]) rfl ?_
            exact w_X2_whoCanBe_j85 hE C hxn e_94 _ _ _ _ _ _ _ _ h hI hO
theorem w_X2_whoCanBe_l29 {E : E0} (hE : EOK E) {X : X0} (C : XOK E X cX2_whoCanBe RX2 7 (some .int) rm_X2_whoCanBe) (hxn : xn X = (rm_X2_whoCanBe.cells, rm_X2_whoCanBe.slots)) {KE : ((Nat × (Option Nat) × Int32 × Int32 × Int32)) → Hp → Prop} (e_94 : ∀ (h0 : Nat) (l1 : Option Nat) (l2 : Int32) (l3 : Int32) (l4 : Int32) (σ : Hp), KE ((h0, l1, l2, l3, l4)) σ → G E X 0 0 94 [(0, tR (some (h0))), (1, tR (l1)), (2, tI (l2)), (3, tI (l3)), (4, tI (l4))] [] σ) {v : Nat × (Option Nat) × Int32 × Int32 × Int32 × Int32} {σ : Hp} {e : (Nat × (Option Nat) × Int32 × Int32 × Int32)} {σ1 : Hp} (h : s_X2_whoCanBe_l29 v σ = some (e, σ1)) (hO : KE e σ1) : G E X 0 0 29 [(0, tR (some ((v.1)))), (1, tR ((v.2.1))), (2, tI ((v.2.2.1))), (3, tI ((v.2.2.2.1))), (4, tI ((v.2.2.2.2.1))), (5, tI ((v.2.2.2.2.2)))] [] σ := loopF_ind (P := fun (v : Nat × (Option Nat) × Int32 × Int32 × Int32 × Int32) (σ : Hp) => G E X 0 0 29 [(0, tR (some ((v.1)))), (1, tR ((v.2.1))), (2, tI ((v.2.2.1))), (3, tI ((v.2.2.2.1))), (4, tI ((v.2.2.2.2.1))), (5, tI ((v.2.2.2.2.2)))] [] σ) (KE := KE) (fun v σ x σ1 h hI hO => w_X2_whoCanBe_b29 hE C hxn e_94 (v.1) (v.2.1) (v.2.2.1) (v.2.2.2.1) (v.2.2.2.2.1) (v.2.2.2.2.2) σ x σ1 h hI hO) v σ e σ1 h hO
noncomputable def s_X2_whoCanBe_j107 (h0 : Nat) (l1 : Option Nat) (l3 : Int32) (t0 : Int32) (t1 : Int32) (σ : Hp) : Option (((Nat × (Option Nat) × Int32 × Int32) ⊕ (Int32)) × Hp) :=
  some (Sum.inl ((h0), (l1), (t0 ||| t1), (l3 + 1)), σ)
set_option maxRecDepth 100000 in
theorem w_X2_whoCanBe_j107 {E : E0} (hE : EOK E) {X : X0} (C : XOK E X cX2_whoCanBe RX2 7 (some .int) rm_X2_whoCanBe) (hxn : xn X = (rm_X2_whoCanBe.cells, rm_X2_whoCanBe.slots)) {KE : (Int32) → Hp → Prop} (e_ret : ∀ (r : Int32) (σ : Hp), KE (r) σ → xd X = (some (tI r), σ)) (h0 : Nat) (l1 : Option Nat) (l3 : Int32) (t0 : Int32) (t1 : Int32) (σ : Hp) (x : (Nat × (Option Nat) × Int32 × Int32) ⊕ (Int32)) (σ1 : Hp) (h : s_X2_whoCanBe_j107 h0 l1 l3 t0 t1 σ = some (x, σ1)) (hI : ∀ v, x = Sum.inl v → (fun (v : Nat × (Option Nat) × Int32 × Int32) (σ : Hp) => G E X 0 0 4 [(0, tR (some ((v.1)))), (1, tR ((v.2.1))), (2, tI ((v.2.2.1))), (3, tI ((v.2.2.2)))] [] σ) v σ1) (hO : ∀ e, x = Sum.inr e → KE e σ1) : G E X 0 0 107 [(0, tR (some (h0))), (1, tR (l1)), (3, tI (l3))] [tI (t1), tI (t0)] σ := by
  unfold s_X2_whoCanBe_j107 at h
  refine g_ior (pc := 107) C dX2_whoCanBe_107 ?_
  refine g_istore_n (lm' := [(2, tI (t0 ||| t1)), (0, tR (some (h0))), (1, tR (l1)), (3, tI (l3))]) (pc := 108) C 2 dX2_whoCanBe_108 rfl (by decide) rfl ?_
  refine g_iinc (lm' := [(3, tI (l3 + 1)), (2, tI (t0 ||| t1)), (0, tR (some (h0))), (1, tR (l1))]) (v := l3 + 1) (pc := 109) C 3 dX2_whoCanBe_109 rfl rfl (by decide) rfl ?_
  refine g_goto (pc := 112) C 4 dX2_whoCanBe_112 (by decide) ?_
  refine g_sub [2, 3, 1, 0] (lm' := [(0, tR (some (h0))), (1, tR (l1)), (2, tI (t0 ||| t1)), (3, tI (l3 + 1))]) rfl ?_
  obtain ⟨rfl, rfl⟩ := zsome h
  exact hI _ rfl
noncomputable def s_X2_whoCanBe_j94 (h0 : Nat) (l1 : Option Nat) (l2 : Int32) (l3 : Int32) (l4 : Int32) (σ : Hp) : Option (((Nat × (Option Nat) × Int32 × Int32) ⊕ (Int32)) × Hp) :=
  if l4 = 0 then
    s_X2_whoCanBe_j107 (h0) (l1) (l3) (l2) (0) σ
  else
    s_X2_whoCanBe_j107 (h0) (l1) (l3) (l2) ((1 : Int32) <<< (l3 &&& 31)) σ
set_option maxRecDepth 100000 in
theorem w_X2_whoCanBe_j94 {E : E0} (hE : EOK E) {X : X0} (C : XOK E X cX2_whoCanBe RX2 7 (some .int) rm_X2_whoCanBe) (hxn : xn X = (rm_X2_whoCanBe.cells, rm_X2_whoCanBe.slots)) {KE : (Int32) → Hp → Prop} (e_ret : ∀ (r : Int32) (σ : Hp), KE (r) σ → xd X = (some (tI r), σ)) (h0 : Nat) (l1 : Option Nat) (l2 : Int32) (l3 : Int32) (l4 : Int32) (σ : Hp) (x : (Nat × (Option Nat) × Int32 × Int32) ⊕ (Int32)) (σ1 : Hp) (h : s_X2_whoCanBe_j94 h0 l1 l2 l3 l4 σ = some (x, σ1)) (hI : ∀ v, x = Sum.inl v → (fun (v : Nat × (Option Nat) × Int32 × Int32) (σ : Hp) => G E X 0 0 4 [(0, tR (some ((v.1)))), (1, tR ((v.2.1))), (2, tI ((v.2.2.1))), (3, tI ((v.2.2.2)))] [] σ) v σ1) (hO : ∀ e, x = Sum.inr e → KE e σ1) : G E X 0 0 94 [(0, tR (some (h0))), (1, tR (l1)), (2, tI (l2)), (3, tI (l3)), (4, tI (l4))] [] σ := by
  unfold s_X2_whoCanBe_j94 at h
  refine g_iload_n (pc := 94) C 2 2 dX2_whoCanBe_94 rfl rfl ?_
  refine g_iload (pc := 95) C 4 dX2_whoCanBe_95 rfl ?_
  refine g_if_eq (pc := 97) C 106 dX2_whoCanBe_97 (by decide) (fun c1 => ?_) (fun c1 => ?_)
  · have h := zif_t c1 h
    refine g_iconst (v := 0) (pc := 106) C dX2_whoCanBe_106 (by decide) ?_
    refine g_sub [0, 1, 3] (lm' := [(0, tR (some (h0))), (1, tR (l1)), (3, tI (l3))]) rfl ?_
    exact w_X2_whoCanBe_j107 hE C hxn e_ret _ _ _ _ _ _ _ _ h hI hO
  · have h := zif_f c1 h
    refine g_iconst (v := 1) (pc := 100) C dX2_whoCanBe_100 (by decide) ?_
    refine g_iload_n (pc := 101) C 3 3 dX2_whoCanBe_101 rfl rfl ?_
    refine g_ishl (pc := 102) C dX2_whoCanBe_102 ?_
    refine g_goto (pc := 103) C 107 dX2_whoCanBe_103 (by decide) ?_
    refine g_sub [0, 1, 3] (lm' := [(0, tR (some (h0))), (1, tR (l1)), (3, tI (l3))]) rfl ?_
    exact w_X2_whoCanBe_j107 hE C hxn e_ret _ _ _ _ _ _ _ _ h hI hO
noncomputable def s_X2_whoCanBe_b4 (h0 : Nat) (l1 : Option Nat) (l2 : Int32) (l3 : Int32) (σ : Hp) : Option (((Nat × (Option Nat) × Int32 × Int32) ⊕ (Int32)) × Hp) :=
  (l1).bind fun a1 =>
  (rdI 1 σ a1 14).bind fun v2 =>
  if v2 ≤ l3 then
    some (Sum.inr (l2), σ)
  else
    if 3 ≤ l3 then
      some (Sum.inr (l2), σ)
    else
      (ck 2 σ h0).bind fun u3 =>
      cb (s_X2_drawTrack h0 (some (a1)) (l3) σ) fun v5 σ4 =>
      cb (s_X2_whoCanBe_l29 ((h0), (some (a1)), (l2), (l3), (1), (0)) σ4) fun e14 σ13 =>
      match e14 with
      | (h6, l17, l28, l39, l410) =>
        s_X2_whoCanBe_j94 (h6) (l17) (l28) (l39) (l410) σ13
noncomputable def s_X2_whoCanBe_l4 : (Nat × (Option Nat) × Int32 × Int32) → Hp → Option ((Int32) × Hp) := loopF (fun v => s_X2_whoCanBe_b4 (v.1) (v.2.1) (v.2.2.1) (v.2.2.2))
set_option maxRecDepth 100000 in
theorem w_X2_whoCanBe_b4 {E : E0} (hE : EOK E) {X : X0} (C : XOK E X cX2_whoCanBe RX2 7 (some .int) rm_X2_whoCanBe) (hxn : xn X = (rm_X2_whoCanBe.cells, rm_X2_whoCanBe.slots)) {KE : (Int32) → Hp → Prop} (e_ret : ∀ (r : Int32) (σ : Hp), KE (r) σ → xd X = (some (tI r), σ)) (h0 : Nat) (l1 : Option Nat) (l2 : Int32) (l3 : Int32) (σ : Hp) (x : (Nat × (Option Nat) × Int32 × Int32) ⊕ (Int32)) (σ1 : Hp) (h : s_X2_whoCanBe_b4 h0 l1 l2 l3 σ = some (x, σ1)) (hI : ∀ v, x = Sum.inl v → (fun (v : Nat × (Option Nat) × Int32 × Int32) (σ : Hp) => G E X 0 0 4 [(0, tR (some ((v.1)))), (1, tR ((v.2.1))), (2, tI ((v.2.2.1))), (3, tI ((v.2.2.2)))] [] σ) v σ1) (hO : ∀ e, x = Sum.inr e → KE e σ1) : G E X 0 0 4 [(0, tR (some (h0))), (1, tR (l1)), (2, tI (l2)), (3, tI (l3))] [] σ := by
  unfold s_X2_whoCanBe_b4 at h
  refine g_iload_n (pc := 4) C 3 3 dX2_whoCanBe_4 rfl rfl ?_
  refine g_aload_n (pc := 5) C 1 1 dX2_whoCanBe_5 rfl rfl ?_
  obtain ⟨a1, hqa1, h9⟩ := zbind h
  clear h
  subst hqa1
  have h := h9
  clear h9
  obtain ⟨v2, hvv2, h⟩ := zbind h
  refine g_getI (N := 20) (pc := 6) C ck_1 hvv2 rfl rfl fl_X2_105 dX2_whoCanBe_6 ?_
  refine g_icmp_ge (pc := 9) C 115 dX2_whoCanBe_9 (by decide) (fun c16 => ?_) (fun c16 => ?_)
  · have h := zif_t c16 h
    refine g_iload_n (pc := 115) C 2 2 dX2_whoCanBe_115 rfl rfl ?_
    obtain ⟨rfl, rfl⟩ := zsome h
    exact g_iret (pc := 116) C rfl (e_ret _ _ (hO _ rfl)) (by rw [hxn]; rfl) (by rw [hxn]; rfl) dX2_whoCanBe_116
  · have h := zif_f c16 h
    refine g_iload_n (pc := 12) C 3 3 dX2_whoCanBe_12 rfl rfl ?_
    refine g_iconst (v := 3) (pc := 13) C dX2_whoCanBe_13 (by decide) ?_
    refine g_icmp_ge (pc := 14) C 115 dX2_whoCanBe_14 (by decide) (fun c15 => ?_) (fun c15 => ?_)
    · have h := zif_t c15 h
      refine g_iload_n (pc := 115) C 2 2 dX2_whoCanBe_115 rfl rfl ?_
      obtain ⟨rfl, rfl⟩ := zsome h
      exact g_iret (pc := 116) C rfl (e_ret _ _ (hO _ rfl)) (by rw [hxn]; rfl) (by rw [hxn]; rfl) dX2_whoCanBe_116
    · have h := zif_f c15 h
      refine g_aload_n (pc := 17) C 0 0 dX2_whoCanBe_17 rfl rfl ?_
      refine g_aload_n (pc := 18) C 1 1 dX2_whoCanBe_18 rfl rfl ?_
      refine g_iload_n (pc := 19) C 3 3 dX2_whoCanBe_19 rfl rfl ?_
      obtain ⟨u3, hvu3, h⟩ := zbind h
      obtain ⟨v5, σ4, hvσ4, h⟩ := zcb h
      refine g_callV (pc := 20) (av := [tR (some (a1)), tI (l3)]) C (c_X2_drawTrack hE hvσ4) yv_X2_drawTrack ml_X2_109 ck_2 (zopt hvu3).1 rfl (rf_of (by decide)) rfl (Nat.le_of_ble_eq_true rfl) dX2_whoCanBe_20 ?_
      refine g_iconst (v := 1) (pc := 23) C dX2_whoCanBe_23 (by decide) ?_
      refine g_istore (lm' := [(4, tI (1)), (0, tR (some (h0))), (1, tR (some (a1))), (2, tI (l2)), (3, tI (l3))]) (pc := 24) C dX2_whoCanBe_24 (by decide) rfl ?_
      refine g_iconst (v := 0) (pc := 26) C dX2_whoCanBe_26 (by decide) ?_
      refine g_istore (lm' := [(5, tI (0)), (4, tI (1)), (0, tR (some (h0))), (1, tR (some (a1))), (2, tI (l2)), (3, tI (l3))]) (pc := 27) C dX2_whoCanBe_27 (by decide) rfl ?_
      refine g_sub [2, 3, 4, 5, 1, 0] (lm' := [(0, tR (some (h0))), (1, tR (some (a1))), (2, tI (l2)), (3, tI (l3)), (4, tI (1)), (5, tI (0))]) rfl ?_
      obtain ⟨KQ, hKQ, e14, σ13, hle14, h⟩ := zcbK h
      refine w_X2_whoCanBe_l29 (KE := KQ) hE C hxn ?_ hle14 h
      · intro h6 l17 l28 l39 l410 σ11 h
        have h := (hKQ _ _).mp h
        exact w_X2_whoCanBe_j94 hE C hxn e_ret _ _ _ _ _ _ _ _ h hI hO
theorem w_X2_whoCanBe_l4 {E : E0} (hE : EOK E) {X : X0} (C : XOK E X cX2_whoCanBe RX2 7 (some .int) rm_X2_whoCanBe) (hxn : xn X = (rm_X2_whoCanBe.cells, rm_X2_whoCanBe.slots)) {KE : (Int32) → Hp → Prop} (e_ret : ∀ (r : Int32) (σ : Hp), KE (r) σ → xd X = (some (tI r), σ)) {v : Nat × (Option Nat) × Int32 × Int32} {σ : Hp} {e : Int32} {σ1 : Hp} (h : s_X2_whoCanBe_l4 v σ = some (e, σ1)) (hO : KE e σ1) : G E X 0 0 4 [(0, tR (some ((v.1)))), (1, tR ((v.2.1))), (2, tI ((v.2.2.1))), (3, tI ((v.2.2.2)))] [] σ := loopF_ind (P := fun (v : Nat × (Option Nat) × Int32 × Int32) (σ : Hp) => G E X 0 0 4 [(0, tR (some ((v.1)))), (1, tR ((v.2.1))), (2, tI ((v.2.2.1))), (3, tI ((v.2.2.2)))] [] σ) (KE := KE) (fun v σ x σ1 h hI hO => w_X2_whoCanBe_b4 hE C hxn e_ret (v.1) (v.2.1) (v.2.2.1) (v.2.2.2) σ x σ1 h hI hO) v σ e σ1 h hO
noncomputable def s_X2_whoCanBe (h0 : Nat) (p1 : Option Nat) (σ : Hp) : Option (Int32 × Hp) :=
  cb (s_X2_whoCanBe_l4 ((h0), (p1), (0), (0)) σ) fun r2 σ3 =>
  some (r2, σ3)
set_option maxRecDepth 100000 in
theorem c_X2_whoCanBe {E : E0} (hE : EOK E) {h0 : Nat} {p1 : Option Nat} {σ σ1 : Hp} {r : Int32} (h : s_X2_whoCanBe h0 p1 σ = some (r, σ1)) : CT E yX2_whoCanBe (.code yX2_whoCanBe cX2_whoCanBe 7 (some .int)) rm_X2_whoCanBe [tR (some (h0)), tR (p1)] σ (some (tI r)) σ1 := by
  refine CT.mk hE (by decide +kernel) (Nat.le_of_ble_eq_true rfl) [(0, tR (some (h0))), (1, tR (p1))] rfl (fun X C hin hx hxn => ?_)
  have C : XOK E X cX2_whoCanBe RX2 7 (some .int) rm_X2_whoCanBe := C
  unfold s_X2_whoCanBe at h
  refine g_iconst (v := 0) (pc := 0) C dX2_whoCanBe_0 (by decide) ?_
  refine g_istore_n (lm' := [(2, tI (0)), (0, tR (some (h0))), (1, tR (p1))]) (pc := 1) C 2 dX2_whoCanBe_1 rfl (by decide) rfl ?_
  refine g_iconst (v := 0) (pc := 2) C dX2_whoCanBe_2 (by decide) ?_
  refine g_istore_n (lm' := [(3, tI (0)), (2, tI (0)), (0, tR (some (h0))), (1, tR (p1))]) (pc := 3) C 3 dX2_whoCanBe_3 rfl (by decide) rfl ?_
  refine g_sub [2, 3, 1, 0] (lm' := [(0, tR (some (h0))), (1, tR (p1)), (2, tI (0)), (3, tI (0))]) rfl ?_
  obtain ⟨KQ, hKQ, r2, σ3, hlr2, h⟩ := zcbK h
  refine w_X2_whoCanBe_l4 (KE := KQ) hE C hxn ?_ hlr2 h
  · intro r2 σ1 h
    have h := (hKQ _ _).mp h
    obtain ⟨rfl, rfl⟩ := zsome h
    exact hx
def rm_X2_mostTogether : Room := { frames := 1, cells := 0, slots := 0, locals := 23 }
noncomputable def s_X2_mostTogether_j85 (h0 : Nat) (l1 : Int32) (l2 : Int32) (l3 : Int32) (l4 : Int32) (σ : Hp) : Option (((Nat × Int32 × Int32 × Int32 × Int32) ⊕ (Int32)) × Hp) :=
  some (Sum.inl ((h0), (l1), (l2), (l3), (l4 + 1)), σ)
set_option maxRecDepth 100000 in
theorem w_X2_mostTogether_j85 {E : E0} (hE : EOK E) {X : X0} (C : XOK E X cX2_mostTogether RX2 6 (some .int) rm_X2_mostTogether) (hxn : xn X = (rm_X2_mostTogether.cells, rm_X2_mostTogether.slots)) {KE : (Int32) → Hp → Prop} (e_ret : ∀ (r : Int32) (σ : Hp), KE (r) σ → xd X = (some (tI r), σ)) (h0 : Nat) (l1 : Int32) (l2 : Int32) (l3 : Int32) (l4 : Int32) (σ : Hp) (x : (Nat × Int32 × Int32 × Int32 × Int32) ⊕ (Int32)) (σ1 : Hp) (h : s_X2_mostTogether_j85 h0 l1 l2 l3 l4 σ = some (x, σ1)) (hI : ∀ v, x = Sum.inl v → (fun (v : Nat × Int32 × Int32 × Int32 × Int32) (σ : Hp) => G E X 0 0 13 [(0, tR (some ((v.1)))), (1, tI ((v.2.1))), (2, tI ((v.2.2.1))), (3, tI ((v.2.2.2.1))), (4, tI ((v.2.2.2.2)))] [] σ) v σ1) (hO : ∀ e, x = Sum.inr e → KE e σ1) : G E X 0 0 85 [(0, tR (some (h0))), (1, tI (l1)), (2, tI (l2)), (3, tI (l3)), (4, tI (l4))] [] σ := by
  unfold s_X2_mostTogether_j85 at h
  refine g_iinc (lm' := [(4, tI (l4 + 1)), (0, tR (some (h0))), (1, tI (l1)), (2, tI (l2)), (3, tI (l3))]) (v := l4 + 1) (pc := 85) C 4 dX2_mostTogether_85 rfl rfl (by decide) rfl ?_
  refine g_goto (pc := 88) C 13 dX2_mostTogether_88 (by decide) ?_
  refine g_sub [1, 2, 3, 4, 0] (lm' := [(0, tR (some (h0))), (1, tI (l1)), (2, tI (l2)), (3, tI (l3)), (4, tI (l4 + 1))]) rfl ?_
  obtain ⟨rfl, rfl⟩ := zsome h
  exact hI _ rfl
noncomputable def s_X2_mostTogether_j51 (h0 : Nat) (l1 : Int32) (l2 : Int32) (l3 : Int32) (l4 : Int32) (t0 : Int32) (σ : Hp) : Option (((Nat × Int32 × Int32 × Int32 × Int32) ⊕ (Int32)) × Hp) :=
  cb (s_X8_isRoom (Int32.toInt64 (t0 : Int32)) σ) fun v2 σ1 =>
  if v2 = 0 then
    s_X2_mostTogether_j85 (h0) (l1) (l2) (l3) (l4) σ1
  else
    (rdR 2 σ1 h0 5).bind fun r3 =>
    (r3).bind fun a4 =>
    (ldI 11 σ1 a4 (t0)).bind fun v5 =>
    (stI σ1 a4 (t0) (v5 + 1)).bind fun σ6 =>
    (rdR 2 σ6 h0 5).bind fun r7 =>
    (r7).bind fun a8 =>
    (ldI 11 σ6 a8 (t0)).bind fun v9 =>
    s_X2_mostTogether_j85 (h0) (l1) (l2) (if l3 < v9 then v9 else l3) (l4) σ6
set_option maxRecDepth 100000 in
theorem w_X2_mostTogether_j51 {E : E0} (hE : EOK E) {X : X0} (C : XOK E X cX2_mostTogether RX2 6 (some .int) rm_X2_mostTogether) (hxn : xn X = (rm_X2_mostTogether.cells, rm_X2_mostTogether.slots)) {KE : (Int32) → Hp → Prop} (e_ret : ∀ (r : Int32) (σ : Hp), KE (r) σ → xd X = (some (tI r), σ)) (h0 : Nat) (l1 : Int32) (l2 : Int32) (l3 : Int32) (l4 : Int32) (t0 : Int32) (σ : Hp) (x : (Nat × Int32 × Int32 × Int32 × Int32) ⊕ (Int32)) (σ1 : Hp) (h : s_X2_mostTogether_j51 h0 l1 l2 l3 l4 t0 σ = some (x, σ1)) (hI : ∀ v, x = Sum.inl v → (fun (v : Nat × Int32 × Int32 × Int32 × Int32) (σ : Hp) => G E X 0 0 13 [(0, tR (some ((v.1)))), (1, tI ((v.2.1))), (2, tI ((v.2.2.1))), (3, tI ((v.2.2.2.1))), (4, tI ((v.2.2.2.2)))] [] σ) v σ1) (hO : ∀ e, x = Sum.inr e → KE e σ1) : G E X 0 0 51 [(0, tR (some (h0))), (1, tI (l1)), (2, tI (l2)), (3, tI (l3)), (4, tI (l4))] [tI (t0)] σ := by
  unfold s_X2_mostTogether_j51 at h
  refine g_istore (lm' := [(5, tI (t0)), (0, tR (some (h0))), (1, tI (l1)), (2, tI (l2)), (3, tI (l3)), (4, tI (l4))]) (pc := 51) C dX2_mostTogether_51 (by decide) rfl ?_
  refine g_iload (pc := 53) C 0 dX2_mostTogether_53 rfl ?_
  refine g_i2l (pc := 55) C dX2_mostTogether_55 ?_
  obtain ⟨v2, σ1, hvσ1, h⟩ := zcb h
  refine g_callSN (pc := 56) (av := [tJ (Int32.toInt64 (t0 : Int32))]) C (c_X8_isRoom hE hvσ1) ys_X8_isRoom ml_X2_127 rfl (rf_of (by decide)) rfl (Nat.le_of_ble_eq_true rfl) dX2_mostTogether_56 ?_
  refine g_if_eq (pc := 59) C 85 dX2_mostTogether_59 (by decide) (fun c10 => ?_) (fun c10 => ?_)
  · have h := zif_t c10 h
    refine g_sub [1, 2, 3, 4, 5] (lm' := [(0, tR (some (h0))), (1, tI (l1)), (2, tI (l2)), (3, tI (l3)), (4, tI (l4))]) rfl ?_
    exact w_X2_mostTogether_j85 hE C hxn e_ret _ _ _ _ _ _ _ _ h hI hO
  · have h := zif_f c10 h
    refine g_aload_n (pc := 62) C 0 1 dX2_mostTogether_62 rfl rfl ?_
    obtain ⟨r3, hvr3, h⟩ := zbind h
    refine g_getR (N := 7) (pc := 63) C ck_2 hvr3 rfl rfl fl_X2_29 dX2_mostTogether_63 ?_
    refine g_iload (pc := 66) C 0 dX2_mostTogether_66 rfl ?_
    refine g_dup2 (pc := 68) C dX2_mostTogether_68 rfl rfl ?_
    obtain ⟨a4, hqa4, h9⟩ := zbind h
    clear h
    subst hqa4
    have h := h9
    clear h9
    obtain ⟨v5, hvv5, h⟩ := zbind h
    refine g_iald (pc := 69) C hvv5 dX2_mostTogether_69 ?_
    refine g_iconst (v := 1) (pc := 70) C dX2_mostTogether_70 (by decide) ?_
    refine g_iadd (pc := 71) C dX2_mostTogether_71 ?_
    obtain ⟨σ6, hvσ6, h⟩ := zbind h
    refine g_iast (pc := 72) C hvσ6 dX2_mostTogether_72 ?_
    refine g_iload_n (pc := 73) C 3 4 dX2_mostTogether_73 rfl rfl ?_
    refine g_aload_n (pc := 74) C 0 1 dX2_mostTogether_74 rfl rfl ?_
    obtain ⟨r7, hvr7, h⟩ := zbind h
    refine g_getR (N := 7) (pc := 75) C ck_2 hvr7 rfl rfl fl_X2_29 dX2_mostTogether_75 ?_
    refine g_iload (pc := 78) C 0 dX2_mostTogether_78 rfl ?_
    obtain ⟨a8, hqa8, h9⟩ := zbind h
    clear h
    subst hqa8
    have h := h9
    clear h9
    obtain ⟨v9, hvv9, h⟩ := zbind h
    refine g_iald (pc := 80) C hvv9 dX2_mostTogether_80 ?_
    refine g_mmax (pc := 81) C ml_X2_131 ⟨Nat.le_of_ble_eq_true rfl, Nat.le_of_ble_eq_true rfl⟩ ⟨Nat.le_of_ble_eq_true rfl, Nat.le_of_ble_eq_true rfl⟩ dX2_mostTogether_81 ?_
    refine g_istore_n (lm' := [(3, tI (if l3 < v9 then v9 else l3)), (5, tI (t0)), (0, tR (some (h0))), (1, tI (l1)), (2, tI (l2)), (4, tI (l4))]) (pc := 84) C 3 dX2_mostTogether_84 rfl (by decide) rfl ?_
    refine g_sub [2, 3, 4, 0, 5] (lm' := [(0, tR (some (h0))), (1, tI (l1)), (2, tI (l2)), (3, tI (if l3 < v9 then v9 else l3)), (4, tI (l4))]) rfl ?_
    exact w_X2_mostTogether_j85 hE C hxn e_ret _ _ _ _ _ _ _ _ h hI hO
noncomputable def s_X2_mostTogether_j50 (h0 : Nat) (l1 : Int32) (l2 : Int32) (l3 : Int32) (l4 : Int32) (σ : Hp) : Option (((Nat × Int32 × Int32 × Int32 × Int32) ⊕ (Int32)) × Hp) :=
  s_X2_mostTogether_j51 (h0) (l1) (l2) (l3) (l4) ((-1)) σ
set_option maxRecDepth 100000 in
theorem w_X2_mostTogether_j50 {E : E0} (hE : EOK E) {X : X0} (C : XOK E X cX2_mostTogether RX2 6 (some .int) rm_X2_mostTogether) (hxn : xn X = (rm_X2_mostTogether.cells, rm_X2_mostTogether.slots)) {KE : (Int32) → Hp → Prop} (e_ret : ∀ (r : Int32) (σ : Hp), KE (r) σ → xd X = (some (tI r), σ)) (h0 : Nat) (l1 : Int32) (l2 : Int32) (l3 : Int32) (l4 : Int32) (σ : Hp) (x : (Nat × Int32 × Int32 × Int32 × Int32) ⊕ (Int32)) (σ1 : Hp) (h : s_X2_mostTogether_j50 h0 l1 l2 l3 l4 σ = some (x, σ1)) (hI : ∀ v, x = Sum.inl v → (fun (v : Nat × Int32 × Int32 × Int32 × Int32) (σ : Hp) => G E X 0 0 13 [(0, tR (some ((v.1)))), (1, tI ((v.2.1))), (2, tI ((v.2.2.1))), (3, tI ((v.2.2.2.1))), (4, tI ((v.2.2.2.2)))] [] σ) v σ1) (hO : ∀ e, x = Sum.inr e → KE e σ1) : G E X 0 0 50 [(0, tR (some (h0))), (1, tI (l1)), (2, tI (l2)), (3, tI (l3)), (4, tI (l4))] [] σ := by
  unfold s_X2_mostTogether_j50 at h
  refine g_iconst (v := (-1)) (pc := 50) C dX2_mostTogether_50 (by decide) ?_
  exact w_X2_mostTogether_j51 hE C hxn e_ret _ _ _ _ _ _ _ _ _ h hI hO
noncomputable def s_X2_mostTogether_b13 (h0 : Nat) (l1 : Int32) (l2 : Int32) (l3 : Int32) (l4 : Int32) (σ : Hp) : Option (((Nat × Int32 × Int32 × Int32 × Int32) ⊕ (Int32)) × Hp) :=
  if 3 ≤ l4 then
    some (Sum.inr (l3), σ)
  else
    cb (s_X8_hasBit (l1) (l4) σ) fun v2 σ1 =>
    if v2 = 0 then
      s_X2_mostTogether_j50 (h0) (l1) (l2) (l3) (l4) σ1
    else
      if l2 < 0 then
        s_X2_mostTogether_j50 (h0) (l1) (l2) (l3) (l4) σ1
      else
        if 60 < l2 then
          s_X2_mostTogether_j50 (h0) (l1) (l2) (l3) (l4) σ1
        else
          (rdR 2 σ1 h0 1).bind fun r3 =>
          (r3).bind fun a4 =>
          (ldR 16 σ1 a4 (l4)).bind fun r5 =>
          (r5).bind fun a6 =>
          (ldI 11 σ1 a6 (l2)).bind fun v7 =>
          s_X2_mostTogether_j51 (h0) (l1) (l2) (l3) (l4) (v7) σ1
noncomputable def s_X2_mostTogether_l13 : (Nat × Int32 × Int32 × Int32 × Int32) → Hp → Option ((Int32) × Hp) := loopF (fun v => s_X2_mostTogether_b13 (v.1) (v.2.1) (v.2.2.1) (v.2.2.2.1) (v.2.2.2.2))
set_option maxRecDepth 100000 in
theorem w_X2_mostTogether_b13 {E : E0} (hE : EOK E) {X : X0} (C : XOK E X cX2_mostTogether RX2 6 (some .int) rm_X2_mostTogether) (hxn : xn X = (rm_X2_mostTogether.cells, rm_X2_mostTogether.slots)) {KE : (Int32) → Hp → Prop} (e_ret : ∀ (r : Int32) (σ : Hp), KE (r) σ → xd X = (some (tI r), σ)) (h0 : Nat) (l1 : Int32) (l2 : Int32) (l3 : Int32) (l4 : Int32) (σ : Hp) (x : (Nat × Int32 × Int32 × Int32 × Int32) ⊕ (Int32)) (σ1 : Hp) (h : s_X2_mostTogether_b13 h0 l1 l2 l3 l4 σ = some (x, σ1)) (hI : ∀ v, x = Sum.inl v → (fun (v : Nat × Int32 × Int32 × Int32 × Int32) (σ : Hp) => G E X 0 0 13 [(0, tR (some ((v.1)))), (1, tI ((v.2.1))), (2, tI ((v.2.2.1))), (3, tI ((v.2.2.2.1))), (4, tI ((v.2.2.2.2)))] [] σ) v σ1) (hO : ∀ e, x = Sum.inr e → KE e σ1) : G E X 0 0 13 [(0, tR (some (h0))), (1, tI (l1)), (2, tI (l2)), (3, tI (l3)), (4, tI (l4))] [] σ := by
  unfold s_X2_mostTogether_b13 at h
  refine g_iload (pc := 13) C 4 dX2_mostTogether_13 rfl ?_
  refine g_iconst (v := 3) (pc := 15) C dX2_mostTogether_15 (by decide) ?_
  refine g_icmp_ge (pc := 16) C 91 dX2_mostTogether_16 (by decide) (fun c11 => ?_) (fun c11 => ?_)
  · have h := zif_t c11 h
    refine g_iload_n (pc := 91) C 3 3 dX2_mostTogether_91 rfl rfl ?_
    obtain ⟨rfl, rfl⟩ := zsome h
    exact g_iret (pc := 92) C rfl (e_ret _ _ (hO _ rfl)) (by rw [hxn]; rfl) (by rw [hxn]; rfl) dX2_mostTogether_92
  · have h := zif_f c11 h
    refine g_iload_n (pc := 19) C 1 1 dX2_mostTogether_19 rfl rfl ?_
    refine g_iload (pc := 20) C 4 dX2_mostTogether_20 rfl ?_
    obtain ⟨v2, σ1, hvσ1, h⟩ := zcb h
    refine g_callSN (pc := 22) (av := [tI (l1), tI (l4)]) C (c_X8_hasBit hE hvσ1) ys_X8_hasBit ml_X2_42 rfl (rf_of (by decide)) rfl (Nat.le_of_ble_eq_true rfl) dX2_mostTogether_22 ?_
    refine g_if_eq (pc := 25) C 50 dX2_mostTogether_25 (by decide) (fun c10 => ?_) (fun c10 => ?_)
    · have h := zif_t c10 h
      exact w_X2_mostTogether_j50 hE C hxn e_ret _ _ _ _ _ _ _ _ h hI hO
    · have h := zif_f c10 h
      refine g_iload_n (pc := 28) C 2 2 dX2_mostTogether_28 rfl rfl ?_
      refine g_if_lt (pc := 29) C 50 dX2_mostTogether_29 (by decide) (fun c9 => ?_) (fun c9 => ?_)
      · have h := zif_t c9 h
        exact w_X2_mostTogether_j50 hE C hxn e_ret _ _ _ _ _ _ _ _ h hI hO
      · have h := zif_f c9 h
        refine g_iload_n (pc := 32) C 2 2 dX2_mostTogether_32 rfl rfl ?_
        refine g_bipush (v := 60) (pc := 33) C dX2_mostTogether_33 (by decide) ?_
        refine g_icmp_gt (pc := 35) C 50 dX2_mostTogether_35 (by decide) (fun c8 => ?_) (fun c8 => ?_)
        · have h := zif_t c8 h
          exact w_X2_mostTogether_j50 hE C hxn e_ret _ _ _ _ _ _ _ _ h hI hO
        · have h := zif_f c8 h
          refine g_aload_n (pc := 38) C 0 0 dX2_mostTogether_38 rfl rfl ?_
          obtain ⟨r3, hvr3, h⟩ := zbind h
          refine g_getR (N := 7) (pc := 39) C ck_2 hvr3 rfl rfl fl_X2_17 dX2_mostTogether_39 ?_
          refine g_iload (pc := 42) C 4 dX2_mostTogether_42 rfl ?_
          obtain ⟨a4, hqa4, h9⟩ := zbind h
          clear h
          subst hqa4
          have h := h9
          clear h9
          obtain ⟨r5, hvr5, h⟩ := zbind h
          refine g_aald16 (pc := 44) C hvr5 dX2_mostTogether_44 ?_
          refine g_iload_n (pc := 45) C 2 2 dX2_mostTogether_45 rfl rfl ?_
          obtain ⟨a6, hqa6, h9⟩ := zbind h
          clear h
          subst hqa6
          have h := h9
          clear h9
          obtain ⟨v7, hvv7, h⟩ := zbind h
          refine g_iald (pc := 46) C hvv7 dX2_mostTogether_46 ?_
          refine g_goto (pc := 47) C 51 dX2_mostTogether_47 (by decide) ?_
          exact w_X2_mostTogether_j51 hE C hxn e_ret _ _ _ _ _ _ _ _ _ h hI hO
theorem w_X2_mostTogether_l13 {E : E0} (hE : EOK E) {X : X0} (C : XOK E X cX2_mostTogether RX2 6 (some .int) rm_X2_mostTogether) (hxn : xn X = (rm_X2_mostTogether.cells, rm_X2_mostTogether.slots)) {KE : (Int32) → Hp → Prop} (e_ret : ∀ (r : Int32) (σ : Hp), KE (r) σ → xd X = (some (tI r), σ)) {v : Nat × Int32 × Int32 × Int32 × Int32} {σ : Hp} {e : Int32} {σ1 : Hp} (h : s_X2_mostTogether_l13 v σ = some (e, σ1)) (hO : KE e σ1) : G E X 0 0 13 [(0, tR (some ((v.1)))), (1, tI ((v.2.1))), (2, tI ((v.2.2.1))), (3, tI ((v.2.2.2.1))), (4, tI ((v.2.2.2.2)))] [] σ := loopF_ind (P := fun (v : Nat × Int32 × Int32 × Int32 × Int32) (σ : Hp) => G E X 0 0 13 [(0, tR (some ((v.1)))), (1, tI ((v.2.1))), (2, tI ((v.2.2.1))), (3, tI ((v.2.2.2.1))), (4, tI ((v.2.2.2.2)))] [] σ) (KE := KE) (fun v σ x σ1 h hI hO => w_X2_mostTogether_b13 hE C hxn e_ret (v.1) (v.2.1) (v.2.2.1) (v.2.2.2.1) (v.2.2.2.2) σ x σ1 h hI hO) v σ e σ1 h hO
noncomputable def s_X2_mostTogether (h0 : Nat) (p1 : Int32) (p2 : Int32) (σ : Hp) : Option (Int32 × Hp) :=
  (rdR 2 σ h0 5).bind fun r1 =>
  cb (s_J7_fill_53178 (r1) (0) σ) fun v3 σ2 =>
  cb (s_X2_mostTogether_l13 ((h0), (p1), (p2), (0), (0)) σ2) fun r5 σ6 =>
  some (r5, σ6)
set_option maxRecDepth 100000 in
theorem c_X2_mostTogether {E : E0} (hE : EOK E) {h0 : Nat} {p1 : Int32} {p2 : Int32} {σ σ1 : Hp} {r : Int32} (h : s_X2_mostTogether h0 p1 p2 σ = some (r, σ1)) : CT E yX2_mostTogether (.code yX2_mostTogether cX2_mostTogether 6 (some .int)) rm_X2_mostTogether [tR (some (h0)), tI (p1), tI (p2)] σ (some (tI r)) σ1 := by
  refine CT.mk hE (by decide +kernel) (Nat.le_of_ble_eq_true rfl) [(0, tR (some (h0))), (1, tI (p1)), (2, tI (p2))] rfl (fun X C hin hx hxn => ?_)
  have C : XOK E X cX2_mostTogether RX2 6 (some .int) rm_X2_mostTogether := C
  unfold s_X2_mostTogether at h
  refine g_aload_n (pc := 0) C 0 0 dX2_mostTogether_0 rfl rfl ?_
  obtain ⟨r1, hvr1, h⟩ := zbind h
  refine g_getR (N := 7) (pc := 1) C ck_2 hvr1 rfl rfl fl_X2_29 dX2_mostTogether_1 ?_
  refine g_iconst (v := 0) (pc := 4) C dX2_mostTogether_4 (by decide) ?_
  obtain ⟨v3, σ2, hvσ2, h⟩ := zcb h
  refine g_callS (pc := 5) (av := [tR (r1), tI (0)]) C (c_J7_fill_53178 hE hvσ2) ys_J7_fill_53178 ml_X2_121 rfl (rf_of (by decide)) rfl (Nat.le_of_ble_eq_true rfl) dX2_mostTogether_5 ?_
  refine g_iconst (v := 0) (pc := 8) C dX2_mostTogether_8 (by decide) ?_
  refine g_istore_n (lm' := [(3, tI (0)), (0, tR (some (h0))), (1, tI (p1)), (2, tI (p2))]) (pc := 9) C 3 dX2_mostTogether_9 rfl (by decide) rfl ?_
  refine g_iconst (v := 0) (pc := 10) C dX2_mostTogether_10 (by decide) ?_
  refine g_istore (lm' := [(4, tI (0)), (3, tI (0)), (0, tR (some (h0))), (1, tI (p1)), (2, tI (p2))]) (pc := 11) C dX2_mostTogether_11 (by decide) rfl ?_
  refine g_sub [2, 3, 4, 1, 0] (lm' := [(0, tR (some (h0))), (1, tI (p1)), (2, tI (p2)), (3, tI (0)), (4, tI (0))]) rfl ?_
  obtain ⟨KQ, hKQ, r5, σ6, hlr5, h⟩ := zcbK h
  refine w_X2_mostTogether_l13 (KE := KQ) hE C hxn ?_ hlr5 h
  · intro r5 σ4 h
    have h := (hKQ _ _).mp h
    obtain ⟨rfl, rfl⟩ := zsome h
    exact hx
def rm_J7_fill_d0a16 : Room := { frames := 0, cells := 0, slots := 0, locals := 0 }
noncomputable def s_J7_fill_d0a16_b6 (l0 : Option Nat) (l1 : Int64) (l3 : Int32) (l4 : Int32) (σ : Hp) : Option ((((Option Nat) × Int64 × Int32 × Int32) ⊕ (Unit)) × Hp) :=
  if l4 ≤ l3 then
    some (Sum.inr (), σ)
  else
    (l0).bind fun a1 =>
    (stJ σ a1 (l3) (l1)).bind fun σ2 =>
    some (Sum.inl ((some (a1)), (l1), (l3 + 1), (l4)), σ2)
noncomputable def s_J7_fill_d0a16_l6 : ((Option Nat) × Int64 × Int32 × Int32) → Hp → Option ((Unit) × Hp) := loopF (fun v => s_J7_fill_d0a16_b6 (v.1) (v.2.1) (v.2.2.1) (v.2.2.2))
set_option maxRecDepth 100000 in
theorem w_J7_fill_d0a16_b6 {E : E0} (hE : EOK E) {X : X0} (C : XOK E X cJ7_fill_d0a16 RJ7 5 none rm_J7_fill_d0a16) (hxn : xn X = (rm_J7_fill_d0a16.cells, rm_J7_fill_d0a16.slots)) {KE : (Unit) → Hp → Prop} (e_ret : ∀ (r : Unit) (σ : Hp), KE (r) σ → xd X = (none, σ)) (l0 : Option Nat) (l1 : Int64) (l3 : Int32) (l4 : Int32) (σ : Hp) (x : ((Option Nat) × Int64 × Int32 × Int32) ⊕ (Unit)) (σ1 : Hp) (h : s_J7_fill_d0a16_b6 l0 l1 l3 l4 σ = some (x, σ1)) (hI : ∀ v, x = Sum.inl v → (fun (v : (Option Nat) × Int64 × Int32 × Int32) (σ : Hp) => G E X 0 0 6 [(0, tR ((v.1))), (1, tJ ((v.2.1))), (3, tI ((v.2.2.1))), (4, tI ((v.2.2.2)))] [] σ) v σ1) (hO : ∀ e, x = Sum.inr e → KE e σ1) : G E X 0 0 6 [(0, tR (l0)), (1, tJ (l1)), (3, tI (l3)), (4, tI (l4))] [] σ := by
  unfold s_J7_fill_d0a16_b6 at h
  refine g_iload_n (pc := 6) C 3 2 dJ7_fill_d0a16_6 rfl rfl ?_
  refine g_iload (pc := 7) C 3 dJ7_fill_d0a16_7 rfl ?_
  refine g_icmp_ge (pc := 9) C 22 dJ7_fill_d0a16_9 (by decide) (fun c3 => ?_) (fun c3 => ?_)
  · have h := zif_t c3 h
    obtain ⟨rfl, rfl⟩ := zsome h
    exact g_vret (pc := 22) C rfl (e_ret _ _ (hO _ rfl)) (by rw [hxn]; rfl) (by rw [hxn]; rfl) dJ7_fill_d0a16_22
  · have h := zif_f c3 h
    refine g_aload_n (pc := 12) C 0 0 dJ7_fill_d0a16_12 rfl rfl ?_
    refine g_iload_n (pc := 13) C 3 2 dJ7_fill_d0a16_13 rfl rfl ?_
    refine g_lload_n (pc := 14) C 1 1 dJ7_fill_d0a16_14 rfl rfl ?_
    obtain ⟨a1, hqa1, h9⟩ := zbind h
    clear h
    subst hqa1
    have h := h9
    clear h9
    obtain ⟨σ2, hvσ2, h⟩ := zbind h
    refine g_last (pc := 15) C hvσ2 dJ7_fill_d0a16_15 ?_
    refine g_iinc (lm' := [(3, tI (l3 + 1)), (0, tR (some (a1))), (1, tJ (l1)), (4, tI (l4))]) (v := l3 + 1) (pc := 16) C 2 dJ7_fill_d0a16_16 rfl rfl (by decide) rfl ?_
    refine g_goto (pc := 19) C 6 dJ7_fill_d0a16_19 (by decide) ?_
    refine g_sub [1, 2, 0, 3] (lm' := [(0, tR (some (a1))), (1, tJ (l1)), (3, tI (l3 + 1)), (4, tI (l4))]) rfl ?_
    obtain ⟨rfl, rfl⟩ := zsome h
    exact hI _ rfl
theorem w_J7_fill_d0a16_l6 {E : E0} (hE : EOK E) {X : X0} (C : XOK E X cJ7_fill_d0a16 RJ7 5 none rm_J7_fill_d0a16) (hxn : xn X = (rm_J7_fill_d0a16.cells, rm_J7_fill_d0a16.slots)) {KE : (Unit) → Hp → Prop} (e_ret : ∀ (r : Unit) (σ : Hp), KE (r) σ → xd X = (none, σ)) {v : (Option Nat) × Int64 × Int32 × Int32} {σ : Hp} {e : Unit} {σ1 : Hp} (h : s_J7_fill_d0a16_l6 v σ = some (e, σ1)) (hO : KE e σ1) : G E X 0 0 6 [(0, tR ((v.1))), (1, tJ ((v.2.1))), (3, tI ((v.2.2.1))), (4, tI ((v.2.2.2)))] [] σ := loopF_ind (P := fun (v : (Option Nat) × Int64 × Int32 × Int32) (σ : Hp) => G E X 0 0 6 [(0, tR ((v.1))), (1, tJ ((v.2.1))), (3, tI ((v.2.2.1))), (4, tI ((v.2.2.2)))] [] σ) (KE := KE) (fun v σ x σ1 h hI hO => w_J7_fill_d0a16_b6 hE C hxn e_ret (v.1) (v.2.1) (v.2.2.1) (v.2.2.2) σ x σ1 h hI hO) v σ e σ1 h hO
noncomputable def s_J7_fill_d0a16 (p0 : Option Nat) (p1 : Int64) (σ : Hp) : Option (Unit × Hp) :=
  (p0).bind fun a1 =>
  (lnA 12 σ a1).bind fun v2 =>
  cb (s_J7_fill_d0a16_l6 ((some (a1)), (p1), (0), (v2)) σ) fun r4 σ5 =>
  some (r4, σ5)
set_option maxRecDepth 100000 in
theorem c_J7_fill_d0a16 {E : E0} (hE : EOK E) {p0 : Option Nat} {p1 : Int64} {σ σ1 : Hp} {r : Unit} (h : s_J7_fill_d0a16 p0 p1 σ = some (r, σ1)) : CT E yJ7_fill_d0a16 (.code yJ7_fill_d0a16 cJ7_fill_d0a16 5 none) rm_J7_fill_d0a16 [tR (p0), tJ (p1)] σ none σ1 := by
  refine CT.mk hE (by decide +kernel) (Nat.le_of_ble_eq_true rfl) [(0, tR (p0)), (1, tJ (p1))] rfl (fun X C hin hx hxn => ?_)
  have C : XOK E X cJ7_fill_d0a16 RJ7 5 none rm_J7_fill_d0a16 := C
  unfold s_J7_fill_d0a16 at h
  refine g_iconst (v := 0) (pc := 0) C dJ7_fill_d0a16_0 (by decide) ?_
  refine g_istore_n (lm' := [(3, tI (0)), (0, tR (p0)), (1, tJ (p1))]) (pc := 1) C 3 dJ7_fill_d0a16_1 rfl (by decide) rfl ?_
  refine g_aload_n (pc := 2) C 0 1 dJ7_fill_d0a16_2 rfl rfl ?_
  obtain ⟨a1, hqa1, h9⟩ := zbind h
  clear h
  subst hqa1
  have h := h9
  clear h9
  obtain ⟨v2, hvv2, h⟩ := zbind h
  refine g_alen (c := 12) (pc := 3) C (by decide) hvv2 dJ7_fill_d0a16_3 ?_
  refine g_istore (lm' := [(4, tI (v2)), (3, tI (0)), (0, tR (some (a1))), (1, tJ (p1))]) (pc := 4) C dJ7_fill_d0a16_4 (by decide) rfl ?_
  refine g_sub [2, 3, 1, 0] (lm' := [(0, tR (some (a1))), (1, tJ (p1)), (3, tI (0)), (4, tI (v2))]) rfl ?_
  obtain ⟨KQ, hKQ, r4, σ5, hlr4, h⟩ := zcbK h
  refine w_J7_fill_d0a16_l6 (KE := KQ) hE C hxn ?_ hlr4 h
  · intro r4 σ3 h
    have h := (hKQ _ _).mp h
    obtain ⟨rfl, rfl⟩ := zsome h
    exact hx
def rm_X2_chanceOfFew : Room := { frames := 1, cells := 0, slots := 0, locals := 24 }
noncomputable def s_X2_chanceOfFew_j73 (h0 : Nat) (l2 : Int32) (l3 : Int32) (l4 : Int32) (l5 : Int32) (l6 : Int32) (t0 : Int64) (σ : Hp) : Option (((Nat × Int32 × Int32 × Int32 × Int32 × Int32) ⊕ ((Nat × Int32 × Int32 × Int32 × Int32))) × Hp) :=
  (rdR 2 σ h0 6).bind fun r1 =>
  (rdR 2 σ h0 6).bind fun r2 =>
  (r2).bind fun a3 =>
  (ldJ σ a3 (l6)).bind fun v4 =>
  (r1).bind fun a5 =>
  (stJ σ a5 (l6) (((v4 * (Int32.toInt64 (10 - l3 : Int32))) / 10) + t0)).bind fun σ6 =>
  some (Sum.inl ((h0), (l2), (l3), (l4), (l5), (l6 + (-1))), σ6)
set_option maxRecDepth 100000 in
theorem w_X2_chanceOfFew_j73 {E : E0} (hE : EOK E) {X : X0} (C : XOK E X cX2_chanceOfFew RX2 9 (some .long) rm_X2_chanceOfFew) (hxn : xn X = (rm_X2_chanceOfFew.cells, rm_X2_chanceOfFew.slots)) {KE : ((Nat × Int32 × Int32 × Int32 × Int32)) → Hp → Prop} (e_108 : ∀ (h0 : Nat) (l2 : Int32) (l3 : Int32) (l4 : Int32) (l5 : Int32) (σ : Hp), KE ((h0, l2, l3, l4, l5)) σ → G E X 0 0 108 [(0, tR (some (h0))), (2, tI (l2)), (3, tI (l3)), (4, tI (l4)), (5, tI (l5))] [] σ) (h0 : Nat) (l2 : Int32) (l3 : Int32) (l4 : Int32) (l5 : Int32) (l6 : Int32) (t0 : Int64) (σ : Hp) (x : (Nat × Int32 × Int32 × Int32 × Int32 × Int32) ⊕ ((Nat × Int32 × Int32 × Int32 × Int32))) (σ1 : Hp) (h : s_X2_chanceOfFew_j73 h0 l2 l3 l4 l5 l6 t0 σ = some (x, σ1)) (hI : ∀ v, x = Sum.inl v → (fun (v : Nat × Int32 × Int32 × Int32 × Int32 × Int32) (σ : Hp) => G E X 0 0 43 [(0, tR (some ((v.1)))), (2, tI ((v.2.1))), (3, tI ((v.2.2.1))), (4, tI ((v.2.2.2.1))), (5, tI ((v.2.2.2.2.1))), (6, tI ((v.2.2.2.2.2)))] [] σ) v σ1) (hO : ∀ e, x = Sum.inr e → KE e σ1) : G E X 0 0 73 [(0, tR (some (h0))), (2, tI (l2)), (3, tI (l3)), (4, tI (l4)), (5, tI (l5)), (6, tI (l6))] [tJ (t0)] σ := by
  unfold s_X2_chanceOfFew_j73 at h
  refine g_lstore (lm' := [(7, tJ (t0)), (0, tR (some (h0))), (2, tI (l2)), (3, tI (l3)), (4, tI (l4)), (5, tI (l5)), (6, tI (l6))]) (pc := 73) C dX2_chanceOfFew_73 (by decide) rfl ?_
  refine g_aload_n (pc := 75) C 0 1 dX2_chanceOfFew_75 rfl rfl ?_
  obtain ⟨r1, hvr1, h⟩ := zbind h
  refine g_getR (N := 7) (pc := 76) C ck_2 hvr1 rfl rfl fl_X2_32 dX2_chanceOfFew_76 ?_
  refine g_iload (pc := 79) C 6 dX2_chanceOfFew_79 rfl ?_
  refine g_aload_n (pc := 81) C 0 1 dX2_chanceOfFew_81 rfl rfl ?_
  obtain ⟨r2, hvr2, h⟩ := zbind h
  refine g_getR (N := 7) (pc := 82) C ck_2 hvr2 rfl rfl fl_X2_32 dX2_chanceOfFew_82 ?_
  refine g_iload (pc := 85) C 6 dX2_chanceOfFew_85 rfl ?_
  obtain ⟨a3, hqa3, h9⟩ := zbind h
  clear h
  subst hqa3
  have h := h9
  clear h9
  obtain ⟨v4, hvv4, h⟩ := zbind h
  refine g_lald (pc := 87) C hvv4 dX2_chanceOfFew_87 ?_
  refine g_bipush (v := 10) (pc := 88) C dX2_chanceOfFew_88 (by decide) ?_
  refine g_iload_n (pc := 90) C 3 3 dX2_chanceOfFew_90 rfl rfl ?_
  refine g_isub (pc := 91) C dX2_chanceOfFew_91 ?_
  refine g_i2l (pc := 92) C dX2_chanceOfFew_92 ?_
  refine g_lmul (pc := 93) C dX2_chanceOfFew_93 ?_
  refine g_ldc2 (v := 10) (pc := 94) C dX2_chanceOfFew_94 kl_X2_145 ?_
  refine g_ldiv (pc := 97) C dX2_chanceOfFew_97 (by decide) ?_
  refine g_lload (pc := 98) C 0 dX2_chanceOfFew_98 rfl ?_
  refine g_ladd (pc := 100) C dX2_chanceOfFew_100 ?_
  obtain ⟨a5, hqa5, h9⟩ := zbind h
  clear h
  subst hqa5
  have h := h9
  clear h9
  obtain ⟨σ6, hvσ6, h⟩ := zbind h
  refine g_last (pc := 101) C hvσ6 dX2_chanceOfFew_101 ?_
  refine g_iinc (lm' := [(6, tI (l6 + (-1))), (7, tJ (t0)), (0, tR (some (h0))), (2, tI (l2)), (3, tI (l3)), (4, tI (l4)), (5, tI (l5))]) (v := l6 + (-1)) (pc := 102) C 6 dX2_chanceOfFew_102 rfl rfl (by decide) rfl ?_
  refine g_goto (pc := 105) C 43 dX2_chanceOfFew_105 (by decide) ?_
  refine g_sub [2, 3, 4, 5, 6, 0] (lm' := [(0, tR (some (h0))), (2, tI (l2)), (3, tI (l3)), (4, tI (l4)), (5, tI (l5)), (6, tI (l6 + (-1)))]) rfl ?_
  obtain ⟨rfl, rfl⟩ := zsome h
  exact hI _ rfl
noncomputable def s_X2_chanceOfFew_b43 (h0 : Nat) (l2 : Int32) (l3 : Int32) (l4 : Int32) (l5 : Int32) (l6 : Int32) (σ : Hp) : Option (((Nat × Int32 × Int32 × Int32 × Int32 × Int32) ⊕ ((Nat × Int32 × Int32 × Int32 × Int32))) × Hp) :=
  if l6 < 0 then
    some (Sum.inr ((h0), (l2), (l3), (l4), (l5)), σ)
  else
    if l6 ≤ 0 then
      s_X2_chanceOfFew_j73 (h0) (l2) (l3) (l4) (l5) (l6) (0) σ
    else
      (rdR 2 σ h0 6).bind fun r1 =>
      (r1).bind fun a2 =>
      (ldJ σ a2 (l6 - 1)).bind fun v3 =>
      s_X2_chanceOfFew_j73 (h0) (l2) (l3) (l4) (l5) (l6) ((v3 * (Int32.toInt64 (l3 : Int32))) / 10) σ
noncomputable def s_X2_chanceOfFew_l43 : (Nat × Int32 × Int32 × Int32 × Int32 × Int32) → Hp → Option (((Nat × Int32 × Int32 × Int32 × Int32)) × Hp) := loopF (fun v => s_X2_chanceOfFew_b43 (v.1) (v.2.1) (v.2.2.1) (v.2.2.2.1) (v.2.2.2.2.1) (v.2.2.2.2.2))
set_option maxRecDepth 100000 in
theorem w_X2_chanceOfFew_b43 {E : E0} (hE : EOK E) {X : X0} (C : XOK E X cX2_chanceOfFew RX2 9 (some .long) rm_X2_chanceOfFew) (hxn : xn X = (rm_X2_chanceOfFew.cells, rm_X2_chanceOfFew.slots)) {KE : ((Nat × Int32 × Int32 × Int32 × Int32)) → Hp → Prop} (e_108 : ∀ (h0 : Nat) (l2 : Int32) (l3 : Int32) (l4 : Int32) (l5 : Int32) (σ : Hp), KE ((h0, l2, l3, l4, l5)) σ → G E X 0 0 108 [(0, tR (some (h0))), (2, tI (l2)), (3, tI (l3)), (4, tI (l4)), (5, tI (l5))] [] σ) (h0 : Nat) (l2 : Int32) (l3 : Int32) (l4 : Int32) (l5 : Int32) (l6 : Int32) (σ : Hp) (x : (Nat × Int32 × Int32 × Int32 × Int32 × Int32) ⊕ ((Nat × Int32 × Int32 × Int32 × Int32))) (σ1 : Hp) (h : s_X2_chanceOfFew_b43 h0 l2 l3 l4 l5 l6 σ = some (x, σ1)) (hI : ∀ v, x = Sum.inl v → (fun (v : Nat × Int32 × Int32 × Int32 × Int32 × Int32) (σ : Hp) => G E X 0 0 43 [(0, tR (some ((v.1)))), (2, tI ((v.2.1))), (3, tI ((v.2.2.1))), (4, tI ((v.2.2.2.1))), (5, tI ((v.2.2.2.2.1))), (6, tI ((v.2.2.2.2.2)))] [] σ) v σ1) (hO : ∀ e, x = Sum.inr e → KE e σ1) : G E X 0 0 43 [(0, tR (some (h0))), (2, tI (l2)), (3, tI (l3)), (4, tI (l4)), (5, tI (l5)), (6, tI (l6))] [] σ := by
  unfold s_X2_chanceOfFew_b43 at h
  refine g_iload (pc := 43) C 5 dX2_chanceOfFew_43 rfl ?_
  refine g_if_lt (pc := 45) C 108 dX2_chanceOfFew_45 (by decide) (fun c5 => ?_) (fun c5 => ?_)
  · have h := zif_t c5 h
    refine g_sub [0, 1, 2, 3, 4] (lm' := [(0, tR (some (h0))), (2, tI (l2)), (3, tI (l3)), (4, tI (l4)), (5, tI (l5))]) rfl ?_
    obtain ⟨rfl, rfl⟩ := zsome h
    exact e_108 _ _ _ _ _ _ (hO _ rfl)
  · have h := zif_f c5 h
    refine g_iload (pc := 48) C 5 dX2_chanceOfFew_48 rfl ?_
    refine g_if_le (pc := 50) C 72 dX2_chanceOfFew_50 (by decide) (fun c4 => ?_) (fun c4 => ?_)
    · have h := zif_t c4 h
      refine g_lconst (v := 0) (pc := 72) C dX2_chanceOfFew_72 (by decide) ?_
      exact w_X2_chanceOfFew_j73 hE C hxn e_108 _ _ _ _ _ _ _ _ _ _ h hI hO
    · have h := zif_f c4 h
      refine g_aload_n (pc := 53) C 0 0 dX2_chanceOfFew_53 rfl rfl ?_
      obtain ⟨r1, hvr1, h⟩ := zbind h
      refine g_getR (N := 7) (pc := 54) C ck_2 hvr1 rfl rfl fl_X2_32 dX2_chanceOfFew_54 ?_
      refine g_iload (pc := 57) C 5 dX2_chanceOfFew_57 rfl ?_
      refine g_iconst (v := 1) (pc := 59) C dX2_chanceOfFew_59 (by decide) ?_
      refine g_isub (pc := 60) C dX2_chanceOfFew_60 ?_
      obtain ⟨a2, hqa2, h9⟩ := zbind h
      clear h
      subst hqa2
      have h := h9
      clear h9
      obtain ⟨v3, hvv3, h⟩ := zbind h
      refine g_lald (pc := 61) C hvv3 dX2_chanceOfFew_61 ?_
      refine g_iload_n (pc := 62) C 3 2 dX2_chanceOfFew_62 rfl rfl ?_
      refine g_i2l (pc := 63) C dX2_chanceOfFew_63 ?_
      refine g_lmul (pc := 64) C dX2_chanceOfFew_64 ?_
      refine g_ldc2 (v := 10) (pc := 65) C dX2_chanceOfFew_65 kl_X2_145 ?_
      refine g_ldiv (pc := 68) C dX2_chanceOfFew_68 (by decide) ?_
      refine g_goto (pc := 69) C 73 dX2_chanceOfFew_69 (by decide) ?_
      exact w_X2_chanceOfFew_j73 hE C hxn e_108 _ _ _ _ _ _ _ _ _ _ h hI hO
theorem w_X2_chanceOfFew_l43 {E : E0} (hE : EOK E) {X : X0} (C : XOK E X cX2_chanceOfFew RX2 9 (some .long) rm_X2_chanceOfFew) (hxn : xn X = (rm_X2_chanceOfFew.cells, rm_X2_chanceOfFew.slots)) {KE : ((Nat × Int32 × Int32 × Int32 × Int32)) → Hp → Prop} (e_108 : ∀ (h0 : Nat) (l2 : Int32) (l3 : Int32) (l4 : Int32) (l5 : Int32) (σ : Hp), KE ((h0, l2, l3, l4, l5)) σ → G E X 0 0 108 [(0, tR (some (h0))), (2, tI (l2)), (3, tI (l3)), (4, tI (l4)), (5, tI (l5))] [] σ) {v : Nat × Int32 × Int32 × Int32 × Int32 × Int32} {σ : Hp} {e : (Nat × Int32 × Int32 × Int32 × Int32)} {σ1 : Hp} (h : s_X2_chanceOfFew_l43 v σ = some (e, σ1)) (hO : KE e σ1) : G E X 0 0 43 [(0, tR (some ((v.1)))), (2, tI ((v.2.1))), (3, tI ((v.2.2.1))), (4, tI ((v.2.2.2.1))), (5, tI ((v.2.2.2.2.1))), (6, tI ((v.2.2.2.2.2)))] [] σ := loopF_ind (P := fun (v : Nat × Int32 × Int32 × Int32 × Int32 × Int32) (σ : Hp) => G E X 0 0 43 [(0, tR (some ((v.1)))), (2, tI ((v.2.1))), (3, tI ((v.2.2.1))), (4, tI ((v.2.2.2.1))), (5, tI ((v.2.2.2.2.1))), (6, tI ((v.2.2.2.2.2)))] [] σ) (KE := KE) (fun v σ x σ1 h hI hO => w_X2_chanceOfFew_b43 hE C hxn e_108 (v.1) (v.2.1) (v.2.2.1) (v.2.2.2.1) (v.2.2.2.2.1) (v.2.2.2.2.2) σ x σ1 h hI hO) v σ e σ1 h hO
noncomputable def s_X2_chanceOfFew_b31 (h0 : Nat) (l2 : Int32) (l3 : Int32) (l4 : Int32) (l5 : Int32) (σ : Hp) : Option (((Nat × Int32 × Int32 × Int32 × Int32) ⊕ ((Nat × Int32))) × Hp) :=
  if l2 ≤ l5 then
    some (Sum.inr ((h0), (l4)), σ)
  else
    cb (s_X2_chanceOfFew_l43 ((h0), (l2), (l3), (l4), (l5), (l4 - 1)) σ) fun e9 σ8 =>
    match e9 with
    | (h1, l22, l33, l44, l55) =>
      some (Sum.inl ((h1), (l22), (l33), (l44), (l55 + 1)), σ8)
noncomputable def s_X2_chanceOfFew_l31 : (Nat × Int32 × Int32 × Int32 × Int32) → Hp → Option (((Nat × Int32)) × Hp) := loopF (fun v => s_X2_chanceOfFew_b31 (v.1) (v.2.1) (v.2.2.1) (v.2.2.2.1) (v.2.2.2.2))
set_option maxRecDepth 100000 in
theorem w_X2_chanceOfFew_b31 {E : E0} (hE : EOK E) {X : X0} (C : XOK E X cX2_chanceOfFew RX2 9 (some .long) rm_X2_chanceOfFew) (hxn : xn X = (rm_X2_chanceOfFew.cells, rm_X2_chanceOfFew.slots)) {KE : ((Nat × Int32)) → Hp → Prop} (e_114 : ∀ (h0 : Nat) (l4 : Int32) (σ : Hp), KE ((h0, l4)) σ → G E X 0 0 114 [(0, tR (some (h0))), (4, tI (l4))] [] σ) (h0 : Nat) (l2 : Int32) (l3 : Int32) (l4 : Int32) (l5 : Int32) (σ : Hp) (x : (Nat × Int32 × Int32 × Int32 × Int32) ⊕ ((Nat × Int32))) (σ1 : Hp) (h : s_X2_chanceOfFew_b31 h0 l2 l3 l4 l5 σ = some (x, σ1)) (hI : ∀ v, x = Sum.inl v → (fun (v : Nat × Int32 × Int32 × Int32 × Int32) (σ : Hp) => G E X 0 0 31 [(0, tR (some ((v.1)))), (2, tI ((v.2.1))), (3, tI ((v.2.2.1))), (4, tI ((v.2.2.2.1))), (5, tI ((v.2.2.2.2)))] [] σ) v σ1) (hO : ∀ e, x = Sum.inr e → KE e σ1) : G E X 0 0 31 [(0, tR (some (h0))), (2, tI (l2)), (3, tI (l3)), (4, tI (l4)), (5, tI (l5))] [] σ := by
  unfold s_X2_chanceOfFew_b31 at h
  refine g_iload (pc := 31) C 4 dX2_chanceOfFew_31 rfl ?_
  refine g_iload_n (pc := 33) C 2 1 dX2_chanceOfFew_33 rfl rfl ?_
  refine g_icmp_ge (pc := 34) C 114 dX2_chanceOfFew_34 (by decide) (fun c10 => ?_) (fun c10 => ?_)
  · have h := zif_t c10 h
    refine g_sub [0, 3] (lm' := [(0, tR (some (h0))), (4, tI (l4))]) rfl ?_
    obtain ⟨rfl, rfl⟩ := zsome h
    exact e_114 _ _ _ (hO _ rfl)
  · have h := zif_f c10 h
    refine g_iload (pc := 37) C 3 dX2_chanceOfFew_37 rfl ?_
    refine g_iconst (v := 1) (pc := 39) C dX2_chanceOfFew_39 (by decide) ?_
    refine g_isub (pc := 40) C dX2_chanceOfFew_40 ?_
    refine g_istore (lm' := [(6, tI (l4 - 1)), (0, tR (some (h0))), (2, tI (l2)), (3, tI (l3)), (4, tI (l4)), (5, tI (l5))]) (pc := 41) C dX2_chanceOfFew_41 (by decide) rfl ?_
    refine g_sub [1, 2, 3, 4, 5, 0] (lm' := [(0, tR (some (h0))), (2, tI (l2)), (3, tI (l3)), (4, tI (l4)), (5, tI (l5)), (6, tI (l4 - 1))]) rfl ?_
    obtain ⟨KQ, hKQ, e9, σ8, hle9, h⟩ := zcbK h
    refine w_X2_chanceOfFew_l43 (KE := KQ) hE C hxn ?_ hle9 h
    · intro h1 l22 l33 l44 l55 σ6 h
      have h := (hKQ _ _).mp h
      refine g_iinc (lm' := [(5, tI (l55 + 1)), (0, tR (some (h1))), (2, tI (l22)), (3, tI (l33)), (4, tI (l44))]) (v := l55 + 1) (pc := 108) C 4 dX2_chanceOfFew_108 rfl rfl (by decide) rfl ?_
      refine g_goto (pc := 111) C 31 dX2_chanceOfFew_111 (by decide) ?_
      refine g_sub [1, 2, 3, 4, 0] (lm' := [(0, tR (some (h1))), (2, tI (l22)), (3, tI (l33)), (4, tI (l44)), (5, tI (l55 + 1))]) rfl ?_
      obtain ⟨rfl, rfl⟩ := zsome h
      exact hI _ rfl
theorem w_X2_chanceOfFew_l31 {E : E0} (hE : EOK E) {X : X0} (C : XOK E X cX2_chanceOfFew RX2 9 (some .long) rm_X2_chanceOfFew) (hxn : xn X = (rm_X2_chanceOfFew.cells, rm_X2_chanceOfFew.slots)) {KE : ((Nat × Int32)) → Hp → Prop} (e_114 : ∀ (h0 : Nat) (l4 : Int32) (σ : Hp), KE ((h0, l4)) σ → G E X 0 0 114 [(0, tR (some (h0))), (4, tI (l4))] [] σ) {v : Nat × Int32 × Int32 × Int32 × Int32} {σ : Hp} {e : (Nat × Int32)} {σ1 : Hp} (h : s_X2_chanceOfFew_l31 v σ = some (e, σ1)) (hO : KE e σ1) : G E X 0 0 31 [(0, tR (some ((v.1)))), (2, tI ((v.2.1))), (3, tI ((v.2.2.1))), (4, tI ((v.2.2.2.1))), (5, tI ((v.2.2.2.2)))] [] σ := loopF_ind (P := fun (v : Nat × Int32 × Int32 × Int32 × Int32) (σ : Hp) => G E X 0 0 31 [(0, tR (some ((v.1)))), (2, tI ((v.2.1))), (3, tI ((v.2.2.1))), (4, tI ((v.2.2.2.1))), (5, tI ((v.2.2.2.2)))] [] σ) (KE := KE) (fun v σ x σ1 h hI hO => w_X2_chanceOfFew_b31 hE C hxn e_114 (v.1) (v.2.1) (v.2.2.1) (v.2.2.2.1) (v.2.2.2.2) σ x σ1 h hI hO) v σ e σ1 h hO
noncomputable def s_X2_chanceOfFew_b120 (h0 : Nat) (l4 : Int32) (l5 : Int64) (l7 : Int32) (σ : Hp) : Option (((Nat × Int32 × Int64 × Int32) ⊕ (Int64)) × Hp) :=
  if l4 ≤ l7 then
    some (Sum.inr (l5), σ)
  else
    (rdR 2 σ h0 6).bind fun r1 =>
    (r1).bind fun a2 =>
    (ldJ σ a2 (l7)).bind fun v3 =>
    some (Sum.inl ((h0), (l4), (l5 + v3), (l7 + 1)), σ)
noncomputable def s_X2_chanceOfFew_l120 : (Nat × Int32 × Int64 × Int32) → Hp → Option ((Int64) × Hp) := loopF (fun v => s_X2_chanceOfFew_b120 (v.1) (v.2.1) (v.2.2.1) (v.2.2.2))
set_option maxRecDepth 100000 in
theorem w_X2_chanceOfFew_b120 {E : E0} (hE : EOK E) {X : X0} (C : XOK E X cX2_chanceOfFew RX2 9 (some .long) rm_X2_chanceOfFew) (hxn : xn X = (rm_X2_chanceOfFew.cells, rm_X2_chanceOfFew.slots)) {KE : (Int64) → Hp → Prop} (e_ret : ∀ (r : Int64) (σ : Hp), KE (r) σ → xd X = (some (tJ r), σ)) (h0 : Nat) (l4 : Int32) (l5 : Int64) (l7 : Int32) (σ : Hp) (x : (Nat × Int32 × Int64 × Int32) ⊕ (Int64)) (σ1 : Hp) (h : s_X2_chanceOfFew_b120 h0 l4 l5 l7 σ = some (x, σ1)) (hI : ∀ v, x = Sum.inl v → (fun (v : Nat × Int32 × Int64 × Int32) (σ : Hp) => G E X 0 0 120 [(0, tR (some ((v.1)))), (4, tI ((v.2.1))), (5, tJ ((v.2.2.1))), (7, tI ((v.2.2.2)))] [] σ) v σ1) (hO : ∀ e, x = Sum.inr e → KE e σ1) : G E X 0 0 120 [(0, tR (some (h0))), (4, tI (l4)), (5, tJ (l5)), (7, tI (l7))] [] σ := by
  unfold s_X2_chanceOfFew_b120 at h
  refine g_iload (pc := 120) C 3 dX2_chanceOfFew_120 rfl ?_
  refine g_iload (pc := 122) C 1 dX2_chanceOfFew_122 rfl ?_
  refine g_icmp_ge (pc := 124) C 145 dX2_chanceOfFew_124 (by decide) (fun c4 => ?_) (fun c4 => ?_)
  · have h := zif_t c4 h
    refine g_lload (pc := 145) C 2 dX2_chanceOfFew_145 rfl ?_
    obtain ⟨rfl, rfl⟩ := zsome h
    exact g_lret (pc := 147) C rfl (e_ret _ _ (hO _ rfl)) (by rw [hxn]; rfl) (by rw [hxn]; rfl) dX2_chanceOfFew_147
  · have h := zif_f c4 h
    refine g_lload (pc := 127) C 2 dX2_chanceOfFew_127 rfl ?_
    refine g_aload_n (pc := 129) C 0 0 dX2_chanceOfFew_129 rfl rfl ?_
    obtain ⟨r1, hvr1, h⟩ := zbind h
    refine g_getR (N := 7) (pc := 130) C ck_2 hvr1 rfl rfl fl_X2_32 dX2_chanceOfFew_130 ?_
    refine g_iload (pc := 133) C 3 dX2_chanceOfFew_133 rfl ?_
    obtain ⟨a2, hqa2, h9⟩ := zbind h
    clear h
    subst hqa2
    have h := h9
    clear h9
    obtain ⟨v3, hvv3, h⟩ := zbind h
    refine g_lald (pc := 135) C hvv3 dX2_chanceOfFew_135 ?_
    refine g_ladd (pc := 136) C dX2_chanceOfFew_136 ?_
    refine g_lstore (lm' := [(5, tJ (l5 + v3)), (0, tR (some (h0))), (4, tI (l4)), (7, tI (l7))]) (pc := 137) C dX2_chanceOfFew_137 (by decide) rfl ?_
    refine g_iinc (lm' := [(7, tI (l7 + 1)), (5, tJ (l5 + v3)), (0, tR (some (h0))), (4, tI (l4))]) (v := l7 + 1) (pc := 139) C 3 dX2_chanceOfFew_139 rfl rfl (by decide) rfl ?_
    refine g_goto (pc := 142) C 120 dX2_chanceOfFew_142 (by decide) ?_
    refine g_sub [2, 3, 1, 0] (lm' := [(0, tR (some (h0))), (4, tI (l4)), (5, tJ (l5 + v3)), (7, tI (l7 + 1))]) rfl ?_
    obtain ⟨rfl, rfl⟩ := zsome h
    exact hI _ rfl
theorem w_X2_chanceOfFew_l120 {E : E0} (hE : EOK E) {X : X0} (C : XOK E X cX2_chanceOfFew RX2 9 (some .long) rm_X2_chanceOfFew) (hxn : xn X = (rm_X2_chanceOfFew.cells, rm_X2_chanceOfFew.slots)) {KE : (Int64) → Hp → Prop} (e_ret : ∀ (r : Int64) (σ : Hp), KE (r) σ → xd X = (some (tJ r), σ)) {v : Nat × Int32 × Int64 × Int32} {σ : Hp} {e : Int64} {σ1 : Hp} (h : s_X2_chanceOfFew_l120 v σ = some (e, σ1)) (hO : KE e σ1) : G E X 0 0 120 [(0, tR (some ((v.1)))), (4, tI ((v.2.1))), (5, tJ ((v.2.2.1))), (7, tI ((v.2.2.2)))] [] σ := loopF_ind (P := fun (v : Nat × Int32 × Int64 × Int32) (σ : Hp) => G E X 0 0 120 [(0, tR (some ((v.1)))), (4, tI ((v.2.1))), (5, tJ ((v.2.2.1))), (7, tI ((v.2.2.2)))] [] σ) (KE := KE) (fun v σ x σ1 h hI hO => w_X2_chanceOfFew_b120 hE C hxn e_ret (v.1) (v.2.1) (v.2.2.1) (v.2.2.2) σ x σ1 h hI hO) v σ e σ1 h hO
noncomputable def s_X2_chanceOfFew (h0 : Nat) (p1 : Int32) (p2 : Int32) (p3 : Int32) (σ : Hp) : Option (Int64 × Hp) :=
  (rdR 2 σ h0 6).bind fun r1 =>
  (r1).bind fun a2 =>
  (lnA 12 σ a2).bind fun v3 =>
  (rdR 2 σ h0 6).bind fun r4 =>
  cb (s_J7_fill_d0a16 (r4) (0) σ) fun v6 σ5 =>
  (rdR 2 σ5 h0 6).bind fun r7 =>
  (r7).bind fun a8 =>
  (stJ σ5 a8 (0) (1000000000000)).bind fun σ9 =>
  cb (s_X2_chanceOfFew_l31 ((h0), (p2), (p3), (if v3 < p1 then v3 else p1), (0)) σ9) fun e19 σ18 =>
  match e19 with
  | (h10, l411) =>
    cb (s_X2_chanceOfFew_l120 ((h10), (l411), (0), (0)) σ18) fun r14 σ15 =>
    some (r14, σ15)
set_option maxRecDepth 100000 in
theorem c_X2_chanceOfFew {E : E0} (hE : EOK E) {h0 : Nat} {p1 : Int32} {p2 : Int32} {p3 : Int32} {σ σ1 : Hp} {r : Int64} (h : s_X2_chanceOfFew h0 p1 p2 p3 σ = some (r, σ1)) : CT E yX2_chanceOfFew (.code yX2_chanceOfFew cX2_chanceOfFew 9 (some .long)) rm_X2_chanceOfFew [tR (some (h0)), tI (p1), tI (p2), tI (p3)] σ (some (tJ r)) σ1 := by
  refine CT.mk hE (by decide +kernel) (Nat.le_of_ble_eq_true rfl) [(0, tR (some (h0))), (1, tI (p1)), (2, tI (p2)), (3, tI (p3))] rfl (fun X C hin hx hxn => ?_)
  have C : XOK E X cX2_chanceOfFew RX2 9 (some .long) rm_X2_chanceOfFew := C
  unfold s_X2_chanceOfFew at h
  refine g_iload_n (pc := 0) C 1 1 dX2_chanceOfFew_0 rfl rfl ?_
  refine g_aload_n (pc := 1) C 0 0 dX2_chanceOfFew_1 rfl rfl ?_
  obtain ⟨r1, hvr1, h⟩ := zbind h
  refine g_getR (N := 7) (pc := 2) C ck_2 hvr1 rfl rfl fl_X2_32 dX2_chanceOfFew_2 ?_
  obtain ⟨a2, hqa2, h9⟩ := zbind h
  clear h
  subst hqa2
  have h := h9
  clear h9
  obtain ⟨v3, hvv3, h⟩ := zbind h
  refine g_alen (c := 12) (pc := 5) C (by decide) hvv3 dX2_chanceOfFew_5 ?_
  refine g_mmin (pc := 6) C ml_X2_137 ⟨Nat.le_of_ble_eq_true rfl, Nat.le_of_ble_eq_true rfl⟩ ⟨Nat.le_of_ble_eq_true rfl, Nat.le_of_ble_eq_true rfl⟩ dX2_chanceOfFew_6 ?_
  refine g_istore (lm' := [(4, tI (if v3 < p1 then v3 else p1)), (0, tR (some (h0))), (1, tI (p1)), (2, tI (p2)), (3, tI (p3))]) (pc := 9) C dX2_chanceOfFew_9 (by decide) rfl ?_
  refine g_aload_n (pc := 11) C 0 1 dX2_chanceOfFew_11 rfl rfl ?_
  obtain ⟨r4, hvr4, h⟩ := zbind h
  refine g_getR (N := 7) (pc := 12) C ck_2 hvr4 rfl rfl fl_X2_32 dX2_chanceOfFew_12 ?_
  refine g_lconst (v := 0) (pc := 15) C dX2_chanceOfFew_15 (by decide) ?_
  obtain ⟨v6, σ5, hvσ5, h⟩ := zcb h
  refine g_callS (pc := 16) (av := [tR (r4), tJ (0)]) C (c_J7_fill_d0a16 hE hvσ5) ys_J7_fill_d0a16 ml_X2_140 rfl (rf_of (by decide)) rfl (Nat.le_of_ble_eq_true rfl) dX2_chanceOfFew_16 ?_
  refine g_aload_n (pc := 19) C 0 1 dX2_chanceOfFew_19 rfl rfl ?_
  obtain ⟨r7, hvr7, h⟩ := zbind h
  refine g_getR (N := 7) (pc := 20) C ck_2 hvr7 rfl rfl fl_X2_32 dX2_chanceOfFew_20 ?_
  refine g_iconst (v := 0) (pc := 23) C dX2_chanceOfFew_23 (by decide) ?_
  refine g_ldc2 (v := 1000000000000) (pc := 24) C dX2_chanceOfFew_24 kl_X2_143 ?_
  obtain ⟨a8, hqa8, h9⟩ := zbind h
  clear h
  subst hqa8
  have h := h9
  clear h9
  obtain ⟨σ9, hvσ9, h⟩ := zbind h
  refine g_last (pc := 27) C hvσ9 dX2_chanceOfFew_27 ?_
  refine g_iconst (v := 0) (pc := 28) C dX2_chanceOfFew_28 (by decide) ?_
  refine g_istore (lm' := [(5, tI (0)), (4, tI (if v3 < p1 then v3 else p1)), (0, tR (some (h0))), (1, tI (p1)), (2, tI (p2)), (3, tI (p3))]) (pc := 29) C dX2_chanceOfFew_29 (by decide) rfl ?_
  refine g_sub [2, 4, 5, 1, 0] (lm' := [(0, tR (some (h0))), (2, tI (p2)), (3, tI (p3)), (4, tI (if v3 < p1 then v3 else p1)), (5, tI (0))]) rfl ?_
  obtain ⟨KQ, hKQ, e19, σ18, hle19, h⟩ := zcbK h
  refine w_X2_chanceOfFew_l31 (KE := KQ) hE C hxn ?_ hle19 h
  · intro h10 l411 σ12 h
    have h := (hKQ _ _).mp h
    refine g_lconst (v := 0) (pc := 114) C dX2_chanceOfFew_114 (by decide) ?_
    refine g_lstore (lm' := [(5, tJ (0)), (0, tR (some (h10))), (4, tI (l411))]) (pc := 115) C dX2_chanceOfFew_115 (by decide) rfl ?_
    refine g_iconst (v := 0) (pc := 117) C dX2_chanceOfFew_117 (by decide) ?_
    refine g_istore (lm' := [(7, tI (0)), (5, tJ (0)), (0, tR (some (h10))), (4, tI (l411))]) (pc := 118) C dX2_chanceOfFew_118 (by decide) rfl ?_
    refine g_sub [2, 3, 1, 0] (lm' := [(0, tR (some (h10))), (4, tI (l411)), (5, tJ (0)), (7, tI (0))]) rfl ?_
    obtain ⟨KQ, hKQ, r14, σ15, hlr14, h⟩ := zcbK h
    refine w_X2_chanceOfFew_l120 (KE := KQ) hE C hxn ?_ hlr14 h
    · intro r14 σ13 h
      have h := (hKQ _ _).mp h
      obtain ⟨rfl, rfl⟩ := zsome h
      exact hx
def rm_X3_canBeLong : Room := { frames := 0, cells := 0, slots := 0, locals := 0 }
noncomputable def s_X3_canBeLong (p0 : Int32) (σ : Hp) : Option (Int32 × Hp) :=
  if p0 < 0 then
    some ((0), σ)
  else
    if 9 < p0 then
      some ((0), σ)
    else
      some ((1), σ)
set_option maxRecDepth 100000 in
theorem c_X3_canBeLong {E : E0} (hE : EOK E) {p0 : Int32} {σ σ1 : Hp} {r : Int32} (h : s_X3_canBeLong p0 σ = some (r, σ1)) : CT E yX3_canBeLong (.code yX3_canBeLong cX3_canBeLong 1 (some .boolean)) rm_X3_canBeLong [tI (p0)] σ (some (tI r)) σ1 := by
  refine CT.mk hE (by decide +kernel) (Nat.le_of_ble_eq_true rfl) [(0, tI (p0))] rfl (fun X C hin hx hxn => ?_)
  have C : XOK E X cX3_canBeLong RX3 1 (some .boolean) rm_X3_canBeLong := C
  unfold s_X3_canBeLong at h
  refine g_iload_n (pc := 0) C 0 0 dX3_canBeLong_0 rfl rfl ?_
  refine g_if_lt (pc := 1) C 14 dX3_canBeLong_1 (by decide) (fun c2 => ?_) (fun c2 => ?_)
  · have h := zif_t c2 h
    refine g_iconst (v := 0) (pc := 14) C dX3_canBeLong_14 (by decide) ?_
    obtain ⟨rfl, rfl⟩ := zsome h
    exact g_zret (pc := 15) C rfl hx (by decide) (by rw [hxn]; rfl) (by rw [hxn]; rfl) dX3_canBeLong_15
  · have h := zif_f c2 h
    refine g_iload_n (pc := 4) C 0 0 dX3_canBeLong_4 rfl rfl ?_
    refine g_bipush (v := 9) (pc := 5) C dX3_canBeLong_5 (by decide) ?_
    refine g_icmp_gt (pc := 7) C 14 dX3_canBeLong_7 (by decide) (fun c1 => ?_) (fun c1 => ?_)
    · have h := zif_t c1 h
      refine g_iconst (v := 0) (pc := 14) C dX3_canBeLong_14 (by decide) ?_
      obtain ⟨rfl, rfl⟩ := zsome h
      exact g_zret (pc := 15) C rfl hx (by decide) (by rw [hxn]; rfl) (by rw [hxn]; rfl) dX3_canBeLong_15
    · have h := zif_f c1 h
      refine g_iconst (v := 1) (pc := 10) C dX3_canBeLong_10 (by decide) ?_
      refine g_goto (pc := 11) C 15 dX3_canBeLong_11 (by decide) ?_
      obtain ⟨rfl, rfl⟩ := zsome h
      exact g_zret (pc := 15) C rfl hx (by decide) (by rw [hxn]; rfl) (by rw [hxn]; rfl) dX3_canBeLong_15
def rm_X3_add : Room := { frames := 0, cells := 0, slots := 0, locals := 0 }
noncomputable def s_X3_add (h0 : Nat) (p1 : Int32) (p2 : Int32) (σ : Hp) : Option (Int32 × Hp) :=
  (rdI 3 σ h0 3).bind fun v1 =>
  if v1 < 0 then
    some (((-1)), σ)
  else
    (rdI 3 σ h0 3).bind fun v2 =>
    if v2 < 10 then
      (rdR 3 σ h0 0).bind fun r3 =>
      (rdI 3 σ h0 3).bind fun v4 =>
      (r3).bind fun a5 =>
      (stI σ a5 (v4) (p1)).bind fun σ6 =>
      (rdR 3 σ6 h0 1).bind fun r7 =>
      (rdI 3 σ6 h0 3).bind fun v8 =>
      (r7).bind fun a9 =>
      (stI σ6 a9 (v8) (p2)).bind fun σ10 =>
      (rdI 3 σ10 h0 3).bind fun v11 =>
      (wrI 3 σ10 h0 3 (v11 + 1)).bind fun σ12 =>
      some ((v11), σ12)
    else
      some (((-1)), σ)
set_option maxRecDepth 100000 in
theorem c_X3_add {E : E0} (hE : EOK E) {h0 : Nat} {p1 : Int32} {p2 : Int32} {σ σ1 : Hp} {r : Int32} (h : s_X3_add h0 p1 p2 σ = some (r, σ1)) : CT E yX3_add (.code yX3_add cX3_add 3 (some .int)) rm_X3_add [tR (some (h0)), tI (p1), tI (p2)] σ (some (tI r)) σ1 := by
  refine CT.mk hE (by decide +kernel) (Nat.le_of_ble_eq_true rfl) [(0, tR (some (h0))), (1, tI (p1)), (2, tI (p2))] rfl (fun X C hin hx hxn => ?_)
  have C : XOK E X cX3_add RX3 3 (some .int) rm_X3_add := C
  unfold s_X3_add at h
  refine g_aload_n (pc := 0) C 0 0 dX3_add_0 rfl rfl ?_
  obtain ⟨v1, hvv1, h⟩ := zbind h
  refine g_getI (N := 4) (pc := 1) C ck_3 hvv1 rfl rfl fl_X3_21 dX3_add_1 ?_
  refine g_if_lt (pc := 4) C 16 dX3_add_4 (by decide) (fun c14 => ?_) (fun c14 => ?_)
  · have h := zif_t c14 h
    refine g_iconst (v := (-1)) (pc := 16) C dX3_add_16 (by decide) ?_
    obtain ⟨rfl, rfl⟩ := zsome h
    exact g_iret (pc := 17) C rfl hx (by rw [hxn]; rfl) (by rw [hxn]; rfl) dX3_add_17
  · have h := zif_f c14 h
    refine g_aload_n (pc := 7) C 0 0 dX3_add_7 rfl rfl ?_
    obtain ⟨v2, hvv2, h⟩ := zbind h
    refine g_getI (N := 4) (pc := 8) C ck_3 hvv2 rfl rfl fl_X3_21 dX3_add_8 ?_
    refine g_bipush (v := 10) (pc := 11) C dX3_add_11 (by decide) ?_
    refine g_icmp_lt (pc := 13) C 18 dX3_add_13 (by decide) (fun c13 => ?_) (fun c13 => ?_)
    · have h := zif_t c13 h
      refine g_aload_n (pc := 18) C 0 0 dX3_add_18 rfl rfl ?_
      obtain ⟨r3, hvr3, h⟩ := zbind h
      refine g_getR (N := 4) (pc := 19) C ck_3 hvr3 rfl rfl fl_X3_9 dX3_add_19 ?_
      refine g_aload_n (pc := 22) C 0 0 dX3_add_22 rfl rfl ?_
      obtain ⟨v4, hvv4, h⟩ := zbind h
      refine g_getI (N := 4) (pc := 23) C ck_3 hvv4 rfl rfl fl_X3_21 dX3_add_23 ?_
      refine g_iload_n (pc := 26) C 1 1 dX3_add_26 rfl rfl ?_
      obtain ⟨a5, hqa5, h9⟩ := zbind h
      clear h
      subst hqa5
      have h := h9
      clear h9
      obtain ⟨σ6, hvσ6, h⟩ := zbind h
      refine g_iast (pc := 27) C hvσ6 dX3_add_27 ?_
      refine g_aload_n (pc := 28) C 0 0 dX3_add_28 rfl rfl ?_
      obtain ⟨r7, hvr7, h⟩ := zbind h
      refine g_getR (N := 4) (pc := 29) C ck_3 hvr7 rfl rfl fl_X3_15 dX3_add_29 ?_
      refine g_aload_n (pc := 32) C 0 0 dX3_add_32 rfl rfl ?_
      obtain ⟨v8, hvv8, h⟩ := zbind h
      refine g_getI (N := 4) (pc := 33) C ck_3 hvv8 rfl rfl fl_X3_21 dX3_add_33 ?_
      refine g_iload_n (pc := 36) C 2 2 dX3_add_36 rfl rfl ?_
      obtain ⟨a9, hqa9, h9⟩ := zbind h
      clear h
      subst hqa9
      have h := h9
      clear h9
      obtain ⟨σ10, hvσ10, h⟩ := zbind h
      refine g_iast (pc := 37) C hvσ10 dX3_add_37 ?_
      refine g_aload_n (pc := 38) C 0 0 dX3_add_38 rfl rfl ?_
      refine g_dup (pc := 39) C dX3_add_39 rfl ?_
      obtain ⟨v11, hvv11, h⟩ := zbind h
      refine g_getI (N := 4) (pc := 40) C ck_3 hvv11 rfl rfl fl_X3_21 dX3_add_40 ?_
      refine g_dup_x1 (pc := 43) C dX3_add_43 rfl rfl ?_
      refine g_iconst (v := 1) (pc := 44) C dX3_add_44 (by decide) ?_
      refine g_iadd (pc := 45) C dX3_add_45 ?_
      obtain ⟨σ12, hvσ12, h⟩ := zbind h
      refine g_putI (N := 4) (pc := 46) C ⟨ck_3, rfl, tyX3_ok⟩ hvσ12 rfl fl_X3_21 rfl rfl dX3_add_46 ?_
      obtain ⟨rfl, rfl⟩ := zsome h
      exact g_iret (pc := 49) C rfl hx (by rw [hxn]; rfl) (by rw [hxn]; rfl) dX3_add_49
    · have h := zif_f c13 h
      refine g_iconst (v := (-1)) (pc := 16) C dX3_add_16 (by decide) ?_
      obtain ⟨rfl, rfl⟩ := zsome h
      exact g_iret (pc := 17) C rfl hx (by rw [hxn]; rfl) (by rw [hxn]; rfl) dX3_add_17
def rm_X3_join : Room := { frames := 1, cells := 0, slots := 0, locals := 21 }
noncomputable def s_X3_join (h0 : Nat) (p1 : Int32) (p2 : Int32) (p3 : Int32) (σ : Hp) : Option (Unit × Hp) :=
  (ck 3 σ h0).bind fun u1 =>
  cb (s_X3_isOne h0 (p1) σ) fun v3 σ2 =>
  if v3 = 0 then
    some ((), σ2)
  else
    (ck 3 σ2 h0).bind fun u4 =>
    cb (s_X3_isOne h0 (p2) σ2) fun v6 σ5 =>
    if v6 = 0 then
      some ((), σ5)
    else
      (rdR 3 σ5 h0 2).bind fun r7 =>
      (r7).bind fun a8 =>
      (stI σ5 a8 ((p1 * 10) + p2) (p3)).bind fun σ9 =>
      (rdR 3 σ9 h0 2).bind fun r10 =>
      (r10).bind fun a11 =>
      (stI σ9 a11 ((p2 * 10) + p1) (p3)).bind fun σ12 =>
      some ((), σ12)
set_option maxRecDepth 100000 in
theorem c_X3_join {E : E0} (hE : EOK E) {h0 : Nat} {p1 : Int32} {p2 : Int32} {p3 : Int32} {σ σ1 : Hp} {r : Unit} (h : s_X3_join h0 p1 p2 p3 σ = some (r, σ1)) : CT E yX3_join (.code yX3_join cX3_join 4 none) rm_X3_join [tR (some (h0)), tI (p1), tI (p2), tI (p3)] σ none σ1 := by
  refine CT.mk hE (by decide +kernel) (Nat.le_of_ble_eq_true rfl) [(0, tR (some (h0))), (1, tI (p1)), (2, tI (p2)), (3, tI (p3))] rfl (fun X C hin hx hxn => ?_)
  have C : XOK E X cX3_join RX3 4 none rm_X3_join := C
  unfold s_X3_join at h
  refine g_aload_n (pc := 0) C 0 0 dX3_join_0 rfl rfl ?_
  refine g_iload_n (pc := 1) C 1 1 dX3_join_1 rfl rfl ?_
  obtain ⟨u1, hvu1, h⟩ := zbind h
  obtain ⟨v3, σ2, hvσ2, h⟩ := zcb h
  refine g_callV (pc := 2) (av := [tI (p1)]) C (c_X3_isOne hE hvσ2) yv_X3_isOne ml_X3_25 ck_3 (zopt hvu1).1 rfl (rf_of (by decide)) rfl (Nat.le_of_ble_eq_true rfl) dX3_join_2 ?_
  refine g_if_eq (pc := 5) C 40 dX3_join_5 (by decide) (fun c14 => ?_) (fun c14 => ?_)
  · have h := zif_t c14 h
    obtain ⟨rfl, rfl⟩ := zsome h
    exact g_vret (pc := 40) C rfl hx (by rw [hxn]; rfl) (by rw [hxn]; rfl) dX3_join_40
  · have h := zif_f c14 h
    refine g_aload_n (pc := 8) C 0 0 dX3_join_8 rfl rfl ?_
    refine g_iload_n (pc := 9) C 2 2 dX3_join_9 rfl rfl ?_
    obtain ⟨u4, hvu4, h⟩ := zbind h
    obtain ⟨v6, σ5, hvσ5, h⟩ := zcb h
    refine g_callV (pc := 10) (av := [tI (p2)]) C (c_X3_isOne hE hvσ5) yv_X3_isOne ml_X3_25 ck_3 (zopt hvu4).1 rfl (rf_of (by decide)) rfl (Nat.le_of_ble_eq_true rfl) dX3_join_10 ?_
    refine g_if_eq (pc := 13) C 40 dX3_join_13 (by decide) (fun c13 => ?_) (fun c13 => ?_)
    · have h := zif_t c13 h
      obtain ⟨rfl, rfl⟩ := zsome h
      exact g_vret (pc := 40) C rfl hx (by rw [hxn]; rfl) (by rw [hxn]; rfl) dX3_join_40
    · have h := zif_f c13 h
      refine g_aload_n (pc := 16) C 0 0 dX3_join_16 rfl rfl ?_
      obtain ⟨r7, hvr7, h⟩ := zbind h
      refine g_getR (N := 4) (pc := 17) C ck_3 hvr7 rfl rfl fl_X3_18 dX3_join_17 ?_
      refine g_iload_n (pc := 20) C 1 1 dX3_join_20 rfl rfl ?_
      refine g_bipush (v := 10) (pc := 21) C dX3_join_21 (by decide) ?_
      refine g_imul (pc := 23) C dX3_join_23 ?_
      refine g_iload_n (pc := 24) C 2 2 dX3_join_24 rfl rfl ?_
      refine g_iadd (pc := 25) C dX3_join_25 ?_
      refine g_iload_n (pc := 26) C 3 3 dX3_join_26 rfl rfl ?_
      obtain ⟨a8, hqa8, h9⟩ := zbind h
      clear h
      subst hqa8
      have h := h9
      clear h9
      obtain ⟨σ9, hvσ9, h⟩ := zbind h
      refine g_iast (pc := 27) C hvσ9 dX3_join_27 ?_
      refine g_aload_n (pc := 28) C 0 0 dX3_join_28 rfl rfl ?_
      obtain ⟨r10, hvr10, h⟩ := zbind h
      refine g_getR (N := 4) (pc := 29) C ck_3 hvr10 rfl rfl fl_X3_18 dX3_join_29 ?_
      refine g_iload_n (pc := 32) C 2 2 dX3_join_32 rfl rfl ?_
      refine g_bipush (v := 10) (pc := 33) C dX3_join_33 (by decide) ?_
      refine g_imul (pc := 35) C dX3_join_35 ?_
      refine g_iload_n (pc := 36) C 1 1 dX3_join_36 rfl rfl ?_
      refine g_iadd (pc := 37) C dX3_join_37 ?_
      refine g_iload_n (pc := 38) C 3 3 dX3_join_38 rfl rfl ?_
      obtain ⟨a11, hqa11, h9⟩ := zbind h
      clear h
      subst hqa11
      have h := h9
      clear h9
      obtain ⟨σ12, hvσ12, h⟩ := zbind h
      refine g_iast (pc := 39) C hvσ12 dX3_join_39 ?_
      obtain ⟨rfl, rfl⟩ := zsome h
      exact g_vret (pc := 40) C rfl hx (by rw [hxn]; rfl) (by rw [hxn]; rfl) dX3_join_40
def rm_X4_init : Room := { frames := 1, cells := 5, slots := 1875, locals := 20 }
noncomputable def s_X4_init (h0 : Nat) (σ : Hp) : Option (Unit × Hp) :=
  cb (nw 11 401 σ) fun a2 σ1 =>
  (wrR 4 σ1 h0 0 (some (a2))).bind fun σ3 =>
  cb (nw 11 401 σ3) fun a5 σ4 =>
  (wrR 4 σ4 h0 1 (some (a5))).bind fun σ6 =>
  cb (nw 11 401 σ6) fun a8 σ7 =>
  (wrR 4 σ7 h0 2 (some (a8))).bind fun σ9 =>
  cb (nw 11 600 σ9) fun a11 σ10 =>
  (wrR 4 σ10 h0 3 (some (a11))).bind fun σ12 =>
  cb (nw 11 72 σ12) fun a14 σ13 =>
  (wrR 4 σ13 h0 4 (some (a14))).bind fun σ15 =>
  (wrI 4 σ15 h0 11 ((-1))).bind fun σ16 =>
  some ((), σ16)
set_option maxRecDepth 100000 in
theorem c_X4_init {E : E0} (hE : EOK E) {h0 : Nat} {σ σ1 : Hp} {r : Unit} (h : s_X4_init h0 σ = some (r, σ1)) : CT E yX4_init (.code yX4_init cX4_init 1 none) rm_X4_init [tR (some (h0))] σ none σ1 := by
  refine CT.mk hE (by decide +kernel) (Nat.le_of_ble_eq_true rfl) [(0, tR (some (h0)))] rfl (fun X C hin hx hxn => ?_)
  have C : XOK E X cX4_init RX4 1 none rm_X4_init := C
  unfold s_X4_init at h
  refine g_aload_n (pc := 0) C 0 0 dX4_init_0 rfl rfl ?_
  refine g_objInit (pc := 1) C ml_X4_3 oi_1 oi_2 ⟨Nat.le_of_ble_eq_true rfl, Nat.le_of_ble_eq_true rfl⟩ (Nat.le_of_ble_eq_true rfl) dX4_init_1 ?_
  refine g_aload_n (pc := 4) C 0 0 dX4_init_4 rfl rfl ?_
  refine g_sipush (v := 401) (pc := 5) C dX4_init_5 (by decide) ?_
  obtain ⟨a2, σ1, hvσ1, h⟩ := zcb h
  refine g_newaI (N := 401) (pc := 8) C (by decide) (by decide) (by decide) ac_int (by decide) (by decide) dX4_init_8 ?_
  rw [← (nw_h hvσ1).2, ← (nw_h hvσ1).1]
  obtain ⟨σ3, hvσ3, h⟩ := zbind h
  refine g_putRF (N := 12) (pc := 10) C ⟨ck_4, rfl, tyX4_ok⟩ hvσ3 rfl fl_X4_9 rfl hin ⟨rfl, rfl⟩ dX4_init_10 ?_
  refine g_aload_n (pc := 13) C 0 0 dX4_init_13 rfl rfl ?_
  refine g_sipush (v := 401) (pc := 14) C dX4_init_14 (by decide) ?_
  obtain ⟨a5, σ4, hvσ4, h⟩ := zcb h
  refine g_newaI (N := 401) (pc := 17) C (by decide) (by decide) (by decide) ac_int (by decide) (by decide) dX4_init_17 ?_
  rw [← (nw_h hvσ4).2, ← (nw_h hvσ4).1]
  obtain ⟨σ6, hvσ6, h⟩ := zbind h
  refine g_putRF (N := 12) (pc := 19) C ⟨ck_4, rfl, tyX4_ok⟩ hvσ6 rfl fl_X4_15 rfl hin ⟨rfl, rfl⟩ dX4_init_19 ?_
  refine g_aload_n (pc := 22) C 0 0 dX4_init_22 rfl rfl ?_
  refine g_sipush (v := 401) (pc := 23) C dX4_init_23 (by decide) ?_
  obtain ⟨a8, σ7, hvσ7, h⟩ := zcb h
  refine g_newaI (N := 401) (pc := 26) C (by decide) (by decide) (by decide) ac_int (by decide) (by decide) dX4_init_26 ?_
  rw [← (nw_h hvσ7).2, ← (nw_h hvσ7).1]
  obtain ⟨σ9, hvσ9, h⟩ := zbind h
  refine g_putRF (N := 12) (pc := 28) C ⟨ck_4, rfl, tyX4_ok⟩ hvσ9 rfl fl_X4_18 rfl hin ⟨rfl, rfl⟩ dX4_init_28 ?_
  refine g_aload_n (pc := 31) C 0 0 dX4_init_31 rfl rfl ?_
  refine g_sipush (v := 600) (pc := 32) C dX4_init_32 (by decide) ?_
  obtain ⟨a11, σ10, hvσ10, h⟩ := zcb h
  refine g_newaI (N := 600) (pc := 35) C (by decide) (by decide) (by decide) ac_int (by decide) (by decide) dX4_init_35 ?_
  rw [← (nw_h hvσ10).2, ← (nw_h hvσ10).1]
  obtain ⟨σ12, hvσ12, h⟩ := zbind h
  refine g_putRF (N := 12) (pc := 37) C ⟨ck_4, rfl, tyX4_ok⟩ hvσ12 rfl fl_X4_21 rfl hin ⟨rfl, rfl⟩ dX4_init_37 ?_
  refine g_aload_n (pc := 40) C 0 0 dX4_init_40 rfl rfl ?_
  refine g_bipush (v := 72) (pc := 41) C dX4_init_41 (by decide) ?_
  obtain ⟨a14, σ13, hvσ13, h⟩ := zcb h
  refine g_newaI (N := 72) (pc := 43) C (by decide) (by decide) (by decide) ac_int (by decide) (by decide) dX4_init_43 ?_
  rw [← (nw_h hvσ13).2, ← (nw_h hvσ13).1]
  obtain ⟨σ15, hvσ15, h⟩ := zbind h
  refine g_putRF (N := 12) (pc := 45) C ⟨ck_4, rfl, tyX4_ok⟩ hvσ15 rfl fl_X4_24 rfl hin ⟨rfl, rfl⟩ dX4_init_45 ?_
  refine g_aload_n (pc := 48) C 0 0 dX4_init_48 rfl rfl ?_
  refine g_iconst (v := (-1)) (pc := 49) C dX4_init_49 (by decide) ?_
  obtain ⟨σ16, hvσ16, h⟩ := zbind h
  refine g_putI (N := 12) (pc := 50) C ⟨ck_4, rfl, tyX4_ok⟩ hvσ16 rfl fl_X4_27 rfl rfl dX4_init_50 ?_
  obtain ⟨rfl, rfl⟩ := zsome h
  exact g_vret (pc := 53) C rfl hx (by rw [hxn]; rfl) (by rw [hxn]; rfl) dX4_init_53
def rm_X6_byteAt : Room := { frames := 0, cells := 0, slots := 0, locals := 0 }
noncomputable def s_X6_byteAt (h0 : Nat) (p1 : Int32) (σ : Hp) : Option (Int32 × Hp) :=
  if p1 < 0 then
    some ((0), σ)
  else
    (rdR 6 σ h0 0).bind fun r1 =>
    (r1).bind fun a2 =>
    (lnA 10 σ a2).bind fun v3 =>
    if v3 ≤ p1 then
      some ((0), σ)
    else
      (rdR 6 σ h0 0).bind fun r4 =>
      (r4).bind fun a5 =>
      (ldI 10 σ a5 (p1)).bind fun v6 =>
      some ((v6 &&& 255), σ)
set_option maxRecDepth 100000 in
theorem c_X6_byteAt {E : E0} (hE : EOK E) {h0 : Nat} {p1 : Int32} {σ σ1 : Hp} {r : Int32} (h : s_X6_byteAt h0 p1 σ = some (r, σ1)) : CT E yX6_byteAt (.code yX6_byteAt cX6_byteAt 2 (some .int)) rm_X6_byteAt [tR (some (h0)), tI (p1)] σ (some (tI r)) σ1 := by
  refine CT.mk hE (by decide +kernel) (Nat.le_of_ble_eq_true rfl) [(0, tR (some (h0))), (1, tI (p1))] rfl (fun X C hin hx hxn => ?_)
  have C : XOK E X cX6_byteAt RX6 2 (some .int) rm_X6_byteAt := C
  unfold s_X6_byteAt at h
  refine g_iload_n (pc := 0) C 1 1 dX6_byteAt_0 rfl rfl ?_
  refine g_if_lt (pc := 1) C 26 dX6_byteAt_1 (by decide) (fun c8 => ?_) (fun c8 => ?_)
  · have h := zif_t c8 h
    refine g_iconst (v := 0) (pc := 26) C dX6_byteAt_26 (by decide) ?_
    obtain ⟨rfl, rfl⟩ := zsome h
    exact g_iret (pc := 27) C rfl hx (by rw [hxn]; rfl) (by rw [hxn]; rfl) dX6_byteAt_27
  · have h := zif_f c8 h
    refine g_iload_n (pc := 4) C 1 1 dX6_byteAt_4 rfl rfl ?_
    refine g_aload_n (pc := 5) C 0 0 dX6_byteAt_5 rfl rfl ?_
    obtain ⟨r1, hvr1, h⟩ := zbind h
    refine g_getR (N := 2) (pc := 6) C ck_6 hvr1 rfl rfl fl_X6_9 dX6_byteAt_6 ?_
    obtain ⟨a2, hqa2, h9⟩ := zbind h
    clear h
    subst hqa2
    have h := h9
    clear h9
    obtain ⟨v3, hvv3, h⟩ := zbind h
    refine g_alen (c := 10) (pc := 9) C (by decide) hvv3 dX6_byteAt_9 ?_
    refine g_icmp_ge (pc := 10) C 26 dX6_byteAt_10 (by decide) (fun c7 => ?_) (fun c7 => ?_)
    · have h := zif_t c7 h
      refine g_iconst (v := 0) (pc := 26) C dX6_byteAt_26 (by decide) ?_
      obtain ⟨rfl, rfl⟩ := zsome h
      exact g_iret (pc := 27) C rfl hx (by rw [hxn]; rfl) (by rw [hxn]; rfl) dX6_byteAt_27
    · have h := zif_f c7 h
      refine g_aload_n (pc := 13) C 0 0 dX6_byteAt_13 rfl rfl ?_
      obtain ⟨r4, hvr4, h⟩ := zbind h
      refine g_getR (N := 2) (pc := 14) C ck_6 hvr4 rfl rfl fl_X6_9 dX6_byteAt_14 ?_
      refine g_iload_n (pc := 17) C 1 1 dX6_byteAt_17 rfl rfl ?_
      obtain ⟨a5, hqa5, h9⟩ := zbind h
      clear h
      subst hqa5
      have h := h9
      clear h9
      obtain ⟨v6, hvv6, h⟩ := zbind h
      refine g_bald (pc := 18) C hvv6 dX6_byteAt_18 ?_
      refine g_sipush (v := 255) (pc := 19) C dX6_byteAt_19 (by decide) ?_
      refine g_iand (pc := 22) C dX6_byteAt_22 ?_
      refine g_goto (pc := 23) C 27 dX6_byteAt_23 (by decide) ?_
      obtain ⟨rfl, rfl⟩ := zsome h
      exact g_iret (pc := 27) C rfl hx (by rw [hxn]; rfl) (by rw [hxn]; rfl) dX6_byteAt_27
def rm_X4_isLetter : Room := { frames := 0, cells := 0, slots := 0, locals := 0 }
noncomputable def s_X4_isLetter (p0 : Int32) (σ : Hp) : Option (Int32 × Hp) :=
  if p0 < 97 then
    some ((0), σ)
  else
    if 122 < p0 then
      some ((0), σ)
    else
      some ((1), σ)
set_option maxRecDepth 100000 in
theorem c_X4_isLetter {E : E0} (hE : EOK E) {p0 : Int32} {σ σ1 : Hp} {r : Int32} (h : s_X4_isLetter p0 σ = some (r, σ1)) : CT E yX4_isLetter (.code yX4_isLetter cX4_isLetter 1 (some .boolean)) rm_X4_isLetter [tI (p0)] σ (some (tI r)) σ1 := by
  refine CT.mk hE (by decide +kernel) (Nat.le_of_ble_eq_true rfl) [(0, tI (p0))] rfl (fun X C hin hx hxn => ?_)
  have C : XOK E X cX4_isLetter RX4 1 (some .boolean) rm_X4_isLetter := C
  unfold s_X4_isLetter at h
  refine g_iload_n (pc := 0) C 0 0 dX4_isLetter_0 rfl rfl ?_
  refine g_bipush (v := 97) (pc := 1) C dX4_isLetter_1 (by decide) ?_
  refine g_icmp_lt (pc := 3) C 16 dX4_isLetter_3 (by decide) (fun c2 => ?_) (fun c2 => ?_)
  · have h := zif_t c2 h
    refine g_iconst (v := 0) (pc := 16) C dX4_isLetter_16 (by decide) ?_
    obtain ⟨rfl, rfl⟩ := zsome h
    exact g_zret (pc := 17) C rfl hx (by decide) (by rw [hxn]; rfl) (by rw [hxn]; rfl) dX4_isLetter_17
  · have h := zif_f c2 h
    refine g_iload_n (pc := 6) C 0 0 dX4_isLetter_6 rfl rfl ?_
    refine g_bipush (v := 122) (pc := 7) C dX4_isLetter_7 (by decide) ?_
    refine g_icmp_gt (pc := 9) C 16 dX4_isLetter_9 (by decide) (fun c1 => ?_) (fun c1 => ?_)
    · have h := zif_t c1 h
      refine g_iconst (v := 0) (pc := 16) C dX4_isLetter_16 (by decide) ?_
      obtain ⟨rfl, rfl⟩ := zsome h
      exact g_zret (pc := 17) C rfl hx (by decide) (by rw [hxn]; rfl) (by rw [hxn]; rfl) dX4_isLetter_17
    · have h := zif_f c1 h
      refine g_iconst (v := 1) (pc := 12) C dX4_isLetter_12 (by decide) ?_
      refine g_goto (pc := 13) C 17 dX4_isLetter_13 (by decide) ?_
      obtain ⟨rfl, rfl⟩ := zsome h
      exact g_zret (pc := 17) C rfl hx (by decide) (by rw [hxn]; rfl) (by rw [hxn]; rfl) dX4_isLetter_17
def rm_X4_isDigit : Room := { frames := 0, cells := 0, slots := 0, locals := 0 }
noncomputable def s_X4_isDigit (p0 : Int32) (σ : Hp) : Option (Int32 × Hp) :=
  if p0 < 48 then
    some ((0), σ)
  else
    if 57 < p0 then
      some ((0), σ)
    else
      some ((1), σ)
set_option maxRecDepth 100000 in
theorem c_X4_isDigit {E : E0} (hE : EOK E) {p0 : Int32} {σ σ1 : Hp} {r : Int32} (h : s_X4_isDigit p0 σ = some (r, σ1)) : CT E yX4_isDigit (.code yX4_isDigit cX4_isDigit 1 (some .boolean)) rm_X4_isDigit [tI (p0)] σ (some (tI r)) σ1 := by
  refine CT.mk hE (by decide +kernel) (Nat.le_of_ble_eq_true rfl) [(0, tI (p0))] rfl (fun X C hin hx hxn => ?_)
  have C : XOK E X cX4_isDigit RX4 1 (some .boolean) rm_X4_isDigit := C
  unfold s_X4_isDigit at h
  refine g_iload_n (pc := 0) C 0 0 dX4_isDigit_0 rfl rfl ?_
  refine g_bipush (v := 48) (pc := 1) C dX4_isDigit_1 (by decide) ?_
  refine g_icmp_lt (pc := 3) C 16 dX4_isDigit_3 (by decide) (fun c2 => ?_) (fun c2 => ?_)
  · have h := zif_t c2 h
    refine g_iconst (v := 0) (pc := 16) C dX4_isDigit_16 (by decide) ?_
    obtain ⟨rfl, rfl⟩ := zsome h
    exact g_zret (pc := 17) C rfl hx (by decide) (by rw [hxn]; rfl) (by rw [hxn]; rfl) dX4_isDigit_17
  · have h := zif_f c2 h
    refine g_iload_n (pc := 6) C 0 0 dX4_isDigit_6 rfl rfl ?_
    refine g_bipush (v := 57) (pc := 7) C dX4_isDigit_7 (by decide) ?_
    refine g_icmp_gt (pc := 9) C 16 dX4_isDigit_9 (by decide) (fun c1 => ?_) (fun c1 => ?_)
    · have h := zif_t c1 h
      refine g_iconst (v := 0) (pc := 16) C dX4_isDigit_16 (by decide) ?_
      obtain ⟨rfl, rfl⟩ := zsome h
      exact g_zret (pc := 17) C rfl hx (by decide) (by rw [hxn]; rfl) (by rw [hxn]; rfl) dX4_isDigit_17
    · have h := zif_f c1 h
      refine g_iconst (v := 1) (pc := 12) C dX4_isDigit_12 (by decide) ?_
      refine g_goto (pc := 13) C 17 dX4_isDigit_13 (by decide) ?_
      obtain ⟨rfl, rfl⟩ := zsome h
      exact g_zret (pc := 17) C rfl hx (by decide) (by rw [hxn]; rfl) (by rw [hxn]; rfl) dX4_isDigit_17
def rm_X4_endOfToken : Room := { frames := 1, cells := 0, slots := 0, locals := 21 }
noncomputable def s_X4_endOfToken_j55 (l0 : Option Nat) (l2 : Int32) (l3 : Int32) (l4 : Int32) (σ : Hp) : Option ((((Option Nat) × Int32 × Int32 × Int32) ⊕ (Int32)) × Hp) :=
  some (Sum.inl ((l0), (l2), (l3), (l4 + 1)), σ)
set_option maxRecDepth 100000 in
theorem w_X4_endOfToken_j55 {E : E0} (hE : EOK E) {X : X0} (C : XOK E X cX4_endOfToken RX4 5 (some .int) rm_X4_endOfToken) (hxn : xn X = (rm_X4_endOfToken.cells, rm_X4_endOfToken.slots)) {KE : (Int32) → Hp → Prop} (e_ret : ∀ (r : Int32) (σ : Hp), KE (r) σ → xd X = (some (tI r), σ)) (l0 : Option Nat) (l2 : Int32) (l3 : Int32) (l4 : Int32) (σ : Hp) (x : ((Option Nat) × Int32 × Int32 × Int32) ⊕ (Int32)) (σ1 : Hp) (h : s_X4_endOfToken_j55 l0 l2 l3 l4 σ = some (x, σ1)) (hI : ∀ v, x = Sum.inl v → (fun (v : (Option Nat) × Int32 × Int32 × Int32) (σ : Hp) => G E X 0 0 11 [(0, tR ((v.1))), (2, tI ((v.2.1))), (3, tI ((v.2.2.1))), (4, tI ((v.2.2.2)))] [] σ) v σ1) (hO : ∀ e, x = Sum.inr e → KE e σ1) : G E X 0 0 55 [(0, tR (l0)), (2, tI (l2)), (3, tI (l3)), (4, tI (l4))] [] σ := by
  unfold s_X4_endOfToken_j55 at h
  refine g_iinc (lm' := [(4, tI (l4 + 1)), (0, tR (l0)), (2, tI (l2)), (3, tI (l3))]) (v := l4 + 1) (pc := 55) C 3 dX4_endOfToken_55 rfl rfl (by decide) rfl ?_
  refine g_goto (pc := 58) C 11 dX4_endOfToken_58 (by decide) ?_
  refine g_sub [1, 2, 3, 0] (lm' := [(0, tR (l0)), (2, tI (l2)), (3, tI (l3)), (4, tI (l4 + 1))]) rfl ?_
  obtain ⟨rfl, rfl⟩ := zsome h
  exact hI _ rfl
noncomputable def s_X4_endOfToken_j36 (l0 : Option Nat) (l2 : Int32) (l3 : Int32) (l4 : Int32) (σ : Hp) : Option ((((Option Nat) × Int32 × Int32 × Int32) ⊕ (Int32)) × Hp) :=
  cb (s_X4_isDigit (l3) σ) fun v2 σ1 =>
  if v2 = 0 then
    some (Sum.inr (l4), σ1)
  else
    (l0).bind fun a3 =>
    (ck 6 σ1 a3).bind fun u4 =>
    cb (s_X6_byteAt a3 (l4) σ1) fun v6 σ5 =>
    cb (s_X4_isDigit (v6) σ5) fun v8 σ7 =>
    if v8 = 0 then
      some (Sum.inr (l4), σ7)
    else
      s_X4_endOfToken_j55 (some (a3)) (l2) (l3) (l4) σ7
set_option maxRecDepth 100000 in
theorem w_X4_endOfToken_j36 {E : E0} (hE : EOK E) {X : X0} (C : XOK E X cX4_endOfToken RX4 5 (some .int) rm_X4_endOfToken) (hxn : xn X = (rm_X4_endOfToken.cells, rm_X4_endOfToken.slots)) {KE : (Int32) → Hp → Prop} (e_ret : ∀ (r : Int32) (σ : Hp), KE (r) σ → xd X = (some (tI r), σ)) (l0 : Option Nat) (l2 : Int32) (l3 : Int32) (l4 : Int32) (σ : Hp) (x : ((Option Nat) × Int32 × Int32 × Int32) ⊕ (Int32)) (σ1 : Hp) (h : s_X4_endOfToken_j36 l0 l2 l3 l4 σ = some (x, σ1)) (hI : ∀ v, x = Sum.inl v → (fun (v : (Option Nat) × Int32 × Int32 × Int32) (σ : Hp) => G E X 0 0 11 [(0, tR ((v.1))), (2, tI ((v.2.1))), (3, tI ((v.2.2.1))), (4, tI ((v.2.2.2)))] [] σ) v σ1) (hO : ∀ e, x = Sum.inr e → KE e σ1) : G E X 0 0 36 [(0, tR (l0)), (2, tI (l2)), (3, tI (l3)), (4, tI (l4))] [] σ := by
  unfold s_X4_endOfToken_j36 at h
  refine g_iload_n (pc := 36) C 3 2 dX4_endOfToken_36 rfl rfl ?_
  obtain ⟨v2, σ1, hvσ1, h⟩ := zcb h
  refine g_callS (pc := 37) (av := [tI (l3)]) C (c_X4_isDigit hE hvσ1) ys_X4_isDigit ml_X4_100 rfl (rf_of (by decide)) rfl (Nat.le_of_ble_eq_true rfl) dX4_endOfToken_37 ?_
  refine g_if_eq (pc := 40) C 61 dX4_endOfToken_40 (by decide) (fun c10 => ?_) (fun c10 => ?_)
  · have h := zif_t c10 h
    refine g_iload (pc := 61) C 3 dX4_endOfToken_61 rfl ?_
    obtain ⟨rfl, rfl⟩ := zsome h
    exact g_iret (pc := 63) C rfl (e_ret _ _ (hO _ rfl)) (by rw [hxn]; rfl) (by rw [hxn]; rfl) dX4_endOfToken_63
  · have h := zif_f c10 h
    refine g_aload_n (pc := 43) C 0 0 dX4_endOfToken_43 rfl rfl ?_
    refine g_iload (pc := 44) C 3 dX4_endOfToken_44 rfl ?_
    obtain ⟨a3, hqa3, h9⟩ := zbind h
    clear h
    subst hqa3
    have h := h9
    clear h9
    obtain ⟨u4, hvu4, h⟩ := zbind h
    obtain ⟨v6, σ5, hvσ5, h⟩ := zcb h
    refine g_callV (pc := 46) (av := [tI (l4)]) C (c_X6_byteAt hE hvσ5) yv_X6_byteAt ml_X4_80 ck_6 (zopt hvu4).1 rfl (rf_of (by decide)) rfl (Nat.le_of_ble_eq_true rfl) dX4_endOfToken_46 ?_
    obtain ⟨v8, σ7, hvσ7, h⟩ := zcb h
    refine g_callS (pc := 49) (av := [tI (v6)]) C (c_X4_isDigit hE hvσ7) ys_X4_isDigit ml_X4_100 rfl (rf_of (by decide)) rfl (Nat.le_of_ble_eq_true rfl) dX4_endOfToken_49 ?_
    refine g_if_eq (pc := 52) C 61 dX4_endOfToken_52 (by decide) (fun c9 => ?_) (fun c9 => ?_)
    · have h := zif_t c9 h
      refine g_iload (pc := 61) C 3 dX4_endOfToken_61 rfl ?_
      obtain ⟨rfl, rfl⟩ := zsome h
      exact g_iret (pc := 63) C rfl (e_ret _ _ (hO _ rfl)) (by rw [hxn]; rfl) (by rw [hxn]; rfl) dX4_endOfToken_63
    · have h := zif_f c9 h
      exact w_X4_endOfToken_j55 hE C hxn e_ret _ _ _ _ _ _ _ h hI hO
noncomputable def s_X4_endOfToken_b11 (l0 : Option Nat) (l2 : Int32) (l3 : Int32) (l4 : Int32) (σ : Hp) : Option ((((Option Nat) × Int32 × Int32 × Int32) ⊕ (Int32)) × Hp) :=
  if l2 ≤ l4 then
    some (Sum.inr (l4), σ)
  else
    cb (s_X4_isLetter (l3) σ) fun v2 σ1 =>
    if v2 = 0 then
      s_X4_endOfToken_j36 (l0) (l2) (l3) (l4) σ1
    else
      (l0).bind fun a3 =>
      (ck 6 σ1 a3).bind fun u4 =>
      cb (s_X6_byteAt a3 (l4) σ1) fun v6 σ5 =>
      cb (s_X4_isLetter (v6) σ5) fun v8 σ7 =>
      if v8 = 0 then
        s_X4_endOfToken_j36 (some (a3)) (l2) (l3) (l4) σ7
      else
        s_X4_endOfToken_j55 (some (a3)) (l2) (l3) (l4) σ7
noncomputable def s_X4_endOfToken_l11 : ((Option Nat) × Int32 × Int32 × Int32) → Hp → Option ((Int32) × Hp) := loopF (fun v => s_X4_endOfToken_b11 (v.1) (v.2.1) (v.2.2.1) (v.2.2.2))
set_option maxRecDepth 100000 in
theorem w_X4_endOfToken_b11 {E : E0} (hE : EOK E) {X : X0} (C : XOK E X cX4_endOfToken RX4 5 (some .int) rm_X4_endOfToken) (hxn : xn X = (rm_X4_endOfToken.cells, rm_X4_endOfToken.slots)) {KE : (Int32) → Hp → Prop} (e_ret : ∀ (r : Int32) (σ : Hp), KE (r) σ → xd X = (some (tI r), σ)) (l0 : Option Nat) (l2 : Int32) (l3 : Int32) (l4 : Int32) (σ : Hp) (x : ((Option Nat) × Int32 × Int32 × Int32) ⊕ (Int32)) (σ1 : Hp) (h : s_X4_endOfToken_b11 l0 l2 l3 l4 σ = some (x, σ1)) (hI : ∀ v, x = Sum.inl v → (fun (v : (Option Nat) × Int32 × Int32 × Int32) (σ : Hp) => G E X 0 0 11 [(0, tR ((v.1))), (2, tI ((v.2.1))), (3, tI ((v.2.2.1))), (4, tI ((v.2.2.2)))] [] σ) v σ1) (hO : ∀ e, x = Sum.inr e → KE e σ1) : G E X 0 0 11 [(0, tR (l0)), (2, tI (l2)), (3, tI (l3)), (4, tI (l4))] [] σ := by
  unfold s_X4_endOfToken_b11 at h
  refine g_iload (pc := 11) C 3 dX4_endOfToken_11 rfl ?_
  refine g_iload_n (pc := 13) C 2 1 dX4_endOfToken_13 rfl rfl ?_
  refine g_icmp_ge (pc := 14) C 61 dX4_endOfToken_14 (by decide) (fun c11 => ?_) (fun c11 => ?_)
  · have h := zif_t c11 h
    refine g_iload (pc := 61) C 3 dX4_endOfToken_61 rfl ?_
    obtain ⟨rfl, rfl⟩ := zsome h
    exact g_iret (pc := 63) C rfl (e_ret _ _ (hO _ rfl)) (by rw [hxn]; rfl) (by rw [hxn]; rfl) dX4_endOfToken_63
  · have h := zif_f c11 h
    refine g_iload_n (pc := 17) C 3 2 dX4_endOfToken_17 rfl rfl ?_
    obtain ⟨v2, σ1, hvσ1, h⟩ := zcb h
    refine g_callS (pc := 18) (av := [tI (l3)]) C (c_X4_isLetter hE hvσ1) ys_X4_isLetter ml_X4_90 rfl (rf_of (by decide)) rfl (Nat.le_of_ble_eq_true rfl) dX4_endOfToken_18 ?_
    refine g_if_eq (pc := 21) C 36 dX4_endOfToken_21 (by decide) (fun c10 => ?_) (fun c10 => ?_)
    · have h := zif_t c10 h
      exact w_X4_endOfToken_j36 hE C hxn e_ret _ _ _ _ _ _ _ h hI hO
    · have h := zif_f c10 h
      refine g_aload_n (pc := 24) C 0 0 dX4_endOfToken_24 rfl rfl ?_
      refine g_iload (pc := 25) C 3 dX4_endOfToken_25 rfl ?_
      obtain ⟨a3, hqa3, h9⟩ := zbind h
      clear h
      subst hqa3
      have h := h9
      clear h9
      obtain ⟨u4, hvu4, h⟩ := zbind h
      obtain ⟨v6, σ5, hvσ5, h⟩ := zcb h
      refine g_callV (pc := 27) (av := [tI (l4)]) C (c_X6_byteAt hE hvσ5) yv_X6_byteAt ml_X4_80 ck_6 (zopt hvu4).1 rfl (rf_of (by decide)) rfl (Nat.le_of_ble_eq_true rfl) dX4_endOfToken_27 ?_
      obtain ⟨v8, σ7, hvσ7, h⟩ := zcb h
      refine g_callS (pc := 30) (av := [tI (v6)]) C (c_X4_isLetter hE hvσ7) ys_X4_isLetter ml_X4_90 rfl (rf_of (by decide)) rfl (Nat.le_of_ble_eq_true rfl) dX4_endOfToken_30 ?_
      refine g_if_ne (pc := 33) C 55 dX4_endOfToken_33 (by decide) (fun c9 => ?_) (fun c9 => ?_)
      · have h := zif_f c9 h
        exact w_X4_endOfToken_j55 hE C hxn e_ret _ _ _ _ _ _ _ h hI hO
      · have h := zif_t c9 h
        exact w_X4_endOfToken_j36 hE C hxn e_ret _ _ _ _ _ _ _ h hI hO
theorem w_X4_endOfToken_l11 {E : E0} (hE : EOK E) {X : X0} (C : XOK E X cX4_endOfToken RX4 5 (some .int) rm_X4_endOfToken) (hxn : xn X = (rm_X4_endOfToken.cells, rm_X4_endOfToken.slots)) {KE : (Int32) → Hp → Prop} (e_ret : ∀ (r : Int32) (σ : Hp), KE (r) σ → xd X = (some (tI r), σ)) {v : (Option Nat) × Int32 × Int32 × Int32} {σ : Hp} {e : Int32} {σ1 : Hp} (h : s_X4_endOfToken_l11 v σ = some (e, σ1)) (hO : KE e σ1) : G E X 0 0 11 [(0, tR ((v.1))), (2, tI ((v.2.1))), (3, tI ((v.2.2.1))), (4, tI ((v.2.2.2)))] [] σ := loopF_ind (P := fun (v : (Option Nat) × Int32 × Int32 × Int32) (σ : Hp) => G E X 0 0 11 [(0, tR ((v.1))), (2, tI ((v.2.1))), (3, tI ((v.2.2.1))), (4, tI ((v.2.2.2)))] [] σ) (KE := KE) (fun v σ x σ1 h hI hO => w_X4_endOfToken_b11 hE C hxn e_ret (v.1) (v.2.1) (v.2.2.1) (v.2.2.2) σ x σ1 h hI hO) v σ e σ1 h hO
noncomputable def s_X4_endOfToken (p0 : Option Nat) (p1 : Int32) (p2 : Int32) (σ : Hp) : Option (Int32 × Hp) :=
  (p0).bind fun a1 =>
  (ck 6 σ a1).bind fun u2 =>
  cb (s_X6_byteAt a1 (p1) σ) fun v4 σ3 =>
  cb (s_X4_endOfToken_l11 ((some (a1)), (p2), (v4), (p1 + 1)) σ3) fun r6 σ7 =>
  some (r6, σ7)
set_option maxRecDepth 100000 in
theorem c_X4_endOfToken {E : E0} (hE : EOK E) {p0 : Option Nat} {p1 : Int32} {p2 : Int32} {σ σ1 : Hp} {r : Int32} (h : s_X4_endOfToken p0 p1 p2 σ = some (r, σ1)) : CT E yX4_endOfToken (.code yX4_endOfToken cX4_endOfToken 5 (some .int)) rm_X4_endOfToken [tR (p0), tI (p1), tI (p2)] σ (some (tI r)) σ1 := by
  refine CT.mk hE (by decide +kernel) (Nat.le_of_ble_eq_true rfl) [(0, tR (p0)), (1, tI (p1)), (2, tI (p2))] rfl (fun X C hin hx hxn => ?_)
  have C : XOK E X cX4_endOfToken RX4 5 (some .int) rm_X4_endOfToken := C
  unfold s_X4_endOfToken at h
  refine g_aload_n (pc := 0) C 0 0 dX4_endOfToken_0 rfl rfl ?_
  refine g_iload_n (pc := 1) C 1 1 dX4_endOfToken_1 rfl rfl ?_
  obtain ⟨a1, hqa1, h9⟩ := zbind h
  clear h
  subst hqa1
  have h := h9
  clear h9
  obtain ⟨u2, hvu2, h⟩ := zbind h
  obtain ⟨v4, σ3, hvσ3, h⟩ := zcb h
  refine g_callV (pc := 2) (av := [tI (p1)]) C (c_X6_byteAt hE hvσ3) yv_X6_byteAt ml_X4_80 ck_6 (zopt hvu2).1 rfl (rf_of (by decide)) rfl (Nat.le_of_ble_eq_true rfl) dX4_endOfToken_2 ?_
  refine g_istore_n (lm' := [(3, tI (v4)), (0, tR (some (a1))), (1, tI (p1)), (2, tI (p2))]) (pc := 5) C 3 dX4_endOfToken_5 rfl (by decide) rfl ?_
  refine g_iload_n (pc := 6) C 1 2 dX4_endOfToken_6 rfl rfl ?_
  refine g_iconst (v := 1) (pc := 7) C dX4_endOfToken_7 (by decide) ?_
  refine g_iadd (pc := 8) C dX4_endOfToken_8 ?_
  refine g_istore (lm' := [(4, tI (p1 + 1)), (3, tI (v4)), (0, tR (some (a1))), (1, tI (p1)), (2, tI (p2))]) (pc := 9) C dX4_endOfToken_9 (by decide) rfl ?_
  refine g_sub [2, 4, 1, 0] (lm' := [(0, tR (some (a1))), (2, tI (p2)), (3, tI (v4)), (4, tI (p1 + 1))]) rfl ?_
  obtain ⟨KQ, hKQ, r6, σ7, hlr6, h⟩ := zcbK h
  refine w_X4_endOfToken_l11 (KE := KQ) hE C hxn ?_ hlr6 h
  · intro r6 σ5 h
    have h := (hKQ _ _).mp h
    obtain ⟨rfl, rfl⟩ := zsome h
    exact hx
def rm_X4_addToken : Room := { frames := 0, cells := 0, slots := 0, locals := 0 }
noncomputable def s_X4_addToken (h0 : Nat) (p1 : Int32) (p2 : Int32) (p3 : Int32) (σ : Hp) : Option (Unit × Hp) :=
  (rdI 4 σ h0 5).bind fun v1 =>
  if 400 ≤ v1 then
    some ((), σ)
  else
    (rdR 4 σ h0 0).bind fun r2 =>
    (rdI 4 σ h0 5).bind fun v3 =>
    (r2).bind fun a4 =>
    (stI σ a4 (v3) (p1)).bind fun σ5 =>
    (rdR 4 σ5 h0 1).bind fun r6 =>
    (rdI 4 σ5 h0 5).bind fun v7 =>
    (r6).bind fun a8 =>
    (stI σ5 a8 (v7) (p2)).bind fun σ9 =>
    (rdR 4 σ9 h0 2).bind fun r10 =>
    (rdI 4 σ9 h0 5).bind fun v11 =>
    (r10).bind fun a12 =>
    (stI σ9 a12 (v11) (p3)).bind fun σ13 =>
    (rdI 4 σ13 h0 5).bind fun v14 =>
    (wrI 4 σ13 h0 5 (v14 + 1)).bind fun σ15 =>
    some ((), σ15)
set_option maxRecDepth 100000 in
theorem c_X4_addToken {E : E0} (hE : EOK E) {h0 : Nat} {p1 : Int32} {p2 : Int32} {p3 : Int32} {σ σ1 : Hp} {r : Unit} (h : s_X4_addToken h0 p1 p2 p3 σ = some (r, σ1)) : CT E yX4_addToken (.code yX4_addToken cX4_addToken 4 none) rm_X4_addToken [tR (some (h0)), tI (p1), tI (p2), tI (p3)] σ none σ1 := by
  refine CT.mk hE (by decide +kernel) (Nat.le_of_ble_eq_true rfl) [(0, tR (some (h0))), (1, tI (p1)), (2, tI (p2)), (3, tI (p3))] rfl (fun X C hin hx hxn => ?_)
  have C : XOK E X cX4_addToken RX4 4 none rm_X4_addToken := C
  unfold s_X4_addToken at h
  refine g_aload_n (pc := 0) C 0 0 dX4_addToken_0 rfl rfl ?_
  obtain ⟨v1, hvv1, h⟩ := zbind h
  refine g_getI (N := 12) (pc := 1) C ck_4 hvv1 rfl rfl fl_X4_77 dX4_addToken_1 ?_
  refine g_sipush (v := 400) (pc := 4) C dX4_addToken_4 (by decide) ?_
  refine g_icmp_ge (pc := 7) C 50 dX4_addToken_7 (by decide) (fun c16 => ?_) (fun c16 => ?_)
  · have h := zif_t c16 h
    obtain ⟨rfl, rfl⟩ := zsome h
    exact g_vret (pc := 50) C rfl hx (by rw [hxn]; rfl) (by rw [hxn]; rfl) dX4_addToken_50
  · have h := zif_f c16 h
    refine g_aload_n (pc := 10) C 0 0 dX4_addToken_10 rfl rfl ?_
    obtain ⟨r2, hvr2, h⟩ := zbind h
    refine g_getR (N := 12) (pc := 11) C ck_4 hvr2 rfl rfl fl_X4_9 dX4_addToken_11 ?_
    refine g_aload_n (pc := 14) C 0 0 dX4_addToken_14 rfl rfl ?_
    obtain ⟨v3, hvv3, h⟩ := zbind h
    refine g_getI (N := 12) (pc := 15) C ck_4 hvv3 rfl rfl fl_X4_77 dX4_addToken_15 ?_
    refine g_iload_n (pc := 18) C 1 1 dX4_addToken_18 rfl rfl ?_
    obtain ⟨a4, hqa4, h9⟩ := zbind h
    clear h
    subst hqa4
    have h := h9
    clear h9
    obtain ⟨σ5, hvσ5, h⟩ := zbind h
    refine g_iast (pc := 19) C hvσ5 dX4_addToken_19 ?_
    refine g_aload_n (pc := 20) C 0 0 dX4_addToken_20 rfl rfl ?_
    obtain ⟨r6, hvr6, h⟩ := zbind h
    refine g_getR (N := 12) (pc := 21) C ck_4 hvr6 rfl rfl fl_X4_15 dX4_addToken_21 ?_
    refine g_aload_n (pc := 24) C 0 0 dX4_addToken_24 rfl rfl ?_
    obtain ⟨v7, hvv7, h⟩ := zbind h
    refine g_getI (N := 12) (pc := 25) C ck_4 hvv7 rfl rfl fl_X4_77 dX4_addToken_25 ?_
    refine g_iload_n (pc := 28) C 2 2 dX4_addToken_28 rfl rfl ?_
    obtain ⟨a8, hqa8, h9⟩ := zbind h
    clear h
    subst hqa8
    have h := h9
    clear h9
    obtain ⟨σ9, hvσ9, h⟩ := zbind h
    refine g_iast (pc := 29) C hvσ9 dX4_addToken_29 ?_
    refine g_aload_n (pc := 30) C 0 0 dX4_addToken_30 rfl rfl ?_
    obtain ⟨r10, hvr10, h⟩ := zbind h
    refine g_getR (N := 12) (pc := 31) C ck_4 hvr10 rfl rfl fl_X4_18 dX4_addToken_31 ?_
    refine g_aload_n (pc := 34) C 0 0 dX4_addToken_34 rfl rfl ?_
    obtain ⟨v11, hvv11, h⟩ := zbind h
    refine g_getI (N := 12) (pc := 35) C ck_4 hvv11 rfl rfl fl_X4_77 dX4_addToken_35 ?_
    refine g_iload_n (pc := 38) C 3 3 dX4_addToken_38 rfl rfl ?_
    obtain ⟨a12, hqa12, h9⟩ := zbind h
    clear h
    subst hqa12
    have h := h9
    clear h9
    obtain ⟨σ13, hvσ13, h⟩ := zbind h
    refine g_iast (pc := 39) C hvσ13 dX4_addToken_39 ?_
    refine g_aload_n (pc := 40) C 0 0 dX4_addToken_40 rfl rfl ?_
    refine g_dup (pc := 41) C dX4_addToken_41 rfl ?_
    obtain ⟨v14, hvv14, h⟩ := zbind h
    refine g_getI (N := 12) (pc := 42) C ck_4 hvv14 rfl rfl fl_X4_77 dX4_addToken_42 ?_
    refine g_iconst (v := 1) (pc := 45) C dX4_addToken_45 (by decide) ?_
    refine g_iadd (pc := 46) C dX4_addToken_46 ?_
    obtain ⟨σ15, hvσ15, h⟩ := zbind h
    refine g_putI (N := 12) (pc := 47) C ⟨ck_4, rfl, tyX4_ok⟩ hvσ15 rfl fl_X4_77 rfl rfl dX4_addToken_47 ?_
    obtain ⟨rfl, rfl⟩ := zsome h
    exact g_vret (pc := 50) C rfl hx (by rw [hxn]; rfl) (by rw [hxn]; rfl) dX4_addToken_50
def rm_X4_numberAt : Room := { frames := 1, cells := 0, slots := 0, locals := 23 }
noncomputable def s_X4_numberAt_b5 (l0 : Option Nat) (l2 : Int32) (l3 : Int32) (l4 : Int32) (σ : Hp) : Option ((((Option Nat) × Int32 × Int32 × Int32) ⊕ (Int32)) × Hp) :=
  if l2 ≤ l4 then
    some (Sum.inr (l3), σ)
  else
    (l0).bind fun a1 =>
    (ck 6 σ a1).bind fun u2 =>
    cb (s_X6_byteAt a1 (l4) σ) fun v4 σ3 =>
    some (Sum.inl ((some (a1)), (l2), (if 1001 < (((l3 * 10) + v4) - 48) then 1001 else (((l3 * 10) + v4) - 48)), (l4 + 1)), σ3)
noncomputable def s_X4_numberAt_l5 : ((Option Nat) × Int32 × Int32 × Int32) → Hp → Option ((Int32) × Hp) := loopF (fun v => s_X4_numberAt_b5 (v.1) (v.2.1) (v.2.2.1) (v.2.2.2))
set_option maxRecDepth 100000 in
theorem w_X4_numberAt_b5 {E : E0} (hE : EOK E) {X : X0} (C : XOK E X cX4_numberAt RX4 5 (some .int) rm_X4_numberAt) (hxn : xn X = (rm_X4_numberAt.cells, rm_X4_numberAt.slots)) {KE : (Int32) → Hp → Prop} (e_ret : ∀ (r : Int32) (σ : Hp), KE (r) σ → xd X = (some (tI r), σ)) (l0 : Option Nat) (l2 : Int32) (l3 : Int32) (l4 : Int32) (σ : Hp) (x : ((Option Nat) × Int32 × Int32 × Int32) ⊕ (Int32)) (σ1 : Hp) (h : s_X4_numberAt_b5 l0 l2 l3 l4 σ = some (x, σ1)) (hI : ∀ v, x = Sum.inl v → (fun (v : (Option Nat) × Int32 × Int32 × Int32) (σ : Hp) => G E X 0 0 5 [(0, tR ((v.1))), (2, tI ((v.2.1))), (3, tI ((v.2.2.1))), (4, tI ((v.2.2.2)))] [] σ) v σ1) (hO : ∀ e, x = Sum.inr e → KE e σ1) : G E X 0 0 5 [(0, tR (l0)), (2, tI (l2)), (3, tI (l3)), (4, tI (l4))] [] σ := by
  unfold s_X4_numberAt_b5 at h
  refine g_iload (pc := 5) C 3 dX4_numberAt_5 rfl ?_
  refine g_iload_n (pc := 7) C 2 1 dX4_numberAt_7 rfl rfl ?_
  refine g_icmp_ge (pc := 8) C 38 dX4_numberAt_8 (by decide) (fun c5 => ?_) (fun c5 => ?_)
  · have h := zif_t c5 h
    refine g_iload_n (pc := 38) C 3 2 dX4_numberAt_38 rfl rfl ?_
    obtain ⟨rfl, rfl⟩ := zsome h
    exact g_iret (pc := 39) C rfl (e_ret _ _ (hO _ rfl)) (by rw [hxn]; rfl) (by rw [hxn]; rfl) dX4_numberAt_39
  · have h := zif_f c5 h
    refine g_iload_n (pc := 11) C 3 2 dX4_numberAt_11 rfl rfl ?_
    refine g_bipush (v := 10) (pc := 12) C dX4_numberAt_12 (by decide) ?_
    refine g_imul (pc := 14) C dX4_numberAt_14 ?_
    refine g_aload_n (pc := 15) C 0 0 dX4_numberAt_15 rfl rfl ?_
    refine g_iload (pc := 16) C 3 dX4_numberAt_16 rfl ?_
    obtain ⟨a1, hqa1, h9⟩ := zbind h
    clear h
    subst hqa1
    have h := h9
    clear h9
    obtain ⟨u2, hvu2, h⟩ := zbind h
    obtain ⟨v4, σ3, hvσ3, h⟩ := zcb h
    refine g_callV (pc := 18) (av := [tI (l4)]) C (c_X6_byteAt hE hvσ3) yv_X6_byteAt ml_X4_80 ck_6 (zopt hvu2).1 rfl (rf_of (by decide)) rfl (Nat.le_of_ble_eq_true rfl) dX4_numberAt_18 ?_
    refine g_iadd (pc := 21) C dX4_numberAt_21 ?_
    refine g_bipush (v := 48) (pc := 22) C dX4_numberAt_22 (by decide) ?_
    refine g_isub (pc := 24) C dX4_numberAt_24 ?_
    refine g_sipush (v := 1001) (pc := 25) C dX4_numberAt_25 (by decide) ?_
    refine g_mmin (pc := 28) C ml_X4_112 ⟨Nat.le_of_ble_eq_true rfl, Nat.le_of_ble_eq_true rfl⟩ ⟨Nat.le_of_ble_eq_true rfl, Nat.le_of_ble_eq_true rfl⟩ dX4_numberAt_28 ?_
    refine g_istore_n (lm' := [(3, tI (if 1001 < (((l3 * 10) + v4) - 48) then 1001 else (((l3 * 10) + v4) - 48))), (0, tR (some (a1))), (2, tI (l2)), (4, tI (l4))]) (pc := 31) C 3 dX4_numberAt_31 rfl (by decide) rfl ?_
    refine g_iinc (lm' := [(4, tI (l4 + 1)), (3, tI (if 1001 < (((l3 * 10) + v4) - 48) then 1001 else (((l3 * 10) + v4) - 48))), (0, tR (some (a1))), (2, tI (l2))]) (v := l4 + 1) (pc := 32) C 3 dX4_numberAt_32 rfl rfl (by decide) rfl ?_
    refine g_goto (pc := 35) C 5 dX4_numberAt_35 (by decide) ?_
    refine g_sub [2, 3, 1, 0] (lm' := [(0, tR (some (a1))), (2, tI (l2)), (3, tI (if 1001 < (((l3 * 10) + v4) - 48) then 1001 else (((l3 * 10) + v4) - 48))), (4, tI (l4 + 1))]) rfl ?_
    obtain ⟨rfl, rfl⟩ := zsome h
    exact hI _ rfl
theorem w_X4_numberAt_l5 {E : E0} (hE : EOK E) {X : X0} (C : XOK E X cX4_numberAt RX4 5 (some .int) rm_X4_numberAt) (hxn : xn X = (rm_X4_numberAt.cells, rm_X4_numberAt.slots)) {KE : (Int32) → Hp → Prop} (e_ret : ∀ (r : Int32) (σ : Hp), KE (r) σ → xd X = (some (tI r), σ)) {v : (Option Nat) × Int32 × Int32 × Int32} {σ : Hp} {e : Int32} {σ1 : Hp} (h : s_X4_numberAt_l5 v σ = some (e, σ1)) (hO : KE e σ1) : G E X 0 0 5 [(0, tR ((v.1))), (2, tI ((v.2.1))), (3, tI ((v.2.2.1))), (4, tI ((v.2.2.2)))] [] σ := loopF_ind (P := fun (v : (Option Nat) × Int32 × Int32 × Int32) (σ : Hp) => G E X 0 0 5 [(0, tR ((v.1))), (2, tI ((v.2.1))), (3, tI ((v.2.2.1))), (4, tI ((v.2.2.2)))] [] σ) (KE := KE) (fun v σ x σ1 h hI hO => w_X4_numberAt_b5 hE C hxn e_ret (v.1) (v.2.1) (v.2.2.1) (v.2.2.2) σ x σ1 h hI hO) v σ e σ1 h hO
noncomputable def s_X4_numberAt (p0 : Option Nat) (p1 : Int32) (p2 : Int32) (σ : Hp) : Option (Int32 × Hp) :=
  cb (s_X4_numberAt_l5 ((p0), (p2), (0), (p1)) σ) fun r2 σ3 =>
  some (r2, σ3)
set_option maxRecDepth 100000 in
theorem c_X4_numberAt {E : E0} (hE : EOK E) {p0 : Option Nat} {p1 : Int32} {p2 : Int32} {σ σ1 : Hp} {r : Int32} (h : s_X4_numberAt p0 p1 p2 σ = some (r, σ1)) : CT E yX4_numberAt (.code yX4_numberAt cX4_numberAt 5 (some .int)) rm_X4_numberAt [tR (p0), tI (p1), tI (p2)] σ (some (tI r)) σ1 := by
  refine CT.mk hE (by decide +kernel) (Nat.le_of_ble_eq_true rfl) [(0, tR (p0)), (1, tI (p1)), (2, tI (p2))] rfl (fun X C hin hx hxn => ?_)
  have C : XOK E X cX4_numberAt RX4 5 (some .int) rm_X4_numberAt := C
  unfold s_X4_numberAt at h
  refine g_iconst (v := 0) (pc := 0) C dX4_numberAt_0 (by decide) ?_
  refine g_istore_n (lm' := [(3, tI (0)), (0, tR (p0)), (1, tI (p1)), (2, tI (p2))]) (pc := 1) C 3 dX4_numberAt_1 rfl (by decide) rfl ?_
  refine g_iload_n (pc := 2) C 1 2 dX4_numberAt_2 rfl rfl ?_
  refine g_istore (lm' := [(4, tI (p1)), (3, tI (0)), (0, tR (p0)), (1, tI (p1)), (2, tI (p2))]) (pc := 3) C dX4_numberAt_3 (by decide) rfl ?_
  refine g_sub [2, 4, 1, 0] (lm' := [(0, tR (p0)), (2, tI (p2)), (3, tI (0)), (4, tI (p1))]) rfl ?_
  obtain ⟨KQ, hKQ, r2, σ3, hlr2, h⟩ := zcbK h
  refine w_X4_numberAt_l5 (KE := KQ) hE C hxn ?_ hlr2 h
  · intro r2 σ1 h
    have h := (hKQ _ _).mp h
    obtain ⟨rfl, rfl⟩ := zsome h
    exact hx
def rm_X4_kind : Room := { frames := 0, cells := 0, slots := 0, locals := 0 }
noncomputable def s_X4_kind (h0 : Nat) (σ : Hp) : Option (Int32 × Hp) :=
  (rdI 4 σ h0 6).bind fun v1 =>
  if v1 < 0 then
    some ((258), σ)
  else
    (rdI 4 σ h0 6).bind fun v2 =>
    (rdI 4 σ h0 5).bind fun v3 =>
    if v3 ≤ v2 then
      some ((258), σ)
    else
      (rdR 4 σ h0 0).bind fun r4 =>
      (rdI 4 σ h0 6).bind fun v5 =>
      (r4).bind fun a6 =>
      (ldI 11 σ a6 (v5)).bind fun v7 =>
      some ((v7), σ)
set_option maxRecDepth 100000 in
theorem c_X4_kind {E : E0} (hE : EOK E) {h0 : Nat} {σ σ1 : Hp} {r : Int32} (h : s_X4_kind h0 σ = some (r, σ1)) : CT E yX4_kind (.code yX4_kind cX4_kind 1 (some .int)) rm_X4_kind [tR (some (h0))] σ (some (tI r)) σ1 := by
  refine CT.mk hE (by decide +kernel) (Nat.le_of_ble_eq_true rfl) [(0, tR (some (h0)))] rfl (fun X C hin hx hxn => ?_)
  have C : XOK E X cX4_kind RX4 1 (some .int) rm_X4_kind := C
  unfold s_X4_kind at h
  refine g_aload_n (pc := 0) C 0 0 dX4_kind_0 rfl rfl ?_
  obtain ⟨v1, hvv1, h⟩ := zbind h
  refine g_getI (N := 12) (pc := 1) C ck_4 hvv1 rfl rfl fl_X4_35 dX4_kind_1 ?_
  refine g_if_lt (pc := 4) C 30 dX4_kind_4 (by decide) (fun c9 => ?_) (fun c9 => ?_)
  · have h := zif_t c9 h
    refine g_sipush (v := 258) (pc := 30) C dX4_kind_30 (by decide) ?_
    obtain ⟨rfl, rfl⟩ := zsome h
    exact g_iret (pc := 33) C rfl hx (by rw [hxn]; rfl) (by rw [hxn]; rfl) dX4_kind_33
  · have h := zif_f c9 h
    refine g_aload_n (pc := 7) C 0 0 dX4_kind_7 rfl rfl ?_
    obtain ⟨v2, hvv2, h⟩ := zbind h
    refine g_getI (N := 12) (pc := 8) C ck_4 hvv2 rfl rfl fl_X4_35 dX4_kind_8 ?_
    refine g_aload_n (pc := 11) C 0 0 dX4_kind_11 rfl rfl ?_
    obtain ⟨v3, hvv3, h⟩ := zbind h
    refine g_getI (N := 12) (pc := 12) C ck_4 hvv3 rfl rfl fl_X4_77 dX4_kind_12 ?_
    refine g_icmp_ge (pc := 15) C 30 dX4_kind_15 (by decide) (fun c8 => ?_) (fun c8 => ?_)
    · have h := zif_t c8 h
      refine g_sipush (v := 258) (pc := 30) C dX4_kind_30 (by decide) ?_
      obtain ⟨rfl, rfl⟩ := zsome h
      exact g_iret (pc := 33) C rfl hx (by rw [hxn]; rfl) (by rw [hxn]; rfl) dX4_kind_33
    · have h := zif_f c8 h
      refine g_aload_n (pc := 18) C 0 0 dX4_kind_18 rfl rfl ?_
      obtain ⟨r4, hvr4, h⟩ := zbind h
      refine g_getR (N := 12) (pc := 19) C ck_4 hvr4 rfl rfl fl_X4_9 dX4_kind_19 ?_
      refine g_aload_n (pc := 22) C 0 0 dX4_kind_22 rfl rfl ?_
      obtain ⟨v5, hvv5, h⟩ := zbind h
      refine g_getI (N := 12) (pc := 23) C ck_4 hvv5 rfl rfl fl_X4_35 dX4_kind_23 ?_
      obtain ⟨a6, hqa6, h9⟩ := zbind h
      clear h
      subst hqa6
      have h := h9
      clear h9
      obtain ⟨v7, hvv7, h⟩ := zbind h
      refine g_iald (pc := 26) C hvv7 dX4_kind_26 ?_
      refine g_goto (pc := 27) C 33 dX4_kind_27 (by decide) ?_
      obtain ⟨rfl, rfl⟩ := zsome h
      exact g_iret (pc := 33) C rfl hx (by rw [hxn]; rfl) (by rw [hxn]; rfl) dX4_kind_33
def rm_X4_beginsClause : Room := { frames := 0, cells := 0, slots := 0, locals := 0 }
noncomputable def s_X4_beginsClause (h0 : Nat) (p1 : Int32) (σ : Hp) : Option (Int32 × Hp) :=
  (rdI 4 σ h0 10).bind fun v1 =>
  if v1 = 0 then
    if p1 = 316 then
      some ((1), σ)
    else
      if p1 = 318 then
        some ((1), σ)
      else
        if p1 = 320 then
          some ((1), σ)
        else
          if p1 = 322 then
            some ((1), σ)
          else
            some ((0), σ)
  else
    if p1 = 300 then
      some ((1), σ)
    else
      if p1 = 301 then
        some ((1), σ)
      else
        if p1 = 302 then
          some ((1), σ)
        else
          some ((0), σ)
set_option maxRecDepth 100000 in
theorem c_X4_beginsClause {E : E0} (hE : EOK E) {h0 : Nat} {p1 : Int32} {σ σ1 : Hp} {r : Int32} (h : s_X4_beginsClause h0 p1 σ = some (r, σ1)) : CT E yX4_beginsClause (.code yX4_beginsClause cX4_beginsClause 2 (some .boolean)) rm_X4_beginsClause [tR (some (h0)), tI (p1)] σ (some (tI r)) σ1 := by
  refine CT.mk hE (by decide +kernel) (Nat.le_of_ble_eq_true rfl) [(0, tR (some (h0))), (1, tI (p1))] rfl (fun X C hin hx hxn => ?_)
  have C : XOK E X cX4_beginsClause RX4 2 (some .boolean) rm_X4_beginsClause := C
  unfold s_X4_beginsClause at h
  refine g_aload_n (pc := 0) C 0 0 dX4_beginsClause_0 rfl rfl ?_
  obtain ⟨v1, hvv1, h⟩ := zbind h
  refine g_getI (N := 12) (pc := 1) C ck_4 hvv1 rfl rfl fl_X4_31 dX4_beginsClause_1 ?_
  refine g_if_eq (pc := 4) C 34 dX4_beginsClause_4 (by decide) (fun c9 => ?_) (fun c9 => ?_)
  · have h := zif_t c9 h
    refine g_iload_n (pc := 34) C 1 1 dX4_beginsClause_34 rfl rfl ?_
    refine g_sipush (v := 316) (pc := 35) C dX4_beginsClause_35 (by decide) ?_
    refine g_icmp_eq (pc := 38) C 62 dX4_beginsClause_38 (by decide) (fun c5 => ?_) (fun c5 => ?_)
    · have h := zif_t c5 h
      refine g_iconst (v := 1) (pc := 62) C dX4_beginsClause_62 (by decide) ?_
      refine g_goto (pc := 63) C 67 dX4_beginsClause_63 (by decide) ?_
      obtain ⟨rfl, rfl⟩ := zsome h
      exact g_zret (pc := 67) C rfl hx (by decide) (by rw [hxn]; rfl) (by rw [hxn]; rfl) dX4_beginsClause_67
    · have h := zif_f c5 h
      refine g_iload_n (pc := 41) C 1 1 dX4_beginsClause_41 rfl rfl ?_
      refine g_sipush (v := 318) (pc := 42) C dX4_beginsClause_42 (by decide) ?_
      refine g_icmp_eq (pc := 45) C 62 dX4_beginsClause_45 (by decide) (fun c4 => ?_) (fun c4 => ?_)
      · have h := zif_t c4 h
        refine g_iconst (v := 1) (pc := 62) C dX4_beginsClause_62 (by decide) ?_
        refine g_goto (pc := 63) C 67 dX4_beginsClause_63 (by decide) ?_
        obtain ⟨rfl, rfl⟩ := zsome h
        exact g_zret (pc := 67) C rfl hx (by decide) (by rw [hxn]; rfl) (by rw [hxn]; rfl) dX4_beginsClause_67
      · have h := zif_f c4 h
        refine g_iload_n (pc := 48) C 1 1 dX4_beginsClause_48 rfl rfl ?_
        refine g_sipush (v := 320) (pc := 49) C dX4_beginsClause_49 (by decide) ?_
        refine g_icmp_eq (pc := 52) C 62 dX4_beginsClause_52 (by decide) (fun c3 => ?_) (fun c3 => ?_)
        · have h := zif_t c3 h
          refine g_iconst (v := 1) (pc := 62) C dX4_beginsClause_62 (by decide) ?_
          refine g_goto (pc := 63) C 67 dX4_beginsClause_63 (by decide) ?_
          obtain ⟨rfl, rfl⟩ := zsome h
          exact g_zret (pc := 67) C rfl hx (by decide) (by rw [hxn]; rfl) (by rw [hxn]; rfl) dX4_beginsClause_67
        · have h := zif_f c3 h
          refine g_iload_n (pc := 55) C 1 1 dX4_beginsClause_55 rfl rfl ?_
          refine g_sipush (v := 322) (pc := 56) C dX4_beginsClause_56 (by decide) ?_
          refine g_icmp_ne (pc := 59) C 66 dX4_beginsClause_59 (by decide) (fun c2 => ?_) (fun c2 => ?_)
          · have h := zif_f c2 h
            refine g_iconst (v := 0) (pc := 66) C dX4_beginsClause_66 (by decide) ?_
            obtain ⟨rfl, rfl⟩ := zsome h
            exact g_zret (pc := 67) C rfl hx (by decide) (by rw [hxn]; rfl) (by rw [hxn]; rfl) dX4_beginsClause_67
          · have h := zif_t c2 h
            refine g_iconst (v := 1) (pc := 62) C dX4_beginsClause_62 (by decide) ?_
            refine g_goto (pc := 63) C 67 dX4_beginsClause_63 (by decide) ?_
            obtain ⟨rfl, rfl⟩ := zsome h
            exact g_zret (pc := 67) C rfl hx (by decide) (by rw [hxn]; rfl) (by rw [hxn]; rfl) dX4_beginsClause_67
  · have h := zif_f c9 h
    refine g_iload_n (pc := 7) C 1 1 dX4_beginsClause_7 rfl rfl ?_
    refine g_sipush (v := 300) (pc := 8) C dX4_beginsClause_8 (by decide) ?_
    refine g_icmp_eq (pc := 11) C 28 dX4_beginsClause_11 (by decide) (fun c8 => ?_) (fun c8 => ?_)
    · have h := zif_t c8 h
      refine g_iconst (v := 1) (pc := 28) C dX4_beginsClause_28 (by decide) ?_
      refine g_goto (pc := 29) C 33 dX4_beginsClause_29 (by decide) ?_
      obtain ⟨rfl, rfl⟩ := zsome h
      exact g_zret (pc := 33) C rfl hx (by decide) (by rw [hxn]; rfl) (by rw [hxn]; rfl) dX4_beginsClause_33
    · have h := zif_f c8 h
      refine g_iload_n (pc := 14) C 1 1 dX4_beginsClause_14 rfl rfl ?_
      refine g_sipush (v := 301) (pc := 15) C dX4_beginsClause_15 (by decide) ?_
      refine g_icmp_eq (pc := 18) C 28 dX4_beginsClause_18 (by decide) (fun c7 => ?_) (fun c7 => ?_)
      · have h := zif_t c7 h
        refine g_iconst (v := 1) (pc := 28) C dX4_beginsClause_28 (by decide) ?_
        refine g_goto (pc := 29) C 33 dX4_beginsClause_29 (by decide) ?_
        obtain ⟨rfl, rfl⟩ := zsome h
        exact g_zret (pc := 33) C rfl hx (by decide) (by rw [hxn]; rfl) (by rw [hxn]; rfl) dX4_beginsClause_33
      · have h := zif_f c7 h
        refine g_iload_n (pc := 21) C 1 1 dX4_beginsClause_21 rfl rfl ?_
        refine g_sipush (v := 302) (pc := 22) C dX4_beginsClause_22 (by decide) ?_
        refine g_icmp_ne (pc := 25) C 32 dX4_beginsClause_25 (by decide) (fun c6 => ?_) (fun c6 => ?_)
        · have h := zif_f c6 h
          refine g_iconst (v := 0) (pc := 32) C dX4_beginsClause_32 (by decide) ?_
          obtain ⟨rfl, rfl⟩ := zsome h
          exact g_zret (pc := 33) C rfl hx (by decide) (by rw [hxn]; rfl) (by rw [hxn]; rfl) dX4_beginsClause_33
        · have h := zif_t c6 h
          refine g_iconst (v := 1) (pc := 28) C dX4_beginsClause_28 (by decide) ?_
          refine g_goto (pc := 29) C 33 dX4_beginsClause_29 (by decide) ?_
          obtain ⟨rfl, rfl⟩ := zsome h
          exact g_zret (pc := 33) C rfl hx (by decide) (by rw [hxn]; rfl) (by rw [hxn]; rfl) dX4_beginsClause_33
def rm_X4_fail : Room := { frames := 0, cells := 0, slots := 0, locals := 0 }
noncomputable def s_X4_fail (h0 : Nat) (σ : Hp) : Option (Int32 × Hp) :=
  (rdI 4 σ h0 6).bind fun v1 =>
  if v1 < 0 then
    (wrI 4 σ h0 11 ((-1))).bind fun σ2 =>
    some ((0), σ2)
  else
    (rdI 4 σ h0 6).bind fun v3 =>
    (rdI 4 σ h0 5).bind fun v4 =>
    if v4 < v3 then
      (wrI 4 σ h0 11 ((-1))).bind fun σ5 =>
      some ((0), σ5)
    else
      (rdR 4 σ h0 1).bind fun r6 =>
      (rdI 4 σ h0 6).bind fun v7 =>
      (r6).bind fun a8 =>
      (ldI 11 σ a8 (v7)).bind fun v9 =>
      (wrI 4 σ h0 11 (v9)).bind fun σ10 =>
      some ((0), σ10)
set_option maxRecDepth 100000 in
theorem c_X4_fail {E : E0} (hE : EOK E) {h0 : Nat} {σ σ1 : Hp} {r : Int32} (h : s_X4_fail h0 σ = some (r, σ1)) : CT E yX4_fail (.code yX4_fail cX4_fail 1 (some .boolean)) rm_X4_fail [tR (some (h0))] σ (some (tI r)) σ1 := by
  refine CT.mk hE (by decide +kernel) (Nat.le_of_ble_eq_true rfl) [(0, tR (some (h0)))] rfl (fun X C hin hx hxn => ?_)
  have C : XOK E X cX4_fail RX4 1 (some .boolean) rm_X4_fail := C
  unfold s_X4_fail at h
  refine g_aload_n (pc := 0) C 0 0 dX4_fail_0 rfl rfl ?_
  refine g_aload_n (pc := 1) C 0 0 dX4_fail_1 rfl rfl ?_
  obtain ⟨v1, hvv1, h⟩ := zbind h
  refine g_getI (N := 12) (pc := 2) C ck_4 hvv1 rfl rfl fl_X4_35 dX4_fail_2 ?_
  refine g_if_lt (pc := 5) C 31 dX4_fail_5 (by decide) (fun c12 => ?_) (fun c12 => ?_)
  · have h := zif_t c12 h
    refine g_iconst (v := (-1)) (pc := 31) C dX4_fail_31 (by decide) ?_
    obtain ⟨σ2, hvσ2, h⟩ := zbind h
    refine g_putI (N := 12) (pc := 32) C ⟨ck_4, rfl, tyX4_ok⟩ hvσ2 rfl fl_X4_27 rfl rfl dX4_fail_32 ?_
    refine g_iconst (v := 0) (pc := 35) C dX4_fail_35 (by decide) ?_
    obtain ⟨rfl, rfl⟩ := zsome h
    exact g_zret (pc := 36) C rfl hx (by decide) (by rw [hxn]; rfl) (by rw [hxn]; rfl) dX4_fail_36
  · have h := zif_f c12 h
    refine g_aload_n (pc := 8) C 0 0 dX4_fail_8 rfl rfl ?_
    obtain ⟨v3, hvv3, h⟩ := zbind h
    refine g_getI (N := 12) (pc := 9) C ck_4 hvv3 rfl rfl fl_X4_35 dX4_fail_9 ?_
    refine g_aload_n (pc := 12) C 0 0 dX4_fail_12 rfl rfl ?_
    obtain ⟨v4, hvv4, h⟩ := zbind h
    refine g_getI (N := 12) (pc := 13) C ck_4 hvv4 rfl rfl fl_X4_77 dX4_fail_13 ?_
    refine g_icmp_gt (pc := 16) C 31 dX4_fail_16 (by decide) (fun c11 => ?_) (fun c11 => ?_)
    · have h := zif_t c11 h
      refine g_iconst (v := (-1)) (pc := 31) C dX4_fail_31 (by decide) ?_
      obtain ⟨σ5, hvσ5, h⟩ := zbind h
      refine g_putI (N := 12) (pc := 32) C ⟨ck_4, rfl, tyX4_ok⟩ hvσ5 rfl fl_X4_27 rfl rfl dX4_fail_32 ?_
      refine g_iconst (v := 0) (pc := 35) C dX4_fail_35 (by decide) ?_
      obtain ⟨rfl, rfl⟩ := zsome h
      exact g_zret (pc := 36) C rfl hx (by decide) (by rw [hxn]; rfl) (by rw [hxn]; rfl) dX4_fail_36
    · have h := zif_f c11 h
      refine g_aload_n (pc := 19) C 0 0 dX4_fail_19 rfl rfl ?_
      obtain ⟨r6, hvr6, h⟩ := zbind h
      refine g_getR (N := 12) (pc := 20) C ck_4 hvr6 rfl rfl fl_X4_15 dX4_fail_20 ?_
      refine g_aload_n (pc := 23) C 0 0 dX4_fail_23 rfl rfl ?_
      obtain ⟨v7, hvv7, h⟩ := zbind h
      refine g_getI (N := 12) (pc := 24) C ck_4 hvv7 rfl rfl fl_X4_35 dX4_fail_24 ?_
      obtain ⟨a8, hqa8, h9⟩ := zbind h
      clear h
      subst hqa8
      have h := h9
      clear h9
      obtain ⟨v9, hvv9, h⟩ := zbind h
      refine g_iald (pc := 27) C hvv9 dX4_fail_27 ?_
      refine g_goto (pc := 28) C 32 dX4_fail_28 (by decide) ?_
      obtain ⟨σ10, hvσ10, h⟩ := zbind h
      refine g_putI (N := 12) (pc := 32) C ⟨ck_4, rfl, tyX4_ok⟩ hvσ10 rfl fl_X4_27 rfl rfl dX4_fail_32 ?_
      refine g_iconst (v := 0) (pc := 35) C dX4_fail_35 (by decide) ?_
      obtain ⟨rfl, rfl⟩ := zsome h
      exact g_zret (pc := 36) C rfl hx (by decide) (by rw [hxn]; rfl) (by rw [hxn]; rfl) dX4_fail_36
def rm_X4_take : Room := { frames := 1, cells := 0, slots := 0, locals := 20 }
noncomputable def s_X4_take (h0 : Nat) (p1 : Int32) (σ : Hp) : Option (Int32 × Hp) :=
  (ck 4 σ h0).bind fun u1 =>
  cb (s_X4_kind h0 σ) fun v3 σ2 =>
  if v3 = p1 then
    (rdI 4 σ2 h0 6).bind fun v4 =>
    (wrI 4 σ2 h0 6 (v4 + 1)).bind fun σ5 =>
    some ((1), σ5)
  else
    (ck 4 σ2 h0).bind fun u6 =>
    cb (s_X4_fail h0 σ2) fun v8 σ7 =>
    (zbo (v8)).bind fun u9 =>
    some ((v8), σ7)
set_option maxRecDepth 100000 in
theorem c_X4_take {E : E0} (hE : EOK E) {h0 : Nat} {p1 : Int32} {σ σ1 : Hp} {r : Int32} (h : s_X4_take h0 p1 σ = some (r, σ1)) : CT E yX4_take (.code yX4_take cX4_take 2 (some .boolean)) rm_X4_take [tR (some (h0)), tI (p1)] σ (some (tI r)) σ1 := by
  refine CT.mk hE (by decide +kernel) (Nat.le_of_ble_eq_true rfl) [(0, tR (some (h0))), (1, tI (p1))] rfl (fun X C hin hx hxn => ?_)
  have C : XOK E X cX4_take RX4 2 (some .boolean) rm_X4_take := C
  unfold s_X4_take at h
  refine g_aload_n (pc := 0) C 0 0 dX4_take_0 rfl rfl ?_
  obtain ⟨u1, hvu1, h⟩ := zbind h
  obtain ⟨v3, σ2, hvσ2, h⟩ := zcb h
  refine g_callV (pc := 1) (av := []) C (c_X4_kind hE hvσ2) yv_X4_kind ml_X4_55 ck_4 (zopt hvu1).1 rfl (rf_of (by decide)) rfl (Nat.le_of_ble_eq_true rfl) dX4_take_1 ?_
  refine g_iload_n (pc := 4) C 1 1 dX4_take_4 rfl rfl ?_
  refine g_icmp_eq (pc := 5) C 13 dX4_take_5 (by decide) (fun c10 => ?_) (fun c10 => ?_)
  · have h := zif_t c10 h
    refine g_aload_n (pc := 13) C 0 0 dX4_take_13 rfl rfl ?_
    refine g_dup (pc := 14) C dX4_take_14 rfl ?_
    obtain ⟨v4, hvv4, h⟩ := zbind h
    refine g_getI (N := 12) (pc := 15) C ck_4 hvv4 rfl rfl fl_X4_35 dX4_take_15 ?_
    refine g_iconst (v := 1) (pc := 18) C dX4_take_18 (by decide) ?_
    refine g_iadd (pc := 19) C dX4_take_19 ?_
    obtain ⟨σ5, hvσ5, h⟩ := zbind h
    refine g_putI (N := 12) (pc := 20) C ⟨ck_4, rfl, tyX4_ok⟩ hvσ5 rfl fl_X4_35 rfl rfl dX4_take_20 ?_
    refine g_iconst (v := 1) (pc := 23) C dX4_take_23 (by decide) ?_
    obtain ⟨rfl, rfl⟩ := zsome h
    exact g_zret (pc := 24) C rfl hx (by decide) (by rw [hxn]; rfl) (by rw [hxn]; rfl) dX4_take_24
  · have h := zif_f c10 h
    refine g_aload_n (pc := 8) C 0 0 dX4_take_8 rfl rfl ?_
    obtain ⟨u6, hvu6, h⟩ := zbind h
    obtain ⟨v8, σ7, hvσ7, h⟩ := zcb h
    refine g_callV (pc := 9) (av := []) C (c_X4_fail hE hvσ7) yv_X4_fail ml_X4_74 ck_4 (zopt hvu6).1 rfl (rf_of (by decide)) rfl (Nat.le_of_ble_eq_true rfl) dX4_take_9 ?_
    obtain ⟨u9, hvu9, h⟩ := zbind h
    obtain ⟨rfl, rfl⟩ := zsome h
    exact g_zret (pc := 12) C rfl hx (zbo_h hvu9) (by rw [hxn]; rfl) (by rw [hxn]; rfl) dX4_take_12
def rm_X4_numberNow : Room := { frames := 0, cells := 0, slots := 0, locals := 0 }
noncomputable def s_X4_numberNow (h0 : Nat) (σ : Hp) : Option (Int32 × Hp) :=
  (rdI 4 σ h0 6).bind fun v1 =>
  if v1 < 0 then
    some ((0), σ)
  else
    (rdI 4 σ h0 6).bind fun v2 =>
    (rdI 4 σ h0 5).bind fun v3 =>
    if v3 ≤ v2 then
      some ((0), σ)
    else
      (rdR 4 σ h0 2).bind fun r4 =>
      (rdI 4 σ h0 6).bind fun v5 =>
      (r4).bind fun a6 =>
      (ldI 11 σ a6 (v5)).bind fun v7 =>
      some ((v7), σ)
set_option maxRecDepth 100000 in
theorem c_X4_numberNow {E : E0} (hE : EOK E) {h0 : Nat} {σ σ1 : Hp} {r : Int32} (h : s_X4_numberNow h0 σ = some (r, σ1)) : CT E yX4_numberNow (.code yX4_numberNow cX4_numberNow 1 (some .int)) rm_X4_numberNow [tR (some (h0))] σ (some (tI r)) σ1 := by
  refine CT.mk hE (by decide +kernel) (Nat.le_of_ble_eq_true rfl) [(0, tR (some (h0)))] rfl (fun X C hin hx hxn => ?_)
  have C : XOK E X cX4_numberNow RX4 1 (some .int) rm_X4_numberNow := C
  unfold s_X4_numberNow at h
  refine g_aload_n (pc := 0) C 0 0 dX4_numberNow_0 rfl rfl ?_
  obtain ⟨v1, hvv1, h⟩ := zbind h
  refine g_getI (N := 12) (pc := 1) C ck_4 hvv1 rfl rfl fl_X4_35 dX4_numberNow_1 ?_
  refine g_if_lt (pc := 4) C 30 dX4_numberNow_4 (by decide) (fun c9 => ?_) (fun c9 => ?_)
  · have h := zif_t c9 h
    refine g_iconst (v := 0) (pc := 30) C dX4_numberNow_30 (by decide) ?_
    obtain ⟨rfl, rfl⟩ := zsome h
    exact g_iret (pc := 31) C rfl hx (by rw [hxn]; rfl) (by rw [hxn]; rfl) dX4_numberNow_31
  · have h := zif_f c9 h
    refine g_aload_n (pc := 7) C 0 0 dX4_numberNow_7 rfl rfl ?_
    obtain ⟨v2, hvv2, h⟩ := zbind h
    refine g_getI (N := 12) (pc := 8) C ck_4 hvv2 rfl rfl fl_X4_35 dX4_numberNow_8 ?_
    refine g_aload_n (pc := 11) C 0 0 dX4_numberNow_11 rfl rfl ?_
    obtain ⟨v3, hvv3, h⟩ := zbind h
    refine g_getI (N := 12) (pc := 12) C ck_4 hvv3 rfl rfl fl_X4_77 dX4_numberNow_12 ?_
    refine g_icmp_ge (pc := 15) C 30 dX4_numberNow_15 (by decide) (fun c8 => ?_) (fun c8 => ?_)
    · have h := zif_t c8 h
      refine g_iconst (v := 0) (pc := 30) C dX4_numberNow_30 (by decide) ?_
      obtain ⟨rfl, rfl⟩ := zsome h
      exact g_iret (pc := 31) C rfl hx (by rw [hxn]; rfl) (by rw [hxn]; rfl) dX4_numberNow_31
    · have h := zif_f c8 h
      refine g_aload_n (pc := 18) C 0 0 dX4_numberNow_18 rfl rfl ?_
      obtain ⟨r4, hvr4, h⟩ := zbind h
      refine g_getR (N := 12) (pc := 19) C ck_4 hvr4 rfl rfl fl_X4_18 dX4_numberNow_19 ?_
      refine g_aload_n (pc := 22) C 0 0 dX4_numberNow_22 rfl rfl ?_
      obtain ⟨v5, hvv5, h⟩ := zbind h
      refine g_getI (N := 12) (pc := 23) C ck_4 hvv5 rfl rfl fl_X4_35 dX4_numberNow_23 ?_
      obtain ⟨a6, hqa6, h9⟩ := zbind h
      clear h
      subst hqa6
      have h := h9
      clear h9
      obtain ⟨v7, hvv7, h⟩ := zbind h
      refine g_iald (pc := 26) C hvv7 dX4_numberNow_26 ?_
      refine g_goto (pc := 27) C 31 dX4_numberNow_27 (by decide) ?_
      obtain ⟨rfl, rfl⟩ := zsome h
      exact g_iret (pc := 31) C rfl hx (by rw [hxn]; rfl) (by rw [hxn]; rfl) dX4_numberNow_31
