def rm_X9_passNow : Room := { frames := 8, cells := 0, slots := 0, locals := 192 }
noncomputable def s_X9_passNow (h0 : Nat) (σ : Hp) : Option (Int32 × Hp) :=
  (rdR 9 σ h0 3).bind fun r1 =>
  (r1).bind fun a2 =>
  (ldI 11 σ a2 (7)).bind fun v3 =>
  if v3 = 999 then
    some (((-3)), σ)
  else
    (ck 9 σ h0).bind fun u4 =>
    cb (s_X9_remember h0 (3) σ) fun v6 σ5 =>
    (ck 9 σ5 h0).bind fun u7 =>
    cb (s_X9_passIt h0 σ5) fun v9 σ8 =>
    some ((v9), σ8)
set_option maxRecDepth 100000 in
theorem c_X9_passNow {E : E0} (hE : EOK E) {h0 : Nat} {σ σ1 : Hp} {r : Int32} (h : s_X9_passNow h0 σ = some (r, σ1)) : CT E yX9_passNow (.code yX9_passNow cX9_passNow 1 (some .int)) rm_X9_passNow [tR (some (h0))] σ (some (tI r)) σ1 := by
  refine CT.mk hE (by decide +kernel) (Nat.le_of_ble_eq_true rfl) [(0, tR (some (h0)))] rfl (fun X C hin hx hxn => ?_)
  have C : XOK E X cX9_passNow RX9 1 (some .int) rm_X9_passNow := C
  unfold s_X9_passNow at h
  refine g_aload_n (pc := 0) C 0 0 dX9_passNow_0 rfl rfl ?_
  obtain ⟨r1, hvr1, h⟩ := zbind h
  refine g_getR (N := 58) (pc := 1) C ck_9 hvr1 rfl rfl fl_X9_13 dX9_passNow_1 ?_
  refine g_bipush (v := 7) (pc := 4) C dX9_passNow_4 (by decide) ?_
  obtain ⟨a2, hqa2, h9⟩ := zbind h
  clear h
  subst hqa2
  have h := h9
  clear h9
  obtain ⟨v3, hvv3, h⟩ := zbind h
  refine g_iald (pc := 6) C hvv3 dX9_passNow_6 ?_
  refine g_sipush (v := 999) (pc := 7) C dX9_passNow_7 (by decide) ?_
  refine g_icmp_ne (pc := 10) C 16 dX9_passNow_10 (by decide) (fun c10 => ?_) (fun c10 => ?_)
  · have h := zif_f c10 h
    refine g_aload_n (pc := 16) C 0 0 dX9_passNow_16 rfl rfl ?_
    refine g_iconst (v := 3) (pc := 17) C dX9_passNow_17 (by decide) ?_
    obtain ⟨u4, hvu4, h⟩ := zbind h
    obtain ⟨v6, σ5, hvσ5, h⟩ := zcb h
    refine g_callV (pc := 18) (av := [tI (3)]) C (c_X9_remember hE hvσ5) yv_X9_remember ml_X9_442 ck_9 (zopt hvu4).1 rfl (rf_of (by decide)) rfl (Nat.le_of_ble_eq_true rfl) dX9_passNow_18 ?_
    refine g_aload_n (pc := 21) C 0 0 dX9_passNow_21 rfl rfl ?_
    obtain ⟨u7, hvu7, h⟩ := zbind h
    obtain ⟨v9, σ8, hvσ8, h⟩ := zcb h
    refine g_callV (pc := 22) (av := []) C (c_X9_passIt hE hvσ8) yv_X9_passIt ml_X9_457 ck_9 (zopt hvu7).1 rfl (rf_of (by decide)) rfl (Nat.le_of_ble_eq_true rfl) dX9_passNow_22 ?_
    obtain ⟨rfl, rfl⟩ := zsome h
    exact g_iret (pc := 25) C rfl hx (by rw [hxn]; rfl) (by rw [hxn]; rfl) dX9_passNow_25
  · have h := zif_t c10 h
    refine g_bipush (v := (-3)) (pc := 13) C dX9_passNow_13 (by decide) ?_
    obtain ⟨rfl, rfl⟩ := zsome h
    exact g_iret (pc := 15) C rfl hx (by rw [hxn]; rfl) (by rw [hxn]; rfl) dX9_passNow_15
def rm_X9_pass : Room := { frames := 9, cells := 0, slots := 0, locals := 212 }
noncomputable def s_X9_pass (h0 : Nat) (σ : Hp) : Option (Int32 × Hp) :=
  (wrI 9 σ h0 0 (0)).bind fun σ1 =>
  (ck 9 σ1 h0).bind fun u2 =>
  cb (s_X9_passNow h0 σ1) fun v4 σ3 =>
  (ck 9 σ3 h0).bind fun u5 =>
  cb (s_X9_tell h0 (v4) σ3) fun v7 σ6 =>
  some ((v7), σ6)
set_option maxRecDepth 100000 in
theorem c_X9_pass {E : E0} (hE : EOK E) {h0 : Nat} {σ σ1 : Hp} {r : Int32} (h : s_X9_pass h0 σ = some (r, σ1)) : CT E yX9_pass (.code yX9_pass cX9_pass 1 (some .int)) rm_X9_pass [tR (some (h0))] σ (some (tI r)) σ1 := by
  refine CT.mk hE (by decide +kernel) (Nat.le_of_ble_eq_true rfl) [(0, tR (some (h0)))] rfl (fun X C hin hx hxn => ?_)
  have C : XOK E X cX9_pass RX9 1 (some .int) rm_X9_pass := C
  unfold s_X9_pass at h
  refine g_aload_n (pc := 0) C 0 0 dX9_pass_0 rfl rfl ?_
  refine g_iconst (v := 0) (pc := 1) C dX9_pass_1 (by decide) ?_
  obtain ⟨σ1, hvσ1, h⟩ := zbind h
  refine g_putI (N := 58) (pc := 2) C ⟨ck_9, rfl, tyX9_ok⟩ hvσ1 rfl fl_X9_161 rfl rfl dX9_pass_2 ?_
  refine g_aload_n (pc := 5) C 0 0 dX9_pass_5 rfl rfl ?_
  refine g_aload_n (pc := 6) C 0 0 dX9_pass_6 rfl rfl ?_
  obtain ⟨u2, hvu2, h⟩ := zbind h
  obtain ⟨v4, σ3, hvσ3, h⟩ := zcb h
  refine g_callV (pc := 7) (av := []) C (c_X9_passNow hE hvσ3) yv_X9_passNow ml_X9_460 ck_9 (zopt hvu2).1 rfl (rf_of (by decide)) rfl (Nat.le_of_ble_eq_true rfl) dX9_pass_7 ?_
  obtain ⟨u5, hvu5, h⟩ := zbind h
  obtain ⟨v7, σ6, hvσ6, h⟩ := zcb h
  refine g_callV (pc := 10) (av := [tI (v4)]) C (c_X9_tell hE hvσ6) yv_X9_tell ml_X9_170 ck_9 (zopt hvu5).1 rfl (rf_of (by decide)) rfl (Nat.le_of_ble_eq_true rfl) dX9_pass_10 ?_
  obtain ⟨rfl, rfl⟩ := zsome h
  exact g_iret (pc := 13) C rfl hx (by rw [hxn]; rfl) (by rw [hxn]; rfl) dX9_pass_13
def rm_X9_goesOn : Room := { frames := 7, cells := 0, slots := 0, locals := 167 }
noncomputable def s_X9_goesOn_j67 (h0 : Nat) (l2 : Int32) (t0 : Int32) (σ : Hp) : Option (Int32 × Hp) :=
  (rdR 9 σ h0 3).bind fun r1 =>
  (r1).bind fun a2 =>
  (stI σ a2 (7) (l2)).bind fun σ3 =>
  (zbo (t0)).bind fun u4 =>
  some ((t0), σ3)
set_option maxRecDepth 100000 in
theorem w_X9_goesOn_j67 {E : E0} (hE : EOK E) {X : X0} (C : XOK E X cX9_goesOn RX9 7 (some .boolean) rm_X9_goesOn) (hxn : xn X = (rm_X9_goesOn.cells, rm_X9_goesOn.slots)) (h0 : Nat) (l2 : Int32) (t0 : Int32) (σ : Hp) (r : Int32) (σ1 : Hp) (h : s_X9_goesOn_j67 h0 l2 t0 σ = some (r, σ1)) (hx : xd X = (some (tI r), σ1)) : G E X 0 0 67 [(0, tR (some (h0))), (2, tI (l2))] [tI (t0)] σ := by
  unfold s_X9_goesOn_j67 at h
  refine g_istore (lm' := [(6, tI (t0)), (0, tR (some (h0))), (2, tI (l2))]) (pc := 67) C dX9_goesOn_67 (by decide) rfl ?_
  refine g_aload_n (pc := 69) C 0 1 dX9_goesOn_69 rfl rfl ?_
  obtain ⟨r1, hvr1, h⟩ := zbind h
  refine g_getR (N := 58) (pc := 70) C ck_9 hvr1 rfl rfl fl_X9_13 dX9_goesOn_70 ?_
  refine g_bipush (v := 7) (pc := 73) C dX9_goesOn_73 (by decide) ?_
  refine g_iload_n (pc := 75) C 2 2 dX9_goesOn_75 rfl rfl ?_
  obtain ⟨a2, hqa2, h9⟩ := zbind h
  clear h
  subst hqa2
  have h := h9
  clear h9
  obtain ⟨σ3, hvσ3, h⟩ := zbind h
  refine g_iast (pc := 76) C hvσ3 dX9_goesOn_76 ?_
  refine g_iload (pc := 77) C 0 dX9_goesOn_77 rfl ?_
  obtain ⟨u4, hvu4, h⟩ := zbind h
  obtain ⟨rfl, rfl⟩ := zsome h
  exact g_zret (pc := 79) C rfl hx (zbo_h hvu4) (by rw [hxn]; rfl) (by rw [hxn]; rfl) dX9_goesOn_79
noncomputable def s_X9_goesOn_j66 (h0 : Nat) (l2 : Int32) (σ : Hp) : Option (Int32 × Hp) :=
  s_X9_goesOn_j67 (h0) (l2) (0) σ
set_option maxRecDepth 100000 in
theorem w_X9_goesOn_j66 {E : E0} (hE : EOK E) {X : X0} (C : XOK E X cX9_goesOn RX9 7 (some .boolean) rm_X9_goesOn) (hxn : xn X = (rm_X9_goesOn.cells, rm_X9_goesOn.slots)) (h0 : Nat) (l2 : Int32) (σ : Hp) (r : Int32) (σ1 : Hp) (h : s_X9_goesOn_j66 h0 l2 σ = some (r, σ1)) (hx : xd X = (some (tI r), σ1)) : G E X 0 0 66 [(0, tR (some (h0))), (2, tI (l2))] [] σ := by
  unfold s_X9_goesOn_j66 at h
  refine g_iconst (v := 0) (pc := 66) C dX9_goesOn_66 (by decide) ?_
  exact w_X9_goesOn_j67 hE C hxn _ _ _ _ _ _ h hx
noncomputable def s_X9_goesOn_j34 (h0 : Nat) (l2 : Int32) (l3 : Int32) (l5 : Int32) (t0 : Int32) (σ : Hp) : Option (Int32 × Hp) :=
  (rdR 9 σ h0 3).bind fun r1 =>
  (r1).bind fun a2 =>
  (stI σ a2 (7) ((l2 + l3) + 1)).bind fun σ3 =>
  if t0 = 0 then
    s_X9_goesOn_j66 (h0) (l2) σ3
  else
    (ck 9 σ3 h0).bind fun u4 =>
    cb (s_X9_isSafe h0 (l5) σ3) fun v6 σ5 =>
    if v6 = 0 then
      s_X9_goesOn_j66 (h0) (l2) σ5
    else
      s_X9_goesOn_j67 (h0) (l2) (1) σ5
set_option maxRecDepth 100000 in
theorem w_X9_goesOn_j34 {E : E0} (hE : EOK E) {X : X0} (C : XOK E X cX9_goesOn RX9 7 (some .boolean) rm_X9_goesOn) (hxn : xn X = (rm_X9_goesOn.cells, rm_X9_goesOn.slots)) (h0 : Nat) (l2 : Int32) (l3 : Int32) (l5 : Int32) (t0 : Int32) (σ : Hp) (r : Int32) (σ1 : Hp) (h : s_X9_goesOn_j34 h0 l2 l3 l5 t0 σ = some (r, σ1)) (hx : xd X = (some (tI r), σ1)) : G E X 0 0 34 [(0, tR (some (h0))), (2, tI (l2)), (3, tI (l3)), (5, tI (l5))] [tI (t0)] σ := by
  unfold s_X9_goesOn_j34 at h
  refine g_istore (lm' := [(6, tI (t0)), (0, tR (some (h0))), (2, tI (l2)), (3, tI (l3)), (5, tI (l5))]) (pc := 34) C dX9_goesOn_34 (by decide) rfl ?_
  refine g_aload_n (pc := 36) C 0 1 dX9_goesOn_36 rfl rfl ?_
  obtain ⟨r1, hvr1, h⟩ := zbind h
  refine g_getR (N := 58) (pc := 37) C ck_9 hvr1 rfl rfl fl_X9_13 dX9_goesOn_37 ?_
  refine g_bipush (v := 7) (pc := 40) C dX9_goesOn_40 (by decide) ?_
  refine g_iload_n (pc := 42) C 2 2 dX9_goesOn_42 rfl rfl ?_
  refine g_iload_n (pc := 43) C 3 3 dX9_goesOn_43 rfl rfl ?_
  refine g_iadd (pc := 44) C dX9_goesOn_44 ?_
  refine g_iconst (v := 1) (pc := 45) C dX9_goesOn_45 (by decide) ?_
  refine g_iadd (pc := 46) C dX9_goesOn_46 ?_
  obtain ⟨a2, hqa2, h9⟩ := zbind h
  clear h
  subst hqa2
  have h := h9
  clear h9
  obtain ⟨σ3, hvσ3, h⟩ := zbind h
  refine g_iast (pc := 47) C hvσ3 dX9_goesOn_47 ?_
  refine g_iload (pc := 48) C 0 dX9_goesOn_48 rfl ?_
  refine g_if_eq (pc := 50) C 66 dX9_goesOn_50 (by decide) (fun c8 => ?_) (fun c8 => ?_)
  · have h := zif_t c8 h
    refine g_sub [1, 2] (lm' := [(0, tR (some (h0))), (2, tI (l2))]) rfl ?_
    exact w_X9_goesOn_j66 hE C hxn _ _ _ _ _ h hx
  · have h := zif_f c8 h
    refine g_aload_n (pc := 53) C 0 1 dX9_goesOn_53 rfl rfl ?_
    refine g_iload (pc := 54) C 4 dX9_goesOn_54 rfl ?_
    obtain ⟨u4, hvu4, h⟩ := zbind h
    obtain ⟨v6, σ5, hvσ5, h⟩ := zcb h
    refine g_callV (pc := 56) (av := [tI (l5)]) C (c_X9_isSafe hE hvσ5) yv_X9_isSafe ml_X9_200 ck_9 (zopt hvu4).1 rfl (rf_of (by decide)) rfl (Nat.le_of_ble_eq_true rfl) dX9_goesOn_56 ?_
    refine g_if_eq (pc := 59) C 66 dX9_goesOn_59 (by decide) (fun c7 => ?_) (fun c7 => ?_)
    · have h := zif_t c7 h
      refine g_sub [1, 2] (lm' := [(0, tR (some (h0))), (2, tI (l2))]) rfl ?_
      exact w_X9_goesOn_j66 hE C hxn _ _ _ _ _ h hx
    · have h := zif_f c7 h
      refine g_iconst (v := 1) (pc := 62) C dX9_goesOn_62 (by decide) ?_
      refine g_goto (pc := 63) C 67 dX9_goesOn_63 (by decide) ?_
      refine g_sub [1, 2] (lm' := [(0, tR (some (h0))), (2, tI (l2))]) rfl ?_
      exact w_X9_goesOn_j67 hE C hxn _ _ _ _ _ _ h hx
noncomputable def s_X9_goesOn_j29 (h0 : Nat) (l2 : Int32) (l3 : Int32) (l5 : Int32) (σ : Hp) : Option (Int32 × Hp) :=
  s_X9_goesOn_j34 (h0) (l2) (l3) (l5) (1) σ
set_option maxRecDepth 100000 in
theorem w_X9_goesOn_j29 {E : E0} (hE : EOK E) {X : X0} (C : XOK E X cX9_goesOn RX9 7 (some .boolean) rm_X9_goesOn) (hxn : xn X = (rm_X9_goesOn.cells, rm_X9_goesOn.slots)) (h0 : Nat) (l2 : Int32) (l3 : Int32) (l5 : Int32) (σ : Hp) (r : Int32) (σ1 : Hp) (h : s_X9_goesOn_j29 h0 l2 l3 l5 σ = some (r, σ1)) (hx : xd X = (some (tI r), σ1)) : G E X 0 0 29 [(0, tR (some (h0))), (2, tI (l2)), (3, tI (l3)), (5, tI (l5))] [] σ := by
  unfold s_X9_goesOn_j29 at h
  refine g_iconst (v := 1) (pc := 29) C dX9_goesOn_29 (by decide) ?_
  refine g_goto (pc := 30) C 34 dX9_goesOn_30 (by decide) ?_
  exact w_X9_goesOn_j34 hE C hxn _ _ _ _ _ _ _ _ h hx
noncomputable def s_X9_goesOn (h0 : Nat) (p1 : Int32) (p2 : Int32) (p3 : Int32) (p4 : Int32) (p5 : Int32) (σ : Hp) : Option (Int32 × Hp) :=
  (rdR 9 σ h0 3).bind fun r1 =>
  (r1).bind fun a2 =>
  (stI σ a2 (7) (p2 + p3)).bind fun σ3 =>
  if p4 = p5 then
    s_X9_goesOn_j29 (h0) (p2) (p3) (p5) σ3
  else
    (ck 9 σ3 h0).bind fun u4 =>
    cb (s_X9_canStride h0 (p1) (p4) (p5) σ3) fun v6 σ5 =>
    if v6 = 0 then
      s_X9_goesOn_j34 (h0) (p2) (p3) (p5) (0) σ5
    else
      s_X9_goesOn_j29 (h0) (p2) (p3) (p5) σ5
set_option maxRecDepth 100000 in
theorem c_X9_goesOn {E : E0} (hE : EOK E) {h0 : Nat} {p1 : Int32} {p2 : Int32} {p3 : Int32} {p4 : Int32} {p5 : Int32} {σ σ1 : Hp} {r : Int32} (h : s_X9_goesOn h0 p1 p2 p3 p4 p5 σ = some (r, σ1)) : CT E yX9_goesOn (.code yX9_goesOn cX9_goesOn 7 (some .boolean)) rm_X9_goesOn [tR (some (h0)), tI (p1), tI (p2), tI (p3), tI (p4), tI (p5)] σ (some (tI r)) σ1 := by
  refine CT.mk hE (by decide +kernel) (Nat.le_of_ble_eq_true rfl) [(0, tR (some (h0))), (1, tI (p1)), (2, tI (p2)), (3, tI (p3)), (4, tI (p4)), (5, tI (p5))] rfl (fun X C hin hx hxn => ?_)
  have C : XOK E X cX9_goesOn RX9 7 (some .boolean) rm_X9_goesOn := C
  unfold s_X9_goesOn at h
  refine g_aload_n (pc := 0) C 0 0 dX9_goesOn_0 rfl rfl ?_
  obtain ⟨r1, hvr1, h⟩ := zbind h
  refine g_getR (N := 58) (pc := 1) C ck_9 hvr1 rfl rfl fl_X9_13 dX9_goesOn_1 ?_
  refine g_bipush (v := 7) (pc := 4) C dX9_goesOn_4 (by decide) ?_
  refine g_iload_n (pc := 6) C 2 2 dX9_goesOn_6 rfl rfl ?_
  refine g_iload_n (pc := 7) C 3 3 dX9_goesOn_7 rfl rfl ?_
  refine g_iadd (pc := 8) C dX9_goesOn_8 ?_
  obtain ⟨a2, hqa2, h9⟩ := zbind h
  clear h
  subst hqa2
  have h := h9
  clear h9
  obtain ⟨σ3, hvσ3, h⟩ := zbind h
  refine g_iast (pc := 9) C hvσ3 dX9_goesOn_9 ?_
  refine g_iload (pc := 10) C 4 dX9_goesOn_10 rfl ?_
  refine g_iload (pc := 12) C 5 dX9_goesOn_12 rfl ?_
  refine g_icmp_eq (pc := 14) C 29 dX9_goesOn_14 (by decide) (fun c8 => ?_) (fun c8 => ?_)
  · have h := zif_t c8 h
    refine g_sub [0, 2, 3, 5] (lm' := [(0, tR (some (h0))), (2, tI (p2)), (3, tI (p3)), (5, tI (p5))]) rfl ?_
    exact w_X9_goesOn_j29 hE C hxn _ _ _ _ _ _ _ h hx
  · have h := zif_f c8 h
    refine g_aload_n (pc := 17) C 0 0 dX9_goesOn_17 rfl rfl ?_
    refine g_iload_n (pc := 18) C 1 1 dX9_goesOn_18 rfl rfl ?_
    refine g_iload (pc := 19) C 4 dX9_goesOn_19 rfl ?_
    refine g_iload (pc := 21) C 5 dX9_goesOn_21 rfl ?_
    obtain ⟨u4, hvu4, h⟩ := zbind h
    obtain ⟨v6, σ5, hvσ5, h⟩ := zcb h
    refine g_callV (pc := 23) (av := [tI (p1), tI (p4), tI (p5)]) C (c_X9_canStride hE hvσ5) yv_X9_canStride ml_X9_231 ck_9 (zopt hvu4).1 rfl (rf_of (by decide)) rfl (Nat.le_of_ble_eq_true rfl) dX9_goesOn_23 ?_
    refine g_if_eq (pc := 26) C 33 dX9_goesOn_26 (by decide) (fun c7 => ?_) (fun c7 => ?_)
    · have h := zif_t c7 h
      refine g_iconst (v := 0) (pc := 33) C dX9_goesOn_33 (by decide) ?_
      refine g_sub [0, 2, 3, 5] (lm' := [(0, tR (some (h0))), (2, tI (p2)), (3, tI (p3)), (5, tI (p5))]) rfl ?_
      exact w_X9_goesOn_j34 hE C hxn _ _ _ _ _ _ _ _ h hx
    · have h := zif_f c7 h
      refine g_sub [0, 2, 3, 5] (lm' := [(0, tR (some (h0))), (2, tI (p2)), (3, tI (p3)), (5, tI (p5))]) rfl ?_
      exact w_X9_goesOn_j29 hE C hxn _ _ _ _ _ _ _ h hx
def rm_X9_laySoonest : Room := { frames := 8, cells := 0, slots := 0, locals := 193 }
noncomputable def s_X9_laySoonest_j43 (h0 : Nat) (l1 : Int32) (l2 : Int32) (l3 : Int32) (l4 : Int32) (t0 : Option Nat) (t1 : Int32) (t2 : Int32) (σ : Hp) : Option (((Nat × Int32 × Int32 × Int32 × Int32) ⊕ ((Nat × Int32 × Int32 × Int32))) × Hp) :=
  (t0).bind fun a1 =>
  (stZ σ a1 (t1) (t2)).bind fun σ2 =>
  some (Sum.inl ((h0), (l1), (l2), (l3), (l4 + 1)), σ2)
set_option maxRecDepth 100000 in
theorem w_X9_laySoonest_j43 {E : E0} (hE : EOK E) {X : X0} (C : XOK E X cX9_laySoonest RX9 8 (some .int) rm_X9_laySoonest) (hxn : xn X = (rm_X9_laySoonest.cells, rm_X9_laySoonest.slots)) {KE : ((Nat × Int32 × Int32 × Int32)) → Hp → Prop} (e_50 : ∀ (h0 : Nat) (l1 : Int32) (l2 : Int32) (l3 : Int32) (σ : Hp), KE ((h0, l1, l2, l3)) σ → G E X 0 0 50 [(0, tR (some (h0))), (1, tI (l1)), (2, tI (l2)), (3, tI (l3))] [] σ) (h0 : Nat) (l1 : Int32) (l2 : Int32) (l3 : Int32) (l4 : Int32) (t0 : Option Nat) (t1 : Int32) (t2 : Int32) (σ : Hp) (x : (Nat × Int32 × Int32 × Int32 × Int32) ⊕ ((Nat × Int32 × Int32 × Int32))) (σ1 : Hp) (h : s_X9_laySoonest_j43 h0 l1 l2 l3 l4 t0 t1 t2 σ = some (x, σ1)) (hI : ∀ v, x = Sum.inl v → (fun (v : Nat × Int32 × Int32 × Int32 × Int32) (σ : Hp) => G E X 0 0 11 [(0, tR (some ((v.1)))), (1, tI ((v.2.1))), (2, tI ((v.2.2.1))), (3, tI ((v.2.2.2.1))), (4, tI ((v.2.2.2.2)))] [] σ) v σ1) (hO : ∀ e, x = Sum.inr e → KE e σ1) : G E X 0 0 43 [(0, tR (some (h0))), (1, tI (l1)), (2, tI (l2)), (3, tI (l3)), (4, tI (l4))] [tI (t2), tI (t1), tR (t0)] σ := by
  unfold s_X9_laySoonest_j43 at h
  obtain ⟨a1, hqa1, h9⟩ := zbind h
  clear h
  subst hqa1
  have h := h9
  clear h9
  obtain ⟨σ2, hvσ2, h⟩ := zbind h
  refine g_zast (pc := 43) C hvσ2 dX9_laySoonest_43 ?_
  refine g_iinc (lm' := [(4, tI (l4 + 1)), (0, tR (some (h0))), (1, tI (l1)), (2, tI (l2)), (3, tI (l3))]) (v := l4 + 1) (pc := 44) C 4 dX9_laySoonest_44 rfl rfl (by decide) rfl ?_
  refine g_goto (pc := 47) C 11 dX9_laySoonest_47 (by decide) ?_
  refine g_sub [1, 2, 3, 4, 0] (lm' := [(0, tR (some (h0))), (1, tI (l1)), (2, tI (l2)), (3, tI (l3)), (4, tI (l4 + 1))]) rfl ?_
  obtain ⟨rfl, rfl⟩ := zsome h
  exact hI _ rfl
noncomputable def s_X9_laySoonest_b11 (h0 : Nat) (l1 : Int32) (l2 : Int32) (l3 : Int32) (l4 : Int32) (σ : Hp) : Option (((Nat × Int32 × Int32 × Int32 × Int32) ⊕ ((Nat × Int32 × Int32 × Int32))) × Hp) :=
  if 10 ≤ l4 then
    some (Sum.inr ((h0), (l1), (l2), (l3)), σ)
  else
    (rdR 9 σ h0 42).bind fun r1 =>
    (rdR 9 σ h0 3).bind fun r2 =>
    (r2).bind fun a3 =>
    (ldI 11 σ a3 (17 + l1)).bind fun v4 =>
    if l4 = v4 then
      s_X9_laySoonest_j43 (h0) (l1) (l2) (l3) (l4) (r1) (l4) (1) σ
    else
      s_X9_laySoonest_j43 (h0) (l1) (l2) (l3) (l4) (r1) (l4) (0) σ
noncomputable def s_X9_laySoonest_l11 : (Nat × Int32 × Int32 × Int32 × Int32) → Hp → Option (((Nat × Int32 × Int32 × Int32)) × Hp) := loopF (fun v => s_X9_laySoonest_b11 (v.1) (v.2.1) (v.2.2.1) (v.2.2.2.1) (v.2.2.2.2))
set_option maxRecDepth 100000 in
theorem w_X9_laySoonest_b11 {E : E0} (hE : EOK E) {X : X0} (C : XOK E X cX9_laySoonest RX9 8 (some .int) rm_X9_laySoonest) (hxn : xn X = (rm_X9_laySoonest.cells, rm_X9_laySoonest.slots)) {KE : ((Nat × Int32 × Int32 × Int32)) → Hp → Prop} (e_50 : ∀ (h0 : Nat) (l1 : Int32) (l2 : Int32) (l3 : Int32) (σ : Hp), KE ((h0, l1, l2, l3)) σ → G E X 0 0 50 [(0, tR (some (h0))), (1, tI (l1)), (2, tI (l2)), (3, tI (l3))] [] σ) (h0 : Nat) (l1 : Int32) (l2 : Int32) (l3 : Int32) (l4 : Int32) (σ : Hp) (x : (Nat × Int32 × Int32 × Int32 × Int32) ⊕ ((Nat × Int32 × Int32 × Int32))) (σ1 : Hp) (h : s_X9_laySoonest_b11 h0 l1 l2 l3 l4 σ = some (x, σ1)) (hI : ∀ v, x = Sum.inl v → (fun (v : Nat × Int32 × Int32 × Int32 × Int32) (σ : Hp) => G E X 0 0 11 [(0, tR (some ((v.1)))), (1, tI ((v.2.1))), (2, tI ((v.2.2.1))), (3, tI ((v.2.2.2.1))), (4, tI ((v.2.2.2.2)))] [] σ) v σ1) (hO : ∀ e, x = Sum.inr e → KE e σ1) : G E X 0 0 11 [(0, tR (some (h0))), (1, tI (l1)), (2, tI (l2)), (3, tI (l3)), (4, tI (l4))] [] σ := by
  unfold s_X9_laySoonest_b11 at h
  refine g_iload (pc := 11) C 4 dX9_laySoonest_11 rfl ?_
  refine g_bipush (v := 10) (pc := 13) C dX9_laySoonest_13 (by decide) ?_
  refine g_icmp_ge (pc := 15) C 50 dX9_laySoonest_15 (by decide) (fun c6 => ?_) (fun c6 => ?_)
  · have h := zif_t c6 h
    refine g_sub [0, 1, 2, 3] (lm' := [(0, tR (some (h0))), (1, tI (l1)), (2, tI (l2)), (3, tI (l3))]) rfl ?_
    obtain ⟨rfl, rfl⟩ := zsome h
    exact e_50 _ _ _ _ _ (hO _ rfl)
  · have h := zif_f c6 h
    refine g_aload_n (pc := 18) C 0 0 dX9_laySoonest_18 rfl rfl ?_
    obtain ⟨r1, hvr1, h⟩ := zbind h
    refine g_getR (N := 58) (pc := 19) C ck_9 hvr1 rfl rfl fl_X9_113 dX9_laySoonest_19 ?_
    refine g_iload (pc := 22) C 4 dX9_laySoonest_22 rfl ?_
    refine g_iload (pc := 24) C 4 dX9_laySoonest_24 rfl ?_
    refine g_aload_n (pc := 26) C 0 0 dX9_laySoonest_26 rfl rfl ?_
    obtain ⟨r2, hvr2, h⟩ := zbind h
    refine g_getR (N := 58) (pc := 27) C ck_9 hvr2 rfl rfl fl_X9_13 dX9_laySoonest_27 ?_
    refine g_bipush (v := 17) (pc := 30) C dX9_laySoonest_30 (by decide) ?_
    refine g_iload_n (pc := 32) C 1 1 dX9_laySoonest_32 rfl rfl ?_
    refine g_iadd (pc := 33) C dX9_laySoonest_33 ?_
    obtain ⟨a3, hqa3, h9⟩ := zbind h
    clear h
    subst hqa3
    have h := h9
    clear h9
    obtain ⟨v4, hvv4, h⟩ := zbind h
    refine g_iald (pc := 34) C hvv4 dX9_laySoonest_34 ?_
    refine g_icmp_ne (pc := 35) C 42 dX9_laySoonest_35 (by decide) (fun c5 => ?_) (fun c5 => ?_)
    · have h := zif_f c5 h
      refine g_iconst (v := 0) (pc := 42) C dX9_laySoonest_42 (by decide) ?_
      exact w_X9_laySoonest_j43 hE C hxn e_50 _ _ _ _ _ _ _ _ _ _ _ h hI hO
    · have h := zif_t c5 h
      refine g_iconst (v := 1) (pc := 38) C dX9_laySoonest_38 (by decide) ?_
      refine g_goto (pc := 39) C 43 dX9_laySoonest_39 (by decide) ?_
      exact w_X9_laySoonest_j43 hE C hxn e_50 _ _ _ _ _ _ _ _ _ _ _ h hI hO
theorem w_X9_laySoonest_l11 {E : E0} (hE : EOK E) {X : X0} (C : XOK E X cX9_laySoonest RX9 8 (some .int) rm_X9_laySoonest) (hxn : xn X = (rm_X9_laySoonest.cells, rm_X9_laySoonest.slots)) {KE : ((Nat × Int32 × Int32 × Int32)) → Hp → Prop} (e_50 : ∀ (h0 : Nat) (l1 : Int32) (l2 : Int32) (l3 : Int32) (σ : Hp), KE ((h0, l1, l2, l3)) σ → G E X 0 0 50 [(0, tR (some (h0))), (1, tI (l1)), (2, tI (l2)), (3, tI (l3))] [] σ) {v : Nat × Int32 × Int32 × Int32 × Int32} {σ : Hp} {e : (Nat × Int32 × Int32 × Int32)} {σ1 : Hp} (h : s_X9_laySoonest_l11 v σ = some (e, σ1)) (hO : KE e σ1) : G E X 0 0 11 [(0, tR (some ((v.1)))), (1, tI ((v.2.1))), (2, tI ((v.2.2.1))), (3, tI ((v.2.2.2.1))), (4, tI ((v.2.2.2.2)))] [] σ := loopF_ind (P := fun (v : Nat × Int32 × Int32 × Int32 × Int32) (σ : Hp) => G E X 0 0 11 [(0, tR (some ((v.1)))), (1, tI ((v.2.1))), (2, tI ((v.2.2.1))), (3, tI ((v.2.2.2.1))), (4, tI ((v.2.2.2.2)))] [] σ) (KE := KE) (fun v σ x σ1 h hI hO => w_X9_laySoonest_b11 hE C hxn e_50 (v.1) (v.2.1) (v.2.2.1) (v.2.2.2.1) (v.2.2.2.2) σ x σ1 h hI hO) v σ e σ1 h hO
noncomputable def s_X9_laySoonest_j147 (h0 : Nat) (l1 : Int32) (l2 : Int32) (l3 : Int32) (l4 : Int32) (l5 : Int32) (l7 : Int32) (t0 : Int32) (σ : Hp) : Option (((Nat × Int32 × Int32 × Int32 × Int32 × Int32 × Int32 × Int32) ⊕ ((Nat × Int32 × Int32 × Int32 × Int32 × Int32 × Int32))) × Hp) :=
  some (Sum.inl ((h0), (l1), (l2), (l3), (l4), (l5), (t0), (l7 + 1)), σ)
set_option maxRecDepth 100000 in
theorem w_X9_laySoonest_j147 {E : E0} (hE : EOK E) {X : X0} (C : XOK E X cX9_laySoonest RX9 8 (some .int) rm_X9_laySoonest) (hxn : xn X = (rm_X9_laySoonest.cells, rm_X9_laySoonest.slots)) {KE : ((Nat × Int32 × Int32 × Int32 × Int32 × Int32 × Int32)) → Hp → Prop} (e_155 : ∀ (h0 : Nat) (l1 : Int32) (l2 : Int32) (l3 : Int32) (l4 : Int32) (l5 : Int32) (l6 : Int32) (σ : Hp), KE ((h0, l1, l2, l3, l4, l5, l6)) σ → G E X 0 0 155 [(0, tR (some (h0))), (1, tI (l1)), (2, tI (l2)), (3, tI (l3)), (4, tI (l4)), (5, tI (l5)), (6, tI (l6))] [] σ) (h0 : Nat) (l1 : Int32) (l2 : Int32) (l3 : Int32) (l4 : Int32) (l5 : Int32) (l7 : Int32) (t0 : Int32) (σ : Hp) (x : (Nat × Int32 × Int32 × Int32 × Int32 × Int32 × Int32 × Int32) ⊕ ((Nat × Int32 × Int32 × Int32 × Int32 × Int32 × Int32))) (σ1 : Hp) (h : s_X9_laySoonest_j147 h0 l1 l2 l3 l4 l5 l7 t0 σ = some (x, σ1)) (hI : ∀ v, x = Sum.inl v → (fun (v : Nat × Int32 × Int32 × Int32 × Int32 × Int32 × Int32 × Int32) (σ : Hp) => G E X 0 0 95 [(0, tR (some ((v.1)))), (1, tI ((v.2.1))), (2, tI ((v.2.2.1))), (3, tI ((v.2.2.2.1))), (4, tI ((v.2.2.2.2.1))), (5, tI ((v.2.2.2.2.2.1))), (6, tI ((v.2.2.2.2.2.2.1))), (7, tI ((v.2.2.2.2.2.2.2)))] [] σ) v σ1) (hO : ∀ e, x = Sum.inr e → KE e σ1) : G E X 0 0 147 [(0, tR (some (h0))), (1, tI (l1)), (2, tI (l2)), (3, tI (l3)), (4, tI (l4)), (5, tI (l5)), (7, tI (l7))] [tI (t0)] σ := by
  unfold s_X9_laySoonest_j147 at h
  refine g_istore (lm' := [(6, tI (t0)), (0, tR (some (h0))), (1, tI (l1)), (2, tI (l2)), (3, tI (l3)), (4, tI (l4)), (5, tI (l5)), (7, tI (l7))]) (pc := 147) C dX9_laySoonest_147 (by decide) rfl ?_
  refine g_iinc (lm' := [(7, tI (l7 + 1)), (6, tI (t0)), (0, tR (some (h0))), (1, tI (l1)), (2, tI (l2)), (3, tI (l3)), (4, tI (l4)), (5, tI (l5))]) (v := l7 + 1) (pc := 149) C 7 dX9_laySoonest_149 rfl rfl (by decide) rfl ?_
  refine g_goto (pc := 152) C 95 dX9_laySoonest_152 (by decide) ?_
  refine g_sub [2, 3, 4, 5, 6, 7, 1, 0] (lm' := [(0, tR (some (h0))), (1, tI (l1)), (2, tI (l2)), (3, tI (l3)), (4, tI (l4)), (5, tI (l5)), (6, tI (t0)), (7, tI (l7 + 1))]) rfl ?_
  obtain ⟨rfl, rfl⟩ := zsome h
  exact hI _ rfl
noncomputable def s_X9_laySoonest_j142 (h0 : Nat) (l1 : Int32) (l2 : Int32) (l3 : Int32) (l4 : Int32) (l5 : Int32) (l7 : Int32) (σ : Hp) : Option (((Nat × Int32 × Int32 × Int32 × Int32 × Int32 × Int32 × Int32) ⊕ ((Nat × Int32 × Int32 × Int32 × Int32 × Int32 × Int32))) × Hp) :=
  s_X9_laySoonest_j147 (h0) (l1) (l2) (l3) (l4) (l5) (l7) (1) σ
set_option maxRecDepth 100000 in
theorem w_X9_laySoonest_j142 {E : E0} (hE : EOK E) {X : X0} (C : XOK E X cX9_laySoonest RX9 8 (some .int) rm_X9_laySoonest) (hxn : xn X = (rm_X9_laySoonest.cells, rm_X9_laySoonest.slots)) {KE : ((Nat × Int32 × Int32 × Int32 × Int32 × Int32 × Int32)) → Hp → Prop} (e_155 : ∀ (h0 : Nat) (l1 : Int32) (l2 : Int32) (l3 : Int32) (l4 : Int32) (l5 : Int32) (l6 : Int32) (σ : Hp), KE ((h0, l1, l2, l3, l4, l5, l6)) σ → G E X 0 0 155 [(0, tR (some (h0))), (1, tI (l1)), (2, tI (l2)), (3, tI (l3)), (4, tI (l4)), (5, tI (l5)), (6, tI (l6))] [] σ) (h0 : Nat) (l1 : Int32) (l2 : Int32) (l3 : Int32) (l4 : Int32) (l5 : Int32) (l7 : Int32) (σ : Hp) (x : (Nat × Int32 × Int32 × Int32 × Int32 × Int32 × Int32 × Int32) ⊕ ((Nat × Int32 × Int32 × Int32 × Int32 × Int32 × Int32))) (σ1 : Hp) (h : s_X9_laySoonest_j142 h0 l1 l2 l3 l4 l5 l7 σ = some (x, σ1)) (hI : ∀ v, x = Sum.inl v → (fun (v : Nat × Int32 × Int32 × Int32 × Int32 × Int32 × Int32 × Int32) (σ : Hp) => G E X 0 0 95 [(0, tR (some ((v.1)))), (1, tI ((v.2.1))), (2, tI ((v.2.2.1))), (3, tI ((v.2.2.2.1))), (4, tI ((v.2.2.2.2.1))), (5, tI ((v.2.2.2.2.2.1))), (6, tI ((v.2.2.2.2.2.2.1))), (7, tI ((v.2.2.2.2.2.2.2)))] [] σ) v σ1) (hO : ∀ e, x = Sum.inr e → KE e σ1) : G E X 0 0 142 [(0, tR (some (h0))), (1, tI (l1)), (2, tI (l2)), (3, tI (l3)), (4, tI (l4)), (5, tI (l5)), (7, tI (l7))] [] σ := by
  unfold s_X9_laySoonest_j142 at h
  refine g_iconst (v := 1) (pc := 142) C dX9_laySoonest_142 (by decide) ?_
  refine g_goto (pc := 143) C 147 dX9_laySoonest_143 (by decide) ?_
  exact w_X9_laySoonest_j147 hE C hxn e_155 _ _ _ _ _ _ _ _ _ _ _ h hI hO
noncomputable def s_X9_laySoonest_j146 (h0 : Nat) (l1 : Int32) (l2 : Int32) (l3 : Int32) (l4 : Int32) (l5 : Int32) (l7 : Int32) (σ : Hp) : Option (((Nat × Int32 × Int32 × Int32 × Int32 × Int32 × Int32 × Int32) ⊕ ((Nat × Int32 × Int32 × Int32 × Int32 × Int32 × Int32))) × Hp) :=
  s_X9_laySoonest_j147 (h0) (l1) (l2) (l3) (l4) (l5) (l7) (0) σ
set_option maxRecDepth 100000 in
theorem w_X9_laySoonest_j146 {E : E0} (hE : EOK E) {X : X0} (C : XOK E X cX9_laySoonest RX9 8 (some .int) rm_X9_laySoonest) (hxn : xn X = (rm_X9_laySoonest.cells, rm_X9_laySoonest.slots)) {KE : ((Nat × Int32 × Int32 × Int32 × Int32 × Int32 × Int32)) → Hp → Prop} (e_155 : ∀ (h0 : Nat) (l1 : Int32) (l2 : Int32) (l3 : Int32) (l4 : Int32) (l5 : Int32) (l6 : Int32) (σ : Hp), KE ((h0, l1, l2, l3, l4, l5, l6)) σ → G E X 0 0 155 [(0, tR (some (h0))), (1, tI (l1)), (2, tI (l2)), (3, tI (l3)), (4, tI (l4)), (5, tI (l5)), (6, tI (l6))] [] σ) (h0 : Nat) (l1 : Int32) (l2 : Int32) (l3 : Int32) (l4 : Int32) (l5 : Int32) (l7 : Int32) (σ : Hp) (x : (Nat × Int32 × Int32 × Int32 × Int32 × Int32 × Int32 × Int32) ⊕ ((Nat × Int32 × Int32 × Int32 × Int32 × Int32 × Int32))) (σ1 : Hp) (h : s_X9_laySoonest_j146 h0 l1 l2 l3 l4 l5 l7 σ = some (x, σ1)) (hI : ∀ v, x = Sum.inl v → (fun (v : Nat × Int32 × Int32 × Int32 × Int32 × Int32 × Int32 × Int32) (σ : Hp) => G E X 0 0 95 [(0, tR (some ((v.1)))), (1, tI ((v.2.1))), (2, tI ((v.2.2.1))), (3, tI ((v.2.2.2.1))), (4, tI ((v.2.2.2.2.1))), (5, tI ((v.2.2.2.2.2.1))), (6, tI ((v.2.2.2.2.2.2.1))), (7, tI ((v.2.2.2.2.2.2.2)))] [] σ) v σ1) (hO : ∀ e, x = Sum.inr e → KE e σ1) : G E X 0 0 146 [(0, tR (some (h0))), (1, tI (l1)), (2, tI (l2)), (3, tI (l3)), (4, tI (l4)), (5, tI (l5)), (7, tI (l7))] [] σ := by
  unfold s_X9_laySoonest_j146 at h
  refine g_iconst (v := 0) (pc := 146) C dX9_laySoonest_146 (by decide) ?_
  exact w_X9_laySoonest_j147 hE C hxn e_155 _ _ _ _ _ _ _ _ _ _ _ h hI hO
noncomputable def s_X9_laySoonest_b95 (h0 : Nat) (l1 : Int32) (l2 : Int32) (l3 : Int32) (l4 : Int32) (l5 : Int32) (l6 : Int32) (l7 : Int32) (σ : Hp) : Option (((Nat × Int32 × Int32 × Int32 × Int32 × Int32 × Int32 × Int32) ⊕ ((Nat × Int32 × Int32 × Int32 × Int32 × Int32 × Int32))) × Hp) :=
  (rdR 9 σ h0 3).bind fun r1 =>
  (r1).bind fun a2 =>
  (ldI 11 σ a2 (0)).bind fun v3 =>
  if v3 ≤ l7 then
    some (Sum.inr ((h0), (l1), (l2), (l3), (l4), (l5), (l6)), σ)
  else
    if l6 = 0 then
      (rdR 9 σ h0 42).bind fun r4 =>
      (r4).bind fun a5 =>
      (ldI 13 σ a5 ((10 * l4) + l7)).bind fun v6 =>
      if v6 = 0 then
        s_X9_laySoonest_j146 (h0) (l1) (l2) (l3) (l4) (l5) (l7) σ
      else
        (ck 9 σ h0).bind fun u7 =>
        cb (s_X9_goesOn h0 (l1) (l3) (l4) (l7) (l5) σ) fun v9 σ8 =>
        if v9 = 0 then
          s_X9_laySoonest_j146 (h0) (l1) (l2) (l3) (l4) (l5) (l7) σ8
        else
          s_X9_laySoonest_j142 (h0) (l1) (l2) (l3) (l4) (l5) (l7) σ8
    else
      s_X9_laySoonest_j142 (h0) (l1) (l2) (l3) (l4) (l5) (l7) σ
noncomputable def s_X9_laySoonest_l95 : (Nat × Int32 × Int32 × Int32 × Int32 × Int32 × Int32 × Int32) → Hp → Option (((Nat × Int32 × Int32 × Int32 × Int32 × Int32 × Int32)) × Hp) := loopF (fun v => s_X9_laySoonest_b95 (v.1) (v.2.1) (v.2.2.1) (v.2.2.2.1) (v.2.2.2.2.1) (v.2.2.2.2.2.1) (v.2.2.2.2.2.2.1) (v.2.2.2.2.2.2.2))
set_option maxRecDepth 100000 in
theorem w_X9_laySoonest_b95 {E : E0} (hE : EOK E) {X : X0} (C : XOK E X cX9_laySoonest RX9 8 (some .int) rm_X9_laySoonest) (hxn : xn X = (rm_X9_laySoonest.cells, rm_X9_laySoonest.slots)) {KE : ((Nat × Int32 × Int32 × Int32 × Int32 × Int32 × Int32)) → Hp → Prop} (e_155 : ∀ (h0 : Nat) (l1 : Int32) (l2 : Int32) (l3 : Int32) (l4 : Int32) (l5 : Int32) (l6 : Int32) (σ : Hp), KE ((h0, l1, l2, l3, l4, l5, l6)) σ → G E X 0 0 155 [(0, tR (some (h0))), (1, tI (l1)), (2, tI (l2)), (3, tI (l3)), (4, tI (l4)), (5, tI (l5)), (6, tI (l6))] [] σ) (h0 : Nat) (l1 : Int32) (l2 : Int32) (l3 : Int32) (l4 : Int32) (l5 : Int32) (l6 : Int32) (l7 : Int32) (σ : Hp) (x : (Nat × Int32 × Int32 × Int32 × Int32 × Int32 × Int32 × Int32) ⊕ ((Nat × Int32 × Int32 × Int32 × Int32 × Int32 × Int32))) (σ1 : Hp) (h : s_X9_laySoonest_b95 h0 l1 l2 l3 l4 l5 l6 l7 σ = some (x, σ1)) (hI : ∀ v, x = Sum.inl v → (fun (v : Nat × Int32 × Int32 × Int32 × Int32 × Int32 × Int32 × Int32) (σ : Hp) => G E X 0 0 95 [(0, tR (some ((v.1)))), (1, tI ((v.2.1))), (2, tI ((v.2.2.1))), (3, tI ((v.2.2.2.1))), (4, tI ((v.2.2.2.2.1))), (5, tI ((v.2.2.2.2.2.1))), (6, tI ((v.2.2.2.2.2.2.1))), (7, tI ((v.2.2.2.2.2.2.2)))] [] σ) v σ1) (hO : ∀ e, x = Sum.inr e → KE e σ1) : G E X 0 0 95 [(0, tR (some (h0))), (1, tI (l1)), (2, tI (l2)), (3, tI (l3)), (4, tI (l4)), (5, tI (l5)), (6, tI (l6)), (7, tI (l7))] [] σ := by
  unfold s_X9_laySoonest_b95 at h
  refine g_iload (pc := 95) C 7 dX9_laySoonest_95 rfl ?_
  refine g_aload_n (pc := 97) C 0 0 dX9_laySoonest_97 rfl rfl ?_
  obtain ⟨r1, hvr1, h⟩ := zbind h
  refine g_getR (N := 58) (pc := 98) C ck_9 hvr1 rfl rfl fl_X9_13 dX9_laySoonest_98 ?_
  refine g_iconst (v := 0) (pc := 101) C dX9_laySoonest_101 (by decide) ?_
  obtain ⟨a2, hqa2, h9⟩ := zbind h
  clear h
  subst hqa2
  have h := h9
  clear h9
  obtain ⟨v3, hvv3, h⟩ := zbind h
  refine g_iald (pc := 102) C hvv3 dX9_laySoonest_102 ?_
  refine g_icmp_ge (pc := 103) C 155 dX9_laySoonest_103 (by decide) (fun c13 => ?_) (fun c13 => ?_)
  · have h := zif_t c13 h
    refine g_sub [0, 1, 2, 3, 4, 5, 6] (lm' := [(0, tR (some (h0))), (1, tI (l1)), (2, tI (l2)), (3, tI (l3)), (4, tI (l4)), (5, tI (l5)), (6, tI (l6))]) rfl ?_
    obtain ⟨rfl, rfl⟩ := zsome h
    exact e_155 _ _ _ _ _ _ _ _ (hO _ rfl)
  · have h := zif_f c13 h
    refine g_iload (pc := 106) C 6 dX9_laySoonest_106 rfl ?_
    refine g_if_ne (pc := 108) C 142 dX9_laySoonest_108 (by decide) (fun c12 => ?_) (fun c12 => ?_)
    · have h := zif_f c12 h
      refine g_sub [0, 1, 2, 3, 4, 5, 7] (lm' := [(0, tR (some (h0))), (1, tI (l1)), (2, tI (l2)), (3, tI (l3)), (4, tI (l4)), (5, tI (l5)), (7, tI (l7))]) rfl ?_
      exact w_X9_laySoonest_j142 hE C hxn e_155 _ _ _ _ _ _ _ _ _ _ h hI hO
    · have h := zif_t c12 h
      refine g_aload_n (pc := 111) C 0 0 dX9_laySoonest_111 rfl rfl ?_
      obtain ⟨r4, hvr4, h⟩ := zbind h
      refine g_getR (N := 58) (pc := 112) C ck_9 hvr4 rfl rfl fl_X9_113 dX9_laySoonest_112 ?_
      refine g_bipush (v := 10) (pc := 115) C dX9_laySoonest_115 (by decide) ?_
      refine g_iload (pc := 117) C 4 dX9_laySoonest_117 rfl ?_
      refine g_imul (pc := 119) C dX9_laySoonest_119 ?_
      refine g_iload (pc := 120) C 7 dX9_laySoonest_120 rfl ?_
      refine g_iadd (pc := 122) C dX9_laySoonest_122 ?_
      obtain ⟨a5, hqa5, h9⟩ := zbind h
      clear h
      subst hqa5
      have h := h9
      clear h9
      obtain ⟨v6, hvv6, h⟩ := zbind h
      refine g_zald (pc := 123) C hvv6 dX9_laySoonest_123 ?_
      refine g_if_eq (pc := 124) C 146 dX9_laySoonest_124 (by decide) (fun c11 => ?_) (fun c11 => ?_)
      · have h := zif_t c11 h
        refine g_sub [0, 1, 2, 3, 4, 5, 7] (lm' := [(0, tR (some (h0))), (1, tI (l1)), (2, tI (l2)), (3, tI (l3)), (4, tI (l4)), (5, tI (l5)), (7, tI (l7))]) rfl ?_
        exact w_X9_laySoonest_j146 hE C hxn e_155 _ _ _ _ _ _ _ _ _ _ h hI hO
      · have h := zif_f c11 h
        refine g_aload_n (pc := 127) C 0 0 dX9_laySoonest_127 rfl rfl ?_
        refine g_iload_n (pc := 128) C 1 1 dX9_laySoonest_128 rfl rfl ?_
        refine g_iload_n (pc := 129) C 3 3 dX9_laySoonest_129 rfl rfl ?_
        refine g_iload (pc := 130) C 4 dX9_laySoonest_130 rfl ?_
        refine g_iload (pc := 132) C 7 dX9_laySoonest_132 rfl ?_
        refine g_iload (pc := 134) C 5 dX9_laySoonest_134 rfl ?_
        obtain ⟨u7, hvu7, h⟩ := zbind h
        obtain ⟨v9, σ8, hvσ8, h⟩ := zcb h
        refine g_callV (pc := 136) (av := [tI (l1), tI (l3), tI (l4), tI (l7), tI (l5)]) C (c_X9_goesOn hE hvσ8) yv_X9_goesOn ml_X9_463 ck_9 (zopt hvu7).1 rfl (rf_of (by decide)) rfl (Nat.le_of_ble_eq_true rfl) dX9_laySoonest_136 ?_
        refine g_if_eq (pc := 139) C 146 dX9_laySoonest_139 (by decide) (fun c10 => ?_) (fun c10 => ?_)
        · have h := zif_t c10 h
          refine g_sub [0, 1, 2, 3, 4, 5, 7] (lm' := [(0, tR (some (h0))), (1, tI (l1)), (2, tI (l2)), (3, tI (l3)), (4, tI (l4)), (5, tI (l5)), (7, tI (l7))]) rfl ?_
          exact w_X9_laySoonest_j146 hE C hxn e_155 _ _ _ _ _ _ _ _ _ _ h hI hO
        · have h := zif_f c10 h
          refine g_sub [0, 1, 2, 3, 4, 5, 7] (lm' := [(0, tR (some (h0))), (1, tI (l1)), (2, tI (l2)), (3, tI (l3)), (4, tI (l4)), (5, tI (l5)), (7, tI (l7))]) rfl ?_
          exact w_X9_laySoonest_j142 hE C hxn e_155 _ _ _ _ _ _ _ _ _ _ h hI hO
theorem w_X9_laySoonest_l95 {E : E0} (hE : EOK E) {X : X0} (C : XOK E X cX9_laySoonest RX9 8 (some .int) rm_X9_laySoonest) (hxn : xn X = (rm_X9_laySoonest.cells, rm_X9_laySoonest.slots)) {KE : ((Nat × Int32 × Int32 × Int32 × Int32 × Int32 × Int32)) → Hp → Prop} (e_155 : ∀ (h0 : Nat) (l1 : Int32) (l2 : Int32) (l3 : Int32) (l4 : Int32) (l5 : Int32) (l6 : Int32) (σ : Hp), KE ((h0, l1, l2, l3, l4, l5, l6)) σ → G E X 0 0 155 [(0, tR (some (h0))), (1, tI (l1)), (2, tI (l2)), (3, tI (l3)), (4, tI (l4)), (5, tI (l5)), (6, tI (l6))] [] σ) {v : Nat × Int32 × Int32 × Int32 × Int32 × Int32 × Int32 × Int32} {σ : Hp} {e : (Nat × Int32 × Int32 × Int32 × Int32 × Int32 × Int32)} {σ1 : Hp} (h : s_X9_laySoonest_l95 v σ = some (e, σ1)) (hO : KE e σ1) : G E X 0 0 95 [(0, tR (some ((v.1)))), (1, tI ((v.2.1))), (2, tI ((v.2.2.1))), (3, tI ((v.2.2.2.1))), (4, tI ((v.2.2.2.2.1))), (5, tI ((v.2.2.2.2.2.1))), (6, tI ((v.2.2.2.2.2.2.1))), (7, tI ((v.2.2.2.2.2.2.2)))] [] σ := loopF_ind (P := fun (v : Nat × Int32 × Int32 × Int32 × Int32 × Int32 × Int32 × Int32) (σ : Hp) => G E X 0 0 95 [(0, tR (some ((v.1)))), (1, tI ((v.2.1))), (2, tI ((v.2.2.1))), (3, tI ((v.2.2.2.1))), (4, tI ((v.2.2.2.2.1))), (5, tI ((v.2.2.2.2.2.1))), (6, tI ((v.2.2.2.2.2.2.1))), (7, tI ((v.2.2.2.2.2.2.2)))] [] σ) (KE := KE) (fun v σ x σ1 h hI hO => w_X9_laySoonest_b95 hE C hxn e_155 (v.1) (v.2.1) (v.2.2.1) (v.2.2.2.1) (v.2.2.2.2.1) (v.2.2.2.2.2.1) (v.2.2.2.2.2.2.1) (v.2.2.2.2.2.2.2) σ x σ1 h hI hO) v σ e σ1 h hO
noncomputable def s_X9_laySoonest_b78 (h0 : Nat) (l1 : Int32) (l2 : Int32) (l3 : Int32) (l4 : Int32) (l5 : Int32) (σ : Hp) : Option (((Nat × Int32 × Int32 × Int32 × Int32 × Int32) ⊕ ((Nat × Int32 × Int32 × Int32 × Int32))) × Hp) :=
  (rdR 9 σ h0 3).bind fun r1 =>
  (r1).bind fun a2 =>
  (ldI 11 σ a2 (0)).bind fun v3 =>
  if v3 ≤ l5 then
    some (Sum.inr ((h0), (l1), (l2), (l3), (l4)), σ)
  else
    cb (s_X9_laySoonest_l95 ((h0), (l1), (l2), (l3), (l4), (l5), (0), (0)) σ) fun e17 σ16 =>
    match e17 with
    | (h4, l15, l26, l37, l48, l59, l610) =>
      (rdR 9 σ16 h4 42).bind fun r12 =>
      (r12).bind fun a13 =>
      (stZ σ16 a13 ((10 * (l48 + 1)) + l59) (l610)).bind fun σ14 =>
      some (Sum.inl ((h4), (l15), (l26), (l37), (l48), (l59 + 1)), σ14)
noncomputable def s_X9_laySoonest_l78 : (Nat × Int32 × Int32 × Int32 × Int32 × Int32) → Hp → Option (((Nat × Int32 × Int32 × Int32 × Int32)) × Hp) := loopF (fun v => s_X9_laySoonest_b78 (v.1) (v.2.1) (v.2.2.1) (v.2.2.2.1) (v.2.2.2.2.1) (v.2.2.2.2.2))
set_option maxRecDepth 100000 in
theorem w_X9_laySoonest_b78 {E : E0} (hE : EOK E) {X : X0} (C : XOK E X cX9_laySoonest RX9 8 (some .int) rm_X9_laySoonest) (hxn : xn X = (rm_X9_laySoonest.cells, rm_X9_laySoonest.slots)) {KE : ((Nat × Int32 × Int32 × Int32 × Int32)) → Hp → Prop} (e_178 : ∀ (h0 : Nat) (l1 : Int32) (l2 : Int32) (l3 : Int32) (l4 : Int32) (σ : Hp), KE ((h0, l1, l2, l3, l4)) σ → G E X 0 0 178 [(0, tR (some (h0))), (1, tI (l1)), (2, tI (l2)), (3, tI (l3)), (4, tI (l4))] [] σ) (h0 : Nat) (l1 : Int32) (l2 : Int32) (l3 : Int32) (l4 : Int32) (l5 : Int32) (σ : Hp) (x : (Nat × Int32 × Int32 × Int32 × Int32 × Int32) ⊕ ((Nat × Int32 × Int32 × Int32 × Int32))) (σ1 : Hp) (h : s_X9_laySoonest_b78 h0 l1 l2 l3 l4 l5 σ = some (x, σ1)) (hI : ∀ v, x = Sum.inl v → (fun (v : Nat × Int32 × Int32 × Int32 × Int32 × Int32) (σ : Hp) => G E X 0 0 78 [(0, tR (some ((v.1)))), (1, tI ((v.2.1))), (2, tI ((v.2.2.1))), (3, tI ((v.2.2.2.1))), (4, tI ((v.2.2.2.2.1))), (5, tI ((v.2.2.2.2.2)))] [] σ) v σ1) (hO : ∀ e, x = Sum.inr e → KE e σ1) : G E X 0 0 78 [(0, tR (some (h0))), (1, tI (l1)), (2, tI (l2)), (3, tI (l3)), (4, tI (l4)), (5, tI (l5))] [] σ := by
  unfold s_X9_laySoonest_b78 at h
  refine g_iload (pc := 78) C 5 dX9_laySoonest_78 rfl ?_
  refine g_aload_n (pc := 80) C 0 0 dX9_laySoonest_80 rfl rfl ?_
  obtain ⟨r1, hvr1, h⟩ := zbind h
  refine g_getR (N := 58) (pc := 81) C ck_9 hvr1 rfl rfl fl_X9_13 dX9_laySoonest_81 ?_
  refine g_iconst (v := 0) (pc := 84) C dX9_laySoonest_84 (by decide) ?_
  obtain ⟨a2, hqa2, h9⟩ := zbind h
  clear h
  subst hqa2
  have h := h9
  clear h9
  obtain ⟨v3, hvv3, h⟩ := zbind h
  refine g_iald (pc := 85) C hvv3 dX9_laySoonest_85 ?_
  refine g_icmp_ge (pc := 86) C 178 dX9_laySoonest_86 (by decide) (fun c18 => ?_) (fun c18 => ?_)
  · have h := zif_t c18 h
    refine g_sub [0, 1, 2, 3, 4] (lm' := [(0, tR (some (h0))), (1, tI (l1)), (2, tI (l2)), (3, tI (l3)), (4, tI (l4))]) rfl ?_
    obtain ⟨rfl, rfl⟩ := zsome h
    exact e_178 _ _ _ _ _ _ (hO _ rfl)
  · have h := zif_f c18 h
    refine g_iconst (v := 0) (pc := 89) C dX9_laySoonest_89 (by decide) ?_
    refine g_istore (lm' := [(6, tI (0)), (0, tR (some (h0))), (1, tI (l1)), (2, tI (l2)), (3, tI (l3)), (4, tI (l4)), (5, tI (l5))]) (pc := 90) C dX9_laySoonest_90 (by decide) rfl ?_
    refine g_iconst (v := 0) (pc := 92) C dX9_laySoonest_92 (by decide) ?_
    refine g_istore (lm' := [(7, tI (0)), (6, tI (0)), (0, tR (some (h0))), (1, tI (l1)), (2, tI (l2)), (3, tI (l3)), (4, tI (l4)), (5, tI (l5))]) (pc := 93) C dX9_laySoonest_93 (by decide) rfl ?_
    refine g_sub [2, 3, 4, 5, 6, 7, 1, 0] (lm' := [(0, tR (some (h0))), (1, tI (l1)), (2, tI (l2)), (3, tI (l3)), (4, tI (l4)), (5, tI (l5)), (6, tI (0)), (7, tI (0))]) rfl ?_
    obtain ⟨KQ, hKQ, e17, σ16, hle17, h⟩ := zcbK h
    refine w_X9_laySoonest_l95 (KE := KQ) hE C hxn ?_ hle17 h
    · intro h4 l15 l26 l37 l48 l59 l610 σ11 h
      have h := (hKQ _ _).mp h
      refine g_aload_n (pc := 155) C 0 0 dX9_laySoonest_155 rfl rfl ?_
      obtain ⟨r12, hvr12, h⟩ := zbind h
      refine g_getR (N := 58) (pc := 156) C ck_9 hvr12 rfl rfl fl_X9_113 dX9_laySoonest_156 ?_
      refine g_bipush (v := 10) (pc := 159) C dX9_laySoonest_159 (by decide) ?_
      refine g_iload (pc := 161) C 4 dX9_laySoonest_161 rfl ?_
      refine g_iconst (v := 1) (pc := 163) C dX9_laySoonest_163 (by decide) ?_
      refine g_iadd (pc := 164) C dX9_laySoonest_164 ?_
      refine g_imul (pc := 165) C dX9_laySoonest_165 ?_
      refine g_iload (pc := 166) C 5 dX9_laySoonest_166 rfl ?_
      refine g_iadd (pc := 168) C dX9_laySoonest_168 ?_
      refine g_iload (pc := 169) C 6 dX9_laySoonest_169 rfl ?_
      obtain ⟨a13, hqa13, h9⟩ := zbind h
      clear h
      subst hqa13
      have h := h9
      clear h9
      obtain ⟨σ14, hvσ14, h⟩ := zbind h
      refine g_zast (pc := 171) C hvσ14 dX9_laySoonest_171 ?_
      refine g_iinc (lm' := [(5, tI (l59 + 1)), (0, tR (some (h4))), (1, tI (l15)), (2, tI (l26)), (3, tI (l37)), (4, tI (l48)), (6, tI (l610))]) (v := l59 + 1) (pc := 172) C 5 dX9_laySoonest_172 rfl rfl (by decide) rfl ?_
      refine g_goto (pc := 175) C 78 dX9_laySoonest_175 (by decide) ?_
      refine g_sub [1, 2, 3, 4, 5, 0] (lm' := [(0, tR (some (h4))), (1, tI (l15)), (2, tI (l26)), (3, tI (l37)), (4, tI (l48)), (5, tI (l59 + 1))]) rfl ?_
      obtain ⟨rfl, rfl⟩ := zsome h
      exact hI _ rfl
theorem w_X9_laySoonest_l78 {E : E0} (hE : EOK E) {X : X0} (C : XOK E X cX9_laySoonest RX9 8 (some .int) rm_X9_laySoonest) (hxn : xn X = (rm_X9_laySoonest.cells, rm_X9_laySoonest.slots)) {KE : ((Nat × Int32 × Int32 × Int32 × Int32)) → Hp → Prop} (e_178 : ∀ (h0 : Nat) (l1 : Int32) (l2 : Int32) (l3 : Int32) (l4 : Int32) (σ : Hp), KE ((h0, l1, l2, l3, l4)) σ → G E X 0 0 178 [(0, tR (some (h0))), (1, tI (l1)), (2, tI (l2)), (3, tI (l3)), (4, tI (l4))] [] σ) {v : Nat × Int32 × Int32 × Int32 × Int32 × Int32} {σ : Hp} {e : (Nat × Int32 × Int32 × Int32 × Int32)} {σ1 : Hp} (h : s_X9_laySoonest_l78 v σ = some (e, σ1)) (hO : KE e σ1) : G E X 0 0 78 [(0, tR (some ((v.1)))), (1, tI ((v.2.1))), (2, tI ((v.2.2.1))), (3, tI ((v.2.2.2.1))), (4, tI ((v.2.2.2.2.1))), (5, tI ((v.2.2.2.2.2)))] [] σ := loopF_ind (P := fun (v : Nat × Int32 × Int32 × Int32 × Int32 × Int32) (σ : Hp) => G E X 0 0 78 [(0, tR (some ((v.1)))), (1, tI ((v.2.1))), (2, tI ((v.2.2.1))), (3, tI ((v.2.2.2.1))), (4, tI ((v.2.2.2.2.1))), (5, tI ((v.2.2.2.2.2)))] [] σ) (KE := KE) (fun v σ x σ1 h hI hO => w_X9_laySoonest_b78 hE C hxn e_178 (v.1) (v.2.1) (v.2.2.1) (v.2.2.2.1) (v.2.2.2.2.1) (v.2.2.2.2.2) σ x σ1 h hI hO) v σ e σ1 h hO
noncomputable def s_X9_laySoonest_b53 (h0 : Nat) (l1 : Int32) (l2 : Int32) (l3 : Int32) (l4 : Int32) (σ : Hp) : Option (((Nat × Int32 × Int32 × Int32 × Int32) ⊕ ((Nat × Int32 × Int32))) × Hp) :=
  if 48 ≤ l4 then
    some (Sum.inr ((h0), (l2), (l4)), σ)
  else
    (rdR 9 σ h0 42).bind fun r1 =>
    (r1).bind fun a2 =>
    (ldI 13 σ a2 ((10 * l4) + l2)).bind fun v3 =>
    if v3 = 0 then
      cb (s_X9_laySoonest_l78 ((h0), (l1), (l2), (l3), (l4), (0)) σ) fun e12 σ11 =>
      match e12 with
      | (h4, l15, l26, l37, l48) =>
        some (Sum.inl ((h4), (l15), (l26), (l37), (l48 + 1)), σ11)
    else
      some (Sum.inr ((h0), (l2), (l4)), σ)
noncomputable def s_X9_laySoonest_l53 : (Nat × Int32 × Int32 × Int32 × Int32) → Hp → Option (((Nat × Int32 × Int32)) × Hp) := loopF (fun v => s_X9_laySoonest_b53 (v.1) (v.2.1) (v.2.2.1) (v.2.2.2.1) (v.2.2.2.2))
set_option maxRecDepth 100000 in
theorem w_X9_laySoonest_b53 {E : E0} (hE : EOK E) {X : X0} (C : XOK E X cX9_laySoonest RX9 8 (some .int) rm_X9_laySoonest) (hxn : xn X = (rm_X9_laySoonest.cells, rm_X9_laySoonest.slots)) {KE : ((Nat × Int32 × Int32)) → Hp → Prop} (e_184 : ∀ (h0 : Nat) (l2 : Int32) (l4 : Int32) (σ : Hp), KE ((h0, l2, l4)) σ → G E X 0 0 184 [(0, tR (some (h0))), (2, tI (l2)), (4, tI (l4))] [] σ) (h0 : Nat) (l1 : Int32) (l2 : Int32) (l3 : Int32) (l4 : Int32) (σ : Hp) (x : (Nat × Int32 × Int32 × Int32 × Int32) ⊕ ((Nat × Int32 × Int32))) (σ1 : Hp) (h : s_X9_laySoonest_b53 h0 l1 l2 l3 l4 σ = some (x, σ1)) (hI : ∀ v, x = Sum.inl v → (fun (v : Nat × Int32 × Int32 × Int32 × Int32) (σ : Hp) => G E X 0 0 53 [(0, tR (some ((v.1)))), (1, tI ((v.2.1))), (2, tI ((v.2.2.1))), (3, tI ((v.2.2.2.1))), (4, tI ((v.2.2.2.2)))] [] σ) v σ1) (hO : ∀ e, x = Sum.inr e → KE e σ1) : G E X 0 0 53 [(0, tR (some (h0))), (1, tI (l1)), (2, tI (l2)), (3, tI (l3)), (4, tI (l4))] [] σ := by
  unfold s_X9_laySoonest_b53 at h
  refine g_iload (pc := 53) C 4 dX9_laySoonest_53 rfl ?_
  refine g_bipush (v := 48) (pc := 55) C dX9_laySoonest_55 (by decide) ?_
  refine g_icmp_ge (pc := 57) C 184 dX9_laySoonest_57 (by decide) (fun c14 => ?_) (fun c14 => ?_)
  · have h := zif_t c14 h
    refine g_sub [0, 2, 4] (lm' := [(0, tR (some (h0))), (2, tI (l2)), (4, tI (l4))]) rfl ?_
    obtain ⟨rfl, rfl⟩ := zsome h
    exact e_184 _ _ _ _ (hO _ rfl)
  · have h := zif_f c14 h
    refine g_aload_n (pc := 60) C 0 0 dX9_laySoonest_60 rfl rfl ?_
    obtain ⟨r1, hvr1, h⟩ := zbind h
    refine g_getR (N := 58) (pc := 61) C ck_9 hvr1 rfl rfl fl_X9_113 dX9_laySoonest_61 ?_
    refine g_bipush (v := 10) (pc := 64) C dX9_laySoonest_64 (by decide) ?_
    refine g_iload (pc := 66) C 4 dX9_laySoonest_66 rfl ?_
    refine g_imul (pc := 68) C dX9_laySoonest_68 ?_
    refine g_iload_n (pc := 69) C 2 2 dX9_laySoonest_69 rfl rfl ?_
    refine g_iadd (pc := 70) C dX9_laySoonest_70 ?_
    obtain ⟨a2, hqa2, h9⟩ := zbind h
    clear h
    subst hqa2
    have h := h9
    clear h9
    obtain ⟨v3, hvv3, h⟩ := zbind h
    refine g_zald (pc := 71) C hvv3 dX9_laySoonest_71 ?_
    refine g_if_ne (pc := 72) C 184 dX9_laySoonest_72 (by decide) (fun c13 => ?_) (fun c13 => ?_)
    · have h := zif_f c13 h
      refine g_sub [0, 2, 4] (lm' := [(0, tR (some (h0))), (2, tI (l2)), (4, tI (l4))]) rfl ?_
      obtain ⟨rfl, rfl⟩ := zsome h
      exact e_184 _ _ _ _ (hO _ rfl)
    · have h := zif_t c13 h
      refine g_iconst (v := 0) (pc := 75) C dX9_laySoonest_75 (by decide) ?_
      refine g_istore (lm' := [(5, tI (0)), (0, tR (some (h0))), (1, tI (l1)), (2, tI (l2)), (3, tI (l3)), (4, tI (l4))]) (pc := 76) C dX9_laySoonest_76 (by decide) rfl ?_
      refine g_sub [1, 2, 3, 4, 5, 0] (lm' := [(0, tR (some (h0))), (1, tI (l1)), (2, tI (l2)), (3, tI (l3)), (4, tI (l4)), (5, tI (0))]) rfl ?_
      obtain ⟨KQ, hKQ, e12, σ11, hle12, h⟩ := zcbK h
      refine w_X9_laySoonest_l78 (KE := KQ) hE C hxn ?_ hle12 h
      · intro h4 l15 l26 l37 l48 σ9 h
        have h := (hKQ _ _).mp h
        refine g_iinc (lm' := [(4, tI (l48 + 1)), (0, tR (some (h4))), (1, tI (l15)), (2, tI (l26)), (3, tI (l37))]) (v := l48 + 1) (pc := 178) C 4 dX9_laySoonest_178 rfl rfl (by decide) rfl ?_
        refine g_goto (pc := 181) C 53 dX9_laySoonest_181 (by decide) ?_
        refine g_sub [1, 2, 3, 4, 0] (lm' := [(0, tR (some (h4))), (1, tI (l15)), (2, tI (l26)), (3, tI (l37)), (4, tI (l48 + 1))]) rfl ?_
        obtain ⟨rfl, rfl⟩ := zsome h
        exact hI _ rfl
theorem w_X9_laySoonest_l53 {E : E0} (hE : EOK E) {X : X0} (C : XOK E X cX9_laySoonest RX9 8 (some .int) rm_X9_laySoonest) (hxn : xn X = (rm_X9_laySoonest.cells, rm_X9_laySoonest.slots)) {KE : ((Nat × Int32 × Int32)) → Hp → Prop} (e_184 : ∀ (h0 : Nat) (l2 : Int32) (l4 : Int32) (σ : Hp), KE ((h0, l2, l4)) σ → G E X 0 0 184 [(0, tR (some (h0))), (2, tI (l2)), (4, tI (l4))] [] σ) {v : Nat × Int32 × Int32 × Int32 × Int32} {σ : Hp} {e : (Nat × Int32 × Int32)} {σ1 : Hp} (h : s_X9_laySoonest_l53 v σ = some (e, σ1)) (hO : KE e σ1) : G E X 0 0 53 [(0, tR (some ((v.1)))), (1, tI ((v.2.1))), (2, tI ((v.2.2.1))), (3, tI ((v.2.2.2.1))), (4, tI ((v.2.2.2.2)))] [] σ := loopF_ind (P := fun (v : Nat × Int32 × Int32 × Int32 × Int32) (σ : Hp) => G E X 0 0 53 [(0, tR (some ((v.1)))), (1, tI ((v.2.1))), (2, tI ((v.2.2.1))), (3, tI ((v.2.2.2.1))), (4, tI ((v.2.2.2.2)))] [] σ) (KE := KE) (fun v σ x σ1 h hI hO => w_X9_laySoonest_b53 hE C hxn e_184 (v.1) (v.2.1) (v.2.2.1) (v.2.2.2.1) (v.2.2.2.2) σ x σ1 h hI hO) v σ e σ1 h hO
noncomputable def s_X9_laySoonest_j184 (h0 : Nat) (l2 : Int32) (l4 : Int32) (σ : Hp) : Option (Int32 × Hp) :=
  (rdR 9 σ h0 42).bind fun r1 =>
  (r1).bind fun a2 =>
  (ldI 13 σ a2 ((10 * l4) + l2)).bind fun v3 =>
  if v3 = 0 then
    some (((-1)), σ)
  else
    some ((l4), σ)
set_option maxRecDepth 100000 in
theorem w_X9_laySoonest_j184 {E : E0} (hE : EOK E) {X : X0} (C : XOK E X cX9_laySoonest RX9 8 (some .int) rm_X9_laySoonest) (hxn : xn X = (rm_X9_laySoonest.cells, rm_X9_laySoonest.slots)) (h0 : Nat) (l2 : Int32) (l4 : Int32) (σ : Hp) (r : Int32) (σ1 : Hp) (h : s_X9_laySoonest_j184 h0 l2 l4 σ = some (r, σ1)) (hx : xd X = (some (tI r), σ1)) : G E X 0 0 184 [(0, tR (some (h0))), (2, tI (l2)), (4, tI (l4))] [] σ := by
  unfold s_X9_laySoonest_j184 at h
  refine g_aload_n (pc := 184) C 0 0 dX9_laySoonest_184 rfl rfl ?_
  obtain ⟨r1, hvr1, h⟩ := zbind h
  refine g_getR (N := 58) (pc := 185) C ck_9 hvr1 rfl rfl fl_X9_113 dX9_laySoonest_185 ?_
  refine g_bipush (v := 10) (pc := 188) C dX9_laySoonest_188 (by decide) ?_
  refine g_iload (pc := 190) C 2 dX9_laySoonest_190 rfl ?_
  refine g_imul (pc := 192) C dX9_laySoonest_192 ?_
  refine g_iload_n (pc := 193) C 2 1 dX9_laySoonest_193 rfl rfl ?_
  refine g_iadd (pc := 194) C dX9_laySoonest_194 ?_
  obtain ⟨a2, hqa2, h9⟩ := zbind h
  clear h
  subst hqa2
  have h := h9
  clear h9
  obtain ⟨v3, hvv3, h⟩ := zbind h
  refine g_zald (pc := 195) C hvv3 dX9_laySoonest_195 ?_
  refine g_if_eq (pc := 196) C 204 dX9_laySoonest_196 (by decide) (fun c4 => ?_) (fun c4 => ?_)
  · have h := zif_t c4 h
    refine g_iconst (v := (-1)) (pc := 204) C dX9_laySoonest_204 (by decide) ?_
    obtain ⟨rfl, rfl⟩ := zsome h
    exact g_iret (pc := 205) C rfl hx (by rw [hxn]; rfl) (by rw [hxn]; rfl) dX9_laySoonest_205
  · have h := zif_f c4 h
    refine g_iload (pc := 199) C 2 dX9_laySoonest_199 rfl ?_
    refine g_goto (pc := 201) C 205 dX9_laySoonest_201 (by decide) ?_
    obtain ⟨rfl, rfl⟩ := zsome h
    exact g_iret (pc := 205) C rfl hx (by rw [hxn]; rfl) (by rw [hxn]; rfl) dX9_laySoonest_205
noncomputable def s_X9_laySoonest (h0 : Nat) (p1 : Int32) (p2 : Int32) (σ : Hp) : Option (Int32 × Hp) :=
  (rdR 9 σ h0 3).bind fun r1 =>
  (r1).bind fun a2 =>
  (ldI 11 σ a2 (7)).bind fun v3 =>
  cb (s_X9_laySoonest_l11 ((h0), (p1), (p2), (v3), (0)) σ) fun e18 σ17 =>
  match e18 with
  | (h4, l15, l26, l37) =>
    cb (s_X9_laySoonest_l53 ((h4), (l15), (l26), (l37), (0)) σ17) fun e15 σ14 =>
    match e15 with
    | (h9, l210, l411) =>
      s_X9_laySoonest_j184 (h9) (l210) (l411) σ14
set_option maxRecDepth 100000 in
theorem c_X9_laySoonest {E : E0} (hE : EOK E) {h0 : Nat} {p1 : Int32} {p2 : Int32} {σ σ1 : Hp} {r : Int32} (h : s_X9_laySoonest h0 p1 p2 σ = some (r, σ1)) : CT E yX9_laySoonest (.code yX9_laySoonest cX9_laySoonest 8 (some .int)) rm_X9_laySoonest [tR (some (h0)), tI (p1), tI (p2)] σ (some (tI r)) σ1 := by
  refine CT.mk hE (by decide +kernel) (Nat.le_of_ble_eq_true rfl) [(0, tR (some (h0))), (1, tI (p1)), (2, tI (p2))] rfl (fun X C hin hx hxn => ?_)
  have C : XOK E X cX9_laySoonest RX9 8 (some .int) rm_X9_laySoonest := C
  unfold s_X9_laySoonest at h
  refine g_aload_n (pc := 0) C 0 0 dX9_laySoonest_0 rfl rfl ?_
  obtain ⟨r1, hvr1, h⟩ := zbind h
  refine g_getR (N := 58) (pc := 1) C ck_9 hvr1 rfl rfl fl_X9_13 dX9_laySoonest_1 ?_
  refine g_bipush (v := 7) (pc := 4) C dX9_laySoonest_4 (by decide) ?_
  obtain ⟨a2, hqa2, h9⟩ := zbind h
  clear h
  subst hqa2
  have h := h9
  clear h9
  obtain ⟨v3, hvv3, h⟩ := zbind h
  refine g_iald (pc := 6) C hvv3 dX9_laySoonest_6 ?_
  refine g_istore_n (lm' := [(3, tI (v3)), (0, tR (some (h0))), (1, tI (p1)), (2, tI (p2))]) (pc := 7) C 3 dX9_laySoonest_7 rfl (by decide) rfl ?_
  refine g_iconst (v := 0) (pc := 8) C dX9_laySoonest_8 (by decide) ?_
  refine g_istore (lm' := [(4, tI (0)), (3, tI (v3)), (0, tR (some (h0))), (1, tI (p1)), (2, tI (p2))]) (pc := 9) C dX9_laySoonest_9 (by decide) rfl ?_
  refine g_sub [2, 3, 4, 1, 0] (lm' := [(0, tR (some (h0))), (1, tI (p1)), (2, tI (p2)), (3, tI (v3)), (4, tI (0))]) rfl ?_
  obtain ⟨KQ, hKQ, e18, σ17, hle18, h⟩ := zcbK h
  refine w_X9_laySoonest_l11 (KE := KQ) hE C hxn ?_ hle18 h
  · intro h4 l15 l26 l37 σ8 h
    have h := (hKQ _ _).mp h
    refine g_iconst (v := 0) (pc := 50) C dX9_laySoonest_50 (by decide) ?_
    refine g_istore (lm' := [(4, tI (0)), (0, tR (some (h4))), (1, tI (l15)), (2, tI (l26)), (3, tI (l37))]) (pc := 51) C dX9_laySoonest_51 (by decide) rfl ?_
    refine g_sub [1, 2, 3, 4, 0] (lm' := [(0, tR (some (h4))), (1, tI (l15)), (2, tI (l26)), (3, tI (l37)), (4, tI (0))]) rfl ?_
    obtain ⟨KQ, hKQ, e15, σ14, hle15, h⟩ := zcbK h
    refine w_X9_laySoonest_l53 (KE := KQ) hE C hxn ?_ hle15 h
    · intro h9 l210 l411 σ12 h
      have h := (hKQ _ _).mp h
      exact w_X9_laySoonest_j184 hE C hxn _ _ _ _ _ _ h hx
def rm_X9_layComing : Room := { frames := 8, cells := 0, slots := 0, locals := 193 }
noncomputable def s_X9_layComing_j45 (h0 : Nat) (l1 : Int32) (l2 : Int32) (l3 : Int32) (l4 : Int32) (l5 : Int32) (t0 : Option Nat) (t1 : Int32) (t2 : Int32) (σ : Hp) : Option (((Nat × Int32 × Int32 × Int32 × Int32 × Int32) ⊕ ((Nat × Int32 × Int32 × Int32))) × Hp) :=
  (t0).bind fun a1 =>
  (stZ σ a1 (t1) (t2)).bind fun σ2 =>
  some (Sum.inl ((h0), (l1), (l2), (l3), (l4), (l5 + 1)), σ2)
set_option maxRecDepth 100000 in
theorem w_X9_layComing_j45 {E : E0} (hE : EOK E) {X : X0} (C : XOK E X cX9_layComing RX9 9 none rm_X9_layComing) (hxn : xn X = (rm_X9_layComing.cells, rm_X9_layComing.slots)) {KE : ((Nat × Int32 × Int32 × Int32)) → Hp → Prop} (e_52 : ∀ (h0 : Nat) (l1 : Int32) (l3 : Int32) (l4 : Int32) (σ : Hp), KE ((h0, l1, l3, l4)) σ → G E X 0 0 52 [(0, tR (some (h0))), (1, tI (l1)), (3, tI (l3)), (4, tI (l4))] [] σ) (h0 : Nat) (l1 : Int32) (l2 : Int32) (l3 : Int32) (l4 : Int32) (l5 : Int32) (t0 : Option Nat) (t1 : Int32) (t2 : Int32) (σ : Hp) (x : (Nat × Int32 × Int32 × Int32 × Int32 × Int32) ⊕ ((Nat × Int32 × Int32 × Int32))) (σ1 : Hp) (h : s_X9_layComing_j45 h0 l1 l2 l3 l4 l5 t0 t1 t2 σ = some (x, σ1)) (hI : ∀ v, x = Sum.inl v → (fun (v : Nat × Int32 × Int32 × Int32 × Int32 × Int32) (σ : Hp) => G E X 0 0 12 [(0, tR (some ((v.1)))), (1, tI ((v.2.1))), (2, tI ((v.2.2.1))), (3, tI ((v.2.2.2.1))), (4, tI ((v.2.2.2.2.1))), (5, tI ((v.2.2.2.2.2)))] [] σ) v σ1) (hO : ∀ e, x = Sum.inr e → KE e σ1) : G E X 0 0 45 [(0, tR (some (h0))), (1, tI (l1)), (2, tI (l2)), (3, tI (l3)), (4, tI (l4)), (5, tI (l5))] [tI (t2), tI (t1), tR (t0)] σ := by
  unfold s_X9_layComing_j45 at h
  obtain ⟨a1, hqa1, h9⟩ := zbind h
  clear h
  subst hqa1
  have h := h9
  clear h9
  obtain ⟨σ2, hvσ2, h⟩ := zbind h
  refine g_zast (pc := 45) C hvσ2 dX9_layComing_45 ?_
  refine g_iinc (lm' := [(5, tI (l5 + 1)), (0, tR (some (h0))), (1, tI (l1)), (2, tI (l2)), (3, tI (l3)), (4, tI (l4))]) (v := l5 + 1) (pc := 46) C 5 dX9_layComing_46 rfl rfl (by decide) rfl ?_
  refine g_goto (pc := 49) C 12 dX9_layComing_49 (by decide) ?_
  refine g_sub [1, 2, 3, 4, 5, 0] (lm' := [(0, tR (some (h0))), (1, tI (l1)), (2, tI (l2)), (3, tI (l3)), (4, tI (l4)), (5, tI (l5 + 1))]) rfl ?_
  obtain ⟨rfl, rfl⟩ := zsome h
  exact hI _ rfl
noncomputable def s_X9_layComing_b12 (h0 : Nat) (l1 : Int32) (l2 : Int32) (l3 : Int32) (l4 : Int32) (l5 : Int32) (σ : Hp) : Option (((Nat × Int32 × Int32 × Int32 × Int32 × Int32) ⊕ ((Nat × Int32 × Int32 × Int32))) × Hp) :=
  (rdR 9 σ h0 3).bind fun r1 =>
  (r1).bind fun a2 =>
  (ldI 11 σ a2 (0)).bind fun v3 =>
  if v3 ≤ l5 then
    some (Sum.inr ((h0), (l1), (l3), (l4)), σ)
  else
    (rdR 9 σ h0 43).bind fun r4 =>
    if l5 = l2 then
      s_X9_layComing_j45 (h0) (l1) (l2) (l3) (l4) (l5) (r4) ((10 * l3) + l5) (1) σ
    else
      s_X9_layComing_j45 (h0) (l1) (l2) (l3) (l4) (l5) (r4) ((10 * l3) + l5) (0) σ
noncomputable def s_X9_layComing_l12 : (Nat × Int32 × Int32 × Int32 × Int32 × Int32) → Hp → Option (((Nat × Int32 × Int32 × Int32)) × Hp) := loopF (fun v => s_X9_layComing_b12 (v.1) (v.2.1) (v.2.2.1) (v.2.2.2.1) (v.2.2.2.2.1) (v.2.2.2.2.2))
set_option maxRecDepth 100000 in
theorem w_X9_layComing_b12 {E : E0} (hE : EOK E) {X : X0} (C : XOK E X cX9_layComing RX9 9 none rm_X9_layComing) (hxn : xn X = (rm_X9_layComing.cells, rm_X9_layComing.slots)) {KE : ((Nat × Int32 × Int32 × Int32)) → Hp → Prop} (e_52 : ∀ (h0 : Nat) (l1 : Int32) (l3 : Int32) (l4 : Int32) (σ : Hp), KE ((h0, l1, l3, l4)) σ → G E X 0 0 52 [(0, tR (some (h0))), (1, tI (l1)), (3, tI (l3)), (4, tI (l4))] [] σ) (h0 : Nat) (l1 : Int32) (l2 : Int32) (l3 : Int32) (l4 : Int32) (l5 : Int32) (σ : Hp) (x : (Nat × Int32 × Int32 × Int32 × Int32 × Int32) ⊕ ((Nat × Int32 × Int32 × Int32))) (σ1 : Hp) (h : s_X9_layComing_b12 h0 l1 l2 l3 l4 l5 σ = some (x, σ1)) (hI : ∀ v, x = Sum.inl v → (fun (v : Nat × Int32 × Int32 × Int32 × Int32 × Int32) (σ : Hp) => G E X 0 0 12 [(0, tR (some ((v.1)))), (1, tI ((v.2.1))), (2, tI ((v.2.2.1))), (3, tI ((v.2.2.2.1))), (4, tI ((v.2.2.2.2.1))), (5, tI ((v.2.2.2.2.2)))] [] σ) v σ1) (hO : ∀ e, x = Sum.inr e → KE e σ1) : G E X 0 0 12 [(0, tR (some (h0))), (1, tI (l1)), (2, tI (l2)), (3, tI (l3)), (4, tI (l4)), (5, tI (l5))] [] σ := by
  unfold s_X9_layComing_b12 at h
  refine g_iload (pc := 12) C 5 dX9_layComing_12 rfl ?_
  refine g_aload_n (pc := 14) C 0 0 dX9_layComing_14 rfl rfl ?_
  obtain ⟨r1, hvr1, h⟩ := zbind h
  refine g_getR (N := 58) (pc := 15) C ck_9 hvr1 rfl rfl fl_X9_13 dX9_layComing_15 ?_
  refine g_iconst (v := 0) (pc := 18) C dX9_layComing_18 (by decide) ?_
  obtain ⟨a2, hqa2, h9⟩ := zbind h
  clear h
  subst hqa2
  have h := h9
  clear h9
  obtain ⟨v3, hvv3, h⟩ := zbind h
  refine g_iald (pc := 19) C hvv3 dX9_layComing_19 ?_
  refine g_icmp_ge (pc := 20) C 52 dX9_layComing_20 (by decide) (fun c6 => ?_) (fun c6 => ?_)
  · have h := zif_t c6 h
    refine g_sub [0, 1, 3, 4] (lm' := [(0, tR (some (h0))), (1, tI (l1)), (3, tI (l3)), (4, tI (l4))]) rfl ?_
    obtain ⟨rfl, rfl⟩ := zsome h
    exact e_52 _ _ _ _ _ (hO _ rfl)
  · have h := zif_f c6 h
    refine g_aload_n (pc := 23) C 0 0 dX9_layComing_23 rfl rfl ?_
    obtain ⟨r4, hvr4, h⟩ := zbind h
    refine g_getR (N := 58) (pc := 24) C ck_9 hvr4 rfl rfl fl_X9_116 dX9_layComing_24 ?_
    refine g_bipush (v := 10) (pc := 27) C dX9_layComing_27 (by decide) ?_
    refine g_iload_n (pc := 29) C 3 3 dX9_layComing_29 rfl rfl ?_
    refine g_imul (pc := 30) C dX9_layComing_30 ?_
    refine g_iload (pc := 31) C 5 dX9_layComing_31 rfl ?_
    refine g_iadd (pc := 33) C dX9_layComing_33 ?_
    refine g_iload (pc := 34) C 5 dX9_layComing_34 rfl ?_
    refine g_iload_n (pc := 36) C 2 2 dX9_layComing_36 rfl rfl ?_
    refine g_icmp_ne (pc := 37) C 44 dX9_layComing_37 (by decide) (fun c5 => ?_) (fun c5 => ?_)
    · have h := zif_f c5 h
      refine g_iconst (v := 0) (pc := 44) C dX9_layComing_44 (by decide) ?_
      exact w_X9_layComing_j45 hE C hxn e_52 _ _ _ _ _ _ _ _ _ _ _ _ h hI hO
    · have h := zif_t c5 h
      refine g_iconst (v := 1) (pc := 40) C dX9_layComing_40 (by decide) ?_
      refine g_goto (pc := 41) C 45 dX9_layComing_41 (by decide) ?_
      exact w_X9_layComing_j45 hE C hxn e_52 _ _ _ _ _ _ _ _ _ _ _ _ h hI hO
theorem w_X9_layComing_l12 {E : E0} (hE : EOK E) {X : X0} (C : XOK E X cX9_layComing RX9 9 none rm_X9_layComing) (hxn : xn X = (rm_X9_layComing.cells, rm_X9_layComing.slots)) {KE : ((Nat × Int32 × Int32 × Int32)) → Hp → Prop} (e_52 : ∀ (h0 : Nat) (l1 : Int32) (l3 : Int32) (l4 : Int32) (σ : Hp), KE ((h0, l1, l3, l4)) σ → G E X 0 0 52 [(0, tR (some (h0))), (1, tI (l1)), (3, tI (l3)), (4, tI (l4))] [] σ) {v : Nat × Int32 × Int32 × Int32 × Int32 × Int32} {σ : Hp} {e : (Nat × Int32 × Int32 × Int32)} {σ1 : Hp} (h : s_X9_layComing_l12 v σ = some (e, σ1)) (hO : KE e σ1) : G E X 0 0 12 [(0, tR (some ((v.1)))), (1, tI ((v.2.1))), (2, tI ((v.2.2.1))), (3, tI ((v.2.2.2.1))), (4, tI ((v.2.2.2.2.1))), (5, tI ((v.2.2.2.2.2)))] [] σ := loopF_ind (P := fun (v : Nat × Int32 × Int32 × Int32 × Int32 × Int32) (σ : Hp) => G E X 0 0 12 [(0, tR (some ((v.1)))), (1, tI ((v.2.1))), (2, tI ((v.2.2.1))), (3, tI ((v.2.2.2.1))), (4, tI ((v.2.2.2.2.1))), (5, tI ((v.2.2.2.2.2)))] [] σ) (KE := KE) (fun v σ x σ1 h hI hO => w_X9_layComing_b12 hE C hxn e_52 (v.1) (v.2.1) (v.2.2.1) (v.2.2.2.1) (v.2.2.2.2.1) (v.2.2.2.2.2) σ x σ1 h hI hO) v σ e σ1 h hO
noncomputable def s_X9_layComing_j137 (h0 : Nat) (l1 : Int32) (l4 : Int32) (l5 : Int32) (l6 : Int32) (l8 : Int32) (t0 : Int32) (σ : Hp) : Option (((Nat × Int32 × Int32 × Int32 × Int32 × Int32 × Int32) ⊕ ((Nat × Int32 × Int32 × Int32 × Int32 × Int32))) × Hp) :=
  some (Sum.inl ((h0), (l1), (l4), (l5), (l6), (t0), (l8 + 1)), σ)
set_option maxRecDepth 100000 in
theorem w_X9_layComing_j137 {E : E0} (hE : EOK E) {X : X0} (C : XOK E X cX9_layComing RX9 9 none rm_X9_layComing) (hxn : xn X = (rm_X9_layComing.cells, rm_X9_layComing.slots)) {KE : ((Nat × Int32 × Int32 × Int32 × Int32 × Int32)) → Hp → Prop} (e_145 : ∀ (h0 : Nat) (l1 : Int32) (l4 : Int32) (l5 : Int32) (l6 : Int32) (l7 : Int32) (σ : Hp), KE ((h0, l1, l4, l5, l6, l7)) σ → G E X 0 0 145 [(0, tR (some (h0))), (1, tI (l1)), (4, tI (l4)), (5, tI (l5)), (6, tI (l6)), (7, tI (l7))] [] σ) (h0 : Nat) (l1 : Int32) (l4 : Int32) (l5 : Int32) (l6 : Int32) (l8 : Int32) (t0 : Int32) (σ : Hp) (x : (Nat × Int32 × Int32 × Int32 × Int32 × Int32 × Int32) ⊕ ((Nat × Int32 × Int32 × Int32 × Int32 × Int32))) (σ1 : Hp) (h : s_X9_layComing_j137 h0 l1 l4 l5 l6 l8 t0 σ = some (x, σ1)) (hI : ∀ v, x = Sum.inl v → (fun (v : Nat × Int32 × Int32 × Int32 × Int32 × Int32 × Int32) (σ : Hp) => G E X 0 0 82 [(0, tR (some ((v.1)))), (1, tI ((v.2.1))), (4, tI ((v.2.2.1))), (5, tI ((v.2.2.2.1))), (6, tI ((v.2.2.2.2.1))), (7, tI ((v.2.2.2.2.2.1))), (8, tI ((v.2.2.2.2.2.2)))] [] σ) v σ1) (hO : ∀ e, x = Sum.inr e → KE e σ1) : G E X 0 0 137 [(0, tR (some (h0))), (1, tI (l1)), (4, tI (l4)), (5, tI (l5)), (6, tI (l6)), (8, tI (l8))] [tI (t0)] σ := by
  unfold s_X9_layComing_j137 at h
  refine g_istore (lm' := [(7, tI (t0)), (0, tR (some (h0))), (1, tI (l1)), (4, tI (l4)), (5, tI (l5)), (6, tI (l6)), (8, tI (l8))]) (pc := 137) C dX9_layComing_137 (by decide) rfl ?_
  refine g_iinc (lm' := [(8, tI (l8 + 1)), (7, tI (t0)), (0, tR (some (h0))), (1, tI (l1)), (4, tI (l4)), (5, tI (l5)), (6, tI (l6))]) (v := l8 + 1) (pc := 139) C 6 dX9_layComing_139 rfl rfl (by decide) rfl ?_
  refine g_goto (pc := 142) C 82 dX9_layComing_142 (by decide) ?_
  refine g_sub [2, 3, 4, 5, 6, 1, 0] (lm' := [(0, tR (some (h0))), (1, tI (l1)), (4, tI (l4)), (5, tI (l5)), (6, tI (l6)), (7, tI (t0)), (8, tI (l8 + 1))]) rfl ?_
  obtain ⟨rfl, rfl⟩ := zsome h
  exact hI _ rfl
noncomputable def s_X9_layComing_j132 (h0 : Nat) (l1 : Int32) (l4 : Int32) (l5 : Int32) (l6 : Int32) (l8 : Int32) (σ : Hp) : Option (((Nat × Int32 × Int32 × Int32 × Int32 × Int32 × Int32) ⊕ ((Nat × Int32 × Int32 × Int32 × Int32 × Int32))) × Hp) :=
  s_X9_layComing_j137 (h0) (l1) (l4) (l5) (l6) (l8) (1) σ
set_option maxRecDepth 100000 in
theorem w_X9_layComing_j132 {E : E0} (hE : EOK E) {X : X0} (C : XOK E X cX9_layComing RX9 9 none rm_X9_layComing) (hxn : xn X = (rm_X9_layComing.cells, rm_X9_layComing.slots)) {KE : ((Nat × Int32 × Int32 × Int32 × Int32 × Int32)) → Hp → Prop} (e_145 : ∀ (h0 : Nat) (l1 : Int32) (l4 : Int32) (l5 : Int32) (l6 : Int32) (l7 : Int32) (σ : Hp), KE ((h0, l1, l4, l5, l6, l7)) σ → G E X 0 0 145 [(0, tR (some (h0))), (1, tI (l1)), (4, tI (l4)), (5, tI (l5)), (6, tI (l6)), (7, tI (l7))] [] σ) (h0 : Nat) (l1 : Int32) (l4 : Int32) (l5 : Int32) (l6 : Int32) (l8 : Int32) (σ : Hp) (x : (Nat × Int32 × Int32 × Int32 × Int32 × Int32 × Int32) ⊕ ((Nat × Int32 × Int32 × Int32 × Int32 × Int32))) (σ1 : Hp) (h : s_X9_layComing_j132 h0 l1 l4 l5 l6 l8 σ = some (x, σ1)) (hI : ∀ v, x = Sum.inl v → (fun (v : Nat × Int32 × Int32 × Int32 × Int32 × Int32 × Int32) (σ : Hp) => G E X 0 0 82 [(0, tR (some ((v.1)))), (1, tI ((v.2.1))), (4, tI ((v.2.2.1))), (5, tI ((v.2.2.2.1))), (6, tI ((v.2.2.2.2.1))), (7, tI ((v.2.2.2.2.2.1))), (8, tI ((v.2.2.2.2.2.2)))] [] σ) v σ1) (hO : ∀ e, x = Sum.inr e → KE e σ1) : G E X 0 0 132 [(0, tR (some (h0))), (1, tI (l1)), (4, tI (l4)), (5, tI (l5)), (6, tI (l6)), (8, tI (l8))] [] σ := by
  unfold s_X9_layComing_j132 at h
  refine g_iconst (v := 1) (pc := 132) C dX9_layComing_132 (by decide) ?_
  refine g_goto (pc := 133) C 137 dX9_layComing_133 (by decide) ?_
  exact w_X9_layComing_j137 hE C hxn e_145 _ _ _ _ _ _ _ _ _ _ h hI hO
noncomputable def s_X9_layComing_j136 (h0 : Nat) (l1 : Int32) (l4 : Int32) (l5 : Int32) (l6 : Int32) (l8 : Int32) (σ : Hp) : Option (((Nat × Int32 × Int32 × Int32 × Int32 × Int32 × Int32) ⊕ ((Nat × Int32 × Int32 × Int32 × Int32 × Int32))) × Hp) :=
  s_X9_layComing_j137 (h0) (l1) (l4) (l5) (l6) (l8) (0) σ
set_option maxRecDepth 100000 in
theorem w_X9_layComing_j136 {E : E0} (hE : EOK E) {X : X0} (C : XOK E X cX9_layComing RX9 9 none rm_X9_layComing) (hxn : xn X = (rm_X9_layComing.cells, rm_X9_layComing.slots)) {KE : ((Nat × Int32 × Int32 × Int32 × Int32 × Int32)) → Hp → Prop} (e_145 : ∀ (h0 : Nat) (l1 : Int32) (l4 : Int32) (l5 : Int32) (l6 : Int32) (l7 : Int32) (σ : Hp), KE ((h0, l1, l4, l5, l6, l7)) σ → G E X 0 0 145 [(0, tR (some (h0))), (1, tI (l1)), (4, tI (l4)), (5, tI (l5)), (6, tI (l6)), (7, tI (l7))] [] σ) (h0 : Nat) (l1 : Int32) (l4 : Int32) (l5 : Int32) (l6 : Int32) (l8 : Int32) (σ : Hp) (x : (Nat × Int32 × Int32 × Int32 × Int32 × Int32 × Int32) ⊕ ((Nat × Int32 × Int32 × Int32 × Int32 × Int32))) (σ1 : Hp) (h : s_X9_layComing_j136 h0 l1 l4 l5 l6 l8 σ = some (x, σ1)) (hI : ∀ v, x = Sum.inl v → (fun (v : Nat × Int32 × Int32 × Int32 × Int32 × Int32 × Int32) (σ : Hp) => G E X 0 0 82 [(0, tR (some ((v.1)))), (1, tI ((v.2.1))), (4, tI ((v.2.2.1))), (5, tI ((v.2.2.2.1))), (6, tI ((v.2.2.2.2.1))), (7, tI ((v.2.2.2.2.2.1))), (8, tI ((v.2.2.2.2.2.2)))] [] σ) v σ1) (hO : ∀ e, x = Sum.inr e → KE e σ1) : G E X 0 0 136 [(0, tR (some (h0))), (1, tI (l1)), (4, tI (l4)), (5, tI (l5)), (6, tI (l6)), (8, tI (l8))] [] σ := by
  unfold s_X9_layComing_j136 at h
  refine g_iconst (v := 0) (pc := 136) C dX9_layComing_136 (by decide) ?_
  exact w_X9_layComing_j137 hE C hxn e_145 _ _ _ _ _ _ _ _ _ _ h hI hO
noncomputable def s_X9_layComing_b82 (h0 : Nat) (l1 : Int32) (l4 : Int32) (l5 : Int32) (l6 : Int32) (l7 : Int32) (l8 : Int32) (σ : Hp) : Option (((Nat × Int32 × Int32 × Int32 × Int32 × Int32 × Int32) ⊕ ((Nat × Int32 × Int32 × Int32 × Int32 × Int32))) × Hp) :=
  (rdR 9 σ h0 3).bind fun r1 =>
  (r1).bind fun a2 =>
  (ldI 11 σ a2 (0)).bind fun v3 =>
  if v3 ≤ l8 then
    some (Sum.inr ((h0), (l1), (l4), (l5), (l6), (l7)), σ)
  else
    if l7 = 0 then
      (rdR 9 σ h0 43).bind fun r4 =>
      (r4).bind fun a5 =>
      (ldI 13 σ a5 ((10 * (l5 + 1)) + l8)).bind fun v6 =>
      if v6 = 0 then
        s_X9_layComing_j136 (h0) (l1) (l4) (l5) (l6) (l8) σ
      else
        (ck 9 σ h0).bind fun u7 =>
        cb (s_X9_goesOn h0 (l1) (l4) (l5) (l6) (l8) σ) fun v9 σ8 =>
        if v9 = 0 then
          s_X9_layComing_j136 (h0) (l1) (l4) (l5) (l6) (l8) σ8
        else
          s_X9_layComing_j132 (h0) (l1) (l4) (l5) (l6) (l8) σ8
    else
      s_X9_layComing_j132 (h0) (l1) (l4) (l5) (l6) (l8) σ
noncomputable def s_X9_layComing_l82 : (Nat × Int32 × Int32 × Int32 × Int32 × Int32 × Int32) → Hp → Option (((Nat × Int32 × Int32 × Int32 × Int32 × Int32)) × Hp) := loopF (fun v => s_X9_layComing_b82 (v.1) (v.2.1) (v.2.2.1) (v.2.2.2.1) (v.2.2.2.2.1) (v.2.2.2.2.2.1) (v.2.2.2.2.2.2))
set_option maxRecDepth 100000 in
theorem w_X9_layComing_b82 {E : E0} (hE : EOK E) {X : X0} (C : XOK E X cX9_layComing RX9 9 none rm_X9_layComing) (hxn : xn X = (rm_X9_layComing.cells, rm_X9_layComing.slots)) {KE : ((Nat × Int32 × Int32 × Int32 × Int32 × Int32)) → Hp → Prop} (e_145 : ∀ (h0 : Nat) (l1 : Int32) (l4 : Int32) (l5 : Int32) (l6 : Int32) (l7 : Int32) (σ : Hp), KE ((h0, l1, l4, l5, l6, l7)) σ → G E X 0 0 145 [(0, tR (some (h0))), (1, tI (l1)), (4, tI (l4)), (5, tI (l5)), (6, tI (l6)), (7, tI (l7))] [] σ) (h0 : Nat) (l1 : Int32) (l4 : Int32) (l5 : Int32) (l6 : Int32) (l7 : Int32) (l8 : Int32) (σ : Hp) (x : (Nat × Int32 × Int32 × Int32 × Int32 × Int32 × Int32) ⊕ ((Nat × Int32 × Int32 × Int32 × Int32 × Int32))) (σ1 : Hp) (h : s_X9_layComing_b82 h0 l1 l4 l5 l6 l7 l8 σ = some (x, σ1)) (hI : ∀ v, x = Sum.inl v → (fun (v : Nat × Int32 × Int32 × Int32 × Int32 × Int32 × Int32) (σ : Hp) => G E X 0 0 82 [(0, tR (some ((v.1)))), (1, tI ((v.2.1))), (4, tI ((v.2.2.1))), (5, tI ((v.2.2.2.1))), (6, tI ((v.2.2.2.2.1))), (7, tI ((v.2.2.2.2.2.1))), (8, tI ((v.2.2.2.2.2.2)))] [] σ) v σ1) (hO : ∀ e, x = Sum.inr e → KE e σ1) : G E X 0 0 82 [(0, tR (some (h0))), (1, tI (l1)), (4, tI (l4)), (5, tI (l5)), (6, tI (l6)), (7, tI (l7)), (8, tI (l8))] [] σ := by
  unfold s_X9_layComing_b82 at h
  refine g_iload (pc := 82) C 6 dX9_layComing_82 rfl ?_
  refine g_aload_n (pc := 84) C 0 0 dX9_layComing_84 rfl rfl ?_
  obtain ⟨r1, hvr1, h⟩ := zbind h
  refine g_getR (N := 58) (pc := 85) C ck_9 hvr1 rfl rfl fl_X9_13 dX9_layComing_85 ?_
  refine g_iconst (v := 0) (pc := 88) C dX9_layComing_88 (by decide) ?_
  obtain ⟨a2, hqa2, h9⟩ := zbind h
  clear h
  subst hqa2
  have h := h9
  clear h9
  obtain ⟨v3, hvv3, h⟩ := zbind h
  refine g_iald (pc := 89) C hvv3 dX9_layComing_89 ?_
  refine g_icmp_ge (pc := 90) C 145 dX9_layComing_90 (by decide) (fun c13 => ?_) (fun c13 => ?_)
  · have h := zif_t c13 h
    refine g_sub [0, 1, 2, 3, 4, 5] (lm' := [(0, tR (some (h0))), (1, tI (l1)), (4, tI (l4)), (5, tI (l5)), (6, tI (l6)), (7, tI (l7))]) rfl ?_
    obtain ⟨rfl, rfl⟩ := zsome h
    exact e_145 _ _ _ _ _ _ _ (hO _ rfl)
  · have h := zif_f c13 h
    refine g_iload (pc := 93) C 5 dX9_layComing_93 rfl ?_
    refine g_if_ne (pc := 95) C 132 dX9_layComing_95 (by decide) (fun c12 => ?_) (fun c12 => ?_)
    · have h := zif_f c12 h
      refine g_sub [0, 1, 2, 3, 4, 6] (lm' := [(0, tR (some (h0))), (1, tI (l1)), (4, tI (l4)), (5, tI (l5)), (6, tI (l6)), (8, tI (l8))]) rfl ?_
      exact w_X9_layComing_j132 hE C hxn e_145 _ _ _ _ _ _ _ _ _ h hI hO
    · have h := zif_t c12 h
      refine g_aload_n (pc := 98) C 0 0 dX9_layComing_98 rfl rfl ?_
      obtain ⟨r4, hvr4, h⟩ := zbind h
      refine g_getR (N := 58) (pc := 99) C ck_9 hvr4 rfl rfl fl_X9_116 dX9_layComing_99 ?_
      refine g_bipush (v := 10) (pc := 102) C dX9_layComing_102 (by decide) ?_
      refine g_iload (pc := 104) C 3 dX9_layComing_104 rfl ?_
      refine g_iconst (v := 1) (pc := 106) C dX9_layComing_106 (by decide) ?_
      refine g_iadd (pc := 107) C dX9_layComing_107 ?_
      refine g_imul (pc := 108) C dX9_layComing_108 ?_
      refine g_iload (pc := 109) C 6 dX9_layComing_109 rfl ?_
      refine g_iadd (pc := 111) C dX9_layComing_111 ?_
      obtain ⟨a5, hqa5, h9⟩ := zbind h
      clear h
      subst hqa5
      have h := h9
      clear h9
      obtain ⟨v6, hvv6, h⟩ := zbind h
      refine g_zald (pc := 112) C hvv6 dX9_layComing_112 ?_
      refine g_if_eq (pc := 113) C 136 dX9_layComing_113 (by decide) (fun c11 => ?_) (fun c11 => ?_)
      · have h := zif_t c11 h
        refine g_sub [0, 1, 2, 3, 4, 6] (lm' := [(0, tR (some (h0))), (1, tI (l1)), (4, tI (l4)), (5, tI (l5)), (6, tI (l6)), (8, tI (l8))]) rfl ?_
        exact w_X9_layComing_j136 hE C hxn e_145 _ _ _ _ _ _ _ _ _ h hI hO
      · have h := zif_f c11 h
        refine g_aload_n (pc := 116) C 0 0 dX9_layComing_116 rfl rfl ?_
        refine g_iload_n (pc := 117) C 1 1 dX9_layComing_117 rfl rfl ?_
        refine g_iload (pc := 118) C 2 dX9_layComing_118 rfl ?_
        refine g_iload (pc := 120) C 3 dX9_layComing_120 rfl ?_
        refine g_iload (pc := 122) C 4 dX9_layComing_122 rfl ?_
        refine g_iload (pc := 124) C 6 dX9_layComing_124 rfl ?_
        obtain ⟨u7, hvu7, h⟩ := zbind h
        obtain ⟨v9, σ8, hvσ8, h⟩ := zcb h
        refine g_callV (pc := 126) (av := [tI (l1), tI (l4), tI (l5), tI (l6), tI (l8)]) C (c_X9_goesOn hE hvσ8) yv_X9_goesOn ml_X9_463 ck_9 (zopt hvu7).1 rfl (rf_of (by decide)) rfl (Nat.le_of_ble_eq_true rfl) dX9_layComing_126 ?_
        refine g_if_eq (pc := 129) C 136 dX9_layComing_129 (by decide) (fun c10 => ?_) (fun c10 => ?_)
        · have h := zif_t c10 h
          refine g_sub [0, 1, 2, 3, 4, 6] (lm' := [(0, tR (some (h0))), (1, tI (l1)), (4, tI (l4)), (5, tI (l5)), (6, tI (l6)), (8, tI (l8))]) rfl ?_
          exact w_X9_layComing_j136 hE C hxn e_145 _ _ _ _ _ _ _ _ _ h hI hO
        · have h := zif_f c10 h
          refine g_sub [0, 1, 2, 3, 4, 6] (lm' := [(0, tR (some (h0))), (1, tI (l1)), (4, tI (l4)), (5, tI (l5)), (6, tI (l6)), (8, tI (l8))]) rfl ?_
          exact w_X9_layComing_j132 hE C hxn e_145 _ _ _ _ _ _ _ _ _ h hI hO
theorem w_X9_layComing_l82 {E : E0} (hE : EOK E) {X : X0} (C : XOK E X cX9_layComing RX9 9 none rm_X9_layComing) (hxn : xn X = (rm_X9_layComing.cells, rm_X9_layComing.slots)) {KE : ((Nat × Int32 × Int32 × Int32 × Int32 × Int32)) → Hp → Prop} (e_145 : ∀ (h0 : Nat) (l1 : Int32) (l4 : Int32) (l5 : Int32) (l6 : Int32) (l7 : Int32) (σ : Hp), KE ((h0, l1, l4, l5, l6, l7)) σ → G E X 0 0 145 [(0, tR (some (h0))), (1, tI (l1)), (4, tI (l4)), (5, tI (l5)), (6, tI (l6)), (7, tI (l7))] [] σ) {v : Nat × Int32 × Int32 × Int32 × Int32 × Int32 × Int32} {σ : Hp} {e : (Nat × Int32 × Int32 × Int32 × Int32 × Int32)} {σ1 : Hp} (h : s_X9_layComing_l82 v σ = some (e, σ1)) (hO : KE e σ1) : G E X 0 0 82 [(0, tR (some ((v.1)))), (1, tI ((v.2.1))), (4, tI ((v.2.2.1))), (5, tI ((v.2.2.2.1))), (6, tI ((v.2.2.2.2.1))), (7, tI ((v.2.2.2.2.2.1))), (8, tI ((v.2.2.2.2.2.2)))] [] σ := loopF_ind (P := fun (v : Nat × Int32 × Int32 × Int32 × Int32 × Int32 × Int32) (σ : Hp) => G E X 0 0 82 [(0, tR (some ((v.1)))), (1, tI ((v.2.1))), (4, tI ((v.2.2.1))), (5, tI ((v.2.2.2.1))), (6, tI ((v.2.2.2.2.1))), (7, tI ((v.2.2.2.2.2.1))), (8, tI ((v.2.2.2.2.2.2)))] [] σ) (KE := KE) (fun v σ x σ1 h hI hO => w_X9_layComing_b82 hE C hxn e_145 (v.1) (v.2.1) (v.2.2.1) (v.2.2.2.1) (v.2.2.2.2.1) (v.2.2.2.2.2.1) (v.2.2.2.2.2.2) σ x σ1 h hI hO) v σ e σ1 h hO
noncomputable def s_X9_layComing_b65 (h0 : Nat) (l1 : Int32) (l4 : Int32) (l5 : Int32) (l6 : Int32) (σ : Hp) : Option (((Nat × Int32 × Int32 × Int32 × Int32) ⊕ ((Nat × Int32 × Int32 × Int32))) × Hp) :=
  (rdR 9 σ h0 3).bind fun r1 =>
  (r1).bind fun a2 =>
  (ldI 11 σ a2 (0)).bind fun v3 =>
  if v3 ≤ l6 then
    some (Sum.inr ((h0), (l1), (l4), (l5)), σ)
  else
    cb (s_X9_layComing_l82 ((h0), (l1), (l4), (l5), (l6), (0), (0)) σ) fun e16 σ15 =>
    match e16 with
    | (h4, l15, l46, l57, l68, l79) =>
      (rdR 9 σ15 h4 43).bind fun r11 =>
      (r11).bind fun a12 =>
      (stZ σ15 a12 ((10 * l57) + l68) (l79)).bind fun σ13 =>
      some (Sum.inl ((h4), (l15), (l46), (l57), (l68 + 1)), σ13)
noncomputable def s_X9_layComing_l65 : (Nat × Int32 × Int32 × Int32 × Int32) → Hp → Option (((Nat × Int32 × Int32 × Int32)) × Hp) := loopF (fun v => s_X9_layComing_b65 (v.1) (v.2.1) (v.2.2.1) (v.2.2.2.1) (v.2.2.2.2))
set_option maxRecDepth 100000 in
theorem w_X9_layComing_b65 {E : E0} (hE : EOK E) {X : X0} (C : XOK E X cX9_layComing RX9 9 none rm_X9_layComing) (hxn : xn X = (rm_X9_layComing.cells, rm_X9_layComing.slots)) {KE : ((Nat × Int32 × Int32 × Int32)) → Hp → Prop} (e_166 : ∀ (h0 : Nat) (l1 : Int32) (l4 : Int32) (l5 : Int32) (σ : Hp), KE ((h0, l1, l4, l5)) σ → G E X 0 0 166 [(0, tR (some (h0))), (1, tI (l1)), (4, tI (l4)), (5, tI (l5))] [] σ) (h0 : Nat) (l1 : Int32) (l4 : Int32) (l5 : Int32) (l6 : Int32) (σ : Hp) (x : (Nat × Int32 × Int32 × Int32 × Int32) ⊕ ((Nat × Int32 × Int32 × Int32))) (σ1 : Hp) (h : s_X9_layComing_b65 h0 l1 l4 l5 l6 σ = some (x, σ1)) (hI : ∀ v, x = Sum.inl v → (fun (v : Nat × Int32 × Int32 × Int32 × Int32) (σ : Hp) => G E X 0 0 65 [(0, tR (some ((v.1)))), (1, tI ((v.2.1))), (4, tI ((v.2.2.1))), (5, tI ((v.2.2.2.1))), (6, tI ((v.2.2.2.2)))] [] σ) v σ1) (hO : ∀ e, x = Sum.inr e → KE e σ1) : G E X 0 0 65 [(0, tR (some (h0))), (1, tI (l1)), (4, tI (l4)), (5, tI (l5)), (6, tI (l6))] [] σ := by
  unfold s_X9_layComing_b65 at h
  refine g_iload (pc := 65) C 4 dX9_layComing_65 rfl ?_
  refine g_aload_n (pc := 67) C 0 0 dX9_layComing_67 rfl rfl ?_
  obtain ⟨r1, hvr1, h⟩ := zbind h
  refine g_getR (N := 58) (pc := 68) C ck_9 hvr1 rfl rfl fl_X9_13 dX9_layComing_68 ?_
  refine g_iconst (v := 0) (pc := 71) C dX9_layComing_71 (by decide) ?_
  obtain ⟨a2, hqa2, h9⟩ := zbind h
  clear h
  subst hqa2
  have h := h9
  clear h9
  obtain ⟨v3, hvv3, h⟩ := zbind h
  refine g_iald (pc := 72) C hvv3 dX9_layComing_72 ?_
  refine g_icmp_ge (pc := 73) C 166 dX9_layComing_73 (by decide) (fun c17 => ?_) (fun c17 => ?_)
  · have h := zif_t c17 h
    refine g_sub [0, 1, 2, 3] (lm' := [(0, tR (some (h0))), (1, tI (l1)), (4, tI (l4)), (5, tI (l5))]) rfl ?_
    obtain ⟨rfl, rfl⟩ := zsome h
    exact e_166 _ _ _ _ _ (hO _ rfl)
  · have h := zif_f c17 h
    refine g_iconst (v := 0) (pc := 76) C dX9_layComing_76 (by decide) ?_
    refine g_istore (lm' := [(7, tI (0)), (0, tR (some (h0))), (1, tI (l1)), (4, tI (l4)), (5, tI (l5)), (6, tI (l6))]) (pc := 77) C dX9_layComing_77 (by decide) rfl ?_
    refine g_iconst (v := 0) (pc := 79) C dX9_layComing_79 (by decide) ?_
    refine g_istore (lm' := [(8, tI (0)), (7, tI (0)), (0, tR (some (h0))), (1, tI (l1)), (4, tI (l4)), (5, tI (l5)), (6, tI (l6))]) (pc := 80) C dX9_layComing_80 (by decide) rfl ?_
    refine g_sub [2, 3, 4, 5, 6, 1, 0] (lm' := [(0, tR (some (h0))), (1, tI (l1)), (4, tI (l4)), (5, tI (l5)), (6, tI (l6)), (7, tI (0)), (8, tI (0))]) rfl ?_
    obtain ⟨KQ, hKQ, e16, σ15, hle16, h⟩ := zcbK h
    refine w_X9_layComing_l82 (KE := KQ) hE C hxn ?_ hle16 h
    · intro h4 l15 l46 l57 l68 l79 σ10 h
      have h := (hKQ _ _).mp h
      refine g_aload_n (pc := 145) C 0 0 dX9_layComing_145 rfl rfl ?_
      obtain ⟨r11, hvr11, h⟩ := zbind h
      refine g_getR (N := 58) (pc := 146) C ck_9 hvr11 rfl rfl fl_X9_116 dX9_layComing_146 ?_
      refine g_bipush (v := 10) (pc := 149) C dX9_layComing_149 (by decide) ?_
      refine g_iload (pc := 151) C 3 dX9_layComing_151 rfl ?_
      refine g_imul (pc := 153) C dX9_layComing_153 ?_
      refine g_iload (pc := 154) C 4 dX9_layComing_154 rfl ?_
      refine g_iadd (pc := 156) C dX9_layComing_156 ?_
      refine g_iload (pc := 157) C 5 dX9_layComing_157 rfl ?_
      obtain ⟨a12, hqa12, h9⟩ := zbind h
      clear h
      subst hqa12
      have h := h9
      clear h9
      obtain ⟨σ13, hvσ13, h⟩ := zbind h
      refine g_zast (pc := 159) C hvσ13 dX9_layComing_159 ?_
      refine g_iinc (lm' := [(6, tI (l68 + 1)), (0, tR (some (h4))), (1, tI (l15)), (4, tI (l46)), (5, tI (l57)), (7, tI (l79))]) (v := l68 + 1) (pc := 160) C 4 dX9_layComing_160 rfl rfl (by decide) rfl ?_
      refine g_goto (pc := 163) C 65 dX9_layComing_163 (by decide) ?_
      refine g_sub [1, 2, 3, 4, 0] (lm' := [(0, tR (some (h4))), (1, tI (l15)), (4, tI (l46)), (5, tI (l57)), (6, tI (l68 + 1))]) rfl ?_
      obtain ⟨rfl, rfl⟩ := zsome h
      exact hI _ rfl
theorem w_X9_layComing_l65 {E : E0} (hE : EOK E) {X : X0} (C : XOK E X cX9_layComing RX9 9 none rm_X9_layComing) (hxn : xn X = (rm_X9_layComing.cells, rm_X9_layComing.slots)) {KE : ((Nat × Int32 × Int32 × Int32)) → Hp → Prop} (e_166 : ∀ (h0 : Nat) (l1 : Int32) (l4 : Int32) (l5 : Int32) (σ : Hp), KE ((h0, l1, l4, l5)) σ → G E X 0 0 166 [(0, tR (some (h0))), (1, tI (l1)), (4, tI (l4)), (5, tI (l5))] [] σ) {v : Nat × Int32 × Int32 × Int32 × Int32} {σ : Hp} {e : (Nat × Int32 × Int32 × Int32)} {σ1 : Hp} (h : s_X9_layComing_l65 v σ = some (e, σ1)) (hO : KE e σ1) : G E X 0 0 65 [(0, tR (some ((v.1)))), (1, tI ((v.2.1))), (4, tI ((v.2.2.1))), (5, tI ((v.2.2.2.1))), (6, tI ((v.2.2.2.2)))] [] σ := loopF_ind (P := fun (v : Nat × Int32 × Int32 × Int32 × Int32) (σ : Hp) => G E X 0 0 65 [(0, tR (some ((v.1)))), (1, tI ((v.2.1))), (4, tI ((v.2.2.1))), (5, tI ((v.2.2.2.1))), (6, tI ((v.2.2.2.2)))] [] σ) (KE := KE) (fun v σ x σ1 h hI hO => w_X9_layComing_b65 hE C hxn e_166 (v.1) (v.2.1) (v.2.2.1) (v.2.2.2.1) (v.2.2.2.2) σ x σ1 h hI hO) v σ e σ1 h hO
noncomputable def s_X9_layComing_b57 (h0 : Nat) (l1 : Int32) (l4 : Int32) (l5 : Int32) (σ : Hp) : Option (((Nat × Int32 × Int32 × Int32) ⊕ (Unit)) × Hp) :=
  if l5 < 0 then
    some (Sum.inr (), σ)
  else
    cb (s_X9_layComing_l65 ((h0), (l1), (l4), (l5), (0)) σ) fun e8 σ7 =>
    match e8 with
    | (h1, l12, l43, l54) =>
      some (Sum.inl ((h1), (l12), (l43), (l54 + (-1))), σ7)
noncomputable def s_X9_layComing_l57 : (Nat × Int32 × Int32 × Int32) → Hp → Option ((Unit) × Hp) := loopF (fun v => s_X9_layComing_b57 (v.1) (v.2.1) (v.2.2.1) (v.2.2.2))
set_option maxRecDepth 100000 in
theorem w_X9_layComing_b57 {E : E0} (hE : EOK E) {X : X0} (C : XOK E X cX9_layComing RX9 9 none rm_X9_layComing) (hxn : xn X = (rm_X9_layComing.cells, rm_X9_layComing.slots)) {KE : (Unit) → Hp → Prop} (e_ret : ∀ (r : Unit) (σ : Hp), KE (r) σ → xd X = (none, σ)) (h0 : Nat) (l1 : Int32) (l4 : Int32) (l5 : Int32) (σ : Hp) (x : (Nat × Int32 × Int32 × Int32) ⊕ (Unit)) (σ1 : Hp) (h : s_X9_layComing_b57 h0 l1 l4 l5 σ = some (x, σ1)) (hI : ∀ v, x = Sum.inl v → (fun (v : Nat × Int32 × Int32 × Int32) (σ : Hp) => G E X 0 0 57 [(0, tR (some ((v.1)))), (1, tI ((v.2.1))), (4, tI ((v.2.2.1))), (5, tI ((v.2.2.2)))] [] σ) v σ1) (hO : ∀ e, x = Sum.inr e → KE e σ1) : G E X 0 0 57 [(0, tR (some (h0))), (1, tI (l1)), (4, tI (l4)), (5, tI (l5))] [] σ := by
  unfold s_X9_layComing_b57 at h
  refine g_iload (pc := 57) C 3 dX9_layComing_57 rfl ?_
  refine g_if_lt (pc := 59) C 172 dX9_layComing_59 (by decide) (fun c9 => ?_) (fun c9 => ?_)
  · have h := zif_t c9 h
    obtain ⟨rfl, rfl⟩ := zsome h
    exact g_vret (pc := 172) C rfl (e_ret _ _ (hO _ rfl)) (by rw [hxn]; rfl) (by rw [hxn]; rfl) dX9_layComing_172
  · have h := zif_f c9 h
    refine g_iconst (v := 0) (pc := 62) C dX9_layComing_62 (by decide) ?_
    refine g_istore (lm' := [(6, tI (0)), (0, tR (some (h0))), (1, tI (l1)), (4, tI (l4)), (5, tI (l5))]) (pc := 63) C dX9_layComing_63 (by decide) rfl ?_
    refine g_sub [1, 2, 3, 4, 0] (lm' := [(0, tR (some (h0))), (1, tI (l1)), (4, tI (l4)), (5, tI (l5)), (6, tI (0))]) rfl ?_
    obtain ⟨KQ, hKQ, e8, σ7, hle8, h⟩ := zcbK h
    refine w_X9_layComing_l65 (KE := KQ) hE C hxn ?_ hle8 h
    · intro h1 l12 l43 l54 σ5 h
      have h := (hKQ _ _).mp h
      refine g_iinc (lm' := [(5, tI (l54 + (-1))), (0, tR (some (h1))), (1, tI (l12)), (4, tI (l43))]) (v := l54 + (-1)) (pc := 166) C 3 dX9_layComing_166 rfl rfl (by decide) rfl ?_
      refine g_goto (pc := 169) C 57 dX9_layComing_169 (by decide) ?_
      refine g_sub [1, 2, 3, 0] (lm' := [(0, tR (some (h1))), (1, tI (l12)), (4, tI (l43)), (5, tI (l54 + (-1)))]) rfl ?_
      obtain ⟨rfl, rfl⟩ := zsome h
      exact hI _ rfl
theorem w_X9_layComing_l57 {E : E0} (hE : EOK E) {X : X0} (C : XOK E X cX9_layComing RX9 9 none rm_X9_layComing) (hxn : xn X = (rm_X9_layComing.cells, rm_X9_layComing.slots)) {KE : (Unit) → Hp → Prop} (e_ret : ∀ (r : Unit) (σ : Hp), KE (r) σ → xd X = (none, σ)) {v : Nat × Int32 × Int32 × Int32} {σ : Hp} {e : Unit} {σ1 : Hp} (h : s_X9_layComing_l57 v σ = some (e, σ1)) (hO : KE e σ1) : G E X 0 0 57 [(0, tR (some ((v.1)))), (1, tI ((v.2.1))), (4, tI ((v.2.2.1))), (5, tI ((v.2.2.2)))] [] σ := loopF_ind (P := fun (v : Nat × Int32 × Int32 × Int32) (σ : Hp) => G E X 0 0 57 [(0, tR (some ((v.1)))), (1, tI ((v.2.1))), (4, tI ((v.2.2.1))), (5, tI ((v.2.2.2)))] [] σ) (KE := KE) (fun v σ x σ1 h hI hO => w_X9_layComing_b57 hE C hxn e_ret (v.1) (v.2.1) (v.2.2.1) (v.2.2.2) σ x σ1 h hI hO) v σ e σ1 h hO
noncomputable def s_X9_layComing (h0 : Nat) (p1 : Int32) (p2 : Int32) (p3 : Int32) (σ : Hp) : Option (Unit × Hp) :=
  (rdR 9 σ h0 3).bind fun r1 =>
  (r1).bind fun a2 =>
  (ldI 11 σ a2 (7)).bind fun v3 =>
  cb (s_X9_layComing_l12 ((h0), (p1), (p2), (p3), (v3), (0)) σ) fun e15 σ14 =>
  match e15 with
  | (h4, l15, l36, l47) =>
    cb (s_X9_layComing_l57 ((h4), (l15), (l47), (l36 - 1)) σ14) fun r10 σ11 =>
    some (r10, σ11)
set_option maxRecDepth 100000 in
theorem c_X9_layComing {E : E0} (hE : EOK E) {h0 : Nat} {p1 : Int32} {p2 : Int32} {p3 : Int32} {σ σ1 : Hp} {r : Unit} (h : s_X9_layComing h0 p1 p2 p3 σ = some (r, σ1)) : CT E yX9_layComing (.code yX9_layComing cX9_layComing 9 none) rm_X9_layComing [tR (some (h0)), tI (p1), tI (p2), tI (p3)] σ none σ1 := by
  refine CT.mk hE (by decide +kernel) (Nat.le_of_ble_eq_true rfl) [(0, tR (some (h0))), (1, tI (p1)), (2, tI (p2)), (3, tI (p3))] rfl (fun X C hin hx hxn => ?_)
  have C : XOK E X cX9_layComing RX9 9 none rm_X9_layComing := C
  unfold s_X9_layComing at h
  refine g_aload_n (pc := 0) C 0 0 dX9_layComing_0 rfl rfl ?_
  obtain ⟨r1, hvr1, h⟩ := zbind h
  refine g_getR (N := 58) (pc := 1) C ck_9 hvr1 rfl rfl fl_X9_13 dX9_layComing_1 ?_
  refine g_bipush (v := 7) (pc := 4) C dX9_layComing_4 (by decide) ?_
  obtain ⟨a2, hqa2, h9⟩ := zbind h
  clear h
  subst hqa2
  have h := h9
  clear h9
  obtain ⟨v3, hvv3, h⟩ := zbind h
  refine g_iald (pc := 6) C hvv3 dX9_layComing_6 ?_
  refine g_istore (lm' := [(4, tI (v3)), (0, tR (some (h0))), (1, tI (p1)), (2, tI (p2)), (3, tI (p3))]) (pc := 7) C dX9_layComing_7 (by decide) rfl ?_
  refine g_iconst (v := 0) (pc := 9) C dX9_layComing_9 (by decide) ?_
  refine g_istore (lm' := [(5, tI (0)), (4, tI (v3)), (0, tR (some (h0))), (1, tI (p1)), (2, tI (p2)), (3, tI (p3))]) (pc := 10) C dX9_layComing_10 (by decide) rfl ?_
  refine g_sub [2, 3, 4, 5, 1, 0] (lm' := [(0, tR (some (h0))), (1, tI (p1)), (2, tI (p2)), (3, tI (p3)), (4, tI (v3)), (5, tI (0))]) rfl ?_
  obtain ⟨KQ, hKQ, e15, σ14, hle15, h⟩ := zcbK h
  refine w_X9_layComing_l12 (KE := KQ) hE C hxn ?_ hle15 h
  · intro h4 l15 l36 l47 σ8 h
    have h := (hKQ _ _).mp h
    refine g_iload_n (pc := 52) C 3 2 dX9_layComing_52 rfl rfl ?_
    refine g_iconst (v := 1) (pc := 53) C dX9_layComing_53 (by decide) ?_
    refine g_isub (pc := 54) C dX9_layComing_54 ?_
    refine g_istore (lm' := [(5, tI (l36 - 1)), (0, tR (some (h4))), (1, tI (l15)), (3, tI (l36)), (4, tI (l47))]) (pc := 55) C dX9_layComing_55 (by decide) rfl ?_
    refine g_sub [1, 2, 4, 0] (lm' := [(0, tR (some (h4))), (1, tI (l15)), (4, tI (l47)), (5, tI (l36 - 1))]) rfl ?_
    obtain ⟨KQ, hKQ, r10, σ11, hlr10, h⟩ := zcbK h
    refine w_X9_layComing_l57 (KE := KQ) hE C hxn ?_ hlr10 h
    · intro r10 σ9 h
      have h := (hKQ _ _).mp h
      obtain ⟨rfl, rfl⟩ := zsome h
      exact hx
def rm_X9_soonest : Room := { frames := 9, cells := 0, slots := 0, locals := 221 }
noncomputable def s_X9_soonest_j128 (h0 : Nat) (l1 : Int32) (l3 : Int32) (l5 : Int32) (l6 : Int32) (l7 : Int32) (σ : Hp) : Option (((Nat × Int32 × Int32 × Int32 × Int32 × Int32) ⊕ ((Nat × Int32 × Int32 × Int32 × Int32))) × Hp) :=
  some (Sum.inl ((h0), (l1), (l3), (l5), (l6), (l7 + 1)), σ)
set_option maxRecDepth 100000 in
theorem w_X9_soonest_j128 {E : E0} (hE : EOK E) {X : X0} (C : XOK E X cX9_soonest RX9 8 (some .int) rm_X9_soonest) (hxn : xn X = (rm_X9_soonest.cells, rm_X9_soonest.slots)) {KE : ((Nat × Int32 × Int32 × Int32 × Int32)) → Hp → Prop} (e_134 : ∀ (h0 : Nat) (l1 : Int32) (l3 : Int32) (l6 : Int32) (l7 : Int32) (σ : Hp), KE ((h0, l1, l3, l6, l7)) σ → G E X 0 0 134 [(0, tR (some (h0))), (1, tI (l1)), (3, tI (l3)), (6, tI (l6)), (7, tI (l7))] [] σ) (h0 : Nat) (l1 : Int32) (l3 : Int32) (l5 : Int32) (l6 : Int32) (l7 : Int32) (σ : Hp) (x : (Nat × Int32 × Int32 × Int32 × Int32 × Int32) ⊕ ((Nat × Int32 × Int32 × Int32 × Int32))) (σ1 : Hp) (h : s_X9_soonest_j128 h0 l1 l3 l5 l6 l7 σ = some (x, σ1)) (hI : ∀ v, x = Sum.inl v → (fun (v : Nat × Int32 × Int32 × Int32 × Int32 × Int32) (σ : Hp) => G E X 0 0 89 [(0, tR (some ((v.1)))), (1, tI ((v.2.1))), (3, tI ((v.2.2.1))), (5, tI ((v.2.2.2.1))), (6, tI ((v.2.2.2.2.1))), (7, tI ((v.2.2.2.2.2)))] [] σ) v σ1) (hO : ∀ e, x = Sum.inr e → KE e σ1) : G E X 0 0 128 [(0, tR (some (h0))), (1, tI (l1)), (3, tI (l3)), (5, tI (l5)), (6, tI (l6)), (7, tI (l7))] [] σ := by
  unfold s_X9_soonest_j128 at h
  refine g_iinc (lm' := [(7, tI (l7 + 1)), (0, tR (some (h0))), (1, tI (l1)), (3, tI (l3)), (5, tI (l5)), (6, tI (l6))]) (v := l7 + 1) (pc := 128) C 5 dX9_soonest_128 rfl rfl (by decide) rfl ?_
  refine g_goto (pc := 131) C 89 dX9_soonest_131 (by decide) ?_
  refine g_sub [1, 2, 3, 4, 5, 0] (lm' := [(0, tR (some (h0))), (1, tI (l1)), (3, tI (l3)), (5, tI (l5)), (6, tI (l6)), (7, tI (l7 + 1))]) rfl ?_
  obtain ⟨rfl, rfl⟩ := zsome h
  exact hI _ rfl
noncomputable def s_X9_soonest_b89 (h0 : Nat) (l1 : Int32) (l3 : Int32) (l5 : Int32) (l6 : Int32) (l7 : Int32) (σ : Hp) : Option (((Nat × Int32 × Int32 × Int32 × Int32 × Int32) ⊕ ((Nat × Int32 × Int32 × Int32 × Int32))) × Hp) :=
  (rdR 9 σ h0 43).bind fun r1 =>
  (r1).bind fun a2 =>
  (ldI 13 σ a2 ((10 * (l6 + 1)) + l7)).bind fun v3 =>
  if v3 = 0 then
    s_X9_soonest_j128 (h0) (l1) (l3) (l5) (l6) (l7) σ
  else
    (rdR 9 σ h0 3).bind fun r4 =>
    (r4).bind fun a5 =>
    (ldI 11 σ a5 (7)).bind fun v6 =>
    (ck 9 σ h0).bind fun u7 =>
    cb (s_X9_goesOn h0 (l1) (v6) (l6) (l5) (l7) σ) fun v9 σ8 =>
    if v9 = 0 then
      s_X9_soonest_j128 (h0) (l1) (l3) (l5) (l6) (l7) σ8
    else
      some (Sum.inr ((h0), (l1), (l3), (l6), (l7)), σ8)
noncomputable def s_X9_soonest_l89 : (Nat × Int32 × Int32 × Int32 × Int32 × Int32) → Hp → Option (((Nat × Int32 × Int32 × Int32 × Int32)) × Hp) := loopF (fun v => s_X9_soonest_b89 (v.1) (v.2.1) (v.2.2.1) (v.2.2.2.1) (v.2.2.2.2.1) (v.2.2.2.2.2))
set_option maxRecDepth 100000 in
theorem w_X9_soonest_b89 {E : E0} (hE : EOK E) {X : X0} (C : XOK E X cX9_soonest RX9 8 (some .int) rm_X9_soonest) (hxn : xn X = (rm_X9_soonest.cells, rm_X9_soonest.slots)) {KE : ((Nat × Int32 × Int32 × Int32 × Int32)) → Hp → Prop} (e_134 : ∀ (h0 : Nat) (l1 : Int32) (l3 : Int32) (l6 : Int32) (l7 : Int32) (σ : Hp), KE ((h0, l1, l3, l6, l7)) σ → G E X 0 0 134 [(0, tR (some (h0))), (1, tI (l1)), (3, tI (l3)), (6, tI (l6)), (7, tI (l7))] [] σ) (h0 : Nat) (l1 : Int32) (l3 : Int32) (l5 : Int32) (l6 : Int32) (l7 : Int32) (σ : Hp) (x : (Nat × Int32 × Int32 × Int32 × Int32 × Int32) ⊕ ((Nat × Int32 × Int32 × Int32 × Int32))) (σ1 : Hp) (h : s_X9_soonest_b89 h0 l1 l3 l5 l6 l7 σ = some (x, σ1)) (hI : ∀ v, x = Sum.inl v → (fun (v : Nat × Int32 × Int32 × Int32 × Int32 × Int32) (σ : Hp) => G E X 0 0 89 [(0, tR (some ((v.1)))), (1, tI ((v.2.1))), (3, tI ((v.2.2.1))), (5, tI ((v.2.2.2.1))), (6, tI ((v.2.2.2.2.1))), (7, tI ((v.2.2.2.2.2)))] [] σ) v σ1) (hO : ∀ e, x = Sum.inr e → KE e σ1) : G E X 0 0 89 [(0, tR (some (h0))), (1, tI (l1)), (3, tI (l3)), (5, tI (l5)), (6, tI (l6)), (7, tI (l7))] [] σ := by
  unfold s_X9_soonest_b89 at h
  refine g_aload_n (pc := 89) C 0 0 dX9_soonest_89 rfl rfl ?_
  obtain ⟨r1, hvr1, h⟩ := zbind h
  refine g_getR (N := 58) (pc := 90) C ck_9 hvr1 rfl rfl fl_X9_116 dX9_soonest_90 ?_
  refine g_bipush (v := 10) (pc := 93) C dX9_soonest_93 (by decide) ?_
  refine g_iload (pc := 95) C 4 dX9_soonest_95 rfl ?_
  refine g_iconst (v := 1) (pc := 97) C dX9_soonest_97 (by decide) ?_
  refine g_iadd (pc := 98) C dX9_soonest_98 ?_
  refine g_imul (pc := 99) C dX9_soonest_99 ?_
  refine g_iload (pc := 100) C 5 dX9_soonest_100 rfl ?_
  refine g_iadd (pc := 102) C dX9_soonest_102 ?_
  obtain ⟨a2, hqa2, h9⟩ := zbind h
  clear h
  subst hqa2
  have h := h9
  clear h9
  obtain ⟨v3, hvv3, h⟩ := zbind h
  refine g_zald (pc := 103) C hvv3 dX9_soonest_103 ?_
  refine g_if_eq (pc := 104) C 128 dX9_soonest_104 (by decide) (fun c11 => ?_) (fun c11 => ?_)
  · have h := zif_t c11 h
    exact w_X9_soonest_j128 hE C hxn e_134 _ _ _ _ _ _ _ _ _ h hI hO
  · have h := zif_f c11 h
    refine g_aload_n (pc := 107) C 0 0 dX9_soonest_107 rfl rfl ?_
    refine g_iload_n (pc := 108) C 1 1 dX9_soonest_108 rfl rfl ?_
    refine g_aload_n (pc := 109) C 0 0 dX9_soonest_109 rfl rfl ?_
    obtain ⟨r4, hvr4, h⟩ := zbind h
    refine g_getR (N := 58) (pc := 110) C ck_9 hvr4 rfl rfl fl_X9_13 dX9_soonest_110 ?_
    refine g_bipush (v := 7) (pc := 113) C dX9_soonest_113 (by decide) ?_
    obtain ⟨a5, hqa5, h9⟩ := zbind h
    clear h
    subst hqa5
    have h := h9
    clear h9
    obtain ⟨v6, hvv6, h⟩ := zbind h
    refine g_iald (pc := 115) C hvv6 dX9_soonest_115 ?_
    refine g_iload (pc := 116) C 4 dX9_soonest_116 rfl ?_
    refine g_iload (pc := 118) C 3 dX9_soonest_118 rfl ?_
    refine g_iload (pc := 120) C 5 dX9_soonest_120 rfl ?_
    obtain ⟨u7, hvu7, h⟩ := zbind h
    obtain ⟨v9, σ8, hvσ8, h⟩ := zcb h
    refine g_callV (pc := 122) (av := [tI (l1), tI (v6), tI (l6), tI (l5), tI (l7)]) C (c_X9_goesOn hE hvσ8) yv_X9_goesOn ml_X9_463 ck_9 (zopt hvu7).1 rfl (rf_of (by decide)) rfl (Nat.le_of_ble_eq_true rfl) dX9_soonest_122 ?_
    refine g_if_ne (pc := 125) C 134 dX9_soonest_125 (by decide) (fun c10 => ?_) (fun c10 => ?_)
    · have h := zif_f c10 h
      refine g_sub [0, 1, 2, 4, 5] (lm' := [(0, tR (some (h0))), (1, tI (l1)), (3, tI (l3)), (6, tI (l6)), (7, tI (l7))]) rfl ?_
      obtain ⟨rfl, rfl⟩ := zsome h
      exact e_134 _ _ _ _ _ _ (hO _ rfl)
    · have h := zif_t c10 h
      exact w_X9_soonest_j128 hE C hxn e_134 _ _ _ _ _ _ _ _ _ h hI hO
theorem w_X9_soonest_l89 {E : E0} (hE : EOK E) {X : X0} (C : XOK E X cX9_soonest RX9 8 (some .int) rm_X9_soonest) (hxn : xn X = (rm_X9_soonest.cells, rm_X9_soonest.slots)) {KE : ((Nat × Int32 × Int32 × Int32 × Int32)) → Hp → Prop} (e_134 : ∀ (h0 : Nat) (l1 : Int32) (l3 : Int32) (l6 : Int32) (l7 : Int32) (σ : Hp), KE ((h0, l1, l3, l6, l7)) σ → G E X 0 0 134 [(0, tR (some (h0))), (1, tI (l1)), (3, tI (l3)), (6, tI (l6)), (7, tI (l7))] [] σ) {v : Nat × Int32 × Int32 × Int32 × Int32 × Int32} {σ : Hp} {e : (Nat × Int32 × Int32 × Int32 × Int32)} {σ1 : Hp} (h : s_X9_soonest_l89 v σ = some (e, σ1)) (hO : KE e σ1) : G E X 0 0 89 [(0, tR (some ((v.1)))), (1, tI ((v.2.1))), (3, tI ((v.2.2.1))), (5, tI ((v.2.2.2.1))), (6, tI ((v.2.2.2.2.1))), (7, tI ((v.2.2.2.2.2)))] [] σ := loopF_ind (P := fun (v : Nat × Int32 × Int32 × Int32 × Int32 × Int32) (σ : Hp) => G E X 0 0 89 [(0, tR (some ((v.1)))), (1, tI ((v.2.1))), (3, tI ((v.2.2.1))), (5, tI ((v.2.2.2.1))), (6, tI ((v.2.2.2.2.1))), (7, tI ((v.2.2.2.2.2)))] [] σ) (KE := KE) (fun v σ x σ1 h hI hO => w_X9_soonest_b89 hE C hxn e_134 (v.1) (v.2.1) (v.2.2.1) (v.2.2.2.1) (v.2.2.2.2.1) (v.2.2.2.2.2) σ x σ1 h hI hO) v σ e σ1 h hO
noncomputable def s_X9_soonest_b80 (h0 : Nat) (l1 : Int32) (l3 : Int32) (l5 : Int32) (l6 : Int32) (σ : Hp) : Option (((Nat × Int32 × Int32 × Int32 × Int32) ⊕ (Int32)) × Hp) :=
  if l3 < l6 then
    some (Sum.inr (l5), σ)
  else
    cb (s_X9_soonest_l89 ((h0), (l1), (l3), (l5), (l6), (0)) σ) fun e9 σ8 =>
    match e9 with
    | (h1, l12, l33, l64, l75) =>
      some (Sum.inl ((h1), (l12), (l33), (l75), (l64 + 1)), σ8)
noncomputable def s_X9_soonest_l80 : (Nat × Int32 × Int32 × Int32 × Int32) → Hp → Option ((Int32) × Hp) := loopF (fun v => s_X9_soonest_b80 (v.1) (v.2.1) (v.2.2.1) (v.2.2.2.1) (v.2.2.2.2))
set_option maxRecDepth 100000 in
theorem w_X9_soonest_b80 {E : E0} (hE : EOK E) {X : X0} (C : XOK E X cX9_soonest RX9 8 (some .int) rm_X9_soonest) (hxn : xn X = (rm_X9_soonest.cells, rm_X9_soonest.slots)) {KE : (Int32) → Hp → Prop} (e_ret : ∀ (r : Int32) (σ : Hp), KE (r) σ → xd X = (some (tI r), σ)) (h0 : Nat) (l1 : Int32) (l3 : Int32) (l5 : Int32) (l6 : Int32) (σ : Hp) (x : (Nat × Int32 × Int32 × Int32 × Int32) ⊕ (Int32)) (σ1 : Hp) (h : s_X9_soonest_b80 h0 l1 l3 l5 l6 σ = some (x, σ1)) (hI : ∀ v, x = Sum.inl v → (fun (v : Nat × Int32 × Int32 × Int32 × Int32) (σ : Hp) => G E X 0 0 80 [(0, tR (some ((v.1)))), (1, tI ((v.2.1))), (3, tI ((v.2.2.1))), (5, tI ((v.2.2.2.1))), (6, tI ((v.2.2.2.2)))] [] σ) v σ1) (hO : ∀ e, x = Sum.inr e → KE e σ1) : G E X 0 0 80 [(0, tR (some (h0))), (1, tI (l1)), (3, tI (l3)), (5, tI (l5)), (6, tI (l6))] [] σ := by
  unfold s_X9_soonest_b80 at h
  refine g_iload (pc := 80) C 4 dX9_soonest_80 rfl ?_
  refine g_iload_n (pc := 82) C 3 2 dX9_soonest_82 rfl rfl ?_
  refine g_icmp_gt (pc := 83) C 144 dX9_soonest_83 (by decide) (fun c10 => ?_) (fun c10 => ?_)
  · have h := zif_t c10 h
    refine g_iload (pc := 144) C 3 dX9_soonest_144 rfl ?_
    obtain ⟨rfl, rfl⟩ := zsome h
    exact g_iret (pc := 146) C rfl (e_ret _ _ (hO _ rfl)) (by rw [hxn]; rfl) (by rw [hxn]; rfl) dX9_soonest_146
  · have h := zif_f c10 h
    refine g_iconst (v := 0) (pc := 86) C dX9_soonest_86 (by decide) ?_
    refine g_istore (lm' := [(7, tI (0)), (0, tR (some (h0))), (1, tI (l1)), (3, tI (l3)), (5, tI (l5)), (6, tI (l6))]) (pc := 87) C dX9_soonest_87 (by decide) rfl ?_
    refine g_sub [1, 2, 3, 4, 5, 0] (lm' := [(0, tR (some (h0))), (1, tI (l1)), (3, tI (l3)), (5, tI (l5)), (6, tI (l6)), (7, tI (0))]) rfl ?_
    obtain ⟨KQ, hKQ, e9, σ8, hle9, h⟩ := zcbK h
    refine w_X9_soonest_l89 (KE := KQ) hE C hxn ?_ hle9 h
    · intro h1 l12 l33 l64 l75 σ6 h
      have h := (hKQ _ _).mp h
      refine g_iload (pc := 134) C 4 dX9_soonest_134 rfl ?_
      refine g_istore (lm' := [(5, tI (l75)), (0, tR (some (h1))), (1, tI (l12)), (3, tI (l33)), (6, tI (l64)), (7, tI (l75))]) (pc := 136) C dX9_soonest_136 (by decide) rfl ?_
      refine g_iinc (lm' := [(6, tI (l64 + 1)), (5, tI (l75)), (0, tR (some (h1))), (1, tI (l12)), (3, tI (l33)), (7, tI (l75))]) (v := l64 + 1) (pc := 138) C 4 dX9_soonest_138 rfl rfl (by decide) rfl ?_
      refine g_goto (pc := 141) C 80 dX9_soonest_141 (by decide) ?_
      refine g_sub [2, 3, 4, 1, 0] (lm' := [(0, tR (some (h1))), (1, tI (l12)), (3, tI (l33)), (5, tI (l75)), (6, tI (l64 + 1))]) rfl ?_
      obtain ⟨rfl, rfl⟩ := zsome h
      exact hI _ rfl
theorem w_X9_soonest_l80 {E : E0} (hE : EOK E) {X : X0} (C : XOK E X cX9_soonest RX9 8 (some .int) rm_X9_soonest) (hxn : xn X = (rm_X9_soonest.cells, rm_X9_soonest.slots)) {KE : (Int32) → Hp → Prop} (e_ret : ∀ (r : Int32) (σ : Hp), KE (r) σ → xd X = (some (tI r), σ)) {v : Nat × Int32 × Int32 × Int32 × Int32} {σ : Hp} {e : Int32} {σ1 : Hp} (h : s_X9_soonest_l80 v σ = some (e, σ1)) (hO : KE e σ1) : G E X 0 0 80 [(0, tR (some ((v.1)))), (1, tI ((v.2.1))), (3, tI ((v.2.2.1))), (5, tI ((v.2.2.2.1))), (6, tI ((v.2.2.2.2)))] [] σ := loopF_ind (P := fun (v : Nat × Int32 × Int32 × Int32 × Int32) (σ : Hp) => G E X 0 0 80 [(0, tR (some ((v.1)))), (1, tI ((v.2.1))), (3, tI ((v.2.2.1))), (5, tI ((v.2.2.2.1))), (6, tI ((v.2.2.2.2)))] [] σ) (KE := KE) (fun v σ x σ1 h hI hO => w_X9_soonest_b80 hE C hxn e_ret (v.1) (v.2.1) (v.2.2.1) (v.2.2.2.1) (v.2.2.2.2) σ x σ1 h hI hO) v σ e σ1 h hO
noncomputable def s_X9_soonest (h0 : Nat) (p1 : Int32) (p2 : Int32) (p3 : Int32) (σ : Hp) : Option (Int32 × Hp) :=
  (wrI 9 σ h0 0 (0)).bind fun σ1 =>
  (ck 9 σ1 h0).bind fun u2 =>
  cb (s_X9_isFolk h0 (p1) σ1) fun v4 σ3 =>
  if v4 = 0 then
    some (((-1)), σ3)
  else
    (ck 9 σ3 h0).bind fun u5 =>
    cb (s_X9_isPerch h0 (p2) σ3) fun v7 σ6 =>
    if v7 = 0 then
      some (((-1)), σ6)
    else
      if (-1) ≤ p3 then
        (ck 9 σ6 h0).bind fun u8 =>
        cb (s_X9_laySoonest h0 (p1) (p2) σ6) fun v10 σ9 =>
        if v10 = (-1) then
          some (((-1)), σ9)
        else
          if p3 < v10 then
            if p3 = (-1) then
              some ((v10), σ9)
            else
              (ck 9 σ9 h0).bind fun u11 =>
              cb (s_X9_layComing h0 (p1) (p2) (v10) σ9) fun v13 σ12 =>
              (rdR 9 σ12 h0 3).bind fun r14 =>
              (r14).bind fun a15 =>
              (ldI 11 σ12 a15 (17 + p1)).bind fun v16 =>
              cb (s_X9_soonest_l80 ((h0), (p1), (p3), (v16), (0)) σ12) fun r18 σ19 =>
              some (r18, σ19)
          else
            some (((-1)), σ9)
      else
        some (((-1)), σ6)
set_option maxRecDepth 100000 in
theorem c_X9_soonest {E : E0} (hE : EOK E) {h0 : Nat} {p1 : Int32} {p2 : Int32} {p3 : Int32} {σ σ1 : Hp} {r : Int32} (h : s_X9_soonest h0 p1 p2 p3 σ = some (r, σ1)) : CT E yX9_soonest (.code yX9_soonest cX9_soonest 8 (some .int)) rm_X9_soonest [tR (some (h0)), tI (p1), tI (p2), tI (p3)] σ (some (tI r)) σ1 := by
  refine CT.mk hE (by decide +kernel) (Nat.le_of_ble_eq_true rfl) [(0, tR (some (h0))), (1, tI (p1)), (2, tI (p2)), (3, tI (p3))] rfl (fun X C hin hx hxn => ?_)
  have C : XOK E X cX9_soonest RX9 8 (some .int) rm_X9_soonest := C
  unfold s_X9_soonest at h
  refine g_aload_n (pc := 0) C 0 0 dX9_soonest_0 rfl rfl ?_
  refine g_iconst (v := 0) (pc := 1) C dX9_soonest_1 (by decide) ?_
  obtain ⟨σ1, hvσ1, h⟩ := zbind h
  refine g_putI (N := 58) (pc := 2) C ⟨ck_9, rfl, tyX9_ok⟩ hvσ1 rfl fl_X9_161 rfl rfl dX9_soonest_2 ?_
  refine g_aload_n (pc := 5) C 0 0 dX9_soonest_5 rfl rfl ?_
  refine g_iload_n (pc := 6) C 1 1 dX9_soonest_6 rfl rfl ?_
  obtain ⟨u2, hvu2, h⟩ := zbind h
  obtain ⟨v4, σ3, hvσ3, h⟩ := zcb h
  refine g_callV (pc := 7) (av := [tI (p1)]) C (c_X9_isFolk hE hvσ3) yv_X9_isFolk ml_X9_209 ck_9 (zopt hvu2).1 rfl (rf_of (by decide)) rfl (Nat.le_of_ble_eq_true rfl) dX9_soonest_7 ?_
  refine g_if_eq (pc := 10) C 26 dX9_soonest_10 (by decide) (fun c26 => ?_) (fun c26 => ?_)
  · have h := zif_t c26 h
    refine g_iconst (v := (-1)) (pc := 26) C dX9_soonest_26 (by decide) ?_
    obtain ⟨rfl, rfl⟩ := zsome h
    exact g_iret (pc := 27) C rfl hx (by rw [hxn]; rfl) (by rw [hxn]; rfl) dX9_soonest_27
  · have h := zif_f c26 h
    refine g_aload_n (pc := 13) C 0 0 dX9_soonest_13 rfl rfl ?_
    refine g_iload_n (pc := 14) C 2 2 dX9_soonest_14 rfl rfl ?_
    obtain ⟨u5, hvu5, h⟩ := zbind h
    obtain ⟨v7, σ6, hvσ6, h⟩ := zcb h
    refine g_callV (pc := 15) (av := [tI (p2)]) C (c_X9_isPerch hE hvσ6) yv_X9_isPerch ml_X9_196 ck_9 (zopt hvu5).1 rfl (rf_of (by decide)) rfl (Nat.le_of_ble_eq_true rfl) dX9_soonest_15 ?_
    refine g_if_eq (pc := 18) C 26 dX9_soonest_18 (by decide) (fun c25 => ?_) (fun c25 => ?_)
    · have h := zif_t c25 h
      refine g_iconst (v := (-1)) (pc := 26) C dX9_soonest_26 (by decide) ?_
      obtain ⟨rfl, rfl⟩ := zsome h
      exact g_iret (pc := 27) C rfl hx (by rw [hxn]; rfl) (by rw [hxn]; rfl) dX9_soonest_27
    · have h := zif_f c25 h
      refine g_iload_n (pc := 21) C 3 3 dX9_soonest_21 rfl rfl ?_
      refine g_iconst (v := (-1)) (pc := 22) C dX9_soonest_22 (by decide) ?_
      refine g_icmp_ge (pc := 23) C 28 dX9_soonest_23 (by decide) (fun c24 => ?_) (fun c24 => ?_)
      · have h := zif_t c24 h
        refine g_aload_n (pc := 28) C 0 0 dX9_soonest_28 rfl rfl ?_
        refine g_iload_n (pc := 29) C 1 1 dX9_soonest_29 rfl rfl ?_
        refine g_iload_n (pc := 30) C 2 2 dX9_soonest_30 rfl rfl ?_
        obtain ⟨u8, hvu8, h⟩ := zbind h
        obtain ⟨v10, σ9, hvσ9, h⟩ := zcb h
        refine g_callV (pc := 31) (av := [tI (p1), tI (p2)]) C (c_X9_laySoonest hE hvσ9) yv_X9_laySoonest ml_X9_467 ck_9 (zopt hvu8).1 rfl (rf_of (by decide)) rfl (Nat.le_of_ble_eq_true rfl) dX9_soonest_31 ?_
        refine g_istore (lm' := [(4, tI (v10)), (0, tR (some (h0))), (1, tI (p1)), (2, tI (p2)), (3, tI (p3))]) (pc := 34) C dX9_soonest_34 (by decide) rfl ?_
        refine g_iload (pc := 36) C 0 dX9_soonest_36 rfl ?_
        refine g_iconst (v := (-1)) (pc := 38) C dX9_soonest_38 (by decide) ?_
        refine g_icmp_eq (pc := 39) C 48 dX9_soonest_39 (by decide) (fun c23 => ?_) (fun c23 => ?_)
        · have h := zif_t c23 h
          refine g_iconst (v := (-1)) (pc := 48) C dX9_soonest_48 (by decide) ?_
          obtain ⟨rfl, rfl⟩ := zsome h
          exact g_iret (pc := 49) C rfl hx (by rw [hxn]; rfl) (by rw [hxn]; rfl) dX9_soonest_49
        · have h := zif_f c23 h
          refine g_iload_n (pc := 42) C 3 4 dX9_soonest_42 rfl rfl ?_
          refine g_iload (pc := 43) C 0 dX9_soonest_43 rfl ?_
          refine g_icmp_lt (pc := 45) C 50 dX9_soonest_45 (by decide) (fun c22 => ?_) (fun c22 => ?_)
          · have h := zif_t c22 h
            refine g_iload_n (pc := 50) C 3 4 dX9_soonest_50 rfl rfl ?_
            refine g_iconst (v := (-1)) (pc := 51) C dX9_soonest_51 (by decide) ?_
            refine g_icmp_ne (pc := 52) C 58 dX9_soonest_52 (by decide) (fun c21 => ?_) (fun c21 => ?_)
            · have h := zif_f c21 h
              refine g_aload_n (pc := 58) C 0 1 dX9_soonest_58 rfl rfl ?_
              refine g_iload_n (pc := 59) C 1 2 dX9_soonest_59 rfl rfl ?_
              refine g_iload_n (pc := 60) C 2 3 dX9_soonest_60 rfl rfl ?_
              refine g_iload (pc := 61) C 0 dX9_soonest_61 rfl ?_
              obtain ⟨u11, hvu11, h⟩ := zbind h
              obtain ⟨v13, σ12, hvσ12, h⟩ := zcb h
              refine g_callV (pc := 63) (av := [tI (p1), tI (p2), tI (v10)]) C (c_X9_layComing hE hvσ12) yv_X9_layComing ml_X9_470 ck_9 (zopt hvu11).1 rfl (rf_of (by decide)) rfl (Nat.le_of_ble_eq_true rfl) dX9_soonest_63 ?_
              refine g_aload_n (pc := 66) C 0 1 dX9_soonest_66 rfl rfl ?_
              obtain ⟨r14, hvr14, h⟩ := zbind h
              refine g_getR (N := 58) (pc := 67) C ck_9 hvr14 rfl rfl fl_X9_13 dX9_soonest_67 ?_
              refine g_bipush (v := 17) (pc := 70) C dX9_soonest_70 (by decide) ?_
              refine g_iload_n (pc := 72) C 1 2 dX9_soonest_72 rfl rfl ?_
              refine g_iadd (pc := 73) C dX9_soonest_73 ?_
              obtain ⟨a15, hqa15, h9⟩ := zbind h
              clear h
              subst hqa15
              have h := h9
              clear h9
              obtain ⟨v16, hvv16, h⟩ := zbind h
              refine g_iald (pc := 74) C hvv16 dX9_soonest_74 ?_
              refine g_istore (lm' := [(5, tI (v16)), (4, tI (v10)), (0, tR (some (h0))), (1, tI (p1)), (2, tI (p2)), (3, tI (p3))]) (pc := 75) C dX9_soonest_75 (by decide) rfl ?_
              refine g_iconst (v := 0) (pc := 77) C dX9_soonest_77 (by decide) ?_
              refine g_istore (lm' := [(6, tI (0)), (5, tI (v16)), (4, tI (v10)), (0, tR (some (h0))), (1, tI (p1)), (2, tI (p2)), (3, tI (p3))]) (pc := 78) C dX9_soonest_78 (by decide) rfl ?_
              refine g_sub [3, 4, 6, 1, 0] (lm' := [(0, tR (some (h0))), (1, tI (p1)), (3, tI (p3)), (5, tI (v16)), (6, tI (0))]) rfl ?_
              obtain ⟨KQ, hKQ, r18, σ19, hlr18, h⟩ := zcbK h
              refine w_X9_soonest_l80 (KE := KQ) hE C hxn ?_ hlr18 h
              · intro r18 σ17 h
                have h := (hKQ _ _).mp h
                obtain ⟨rfl, rfl⟩ := zsome h
                exact hx
            · have h := zif_t c21 h
              refine g_iload (pc := 55) C 0 dX9_soonest_55 rfl ?_
              obtain ⟨rfl, rfl⟩ := zsome h
              exact g_iret (pc := 57) C rfl hx (by rw [hxn]; rfl) (by rw [hxn]; rfl) dX9_soonest_57
          · have h := zif_f c22 h
            refine g_iconst (v := (-1)) (pc := 48) C dX9_soonest_48 (by decide) ?_
            obtain ⟨rfl, rfl⟩ := zsome h
            exact g_iret (pc := 49) C rfl hx (by rw [hxn]; rfl) (by rw [hxn]; rfl) dX9_soonest_49
      · have h := zif_f c24 h
        refine g_iconst (v := (-1)) (pc := 26) C dX9_soonest_26 (by decide) ?_
        obtain ⟨rfl, rfl⟩ := zsome h
        exact g_iret (pc := 27) C rfl hx (by rw [hxn]; rfl) (by rw [hxn]; rfl) dX9_soonest_27
def rm_X9_nearBy : Room := { frames := 1, cells := 0, slots := 0, locals := 21 }
noncomputable def s_X9_nearBy_j99 (h0 : Nat) (l2 : Int32) (l3 : Int32) (l4 : Int32) (l5 : Int32) (l7 : Int32) (l8 : Int32) (t0 : Int32) (t1 : Int32) (σ : Hp) : Option (((Nat × Int32 × Int32 × Int32 × Int32 × Int32 × Int32 × Int32) ⊕ ((Nat × Int32 × Int32 × Int32 × Int32 × Int32 × Int32))) × Hp) :=
  some (Sum.inl ((h0), (l2), (l3), (l4), (l5), (t0 ||| t1), (l7), (l8 + 1)), σ)
set_option maxRecDepth 100000 in
theorem w_X9_nearBy_j99 {E : E0} (hE : EOK E) {X : X0} (C : XOK E X cX9_nearBy RX9 9 (some .int) rm_X9_nearBy) (hxn : xn X = (rm_X9_nearBy.cells, rm_X9_nearBy.slots)) {KE : ((Nat × Int32 × Int32 × Int32 × Int32 × Int32 × Int32)) → Hp → Prop} (e_108 : ∀ (h0 : Nat) (l2 : Int32) (l3 : Int32) (l4 : Int32) (l5 : Int32) (l6 : Int32) (l7 : Int32) (σ : Hp), KE ((h0, l2, l3, l4, l5, l6, l7)) σ → G E X 0 0 108 [(0, tR (some (h0))), (2, tI (l2)), (3, tI (l3)), (4, tI (l4)), (5, tI (l5)), (6, tI (l6)), (7, tI (l7))] [] σ) (h0 : Nat) (l2 : Int32) (l3 : Int32) (l4 : Int32) (l5 : Int32) (l7 : Int32) (l8 : Int32) (t0 : Int32) (t1 : Int32) (σ : Hp) (x : (Nat × Int32 × Int32 × Int32 × Int32 × Int32 × Int32 × Int32) ⊕ ((Nat × Int32 × Int32 × Int32 × Int32 × Int32 × Int32))) (σ1 : Hp) (h : s_X9_nearBy_j99 h0 l2 l3 l4 l5 l7 l8 t0 t1 σ = some (x, σ1)) (hI : ∀ v, x = Sum.inl v → (fun (v : Nat × Int32 × Int32 × Int32 × Int32 × Int32 × Int32 × Int32) (σ : Hp) => G E X 0 0 43 [(0, tR (some ((v.1)))), (2, tI ((v.2.1))), (3, tI ((v.2.2.1))), (4, tI ((v.2.2.2.1))), (5, tI ((v.2.2.2.2.1))), (6, tI ((v.2.2.2.2.2.1))), (7, tI ((v.2.2.2.2.2.2.1))), (8, tI ((v.2.2.2.2.2.2.2)))] [] σ) v σ1) (hO : ∀ e, x = Sum.inr e → KE e σ1) : G E X 0 0 99 [(0, tR (some (h0))), (2, tI (l2)), (3, tI (l3)), (4, tI (l4)), (5, tI (l5)), (7, tI (l7)), (8, tI (l8))] [tI (t1), tI (t0)] σ := by
  unfold s_X9_nearBy_j99 at h
  refine g_ior (pc := 99) C dX9_nearBy_99 ?_
  refine g_istore (lm' := [(6, tI (t0 ||| t1)), (0, tR (some (h0))), (2, tI (l2)), (3, tI (l3)), (4, tI (l4)), (5, tI (l5)), (7, tI (l7)), (8, tI (l8))]) (pc := 100) C dX9_nearBy_100 (by decide) rfl ?_
  refine g_iinc (lm' := [(8, tI (l8 + 1)), (6, tI (t0 ||| t1)), (0, tR (some (h0))), (2, tI (l2)), (3, tI (l3)), (4, tI (l4)), (5, tI (l5)), (7, tI (l7))]) (v := l8 + 1) (pc := 102) C 7 dX9_nearBy_102 rfl rfl (by decide) rfl ?_
  refine g_goto (pc := 105) C 43 dX9_nearBy_105 (by decide) ?_
  refine g_sub [2, 3, 4, 5, 6, 1, 7, 0] (lm' := [(0, tR (some (h0))), (2, tI (l2)), (3, tI (l3)), (4, tI (l4)), (5, tI (l5)), (6, tI (t0 ||| t1)), (7, tI (l7)), (8, tI (l8 + 1))]) rfl ?_
  obtain ⟨rfl, rfl⟩ := zsome h
  exact hI _ rfl
noncomputable def s_X9_nearBy_j98 (h0 : Nat) (l2 : Int32) (l3 : Int32) (l4 : Int32) (l5 : Int32) (l7 : Int32) (l8 : Int32) (t0 : Int32) (σ : Hp) : Option (((Nat × Int32 × Int32 × Int32 × Int32 × Int32 × Int32 × Int32) ⊕ ((Nat × Int32 × Int32 × Int32 × Int32 × Int32 × Int32))) × Hp) :=
  s_X9_nearBy_j99 (h0) (l2) (l3) (l4) (l5) (l7) (l8) (t0) (0) σ
set_option maxRecDepth 100000 in
theorem w_X9_nearBy_j98 {E : E0} (hE : EOK E) {X : X0} (C : XOK E X cX9_nearBy RX9 9 (some .int) rm_X9_nearBy) (hxn : xn X = (rm_X9_nearBy.cells, rm_X9_nearBy.slots)) {KE : ((Nat × Int32 × Int32 × Int32 × Int32 × Int32 × Int32)) → Hp → Prop} (e_108 : ∀ (h0 : Nat) (l2 : Int32) (l3 : Int32) (l4 : Int32) (l5 : Int32) (l6 : Int32) (l7 : Int32) (σ : Hp), KE ((h0, l2, l3, l4, l5, l6, l7)) σ → G E X 0 0 108 [(0, tR (some (h0))), (2, tI (l2)), (3, tI (l3)), (4, tI (l4)), (5, tI (l5)), (6, tI (l6)), (7, tI (l7))] [] σ) (h0 : Nat) (l2 : Int32) (l3 : Int32) (l4 : Int32) (l5 : Int32) (l7 : Int32) (l8 : Int32) (t0 : Int32) (σ : Hp) (x : (Nat × Int32 × Int32 × Int32 × Int32 × Int32 × Int32 × Int32) ⊕ ((Nat × Int32 × Int32 × Int32 × Int32 × Int32 × Int32))) (σ1 : Hp) (h : s_X9_nearBy_j98 h0 l2 l3 l4 l5 l7 l8 t0 σ = some (x, σ1)) (hI : ∀ v, x = Sum.inl v → (fun (v : Nat × Int32 × Int32 × Int32 × Int32 × Int32 × Int32 × Int32) (σ : Hp) => G E X 0 0 43 [(0, tR (some ((v.1)))), (2, tI ((v.2.1))), (3, tI ((v.2.2.1))), (4, tI ((v.2.2.2.1))), (5, tI ((v.2.2.2.2.1))), (6, tI ((v.2.2.2.2.2.1))), (7, tI ((v.2.2.2.2.2.2.1))), (8, tI ((v.2.2.2.2.2.2.2)))] [] σ) v σ1) (hO : ∀ e, x = Sum.inr e → KE e σ1) : G E X 0 0 98 [(0, tR (some (h0))), (2, tI (l2)), (3, tI (l3)), (4, tI (l4)), (5, tI (l5)), (7, tI (l7)), (8, tI (l8))] [tI (t0)] σ := by
  unfold s_X9_nearBy_j98 at h
  refine g_iconst (v := 0) (pc := 98) C dX9_nearBy_98 (by decide) ?_
  exact w_X9_nearBy_j99 hE C hxn e_108 _ _ _ _ _ _ _ _ _ _ _ _ h hI hO
noncomputable def s_X9_nearBy_b43 (h0 : Nat) (l2 : Int32) (l3 : Int32) (l4 : Int32) (l5 : Int32) (l6 : Int32) (l7 : Int32) (l8 : Int32) (σ : Hp) : Option (((Nat × Int32 × Int32 × Int32 × Int32 × Int32 × Int32 × Int32) ⊕ ((Nat × Int32 × Int32 × Int32 × Int32 × Int32 × Int32))) × Hp) :=
  (rdR 9 σ h0 3).bind fun r1 =>
  (r1).bind fun a2 =>
  (ldI 11 σ a2 (0)).bind fun v3 =>
  if v3 ≤ l8 then
    some (Sum.inr ((h0), (l2), (l3), (l4), (l5), (l6), (l7)), σ)
  else
    cb (s_X9_is (l4) (l7) σ) fun v5 σ4 =>
    if v5 = 0 then
      some (Sum.inr ((h0), (l2), (l3), (l4), (l5), (l6), (l7)), σ4)
    else
      cb (s_X9_is (l3) (l8) σ4) fun v7 σ6 =>
      if v7 = 0 then
        (rdR 9 σ6 h0 44).bind fun r8 =>
        (r8).bind fun a9 =>
        (ldI 13 σ6 a9 ((10 * l7) + l8)).bind fun v10 =>
        if v10 = 0 then
          s_X9_nearBy_j98 (h0) (l2) (l3) (l4) (l5) (l7) (l8) (l6) σ6
        else
          s_X9_nearBy_j99 (h0) (l2) (l3) (l4) (l5) (l7) (l8) (l6) ((1 : Int32) <<< (l8 &&& 31)) σ6
      else
        s_X9_nearBy_j98 (h0) (l2) (l3) (l4) (l5) (l7) (l8) (l6) σ6
noncomputable def s_X9_nearBy_l43 : (Nat × Int32 × Int32 × Int32 × Int32 × Int32 × Int32 × Int32) → Hp → Option (((Nat × Int32 × Int32 × Int32 × Int32 × Int32 × Int32)) × Hp) := loopF (fun v => s_X9_nearBy_b43 (v.1) (v.2.1) (v.2.2.1) (v.2.2.2.1) (v.2.2.2.2.1) (v.2.2.2.2.2.1) (v.2.2.2.2.2.2.1) (v.2.2.2.2.2.2.2))
set_option maxRecDepth 100000 in
theorem w_X9_nearBy_b43 {E : E0} (hE : EOK E) {X : X0} (C : XOK E X cX9_nearBy RX9 9 (some .int) rm_X9_nearBy) (hxn : xn X = (rm_X9_nearBy.cells, rm_X9_nearBy.slots)) {KE : ((Nat × Int32 × Int32 × Int32 × Int32 × Int32 × Int32)) → Hp → Prop} (e_108 : ∀ (h0 : Nat) (l2 : Int32) (l3 : Int32) (l4 : Int32) (l5 : Int32) (l6 : Int32) (l7 : Int32) (σ : Hp), KE ((h0, l2, l3, l4, l5, l6, l7)) σ → G E X 0 0 108 [(0, tR (some (h0))), (2, tI (l2)), (3, tI (l3)), (4, tI (l4)), (5, tI (l5)), (6, tI (l6)), (7, tI (l7))] [] σ) (h0 : Nat) (l2 : Int32) (l3 : Int32) (l4 : Int32) (l5 : Int32) (l6 : Int32) (l7 : Int32) (l8 : Int32) (σ : Hp) (x : (Nat × Int32 × Int32 × Int32 × Int32 × Int32 × Int32 × Int32) ⊕ ((Nat × Int32 × Int32 × Int32 × Int32 × Int32 × Int32))) (σ1 : Hp) (h : s_X9_nearBy_b43 h0 l2 l3 l4 l5 l6 l7 l8 σ = some (x, σ1)) (hI : ∀ v, x = Sum.inl v → (fun (v : Nat × Int32 × Int32 × Int32 × Int32 × Int32 × Int32 × Int32) (σ : Hp) => G E X 0 0 43 [(0, tR (some ((v.1)))), (2, tI ((v.2.1))), (3, tI ((v.2.2.1))), (4, tI ((v.2.2.2.1))), (5, tI ((v.2.2.2.2.1))), (6, tI ((v.2.2.2.2.2.1))), (7, tI ((v.2.2.2.2.2.2.1))), (8, tI ((v.2.2.2.2.2.2.2)))] [] σ) v σ1) (hO : ∀ e, x = Sum.inr e → KE e σ1) : G E X 0 0 43 [(0, tR (some (h0))), (2, tI (l2)), (3, tI (l3)), (4, tI (l4)), (5, tI (l5)), (6, tI (l6)), (7, tI (l7)), (8, tI (l8))] [] σ := by
  unfold s_X9_nearBy_b43 at h
  refine g_iload (pc := 43) C 7 dX9_nearBy_43 rfl ?_
  refine g_aload_n (pc := 45) C 0 0 dX9_nearBy_45 rfl rfl ?_
  obtain ⟨r1, hvr1, h⟩ := zbind h
  refine g_getR (N := 58) (pc := 46) C ck_9 hvr1 rfl rfl fl_X9_13 dX9_nearBy_46 ?_
  refine g_iconst (v := 0) (pc := 49) C dX9_nearBy_49 (by decide) ?_
  obtain ⟨a2, hqa2, h9⟩ := zbind h
  clear h
  subst hqa2
  have h := h9
  clear h9
  obtain ⟨v3, hvv3, h⟩ := zbind h
  refine g_iald (pc := 50) C hvv3 dX9_nearBy_50 ?_
  refine g_icmp_ge (pc := 51) C 108 dX9_nearBy_51 (by decide) (fun c14 => ?_) (fun c14 => ?_)
  · have h := zif_t c14 h
    refine g_sub [0, 1, 2, 3, 4, 5, 6] (lm' := [(0, tR (some (h0))), (2, tI (l2)), (3, tI (l3)), (4, tI (l4)), (5, tI (l5)), (6, tI (l6)), (7, tI (l7))]) rfl ?_
    obtain ⟨rfl, rfl⟩ := zsome h
    exact e_108 _ _ _ _ _ _ _ _ (hO _ rfl)
  · have h := zif_f c14 h
    refine g_iload (pc := 54) C 3 dX9_nearBy_54 rfl ?_
    refine g_iload (pc := 56) C 6 dX9_nearBy_56 rfl ?_
    obtain ⟨v5, σ4, hvσ4, h⟩ := zcb h
    refine g_callS (pc := 58) (av := [tI (l4), tI (l7)]) C (c_X9_is hE hvσ4) ys_X9_is ml_X9_438 rfl (rf_of (by decide)) rfl (Nat.le_of_ble_eq_true rfl) dX9_nearBy_58 ?_
    refine g_if_eq (pc := 61) C 108 dX9_nearBy_61 (by decide) (fun c13 => ?_) (fun c13 => ?_)
    · have h := zif_t c13 h
      refine g_sub [0, 1, 2, 3, 4, 5, 6] (lm' := [(0, tR (some (h0))), (2, tI (l2)), (3, tI (l3)), (4, tI (l4)), (5, tI (l5)), (6, tI (l6)), (7, tI (l7))]) rfl ?_
      obtain ⟨rfl, rfl⟩ := zsome h
      exact e_108 _ _ _ _ _ _ _ _ (hO _ rfl)
    · have h := zif_f c13 h
      refine g_iload (pc := 64) C 5 dX9_nearBy_64 rfl ?_
      refine g_iload_n (pc := 66) C 3 2 dX9_nearBy_66 rfl rfl ?_
      refine g_iload (pc := 67) C 7 dX9_nearBy_67 rfl ?_
      obtain ⟨v7, σ6, hvσ6, h⟩ := zcb h
      refine g_callS (pc := 69) (av := [tI (l3), tI (l8)]) C (c_X9_is hE hvσ6) ys_X9_is ml_X9_438 rfl (rf_of (by decide)) rfl (Nat.le_of_ble_eq_true rfl) dX9_nearBy_69 ?_
      refine g_if_ne (pc := 72) C 98 dX9_nearBy_72 (by decide) (fun c12 => ?_) (fun c12 => ?_)
      · have h := zif_f c12 h
        refine g_sub [0, 1, 2, 3, 4, 6, 7] (lm' := [(0, tR (some (h0))), (2, tI (l2)), (3, tI (l3)), (4, tI (l4)), (5, tI (l5)), (7, tI (l7)), (8, tI (l8))]) rfl ?_
        exact w_X9_nearBy_j98 hE C hxn e_108 _ _ _ _ _ _ _ _ _ _ _ h hI hO
      · have h := zif_t c12 h
        refine g_aload_n (pc := 75) C 0 0 dX9_nearBy_75 rfl rfl ?_
        obtain ⟨r8, hvr8, h⟩ := zbind h
        refine g_getR (N := 58) (pc := 76) C ck_9 hvr8 rfl rfl fl_X9_119 dX9_nearBy_76 ?_
        refine g_bipush (v := 10) (pc := 79) C dX9_nearBy_79 (by decide) ?_
        refine g_iload (pc := 81) C 6 dX9_nearBy_81 rfl ?_
        refine g_imul (pc := 83) C dX9_nearBy_83 ?_
        refine g_iload (pc := 84) C 7 dX9_nearBy_84 rfl ?_
        refine g_iadd (pc := 86) C dX9_nearBy_86 ?_
        obtain ⟨a9, hqa9, h9⟩ := zbind h
        clear h
        subst hqa9
        have h := h9
        clear h9
        obtain ⟨v10, hvv10, h⟩ := zbind h
        refine g_zald (pc := 87) C hvv10 dX9_nearBy_87 ?_
        refine g_if_eq (pc := 88) C 98 dX9_nearBy_88 (by decide) (fun c11 => ?_) (fun c11 => ?_)
        · have h := zif_t c11 h
          refine g_sub [0, 1, 2, 3, 4, 6, 7] (lm' := [(0, tR (some (h0))), (2, tI (l2)), (3, tI (l3)), (4, tI (l4)), (5, tI (l5)), (7, tI (l7)), (8, tI (l8))]) rfl ?_
          exact w_X9_nearBy_j98 hE C hxn e_108 _ _ _ _ _ _ _ _ _ _ _ h hI hO
        · have h := zif_f c11 h
          refine g_iconst (v := 1) (pc := 91) C dX9_nearBy_91 (by decide) ?_
          refine g_iload (pc := 92) C 7 dX9_nearBy_92 rfl ?_
          refine g_ishl (pc := 94) C dX9_nearBy_94 ?_
          refine g_goto (pc := 95) C 99 dX9_nearBy_95 (by decide) ?_
          refine g_sub [0, 1, 2, 3, 4, 6, 7] (lm' := [(0, tR (some (h0))), (2, tI (l2)), (3, tI (l3)), (4, tI (l4)), (5, tI (l5)), (7, tI (l7)), (8, tI (l8))]) rfl ?_
          exact w_X9_nearBy_j99 hE C hxn e_108 _ _ _ _ _ _ _ _ _ _ _ _ h hI hO
theorem w_X9_nearBy_l43 {E : E0} (hE : EOK E) {X : X0} (C : XOK E X cX9_nearBy RX9 9 (some .int) rm_X9_nearBy) (hxn : xn X = (rm_X9_nearBy.cells, rm_X9_nearBy.slots)) {KE : ((Nat × Int32 × Int32 × Int32 × Int32 × Int32 × Int32)) → Hp → Prop} (e_108 : ∀ (h0 : Nat) (l2 : Int32) (l3 : Int32) (l4 : Int32) (l5 : Int32) (l6 : Int32) (l7 : Int32) (σ : Hp), KE ((h0, l2, l3, l4, l5, l6, l7)) σ → G E X 0 0 108 [(0, tR (some (h0))), (2, tI (l2)), (3, tI (l3)), (4, tI (l4)), (5, tI (l5)), (6, tI (l6)), (7, tI (l7))] [] σ) {v : Nat × Int32 × Int32 × Int32 × Int32 × Int32 × Int32 × Int32} {σ : Hp} {e : (Nat × Int32 × Int32 × Int32 × Int32 × Int32 × Int32)} {σ1 : Hp} (h : s_X9_nearBy_l43 v σ = some (e, σ1)) (hO : KE e σ1) : G E X 0 0 43 [(0, tR (some ((v.1)))), (2, tI ((v.2.1))), (3, tI ((v.2.2.1))), (4, tI ((v.2.2.2.1))), (5, tI ((v.2.2.2.2.1))), (6, tI ((v.2.2.2.2.2.1))), (7, tI ((v.2.2.2.2.2.2.1))), (8, tI ((v.2.2.2.2.2.2.2)))] [] σ := loopF_ind (P := fun (v : Nat × Int32 × Int32 × Int32 × Int32 × Int32 × Int32 × Int32) (σ : Hp) => G E X 0 0 43 [(0, tR (some ((v.1)))), (2, tI ((v.2.1))), (3, tI ((v.2.2.1))), (4, tI ((v.2.2.2.1))), (5, tI ((v.2.2.2.2.1))), (6, tI ((v.2.2.2.2.2.1))), (7, tI ((v.2.2.2.2.2.2.1))), (8, tI ((v.2.2.2.2.2.2.2)))] [] σ) (KE := KE) (fun v σ x σ1 h hI hO => w_X9_nearBy_b43 hE C hxn e_108 (v.1) (v.2.1) (v.2.2.1) (v.2.2.2.1) (v.2.2.2.2.1) (v.2.2.2.2.2.1) (v.2.2.2.2.2.2.1) (v.2.2.2.2.2.2.2) σ x σ1 h hI hO) v σ e σ1 h hO
noncomputable def s_X9_nearBy_j108 (h0 : Nat) (l2 : Int32) (l3 : Int32) (l4 : Int32) (l5 : Int32) (l6 : Int32) (l7 : Int32) (σ : Hp) : Option (((Nat × Int32 × Int32 × Int32 × Int32 × Int32 × Int32) ⊕ ((Nat × Int32 × Int32 × Int32 × Int32))) × Hp) :=
  some (Sum.inl ((h0), (l2), (l3), (l4), (l5), (l6), (l7 + 1)), σ)
set_option maxRecDepth 100000 in
theorem w_X9_nearBy_j108 {E : E0} (hE : EOK E) {X : X0} (C : XOK E X cX9_nearBy RX9 9 (some .int) rm_X9_nearBy) (hxn : xn X = (rm_X9_nearBy.cells, rm_X9_nearBy.slots)) {KE : ((Nat × Int32 × Int32 × Int32 × Int32)) → Hp → Prop} (e_114 : ∀ (h0 : Nat) (l2 : Int32) (l3 : Int32) (l5 : Int32) (l6 : Int32) (σ : Hp), KE ((h0, l2, l3, l5, l6)) σ → G E X 0 0 114 [(0, tR (some (h0))), (2, tI (l2)), (3, tI (l3)), (5, tI (l5)), (6, tI (l6))] [] σ) (h0 : Nat) (l2 : Int32) (l3 : Int32) (l4 : Int32) (l5 : Int32) (l6 : Int32) (l7 : Int32) (σ : Hp) (x : (Nat × Int32 × Int32 × Int32 × Int32 × Int32 × Int32) ⊕ ((Nat × Int32 × Int32 × Int32 × Int32))) (σ1 : Hp) (h : s_X9_nearBy_j108 h0 l2 l3 l4 l5 l6 l7 σ = some (x, σ1)) (hI : ∀ v, x = Sum.inl v → (fun (v : Nat × Int32 × Int32 × Int32 × Int32 × Int32 × Int32) (σ : Hp) => G E X 0 0 29 [(0, tR (some ((v.1)))), (2, tI ((v.2.1))), (3, tI ((v.2.2.1))), (4, tI ((v.2.2.2.1))), (5, tI ((v.2.2.2.2.1))), (6, tI ((v.2.2.2.2.2.1))), (7, tI ((v.2.2.2.2.2.2)))] [] σ) v σ1) (hO : ∀ e, x = Sum.inr e → KE e σ1) : G E X 0 0 108 [(0, tR (some (h0))), (2, tI (l2)), (3, tI (l3)), (4, tI (l4)), (5, tI (l5)), (6, tI (l6)), (7, tI (l7))] [] σ := by
  unfold s_X9_nearBy_j108 at h
  refine g_iinc (lm' := [(7, tI (l7 + 1)), (0, tR (some (h0))), (2, tI (l2)), (3, tI (l3)), (4, tI (l4)), (5, tI (l5)), (6, tI (l6))]) (v := l7 + 1) (pc := 108) C 6 dX9_nearBy_108 rfl rfl (by decide) rfl ?_
  refine g_goto (pc := 111) C 29 dX9_nearBy_111 (by decide) ?_
  refine g_sub [1, 2, 3, 4, 5, 6, 0] (lm' := [(0, tR (some (h0))), (2, tI (l2)), (3, tI (l3)), (4, tI (l4)), (5, tI (l5)), (6, tI (l6)), (7, tI (l7 + 1))]) rfl ?_
  obtain ⟨rfl, rfl⟩ := zsome h
  exact hI _ rfl
noncomputable def s_X9_nearBy_b29 (h0 : Nat) (l2 : Int32) (l3 : Int32) (l4 : Int32) (l5 : Int32) (l6 : Int32) (l7 : Int32) (σ : Hp) : Option (((Nat × Int32 × Int32 × Int32 × Int32 × Int32 × Int32) ⊕ ((Nat × Int32 × Int32 × Int32 × Int32))) × Hp) :=
  (rdR 9 σ h0 3).bind fun r1 =>
  (r1).bind fun a2 =>
  (ldI 11 σ a2 (0)).bind fun v3 =>
  if v3 ≤ l7 then
    some (Sum.inr ((h0), (l2), (l3), (l5), (l6)), σ)
  else
    cb (s_X9_nearBy_l43 ((h0), (l2), (l3), (l4), (l5), (l6), (l7), (0)) σ) fun e14 σ13 =>
    match e14 with
    | (h4, l25, l36, l47, l58, l69, l710) =>
      s_X9_nearBy_j108 (h4) (l25) (l36) (l47) (l58) (l69) (l710) σ13
noncomputable def s_X9_nearBy_l29 : (Nat × Int32 × Int32 × Int32 × Int32 × Int32 × Int32) → Hp → Option (((Nat × Int32 × Int32 × Int32 × Int32)) × Hp) := loopF (fun v => s_X9_nearBy_b29 (v.1) (v.2.1) (v.2.2.1) (v.2.2.2.1) (v.2.2.2.2.1) (v.2.2.2.2.2.1) (v.2.2.2.2.2.2))
set_option maxRecDepth 100000 in
theorem w_X9_nearBy_b29 {E : E0} (hE : EOK E) {X : X0} (C : XOK E X cX9_nearBy RX9 9 (some .int) rm_X9_nearBy) (hxn : xn X = (rm_X9_nearBy.cells, rm_X9_nearBy.slots)) {KE : ((Nat × Int32 × Int32 × Int32 × Int32)) → Hp → Prop} (e_114 : ∀ (h0 : Nat) (l2 : Int32) (l3 : Int32) (l5 : Int32) (l6 : Int32) (σ : Hp), KE ((h0, l2, l3, l5, l6)) σ → G E X 0 0 114 [(0, tR (some (h0))), (2, tI (l2)), (3, tI (l3)), (5, tI (l5)), (6, tI (l6))] [] σ) (h0 : Nat) (l2 : Int32) (l3 : Int32) (l4 : Int32) (l5 : Int32) (l6 : Int32) (l7 : Int32) (σ : Hp) (x : (Nat × Int32 × Int32 × Int32 × Int32 × Int32 × Int32) ⊕ ((Nat × Int32 × Int32 × Int32 × Int32))) (σ1 : Hp) (h : s_X9_nearBy_b29 h0 l2 l3 l4 l5 l6 l7 σ = some (x, σ1)) (hI : ∀ v, x = Sum.inl v → (fun (v : Nat × Int32 × Int32 × Int32 × Int32 × Int32 × Int32) (σ : Hp) => G E X 0 0 29 [(0, tR (some ((v.1)))), (2, tI ((v.2.1))), (3, tI ((v.2.2.1))), (4, tI ((v.2.2.2.1))), (5, tI ((v.2.2.2.2.1))), (6, tI ((v.2.2.2.2.2.1))), (7, tI ((v.2.2.2.2.2.2)))] [] σ) v σ1) (hO : ∀ e, x = Sum.inr e → KE e σ1) : G E X 0 0 29 [(0, tR (some (h0))), (2, tI (l2)), (3, tI (l3)), (4, tI (l4)), (5, tI (l5)), (6, tI (l6)), (7, tI (l7))] [] σ := by
  unfold s_X9_nearBy_b29 at h
  refine g_iload (pc := 29) C 6 dX9_nearBy_29 rfl ?_
  refine g_aload_n (pc := 31) C 0 0 dX9_nearBy_31 rfl rfl ?_
  obtain ⟨r1, hvr1, h⟩ := zbind h
  refine g_getR (N := 58) (pc := 32) C ck_9 hvr1 rfl rfl fl_X9_13 dX9_nearBy_32 ?_
  refine g_iconst (v := 0) (pc := 35) C dX9_nearBy_35 (by decide) ?_
  obtain ⟨a2, hqa2, h9⟩ := zbind h
  clear h
  subst hqa2
  have h := h9
  clear h9
  obtain ⟨v3, hvv3, h⟩ := zbind h
  refine g_iald (pc := 36) C hvv3 dX9_nearBy_36 ?_
  refine g_icmp_ge (pc := 37) C 114 dX9_nearBy_37 (by decide) (fun c15 => ?_) (fun c15 => ?_)
  · have h := zif_t c15 h
    refine g_sub [0, 1, 2, 4, 5] (lm' := [(0, tR (some (h0))), (2, tI (l2)), (3, tI (l3)), (5, tI (l5)), (6, tI (l6))]) rfl ?_
    obtain ⟨rfl, rfl⟩ := zsome h
    exact e_114 _ _ _ _ _ _ (hO _ rfl)
  · have h := zif_f c15 h
    refine g_iconst (v := 0) (pc := 40) C dX9_nearBy_40 (by decide) ?_
    refine g_istore (lm' := [(8, tI (0)), (0, tR (some (h0))), (2, tI (l2)), (3, tI (l3)), (4, tI (l4)), (5, tI (l5)), (6, tI (l6)), (7, tI (l7))]) (pc := 41) C dX9_nearBy_41 (by decide) rfl ?_
    refine g_sub [1, 2, 3, 4, 5, 6, 7, 0] (lm' := [(0, tR (some (h0))), (2, tI (l2)), (3, tI (l3)), (4, tI (l4)), (5, tI (l5)), (6, tI (l6)), (7, tI (l7)), (8, tI (0))]) rfl ?_
    obtain ⟨KQ, hKQ, e14, σ13, hle14, h⟩ := zcbK h
    refine w_X9_nearBy_l43 (KE := KQ) hE C hxn ?_ hle14 h
    · intro h4 l25 l36 l47 l58 l69 l710 σ11 h
      have h := (hKQ _ _).mp h
      exact w_X9_nearBy_j108 hE C hxn e_114 _ _ _ _ _ _ _ _ _ _ h hI hO
theorem w_X9_nearBy_l29 {E : E0} (hE : EOK E) {X : X0} (C : XOK E X cX9_nearBy RX9 9 (some .int) rm_X9_nearBy) (hxn : xn X = (rm_X9_nearBy.cells, rm_X9_nearBy.slots)) {KE : ((Nat × Int32 × Int32 × Int32 × Int32)) → Hp → Prop} (e_114 : ∀ (h0 : Nat) (l2 : Int32) (l3 : Int32) (l5 : Int32) (l6 : Int32) (σ : Hp), KE ((h0, l2, l3, l5, l6)) σ → G E X 0 0 114 [(0, tR (some (h0))), (2, tI (l2)), (3, tI (l3)), (5, tI (l5)), (6, tI (l6))] [] σ) {v : Nat × Int32 × Int32 × Int32 × Int32 × Int32 × Int32} {σ : Hp} {e : (Nat × Int32 × Int32 × Int32 × Int32)} {σ1 : Hp} (h : s_X9_nearBy_l29 v σ = some (e, σ1)) (hO : KE e σ1) : G E X 0 0 29 [(0, tR (some ((v.1)))), (2, tI ((v.2.1))), (3, tI ((v.2.2.1))), (4, tI ((v.2.2.2.1))), (5, tI ((v.2.2.2.2.1))), (6, tI ((v.2.2.2.2.2.1))), (7, tI ((v.2.2.2.2.2.2)))] [] σ := loopF_ind (P := fun (v : Nat × Int32 × Int32 × Int32 × Int32 × Int32 × Int32) (σ : Hp) => G E X 0 0 29 [(0, tR (some ((v.1)))), (2, tI ((v.2.1))), (3, tI ((v.2.2.1))), (4, tI ((v.2.2.2.1))), (5, tI ((v.2.2.2.2.1))), (6, tI ((v.2.2.2.2.2.1))), (7, tI ((v.2.2.2.2.2.2)))] [] σ) (KE := KE) (fun v σ x σ1 h hI hO => w_X9_nearBy_b29 hE C hxn e_114 (v.1) (v.2.1) (v.2.2.1) (v.2.2.2.1) (v.2.2.2.2.1) (v.2.2.2.2.2.1) (v.2.2.2.2.2.2) σ x σ1 h hI hO) v σ e σ1 h hO
noncomputable def s_X9_nearBy_b16 (h0 : Nat) (l2 : Int32) (l3 : Int32) (l4 : Int32) (l5 : Int32) (σ : Hp) : Option (((Nat × Int32 × Int32 × Int32 × Int32) ⊕ (Int32)) × Hp) :=
  if l2 ≤ l5 then
    some (Sum.inr (l4), σ)
  else
    cb (s_X9_nearBy_l29 ((h0), (l2), (l3), (l4), (l5), (l4), (0)) σ) fun e9 σ8 =>
    match e9 with
    | (h1, l22, l33, l54, l65) =>
      some (Sum.inl ((h1), (l22), (l33), (l65), (l54 + 1)), σ8)
noncomputable def s_X9_nearBy_l16 : (Nat × Int32 × Int32 × Int32 × Int32) → Hp → Option ((Int32) × Hp) := loopF (fun v => s_X9_nearBy_b16 (v.1) (v.2.1) (v.2.2.1) (v.2.2.2.1) (v.2.2.2.2))
set_option maxRecDepth 100000 in
theorem w_X9_nearBy_b16 {E : E0} (hE : EOK E) {X : X0} (C : XOK E X cX9_nearBy RX9 9 (some .int) rm_X9_nearBy) (hxn : xn X = (rm_X9_nearBy.cells, rm_X9_nearBy.slots)) {KE : (Int32) → Hp → Prop} (e_ret : ∀ (r : Int32) (σ : Hp), KE (r) σ → xd X = (some (tI r), σ)) (h0 : Nat) (l2 : Int32) (l3 : Int32) (l4 : Int32) (l5 : Int32) (σ : Hp) (x : (Nat × Int32 × Int32 × Int32 × Int32) ⊕ (Int32)) (σ1 : Hp) (h : s_X9_nearBy_b16 h0 l2 l3 l4 l5 σ = some (x, σ1)) (hI : ∀ v, x = Sum.inl v → (fun (v : Nat × Int32 × Int32 × Int32 × Int32) (σ : Hp) => G E X 0 0 16 [(0, tR (some ((v.1)))), (2, tI ((v.2.1))), (3, tI ((v.2.2.1))), (4, tI ((v.2.2.2.1))), (5, tI ((v.2.2.2.2)))] [] σ) v σ1) (hO : ∀ e, x = Sum.inr e → KE e σ1) : G E X 0 0 16 [(0, tR (some (h0))), (2, tI (l2)), (3, tI (l3)), (4, tI (l4)), (5, tI (l5))] [] σ := by
  unfold s_X9_nearBy_b16 at h
  refine g_iload (pc := 16) C 4 dX9_nearBy_16 rfl ?_
  refine g_iload_n (pc := 18) C 2 1 dX9_nearBy_18 rfl rfl ?_
  refine g_icmp_ge (pc := 19) C 124 dX9_nearBy_19 (by decide) (fun c10 => ?_) (fun c10 => ?_)
  · have h := zif_t c10 h
    refine g_iload (pc := 124) C 3 dX9_nearBy_124 rfl ?_
    obtain ⟨rfl, rfl⟩ := zsome h
    exact g_iret (pc := 126) C rfl (e_ret _ _ (hO _ rfl)) (by rw [hxn]; rfl) (by rw [hxn]; rfl) dX9_nearBy_126
  · have h := zif_f c10 h
    refine g_iload (pc := 22) C 3 dX9_nearBy_22 rfl ?_
    refine g_istore (lm' := [(6, tI (l4)), (0, tR (some (h0))), (2, tI (l2)), (3, tI (l3)), (4, tI (l4)), (5, tI (l5))]) (pc := 24) C dX9_nearBy_24 (by decide) rfl ?_
    refine g_iconst (v := 0) (pc := 26) C dX9_nearBy_26 (by decide) ?_
    refine g_istore (lm' := [(7, tI (0)), (6, tI (l4)), (0, tR (some (h0))), (2, tI (l2)), (3, tI (l3)), (4, tI (l4)), (5, tI (l5))]) (pc := 27) C dX9_nearBy_27 (by decide) rfl ?_
    refine g_sub [2, 3, 4, 5, 6, 1, 0] (lm' := [(0, tR (some (h0))), (2, tI (l2)), (3, tI (l3)), (4, tI (l4)), (5, tI (l5)), (6, tI (l4)), (7, tI (0))]) rfl ?_
    obtain ⟨KQ, hKQ, e9, σ8, hle9, h⟩ := zcbK h
    refine w_X9_nearBy_l29 (KE := KQ) hE C hxn ?_ hle9 h
    · intro h1 l22 l33 l54 l65 σ6 h
      have h := (hKQ _ _).mp h
      refine g_iload (pc := 114) C 4 dX9_nearBy_114 rfl ?_
      refine g_istore (lm' := [(4, tI (l65)), (0, tR (some (h1))), (2, tI (l22)), (3, tI (l33)), (5, tI (l54)), (6, tI (l65))]) (pc := 116) C dX9_nearBy_116 (by decide) rfl ?_
      refine g_iinc (lm' := [(5, tI (l54 + 1)), (4, tI (l65)), (0, tR (some (h1))), (2, tI (l22)), (3, tI (l33)), (6, tI (l65))]) (v := l54 + 1) (pc := 118) C 4 dX9_nearBy_118 rfl rfl (by decide) rfl ?_
      refine g_goto (pc := 121) C 16 dX9_nearBy_121 (by decide) ?_
      refine g_sub [2, 3, 4, 1, 0] (lm' := [(0, tR (some (h1))), (2, tI (l22)), (3, tI (l33)), (4, tI (l65)), (5, tI (l54 + 1))]) rfl ?_
      obtain ⟨rfl, rfl⟩ := zsome h
      exact hI _ rfl
theorem w_X9_nearBy_l16 {E : E0} (hE : EOK E) {X : X0} (C : XOK E X cX9_nearBy RX9 9 (some .int) rm_X9_nearBy) (hxn : xn X = (rm_X9_nearBy.cells, rm_X9_nearBy.slots)) {KE : (Int32) → Hp → Prop} (e_ret : ∀ (r : Int32) (σ : Hp), KE (r) σ → xd X = (some (tI r), σ)) {v : Nat × Int32 × Int32 × Int32 × Int32} {σ : Hp} {e : Int32} {σ1 : Hp} (h : s_X9_nearBy_l16 v σ = some (e, σ1)) (hO : KE e σ1) : G E X 0 0 16 [(0, tR (some ((v.1)))), (2, tI ((v.2.1))), (3, tI ((v.2.2.1))), (4, tI ((v.2.2.2.1))), (5, tI ((v.2.2.2.2)))] [] σ := loopF_ind (P := fun (v : Nat × Int32 × Int32 × Int32 × Int32) (σ : Hp) => G E X 0 0 16 [(0, tR (some ((v.1)))), (2, tI ((v.2.1))), (3, tI ((v.2.2.1))), (4, tI ((v.2.2.2.1))), (5, tI ((v.2.2.2.2)))] [] σ) (KE := KE) (fun v σ x σ1 h hI hO => w_X9_nearBy_b16 hE C hxn e_ret (v.1) (v.2.1) (v.2.2.1) (v.2.2.2.1) (v.2.2.2.2) σ x σ1 h hI hO) v σ e σ1 h hO
noncomputable def s_X9_nearBy (h0 : Nat) (p1 : Int32) (p2 : Int32) (p3 : Int32) (σ : Hp) : Option (Int32 × Hp) :=
  (rdR 9 σ h0 3).bind fun r1 =>
  (r1).bind fun a2 =>
  (ldI 11 σ a2 (17 + p1)).bind fun v3 =>
  cb (s_X9_nearBy_l16 ((h0), (p2), (p3), ((1 : Int32) <<< (v3 &&& 31)), (0)) σ) fun r5 σ6 =>
  some (r5, σ6)
set_option maxRecDepth 100000 in
theorem c_X9_nearBy {E : E0} (hE : EOK E) {h0 : Nat} {p1 : Int32} {p2 : Int32} {p3 : Int32} {σ σ1 : Hp} {r : Int32} (h : s_X9_nearBy h0 p1 p2 p3 σ = some (r, σ1)) : CT E yX9_nearBy (.code yX9_nearBy cX9_nearBy 9 (some .int)) rm_X9_nearBy [tR (some (h0)), tI (p1), tI (p2), tI (p3)] σ (some (tI r)) σ1 := by
  refine CT.mk hE (by decide +kernel) (Nat.le_of_ble_eq_true rfl) [(0, tR (some (h0))), (1, tI (p1)), (2, tI (p2)), (3, tI (p3))] rfl (fun X C hin hx hxn => ?_)
  have C : XOK E X cX9_nearBy RX9 9 (some .int) rm_X9_nearBy := C
  unfold s_X9_nearBy at h
  refine g_iconst (v := 1) (pc := 0) C dX9_nearBy_0 (by decide) ?_
  refine g_aload_n (pc := 1) C 0 0 dX9_nearBy_1 rfl rfl ?_
  obtain ⟨r1, hvr1, h⟩ := zbind h
  refine g_getR (N := 58) (pc := 2) C ck_9 hvr1 rfl rfl fl_X9_13 dX9_nearBy_2 ?_
  refine g_bipush (v := 17) (pc := 5) C dX9_nearBy_5 (by decide) ?_
  refine g_iload_n (pc := 7) C 1 1 dX9_nearBy_7 rfl rfl ?_
  refine g_iadd (pc := 8) C dX9_nearBy_8 ?_
  obtain ⟨a2, hqa2, h9⟩ := zbind h
  clear h
  subst hqa2
  have h := h9
  clear h9
  obtain ⟨v3, hvv3, h⟩ := zbind h
  refine g_iald (pc := 9) C hvv3 dX9_nearBy_9 ?_
  refine g_ishl (pc := 10) C dX9_nearBy_10 ?_
  refine g_istore (lm' := [(4, tI ((1 : Int32) <<< (v3 &&& 31))), (0, tR (some (h0))), (1, tI (p1)), (2, tI (p2)), (3, tI (p3))]) (pc := 11) C dX9_nearBy_11 (by decide) rfl ?_
  refine g_iconst (v := 0) (pc := 13) C dX9_nearBy_13 (by decide) ?_
  refine g_istore (lm' := [(5, tI (0)), (4, tI ((1 : Int32) <<< (v3 &&& 31))), (0, tR (some (h0))), (1, tI (p1)), (2, tI (p2)), (3, tI (p3))]) (pc := 14) C dX9_nearBy_14 (by decide) rfl ?_
  refine g_sub [2, 4, 5, 1, 0] (lm' := [(0, tR (some (h0))), (2, tI (p2)), (3, tI (p3)), (4, tI ((1 : Int32) <<< (v3 &&& 31))), (5, tI (0))]) rfl ?_
  obtain ⟨KQ, hKQ, r5, σ6, hlr5, h⟩ := zcbK h
  refine w_X9_nearBy_l16 (KE := KQ) hE C hxn ?_ hlr5 h
  · intro r5 σ4 h
    have h := (hKQ _ _).mp h
    obtain ⟨rfl, rfl⟩ := zsome h
    exact hx
def rm_X9_layStrides : Room := { frames := 6, cells := 0, slots := 0, locals := 150 }
noncomputable def s_X9_layStrides_b14 (h0 : Nat) (l1 : Int32) (l2 : Int32) (l3 : Int32) (σ : Hp) : Option (((Nat × Int32 × Int32 × Int32) ⊕ ((Nat × Int32 × Int32))) × Hp) :=
  (rdR 9 σ h0 3).bind fun r1 =>
  (r1).bind fun a2 =>
  (ldI 11 σ a2 (0)).bind fun v3 =>
  if v3 ≤ l3 then
    some (Sum.inr ((h0), (l1), (l2)), σ)
  else
    (rdR 9 σ h0 44).bind fun r4 =>
    (ck 9 σ h0).bind fun u5 =>
    cb (s_X9_canStride h0 (l1) (l2) (l3) σ) fun v7 σ6 =>
    (r4).bind fun a8 =>
    (stZ σ6 a8 ((10 * l2) + l3) (v7)).bind fun σ9 =>
    some (Sum.inl ((h0), (l1), (l2), (l3 + 1)), σ9)
noncomputable def s_X9_layStrides_l14 : (Nat × Int32 × Int32 × Int32) → Hp → Option (((Nat × Int32 × Int32)) × Hp) := loopF (fun v => s_X9_layStrides_b14 (v.1) (v.2.1) (v.2.2.1) (v.2.2.2))
set_option maxRecDepth 100000 in
theorem w_X9_layStrides_b14 {E : E0} (hE : EOK E) {X : X0} (C : XOK E X cX9_layStrides RX9 4 none rm_X9_layStrides) (hxn : xn X = (rm_X9_layStrides.cells, rm_X9_layStrides.slots)) {KE : ((Nat × Int32 × Int32)) → Hp → Prop} (e_48 : ∀ (h0 : Nat) (l1 : Int32) (l2 : Int32) (σ : Hp), KE ((h0, l1, l2)) σ → G E X 0 0 48 [(0, tR (some (h0))), (1, tI (l1)), (2, tI (l2))] [] σ) (h0 : Nat) (l1 : Int32) (l2 : Int32) (l3 : Int32) (σ : Hp) (x : (Nat × Int32 × Int32 × Int32) ⊕ ((Nat × Int32 × Int32))) (σ1 : Hp) (h : s_X9_layStrides_b14 h0 l1 l2 l3 σ = some (x, σ1)) (hI : ∀ v, x = Sum.inl v → (fun (v : Nat × Int32 × Int32 × Int32) (σ : Hp) => G E X 0 0 14 [(0, tR (some ((v.1)))), (1, tI ((v.2.1))), (2, tI ((v.2.2.1))), (3, tI ((v.2.2.2)))] [] σ) v σ1) (hO : ∀ e, x = Sum.inr e → KE e σ1) : G E X 0 0 14 [(0, tR (some (h0))), (1, tI (l1)), (2, tI (l2)), (3, tI (l3))] [] σ := by
  unfold s_X9_layStrides_b14 at h
  refine g_iload_n (pc := 14) C 3 3 dX9_layStrides_14 rfl rfl ?_
  refine g_aload_n (pc := 15) C 0 0 dX9_layStrides_15 rfl rfl ?_
  obtain ⟨r1, hvr1, h⟩ := zbind h
  refine g_getR (N := 58) (pc := 16) C ck_9 hvr1 rfl rfl fl_X9_13 dX9_layStrides_16 ?_
  refine g_iconst (v := 0) (pc := 19) C dX9_layStrides_19 (by decide) ?_
  obtain ⟨a2, hqa2, h9⟩ := zbind h
  clear h
  subst hqa2
  have h := h9
  clear h9
  obtain ⟨v3, hvv3, h⟩ := zbind h
  refine g_iald (pc := 20) C hvv3 dX9_layStrides_20 ?_
  refine g_icmp_ge (pc := 21) C 48 dX9_layStrides_21 (by decide) (fun c10 => ?_) (fun c10 => ?_)
  · have h := zif_t c10 h
    refine g_sub [0, 1, 2] (lm' := [(0, tR (some (h0))), (1, tI (l1)), (2, tI (l2))]) rfl ?_
    obtain ⟨rfl, rfl⟩ := zsome h
    exact e_48 _ _ _ _ (hO _ rfl)
  · have h := zif_f c10 h
    refine g_aload_n (pc := 24) C 0 0 dX9_layStrides_24 rfl rfl ?_
    obtain ⟨r4, hvr4, h⟩ := zbind h
    refine g_getR (N := 58) (pc := 25) C ck_9 hvr4 rfl rfl fl_X9_119 dX9_layStrides_25 ?_
    refine g_bipush (v := 10) (pc := 28) C dX9_layStrides_28 (by decide) ?_
    refine g_iload_n (pc := 30) C 2 2 dX9_layStrides_30 rfl rfl ?_
    refine g_imul (pc := 31) C dX9_layStrides_31 ?_
    refine g_iload_n (pc := 32) C 3 3 dX9_layStrides_32 rfl rfl ?_
    refine g_iadd (pc := 33) C dX9_layStrides_33 ?_
    refine g_aload_n (pc := 34) C 0 0 dX9_layStrides_34 rfl rfl ?_
    refine g_iload_n (pc := 35) C 1 1 dX9_layStrides_35 rfl rfl ?_
    refine g_iload_n (pc := 36) C 2 2 dX9_layStrides_36 rfl rfl ?_
    refine g_iload_n (pc := 37) C 3 3 dX9_layStrides_37 rfl rfl ?_
    obtain ⟨u5, hvu5, h⟩ := zbind h
    obtain ⟨v7, σ6, hvσ6, h⟩ := zcb h
    refine g_callV (pc := 38) (av := [tI (l1), tI (l2), tI (l3)]) C (c_X9_canStride hE hvσ6) yv_X9_canStride ml_X9_231 ck_9 (zopt hvu5).1 rfl (rf_of (by decide)) rfl (Nat.le_of_ble_eq_true rfl) dX9_layStrides_38 ?_
    obtain ⟨a8, hqa8, h9⟩ := zbind h
    clear h
    subst hqa8
    have h := h9
    clear h9
    obtain ⟨σ9, hvσ9, h⟩ := zbind h
    refine g_zast (pc := 41) C hvσ9 dX9_layStrides_41 ?_
    refine g_iinc (lm' := [(3, tI (l3 + 1)), (0, tR (some (h0))), (1, tI (l1)), (2, tI (l2))]) (v := l3 + 1) (pc := 42) C 3 dX9_layStrides_42 rfl rfl (by decide) rfl ?_
    refine g_goto (pc := 45) C 14 dX9_layStrides_45 (by decide) ?_
    refine g_sub [1, 2, 3, 0] (lm' := [(0, tR (some (h0))), (1, tI (l1)), (2, tI (l2)), (3, tI (l3 + 1))]) rfl ?_
    obtain ⟨rfl, rfl⟩ := zsome h
    exact hI _ rfl
theorem w_X9_layStrides_l14 {E : E0} (hE : EOK E) {X : X0} (C : XOK E X cX9_layStrides RX9 4 none rm_X9_layStrides) (hxn : xn X = (rm_X9_layStrides.cells, rm_X9_layStrides.slots)) {KE : ((Nat × Int32 × Int32)) → Hp → Prop} (e_48 : ∀ (h0 : Nat) (l1 : Int32) (l2 : Int32) (σ : Hp), KE ((h0, l1, l2)) σ → G E X 0 0 48 [(0, tR (some (h0))), (1, tI (l1)), (2, tI (l2))] [] σ) {v : Nat × Int32 × Int32 × Int32} {σ : Hp} {e : (Nat × Int32 × Int32)} {σ1 : Hp} (h : s_X9_layStrides_l14 v σ = some (e, σ1)) (hO : KE e σ1) : G E X 0 0 14 [(0, tR (some ((v.1)))), (1, tI ((v.2.1))), (2, tI ((v.2.2.1))), (3, tI ((v.2.2.2)))] [] σ := loopF_ind (P := fun (v : Nat × Int32 × Int32 × Int32) (σ : Hp) => G E X 0 0 14 [(0, tR (some ((v.1)))), (1, tI ((v.2.1))), (2, tI ((v.2.2.1))), (3, tI ((v.2.2.2)))] [] σ) (KE := KE) (fun v σ x σ1 h hI hO => w_X9_layStrides_b14 hE C hxn e_48 (v.1) (v.2.1) (v.2.2.1) (v.2.2.2) σ x σ1 h hI hO) v σ e σ1 h hO
noncomputable def s_X9_layStrides_b2 (h0 : Nat) (l1 : Int32) (l2 : Int32) (σ : Hp) : Option (((Nat × Int32 × Int32) ⊕ (Unit)) × Hp) :=
  (rdR 9 σ h0 3).bind fun r1 =>
  (r1).bind fun a2 =>
  (ldI 11 σ a2 (0)).bind fun v3 =>
  if v3 ≤ l2 then
    some (Sum.inr (), σ)
  else
    cb (s_X9_layStrides_l14 ((h0), (l1), (l2), (0)) σ) fun e10 σ9 =>
    match e10 with
    | (h4, l15, l26) =>
      some (Sum.inl ((h4), (l15), (l26 + 1)), σ9)
noncomputable def s_X9_layStrides_l2 : (Nat × Int32 × Int32) → Hp → Option ((Unit) × Hp) := loopF (fun v => s_X9_layStrides_b2 (v.1) (v.2.1) (v.2.2))
set_option maxRecDepth 100000 in
theorem w_X9_layStrides_b2 {E : E0} (hE : EOK E) {X : X0} (C : XOK E X cX9_layStrides RX9 4 none rm_X9_layStrides) (hxn : xn X = (rm_X9_layStrides.cells, rm_X9_layStrides.slots)) {KE : (Unit) → Hp → Prop} (e_ret : ∀ (r : Unit) (σ : Hp), KE (r) σ → xd X = (none, σ)) (h0 : Nat) (l1 : Int32) (l2 : Int32) (σ : Hp) (x : (Nat × Int32 × Int32) ⊕ (Unit)) (σ1 : Hp) (h : s_X9_layStrides_b2 h0 l1 l2 σ = some (x, σ1)) (hI : ∀ v, x = Sum.inl v → (fun (v : Nat × Int32 × Int32) (σ : Hp) => G E X 0 0 2 [(0, tR (some ((v.1)))), (1, tI ((v.2.1))), (2, tI ((v.2.2)))] [] σ) v σ1) (hO : ∀ e, x = Sum.inr e → KE e σ1) : G E X 0 0 2 [(0, tR (some (h0))), (1, tI (l1)), (2, tI (l2))] [] σ := by
  unfold s_X9_layStrides_b2 at h
  refine g_iload_n (pc := 2) C 2 2 dX9_layStrides_2 rfl rfl ?_
  refine g_aload_n (pc := 3) C 0 0 dX9_layStrides_3 rfl rfl ?_
  obtain ⟨r1, hvr1, h⟩ := zbind h
  refine g_getR (N := 58) (pc := 4) C ck_9 hvr1 rfl rfl fl_X9_13 dX9_layStrides_4 ?_
  refine g_iconst (v := 0) (pc := 7) C dX9_layStrides_7 (by decide) ?_
  obtain ⟨a2, hqa2, h9⟩ := zbind h
  clear h
  subst hqa2
  have h := h9
  clear h9
  obtain ⟨v3, hvv3, h⟩ := zbind h
  refine g_iald (pc := 8) C hvv3 dX9_layStrides_8 ?_
  refine g_icmp_ge (pc := 9) C 54 dX9_layStrides_9 (by decide) (fun c11 => ?_) (fun c11 => ?_)
  · have h := zif_t c11 h
    obtain ⟨rfl, rfl⟩ := zsome h
    exact g_vret (pc := 54) C rfl (e_ret _ _ (hO _ rfl)) (by rw [hxn]; rfl) (by rw [hxn]; rfl) dX9_layStrides_54
  · have h := zif_f c11 h
    refine g_iconst (v := 0) (pc := 12) C dX9_layStrides_12 (by decide) ?_
    refine g_istore_n (lm' := [(3, tI (0)), (0, tR (some (h0))), (1, tI (l1)), (2, tI (l2))]) (pc := 13) C 3 dX9_layStrides_13 rfl (by decide) rfl ?_
    refine g_sub [1, 2, 3, 0] (lm' := [(0, tR (some (h0))), (1, tI (l1)), (2, tI (l2)), (3, tI (0))]) rfl ?_
    obtain ⟨KQ, hKQ, e10, σ9, hle10, h⟩ := zcbK h
    refine w_X9_layStrides_l14 (KE := KQ) hE C hxn ?_ hle10 h
    · intro h4 l15 l26 σ7 h
      have h := (hKQ _ _).mp h
      refine g_iinc (lm' := [(2, tI (l26 + 1)), (0, tR (some (h4))), (1, tI (l15))]) (v := l26 + 1) (pc := 48) C 2 dX9_layStrides_48 rfl rfl (by decide) rfl ?_
      refine g_goto (pc := 51) C 2 dX9_layStrides_51 (by decide) ?_
      refine g_sub [1, 2, 0] (lm' := [(0, tR (some (h4))), (1, tI (l15)), (2, tI (l26 + 1))]) rfl ?_
      obtain ⟨rfl, rfl⟩ := zsome h
      exact hI _ rfl
theorem w_X9_layStrides_l2 {E : E0} (hE : EOK E) {X : X0} (C : XOK E X cX9_layStrides RX9 4 none rm_X9_layStrides) (hxn : xn X = (rm_X9_layStrides.cells, rm_X9_layStrides.slots)) {KE : (Unit) → Hp → Prop} (e_ret : ∀ (r : Unit) (σ : Hp), KE (r) σ → xd X = (none, σ)) {v : Nat × Int32 × Int32} {σ : Hp} {e : Unit} {σ1 : Hp} (h : s_X9_layStrides_l2 v σ = some (e, σ1)) (hO : KE e σ1) : G E X 0 0 2 [(0, tR (some ((v.1)))), (1, tI ((v.2.1))), (2, tI ((v.2.2)))] [] σ := loopF_ind (P := fun (v : Nat × Int32 × Int32) (σ : Hp) => G E X 0 0 2 [(0, tR (some ((v.1)))), (1, tI ((v.2.1))), (2, tI ((v.2.2)))] [] σ) (KE := KE) (fun v σ x σ1 h hI hO => w_X9_layStrides_b2 hE C hxn e_ret (v.1) (v.2.1) (v.2.2) σ x σ1 h hI hO) v σ e σ1 h hO
noncomputable def s_X9_layStrides (h0 : Nat) (p1 : Int32) (σ : Hp) : Option (Unit × Hp) :=
  cb (s_X9_layStrides_l2 ((h0), (p1), (0)) σ) fun r2 σ3 =>
  some (r2, σ3)
set_option maxRecDepth 100000 in
theorem c_X9_layStrides {E : E0} (hE : EOK E) {h0 : Nat} {p1 : Int32} {σ σ1 : Hp} {r : Unit} (h : s_X9_layStrides h0 p1 σ = some (r, σ1)) : CT E yX9_layStrides (.code yX9_layStrides cX9_layStrides 4 none) rm_X9_layStrides [tR (some (h0)), tI (p1)] σ none σ1 := by
  refine CT.mk hE (by decide +kernel) (Nat.le_of_ble_eq_true rfl) [(0, tR (some (h0))), (1, tI (p1))] rfl (fun X C hin hx hxn => ?_)
  have C : XOK E X cX9_layStrides RX9 4 none rm_X9_layStrides := C
  unfold s_X9_layStrides at h
  refine g_iconst (v := 0) (pc := 0) C dX9_layStrides_0 (by decide) ?_
  refine g_istore_n (lm' := [(2, tI (0)), (0, tR (some (h0))), (1, tI (p1))]) (pc := 1) C 2 dX9_layStrides_1 rfl (by decide) rfl ?_
  refine g_sub [1, 2, 0] (lm' := [(0, tR (some (h0))), (1, tI (p1)), (2, tI (0))]) rfl ?_
  obtain ⟨KQ, hKQ, r2, σ3, hlr2, h⟩ := zcbK h
  refine w_X9_layStrides_l2 (KE := KQ) hE C hxn ?_ hlr2 h
  · intro r2 σ1 h
    have h := (hKQ _ _).mp h
    obtain ⟨rfl, rfl⟩ := zsome h
    exact hx
def rm_X9_near : Room := { frames := 7, cells := 0, slots := 0, locals := 173 }
noncomputable def s_X9_near (h0 : Nat) (p1 : Int32) (p2 : Int32) (σ : Hp) : Option (Int32 × Hp) :=
  (wrI 9 σ h0 0 (0)).bind fun σ1 =>
  (ck 9 σ1 h0).bind fun u2 =>
  cb (s_X9_isFolk h0 (p1) σ1) fun v4 σ3 =>
  if v4 = 0 then
    some (((-1)), σ3)
  else
    cb (s_X9_in (Int32.toInt64 (p2 : Int32)) (0) (10) σ3) fun v6 σ5 =>
    if v6 = 0 then
      some (((-1)), σ5)
    else
      (ck 9 σ5 h0).bind fun u7 =>
      cb (s_X9_layStrides h0 (p1) σ5) fun v9 σ8 =>
      (ck 9 σ8 h0).bind fun u10 =>
      cb (s_X9_nearBy h0 (p1) (p2) (0) σ8) fun v12 σ11 =>
      some ((v12), σ11)
set_option maxRecDepth 100000 in
theorem c_X9_near {E : E0} (hE : EOK E) {h0 : Nat} {p1 : Int32} {p2 : Int32} {σ σ1 : Hp} {r : Int32} (h : s_X9_near h0 p1 p2 σ = some (r, σ1)) : CT E yX9_near (.code yX9_near cX9_near 3 (some .int)) rm_X9_near [tR (some (h0)), tI (p1), tI (p2)] σ (some (tI r)) σ1 := by
  refine CT.mk hE (by decide +kernel) (Nat.le_of_ble_eq_true rfl) [(0, tR (some (h0))), (1, tI (p1)), (2, tI (p2))] rfl (fun X C hin hx hxn => ?_)
  have C : XOK E X cX9_near RX9 3 (some .int) rm_X9_near := C
  unfold s_X9_near at h
  refine g_aload_n (pc := 0) C 0 0 dX9_near_0 rfl rfl ?_
  refine g_iconst (v := 0) (pc := 1) C dX9_near_1 (by decide) ?_
  obtain ⟨σ1, hvσ1, h⟩ := zbind h
  refine g_putI (N := 58) (pc := 2) C ⟨ck_9, rfl, tyX9_ok⟩ hvσ1 rfl fl_X9_161 rfl rfl dX9_near_2 ?_
  refine g_aload_n (pc := 5) C 0 0 dX9_near_5 rfl rfl ?_
  refine g_iload_n (pc := 6) C 1 1 dX9_near_6 rfl rfl ?_
  obtain ⟨u2, hvu2, h⟩ := zbind h
  obtain ⟨v4, σ3, hvσ3, h⟩ := zcb h
  refine g_callV (pc := 7) (av := [tI (p1)]) C (c_X9_isFolk hE hvσ3) yv_X9_isFolk ml_X9_209 ck_9 (zopt hvu2).1 rfl (rf_of (by decide)) rfl (Nat.le_of_ble_eq_true rfl) dX9_near_7 ?_
  refine g_if_eq (pc := 10) C 25 dX9_near_10 (by decide) (fun c14 => ?_) (fun c14 => ?_)
  · have h := zif_t c14 h
    refine g_iconst (v := (-1)) (pc := 25) C dX9_near_25 (by decide) ?_
    obtain ⟨rfl, rfl⟩ := zsome h
    exact g_iret (pc := 26) C rfl hx (by rw [hxn]; rfl) (by rw [hxn]; rfl) dX9_near_26
  · have h := zif_f c14 h
    refine g_iload_n (pc := 13) C 2 2 dX9_near_13 rfl rfl ?_
    refine g_i2l (pc := 14) C dX9_near_14 ?_
    refine g_lconst (v := 0) (pc := 15) C dX9_near_15 (by decide) ?_
    refine g_ldc2 (v := 10) (pc := 16) C dX9_near_16 kl_X9_237 ?_
    obtain ⟨v6, σ5, hvσ5, h⟩ := zcb h
    refine g_callS (pc := 19) (av := [tJ (Int32.toInt64 (p2 : Int32)), tJ (0), tJ (10)]) C (c_X9_in hE hvσ5) ys_X9_in ml_X9_181 rfl (rf_of (by decide)) rfl (Nat.le_of_ble_eq_true rfl) dX9_near_19 ?_
    refine g_if_ne (pc := 22) C 27 dX9_near_22 (by decide) (fun c13 => ?_) (fun c13 => ?_)
    · have h := zif_f c13 h
      refine g_aload_n (pc := 27) C 0 0 dX9_near_27 rfl rfl ?_
      refine g_iload_n (pc := 28) C 1 1 dX9_near_28 rfl rfl ?_
      obtain ⟨u7, hvu7, h⟩ := zbind h
      obtain ⟨v9, σ8, hvσ8, h⟩ := zcb h
      refine g_callV (pc := 29) (av := [tI (p1)]) C (c_X9_layStrides hE hvσ8) yv_X9_layStrides ml_X9_473 ck_9 (zopt hvu7).1 rfl (rf_of (by decide)) rfl (Nat.le_of_ble_eq_true rfl) dX9_near_29 ?_
      refine g_aload_n (pc := 32) C 0 0 dX9_near_32 rfl rfl ?_
      refine g_iload_n (pc := 33) C 1 1 dX9_near_33 rfl rfl ?_
      refine g_iload_n (pc := 34) C 2 2 dX9_near_34 rfl rfl ?_
      refine g_iconst (v := 0) (pc := 35) C dX9_near_35 (by decide) ?_
      obtain ⟨u10, hvu10, h⟩ := zbind h
      obtain ⟨v12, σ11, hvσ11, h⟩ := zcb h
      refine g_callV (pc := 36) (av := [tI (p1), tI (p2), tI (0)]) C (c_X9_nearBy hE hvσ11) yv_X9_nearBy ml_X9_476 ck_9 (zopt hvu10).1 rfl (rf_of (by decide)) rfl (Nat.le_of_ble_eq_true rfl) dX9_near_36 ?_
      obtain ⟨rfl, rfl⟩ := zsome h
      exact g_iret (pc := 39) C rfl hx (by rw [hxn]; rfl) (by rw [hxn]; rfl) dX9_near_39
    · have h := zif_t c13 h
      refine g_iconst (v := (-1)) (pc := 25) C dX9_near_25 (by decide) ?_
      obtain ⟨rfl, rfl⟩ := zsome h
      exact g_iret (pc := 26) C rfl hx (by rw [hxn]; rfl) (by rw [hxn]; rfl) dX9_near_26
def rm_X9_cut : Room := { frames := 7, cells := 0, slots := 0, locals := 173 }
noncomputable def s_X9_cut_j135 (h0 : Nat) (l1 : Int32) (l2 : Int32) (l3 : Int32) (l4 : Int32) (l5 : Int32) (l6 : Int32) (l7 : Int32) (σ : Hp) : Option (((Nat × Int32 × Int32 × Int32 × Int32 × Int32 × Int32 × Int32) ⊕ ((Int32 × Int32 × Int32))) × Hp) :=
  some (Sum.inl ((h0), (l1), (l2), (l3), (l4), (l5), (l6), (l7 + 1)), σ)
set_option maxRecDepth 100000 in
theorem w_X9_cut_j135 {E : E0} (hE : EOK E) {X : X0} (C : XOK E X cX9_cut RX9 8 (some .int) rm_X9_cut) (hxn : xn X = (rm_X9_cut.cells, rm_X9_cut.slots)) {KE : ((Int32 × Int32 × Int32)) → Hp → Prop} (e_141 : ∀ (l3 : Int32) (l5 : Int32) (l6 : Int32) (σ : Hp), KE ((l3, l5, l6)) σ → G E X 0 0 141 [(3, tI (l3)), (5, tI (l5)), (6, tI (l6))] [] σ) (h0 : Nat) (l1 : Int32) (l2 : Int32) (l3 : Int32) (l4 : Int32) (l5 : Int32) (l6 : Int32) (l7 : Int32) (σ : Hp) (x : (Nat × Int32 × Int32 × Int32 × Int32 × Int32 × Int32 × Int32) ⊕ ((Int32 × Int32 × Int32))) (σ1 : Hp) (h : s_X9_cut_j135 h0 l1 l2 l3 l4 l5 l6 l7 σ = some (x, σ1)) (hI : ∀ v, x = Sum.inl v → (fun (v : Nat × Int32 × Int32 × Int32 × Int32 × Int32 × Int32 × Int32) (σ : Hp) => G E X 0 0 81 [(0, tR (some ((v.1)))), (1, tI ((v.2.1))), (2, tI ((v.2.2.1))), (3, tI ((v.2.2.2.1))), (4, tI ((v.2.2.2.2.1))), (5, tI ((v.2.2.2.2.2.1))), (6, tI ((v.2.2.2.2.2.2.1))), (7, tI ((v.2.2.2.2.2.2.2)))] [] σ) v σ1) (hO : ∀ e, x = Sum.inr e → KE e σ1) : G E X 0 0 135 [(0, tR (some (h0))), (1, tI (l1)), (2, tI (l2)), (3, tI (l3)), (4, tI (l4)), (5, tI (l5)), (6, tI (l6)), (7, tI (l7))] [] σ := by
  unfold s_X9_cut_j135 at h
  refine g_iinc (lm' := [(7, tI (l7 + 1)), (0, tR (some (h0))), (1, tI (l1)), (2, tI (l2)), (3, tI (l3)), (4, tI (l4)), (5, tI (l5)), (6, tI (l6))]) (v := l7 + 1) (pc := 135) C 7 dX9_cut_135 rfl rfl (by decide) rfl ?_
  refine g_goto (pc := 138) C 81 dX9_cut_138 (by decide) ?_
  refine g_sub [1, 2, 3, 4, 5, 6, 7, 0] (lm' := [(0, tR (some (h0))), (1, tI (l1)), (2, tI (l2)), (3, tI (l3)), (4, tI (l4)), (5, tI (l5)), (6, tI (l6)), (7, tI (l7 + 1))]) rfl ?_
  obtain ⟨rfl, rfl⟩ := zsome h
  exact hI _ rfl
noncomputable def s_X9_cut_b81 (h0 : Nat) (l1 : Int32) (l2 : Int32) (l3 : Int32) (l4 : Int32) (l5 : Int32) (l6 : Int32) (l7 : Int32) (σ : Hp) : Option (((Nat × Int32 × Int32 × Int32 × Int32 × Int32 × Int32 × Int32) ⊕ ((Int32 × Int32 × Int32))) × Hp) :=
  if l4 < l7 then
    some (Sum.inr ((l3), (l5), (l6)), σ)
  else
    if (l7 &&& (l4 ^^^ (-1))) = 0 then
      cb (s_X9_ones (l7) σ) fun v2 σ1 =>
      if l5 ≤ v2 then
        s_X9_cut_j135 (h0) (l1) (l2) (l3) (l4) (l5) (l6) (l7) σ1
      else
        (ck 9 σ1 h0).bind fun u3 =>
        cb (s_X9_nearBy h0 (l1) (10) (l7) σ1) fun v5 σ4 =>
        cb (s_X9_is (v5) (l2) σ4) fun v7 σ6 =>
        if v7 = 0 then
          cb (s_X9_ones (l7) σ6) fun v9 σ8 =>
          s_X9_cut_j135 (h0) (l1) (l2) (l3) (l4) (v9) (l7) (l7) σ8
        else
          s_X9_cut_j135 (h0) (l1) (l2) (l3) (l4) (l5) (l6) (l7) σ6
    else
      s_X9_cut_j135 (h0) (l1) (l2) (l3) (l4) (l5) (l6) (l7) σ
noncomputable def s_X9_cut_l81 : (Nat × Int32 × Int32 × Int32 × Int32 × Int32 × Int32 × Int32) → Hp → Option (((Int32 × Int32 × Int32)) × Hp) := loopF (fun v => s_X9_cut_b81 (v.1) (v.2.1) (v.2.2.1) (v.2.2.2.1) (v.2.2.2.2.1) (v.2.2.2.2.2.1) (v.2.2.2.2.2.2.1) (v.2.2.2.2.2.2.2))
set_option maxRecDepth 100000 in
theorem w_X9_cut_b81 {E : E0} (hE : EOK E) {X : X0} (C : XOK E X cX9_cut RX9 8 (some .int) rm_X9_cut) (hxn : xn X = (rm_X9_cut.cells, rm_X9_cut.slots)) {KE : ((Int32 × Int32 × Int32)) → Hp → Prop} (e_141 : ∀ (l3 : Int32) (l5 : Int32) (l6 : Int32) (σ : Hp), KE ((l3, l5, l6)) σ → G E X 0 0 141 [(3, tI (l3)), (5, tI (l5)), (6, tI (l6))] [] σ) (h0 : Nat) (l1 : Int32) (l2 : Int32) (l3 : Int32) (l4 : Int32) (l5 : Int32) (l6 : Int32) (l7 : Int32) (σ : Hp) (x : (Nat × Int32 × Int32 × Int32 × Int32 × Int32 × Int32 × Int32) ⊕ ((Int32 × Int32 × Int32))) (σ1 : Hp) (h : s_X9_cut_b81 h0 l1 l2 l3 l4 l5 l6 l7 σ = some (x, σ1)) (hI : ∀ v, x = Sum.inl v → (fun (v : Nat × Int32 × Int32 × Int32 × Int32 × Int32 × Int32 × Int32) (σ : Hp) => G E X 0 0 81 [(0, tR (some ((v.1)))), (1, tI ((v.2.1))), (2, tI ((v.2.2.1))), (3, tI ((v.2.2.2.1))), (4, tI ((v.2.2.2.2.1))), (5, tI ((v.2.2.2.2.2.1))), (6, tI ((v.2.2.2.2.2.2.1))), (7, tI ((v.2.2.2.2.2.2.2)))] [] σ) v σ1) (hO : ∀ e, x = Sum.inr e → KE e σ1) : G E X 0 0 81 [(0, tR (some (h0))), (1, tI (l1)), (2, tI (l2)), (3, tI (l3)), (4, tI (l4)), (5, tI (l5)), (6, tI (l6)), (7, tI (l7))] [] σ := by
  unfold s_X9_cut_b81 at h
  refine g_iload (pc := 81) C 7 dX9_cut_81 rfl ?_
  refine g_iload (pc := 83) C 4 dX9_cut_83 rfl ?_
  refine g_icmp_gt (pc := 85) C 141 dX9_cut_85 (by decide) (fun c13 => ?_) (fun c13 => ?_)
  · have h := zif_t c13 h
    refine g_sub [3, 5, 6] (lm' := [(3, tI (l3)), (5, tI (l5)), (6, tI (l6))]) rfl ?_
    obtain ⟨rfl, rfl⟩ := zsome h
    exact e_141 _ _ _ _ (hO _ rfl)
  · have h := zif_f c13 h
    refine g_iload (pc := 88) C 7 dX9_cut_88 rfl ?_
    refine g_iload (pc := 90) C 4 dX9_cut_90 rfl ?_
    refine g_iconst (v := (-1)) (pc := 92) C dX9_cut_92 (by decide) ?_
    refine g_ixor (pc := 93) C dX9_cut_93 ?_
    refine g_iand (pc := 94) C dX9_cut_94 ?_
    refine g_if_ne (pc := 95) C 135 dX9_cut_95 (by decide) (fun c12 => ?_) (fun c12 => ?_)
    · have h := zif_f c12 h
      exact w_X9_cut_j135 hE C hxn e_141 _ _ _ _ _ _ _ _ _ _ _ h hI hO
    · have h := zif_t c12 h
      refine g_iload (pc := 98) C 7 dX9_cut_98 rfl ?_
      obtain ⟨v2, σ1, hvσ1, h⟩ := zcb h
      refine g_callS (pc := 100) (av := [tI (l7)]) C (c_X9_ones hE hvσ1) ys_X9_ones ml_X9_481 rfl (rf_of (by decide)) rfl (Nat.le_of_ble_eq_true rfl) dX9_cut_100 ?_
      refine g_iload (pc := 103) C 5 dX9_cut_103 rfl ?_
      refine g_icmp_ge (pc := 105) C 135 dX9_cut_105 (by decide) (fun c11 => ?_) (fun c11 => ?_)
      · have h := zif_t c11 h
        exact w_X9_cut_j135 hE C hxn e_141 _ _ _ _ _ _ _ _ _ _ _ h hI hO
      · have h := zif_f c11 h
        refine g_aload_n (pc := 108) C 0 0 dX9_cut_108 rfl rfl ?_
        refine g_iload_n (pc := 109) C 1 1 dX9_cut_109 rfl rfl ?_
        refine g_bipush (v := 10) (pc := 110) C dX9_cut_110 (by decide) ?_
        refine g_iload (pc := 112) C 7 dX9_cut_112 rfl ?_
        obtain ⟨u3, hvu3, h⟩ := zbind h
        obtain ⟨v5, σ4, hvσ4, h⟩ := zcb h
        refine g_callV (pc := 114) (av := [tI (l1), tI (10), tI (l7)]) C (c_X9_nearBy hE hvσ4) yv_X9_nearBy ml_X9_476 ck_9 (zopt hvu3).1 rfl (rf_of (by decide)) rfl (Nat.le_of_ble_eq_true rfl) dX9_cut_114 ?_
        refine g_iload_n (pc := 117) C 2 2 dX9_cut_117 rfl rfl ?_
        obtain ⟨v7, σ6, hvσ6, h⟩ := zcb h
        refine g_callS (pc := 118) (av := [tI (v5), tI (l2)]) C (c_X9_is hE hvσ6) ys_X9_is ml_X9_438 rfl (rf_of (by decide)) rfl (Nat.le_of_ble_eq_true rfl) dX9_cut_118 ?_
        refine g_if_ne (pc := 121) C 135 dX9_cut_121 (by decide) (fun c10 => ?_) (fun c10 => ?_)
        · have h := zif_f c10 h
          exact w_X9_cut_j135 hE C hxn e_141 _ _ _ _ _ _ _ _ _ _ _ h hI hO
        · have h := zif_t c10 h
          refine g_iload (pc := 124) C 7 dX9_cut_124 rfl ?_
          obtain ⟨v9, σ8, hvσ8, h⟩ := zcb h
          refine g_callS (pc := 126) (av := [tI (l7)]) C (c_X9_ones hE hvσ8) ys_X9_ones ml_X9_481 rfl (rf_of (by decide)) rfl (Nat.le_of_ble_eq_true rfl) dX9_cut_126 ?_
          refine g_istore (lm' := [(5, tI (v9)), (0, tR (some (h0))), (1, tI (l1)), (2, tI (l2)), (3, tI (l3)), (4, tI (l4)), (6, tI (l6)), (7, tI (l7))]) (pc := 129) C dX9_cut_129 (by decide) rfl ?_
          refine g_iload (pc := 131) C 7 dX9_cut_131 rfl ?_
          refine g_istore (lm' := [(6, tI (l7)), (5, tI (v9)), (0, tR (some (h0))), (1, tI (l1)), (2, tI (l2)), (3, tI (l3)), (4, tI (l4)), (7, tI (l7))]) (pc := 133) C dX9_cut_133 (by decide) rfl ?_
          refine g_sub [2, 3, 4, 5, 6, 1, 0, 7] (lm' := [(0, tR (some (h0))), (1, tI (l1)), (2, tI (l2)), (3, tI (l3)), (4, tI (l4)), (5, tI (v9)), (6, tI (l7)), (7, tI (l7))]) rfl ?_
          exact w_X9_cut_j135 hE C hxn e_141 _ _ _ _ _ _ _ _ _ _ _ h hI hO
theorem w_X9_cut_l81 {E : E0} (hE : EOK E) {X : X0} (C : XOK E X cX9_cut RX9 8 (some .int) rm_X9_cut) (hxn : xn X = (rm_X9_cut.cells, rm_X9_cut.slots)) {KE : ((Int32 × Int32 × Int32)) → Hp → Prop} (e_141 : ∀ (l3 : Int32) (l5 : Int32) (l6 : Int32) (σ : Hp), KE ((l3, l5, l6)) σ → G E X 0 0 141 [(3, tI (l3)), (5, tI (l5)), (6, tI (l6))] [] σ) {v : Nat × Int32 × Int32 × Int32 × Int32 × Int32 × Int32 × Int32} {σ : Hp} {e : (Int32 × Int32 × Int32)} {σ1 : Hp} (h : s_X9_cut_l81 v σ = some (e, σ1)) (hO : KE e σ1) : G E X 0 0 81 [(0, tR (some ((v.1)))), (1, tI ((v.2.1))), (2, tI ((v.2.2.1))), (3, tI ((v.2.2.2.1))), (4, tI ((v.2.2.2.2.1))), (5, tI ((v.2.2.2.2.2.1))), (6, tI ((v.2.2.2.2.2.2.1))), (7, tI ((v.2.2.2.2.2.2.2)))] [] σ := loopF_ind (P := fun (v : Nat × Int32 × Int32 × Int32 × Int32 × Int32 × Int32 × Int32) (σ : Hp) => G E X 0 0 81 [(0, tR (some ((v.1)))), (1, tI ((v.2.1))), (2, tI ((v.2.2.1))), (3, tI ((v.2.2.2.1))), (4, tI ((v.2.2.2.2.1))), (5, tI ((v.2.2.2.2.2.1))), (6, tI ((v.2.2.2.2.2.2.1))), (7, tI ((v.2.2.2.2.2.2.2)))] [] σ) (KE := KE) (fun v σ x σ1 h hI hO => w_X9_cut_b81 hE C hxn e_141 (v.1) (v.2.1) (v.2.2.1) (v.2.2.2.1) (v.2.2.2.2.1) (v.2.2.2.2.2.1) (v.2.2.2.2.2.2.1) (v.2.2.2.2.2.2.2) σ x σ1 h hI hO) v σ e σ1 h hO
noncomputable def s_X9_cut (h0 : Nat) (p1 : Int32) (p2 : Int32) (p3 : Int32) (σ : Hp) : Option (Int32 × Hp) :=
  (wrI 9 σ h0 0 (0)).bind fun σ1 =>
  (ck 9 σ1 h0).bind fun u2 =>
  cb (s_X9_isFolk h0 (p1) σ1) fun v4 σ3 =>
  if v4 = 0 then
    some (((-1)), σ3)
  else
    (ck 9 σ3 h0).bind fun u5 =>
    cb (s_X9_isPerch h0 (p2) σ3) fun v7 σ6 =>
    if v7 = 0 then
      some (((-1)), σ6)
    else
      cb (s_X9_in (Int32.toInt64 (p3 : Int32)) (0) (1) σ6) fun v9 σ8 =>
      if v9 = 0 then
        some (((-1)), σ8)
      else
        (ck 9 σ8 h0).bind fun u10 =>
        cb (s_X9_layStrides h0 (p1) σ8) fun v12 σ11 =>
        (rdR 9 σ11 h0 3).bind fun r13 =>
        (r13).bind fun a14 =>
        (ldI 11 σ11 a14 (0)).bind fun v15 =>
        (rdR 9 σ11 h0 3).bind fun r16 =>
        (r16).bind fun a17 =>
        (ldI 11 σ11 a17 (17 + p1)).bind fun v18 =>
        cb (s_X9_cut_l81 ((h0), (p1), (p2), (p3), (((((1 : Int32) <<< (v15 &&& 31)) - 1) &&& (((1 : Int32) <<< (p2 &&& 31)) ^^^ (-1))) &&& (((1 : Int32) <<< (v18 &&& 31)) ^^^ (-1))), (100000000), ((-1)), (0)) σ11) fun e27 σ26 =>
        match e27 with
        | (l319, l520, l621) =>
          if l621 = (-1) then
            some ((l621), σ26)
          else
            if l319 = 1 then
              some ((l621), σ26)
            else
              some ((l520), σ26)
set_option maxRecDepth 100000 in
theorem c_X9_cut {E : E0} (hE : EOK E) {h0 : Nat} {p1 : Int32} {p2 : Int32} {p3 : Int32} {σ σ1 : Hp} {r : Int32} (h : s_X9_cut h0 p1 p2 p3 σ = some (r, σ1)) : CT E yX9_cut (.code yX9_cut cX9_cut 8 (some .int)) rm_X9_cut [tR (some (h0)), tI (p1), tI (p2), tI (p3)] σ (some (tI r)) σ1 := by
  refine CT.mk hE (by decide +kernel) (Nat.le_of_ble_eq_true rfl) [(0, tR (some (h0))), (1, tI (p1)), (2, tI (p2)), (3, tI (p3))] rfl (fun X C hin hx hxn => ?_)
  have C : XOK E X cX9_cut RX9 8 (some .int) rm_X9_cut := C
  unfold s_X9_cut at h
  refine g_aload_n (pc := 0) C 0 0 dX9_cut_0 rfl rfl ?_
  refine g_iconst (v := 0) (pc := 1) C dX9_cut_1 (by decide) ?_
  obtain ⟨σ1, hvσ1, h⟩ := zbind h
  refine g_putI (N := 58) (pc := 2) C ⟨ck_9, rfl, tyX9_ok⟩ hvσ1 rfl fl_X9_161 rfl rfl dX9_cut_2 ?_
  refine g_aload_n (pc := 5) C 0 0 dX9_cut_5 rfl rfl ?_
  refine g_iload_n (pc := 6) C 1 1 dX9_cut_6 rfl rfl ?_
  obtain ⟨u2, hvu2, h⟩ := zbind h
  obtain ⟨v4, σ3, hvσ3, h⟩ := zcb h
  refine g_callV (pc := 7) (av := [tI (p1)]) C (c_X9_isFolk hE hvσ3) yv_X9_isFolk ml_X9_209 ck_9 (zopt hvu2).1 rfl (rf_of (by decide)) rfl (Nat.le_of_ble_eq_true rfl) dX9_cut_7 ?_
  refine g_if_eq (pc := 10) C 31 dX9_cut_10 (by decide) (fun c30 => ?_) (fun c30 => ?_)
  · have h := zif_t c30 h
    refine g_iconst (v := (-1)) (pc := 31) C dX9_cut_31 (by decide) ?_
    obtain ⟨rfl, rfl⟩ := zsome h
    exact g_iret (pc := 32) C rfl hx (by rw [hxn]; rfl) (by rw [hxn]; rfl) dX9_cut_32
  · have h := zif_f c30 h
    refine g_aload_n (pc := 13) C 0 0 dX9_cut_13 rfl rfl ?_
    refine g_iload_n (pc := 14) C 2 2 dX9_cut_14 rfl rfl ?_
    obtain ⟨u5, hvu5, h⟩ := zbind h
    obtain ⟨v7, σ6, hvσ6, h⟩ := zcb h
    refine g_callV (pc := 15) (av := [tI (p2)]) C (c_X9_isPerch hE hvσ6) yv_X9_isPerch ml_X9_196 ck_9 (zopt hvu5).1 rfl (rf_of (by decide)) rfl (Nat.le_of_ble_eq_true rfl) dX9_cut_15 ?_
    refine g_if_eq (pc := 18) C 31 dX9_cut_18 (by decide) (fun c29 => ?_) (fun c29 => ?_)
    · have h := zif_t c29 h
      refine g_iconst (v := (-1)) (pc := 31) C dX9_cut_31 (by decide) ?_
      obtain ⟨rfl, rfl⟩ := zsome h
      exact g_iret (pc := 32) C rfl hx (by rw [hxn]; rfl) (by rw [hxn]; rfl) dX9_cut_32
    · have h := zif_f c29 h
      refine g_iload_n (pc := 21) C 3 3 dX9_cut_21 rfl rfl ?_
      refine g_i2l (pc := 22) C dX9_cut_22 ?_
      refine g_lconst (v := 0) (pc := 23) C dX9_cut_23 (by decide) ?_
      refine g_lconst (v := 1) (pc := 24) C dX9_cut_24 (by decide) ?_
      obtain ⟨v9, σ8, hvσ8, h⟩ := zcb h
      refine g_callS (pc := 25) (av := [tJ (Int32.toInt64 (p3 : Int32)), tJ (0), tJ (1)]) C (c_X9_in hE hvσ8) ys_X9_in ml_X9_181 rfl (rf_of (by decide)) rfl (Nat.le_of_ble_eq_true rfl) dX9_cut_25 ?_
      refine g_if_ne (pc := 28) C 33 dX9_cut_28 (by decide) (fun c28 => ?_) (fun c28 => ?_)
      · have h := zif_f c28 h
        refine g_aload_n (pc := 33) C 0 0 dX9_cut_33 rfl rfl ?_
        refine g_iload_n (pc := 34) C 1 1 dX9_cut_34 rfl rfl ?_
        obtain ⟨u10, hvu10, h⟩ := zbind h
        obtain ⟨v12, σ11, hvσ11, h⟩ := zcb h
        refine g_callV (pc := 35) (av := [tI (p1)]) C (c_X9_layStrides hE hvσ11) yv_X9_layStrides ml_X9_473 ck_9 (zopt hvu10).1 rfl (rf_of (by decide)) rfl (Nat.le_of_ble_eq_true rfl) dX9_cut_35 ?_
        refine g_iconst (v := 1) (pc := 38) C dX9_cut_38 (by decide) ?_
        refine g_aload_n (pc := 39) C 0 0 dX9_cut_39 rfl rfl ?_
        obtain ⟨r13, hvr13, h⟩ := zbind h
        refine g_getR (N := 58) (pc := 40) C ck_9 hvr13 rfl rfl fl_X9_13 dX9_cut_40 ?_
        refine g_iconst (v := 0) (pc := 43) C dX9_cut_43 (by decide) ?_
        obtain ⟨a14, hqa14, h9⟩ := zbind h
        clear h
        subst hqa14
        have h := h9
        clear h9
        obtain ⟨v15, hvv15, h⟩ := zbind h
        refine g_iald (pc := 44) C hvv15 dX9_cut_44 ?_
        refine g_ishl (pc := 45) C dX9_cut_45 ?_
        refine g_iconst (v := 1) (pc := 46) C dX9_cut_46 (by decide) ?_
        refine g_isub (pc := 47) C dX9_cut_47 ?_
        refine g_iconst (v := 1) (pc := 48) C dX9_cut_48 (by decide) ?_
        refine g_iload_n (pc := 49) C 2 2 dX9_cut_49 rfl rfl ?_
        refine g_ishl (pc := 50) C dX9_cut_50 ?_
        refine g_iconst (v := (-1)) (pc := 51) C dX9_cut_51 (by decide) ?_
        refine g_ixor (pc := 52) C dX9_cut_52 ?_
        refine g_iand (pc := 53) C dX9_cut_53 ?_
        refine g_iconst (v := 1) (pc := 54) C dX9_cut_54 (by decide) ?_
        refine g_aload_n (pc := 55) C 0 0 dX9_cut_55 rfl rfl ?_
        obtain ⟨r16, hvr16, h⟩ := zbind h
        refine g_getR (N := 58) (pc := 56) C ck_9 hvr16 rfl rfl fl_X9_13 dX9_cut_56 ?_
        refine g_bipush (v := 17) (pc := 59) C dX9_cut_59 (by decide) ?_
        refine g_iload_n (pc := 61) C 1 1 dX9_cut_61 rfl rfl ?_
        refine g_iadd (pc := 62) C dX9_cut_62 ?_
        obtain ⟨a17, hqa17, h9⟩ := zbind h
        clear h
        subst hqa17
        have h := h9
        clear h9
        obtain ⟨v18, hvv18, h⟩ := zbind h
        refine g_iald (pc := 63) C hvv18 dX9_cut_63 ?_
        refine g_ishl (pc := 64) C dX9_cut_64 ?_
        refine g_iconst (v := (-1)) (pc := 65) C dX9_cut_65 (by decide) ?_
        refine g_ixor (pc := 66) C dX9_cut_66 ?_
        refine g_iand (pc := 67) C dX9_cut_67 ?_
        refine g_istore (lm' := [(4, tI (((((1 : Int32) <<< (v15 &&& 31)) - 1) &&& (((1 : Int32) <<< (p2 &&& 31)) ^^^ (-1))) &&& (((1 : Int32) <<< (v18 &&& 31)) ^^^ (-1)))), (0, tR (some (h0))), (1, tI (p1)), (2, tI (p2)), (3, tI (p3))]) (pc := 68) C dX9_cut_68 (by decide) rfl ?_
        refine g_ldcw (v := 100000000) (pc := 70) C dX9_cut_70 kc_X9_480 ?_
        refine g_istore (lm' := [(5, tI (100000000)), (4, tI (((((1 : Int32) <<< (v15 &&& 31)) - 1) &&& (((1 : Int32) <<< (p2 &&& 31)) ^^^ (-1))) &&& (((1 : Int32) <<< (v18 &&& 31)) ^^^ (-1)))), (0, tR (some (h0))), (1, tI (p1)), (2, tI (p2)), (3, tI (p3))]) (pc := 73) C dX9_cut_73 (by decide) rfl ?_
        refine g_iconst (v := (-1)) (pc := 75) C dX9_cut_75 (by decide) ?_
        refine g_istore (lm' := [(6, tI ((-1))), (5, tI (100000000)), (4, tI (((((1 : Int32) <<< (v15 &&& 31)) - 1) &&& (((1 : Int32) <<< (p2 &&& 31)) ^^^ (-1))) &&& (((1 : Int32) <<< (v18 &&& 31)) ^^^ (-1)))), (0, tR (some (h0))), (1, tI (p1)), (2, tI (p2)), (3, tI (p3))]) (pc := 76) C dX9_cut_76 (by decide) rfl ?_
        refine g_iconst (v := 0) (pc := 78) C dX9_cut_78 (by decide) ?_
        refine g_istore (lm' := [(7, tI (0)), (6, tI ((-1))), (5, tI (100000000)), (4, tI (((((1 : Int32) <<< (v15 &&& 31)) - 1) &&& (((1 : Int32) <<< (p2 &&& 31)) ^^^ (-1))) &&& (((1 : Int32) <<< (v18 &&& 31)) ^^^ (-1)))), (0, tR (some (h0))), (1, tI (p1)), (2, tI (p2)), (3, tI (p3))]) (pc := 79) C dX9_cut_79 (by decide) rfl ?_
        refine g_sub [4, 5, 6, 7, 3, 2, 1, 0] (lm' := [(0, tR (some (h0))), (1, tI (p1)), (2, tI (p2)), (3, tI (p3)), (4, tI (((((1 : Int32) <<< (v15 &&& 31)) - 1) &&& (((1 : Int32) <<< (p2 &&& 31)) ^^^ (-1))) &&& (((1 : Int32) <<< (v18 &&& 31)) ^^^ (-1)))), (5, tI (100000000)), (6, tI ((-1))), (7, tI (0))]) rfl ?_
        obtain ⟨KQ, hKQ, e27, σ26, hle27, h⟩ := zcbK h
        refine w_X9_cut_l81 (KE := KQ) hE C hxn ?_ hle27 h
        · intro l319 l520 l621 σ22 h
          have h := (hKQ _ _).mp h
          refine g_iload (pc := 141) C 2 dX9_cut_141 rfl ?_
          refine g_iconst (v := (-1)) (pc := 143) C dX9_cut_143 (by decide) ?_
          refine g_icmp_eq (pc := 144) C 152 dX9_cut_144 (by decide) (fun c24 => ?_) (fun c24 => ?_)
          · have h := zif_t c24 h
            refine g_iload (pc := 152) C 2 dX9_cut_152 rfl ?_
            refine g_goto (pc := 154) C 159 dX9_cut_154 (by decide) ?_
            obtain ⟨rfl, rfl⟩ := zsome h
            exact g_iret (pc := 159) C rfl hx (by rw [hxn]; rfl) (by rw [hxn]; rfl) dX9_cut_159
          · have h := zif_f c24 h
            refine g_iload_n (pc := 147) C 3 0 dX9_cut_147 rfl rfl ?_
            refine g_iconst (v := 1) (pc := 148) C dX9_cut_148 (by decide) ?_
            refine g_icmp_ne (pc := 149) C 157 dX9_cut_149 (by decide) (fun c23 => ?_) (fun c23 => ?_)
            · have h := zif_f c23 h
              refine g_iload (pc := 157) C 1 dX9_cut_157 rfl ?_
              obtain ⟨rfl, rfl⟩ := zsome h
              exact g_iret (pc := 159) C rfl hx (by rw [hxn]; rfl) (by rw [hxn]; rfl) dX9_cut_159
            · have h := zif_t c23 h
              refine g_iload (pc := 152) C 2 dX9_cut_152 rfl ?_
              refine g_goto (pc := 154) C 159 dX9_cut_154 (by decide) ?_
              obtain ⟨rfl, rfl⟩ := zsome h
              exact g_iret (pc := 159) C rfl hx (by rw [hxn]; rfl) (by rw [hxn]; rfl) dX9_cut_159
      · have h := zif_t c28 h
        refine g_iconst (v := (-1)) (pc := 31) C dX9_cut_31 (by decide) ?_
        obtain ⟨rfl, rfl⟩ := zsome h
        exact g_iret (pc := 32) C rfl hx (by rw [hxn]; rfl) (by rw [hxn]; rfl) dX9_cut_32
def rm_X9_isSafeAllDay : Room := { frames := 7, cells := 0, slots := 0, locals := 167 }
noncomputable def s_X9_isSafeAllDay_j48 (h0 : Nat) (l1 : Int32) (l2 : Int32) (l4 : Int32) (t0 : Int32) (σ : Hp) : Option (((Nat × Int32 × Int32 × Int32 × Int32) ⊕ (Int32)) × Hp) :=
  some (Sum.inl ((h0), (l1), (l2), (t0), (l4 + 1)), σ)
set_option maxRecDepth 100000 in
theorem w_X9_isSafeAllDay_j48 {E : E0} (hE : EOK E) {X : X0} (C : XOK E X cX9_isSafeAllDay RX9 5 (some .boolean) rm_X9_isSafeAllDay) (hxn : xn X = (rm_X9_isSafeAllDay.cells, rm_X9_isSafeAllDay.slots)) {KE : (Int32) → Hp → Prop} (e_ret : ∀ (r : Int32) (σ : Hp), KE (r) σ → xd X = (some (tI r), σ)) (h0 : Nat) (l1 : Int32) (l2 : Int32) (l4 : Int32) (t0 : Int32) (σ : Hp) (x : (Nat × Int32 × Int32 × Int32 × Int32) ⊕ (Int32)) (σ1 : Hp) (h : s_X9_isSafeAllDay_j48 h0 l1 l2 l4 t0 σ = some (x, σ1)) (hI : ∀ v, x = Sum.inl v → (fun (v : Nat × Int32 × Int32 × Int32 × Int32) (σ : Hp) => G E X 0 0 13 [(0, tR (some ((v.1)))), (1, tI ((v.2.1))), (2, tI ((v.2.2.1))), (3, tI ((v.2.2.2.1))), (4, tI ((v.2.2.2.2)))] [] σ) v σ1) (hO : ∀ e, x = Sum.inr e → KE e σ1) : G E X 0 0 48 [(0, tR (some (h0))), (1, tI (l1)), (2, tI (l2)), (4, tI (l4))] [tI (t0)] σ := by
  unfold s_X9_isSafeAllDay_j48 at h
  refine g_istore_n (lm' := [(3, tI (t0)), (0, tR (some (h0))), (1, tI (l1)), (2, tI (l2)), (4, tI (l4))]) (pc := 48) C 3 dX9_isSafeAllDay_48 rfl (by decide) rfl ?_
  refine g_iinc (lm' := [(4, tI (l4 + 1)), (3, tI (t0)), (0, tR (some (h0))), (1, tI (l1)), (2, tI (l2))]) (v := l4 + 1) (pc := 49) C 4 dX9_isSafeAllDay_49 rfl rfl (by decide) rfl ?_
  refine g_goto (pc := 52) C 13 dX9_isSafeAllDay_52 (by decide) ?_
  refine g_sub [2, 3, 4, 1, 0] (lm' := [(0, tR (some (h0))), (1, tI (l1)), (2, tI (l2)), (3, tI (t0)), (4, tI (l4 + 1))]) rfl ?_
  obtain ⟨rfl, rfl⟩ := zsome h
  exact hI _ rfl
noncomputable def s_X9_isSafeAllDay_j47 (h0 : Nat) (l1 : Int32) (l2 : Int32) (l4 : Int32) (σ : Hp) : Option (((Nat × Int32 × Int32 × Int32 × Int32) ⊕ (Int32)) × Hp) :=
  s_X9_isSafeAllDay_j48 (h0) (l1) (l2) (l4) (0) σ
set_option maxRecDepth 100000 in
theorem w_X9_isSafeAllDay_j47 {E : E0} (hE : EOK E) {X : X0} (C : XOK E X cX9_isSafeAllDay RX9 5 (some .boolean) rm_X9_isSafeAllDay) (hxn : xn X = (rm_X9_isSafeAllDay.cells, rm_X9_isSafeAllDay.slots)) {KE : (Int32) → Hp → Prop} (e_ret : ∀ (r : Int32) (σ : Hp), KE (r) σ → xd X = (some (tI r), σ)) (h0 : Nat) (l1 : Int32) (l2 : Int32) (l4 : Int32) (σ : Hp) (x : (Nat × Int32 × Int32 × Int32 × Int32) ⊕ (Int32)) (σ1 : Hp) (h : s_X9_isSafeAllDay_j47 h0 l1 l2 l4 σ = some (x, σ1)) (hI : ∀ v, x = Sum.inl v → (fun (v : Nat × Int32 × Int32 × Int32 × Int32) (σ : Hp) => G E X 0 0 13 [(0, tR (some ((v.1)))), (1, tI ((v.2.1))), (2, tI ((v.2.2.1))), (3, tI ((v.2.2.2.1))), (4, tI ((v.2.2.2.2)))] [] σ) v σ1) (hO : ∀ e, x = Sum.inr e → KE e σ1) : G E X 0 0 47 [(0, tR (some (h0))), (1, tI (l1)), (2, tI (l2)), (4, tI (l4))] [] σ := by
  unfold s_X9_isSafeAllDay_j47 at h
  refine g_iconst (v := 0) (pc := 47) C dX9_isSafeAllDay_47 (by decide) ?_
  exact w_X9_isSafeAllDay_j48 hE C hxn e_ret _ _ _ _ _ _ _ _ h hI hO
noncomputable def s_X9_isSafeAllDay_b13 (h0 : Nat) (l1 : Int32) (l2 : Int32) (l3 : Int32) (l4 : Int32) (σ : Hp) : Option (((Nat × Int32 × Int32 × Int32 × Int32) ⊕ (Int32)) × Hp) :=
  if 24 ≤ l4 then
    (rdR 9 σ h0 3).bind fun r1 =>
    (r1).bind fun a2 =>
    (stI σ a2 (7) (l2)).bind fun σ3 =>
    (zbo (l3)).bind fun u4 =>
    some (Sum.inr (l3), σ3)
  else
    (rdR 9 σ h0 3).bind fun r5 =>
    (r5).bind fun a6 =>
    (stI σ a6 (7) (l2 + l4)).bind fun σ7 =>
    if l3 = 0 then
      s_X9_isSafeAllDay_j47 (h0) (l1) (l2) (l4) σ7
    else
      (ck 9 σ7 h0).bind fun u8 =>
      cb (s_X9_isSafe h0 (l1) σ7) fun v10 σ9 =>
      if v10 = 0 then
        s_X9_isSafeAllDay_j47 (h0) (l1) (l2) (l4) σ9
      else
        s_X9_isSafeAllDay_j48 (h0) (l1) (l2) (l4) (1) σ9
noncomputable def s_X9_isSafeAllDay_l13 : (Nat × Int32 × Int32 × Int32 × Int32) → Hp → Option ((Int32) × Hp) := loopF (fun v => s_X9_isSafeAllDay_b13 (v.1) (v.2.1) (v.2.2.1) (v.2.2.2.1) (v.2.2.2.2))
set_option maxRecDepth 100000 in
theorem w_X9_isSafeAllDay_b13 {E : E0} (hE : EOK E) {X : X0} (C : XOK E X cX9_isSafeAllDay RX9 5 (some .boolean) rm_X9_isSafeAllDay) (hxn : xn X = (rm_X9_isSafeAllDay.cells, rm_X9_isSafeAllDay.slots)) {KE : (Int32) → Hp → Prop} (e_ret : ∀ (r : Int32) (σ : Hp), KE (r) σ → xd X = (some (tI r), σ)) (h0 : Nat) (l1 : Int32) (l2 : Int32) (l3 : Int32) (l4 : Int32) (σ : Hp) (x : (Nat × Int32 × Int32 × Int32 × Int32) ⊕ (Int32)) (σ1 : Hp) (h : s_X9_isSafeAllDay_b13 h0 l1 l2 l3 l4 σ = some (x, σ1)) (hI : ∀ v, x = Sum.inl v → (fun (v : Nat × Int32 × Int32 × Int32 × Int32) (σ : Hp) => G E X 0 0 13 [(0, tR (some ((v.1)))), (1, tI ((v.2.1))), (2, tI ((v.2.2.1))), (3, tI ((v.2.2.2.1))), (4, tI ((v.2.2.2.2)))] [] σ) v σ1) (hO : ∀ e, x = Sum.inr e → KE e σ1) : G E X 0 0 13 [(0, tR (some (h0))), (1, tI (l1)), (2, tI (l2)), (3, tI (l3)), (4, tI (l4))] [] σ := by
  unfold s_X9_isSafeAllDay_b13 at h
  refine g_iload (pc := 13) C 4 dX9_isSafeAllDay_13 rfl ?_
  refine g_bipush (v := 24) (pc := 15) C dX9_isSafeAllDay_15 (by decide) ?_
  refine g_icmp_ge (pc := 17) C 55 dX9_isSafeAllDay_17 (by decide) (fun c13 => ?_) (fun c13 => ?_)
  · have h := zif_t c13 h
    refine g_aload_n (pc := 55) C 0 0 dX9_isSafeAllDay_55 rfl rfl ?_
    obtain ⟨r1, hvr1, h⟩ := zbind h
    refine g_getR (N := 58) (pc := 56) C ck_9 hvr1 rfl rfl fl_X9_13 dX9_isSafeAllDay_56 ?_
    refine g_bipush (v := 7) (pc := 59) C dX9_isSafeAllDay_59 (by decide) ?_
    refine g_iload_n (pc := 61) C 2 2 dX9_isSafeAllDay_61 rfl rfl ?_
    obtain ⟨a2, hqa2, h9⟩ := zbind h
    clear h
    subst hqa2
    have h := h9
    clear h9
    obtain ⟨σ3, hvσ3, h⟩ := zbind h
    refine g_iast (pc := 62) C hvσ3 dX9_isSafeAllDay_62 ?_
    refine g_iload_n (pc := 63) C 3 3 dX9_isSafeAllDay_63 rfl rfl ?_
    obtain ⟨u4, hvu4, h⟩ := zbind h
    obtain ⟨rfl, rfl⟩ := zsome h
    exact g_zret (pc := 64) C rfl (e_ret _ _ (hO _ rfl)) (zbo_h hvu4) (by rw [hxn]; rfl) (by rw [hxn]; rfl) dX9_isSafeAllDay_64
  · have h := zif_f c13 h
    refine g_aload_n (pc := 20) C 0 0 dX9_isSafeAllDay_20 rfl rfl ?_
    obtain ⟨r5, hvr5, h⟩ := zbind h
    refine g_getR (N := 58) (pc := 21) C ck_9 hvr5 rfl rfl fl_X9_13 dX9_isSafeAllDay_21 ?_
    refine g_bipush (v := 7) (pc := 24) C dX9_isSafeAllDay_24 (by decide) ?_
    refine g_iload_n (pc := 26) C 2 2 dX9_isSafeAllDay_26 rfl rfl ?_
    refine g_iload (pc := 27) C 4 dX9_isSafeAllDay_27 rfl ?_
    refine g_iadd (pc := 29) C dX9_isSafeAllDay_29 ?_
    obtain ⟨a6, hqa6, h9⟩ := zbind h
    clear h
    subst hqa6
    have h := h9
    clear h9
    obtain ⟨σ7, hvσ7, h⟩ := zbind h
    refine g_iast (pc := 30) C hvσ7 dX9_isSafeAllDay_30 ?_
    refine g_iload_n (pc := 31) C 3 3 dX9_isSafeAllDay_31 rfl rfl ?_
    refine g_if_eq (pc := 32) C 47 dX9_isSafeAllDay_32 (by decide) (fun c12 => ?_) (fun c12 => ?_)
    · have h := zif_t c12 h
      refine g_sub [0, 1, 2, 4] (lm' := [(0, tR (some (h0))), (1, tI (l1)), (2, tI (l2)), (4, tI (l4))]) rfl ?_
      exact w_X9_isSafeAllDay_j47 hE C hxn e_ret _ _ _ _ _ _ _ h hI hO
    · have h := zif_f c12 h
      refine g_aload_n (pc := 35) C 0 0 dX9_isSafeAllDay_35 rfl rfl ?_
      refine g_iload_n (pc := 36) C 1 1 dX9_isSafeAllDay_36 rfl rfl ?_
      obtain ⟨u8, hvu8, h⟩ := zbind h
      obtain ⟨v10, σ9, hvσ9, h⟩ := zcb h
      refine g_callV (pc := 37) (av := [tI (l1)]) C (c_X9_isSafe hE hvσ9) yv_X9_isSafe ml_X9_200 ck_9 (zopt hvu8).1 rfl (rf_of (by decide)) rfl (Nat.le_of_ble_eq_true rfl) dX9_isSafeAllDay_37 ?_
      refine g_if_eq (pc := 40) C 47 dX9_isSafeAllDay_40 (by decide) (fun c11 => ?_) (fun c11 => ?_)
      · have h := zif_t c11 h
        refine g_sub [0, 1, 2, 4] (lm' := [(0, tR (some (h0))), (1, tI (l1)), (2, tI (l2)), (4, tI (l4))]) rfl ?_
        exact w_X9_isSafeAllDay_j47 hE C hxn e_ret _ _ _ _ _ _ _ h hI hO
      · have h := zif_f c11 h
        refine g_iconst (v := 1) (pc := 43) C dX9_isSafeAllDay_43 (by decide) ?_
        refine g_goto (pc := 44) C 48 dX9_isSafeAllDay_44 (by decide) ?_
        refine g_sub [0, 1, 2, 4] (lm' := [(0, tR (some (h0))), (1, tI (l1)), (2, tI (l2)), (4, tI (l4))]) rfl ?_
        exact w_X9_isSafeAllDay_j48 hE C hxn e_ret _ _ _ _ _ _ _ _ h hI hO
theorem w_X9_isSafeAllDay_l13 {E : E0} (hE : EOK E) {X : X0} (C : XOK E X cX9_isSafeAllDay RX9 5 (some .boolean) rm_X9_isSafeAllDay) (hxn : xn X = (rm_X9_isSafeAllDay.cells, rm_X9_isSafeAllDay.slots)) {KE : (Int32) → Hp → Prop} (e_ret : ∀ (r : Int32) (σ : Hp), KE (r) σ → xd X = (some (tI r), σ)) {v : Nat × Int32 × Int32 × Int32 × Int32} {σ : Hp} {e : Int32} {σ1 : Hp} (h : s_X9_isSafeAllDay_l13 v σ = some (e, σ1)) (hO : KE e σ1) : G E X 0 0 13 [(0, tR (some ((v.1)))), (1, tI ((v.2.1))), (2, tI ((v.2.2.1))), (3, tI ((v.2.2.2.1))), (4, tI ((v.2.2.2.2)))] [] σ := loopF_ind (P := fun (v : Nat × Int32 × Int32 × Int32 × Int32) (σ : Hp) => G E X 0 0 13 [(0, tR (some ((v.1)))), (1, tI ((v.2.1))), (2, tI ((v.2.2.1))), (3, tI ((v.2.2.2.1))), (4, tI ((v.2.2.2.2)))] [] σ) (KE := KE) (fun v σ x σ1 h hI hO => w_X9_isSafeAllDay_b13 hE C hxn e_ret (v.1) (v.2.1) (v.2.2.1) (v.2.2.2.1) (v.2.2.2.2) σ x σ1 h hI hO) v σ e σ1 h hO
noncomputable def s_X9_isSafeAllDay (h0 : Nat) (p1 : Int32) (σ : Hp) : Option (Int32 × Hp) :=
  (rdR 9 σ h0 3).bind fun r1 =>
  (r1).bind fun a2 =>
  (ldI 11 σ a2 (7)).bind fun v3 =>
  cb (s_X9_isSafeAllDay_l13 ((h0), (p1), (v3), (1), (0)) σ) fun r5 σ6 =>
  some (r5, σ6)
set_option maxRecDepth 100000 in
theorem c_X9_isSafeAllDay {E : E0} (hE : EOK E) {h0 : Nat} {p1 : Int32} {σ σ1 : Hp} {r : Int32} (h : s_X9_isSafeAllDay h0 p1 σ = some (r, σ1)) : CT E yX9_isSafeAllDay (.code yX9_isSafeAllDay cX9_isSafeAllDay 5 (some .boolean)) rm_X9_isSafeAllDay [tR (some (h0)), tI (p1)] σ (some (tI r)) σ1 := by
  refine CT.mk hE (by decide +kernel) (Nat.le_of_ble_eq_true rfl) [(0, tR (some (h0))), (1, tI (p1))] rfl (fun X C hin hx hxn => ?_)
  have C : XOK E X cX9_isSafeAllDay RX9 5 (some .boolean) rm_X9_isSafeAllDay := C
  unfold s_X9_isSafeAllDay at h
  refine g_aload_n (pc := 0) C 0 0 dX9_isSafeAllDay_0 rfl rfl ?_
  obtain ⟨r1, hvr1, h⟩ := zbind h
  refine g_getR (N := 58) (pc := 1) C ck_9 hvr1 rfl rfl fl_X9_13 dX9_isSafeAllDay_1 ?_
  refine g_bipush (v := 7) (pc := 4) C dX9_isSafeAllDay_4 (by decide) ?_
  obtain ⟨a2, hqa2, h9⟩ := zbind h
  clear h
  subst hqa2
  have h := h9
  clear h9
  obtain ⟨v3, hvv3, h⟩ := zbind h
  refine g_iald (pc := 6) C hvv3 dX9_isSafeAllDay_6 ?_
  refine g_istore_n (lm' := [(2, tI (v3)), (0, tR (some (h0))), (1, tI (p1))]) (pc := 7) C 2 dX9_isSafeAllDay_7 rfl (by decide) rfl ?_
  refine g_iconst (v := 1) (pc := 8) C dX9_isSafeAllDay_8 (by decide) ?_
  refine g_istore_n (lm' := [(3, tI (1)), (2, tI (v3)), (0, tR (some (h0))), (1, tI (p1))]) (pc := 9) C 3 dX9_isSafeAllDay_9 rfl (by decide) rfl ?_
  refine g_iconst (v := 0) (pc := 10) C dX9_isSafeAllDay_10 (by decide) ?_
  refine g_istore (lm' := [(4, tI (0)), (3, tI (1)), (2, tI (v3)), (0, tR (some (h0))), (1, tI (p1))]) (pc := 11) C dX9_isSafeAllDay_11 (by decide) rfl ?_
  refine g_sub [3, 4, 2, 1, 0] (lm' := [(0, tR (some (h0))), (1, tI (p1)), (2, tI (v3)), (3, tI (1)), (4, tI (0))]) rfl ?_
  obtain ⟨KQ, hKQ, r5, σ6, hlr5, h⟩ := zcbK h
  refine w_X9_isSafeAllDay_l13 (KE := KQ) hE C hxn ?_ hlr5 h
  · intro r5 σ4 h
    have h := (hKQ _ _).mp h
    obtain ⟨rfl, rfl⟩ := zsome h
    exact hx
def rm_X9_roost : Room := { frames := 8, cells := 0, slots := 0, locals := 191 }
noncomputable def s_X9_roost_j84 (h0 : Nat) (l1 : Int32) (l3 : Int32) (l4 : Int32) (l5 : Int32) (t0 : Int32) (σ : Hp) : Option (((Nat × Int32 × Int32 × Int32 × Int32 × Int32) ⊕ ((Nat × Int32 × Int32 × Int32))) × Hp) :=
  some (Sum.inl ((h0), (l1), (t0), (l3), (l4), (l5 + (-1))), σ)
set_option maxRecDepth 100000 in
theorem w_X9_roost_j84 {E : E0} (hE : EOK E) {X : X0} (C : XOK E X cX9_roost RX9 6 (some .int) rm_X9_roost) (hxn : xn X = (rm_X9_roost.cells, rm_X9_roost.slots)) {KE : ((Nat × Int32 × Int32 × Int32)) → Hp → Prop} (e_91 : ∀ (h0 : Nat) (l1 : Int32) (l2 : Int32) (l3 : Int32) (σ : Hp), KE ((h0, l1, l2, l3)) σ → G E X 0 0 91 [(0, tR (some (h0))), (1, tI (l1)), (2, tI (l2)), (3, tI (l3))] [] σ) (h0 : Nat) (l1 : Int32) (l3 : Int32) (l4 : Int32) (l5 : Int32) (t0 : Int32) (σ : Hp) (x : (Nat × Int32 × Int32 × Int32 × Int32 × Int32) ⊕ ((Nat × Int32 × Int32 × Int32))) (σ1 : Hp) (h : s_X9_roost_j84 h0 l1 l3 l4 l5 t0 σ = some (x, σ1)) (hI : ∀ v, x = Sum.inl v → (fun (v : Nat × Int32 × Int32 × Int32 × Int32 × Int32) (σ : Hp) => G E X 0 0 54 [(0, tR (some ((v.1)))), (1, tI ((v.2.1))), (2, tI ((v.2.2.1))), (3, tI ((v.2.2.2.1))), (4, tI ((v.2.2.2.2.1))), (5, tI ((v.2.2.2.2.2)))] [] σ) v σ1) (hO : ∀ e, x = Sum.inr e → KE e σ1) : G E X 0 0 84 [(0, tR (some (h0))), (1, tI (l1)), (3, tI (l3)), (4, tI (l4)), (5, tI (l5))] [tI (t0)] σ := by
  unfold s_X9_roost_j84 at h
  refine g_istore_n (lm' := [(2, tI (t0)), (0, tR (some (h0))), (1, tI (l1)), (3, tI (l3)), (4, tI (l4)), (5, tI (l5))]) (pc := 84) C 2 dX9_roost_84 rfl (by decide) rfl ?_
  refine g_iinc (lm' := [(5, tI (l5 + (-1))), (2, tI (t0)), (0, tR (some (h0))), (1, tI (l1)), (3, tI (l3)), (4, tI (l4))]) (v := l5 + (-1)) (pc := 85) C 5 dX9_roost_85 rfl rfl (by decide) rfl ?_
  refine g_goto (pc := 88) C 54 dX9_roost_88 (by decide) ?_
  refine g_sub [2, 3, 1, 4, 5, 0] (lm' := [(0, tR (some (h0))), (1, tI (l1)), (2, tI (t0)), (3, tI (l3)), (4, tI (l4)), (5, tI (l5 + (-1)))]) rfl ?_
  obtain ⟨rfl, rfl⟩ := zsome h
  exact hI _ rfl
noncomputable def s_X9_roost_j83 (h0 : Nat) (l1 : Int32) (l2 : Int32) (l3 : Int32) (l4 : Int32) (l5 : Int32) (σ : Hp) : Option (((Nat × Int32 × Int32 × Int32 × Int32 × Int32) ⊕ ((Nat × Int32 × Int32 × Int32))) × Hp) :=
  s_X9_roost_j84 (h0) (l1) (l3) (l4) (l5) (l2) σ
set_option maxRecDepth 100000 in
theorem w_X9_roost_j83 {E : E0} (hE : EOK E) {X : X0} (C : XOK E X cX9_roost RX9 6 (some .int) rm_X9_roost) (hxn : xn X = (rm_X9_roost.cells, rm_X9_roost.slots)) {KE : ((Nat × Int32 × Int32 × Int32)) → Hp → Prop} (e_91 : ∀ (h0 : Nat) (l1 : Int32) (l2 : Int32) (l3 : Int32) (σ : Hp), KE ((h0, l1, l2, l3)) σ → G E X 0 0 91 [(0, tR (some (h0))), (1, tI (l1)), (2, tI (l2)), (3, tI (l3))] [] σ) (h0 : Nat) (l1 : Int32) (l2 : Int32) (l3 : Int32) (l4 : Int32) (l5 : Int32) (σ : Hp) (x : (Nat × Int32 × Int32 × Int32 × Int32 × Int32) ⊕ ((Nat × Int32 × Int32 × Int32))) (σ1 : Hp) (h : s_X9_roost_j83 h0 l1 l2 l3 l4 l5 σ = some (x, σ1)) (hI : ∀ v, x = Sum.inl v → (fun (v : Nat × Int32 × Int32 × Int32 × Int32 × Int32) (σ : Hp) => G E X 0 0 54 [(0, tR (some ((v.1)))), (1, tI ((v.2.1))), (2, tI ((v.2.2.1))), (3, tI ((v.2.2.2.1))), (4, tI ((v.2.2.2.2.1))), (5, tI ((v.2.2.2.2.2)))] [] σ) v σ1) (hO : ∀ e, x = Sum.inr e → KE e σ1) : G E X 0 0 83 [(0, tR (some (h0))), (1, tI (l1)), (2, tI (l2)), (3, tI (l3)), (4, tI (l4)), (5, tI (l5))] [] σ := by
  unfold s_X9_roost_j83 at h
  refine g_iload_n (pc := 83) C 2 2 dX9_roost_83 rfl rfl ?_
  refine g_sub [0, 1, 3, 4, 5] (lm' := [(0, tR (some (h0))), (1, tI (l1)), (3, tI (l3)), (4, tI (l4)), (5, tI (l5))]) rfl ?_
  exact w_X9_roost_j84 hE C hxn e_91 _ _ _ _ _ _ _ _ _ h hI hO
noncomputable def s_X9_roost_b54 (h0 : Nat) (l1 : Int32) (l2 : Int32) (l3 : Int32) (l4 : Int32) (l5 : Int32) (σ : Hp) : Option (((Nat × Int32 × Int32 × Int32 × Int32 × Int32) ⊕ ((Nat × Int32 × Int32 × Int32))) × Hp) :=
  if l5 < 0 then
    some (Sum.inr ((h0), (l1), (l2), (l3)), σ)
  else
    cb (s_X9_is (l4) (l5) σ) fun v2 σ1 =>
    if v2 = 0 then
      s_X9_roost_j83 (h0) (l1) (l2) (l3) (l4) (l5) σ1
    else
      (ck 9 σ1 h0).bind fun u3 =>
      cb (s_X9_isSafeAllDay h0 (l5) σ1) fun v5 σ4 =>
      if v5 = 0 then
        s_X9_roost_j83 (h0) (l1) (l2) (l3) (l4) (l5) σ4
      else
        s_X9_roost_j84 (h0) (l1) (l3) (l4) (l5) (l5) σ4
noncomputable def s_X9_roost_l54 : (Nat × Int32 × Int32 × Int32 × Int32 × Int32) → Hp → Option (((Nat × Int32 × Int32 × Int32)) × Hp) := loopF (fun v => s_X9_roost_b54 (v.1) (v.2.1) (v.2.2.1) (v.2.2.2.1) (v.2.2.2.2.1) (v.2.2.2.2.2))
set_option maxRecDepth 100000 in
theorem w_X9_roost_b54 {E : E0} (hE : EOK E) {X : X0} (C : XOK E X cX9_roost RX9 6 (some .int) rm_X9_roost) (hxn : xn X = (rm_X9_roost.cells, rm_X9_roost.slots)) {KE : ((Nat × Int32 × Int32 × Int32)) → Hp → Prop} (e_91 : ∀ (h0 : Nat) (l1 : Int32) (l2 : Int32) (l3 : Int32) (σ : Hp), KE ((h0, l1, l2, l3)) σ → G E X 0 0 91 [(0, tR (some (h0))), (1, tI (l1)), (2, tI (l2)), (3, tI (l3))] [] σ) (h0 : Nat) (l1 : Int32) (l2 : Int32) (l3 : Int32) (l4 : Int32) (l5 : Int32) (σ : Hp) (x : (Nat × Int32 × Int32 × Int32 × Int32 × Int32) ⊕ ((Nat × Int32 × Int32 × Int32))) (σ1 : Hp) (h : s_X9_roost_b54 h0 l1 l2 l3 l4 l5 σ = some (x, σ1)) (hI : ∀ v, x = Sum.inl v → (fun (v : Nat × Int32 × Int32 × Int32 × Int32 × Int32) (σ : Hp) => G E X 0 0 54 [(0, tR (some ((v.1)))), (1, tI ((v.2.1))), (2, tI ((v.2.2.1))), (3, tI ((v.2.2.2.1))), (4, tI ((v.2.2.2.2.1))), (5, tI ((v.2.2.2.2.2)))] [] σ) v σ1) (hO : ∀ e, x = Sum.inr e → KE e σ1) : G E X 0 0 54 [(0, tR (some (h0))), (1, tI (l1)), (2, tI (l2)), (3, tI (l3)), (4, tI (l4)), (5, tI (l5))] [] σ := by
  unfold s_X9_roost_b54 at h
  refine g_iload (pc := 54) C 5 dX9_roost_54 rfl ?_
  refine g_if_lt (pc := 56) C 91 dX9_roost_56 (by decide) (fun c8 => ?_) (fun c8 => ?_)
  · have h := zif_t c8 h
    refine g_sub [0, 1, 2, 3] (lm' := [(0, tR (some (h0))), (1, tI (l1)), (2, tI (l2)), (3, tI (l3))]) rfl ?_
    obtain ⟨rfl, rfl⟩ := zsome h
    exact e_91 _ _ _ _ _ (hO _ rfl)
  · have h := zif_f c8 h
    refine g_iload (pc := 59) C 4 dX9_roost_59 rfl ?_
    refine g_iload (pc := 61) C 5 dX9_roost_61 rfl ?_
    obtain ⟨v2, σ1, hvσ1, h⟩ := zcb h
    refine g_callS (pc := 63) (av := [tI (l4), tI (l5)]) C (c_X9_is hE hvσ1) ys_X9_is ml_X9_438 rfl (rf_of (by decide)) rfl (Nat.le_of_ble_eq_true rfl) dX9_roost_63 ?_
    refine g_if_eq (pc := 66) C 83 dX9_roost_66 (by decide) (fun c7 => ?_) (fun c7 => ?_)
    · have h := zif_t c7 h
      exact w_X9_roost_j83 hE C hxn e_91 _ _ _ _ _ _ _ _ _ h hI hO
    · have h := zif_f c7 h
      refine g_aload_n (pc := 69) C 0 0 dX9_roost_69 rfl rfl ?_
      refine g_iload (pc := 70) C 5 dX9_roost_70 rfl ?_
      obtain ⟨u3, hvu3, h⟩ := zbind h
      obtain ⟨v5, σ4, hvσ4, h⟩ := zcb h
      refine g_callV (pc := 72) (av := [tI (l5)]) C (c_X9_isSafeAllDay hE hvσ4) yv_X9_isSafeAllDay ml_X9_484 ck_9 (zopt hvu3).1 rfl (rf_of (by decide)) rfl (Nat.le_of_ble_eq_true rfl) dX9_roost_72 ?_
      refine g_if_eq (pc := 75) C 83 dX9_roost_75 (by decide) (fun c6 => ?_) (fun c6 => ?_)
      · have h := zif_t c6 h
        exact w_X9_roost_j83 hE C hxn e_91 _ _ _ _ _ _ _ _ _ h hI hO
      · have h := zif_f c6 h
        refine g_iload (pc := 78) C 5 dX9_roost_78 rfl ?_
        refine g_goto (pc := 80) C 84 dX9_roost_80 (by decide) ?_
        refine g_sub [0, 1, 3, 4, 5] (lm' := [(0, tR (some (h0))), (1, tI (l1)), (3, tI (l3)), (4, tI (l4)), (5, tI (l5))]) rfl ?_
        exact w_X9_roost_j84 hE C hxn e_91 _ _ _ _ _ _ _ _ _ h hI hO
theorem w_X9_roost_l54 {E : E0} (hE : EOK E) {X : X0} (C : XOK E X cX9_roost RX9 6 (some .int) rm_X9_roost) (hxn : xn X = (rm_X9_roost.cells, rm_X9_roost.slots)) {KE : ((Nat × Int32 × Int32 × Int32)) → Hp → Prop} (e_91 : ∀ (h0 : Nat) (l1 : Int32) (l2 : Int32) (l3 : Int32) (σ : Hp), KE ((h0, l1, l2, l3)) σ → G E X 0 0 91 [(0, tR (some (h0))), (1, tI (l1)), (2, tI (l2)), (3, tI (l3))] [] σ) {v : Nat × Int32 × Int32 × Int32 × Int32 × Int32} {σ : Hp} {e : (Nat × Int32 × Int32 × Int32)} {σ1 : Hp} (h : s_X9_roost_l54 v σ = some (e, σ1)) (hO : KE e σ1) : G E X 0 0 54 [(0, tR (some ((v.1)))), (1, tI ((v.2.1))), (2, tI ((v.2.2.1))), (3, tI ((v.2.2.2.1))), (4, tI ((v.2.2.2.2.1))), (5, tI ((v.2.2.2.2.2)))] [] σ := loopF_ind (P := fun (v : Nat × Int32 × Int32 × Int32 × Int32 × Int32) (σ : Hp) => G E X 0 0 54 [(0, tR (some ((v.1)))), (1, tI ((v.2.1))), (2, tI ((v.2.2.1))), (3, tI ((v.2.2.2.1))), (4, tI ((v.2.2.2.2.1))), (5, tI ((v.2.2.2.2.2)))] [] σ) (KE := KE) (fun v σ x σ1 h hI hO => w_X9_roost_b54 hE C hxn e_91 (v.1) (v.2.1) (v.2.2.1) (v.2.2.2.1) (v.2.2.2.2.1) (v.2.2.2.2.2) σ x σ1 h hI hO) v σ e σ1 h hO
noncomputable def s_X9_roost_b24 (h0 : Nat) (l1 : Int32) (l2 : Int32) (l3 : Int32) (σ : Hp) : Option (((Nat × Int32 × Int32 × Int32) ⊕ (Int32)) × Hp) :=
  if 10 < l3 then
    some (Sum.inr (l2), σ)
  else
    if l2 = (-1) then
      (ck 9 σ h0).bind fun u1 =>
      cb (s_X9_nearBy h0 (l1) (l3) (0) σ) fun v3 σ2 =>
      (rdR 9 σ2 h0 3).bind fun r4 =>
      (r4).bind fun a5 =>
      (ldI 11 σ2 a5 (0)).bind fun v6 =>
      cb (s_X9_roost_l54 ((h0), (l1), (l2), (l3), (v3), (v6 - 1)) σ2) fun e14 σ13 =>
      match e14 with
      | (h7, l18, l29, l310) =>
        some (Sum.inl ((h7), (l18), (l29), (l310 + 1)), σ13)
    else
      some (Sum.inr (l2), σ)
noncomputable def s_X9_roost_l24 : (Nat × Int32 × Int32 × Int32) → Hp → Option ((Int32) × Hp) := loopF (fun v => s_X9_roost_b24 (v.1) (v.2.1) (v.2.2.1) (v.2.2.2))
set_option maxRecDepth 100000 in
theorem w_X9_roost_b24 {E : E0} (hE : EOK E) {X : X0} (C : XOK E X cX9_roost RX9 6 (some .int) rm_X9_roost) (hxn : xn X = (rm_X9_roost.cells, rm_X9_roost.slots)) {KE : (Int32) → Hp → Prop} (e_ret : ∀ (r : Int32) (σ : Hp), KE (r) σ → xd X = (some (tI r), σ)) (h0 : Nat) (l1 : Int32) (l2 : Int32) (l3 : Int32) (σ : Hp) (x : (Nat × Int32 × Int32 × Int32) ⊕ (Int32)) (σ1 : Hp) (h : s_X9_roost_b24 h0 l1 l2 l3 σ = some (x, σ1)) (hI : ∀ v, x = Sum.inl v → (fun (v : Nat × Int32 × Int32 × Int32) (σ : Hp) => G E X 0 0 24 [(0, tR (some ((v.1)))), (1, tI ((v.2.1))), (2, tI ((v.2.2.1))), (3, tI ((v.2.2.2)))] [] σ) v σ1) (hO : ∀ e, x = Sum.inr e → KE e σ1) : G E X 0 0 24 [(0, tR (some (h0))), (1, tI (l1)), (2, tI (l2)), (3, tI (l3))] [] σ := by
  unfold s_X9_roost_b24 at h
  refine g_iload_n (pc := 24) C 3 3 dX9_roost_24 rfl rfl ?_
  refine g_bipush (v := 10) (pc := 25) C dX9_roost_25 (by decide) ?_
  refine g_icmp_gt (pc := 27) C 97 dX9_roost_27 (by decide) (fun c16 => ?_) (fun c16 => ?_)
  · have h := zif_t c16 h
    refine g_iload_n (pc := 97) C 2 2 dX9_roost_97 rfl rfl ?_
    obtain ⟨rfl, rfl⟩ := zsome h
    exact g_iret (pc := 98) C rfl (e_ret _ _ (hO _ rfl)) (by rw [hxn]; rfl) (by rw [hxn]; rfl) dX9_roost_98
  · have h := zif_f c16 h
    refine g_iload_n (pc := 30) C 2 2 dX9_roost_30 rfl rfl ?_
    refine g_iconst (v := (-1)) (pc := 31) C dX9_roost_31 (by decide) ?_
    refine g_icmp_ne (pc := 32) C 97 dX9_roost_32 (by decide) (fun c15 => ?_) (fun c15 => ?_)
    · have h := zif_f c15 h
      refine g_iload_n (pc := 97) C 2 2 dX9_roost_97 rfl rfl ?_
      obtain ⟨rfl, rfl⟩ := zsome h
      exact g_iret (pc := 98) C rfl (e_ret _ _ (hO _ rfl)) (by rw [hxn]; rfl) (by rw [hxn]; rfl) dX9_roost_98
    · have h := zif_t c15 h
      refine g_aload_n (pc := 35) C 0 0 dX9_roost_35 rfl rfl ?_
      refine g_iload_n (pc := 36) C 1 1 dX9_roost_36 rfl rfl ?_
      refine g_iload_n (pc := 37) C 3 3 dX9_roost_37 rfl rfl ?_
      refine g_iconst (v := 0) (pc := 38) C dX9_roost_38 (by decide) ?_
      obtain ⟨u1, hvu1, h⟩ := zbind h
      obtain ⟨v3, σ2, hvσ2, h⟩ := zcb h
      refine g_callV (pc := 39) (av := [tI (l1), tI (l3), tI (0)]) C (c_X9_nearBy hE hvσ2) yv_X9_nearBy ml_X9_476 ck_9 (zopt hvu1).1 rfl (rf_of (by decide)) rfl (Nat.le_of_ble_eq_true rfl) dX9_roost_39 ?_
      refine g_istore (lm' := [(4, tI (v3)), (0, tR (some (h0))), (1, tI (l1)), (2, tI (l2)), (3, tI (l3))]) (pc := 42) C dX9_roost_42 (by decide) rfl ?_
      refine g_aload_n (pc := 44) C 0 1 dX9_roost_44 rfl rfl ?_
      obtain ⟨r4, hvr4, h⟩ := zbind h
      refine g_getR (N := 58) (pc := 45) C ck_9 hvr4 rfl rfl fl_X9_13 dX9_roost_45 ?_
      refine g_iconst (v := 0) (pc := 48) C dX9_roost_48 (by decide) ?_
      obtain ⟨a5, hqa5, h9⟩ := zbind h
      clear h
      subst hqa5
      have h := h9
      clear h9
      obtain ⟨v6, hvv6, h⟩ := zbind h
      refine g_iald (pc := 49) C hvv6 dX9_roost_49 ?_
      refine g_iconst (v := 1) (pc := 50) C dX9_roost_50 (by decide) ?_
      refine g_isub (pc := 51) C dX9_roost_51 ?_
      refine g_istore (lm' := [(5, tI (v6 - 1)), (4, tI (v3)), (0, tR (some (h0))), (1, tI (l1)), (2, tI (l2)), (3, tI (l3))]) (pc := 52) C dX9_roost_52 (by decide) rfl ?_
      refine g_sub [2, 3, 4, 5, 1, 0] (lm' := [(0, tR (some (h0))), (1, tI (l1)), (2, tI (l2)), (3, tI (l3)), (4, tI (v3)), (5, tI (v6 - 1))]) rfl ?_
      obtain ⟨KQ, hKQ, e14, σ13, hle14, h⟩ := zcbK h
      refine w_X9_roost_l54 (KE := KQ) hE C hxn ?_ hle14 h
      · intro h7 l18 l29 l310 σ11 h
        have h := (hKQ _ _).mp h
        refine g_iinc (lm' := [(3, tI (l310 + 1)), (0, tR (some (h7))), (1, tI (l18)), (2, tI (l29))]) (v := l310 + 1) (pc := 91) C 3 dX9_roost_91 rfl rfl (by decide) rfl ?_
        refine g_goto (pc := 94) C 24 dX9_roost_94 (by decide) ?_
        refine g_sub [1, 2, 3, 0] (lm' := [(0, tR (some (h7))), (1, tI (l18)), (2, tI (l29)), (3, tI (l310 + 1))]) rfl ?_
        obtain ⟨rfl, rfl⟩ := zsome h
        exact hI _ rfl
theorem w_X9_roost_l24 {E : E0} (hE : EOK E) {X : X0} (C : XOK E X cX9_roost RX9 6 (some .int) rm_X9_roost) (hxn : xn X = (rm_X9_roost.cells, rm_X9_roost.slots)) {KE : (Int32) → Hp → Prop} (e_ret : ∀ (r : Int32) (σ : Hp), KE (r) σ → xd X = (some (tI r), σ)) {v : Nat × Int32 × Int32 × Int32} {σ : Hp} {e : Int32} {σ1 : Hp} (h : s_X9_roost_l24 v σ = some (e, σ1)) (hO : KE e σ1) : G E X 0 0 24 [(0, tR (some ((v.1)))), (1, tI ((v.2.1))), (2, tI ((v.2.2.1))), (3, tI ((v.2.2.2)))] [] σ := loopF_ind (P := fun (v : Nat × Int32 × Int32 × Int32) (σ : Hp) => G E X 0 0 24 [(0, tR (some ((v.1)))), (1, tI ((v.2.1))), (2, tI ((v.2.2.1))), (3, tI ((v.2.2.2)))] [] σ) (KE := KE) (fun v σ x σ1 h hI hO => w_X9_roost_b24 hE C hxn e_ret (v.1) (v.2.1) (v.2.2.1) (v.2.2.2) σ x σ1 h hI hO) v σ e σ1 h hO
noncomputable def s_X9_roost (h0 : Nat) (p1 : Int32) (σ : Hp) : Option (Int32 × Hp) :=
  (wrI 9 σ h0 0 (0)).bind fun σ1 =>
  (ck 9 σ1 h0).bind fun u2 =>
  cb (s_X9_isFolk h0 (p1) σ1) fun v4 σ3 =>
  if v4 = 0 then
    some (((-1)), σ3)
  else
    (ck 9 σ3 h0).bind fun u5 =>
    cb (s_X9_layStrides h0 (p1) σ3) fun v7 σ6 =>
    cb (s_X9_roost_l24 ((h0), (p1), ((-1)), (0)) σ6) fun r9 σ10 =>
    some (r9, σ10)
set_option maxRecDepth 100000 in
theorem c_X9_roost {E : E0} (hE : EOK E) {h0 : Nat} {p1 : Int32} {σ σ1 : Hp} {r : Int32} (h : s_X9_roost h0 p1 σ = some (r, σ1)) : CT E yX9_roost (.code yX9_roost cX9_roost 6 (some .int)) rm_X9_roost [tR (some (h0)), tI (p1)] σ (some (tI r)) σ1 := by
  refine CT.mk hE (by decide +kernel) (Nat.le_of_ble_eq_true rfl) [(0, tR (some (h0))), (1, tI (p1))] rfl (fun X C hin hx hxn => ?_)
  have C : XOK E X cX9_roost RX9 6 (some .int) rm_X9_roost := C
  unfold s_X9_roost at h
  refine g_aload_n (pc := 0) C 0 0 dX9_roost_0 rfl rfl ?_
  refine g_iconst (v := 0) (pc := 1) C dX9_roost_1 (by decide) ?_
  obtain ⟨σ1, hvσ1, h⟩ := zbind h
  refine g_putI (N := 58) (pc := 2) C ⟨ck_9, rfl, tyX9_ok⟩ hvσ1 rfl fl_X9_161 rfl rfl dX9_roost_2 ?_
  refine g_aload_n (pc := 5) C 0 0 dX9_roost_5 rfl rfl ?_
  refine g_iload_n (pc := 6) C 1 1 dX9_roost_6 rfl rfl ?_
  obtain ⟨u2, hvu2, h⟩ := zbind h
  obtain ⟨v4, σ3, hvσ3, h⟩ := zcb h
  refine g_callV (pc := 7) (av := [tI (p1)]) C (c_X9_isFolk hE hvσ3) yv_X9_isFolk ml_X9_209 ck_9 (zopt hvu2).1 rfl (rf_of (by decide)) rfl (Nat.le_of_ble_eq_true rfl) dX9_roost_7 ?_
  refine g_if_ne (pc := 10) C 15 dX9_roost_10 (by decide) (fun c12 => ?_) (fun c12 => ?_)
  · have h := zif_f c12 h
    refine g_aload_n (pc := 15) C 0 0 dX9_roost_15 rfl rfl ?_
    refine g_iload_n (pc := 16) C 1 1 dX9_roost_16 rfl rfl ?_
    obtain ⟨u5, hvu5, h⟩ := zbind h
    obtain ⟨v7, σ6, hvσ6, h⟩ := zcb h
    refine g_callV (pc := 17) (av := [tI (p1)]) C (c_X9_layStrides hE hvσ6) yv_X9_layStrides ml_X9_473 ck_9 (zopt hvu5).1 rfl (rf_of (by decide)) rfl (Nat.le_of_ble_eq_true rfl) dX9_roost_17 ?_
    refine g_iconst (v := (-1)) (pc := 20) C dX9_roost_20 (by decide) ?_
    refine g_istore_n (lm' := [(2, tI ((-1))), (0, tR (some (h0))), (1, tI (p1))]) (pc := 21) C 2 dX9_roost_21 rfl (by decide) rfl ?_
    refine g_iconst (v := 0) (pc := 22) C dX9_roost_22 (by decide) ?_
    refine g_istore_n (lm' := [(3, tI (0)), (2, tI ((-1))), (0, tR (some (h0))), (1, tI (p1))]) (pc := 23) C 3 dX9_roost_23 rfl (by decide) rfl ?_
    refine g_sub [2, 3, 1, 0] (lm' := [(0, tR (some (h0))), (1, tI (p1)), (2, tI ((-1))), (3, tI (0))]) rfl ?_
    obtain ⟨KQ, hKQ, r9, σ10, hlr9, h⟩ := zcbK h
    refine w_X9_roost_l24 (KE := KQ) hE C hxn ?_ hlr9 h
    · intro r9 σ8 h
      have h := (hKQ _ _).mp h
      obtain ⟨rfl, rfl⟩ := zsome h
      exact hx
  · have h := zif_t c12 h
    refine g_iconst (v := (-1)) (pc := 13) C dX9_roost_13 (by decide) ?_
    obtain ⟨rfl, rfl⟩ := zsome h
    exact g_iret (pc := 14) C rfl hx (by rw [hxn]; rfl) (by rw [hxn]; rfl) dX9_roost_14
def rm_X9_where : Room := { frames := 7, cells := 0, slots := 0, locals := 169 }
noncomputable def s_X9_where_b35 (h0 : Nat) (l1 : Int32) (l2 : Int32) (l3 : Int32) (σ : Hp) : Option (((Nat × Int32 × Int32 × Int32) ⊕ ((Nat × Int32))) × Hp) :=
  if l2 ≤ l3 then
    some (Sum.inr ((h0), (l1)), σ)
  else
    (ck 9 σ h0).bind fun u1 =>
    cb (s_X9_allGo h0 σ) fun v3 σ2 =>
    some (Sum.inl ((h0), (l1), (l2), (l3 + 1)), σ2)
noncomputable def s_X9_where_l35 : (Nat × Int32 × Int32 × Int32) → Hp → Option (((Nat × Int32)) × Hp) := loopF (fun v => s_X9_where_b35 (v.1) (v.2.1) (v.2.2.1) (v.2.2.2))
set_option maxRecDepth 100000 in
theorem w_X9_where_b35 {E : E0} (hE : EOK E) {X : X0} (C : XOK E X cX9_where RX9 4 (some .int) rm_X9_where) (hxn : xn X = (rm_X9_where.cells, rm_X9_where.slots)) {KE : ((Nat × Int32)) → Hp → Prop} (e_50 : ∀ (h0 : Nat) (l1 : Int32) (σ : Hp), KE ((h0, l1)) σ → G E X 0 0 50 [(0, tR (some (h0))), (1, tI (l1))] [] σ) (h0 : Nat) (l1 : Int32) (l2 : Int32) (l3 : Int32) (σ : Hp) (x : (Nat × Int32 × Int32 × Int32) ⊕ ((Nat × Int32))) (σ1 : Hp) (h : s_X9_where_b35 h0 l1 l2 l3 σ = some (x, σ1)) (hI : ∀ v, x = Sum.inl v → (fun (v : Nat × Int32 × Int32 × Int32) (σ : Hp) => G E X 0 0 35 [(0, tR (some ((v.1)))), (1, tI ((v.2.1))), (2, tI ((v.2.2.1))), (3, tI ((v.2.2.2)))] [] σ) v σ1) (hO : ∀ e, x = Sum.inr e → KE e σ1) : G E X 0 0 35 [(0, tR (some (h0))), (1, tI (l1)), (2, tI (l2)), (3, tI (l3))] [] σ := by
  unfold s_X9_where_b35 at h
  refine g_iload_n (pc := 35) C 3 3 dX9_where_35 rfl rfl ?_
  refine g_iload_n (pc := 36) C 2 2 dX9_where_36 rfl rfl ?_
  refine g_icmp_ge (pc := 37) C 50 dX9_where_37 (by decide) (fun c4 => ?_) (fun c4 => ?_)
  · have h := zif_t c4 h
    refine g_sub [0, 1] (lm' := [(0, tR (some (h0))), (1, tI (l1))]) rfl ?_
    obtain ⟨rfl, rfl⟩ := zsome h
    exact e_50 _ _ _ (hO _ rfl)
  · have h := zif_f c4 h
    refine g_aload_n (pc := 40) C 0 0 dX9_where_40 rfl rfl ?_
    obtain ⟨u1, hvu1, h⟩ := zbind h
    obtain ⟨v3, σ2, hvσ2, h⟩ := zcb h
    refine g_callV (pc := 41) (av := []) C (c_X9_allGo hE hvσ2) yv_X9_allGo ml_X9_454 ck_9 (zopt hvu1).1 rfl (rf_of (by decide)) rfl (Nat.le_of_ble_eq_true rfl) dX9_where_41 ?_
    refine g_iinc (lm' := [(3, tI (l3 + 1)), (0, tR (some (h0))), (1, tI (l1)), (2, tI (l2))]) (v := l3 + 1) (pc := 44) C 3 dX9_where_44 rfl rfl (by decide) rfl ?_
    refine g_goto (pc := 47) C 35 dX9_where_47 (by decide) ?_
    refine g_sub [1, 2, 3, 0] (lm' := [(0, tR (some (h0))), (1, tI (l1)), (2, tI (l2)), (3, tI (l3 + 1))]) rfl ?_
    obtain ⟨rfl, rfl⟩ := zsome h
    exact hI _ rfl
theorem w_X9_where_l35 {E : E0} (hE : EOK E) {X : X0} (C : XOK E X cX9_where RX9 4 (some .int) rm_X9_where) (hxn : xn X = (rm_X9_where.cells, rm_X9_where.slots)) {KE : ((Nat × Int32)) → Hp → Prop} (e_50 : ∀ (h0 : Nat) (l1 : Int32) (σ : Hp), KE ((h0, l1)) σ → G E X 0 0 50 [(0, tR (some (h0))), (1, tI (l1))] [] σ) {v : Nat × Int32 × Int32 × Int32} {σ : Hp} {e : (Nat × Int32)} {σ1 : Hp} (h : s_X9_where_l35 v σ = some (e, σ1)) (hO : KE e σ1) : G E X 0 0 35 [(0, tR (some ((v.1)))), (1, tI ((v.2.1))), (2, tI ((v.2.2.1))), (3, tI ((v.2.2.2)))] [] σ := loopF_ind (P := fun (v : Nat × Int32 × Int32 × Int32) (σ : Hp) => G E X 0 0 35 [(0, tR (some ((v.1)))), (1, tI ((v.2.1))), (2, tI ((v.2.2.1))), (3, tI ((v.2.2.2)))] [] σ) (KE := KE) (fun v σ x σ1 h hI hO => w_X9_where_b35 hE C hxn e_50 (v.1) (v.2.1) (v.2.2.1) (v.2.2.2) σ x σ1 h hI hO) v σ e σ1 h hO
noncomputable def s_X9_where (h0 : Nat) (p1 : Int32) (p2 : Int32) (σ : Hp) : Option (Int32 × Hp) :=
  (wrI 9 σ h0 0 (0)).bind fun σ1 =>
  (ck 9 σ1 h0).bind fun u2 =>
  cb (s_X9_isBadger h0 (p1) σ1) fun v4 σ3 =>
  if v4 = 0 then
    some (((-1)), σ3)
  else
    cb (s_X9_in (Int32.toInt64 (p2 : Int32)) (0) (60) σ3) fun v6 σ5 =>
    if v6 = 0 then
      some (((-1)), σ5)
    else
      (ck 9 σ5 h0).bind fun u7 =>
      cb (s_X9_keepAll h0 (16) σ5) fun v9 σ8 =>
      cb (s_X9_where_l35 ((h0), (p1), (p2), (0)) σ8) fun e21 σ20 =>
      match e21 with
      | (h10, l111) =>
        (rdR 9 σ20 h10 3).bind fun r13 =>
        (r13).bind fun a14 =>
        (ldI 11 σ20 a14 (21 + l111)).bind fun v15 =>
        (ck 9 σ20 h10).bind fun u16 =>
        cb (s_X9_putBack h10 (16) σ20) fun v18 σ17 =>
        some ((v15), σ17)
set_option maxRecDepth 100000 in
theorem c_X9_where {E : E0} (hE : EOK E) {h0 : Nat} {p1 : Int32} {p2 : Int32} {σ σ1 : Hp} {r : Int32} (h : s_X9_where h0 p1 p2 σ = some (r, σ1)) : CT E yX9_where (.code yX9_where cX9_where 4 (some .int)) rm_X9_where [tR (some (h0)), tI (p1), tI (p2)] σ (some (tI r)) σ1 := by
  refine CT.mk hE (by decide +kernel) (Nat.le_of_ble_eq_true rfl) [(0, tR (some (h0))), (1, tI (p1)), (2, tI (p2))] rfl (fun X C hin hx hxn => ?_)
  have C : XOK E X cX9_where RX9 4 (some .int) rm_X9_where := C
  unfold s_X9_where at h
  refine g_aload_n (pc := 0) C 0 0 dX9_where_0 rfl rfl ?_
  refine g_iconst (v := 0) (pc := 1) C dX9_where_1 (by decide) ?_
  obtain ⟨σ1, hvσ1, h⟩ := zbind h
  refine g_putI (N := 58) (pc := 2) C ⟨ck_9, rfl, tyX9_ok⟩ hvσ1 rfl fl_X9_161 rfl rfl dX9_where_2 ?_
  refine g_aload_n (pc := 5) C 0 0 dX9_where_5 rfl rfl ?_
  refine g_iload_n (pc := 6) C 1 1 dX9_where_6 rfl rfl ?_
  obtain ⟨u2, hvu2, h⟩ := zbind h
  obtain ⟨v4, σ3, hvσ3, h⟩ := zcb h
  refine g_callV (pc := 7) (av := [tI (p1)]) C (c_X9_isBadger hE hvσ3) yv_X9_isBadger ml_X9_212 ck_9 (zopt hvu2).1 rfl (rf_of (by decide)) rfl (Nat.le_of_ble_eq_true rfl) dX9_where_7 ?_
  refine g_if_eq (pc := 10) C 25 dX9_where_10 (by decide) (fun c23 => ?_) (fun c23 => ?_)
  · have h := zif_t c23 h
    refine g_iconst (v := (-1)) (pc := 25) C dX9_where_25 (by decide) ?_
    obtain ⟨rfl, rfl⟩ := zsome h
    exact g_iret (pc := 26) C rfl hx (by rw [hxn]; rfl) (by rw [hxn]; rfl) dX9_where_26
  · have h := zif_f c23 h
    refine g_iload_n (pc := 13) C 2 2 dX9_where_13 rfl rfl ?_
    refine g_i2l (pc := 14) C dX9_where_14 ?_
    refine g_lconst (v := 0) (pc := 15) C dX9_where_15 (by decide) ?_
    refine g_ldc2 (v := 60) (pc := 16) C dX9_where_16 kl_X9_487 ?_
    obtain ⟨v6, σ5, hvσ5, h⟩ := zcb h
    refine g_callS (pc := 19) (av := [tJ (Int32.toInt64 (p2 : Int32)), tJ (0), tJ (60)]) C (c_X9_in hE hvσ5) ys_X9_in ml_X9_181 rfl (rf_of (by decide)) rfl (Nat.le_of_ble_eq_true rfl) dX9_where_19 ?_
    refine g_if_ne (pc := 22) C 27 dX9_where_22 (by decide) (fun c22 => ?_) (fun c22 => ?_)
    · have h := zif_f c22 h
      refine g_aload_n (pc := 27) C 0 0 dX9_where_27 rfl rfl ?_
      refine g_bipush (v := 16) (pc := 28) C dX9_where_28 (by decide) ?_
      obtain ⟨u7, hvu7, h⟩ := zbind h
      obtain ⟨v9, σ8, hvσ8, h⟩ := zcb h
      refine g_callV (pc := 30) (av := [tI (16)]) C (c_X9_keepAll hE hvσ8) yv_X9_keepAll ml_X9_174 ck_9 (zopt hvu7).1 rfl (rf_of (by decide)) rfl (Nat.le_of_ble_eq_true rfl) dX9_where_30 ?_
      refine g_iconst (v := 0) (pc := 33) C dX9_where_33 (by decide) ?_
      refine g_istore_n (lm' := [(3, tI (0)), (0, tR (some (h0))), (1, tI (p1)), (2, tI (p2))]) (pc := 34) C 3 dX9_where_34 rfl (by decide) rfl ?_
      refine g_sub [1, 2, 3, 0] (lm' := [(0, tR (some (h0))), (1, tI (p1)), (2, tI (p2)), (3, tI (0))]) rfl ?_
      obtain ⟨KQ, hKQ, e21, σ20, hle21, h⟩ := zcbK h
      refine w_X9_where_l35 (KE := KQ) hE C hxn ?_ hle21 h
      · intro h10 l111 σ12 h
        have h := (hKQ _ _).mp h
        refine g_aload_n (pc := 50) C 0 0 dX9_where_50 rfl rfl ?_
        obtain ⟨r13, hvr13, h⟩ := zbind h
        refine g_getR (N := 58) (pc := 51) C ck_9 hvr13 rfl rfl fl_X9_13 dX9_where_51 ?_
        refine g_bipush (v := 21) (pc := 54) C dX9_where_54 (by decide) ?_
        refine g_iload_n (pc := 56) C 1 1 dX9_where_56 rfl rfl ?_
        refine g_iadd (pc := 57) C dX9_where_57 ?_
        obtain ⟨a14, hqa14, h9⟩ := zbind h
        clear h
        subst hqa14
        have h := h9
        clear h9
        obtain ⟨v15, hvv15, h⟩ := zbind h
        refine g_iald (pc := 58) C hvv15 dX9_where_58 ?_
        refine g_istore_n (lm' := [(3, tI (v15)), (0, tR (some (h10))), (1, tI (l111))]) (pc := 59) C 3 dX9_where_59 rfl (by decide) rfl ?_
        refine g_aload_n (pc := 60) C 0 1 dX9_where_60 rfl rfl ?_
        refine g_bipush (v := 16) (pc := 61) C dX9_where_61 (by decide) ?_
        obtain ⟨u16, hvu16, h⟩ := zbind h
        obtain ⟨v18, σ17, hvσ17, h⟩ := zcb h
        refine g_callV (pc := 63) (av := [tI (16)]) C (c_X9_putBack hE hvσ17) yv_X9_putBack ml_X9_178 ck_9 (zopt hvu16).1 rfl (rf_of (by decide)) rfl (Nat.le_of_ble_eq_true rfl) dX9_where_63 ?_
        refine g_iload_n (pc := 66) C 3 0 dX9_where_66 rfl rfl ?_
        obtain ⟨rfl, rfl⟩ := zsome h
        exact g_iret (pc := 67) C rfl hx (by rw [hxn]; rfl) (by rw [hxn]; rfl) dX9_where_67
    · have h := zif_t c22 h
      refine g_iconst (v := (-1)) (pc := 25) C dX9_where_25 (by decide) ?_
      obtain ⟨rfl, rfl⟩ := zsome h
      exact g_iret (pc := 26) C rfl hx (by rw [hxn]; rfl) (by rw [hxn]; rfl) dX9_where_26
def rm_X9_meeting : Room := { frames := 7, cells := 0, slots := 0, locals := 169 }
noncomputable def s_X9_meeting_b50 (h0 : Nat) (l2 : Int32) (l3 : Int32) (l4 : Int32) (σ : Hp) : Option (((Nat × Int32 × Int32 × Int32) ⊕ ((Nat × Int32))) × Hp) :=
  if 60 < l4 then
    some (Sum.inr ((h0), (l4)), σ)
  else
    (rdR 9 σ h0 3).bind fun r1 =>
    (r1).bind fun a2 =>
    (ldI 11 σ a2 (21 + l2)).bind fun v3 =>
    if v3 = l3 then
      some (Sum.inr ((h0), (l4)), σ)
    else
      (ck 9 σ h0).bind fun u4 =>
      cb (s_X9_allGo h0 σ) fun v6 σ5 =>
      some (Sum.inl ((h0), (l2), (l3), (l4 + 1)), σ5)
noncomputable def s_X9_meeting_l50 : (Nat × Int32 × Int32 × Int32) → Hp → Option (((Nat × Int32)) × Hp) := loopF (fun v => s_X9_meeting_b50 (v.1) (v.2.1) (v.2.2.1) (v.2.2.2))
set_option maxRecDepth 100000 in
theorem w_X9_meeting_b50 {E : E0} (hE : EOK E) {X : X0} (C : XOK E X cX9_meeting RX9 5 (some .int) rm_X9_meeting) (hxn : xn X = (rm_X9_meeting.cells, rm_X9_meeting.slots)) {KE : ((Nat × Int32)) → Hp → Prop} (e_80 : ∀ (h0 : Nat) (l4 : Int32) (σ : Hp), KE ((h0, l4)) σ → G E X 0 0 80 [(0, tR (some (h0))), (4, tI (l4))] [] σ) (h0 : Nat) (l2 : Int32) (l3 : Int32) (l4 : Int32) (σ : Hp) (x : (Nat × Int32 × Int32 × Int32) ⊕ ((Nat × Int32))) (σ1 : Hp) (h : s_X9_meeting_b50 h0 l2 l3 l4 σ = some (x, σ1)) (hI : ∀ v, x = Sum.inl v → (fun (v : Nat × Int32 × Int32 × Int32) (σ : Hp) => G E X 0 0 50 [(0, tR (some ((v.1)))), (2, tI ((v.2.1))), (3, tI ((v.2.2.1))), (4, tI ((v.2.2.2)))] [] σ) v σ1) (hO : ∀ e, x = Sum.inr e → KE e σ1) : G E X 0 0 50 [(0, tR (some (h0))), (2, tI (l2)), (3, tI (l3)), (4, tI (l4))] [] σ := by
  unfold s_X9_meeting_b50 at h
  refine g_iload (pc := 50) C 3 dX9_meeting_50 rfl ?_
  refine g_bipush (v := 60) (pc := 52) C dX9_meeting_52 (by decide) ?_
  refine g_icmp_gt (pc := 54) C 80 dX9_meeting_54 (by decide) (fun c8 => ?_) (fun c8 => ?_)
  · have h := zif_t c8 h
    refine g_sub [0, 3] (lm' := [(0, tR (some (h0))), (4, tI (l4))]) rfl ?_
    obtain ⟨rfl, rfl⟩ := zsome h
    exact e_80 _ _ _ (hO _ rfl)
  · have h := zif_f c8 h
    refine g_aload_n (pc := 57) C 0 0 dX9_meeting_57 rfl rfl ?_
    obtain ⟨r1, hvr1, h⟩ := zbind h
    refine g_getR (N := 58) (pc := 58) C ck_9 hvr1 rfl rfl fl_X9_13 dX9_meeting_58 ?_
    refine g_bipush (v := 21) (pc := 61) C dX9_meeting_61 (by decide) ?_
    refine g_iload_n (pc := 63) C 2 1 dX9_meeting_63 rfl rfl ?_
    refine g_iadd (pc := 64) C dX9_meeting_64 ?_
    obtain ⟨a2, hqa2, h9⟩ := zbind h
    clear h
    subst hqa2
    have h := h9
    clear h9
    obtain ⟨v3, hvv3, h⟩ := zbind h
    refine g_iald (pc := 65) C hvv3 dX9_meeting_65 ?_
    refine g_iload_n (pc := 66) C 3 2 dX9_meeting_66 rfl rfl ?_
    refine g_icmp_eq (pc := 67) C 80 dX9_meeting_67 (by decide) (fun c7 => ?_) (fun c7 => ?_)
    · have h := zif_t c7 h
      refine g_sub [0, 3] (lm' := [(0, tR (some (h0))), (4, tI (l4))]) rfl ?_
      obtain ⟨rfl, rfl⟩ := zsome h
      exact e_80 _ _ _ (hO _ rfl)
    · have h := zif_f c7 h
      refine g_aload_n (pc := 70) C 0 0 dX9_meeting_70 rfl rfl ?_
      obtain ⟨u4, hvu4, h⟩ := zbind h
      obtain ⟨v6, σ5, hvσ5, h⟩ := zcb h
      refine g_callV (pc := 71) (av := []) C (c_X9_allGo hE hvσ5) yv_X9_allGo ml_X9_454 ck_9 (zopt hvu4).1 rfl (rf_of (by decide)) rfl (Nat.le_of_ble_eq_true rfl) dX9_meeting_71 ?_
      refine g_iinc (lm' := [(4, tI (l4 + 1)), (0, tR (some (h0))), (2, tI (l2)), (3, tI (l3))]) (v := l4 + 1) (pc := 74) C 3 dX9_meeting_74 rfl rfl (by decide) rfl ?_
      refine g_goto (pc := 77) C 50 dX9_meeting_77 (by decide) ?_
      refine g_sub [1, 2, 3, 0] (lm' := [(0, tR (some (h0))), (2, tI (l2)), (3, tI (l3)), (4, tI (l4 + 1))]) rfl ?_
      obtain ⟨rfl, rfl⟩ := zsome h
      exact hI _ rfl
theorem w_X9_meeting_l50 {E : E0} (hE : EOK E) {X : X0} (C : XOK E X cX9_meeting RX9 5 (some .int) rm_X9_meeting) (hxn : xn X = (rm_X9_meeting.cells, rm_X9_meeting.slots)) {KE : ((Nat × Int32)) → Hp → Prop} (e_80 : ∀ (h0 : Nat) (l4 : Int32) (σ : Hp), KE ((h0, l4)) σ → G E X 0 0 80 [(0, tR (some (h0))), (4, tI (l4))] [] σ) {v : Nat × Int32 × Int32 × Int32} {σ : Hp} {e : (Nat × Int32)} {σ1 : Hp} (h : s_X9_meeting_l50 v σ = some (e, σ1)) (hO : KE e σ1) : G E X 0 0 50 [(0, tR (some ((v.1)))), (2, tI ((v.2.1))), (3, tI ((v.2.2.1))), (4, tI ((v.2.2.2)))] [] σ := loopF_ind (P := fun (v : Nat × Int32 × Int32 × Int32) (σ : Hp) => G E X 0 0 50 [(0, tR (some ((v.1)))), (2, tI ((v.2.1))), (3, tI ((v.2.2.1))), (4, tI ((v.2.2.2)))] [] σ) (KE := KE) (fun v σ x σ1 h hI hO => w_X9_meeting_b50 hE C hxn e_80 (v.1) (v.2.1) (v.2.2.1) (v.2.2.2) σ x σ1 h hI hO) v σ e σ1 h hO
noncomputable def s_X9_meeting_j80 (h0 : Nat) (l4 : Int32) (σ : Hp) : Option (Int32 × Hp) :=
  (ck 9 σ h0).bind fun u1 =>
  cb (s_X9_putBack h0 (16) σ) fun v3 σ2 =>
  if l4 ≤ 60 then
    some ((l4), σ2)
  else
    some (((-1)), σ2)
set_option maxRecDepth 100000 in
theorem w_X9_meeting_j80 {E : E0} (hE : EOK E) {X : X0} (C : XOK E X cX9_meeting RX9 5 (some .int) rm_X9_meeting) (hxn : xn X = (rm_X9_meeting.cells, rm_X9_meeting.slots)) (h0 : Nat) (l4 : Int32) (σ : Hp) (r : Int32) (σ1 : Hp) (h : s_X9_meeting_j80 h0 l4 σ = some (r, σ1)) (hx : xd X = (some (tI r), σ1)) : G E X 0 0 80 [(0, tR (some (h0))), (4, tI (l4))] [] σ := by
  unfold s_X9_meeting_j80 at h
  refine g_aload_n (pc := 80) C 0 0 dX9_meeting_80 rfl rfl ?_
  refine g_bipush (v := 16) (pc := 81) C dX9_meeting_81 (by decide) ?_
  obtain ⟨u1, hvu1, h⟩ := zbind h
  obtain ⟨v3, σ2, hvσ2, h⟩ := zcb h
  refine g_callV (pc := 83) (av := [tI (16)]) C (c_X9_putBack hE hvσ2) yv_X9_putBack ml_X9_178 ck_9 (zopt hvu1).1 rfl (rf_of (by decide)) rfl (Nat.le_of_ble_eq_true rfl) dX9_meeting_83 ?_
  refine g_iload (pc := 86) C 1 dX9_meeting_86 rfl ?_
  refine g_bipush (v := 60) (pc := 88) C dX9_meeting_88 (by decide) ?_
  refine g_icmp_le (pc := 90) C 97 dX9_meeting_90 (by decide) (fun c4 => ?_) (fun c4 => ?_)
  · have h := zif_t c4 h
    refine g_iload (pc := 97) C 1 dX9_meeting_97 rfl ?_
    obtain ⟨rfl, rfl⟩ := zsome h
    exact g_iret (pc := 99) C rfl hx (by rw [hxn]; rfl) (by rw [hxn]; rfl) dX9_meeting_99
  · have h := zif_f c4 h
    refine g_iconst (v := (-1)) (pc := 93) C dX9_meeting_93 (by decide) ?_
    refine g_goto (pc := 94) C 99 dX9_meeting_94 (by decide) ?_
    obtain ⟨rfl, rfl⟩ := zsome h
    exact g_iret (pc := 99) C rfl hx (by rw [hxn]; rfl) (by rw [hxn]; rfl) dX9_meeting_99
noncomputable def s_X9_meeting (h0 : Nat) (p1 : Int32) (p2 : Int32) (σ : Hp) : Option (Int32 × Hp) :=
  (wrI 9 σ h0 0 (0)).bind fun σ1 =>
  (ck 9 σ1 h0).bind fun u2 =>
  cb (s_X9_isFolk h0 (p1) σ1) fun v4 σ3 =>
  if v4 = 0 then
    some (((-1)), σ3)
  else
    (ck 9 σ3 h0).bind fun u5 =>
    cb (s_X9_isBadger h0 (p2) σ3) fun v7 σ6 =>
    if v7 = 0 then
      some (((-1)), σ6)
    else
      (rdR 9 σ6 h0 3).bind fun r8 =>
      (rdR 9 σ6 h0 3).bind fun r9 =>
      (r9).bind fun a10 =>
      (ldI 11 σ6 a10 (17 + p1)).bind fun v11 =>
      (r8).bind fun a12 =>
      (ldI 11 σ6 a12 (30 + v11)).bind fun v13 =>
      (ck 9 σ6 h0).bind fun u14 =>
      cb (s_X9_keepAll h0 (16) σ6) fun v16 σ15 =>
      cb (s_X9_meeting_l50 ((h0), (p2), (v13), (0)) σ15) fun e22 σ21 =>
      match e22 with
      | (h17, l418) =>
        s_X9_meeting_j80 (h17) (l418) σ21
set_option maxRecDepth 100000 in
theorem c_X9_meeting {E : E0} (hE : EOK E) {h0 : Nat} {p1 : Int32} {p2 : Int32} {σ σ1 : Hp} {r : Int32} (h : s_X9_meeting h0 p1 p2 σ = some (r, σ1)) : CT E yX9_meeting (.code yX9_meeting cX9_meeting 5 (some .int)) rm_X9_meeting [tR (some (h0)), tI (p1), tI (p2)] σ (some (tI r)) σ1 := by
  refine CT.mk hE (by decide +kernel) (Nat.le_of_ble_eq_true rfl) [(0, tR (some (h0))), (1, tI (p1)), (2, tI (p2))] rfl (fun X C hin hx hxn => ?_)
  have C : XOK E X cX9_meeting RX9 5 (some .int) rm_X9_meeting := C
  unfold s_X9_meeting at h
  refine g_aload_n (pc := 0) C 0 0 dX9_meeting_0 rfl rfl ?_
  refine g_iconst (v := 0) (pc := 1) C dX9_meeting_1 (by decide) ?_
  obtain ⟨σ1, hvσ1, h⟩ := zbind h
  refine g_putI (N := 58) (pc := 2) C ⟨ck_9, rfl, tyX9_ok⟩ hvσ1 rfl fl_X9_161 rfl rfl dX9_meeting_2 ?_
  refine g_aload_n (pc := 5) C 0 0 dX9_meeting_5 rfl rfl ?_
  refine g_iload_n (pc := 6) C 1 1 dX9_meeting_6 rfl rfl ?_
  obtain ⟨u2, hvu2, h⟩ := zbind h
  obtain ⟨v4, σ3, hvσ3, h⟩ := zcb h
  refine g_callV (pc := 7) (av := [tI (p1)]) C (c_X9_isFolk hE hvσ3) yv_X9_isFolk ml_X9_209 ck_9 (zopt hvu2).1 rfl (rf_of (by decide)) rfl (Nat.le_of_ble_eq_true rfl) dX9_meeting_7 ?_
  refine g_if_eq (pc := 10) C 21 dX9_meeting_10 (by decide) (fun c24 => ?_) (fun c24 => ?_)
  · have h := zif_t c24 h
    refine g_iconst (v := (-1)) (pc := 21) C dX9_meeting_21 (by decide) ?_
    obtain ⟨rfl, rfl⟩ := zsome h
    exact g_iret (pc := 22) C rfl hx (by rw [hxn]; rfl) (by rw [hxn]; rfl) dX9_meeting_22
  · have h := zif_f c24 h
    refine g_aload_n (pc := 13) C 0 0 dX9_meeting_13 rfl rfl ?_
    refine g_iload_n (pc := 14) C 2 2 dX9_meeting_14 rfl rfl ?_
    obtain ⟨u5, hvu5, h⟩ := zbind h
    obtain ⟨v7, σ6, hvσ6, h⟩ := zcb h
    refine g_callV (pc := 15) (av := [tI (p2)]) C (c_X9_isBadger hE hvσ6) yv_X9_isBadger ml_X9_212 ck_9 (zopt hvu5).1 rfl (rf_of (by decide)) rfl (Nat.le_of_ble_eq_true rfl) dX9_meeting_15 ?_
    refine g_if_ne (pc := 18) C 23 dX9_meeting_18 (by decide) (fun c23 => ?_) (fun c23 => ?_)
    · have h := zif_f c23 h
      refine g_aload_n (pc := 23) C 0 0 dX9_meeting_23 rfl rfl ?_
      obtain ⟨r8, hvr8, h⟩ := zbind h
      refine g_getR (N := 58) (pc := 24) C ck_9 hvr8 rfl rfl fl_X9_13 dX9_meeting_24 ?_
      refine g_bipush (v := 30) (pc := 27) C dX9_meeting_27 (by decide) ?_
      refine g_aload_n (pc := 29) C 0 0 dX9_meeting_29 rfl rfl ?_
      obtain ⟨r9, hvr9, h⟩ := zbind h
      refine g_getR (N := 58) (pc := 30) C ck_9 hvr9 rfl rfl fl_X9_13 dX9_meeting_30 ?_
      refine g_bipush (v := 17) (pc := 33) C dX9_meeting_33 (by decide) ?_
      refine g_iload_n (pc := 35) C 1 1 dX9_meeting_35 rfl rfl ?_
      refine g_iadd (pc := 36) C dX9_meeting_36 ?_
      obtain ⟨a10, hqa10, h9⟩ := zbind h
      clear h
      subst hqa10
      have h := h9
      clear h9
      obtain ⟨v11, hvv11, h⟩ := zbind h
      refine g_iald (pc := 37) C hvv11 dX9_meeting_37 ?_
      refine g_iadd (pc := 38) C dX9_meeting_38 ?_
      obtain ⟨a12, hqa12, h9⟩ := zbind h
      clear h
      subst hqa12
      have h := h9
      clear h9
      obtain ⟨v13, hvv13, h⟩ := zbind h
      refine g_iald (pc := 39) C hvv13 dX9_meeting_39 ?_
      refine g_istore_n (lm' := [(3, tI (v13)), (0, tR (some (h0))), (1, tI (p1)), (2, tI (p2))]) (pc := 40) C 3 dX9_meeting_40 rfl (by decide) rfl ?_
      refine g_aload_n (pc := 41) C 0 1 dX9_meeting_41 rfl rfl ?_
      refine g_bipush (v := 16) (pc := 42) C dX9_meeting_42 (by decide) ?_
      obtain ⟨u14, hvu14, h⟩ := zbind h
      obtain ⟨v16, σ15, hvσ15, h⟩ := zcb h
      refine g_callV (pc := 44) (av := [tI (16)]) C (c_X9_keepAll hE hvσ15) yv_X9_keepAll ml_X9_174 ck_9 (zopt hvu14).1 rfl (rf_of (by decide)) rfl (Nat.le_of_ble_eq_true rfl) dX9_meeting_44 ?_
      refine g_iconst (v := 0) (pc := 47) C dX9_meeting_47 (by decide) ?_
      refine g_istore (lm' := [(4, tI (0)), (3, tI (v13)), (0, tR (some (h0))), (1, tI (p1)), (2, tI (p2))]) (pc := 48) C dX9_meeting_48 (by decide) rfl ?_
      refine g_sub [2, 4, 1, 0] (lm' := [(0, tR (some (h0))), (2, tI (p2)), (3, tI (v13)), (4, tI (0))]) rfl ?_
      obtain ⟨KQ, hKQ, e22, σ21, hle22, h⟩ := zcbK h
      refine w_X9_meeting_l50 (KE := KQ) hE C hxn ?_ hle22 h
      · intro h17 l418 σ19 h
        have h := (hKQ _ _).mp h
        exact w_X9_meeting_j80 hE C hxn _ _ _ _ _ h hx
    · have h := zif_t c23 h
      refine g_iconst (v := (-1)) (pc := 21) C dX9_meeting_21 (by decide) ?_
      obtain ⟨rfl, rfl⟩ := zsome h
      exact g_iret (pc := 22) C rfl hx (by rw [hxn]; rfl) (by rw [hxn]; rfl) dX9_meeting_22
def rm_X9_free : Room := { frames := 6, cells := 0, slots := 0, locals := 146 }
noncomputable def s_X9_free_b25 (h0 : Nat) (l1 : Int32) (l2 : Int32) (l3 : Int32) (σ : Hp) : Option (((Nat × Int32 × Int32 × Int32) ⊕ ((Nat × Int32 × Int32))) × Hp) :=
  if 48 < l3 then
    some (Sum.inr ((h0), (l2), (l3)), σ)
  else
    (ck 9 σ h0).bind fun u1 =>
    cb (s_X9_theirsIn h0 (l1) σ) fun v3 σ2 =>
    if v3 ≤ 0 then
      some (Sum.inr ((h0), (l2), (l3)), σ2)
    else
      (rdR 9 σ2 h0 3).bind fun r4 =>
      (r4).bind fun a5 =>
      (stI σ2 a5 (7) (l2 + (l3 + 1))).bind fun σ6 =>
      some (Sum.inl ((h0), (l1), (l2), (l3 + 1)), σ6)
noncomputable def s_X9_free_l25 : (Nat × Int32 × Int32 × Int32) → Hp → Option (((Nat × Int32 × Int32)) × Hp) := loopF (fun v => s_X9_free_b25 (v.1) (v.2.1) (v.2.2.1) (v.2.2.2))
set_option maxRecDepth 100000 in
theorem w_X9_free_b25 {E : E0} (hE : EOK E) {X : X0} (C : XOK E X cX9_free RX9 4 (some .int) rm_X9_free) (hxn : xn X = (rm_X9_free.cells, rm_X9_free.slots)) {KE : ((Nat × Int32 × Int32)) → Hp → Prop} (e_55 : ∀ (h0 : Nat) (l2 : Int32) (l3 : Int32) (σ : Hp), KE ((h0, l2, l3)) σ → G E X 0 0 55 [(0, tR (some (h0))), (2, tI (l2)), (3, tI (l3))] [] σ) (h0 : Nat) (l1 : Int32) (l2 : Int32) (l3 : Int32) (σ : Hp) (x : (Nat × Int32 × Int32 × Int32) ⊕ ((Nat × Int32 × Int32))) (σ1 : Hp) (h : s_X9_free_b25 h0 l1 l2 l3 σ = some (x, σ1)) (hI : ∀ v, x = Sum.inl v → (fun (v : Nat × Int32 × Int32 × Int32) (σ : Hp) => G E X 0 0 25 [(0, tR (some ((v.1)))), (1, tI ((v.2.1))), (2, tI ((v.2.2.1))), (3, tI ((v.2.2.2)))] [] σ) v σ1) (hO : ∀ e, x = Sum.inr e → KE e σ1) : G E X 0 0 25 [(0, tR (some (h0))), (1, tI (l1)), (2, tI (l2)), (3, tI (l3))] [] σ := by
  unfold s_X9_free_b25 at h
  refine g_iload_n (pc := 25) C 3 3 dX9_free_25 rfl rfl ?_
  refine g_bipush (v := 48) (pc := 26) C dX9_free_26 (by decide) ?_
  refine g_icmp_gt (pc := 28) C 55 dX9_free_28 (by decide) (fun c8 => ?_) (fun c8 => ?_)
  · have h := zif_t c8 h
    refine g_sub [0, 2, 3] (lm' := [(0, tR (some (h0))), (2, tI (l2)), (3, tI (l3))]) rfl ?_
    obtain ⟨rfl, rfl⟩ := zsome h
    exact e_55 _ _ _ _ (hO _ rfl)
  · have h := zif_f c8 h
    refine g_aload_n (pc := 31) C 0 0 dX9_free_31 rfl rfl ?_
    refine g_iload_n (pc := 32) C 1 1 dX9_free_32 rfl rfl ?_
    obtain ⟨u1, hvu1, h⟩ := zbind h
    obtain ⟨v3, σ2, hvσ2, h⟩ := zcb h
    refine g_callV (pc := 33) (av := [tI (l1)]) C (c_X9_theirsIn hE hvσ2) yv_X9_theirsIn ml_X9_225 ck_9 (zopt hvu1).1 rfl (rf_of (by decide)) rfl (Nat.le_of_ble_eq_true rfl) dX9_free_33 ?_
    refine g_if_le (pc := 36) C 55 dX9_free_36 (by decide) (fun c7 => ?_) (fun c7 => ?_)
    · have h := zif_t c7 h
      refine g_sub [0, 2, 3] (lm' := [(0, tR (some (h0))), (2, tI (l2)), (3, tI (l3))]) rfl ?_
      obtain ⟨rfl, rfl⟩ := zsome h
      exact e_55 _ _ _ _ (hO _ rfl)
    · have h := zif_f c7 h
      refine g_iinc (lm' := [(3, tI (l3 + 1)), (0, tR (some (h0))), (1, tI (l1)), (2, tI (l2))]) (v := l3 + 1) (pc := 39) C 3 dX9_free_39 rfl rfl (by decide) rfl ?_
      refine g_aload_n (pc := 42) C 0 1 dX9_free_42 rfl rfl ?_
      obtain ⟨r4, hvr4, h⟩ := zbind h
      refine g_getR (N := 58) (pc := 43) C ck_9 hvr4 rfl rfl fl_X9_13 dX9_free_43 ?_
      refine g_bipush (v := 7) (pc := 46) C dX9_free_46 (by decide) ?_
      refine g_iload_n (pc := 48) C 2 3 dX9_free_48 rfl rfl ?_
      refine g_iload_n (pc := 49) C 3 0 dX9_free_49 rfl rfl ?_
      refine g_iadd (pc := 50) C dX9_free_50 ?_
      obtain ⟨a5, hqa5, h9⟩ := zbind h
      clear h
      subst hqa5
      have h := h9
      clear h9
      obtain ⟨σ6, hvσ6, h⟩ := zbind h
      refine g_iast (pc := 51) C hvσ6 dX9_free_51 ?_
      refine g_goto (pc := 52) C 25 dX9_free_52 (by decide) ?_
      refine g_sub [1, 2, 3, 0] (lm' := [(0, tR (some (h0))), (1, tI (l1)), (2, tI (l2)), (3, tI (l3 + 1))]) rfl ?_
      obtain ⟨rfl, rfl⟩ := zsome h
      exact hI _ rfl
theorem w_X9_free_l25 {E : E0} (hE : EOK E) {X : X0} (C : XOK E X cX9_free RX9 4 (some .int) rm_X9_free) (hxn : xn X = (rm_X9_free.cells, rm_X9_free.slots)) {KE : ((Nat × Int32 × Int32)) → Hp → Prop} (e_55 : ∀ (h0 : Nat) (l2 : Int32) (l3 : Int32) (σ : Hp), KE ((h0, l2, l3)) σ → G E X 0 0 55 [(0, tR (some (h0))), (2, tI (l2)), (3, tI (l3))] [] σ) {v : Nat × Int32 × Int32 × Int32} {σ : Hp} {e : (Nat × Int32 × Int32)} {σ1 : Hp} (h : s_X9_free_l25 v σ = some (e, σ1)) (hO : KE e σ1) : G E X 0 0 25 [(0, tR (some ((v.1)))), (1, tI ((v.2.1))), (2, tI ((v.2.2.1))), (3, tI ((v.2.2.2)))] [] σ := loopF_ind (P := fun (v : Nat × Int32 × Int32 × Int32) (σ : Hp) => G E X 0 0 25 [(0, tR (some ((v.1)))), (1, tI ((v.2.1))), (2, tI ((v.2.2.1))), (3, tI ((v.2.2.2)))] [] σ) (KE := KE) (fun v σ x σ1 h hI hO => w_X9_free_b25 hE C hxn e_55 (v.1) (v.2.1) (v.2.2.1) (v.2.2.2) σ x σ1 h hI hO) v σ e σ1 h hO
noncomputable def s_X9_free_j55 (h0 : Nat) (l2 : Int32) (l3 : Int32) (σ : Hp) : Option (Int32 × Hp) :=
  (rdR 9 σ h0 3).bind fun r1 =>
  (r1).bind fun a2 =>
  (stI σ a2 (7) (l2)).bind fun σ3 =>
  if l3 ≤ 48 then
    some ((l3), σ3)
  else
    some (((-1)), σ3)
set_option maxRecDepth 100000 in
theorem w_X9_free_j55 {E : E0} (hE : EOK E) {X : X0} (C : XOK E X cX9_free RX9 4 (some .int) rm_X9_free) (hxn : xn X = (rm_X9_free.cells, rm_X9_free.slots)) (h0 : Nat) (l2 : Int32) (l3 : Int32) (σ : Hp) (r : Int32) (σ1 : Hp) (h : s_X9_free_j55 h0 l2 l3 σ = some (r, σ1)) (hx : xd X = (some (tI r), σ1)) : G E X 0 0 55 [(0, tR (some (h0))), (2, tI (l2)), (3, tI (l3))] [] σ := by
  unfold s_X9_free_j55 at h
  refine g_aload_n (pc := 55) C 0 0 dX9_free_55 rfl rfl ?_
  obtain ⟨r1, hvr1, h⟩ := zbind h
  refine g_getR (N := 58) (pc := 56) C ck_9 hvr1 rfl rfl fl_X9_13 dX9_free_56 ?_
  refine g_bipush (v := 7) (pc := 59) C dX9_free_59 (by decide) ?_
  refine g_iload_n (pc := 61) C 2 1 dX9_free_61 rfl rfl ?_
  obtain ⟨a2, hqa2, h9⟩ := zbind h
  clear h
  subst hqa2
  have h := h9
  clear h9
  obtain ⟨σ3, hvσ3, h⟩ := zbind h
  refine g_iast (pc := 62) C hvσ3 dX9_free_62 ?_
  refine g_iload_n (pc := 63) C 3 2 dX9_free_63 rfl rfl ?_
  refine g_bipush (v := 48) (pc := 64) C dX9_free_64 (by decide) ?_
  refine g_icmp_le (pc := 66) C 73 dX9_free_66 (by decide) (fun c4 => ?_) (fun c4 => ?_)
  · have h := zif_t c4 h
    refine g_iload_n (pc := 73) C 3 2 dX9_free_73 rfl rfl ?_
    obtain ⟨rfl, rfl⟩ := zsome h
    exact g_iret (pc := 74) C rfl hx (by rw [hxn]; rfl) (by rw [hxn]; rfl) dX9_free_74
  · have h := zif_f c4 h
    refine g_iconst (v := (-1)) (pc := 69) C dX9_free_69 (by decide) ?_
    refine g_goto (pc := 70) C 74 dX9_free_70 (by decide) ?_
    obtain ⟨rfl, rfl⟩ := zsome h
    exact g_iret (pc := 74) C rfl hx (by rw [hxn]; rfl) (by rw [hxn]; rfl) dX9_free_74
noncomputable def s_X9_free (h0 : Nat) (p1 : Int32) (σ : Hp) : Option (Int32 × Hp) :=
  (wrI 9 σ h0 0 (0)).bind fun σ1 =>
  cb (s_X9_isRoom (Int32.toInt64 (p1 : Int32)) σ1) fun v3 σ2 =>
  if v3 = 0 then
    some (((-1)), σ2)
  else
    (rdR 9 σ2 h0 3).bind fun r4 =>
    (r4).bind fun a5 =>
    (ldI 11 σ2 a5 (7)).bind fun v6 =>
    cb (s_X9_free_l25 ((h0), (p1), (v6), (0)) σ2) fun e13 σ12 =>
    match e13 with
    | (h7, l28, l39) =>
      s_X9_free_j55 (h7) (l28) (l39) σ12
set_option maxRecDepth 100000 in
theorem c_X9_free {E : E0} (hE : EOK E) {h0 : Nat} {p1 : Int32} {σ σ1 : Hp} {r : Int32} (h : s_X9_free h0 p1 σ = some (r, σ1)) : CT E yX9_free (.code yX9_free cX9_free 4 (some .int)) rm_X9_free [tR (some (h0)), tI (p1)] σ (some (tI r)) σ1 := by
  refine CT.mk hE (by decide +kernel) (Nat.le_of_ble_eq_true rfl) [(0, tR (some (h0))), (1, tI (p1))] rfl (fun X C hin hx hxn => ?_)
  have C : XOK E X cX9_free RX9 4 (some .int) rm_X9_free := C
  unfold s_X9_free at h
  refine g_aload_n (pc := 0) C 0 0 dX9_free_0 rfl rfl ?_
  refine g_iconst (v := 0) (pc := 1) C dX9_free_1 (by decide) ?_
  obtain ⟨σ1, hvσ1, h⟩ := zbind h
  refine g_putI (N := 58) (pc := 2) C ⟨ck_9, rfl, tyX9_ok⟩ hvσ1 rfl fl_X9_161 rfl rfl dX9_free_2 ?_
  refine g_iload_n (pc := 5) C 1 1 dX9_free_5 rfl rfl ?_
  refine g_i2l (pc := 6) C dX9_free_6 ?_
  obtain ⟨v3, σ2, hvσ2, h⟩ := zcb h
  refine g_callS (pc := 7) (av := [tJ (Int32.toInt64 (p1 : Int32))]) C (c_X9_isRoom hE hvσ2) ys_X9_isRoom ml_X9_190 rfl (rf_of (by decide)) rfl (Nat.le_of_ble_eq_true rfl) dX9_free_7 ?_
  refine g_if_ne (pc := 10) C 15 dX9_free_10 (by decide) (fun c14 => ?_) (fun c14 => ?_)
  · have h := zif_f c14 h
    refine g_aload_n (pc := 15) C 0 0 dX9_free_15 rfl rfl ?_
    obtain ⟨r4, hvr4, h⟩ := zbind h
    refine g_getR (N := 58) (pc := 16) C ck_9 hvr4 rfl rfl fl_X9_13 dX9_free_16 ?_
    refine g_bipush (v := 7) (pc := 19) C dX9_free_19 (by decide) ?_
    obtain ⟨a5, hqa5, h9⟩ := zbind h
    clear h
    subst hqa5
    have h := h9
    clear h9
    obtain ⟨v6, hvv6, h⟩ := zbind h
    refine g_iald (pc := 21) C hvv6 dX9_free_21 ?_
    refine g_istore_n (lm' := [(2, tI (v6)), (0, tR (some (h0))), (1, tI (p1))]) (pc := 22) C 2 dX9_free_22 rfl (by decide) rfl ?_
    refine g_iconst (v := 0) (pc := 23) C dX9_free_23 (by decide) ?_
    refine g_istore_n (lm' := [(3, tI (0)), (2, tI (v6)), (0, tR (some (h0))), (1, tI (p1))]) (pc := 24) C 3 dX9_free_24 rfl (by decide) rfl ?_
    refine g_sub [2, 3, 1, 0] (lm' := [(0, tR (some (h0))), (1, tI (p1)), (2, tI (v6)), (3, tI (0))]) rfl ?_
    obtain ⟨KQ, hKQ, e13, σ12, hle13, h⟩ := zcbK h
    refine w_X9_free_l25 (KE := KQ) hE C hxn ?_ hle13 h
    · intro h7 l28 l39 σ10 h
      have h := (hKQ _ _).mp h
      exact w_X9_free_j55 hE C hxn _ _ _ _ _ _ h hx
  · have h := zif_t c14 h
    refine g_iconst (v := (-1)) (pc := 13) C dX9_free_13 (by decide) ?_
    obtain ⟨rfl, rfl⟩ := zsome h
    exact g_iret (pc := 14) C rfl hx (by rw [hxn]; rfl) (by rw [hxn]; rfl) dX9_free_14
def rm_X9_shares : Room := { frames := 1, cells := 0, slots := 0, locals := 25 }
noncomputable def s_X9_shares_j114 (h0 : Nat) (l1 : Int32) (l2 : Int32) (l3 : Int32) (l4 : Int32) (l5 : Int32) (l7 : Int32) (t0 : Int32) (t1 : Int32) (σ : Hp) : Option (((Nat × Int32 × Int32 × Int32 × Int32 × Int32 × Int32 × Int32) ⊕ ((Nat × Int32 × Int32 × Int32 × Int32 × Int32 × Int32))) × Hp) :=
  some (Sum.inl ((h0), (l1), (l2), (l3), (l4), (l5), (t0 + t1), (l7 + 1)), σ)
set_option maxRecDepth 100000 in
theorem w_X9_shares_j114 {E : E0} (hE : EOK E) {X : X0} (C : XOK E X cX9_shares RX9 8 (some .int) rm_X9_shares) (hxn : xn X = (rm_X9_shares.cells, rm_X9_shares.slots)) {KE : ((Nat × Int32 × Int32 × Int32 × Int32 × Int32 × Int32)) → Hp → Prop} (e_123 : ∀ (h0 : Nat) (l1 : Int32) (l2 : Int32) (l3 : Int32) (l4 : Int32) (l5 : Int32) (l6 : Int32) (σ : Hp), KE ((h0, l1, l2, l3, l4, l5, l6)) σ → G E X 0 0 123 [(0, tR (some (h0))), (1, tI (l1)), (2, tI (l2)), (3, tI (l3)), (4, tI (l4)), (5, tI (l5)), (6, tI (l6))] [] σ) (h0 : Nat) (l1 : Int32) (l2 : Int32) (l3 : Int32) (l4 : Int32) (l5 : Int32) (l7 : Int32) (t0 : Int32) (t1 : Int32) (σ : Hp) (x : (Nat × Int32 × Int32 × Int32 × Int32 × Int32 × Int32 × Int32) ⊕ ((Nat × Int32 × Int32 × Int32 × Int32 × Int32 × Int32))) (σ1 : Hp) (h : s_X9_shares_j114 h0 l1 l2 l3 l4 l5 l7 t0 t1 σ = some (x, σ1)) (hI : ∀ v, x = Sum.inl v → (fun (v : Nat × Int32 × Int32 × Int32 × Int32 × Int32 × Int32 × Int32) (σ : Hp) => G E X 0 0 46 [(0, tR (some ((v.1)))), (1, tI ((v.2.1))), (2, tI ((v.2.2.1))), (3, tI ((v.2.2.2.1))), (4, tI ((v.2.2.2.2.1))), (5, tI ((v.2.2.2.2.2.1))), (6, tI ((v.2.2.2.2.2.2.1))), (7, tI ((v.2.2.2.2.2.2.2)))] [] σ) v σ1) (hO : ∀ e, x = Sum.inr e → KE e σ1) : G E X 0 0 114 [(0, tR (some (h0))), (1, tI (l1)), (2, tI (l2)), (3, tI (l3)), (4, tI (l4)), (5, tI (l5)), (7, tI (l7))] [tI (t1), tI (t0)] σ := by
  unfold s_X9_shares_j114 at h
  refine g_iadd (pc := 114) C dX9_shares_114 ?_
  refine g_istore (lm' := [(6, tI (t0 + t1)), (0, tR (some (h0))), (1, tI (l1)), (2, tI (l2)), (3, tI (l3)), (4, tI (l4)), (5, tI (l5)), (7, tI (l7))]) (pc := 115) C dX9_shares_115 (by decide) rfl ?_
  refine g_iinc (lm' := [(7, tI (l7 + 1)), (6, tI (t0 + t1)), (0, tR (some (h0))), (1, tI (l1)), (2, tI (l2)), (3, tI (l3)), (4, tI (l4)), (5, tI (l5))]) (v := l7 + 1) (pc := 117) C 7 dX9_shares_117 rfl rfl (by decide) rfl ?_
  refine g_goto (pc := 120) C 46 dX9_shares_120 (by decide) ?_
  refine g_sub [2, 3, 4, 5, 6, 7, 1, 0] (lm' := [(0, tR (some (h0))), (1, tI (l1)), (2, tI (l2)), (3, tI (l3)), (4, tI (l4)), (5, tI (l5)), (6, tI (t0 + t1)), (7, tI (l7 + 1))]) rfl ?_
  obtain ⟨rfl, rfl⟩ := zsome h
  exact hI _ rfl
noncomputable def s_X9_shares_j84 (h0 : Nat) (l1 : Int32) (l2 : Int32) (l3 : Int32) (l4 : Int32) (l6 : Int32) (l7 : Int32) (t0 : Int32) (t1 : Int32) (σ : Hp) : Option (((Nat × Int32 × Int32 × Int32 × Int32 × Int32 × Int32 × Int32) ⊕ ((Nat × Int32 × Int32 × Int32 × Int32 × Int32 × Int32))) × Hp) :=
  cb (s_X9_is (l4) (l7) σ) fun v2 σ1 =>
  if v2 = 0 then
    (rdR 9 σ1 h0 3).bind fun r3 =>
    (r3).bind fun a4 =>
    (ldI 11 σ1 a4 (160 + l7)).bind fun v5 =>
    s_X9_shares_j114 (h0) (l1) (l2) (l3) (l4) (t0 + t1) (l7) (l6) (v5) σ1
  else
    s_X9_shares_j114 (h0) (l1) (l2) (l3) (l4) (t0 + t1) (l7) (l6) (0) σ1
set_option maxRecDepth 100000 in
theorem w_X9_shares_j84 {E : E0} (hE : EOK E) {X : X0} (C : XOK E X cX9_shares RX9 8 (some .int) rm_X9_shares) (hxn : xn X = (rm_X9_shares.cells, rm_X9_shares.slots)) {KE : ((Nat × Int32 × Int32 × Int32 × Int32 × Int32 × Int32)) → Hp → Prop} (e_123 : ∀ (h0 : Nat) (l1 : Int32) (l2 : Int32) (l3 : Int32) (l4 : Int32) (l5 : Int32) (l6 : Int32) (σ : Hp), KE ((h0, l1, l2, l3, l4, l5, l6)) σ → G E X 0 0 123 [(0, tR (some (h0))), (1, tI (l1)), (2, tI (l2)), (3, tI (l3)), (4, tI (l4)), (5, tI (l5)), (6, tI (l6))] [] σ) (h0 : Nat) (l1 : Int32) (l2 : Int32) (l3 : Int32) (l4 : Int32) (l6 : Int32) (l7 : Int32) (t0 : Int32) (t1 : Int32) (σ : Hp) (x : (Nat × Int32 × Int32 × Int32 × Int32 × Int32 × Int32 × Int32) ⊕ ((Nat × Int32 × Int32 × Int32 × Int32 × Int32 × Int32))) (σ1 : Hp) (h : s_X9_shares_j84 h0 l1 l2 l3 l4 l6 l7 t0 t1 σ = some (x, σ1)) (hI : ∀ v, x = Sum.inl v → (fun (v : Nat × Int32 × Int32 × Int32 × Int32 × Int32 × Int32 × Int32) (σ : Hp) => G E X 0 0 46 [(0, tR (some ((v.1)))), (1, tI ((v.2.1))), (2, tI ((v.2.2.1))), (3, tI ((v.2.2.2.1))), (4, tI ((v.2.2.2.2.1))), (5, tI ((v.2.2.2.2.2.1))), (6, tI ((v.2.2.2.2.2.2.1))), (7, tI ((v.2.2.2.2.2.2.2)))] [] σ) v σ1) (hO : ∀ e, x = Sum.inr e → KE e σ1) : G E X 0 0 84 [(0, tR (some (h0))), (1, tI (l1)), (2, tI (l2)), (3, tI (l3)), (4, tI (l4)), (6, tI (l6)), (7, tI (l7))] [tI (t1), tI (t0)] σ := by
  unfold s_X9_shares_j84 at h
  refine g_iadd (pc := 84) C dX9_shares_84 ?_
  refine g_istore (lm' := [(5, tI (t0 + t1)), (0, tR (some (h0))), (1, tI (l1)), (2, tI (l2)), (3, tI (l3)), (4, tI (l4)), (6, tI (l6)), (7, tI (l7))]) (pc := 85) C dX9_shares_85 (by decide) rfl ?_
  refine g_iload (pc := 87) C 6 dX9_shares_87 rfl ?_
  refine g_iload (pc := 89) C 5 dX9_shares_89 rfl ?_
  refine g_iload (pc := 91) C 7 dX9_shares_91 rfl ?_
  obtain ⟨v2, σ1, hvσ1, h⟩ := zcb h
  refine g_callS (pc := 93) (av := [tI (l4), tI (l7)]) C (c_X9_is hE hvσ1) ys_X9_is ml_X9_438 rfl (rf_of (by decide)) rfl (Nat.le_of_ble_eq_true rfl) dX9_shares_93 ?_
  refine g_if_eq (pc := 96) C 103 dX9_shares_96 (by decide) (fun c6 => ?_) (fun c6 => ?_)
  · have h := zif_t c6 h
    refine g_aload_n (pc := 103) C 0 1 dX9_shares_103 rfl rfl ?_
    obtain ⟨r3, hvr3, h⟩ := zbind h
    refine g_getR (N := 58) (pc := 104) C ck_9 hvr3 rfl rfl fl_X9_13 dX9_shares_104 ?_
    refine g_sipush (v := 160) (pc := 107) C dX9_shares_107 (by decide) ?_
    refine g_iload (pc := 110) C 7 dX9_shares_110 rfl ?_
    refine g_iadd (pc := 112) C dX9_shares_112 ?_
    obtain ⟨a4, hqa4, h9⟩ := zbind h
    clear h
    subst hqa4
    have h := h9
    clear h9
    obtain ⟨v5, hvv5, h⟩ := zbind h
    refine g_iald (pc := 113) C hvv5 dX9_shares_113 ?_
    refine g_sub [1, 2, 3, 4, 5, 0, 7] (lm' := [(0, tR (some (h0))), (1, tI (l1)), (2, tI (l2)), (3, tI (l3)), (4, tI (l4)), (5, tI (t0 + t1)), (7, tI (l7))]) rfl ?_
    exact w_X9_shares_j114 hE C hxn e_123 _ _ _ _ _ _ _ _ _ _ _ _ h hI hO
  · have h := zif_f c6 h
    refine g_iconst (v := 0) (pc := 99) C dX9_shares_99 (by decide) ?_
    refine g_goto (pc := 100) C 114 dX9_shares_100 (by decide) ?_
    refine g_sub [1, 2, 3, 4, 5, 0, 7] (lm' := [(0, tR (some (h0))), (1, tI (l1)), (2, tI (l2)), (3, tI (l3)), (4, tI (l4)), (5, tI (t0 + t1)), (7, tI (l7))]) rfl ?_
    exact w_X9_shares_j114 hE C hxn e_123 _ _ _ _ _ _ _ _ _ _ _ _ h hI hO
noncomputable def s_X9_shares_b46 (h0 : Nat) (l1 : Int32) (l2 : Int32) (l3 : Int32) (l4 : Int32) (l5 : Int32) (l6 : Int32) (l7 : Int32) (σ : Hp) : Option (((Nat × Int32 × Int32 × Int32 × Int32 × Int32 × Int32 × Int32) ⊕ ((Nat × Int32 × Int32 × Int32 × Int32 × Int32 × Int32))) × Hp) :=
  (rdR 9 σ h0 3).bind fun r1 =>
  (r1).bind fun a2 =>
  (ldI 11 σ a2 (3)).bind fun v3 =>
  if v3 ≤ l7 then
    some (Sum.inr ((h0), (l1), (l2), (l3), (l4), (l5), (l6)), σ)
  else
    cb (s_X9_is (l4) (l7) σ) fun v5 σ4 =>
    if v5 = 0 then
      s_X9_shares_j84 (h0) (l1) (l2) (l3) (l4) (l6) (l7) (l5) (0) σ4
    else
      (rdR 9 σ4 h0 3).bind fun r6 =>
      (r6).bind fun a7 =>
      (ldI 11 σ4 a7 (154 + l7)).bind fun v8 =>
      s_X9_shares_j84 (h0) (l1) (l2) (l3) (l4) (l6) (l7) (l5) (v8) σ4
noncomputable def s_X9_shares_l46 : (Nat × Int32 × Int32 × Int32 × Int32 × Int32 × Int32 × Int32) → Hp → Option (((Nat × Int32 × Int32 × Int32 × Int32 × Int32 × Int32)) × Hp) := loopF (fun v => s_X9_shares_b46 (v.1) (v.2.1) (v.2.2.1) (v.2.2.2.1) (v.2.2.2.2.1) (v.2.2.2.2.2.1) (v.2.2.2.2.2.2.1) (v.2.2.2.2.2.2.2))
set_option maxRecDepth 100000 in
theorem w_X9_shares_b46 {E : E0} (hE : EOK E) {X : X0} (C : XOK E X cX9_shares RX9 8 (some .int) rm_X9_shares) (hxn : xn X = (rm_X9_shares.cells, rm_X9_shares.slots)) {KE : ((Nat × Int32 × Int32 × Int32 × Int32 × Int32 × Int32)) → Hp → Prop} (e_123 : ∀ (h0 : Nat) (l1 : Int32) (l2 : Int32) (l3 : Int32) (l4 : Int32) (l5 : Int32) (l6 : Int32) (σ : Hp), KE ((h0, l1, l2, l3, l4, l5, l6)) σ → G E X 0 0 123 [(0, tR (some (h0))), (1, tI (l1)), (2, tI (l2)), (3, tI (l3)), (4, tI (l4)), (5, tI (l5)), (6, tI (l6))] [] σ) (h0 : Nat) (l1 : Int32) (l2 : Int32) (l3 : Int32) (l4 : Int32) (l5 : Int32) (l6 : Int32) (l7 : Int32) (σ : Hp) (x : (Nat × Int32 × Int32 × Int32 × Int32 × Int32 × Int32 × Int32) ⊕ ((Nat × Int32 × Int32 × Int32 × Int32 × Int32 × Int32))) (σ1 : Hp) (h : s_X9_shares_b46 h0 l1 l2 l3 l4 l5 l6 l7 σ = some (x, σ1)) (hI : ∀ v, x = Sum.inl v → (fun (v : Nat × Int32 × Int32 × Int32 × Int32 × Int32 × Int32 × Int32) (σ : Hp) => G E X 0 0 46 [(0, tR (some ((v.1)))), (1, tI ((v.2.1))), (2, tI ((v.2.2.1))), (3, tI ((v.2.2.2.1))), (4, tI ((v.2.2.2.2.1))), (5, tI ((v.2.2.2.2.2.1))), (6, tI ((v.2.2.2.2.2.2.1))), (7, tI ((v.2.2.2.2.2.2.2)))] [] σ) v σ1) (hO : ∀ e, x = Sum.inr e → KE e σ1) : G E X 0 0 46 [(0, tR (some (h0))), (1, tI (l1)), (2, tI (l2)), (3, tI (l3)), (4, tI (l4)), (5, tI (l5)), (6, tI (l6)), (7, tI (l7))] [] σ := by
  unfold s_X9_shares_b46 at h
  refine g_iload (pc := 46) C 7 dX9_shares_46 rfl ?_
  refine g_aload_n (pc := 48) C 0 0 dX9_shares_48 rfl rfl ?_
  obtain ⟨r1, hvr1, h⟩ := zbind h
  refine g_getR (N := 58) (pc := 49) C ck_9 hvr1 rfl rfl fl_X9_13 dX9_shares_49 ?_
  refine g_iconst (v := 3) (pc := 52) C dX9_shares_52 (by decide) ?_
  obtain ⟨a2, hqa2, h9⟩ := zbind h
  clear h
  subst hqa2
  have h := h9
  clear h9
  obtain ⟨v3, hvv3, h⟩ := zbind h
  refine g_iald (pc := 53) C hvv3 dX9_shares_53 ?_
  refine g_icmp_ge (pc := 54) C 123 dX9_shares_54 (by decide) (fun c10 => ?_) (fun c10 => ?_)
  · have h := zif_t c10 h
    refine g_sub [0, 1, 2, 3, 4, 5, 6] (lm' := [(0, tR (some (h0))), (1, tI (l1)), (2, tI (l2)), (3, tI (l3)), (4, tI (l4)), (5, tI (l5)), (6, tI (l6))]) rfl ?_
    obtain ⟨rfl, rfl⟩ := zsome h
    exact e_123 _ _ _ _ _ _ _ _ (hO _ rfl)
  · have h := zif_f c10 h
    refine g_iload (pc := 57) C 5 dX9_shares_57 rfl ?_
    refine g_iload (pc := 59) C 4 dX9_shares_59 rfl ?_
    refine g_iload (pc := 61) C 7 dX9_shares_61 rfl ?_
    obtain ⟨v5, σ4, hvσ4, h⟩ := zcb h
    refine g_callS (pc := 63) (av := [tI (l4), tI (l7)]) C (c_X9_is hE hvσ4) ys_X9_is ml_X9_438 rfl (rf_of (by decide)) rfl (Nat.le_of_ble_eq_true rfl) dX9_shares_63 ?_
    refine g_if_eq (pc := 66) C 83 dX9_shares_66 (by decide) (fun c9 => ?_) (fun c9 => ?_)
    · have h := zif_t c9 h
      refine g_iconst (v := 0) (pc := 83) C dX9_shares_83 (by decide) ?_
      refine g_sub [0, 1, 2, 3, 4, 6, 7] (lm' := [(0, tR (some (h0))), (1, tI (l1)), (2, tI (l2)), (3, tI (l3)), (4, tI (l4)), (6, tI (l6)), (7, tI (l7))]) rfl ?_
      exact w_X9_shares_j84 hE C hxn e_123 _ _ _ _ _ _ _ _ _ _ _ _ h hI hO
    · have h := zif_f c9 h
      refine g_aload_n (pc := 69) C 0 0 dX9_shares_69 rfl rfl ?_
      obtain ⟨r6, hvr6, h⟩ := zbind h
      refine g_getR (N := 58) (pc := 70) C ck_9 hvr6 rfl rfl fl_X9_13 dX9_shares_70 ?_
      refine g_sipush (v := 154) (pc := 73) C dX9_shares_73 (by decide) ?_
      refine g_iload (pc := 76) C 7 dX9_shares_76 rfl ?_
      refine g_iadd (pc := 78) C dX9_shares_78 ?_
      obtain ⟨a7, hqa7, h9⟩ := zbind h
      clear h
      subst hqa7
      have h := h9
      clear h9
      obtain ⟨v8, hvv8, h⟩ := zbind h
      refine g_iald (pc := 79) C hvv8 dX9_shares_79 ?_
      refine g_goto (pc := 80) C 84 dX9_shares_80 (by decide) ?_
      refine g_sub [0, 1, 2, 3, 4, 6, 7] (lm' := [(0, tR (some (h0))), (1, tI (l1)), (2, tI (l2)), (3, tI (l3)), (4, tI (l4)), (6, tI (l6)), (7, tI (l7))]) rfl ?_
      exact w_X9_shares_j84 hE C hxn e_123 _ _ _ _ _ _ _ _ _ _ _ _ h hI hO
theorem w_X9_shares_l46 {E : E0} (hE : EOK E) {X : X0} (C : XOK E X cX9_shares RX9 8 (some .int) rm_X9_shares) (hxn : xn X = (rm_X9_shares.cells, rm_X9_shares.slots)) {KE : ((Nat × Int32 × Int32 × Int32 × Int32 × Int32 × Int32)) → Hp → Prop} (e_123 : ∀ (h0 : Nat) (l1 : Int32) (l2 : Int32) (l3 : Int32) (l4 : Int32) (l5 : Int32) (l6 : Int32) (σ : Hp), KE ((h0, l1, l2, l3, l4, l5, l6)) σ → G E X 0 0 123 [(0, tR (some (h0))), (1, tI (l1)), (2, tI (l2)), (3, tI (l3)), (4, tI (l4)), (5, tI (l5)), (6, tI (l6))] [] σ) {v : Nat × Int32 × Int32 × Int32 × Int32 × Int32 × Int32 × Int32} {σ : Hp} {e : (Nat × Int32 × Int32 × Int32 × Int32 × Int32 × Int32)} {σ1 : Hp} (h : s_X9_shares_l46 v σ = some (e, σ1)) (hO : KE e σ1) : G E X 0 0 46 [(0, tR (some ((v.1)))), (1, tI ((v.2.1))), (2, tI ((v.2.2.1))), (3, tI ((v.2.2.2.1))), (4, tI ((v.2.2.2.2.1))), (5, tI ((v.2.2.2.2.2.1))), (6, tI ((v.2.2.2.2.2.2.1))), (7, tI ((v.2.2.2.2.2.2.2)))] [] σ := loopF_ind (P := fun (v : Nat × Int32 × Int32 × Int32 × Int32 × Int32 × Int32 × Int32) (σ : Hp) => G E X 0 0 46 [(0, tR (some ((v.1)))), (1, tI ((v.2.1))), (2, tI ((v.2.2.1))), (3, tI ((v.2.2.2.1))), (4, tI ((v.2.2.2.2.1))), (5, tI ((v.2.2.2.2.2.1))), (6, tI ((v.2.2.2.2.2.2.1))), (7, tI ((v.2.2.2.2.2.2.2)))] [] σ) (KE := KE) (fun v σ x σ1 h hI hO => w_X9_shares_b46 hE C hxn e_123 (v.1) (v.2.1) (v.2.2.1) (v.2.2.2.1) (v.2.2.2.2.1) (v.2.2.2.2.2.1) (v.2.2.2.2.2.2.1) (v.2.2.2.2.2.2.2) σ x σ1 h hI hO) v σ e σ1 h hO
noncomputable def s_X9_shares_j164 (h0 : Nat) (l1 : Int32) (l3 : Int32) (l4 : Int32) (t0 : Int32) (σ : Hp) : Option (((Nat × Int32 × Int32 × Int32 × Int32) ⊕ ((Int32 × Int32 × Int32))) × Hp) :=
  some (Sum.inl ((h0), (l1), (t0), (l3), (l4 + 1)), σ)
set_option maxRecDepth 100000 in
theorem w_X9_shares_j164 {E : E0} (hE : EOK E) {X : X0} (C : XOK E X cX9_shares RX9 8 (some .int) rm_X9_shares) (hxn : xn X = (rm_X9_shares.cells, rm_X9_shares.slots)) {KE : ((Int32 × Int32 × Int32)) → Hp → Prop} (e_171 : ∀ (l1 : Int32) (l2 : Int32) (l3 : Int32) (σ : Hp), KE ((l1, l2, l3)) σ → G E X 0 0 171 [(1, tI (l1)), (2, tI (l2)), (3, tI (l3))] [] σ) (h0 : Nat) (l1 : Int32) (l3 : Int32) (l4 : Int32) (t0 : Int32) (σ : Hp) (x : (Nat × Int32 × Int32 × Int32 × Int32) ⊕ ((Int32 × Int32 × Int32))) (σ1 : Hp) (h : s_X9_shares_j164 h0 l1 l3 l4 t0 σ = some (x, σ1)) (hI : ∀ v, x = Sum.inl v → (fun (v : Nat × Int32 × Int32 × Int32 × Int32) (σ : Hp) => G E X 0 0 24 [(0, tR (some ((v.1)))), (1, tI ((v.2.1))), (2, tI ((v.2.2.1))), (3, tI ((v.2.2.2.1))), (4, tI ((v.2.2.2.2)))] [] σ) v σ1) (hO : ∀ e, x = Sum.inr e → KE e σ1) : G E X 0 0 164 [(0, tR (some (h0))), (1, tI (l1)), (3, tI (l3)), (4, tI (l4))] [tI (t0)] σ := by
  unfold s_X9_shares_j164 at h
  refine g_istore_n (lm' := [(2, tI (t0)), (0, tR (some (h0))), (1, tI (l1)), (3, tI (l3)), (4, tI (l4))]) (pc := 164) C 2 dX9_shares_164 rfl (by decide) rfl ?_
  refine g_iinc (lm' := [(4, tI (l4 + 1)), (2, tI (t0)), (0, tR (some (h0))), (1, tI (l1)), (3, tI (l3))]) (v := l4 + 1) (pc := 165) C 4 dX9_shares_165 rfl rfl (by decide) rfl ?_
  refine g_goto (pc := 168) C 24 dX9_shares_168 (by decide) ?_
  refine g_sub [2, 3, 1, 4, 0] (lm' := [(0, tR (some (h0))), (1, tI (l1)), (2, tI (t0)), (3, tI (l3)), (4, tI (l4 + 1))]) rfl ?_
  obtain ⟨rfl, rfl⟩ := zsome h
  exact hI _ rfl
noncomputable def s_X9_shares_j151 (h0 : Nat) (l1 : Int32) (l2 : Int32) (l4 : Int32) (l7 : Int32) (t0 : Int32) (σ : Hp) : Option (((Nat × Int32 × Int32 × Int32 × Int32) ⊕ ((Int32 × Int32 × Int32))) × Hp) :=
  if l7 ≤ l2 then
    s_X9_shares_j164 (h0) (l1) (t0) (l4) (l2) σ
  else
    s_X9_shares_j164 (h0) (l1) (t0) (l4) (l7) σ
set_option maxRecDepth 100000 in
theorem w_X9_shares_j151 {E : E0} (hE : EOK E) {X : X0} (C : XOK E X cX9_shares RX9 8 (some .int) rm_X9_shares) (hxn : xn X = (rm_X9_shares.cells, rm_X9_shares.slots)) {KE : ((Int32 × Int32 × Int32)) → Hp → Prop} (e_171 : ∀ (l1 : Int32) (l2 : Int32) (l3 : Int32) (σ : Hp), KE ((l1, l2, l3)) σ → G E X 0 0 171 [(1, tI (l1)), (2, tI (l2)), (3, tI (l3))] [] σ) (h0 : Nat) (l1 : Int32) (l2 : Int32) (l4 : Int32) (l7 : Int32) (t0 : Int32) (σ : Hp) (x : (Nat × Int32 × Int32 × Int32 × Int32) ⊕ ((Int32 × Int32 × Int32))) (σ1 : Hp) (h : s_X9_shares_j151 h0 l1 l2 l4 l7 t0 σ = some (x, σ1)) (hI : ∀ v, x = Sum.inl v → (fun (v : Nat × Int32 × Int32 × Int32 × Int32) (σ : Hp) => G E X 0 0 24 [(0, tR (some ((v.1)))), (1, tI ((v.2.1))), (2, tI ((v.2.2.1))), (3, tI ((v.2.2.2.1))), (4, tI ((v.2.2.2.2)))] [] σ) v σ1) (hO : ∀ e, x = Sum.inr e → KE e σ1) : G E X 0 0 151 [(0, tR (some (h0))), (1, tI (l1)), (2, tI (l2)), (4, tI (l4)), (7, tI (l7))] [tI (t0)] σ := by
  unfold s_X9_shares_j151 at h
  refine g_istore_n (lm' := [(3, tI (t0)), (0, tR (some (h0))), (1, tI (l1)), (2, tI (l2)), (4, tI (l4)), (7, tI (l7))]) (pc := 151) C 3 dX9_shares_151 rfl (by decide) rfl ?_
  refine g_iload (pc := 152) C 5 dX9_shares_152 rfl ?_
  refine g_iload_n (pc := 154) C 2 3 dX9_shares_154 rfl rfl ?_
  refine g_icmp_le (pc := 155) C 163 dX9_shares_155 (by decide) (fun c1 => ?_) (fun c1 => ?_)
  · have h := zif_t c1 h
    refine g_iload_n (pc := 163) C 2 3 dX9_shares_163 rfl rfl ?_
    refine g_sub [1, 2, 0, 4] (lm' := [(0, tR (some (h0))), (1, tI (l1)), (3, tI (t0)), (4, tI (l4))]) rfl ?_
    exact w_X9_shares_j164 hE C hxn e_171 _ _ _ _ _ _ _ _ h hI hO
  · have h := zif_f c1 h
    refine g_iload (pc := 158) C 5 dX9_shares_158 rfl ?_
    refine g_goto (pc := 160) C 164 dX9_shares_160 (by decide) ?_
    refine g_sub [1, 2, 0, 4] (lm' := [(0, tR (some (h0))), (1, tI (l1)), (3, tI (t0)), (4, tI (l4))]) rfl ?_
    exact w_X9_shares_j164 hE C hxn e_171 _ _ _ _ _ _ _ _ h hI hO
noncomputable def s_X9_shares_j137 (h0 : Nat) (l1 : Int32) (l2 : Int32) (l3 : Int32) (l4 : Int32) (t0 : Int32) (σ : Hp) : Option (((Nat × Int32 × Int32 × Int32 × Int32) ⊕ ((Int32 × Int32 × Int32))) × Hp) :=
  if t0 ≤ l2 then
    s_X9_shares_j151 (h0) (l1) (l2) (l4) (t0) (l3) σ
  else
    s_X9_shares_j151 (h0) (l1) (l2) (l4) (t0) (l4) σ
set_option maxRecDepth 100000 in
theorem w_X9_shares_j137 {E : E0} (hE : EOK E) {X : X0} (C : XOK E X cX9_shares RX9 8 (some .int) rm_X9_shares) (hxn : xn X = (rm_X9_shares.cells, rm_X9_shares.slots)) {KE : ((Int32 × Int32 × Int32)) → Hp → Prop} (e_171 : ∀ (l1 : Int32) (l2 : Int32) (l3 : Int32) (σ : Hp), KE ((l1, l2, l3)) σ → G E X 0 0 171 [(1, tI (l1)), (2, tI (l2)), (3, tI (l3))] [] σ) (h0 : Nat) (l1 : Int32) (l2 : Int32) (l3 : Int32) (l4 : Int32) (t0 : Int32) (σ : Hp) (x : (Nat × Int32 × Int32 × Int32 × Int32) ⊕ ((Int32 × Int32 × Int32))) (σ1 : Hp) (h : s_X9_shares_j137 h0 l1 l2 l3 l4 t0 σ = some (x, σ1)) (hI : ∀ v, x = Sum.inl v → (fun (v : Nat × Int32 × Int32 × Int32 × Int32) (σ : Hp) => G E X 0 0 24 [(0, tR (some ((v.1)))), (1, tI ((v.2.1))), (2, tI ((v.2.2.1))), (3, tI ((v.2.2.2.1))), (4, tI ((v.2.2.2.2)))] [] σ) v σ1) (hO : ∀ e, x = Sum.inr e → KE e σ1) : G E X 0 0 137 [(0, tR (some (h0))), (1, tI (l1)), (2, tI (l2)), (3, tI (l3)), (4, tI (l4))] [tI (t0)] σ := by
  unfold s_X9_shares_j137 at h
  refine g_istore (lm' := [(7, tI (t0)), (0, tR (some (h0))), (1, tI (l1)), (2, tI (l2)), (3, tI (l3)), (4, tI (l4))]) (pc := 137) C dX9_shares_137 (by decide) rfl ?_
  refine g_iload (pc := 139) C 0 dX9_shares_139 rfl ?_
  refine g_iload_n (pc := 141) C 2 3 dX9_shares_141 rfl rfl ?_
  refine g_icmp_le (pc := 142) C 150 dX9_shares_142 (by decide) (fun c1 => ?_) (fun c1 => ?_)
  · have h := zif_t c1 h
    refine g_iload_n (pc := 150) C 3 4 dX9_shares_150 rfl rfl ?_
    refine g_sub [1, 2, 3, 5, 0] (lm' := [(0, tR (some (h0))), (1, tI (l1)), (2, tI (l2)), (4, tI (l4)), (7, tI (t0))]) rfl ?_
    exact w_X9_shares_j151 hE C hxn e_171 _ _ _ _ _ _ _ _ _ h hI hO
  · have h := zif_f c1 h
    refine g_iload (pc := 145) C 5 dX9_shares_145 rfl ?_
    refine g_goto (pc := 147) C 151 dX9_shares_147 (by decide) ?_
    refine g_sub [1, 2, 3, 5, 0] (lm' := [(0, tR (some (h0))), (1, tI (l1)), (2, tI (l2)), (4, tI (l4)), (7, tI (t0))]) rfl ?_
    exact w_X9_shares_j151 hE C hxn e_171 _ _ _ _ _ _ _ _ _ h hI hO
noncomputable def s_X9_shares_b24 (h0 : Nat) (l1 : Int32) (l2 : Int32) (l3 : Int32) (l4 : Int32) (σ : Hp) : Option (((Nat × Int32 × Int32 × Int32 × Int32) ⊕ ((Int32 × Int32 × Int32))) × Hp) :=
  (rdR 9 σ h0 3).bind fun r1 =>
  (r1).bind fun a2 =>
  (ldI 11 σ a2 (3)).bind fun v3 =>
  if ((1 : Int32) <<< (v3 &&& 31)) ≤ l4 then
    some (Sum.inr ((l1), (l2), (l3)), σ)
  else
    cb (s_X9_shares_l46 ((h0), (l1), (l2), (l3), (l4), (0), (0), (0)) σ) fun e15 σ14 =>
    match e15 with
    | (h4, l15, l26, l37, l48, l59, l610) =>
      if l610 ≤ l59 then
        s_X9_shares_j137 (h4) (l15) (l26) (l37) (l48) (l610) σ14
      else
        s_X9_shares_j137 (h4) (l15) (l26) (l37) (l48) (l59) σ14
noncomputable def s_X9_shares_l24 : (Nat × Int32 × Int32 × Int32 × Int32) → Hp → Option (((Int32 × Int32 × Int32)) × Hp) := loopF (fun v => s_X9_shares_b24 (v.1) (v.2.1) (v.2.2.1) (v.2.2.2.1) (v.2.2.2.2))
set_option maxRecDepth 100000 in
theorem w_X9_shares_b24 {E : E0} (hE : EOK E) {X : X0} (C : XOK E X cX9_shares RX9 8 (some .int) rm_X9_shares) (hxn : xn X = (rm_X9_shares.cells, rm_X9_shares.slots)) {KE : ((Int32 × Int32 × Int32)) → Hp → Prop} (e_171 : ∀ (l1 : Int32) (l2 : Int32) (l3 : Int32) (σ : Hp), KE ((l1, l2, l3)) σ → G E X 0 0 171 [(1, tI (l1)), (2, tI (l2)), (3, tI (l3))] [] σ) (h0 : Nat) (l1 : Int32) (l2 : Int32) (l3 : Int32) (l4 : Int32) (σ : Hp) (x : (Nat × Int32 × Int32 × Int32 × Int32) ⊕ ((Int32 × Int32 × Int32))) (σ1 : Hp) (h : s_X9_shares_b24 h0 l1 l2 l3 l4 σ = some (x, σ1)) (hI : ∀ v, x = Sum.inl v → (fun (v : Nat × Int32 × Int32 × Int32 × Int32) (σ : Hp) => G E X 0 0 24 [(0, tR (some ((v.1)))), (1, tI ((v.2.1))), (2, tI ((v.2.2.1))), (3, tI ((v.2.2.2.1))), (4, tI ((v.2.2.2.2)))] [] σ) v σ1) (hO : ∀ e, x = Sum.inr e → KE e σ1) : G E X 0 0 24 [(0, tR (some (h0))), (1, tI (l1)), (2, tI (l2)), (3, tI (l3)), (4, tI (l4))] [] σ := by
  unfold s_X9_shares_b24 at h
  refine g_iload (pc := 24) C 4 dX9_shares_24 rfl ?_
  refine g_iconst (v := 1) (pc := 26) C dX9_shares_26 (by decide) ?_
  refine g_aload_n (pc := 27) C 0 0 dX9_shares_27 rfl rfl ?_
  obtain ⟨r1, hvr1, h⟩ := zbind h
  refine g_getR (N := 58) (pc := 28) C ck_9 hvr1 rfl rfl fl_X9_13 dX9_shares_28 ?_
  refine g_iconst (v := 3) (pc := 31) C dX9_shares_31 (by decide) ?_
  obtain ⟨a2, hqa2, h9⟩ := zbind h
  clear h
  subst hqa2
  have h := h9
  clear h9
  obtain ⟨v3, hvv3, h⟩ := zbind h
  refine g_iald (pc := 32) C hvv3 dX9_shares_32 ?_
  refine g_ishl (pc := 33) C dX9_shares_33 ?_
  refine g_icmp_ge (pc := 34) C 171 dX9_shares_34 (by decide) (fun c16 => ?_) (fun c16 => ?_)
  · have h := zif_t c16 h
    refine g_sub [1, 2, 3] (lm' := [(1, tI (l1)), (2, tI (l2)), (3, tI (l3))]) rfl ?_
    obtain ⟨rfl, rfl⟩ := zsome h
    exact e_171 _ _ _ _ (hO _ rfl)
  · have h := zif_f c16 h
    refine g_iconst (v := 0) (pc := 37) C dX9_shares_37 (by decide) ?_
    refine g_istore (lm' := [(5, tI (0)), (0, tR (some (h0))), (1, tI (l1)), (2, tI (l2)), (3, tI (l3)), (4, tI (l4))]) (pc := 38) C dX9_shares_38 (by decide) rfl ?_
    refine g_iconst (v := 0) (pc := 40) C dX9_shares_40 (by decide) ?_
    refine g_istore (lm' := [(6, tI (0)), (5, tI (0)), (0, tR (some (h0))), (1, tI (l1)), (2, tI (l2)), (3, tI (l3)), (4, tI (l4))]) (pc := 41) C dX9_shares_41 (by decide) rfl ?_
    refine g_iconst (v := 0) (pc := 43) C dX9_shares_43 (by decide) ?_
    refine g_istore (lm' := [(7, tI (0)), (6, tI (0)), (5, tI (0)), (0, tR (some (h0))), (1, tI (l1)), (2, tI (l2)), (3, tI (l3)), (4, tI (l4))]) (pc := 44) C dX9_shares_44 (by decide) rfl ?_
    refine g_sub [3, 4, 5, 6, 7, 2, 1, 0] (lm' := [(0, tR (some (h0))), (1, tI (l1)), (2, tI (l2)), (3, tI (l3)), (4, tI (l4)), (5, tI (0)), (6, tI (0)), (7, tI (0))]) rfl ?_
    obtain ⟨KQ, hKQ, e15, σ14, hle15, h⟩ := zcbK h
    refine w_X9_shares_l46 (KE := KQ) hE C hxn ?_ hle15 h
    · intro h4 l15 l26 l37 l48 l59 l610 σ11 h
      have h := (hKQ _ _).mp h
      refine g_iload (pc := 123) C 5 dX9_shares_123 rfl ?_
      refine g_iload (pc := 125) C 6 dX9_shares_125 rfl ?_
      refine g_icmp_ge (pc := 127) C 135 dX9_shares_127 (by decide) (fun c12 => ?_) (fun c12 => ?_)
      · have h := zif_t c12 h
        refine g_iload (pc := 135) C 6 dX9_shares_135 rfl ?_
        refine g_sub [0, 1, 2, 3, 4] (lm' := [(0, tR (some (h4))), (1, tI (l15)), (2, tI (l26)), (3, tI (l37)), (4, tI (l48))]) rfl ?_
        exact w_X9_shares_j137 hE C hxn e_171 _ _ _ _ _ _ _ _ _ h hI hO
      · have h := zif_f c12 h
        refine g_iload (pc := 130) C 5 dX9_shares_130 rfl ?_
        refine g_goto (pc := 132) C 137 dX9_shares_132 (by decide) ?_
        refine g_sub [0, 1, 2, 3, 4] (lm' := [(0, tR (some (h4))), (1, tI (l15)), (2, tI (l26)), (3, tI (l37)), (4, tI (l48))]) rfl ?_
        exact w_X9_shares_j137 hE C hxn e_171 _ _ _ _ _ _ _ _ _ h hI hO
theorem w_X9_shares_l24 {E : E0} (hE : EOK E) {X : X0} (C : XOK E X cX9_shares RX9 8 (some .int) rm_X9_shares) (hxn : xn X = (rm_X9_shares.cells, rm_X9_shares.slots)) {KE : ((Int32 × Int32 × Int32)) → Hp → Prop} (e_171 : ∀ (l1 : Int32) (l2 : Int32) (l3 : Int32) (σ : Hp), KE ((l1, l2, l3)) σ → G E X 0 0 171 [(1, tI (l1)), (2, tI (l2)), (3, tI (l3))] [] σ) {v : Nat × Int32 × Int32 × Int32 × Int32} {σ : Hp} {e : (Int32 × Int32 × Int32)} {σ1 : Hp} (h : s_X9_shares_l24 v σ = some (e, σ1)) (hO : KE e σ1) : G E X 0 0 24 [(0, tR (some ((v.1)))), (1, tI ((v.2.1))), (2, tI ((v.2.2.1))), (3, tI ((v.2.2.2.1))), (4, tI ((v.2.2.2.2)))] [] σ := loopF_ind (P := fun (v : Nat × Int32 × Int32 × Int32 × Int32) (σ : Hp) => G E X 0 0 24 [(0, tR (some ((v.1)))), (1, tI ((v.2.1))), (2, tI ((v.2.2.1))), (3, tI ((v.2.2.2.1))), (4, tI ((v.2.2.2.2)))] [] σ) (KE := KE) (fun v σ x σ1 h hI hO => w_X9_shares_b24 hE C hxn e_171 (v.1) (v.2.1) (v.2.2.1) (v.2.2.2.1) (v.2.2.2.2) σ x σ1 h hI hO) v σ e σ1 h hO
noncomputable def s_X9_shares (h0 : Nat) (p1 : Int32) (σ : Hp) : Option (Int32 × Hp) :=
  (wrI 9 σ h0 0 (0)).bind fun σ1 =>
  cb (s_X9_in (Int32.toInt64 (p1 : Int32)) (0) (1) σ1) fun v3 σ2 =>
  if v3 = 0 then
    some (((-1)), σ2)
  else
    cb (s_X9_shares_l24 ((h0), (p1), ((-1)), (0), (0)) σ2) fun e11 σ10 =>
    match e11 with
    | (l14, l25, l36) =>
      if l14 = 0 then
        some ((l25), σ10)
      else
        some ((l36), σ10)
set_option maxRecDepth 100000 in
theorem c_X9_shares {E : E0} (hE : EOK E) {h0 : Nat} {p1 : Int32} {σ σ1 : Hp} {r : Int32} (h : s_X9_shares h0 p1 σ = some (r, σ1)) : CT E yX9_shares (.code yX9_shares cX9_shares 8 (some .int)) rm_X9_shares [tR (some (h0)), tI (p1)] σ (some (tI r)) σ1 := by
  refine CT.mk hE (by decide +kernel) (Nat.le_of_ble_eq_true rfl) [(0, tR (some (h0))), (1, tI (p1))] rfl (fun X C hin hx hxn => ?_)
  have C : XOK E X cX9_shares RX9 8 (some .int) rm_X9_shares := C
  unfold s_X9_shares at h
  refine g_aload_n (pc := 0) C 0 0 dX9_shares_0 rfl rfl ?_
  refine g_iconst (v := 0) (pc := 1) C dX9_shares_1 (by decide) ?_
  obtain ⟨σ1, hvσ1, h⟩ := zbind h
  refine g_putI (N := 58) (pc := 2) C ⟨ck_9, rfl, tyX9_ok⟩ hvσ1 rfl fl_X9_161 rfl rfl dX9_shares_2 ?_
  refine g_iload_n (pc := 5) C 1 1 dX9_shares_5 rfl rfl ?_
  refine g_i2l (pc := 6) C dX9_shares_6 ?_
  refine g_lconst (v := 0) (pc := 7) C dX9_shares_7 (by decide) ?_
  refine g_lconst (v := 1) (pc := 8) C dX9_shares_8 (by decide) ?_
  obtain ⟨v3, σ2, hvσ2, h⟩ := zcb h
  refine g_callS (pc := 9) (av := [tJ (Int32.toInt64 (p1 : Int32)), tJ (0), tJ (1)]) C (c_X9_in hE hvσ2) ys_X9_in ml_X9_181 rfl (rf_of (by decide)) rfl (Nat.le_of_ble_eq_true rfl) dX9_shares_9 ?_
  refine g_if_ne (pc := 12) C 17 dX9_shares_12 (by decide) (fun c12 => ?_) (fun c12 => ?_)
  · have h := zif_f c12 h
    refine g_iconst (v := (-1)) (pc := 17) C dX9_shares_17 (by decide) ?_
    refine g_istore_n (lm' := [(2, tI ((-1))), (0, tR (some (h0))), (1, tI (p1))]) (pc := 18) C 2 dX9_shares_18 rfl (by decide) rfl ?_
    refine g_iconst (v := 0) (pc := 19) C dX9_shares_19 (by decide) ?_
    refine g_istore_n (lm' := [(3, tI (0)), (2, tI ((-1))), (0, tR (some (h0))), (1, tI (p1))]) (pc := 20) C 3 dX9_shares_20 rfl (by decide) rfl ?_
    refine g_iconst (v := 0) (pc := 21) C dX9_shares_21 (by decide) ?_
    refine g_istore (lm' := [(4, tI (0)), (3, tI (0)), (2, tI ((-1))), (0, tR (some (h0))), (1, tI (p1))]) (pc := 22) C dX9_shares_22 (by decide) rfl ?_
    refine g_sub [3, 4, 2, 1, 0] (lm' := [(0, tR (some (h0))), (1, tI (p1)), (2, tI ((-1))), (3, tI (0)), (4, tI (0))]) rfl ?_
    obtain ⟨KQ, hKQ, e11, σ10, hle11, h⟩ := zcbK h
    refine w_X9_shares_l24 (KE := KQ) hE C hxn ?_ hle11 h
    · intro l14 l25 l36 σ7 h
      have h := (hKQ _ _).mp h
      refine g_iload_n (pc := 171) C 1 0 dX9_shares_171 rfl rfl ?_
      refine g_if_ne (pc := 172) C 179 dX9_shares_172 (by decide) (fun c8 => ?_) (fun c8 => ?_)
      · have h := zif_f c8 h
        refine g_iload_n (pc := 179) C 3 2 dX9_shares_179 rfl rfl ?_
        obtain ⟨rfl, rfl⟩ := zsome h
        exact g_iret (pc := 180) C rfl hx (by rw [hxn]; rfl) (by rw [hxn]; rfl) dX9_shares_180
      · have h := zif_t c8 h
        refine g_iload_n (pc := 175) C 2 1 dX9_shares_175 rfl rfl ?_
        refine g_goto (pc := 176) C 180 dX9_shares_176 (by decide) ?_
        obtain ⟨rfl, rfl⟩ := zsome h
        exact g_iret (pc := 180) C rfl hx (by rw [hxn]; rfl) (by rw [hxn]; rfl) dX9_shares_180
  · have h := zif_t c12 h
    refine g_iconst (v := (-1)) (pc := 15) C dX9_shares_15 (by decide) ?_
    obtain ⟨rfl, rfl⟩ := zsome h
    exact g_iret (pc := 16) C rfl hx (by rw [hxn]; rfl) (by rw [hxn]; rfl) dX9_shares_16
def rm_X9_low : Room := { frames := 7, cells := 0, slots := 0, locals := 167 }
noncomputable def s_X9_low_j71 (h0 : Nat) (l1 : Int32) (l3 : Int32) (t0 : Int32) (t1 : Int32) (σ : Hp) : Option (((Nat × Int32 × Int32 × Int32) ⊕ (Int32)) × Hp) :=
  some (Sum.inl ((h0), (l1), (t0 ||| t1), (l3 + 1)), σ)
set_option maxRecDepth 100000 in
theorem w_X9_low_j71 {E : E0} (hE : EOK E) {X : X0} (C : XOK E X cX9_low RX9 5 (some .int) rm_X9_low) (hxn : xn X = (rm_X9_low.cells, rm_X9_low.slots)) {KE : (Int32) → Hp → Prop} (e_ret : ∀ (r : Int32) (σ : Hp), KE (r) σ → xd X = (some (tI r), σ)) (h0 : Nat) (l1 : Int32) (l3 : Int32) (t0 : Int32) (t1 : Int32) (σ : Hp) (x : (Nat × Int32 × Int32 × Int32) ⊕ (Int32)) (σ1 : Hp) (h : s_X9_low_j71 h0 l1 l3 t0 t1 σ = some (x, σ1)) (hI : ∀ v, x = Sum.inl v → (fun (v : Nat × Int32 × Int32 × Int32) (σ : Hp) => G E X 0 0 19 [(0, tR (some ((v.1)))), (1, tI ((v.2.1))), (2, tI ((v.2.2.1))), (3, tI ((v.2.2.2)))] [] σ) v σ1) (hO : ∀ e, x = Sum.inr e → KE e σ1) : G E X 0 0 71 [(0, tR (some (h0))), (1, tI (l1)), (3, tI (l3))] [tI (t1), tI (t0)] σ := by
  unfold s_X9_low_j71 at h
  refine g_ior (pc := 71) C dX9_low_71 ?_
  refine g_istore_n (lm' := [(2, tI (t0 ||| t1)), (0, tR (some (h0))), (1, tI (l1)), (3, tI (l3))]) (pc := 72) C 2 dX9_low_72 rfl (by decide) rfl ?_
  refine g_iinc (lm' := [(3, tI (l3 + 1)), (2, tI (t0 ||| t1)), (0, tR (some (h0))), (1, tI (l1))]) (v := l3 + 1) (pc := 73) C 3 dX9_low_73 rfl rfl (by decide) rfl ?_
  refine g_goto (pc := 76) C 19 dX9_low_76 (by decide) ?_
  refine g_sub [2, 3, 1, 0] (lm' := [(0, tR (some (h0))), (1, tI (l1)), (2, tI (t0 ||| t1)), (3, tI (l3 + 1))]) rfl ?_
  obtain ⟨rfl, rfl⟩ := zsome h
  exact hI _ rfl
noncomputable def s_X9_low_j70 (h0 : Nat) (l1 : Int32) (l3 : Int32) (t0 : Int32) (σ : Hp) : Option (((Nat × Int32 × Int32 × Int32) ⊕ (Int32)) × Hp) :=
  s_X9_low_j71 (h0) (l1) (l3) (t0) (0) σ
set_option maxRecDepth 100000 in
theorem w_X9_low_j70 {E : E0} (hE : EOK E) {X : X0} (C : XOK E X cX9_low RX9 5 (some .int) rm_X9_low) (hxn : xn X = (rm_X9_low.cells, rm_X9_low.slots)) {KE : (Int32) → Hp → Prop} (e_ret : ∀ (r : Int32) (σ : Hp), KE (r) σ → xd X = (some (tI r), σ)) (h0 : Nat) (l1 : Int32) (l3 : Int32) (t0 : Int32) (σ : Hp) (x : (Nat × Int32 × Int32 × Int32) ⊕ (Int32)) (σ1 : Hp) (h : s_X9_low_j70 h0 l1 l3 t0 σ = some (x, σ1)) (hI : ∀ v, x = Sum.inl v → (fun (v : Nat × Int32 × Int32 × Int32) (σ : Hp) => G E X 0 0 19 [(0, tR (some ((v.1)))), (1, tI ((v.2.1))), (2, tI ((v.2.2.1))), (3, tI ((v.2.2.2)))] [] σ) v σ1) (hO : ∀ e, x = Sum.inr e → KE e σ1) : G E X 0 0 70 [(0, tR (some (h0))), (1, tI (l1)), (3, tI (l3))] [tI (t0)] σ := by
  unfold s_X9_low_j70 at h
  refine g_iconst (v := 0) (pc := 70) C dX9_low_70 (by decide) ?_
  exact w_X9_low_j71 hE C hxn e_ret _ _ _ _ _ _ _ _ h hI hO
noncomputable def s_X9_low_b19 (h0 : Nat) (l1 : Int32) (l2 : Int32) (l3 : Int32) (σ : Hp) : Option (((Nat × Int32 × Int32 × Int32) ⊕ (Int32)) × Hp) :=
  (rdR 9 σ h0 3).bind fun r1 =>
  (r1).bind fun a2 =>
  (ldI 11 σ a2 (3)).bind fun v3 =>
  if v3 ≤ l3 then
    some (Sum.inr (l2), σ)
  else
    (rdR 9 σ h0 3).bind fun r4 =>
    (r4).bind fun a5 =>
    (ldI 11 σ a5 (24 + l3)).bind fun v6 =>
    (rdR 9 σ h0 3).bind fun r7 =>
    (r7).bind fun a8 =>
    (ldI 11 σ a8 (30 + v6)).bind fun v9 =>
    if v9 = l1 then
      (ck 9 σ h0).bind fun u10 =>
      cb (s_X9_isSafe h0 (v6) σ) fun v12 σ11 =>
      if v12 = 0 then
        s_X9_low_j71 (h0) (l1) (l3) (l2) ((1 : Int32) <<< (l3 &&& 31)) σ11
      else
        s_X9_low_j70 (h0) (l1) (l3) (l2) σ11
    else
      s_X9_low_j70 (h0) (l1) (l3) (l2) σ
noncomputable def s_X9_low_l19 : (Nat × Int32 × Int32 × Int32) → Hp → Option ((Int32) × Hp) := loopF (fun v => s_X9_low_b19 (v.1) (v.2.1) (v.2.2.1) (v.2.2.2))
set_option maxRecDepth 100000 in
theorem w_X9_low_b19 {E : E0} (hE : EOK E) {X : X0} (C : XOK E X cX9_low RX9 5 (some .int) rm_X9_low) (hxn : xn X = (rm_X9_low.cells, rm_X9_low.slots)) {KE : (Int32) → Hp → Prop} (e_ret : ∀ (r : Int32) (σ : Hp), KE (r) σ → xd X = (some (tI r), σ)) (h0 : Nat) (l1 : Int32) (l2 : Int32) (l3 : Int32) (σ : Hp) (x : (Nat × Int32 × Int32 × Int32) ⊕ (Int32)) (σ1 : Hp) (h : s_X9_low_b19 h0 l1 l2 l3 σ = some (x, σ1)) (hI : ∀ v, x = Sum.inl v → (fun (v : Nat × Int32 × Int32 × Int32) (σ : Hp) => G E X 0 0 19 [(0, tR (some ((v.1)))), (1, tI ((v.2.1))), (2, tI ((v.2.2.1))), (3, tI ((v.2.2.2)))] [] σ) v σ1) (hO : ∀ e, x = Sum.inr e → KE e σ1) : G E X 0 0 19 [(0, tR (some (h0))), (1, tI (l1)), (2, tI (l2)), (3, tI (l3))] [] σ := by
  unfold s_X9_low_b19 at h
  refine g_iload_n (pc := 19) C 3 3 dX9_low_19 rfl rfl ?_
  refine g_aload_n (pc := 20) C 0 0 dX9_low_20 rfl rfl ?_
  obtain ⟨r1, hvr1, h⟩ := zbind h
  refine g_getR (N := 58) (pc := 21) C ck_9 hvr1 rfl rfl fl_X9_13 dX9_low_21 ?_
  refine g_iconst (v := 3) (pc := 24) C dX9_low_24 (by decide) ?_
  obtain ⟨a2, hqa2, h9⟩ := zbind h
  clear h
  subst hqa2
  have h := h9
  clear h9
  obtain ⟨v3, hvv3, h⟩ := zbind h
  refine g_iald (pc := 25) C hvv3 dX9_low_25 ?_
  refine g_icmp_ge (pc := 26) C 79 dX9_low_26 (by decide) (fun c15 => ?_) (fun c15 => ?_)
  · have h := zif_t c15 h
    refine g_iload_n (pc := 79) C 2 2 dX9_low_79 rfl rfl ?_
    obtain ⟨rfl, rfl⟩ := zsome h
    exact g_iret (pc := 80) C rfl (e_ret _ _ (hO _ rfl)) (by rw [hxn]; rfl) (by rw [hxn]; rfl) dX9_low_80
  · have h := zif_f c15 h
    refine g_aload_n (pc := 29) C 0 0 dX9_low_29 rfl rfl ?_
    obtain ⟨r4, hvr4, h⟩ := zbind h
    refine g_getR (N := 58) (pc := 30) C ck_9 hvr4 rfl rfl fl_X9_13 dX9_low_30 ?_
    refine g_bipush (v := 24) (pc := 33) C dX9_low_33 (by decide) ?_
    refine g_iload_n (pc := 35) C 3 3 dX9_low_35 rfl rfl ?_
    refine g_iadd (pc := 36) C dX9_low_36 ?_
    obtain ⟨a5, hqa5, h9⟩ := zbind h
    clear h
    subst hqa5
    have h := h9
    clear h9
    obtain ⟨v6, hvv6, h⟩ := zbind h
    refine g_iald (pc := 37) C hvv6 dX9_low_37 ?_
    refine g_istore (lm' := [(4, tI (v6)), (0, tR (some (h0))), (1, tI (l1)), (2, tI (l2)), (3, tI (l3))]) (pc := 38) C dX9_low_38 (by decide) rfl ?_
    refine g_iload_n (pc := 40) C 2 3 dX9_low_40 rfl rfl ?_
    refine g_aload_n (pc := 41) C 0 1 dX9_low_41 rfl rfl ?_
    obtain ⟨r7, hvr7, h⟩ := zbind h
    refine g_getR (N := 58) (pc := 42) C ck_9 hvr7 rfl rfl fl_X9_13 dX9_low_42 ?_
    refine g_bipush (v := 30) (pc := 45) C dX9_low_45 (by decide) ?_
    refine g_iload (pc := 47) C 0 dX9_low_47 rfl ?_
    refine g_iadd (pc := 49) C dX9_low_49 ?_
    obtain ⟨a8, hqa8, h9⟩ := zbind h
    clear h
    subst hqa8
    have h := h9
    clear h9
    obtain ⟨v9, hvv9, h⟩ := zbind h
    refine g_iald (pc := 50) C hvv9 dX9_low_50 ?_
    refine g_iload_n (pc := 51) C 1 2 dX9_low_51 rfl rfl ?_
    refine g_icmp_ne (pc := 52) C 70 dX9_low_52 (by decide) (fun c14 => ?_) (fun c14 => ?_)
    · have h := zif_f c14 h
      refine g_sub [1, 2, 4] (lm' := [(0, tR (some (h0))), (1, tI (l1)), (3, tI (l3))]) rfl ?_
      exact w_X9_low_j70 hE C hxn e_ret _ _ _ _ _ _ _ h hI hO
    · have h := zif_t c14 h
      refine g_aload_n (pc := 55) C 0 1 dX9_low_55 rfl rfl ?_
      refine g_iload (pc := 56) C 0 dX9_low_56 rfl ?_
      obtain ⟨u10, hvu10, h⟩ := zbind h
      obtain ⟨v12, σ11, hvσ11, h⟩ := zcb h
      refine g_callV (pc := 58) (av := [tI (v6)]) C (c_X9_isSafe hE hvσ11) yv_X9_isSafe ml_X9_200 ck_9 (zopt hvu10).1 rfl (rf_of (by decide)) rfl (Nat.le_of_ble_eq_true rfl) dX9_low_58 ?_
      refine g_if_ne (pc := 61) C 70 dX9_low_61 (by decide) (fun c13 => ?_) (fun c13 => ?_)
      · have h := zif_f c13 h
        refine g_sub [1, 2, 4] (lm' := [(0, tR (some (h0))), (1, tI (l1)), (3, tI (l3))]) rfl ?_
        exact w_X9_low_j70 hE C hxn e_ret _ _ _ _ _ _ _ h hI hO
      · have h := zif_t c13 h
        refine g_iconst (v := 1) (pc := 64) C dX9_low_64 (by decide) ?_
        refine g_iload_n (pc := 65) C 3 4 dX9_low_65 rfl rfl ?_
        refine g_ishl (pc := 66) C dX9_low_66 ?_
        refine g_goto (pc := 67) C 71 dX9_low_67 (by decide) ?_
        refine g_sub [1, 2, 4] (lm' := [(0, tR (some (h0))), (1, tI (l1)), (3, tI (l3))]) rfl ?_
        exact w_X9_low_j71 hE C hxn e_ret _ _ _ _ _ _ _ _ h hI hO
theorem w_X9_low_l19 {E : E0} (hE : EOK E) {X : X0} (C : XOK E X cX9_low RX9 5 (some .int) rm_X9_low) (hxn : xn X = (rm_X9_low.cells, rm_X9_low.slots)) {KE : (Int32) → Hp → Prop} (e_ret : ∀ (r : Int32) (σ : Hp), KE (r) σ → xd X = (some (tI r), σ)) {v : Nat × Int32 × Int32 × Int32} {σ : Hp} {e : Int32} {σ1 : Hp} (h : s_X9_low_l19 v σ = some (e, σ1)) (hO : KE e σ1) : G E X 0 0 19 [(0, tR (some ((v.1)))), (1, tI ((v.2.1))), (2, tI ((v.2.2.1))), (3, tI ((v.2.2.2)))] [] σ := loopF_ind (P := fun (v : Nat × Int32 × Int32 × Int32) (σ : Hp) => G E X 0 0 19 [(0, tR (some ((v.1)))), (1, tI ((v.2.1))), (2, tI ((v.2.2.1))), (3, tI ((v.2.2.2)))] [] σ) (KE := KE) (fun v σ x σ1 h hI hO => w_X9_low_b19 hE C hxn e_ret (v.1) (v.2.1) (v.2.2.1) (v.2.2.2) σ x σ1 h hI hO) v σ e σ1 h hO
noncomputable def s_X9_low (h0 : Nat) (p1 : Int32) (σ : Hp) : Option (Int32 × Hp) :=
  (wrI 9 σ h0 0 (0)).bind fun σ1 =>
  cb (s_X9_isRoom (Int32.toInt64 (p1 : Int32)) σ1) fun v3 σ2 =>
  if v3 = 0 then
    some (((-1)), σ2)
  else
    cb (s_X9_low_l19 ((h0), (p1), (0), (0)) σ2) fun r5 σ6 =>
    some (r5, σ6)
set_option maxRecDepth 100000 in
theorem c_X9_low {E : E0} (hE : EOK E) {h0 : Nat} {p1 : Int32} {σ σ1 : Hp} {r : Int32} (h : s_X9_low h0 p1 σ = some (r, σ1)) : CT E yX9_low (.code yX9_low cX9_low 5 (some .int)) rm_X9_low [tR (some (h0)), tI (p1)] σ (some (tI r)) σ1 := by
  refine CT.mk hE (by decide +kernel) (Nat.le_of_ble_eq_true rfl) [(0, tR (some (h0))), (1, tI (p1))] rfl (fun X C hin hx hxn => ?_)
  have C : XOK E X cX9_low RX9 5 (some .int) rm_X9_low := C
  unfold s_X9_low at h
  refine g_aload_n (pc := 0) C 0 0 dX9_low_0 rfl rfl ?_
  refine g_iconst (v := 0) (pc := 1) C dX9_low_1 (by decide) ?_
  obtain ⟨σ1, hvσ1, h⟩ := zbind h
  refine g_putI (N := 58) (pc := 2) C ⟨ck_9, rfl, tyX9_ok⟩ hvσ1 rfl fl_X9_161 rfl rfl dX9_low_2 ?_
  refine g_iload_n (pc := 5) C 1 1 dX9_low_5 rfl rfl ?_
  refine g_i2l (pc := 6) C dX9_low_6 ?_
  obtain ⟨v3, σ2, hvσ2, h⟩ := zcb h
  refine g_callS (pc := 7) (av := [tJ (Int32.toInt64 (p1 : Int32))]) C (c_X9_isRoom hE hvσ2) ys_X9_isRoom ml_X9_190 rfl (rf_of (by decide)) rfl (Nat.le_of_ble_eq_true rfl) dX9_low_7 ?_
  refine g_if_ne (pc := 10) C 15 dX9_low_10 (by decide) (fun c8 => ?_) (fun c8 => ?_)
  · have h := zif_f c8 h
    refine g_iconst (v := 0) (pc := 15) C dX9_low_15 (by decide) ?_
    refine g_istore_n (lm' := [(2, tI (0)), (0, tR (some (h0))), (1, tI (p1))]) (pc := 16) C 2 dX9_low_16 rfl (by decide) rfl ?_
    refine g_iconst (v := 0) (pc := 17) C dX9_low_17 (by decide) ?_
    refine g_istore_n (lm' := [(3, tI (0)), (2, tI (0)), (0, tR (some (h0))), (1, tI (p1))]) (pc := 18) C 3 dX9_low_18 rfl (by decide) rfl ?_
    refine g_sub [2, 3, 1, 0] (lm' := [(0, tR (some (h0))), (1, tI (p1)), (2, tI (0)), (3, tI (0))]) rfl ?_
    obtain ⟨KQ, hKQ, r5, σ6, hlr5, h⟩ := zcbK h
    refine w_X9_low_l19 (KE := KQ) hE C hxn ?_ hlr5 h
    · intro r5 σ4 h
      have h := (hKQ _ _).mp h
      obtain ⟨rfl, rfl⟩ := zsome h
      exact hx
  · have h := zif_t c8 h
    refine g_iconst (v := (-1)) (pc := 13) C dX9_low_13 (by decide) ?_
    obtain ⟨rfl, rfl⟩ := zsome h
    exact g_iret (pc := 14) C rfl hx (by rw [hxn]; rfl) (by rw [hxn]; rfl) dX9_low_14
def rm_X9_seen : Room := { frames := 2, cells := 0, slots := 0, locals := 46 }
noncomputable def s_X9_seen_j25 (h0 : Nat) (σ : Hp) : Option (Int32 × Hp) :=
  (ck 9 σ h0).bind fun u1 =>
  cb (s_X9_tell h0 ((-1)) σ) fun v3 σ2 =>
  some ((v3), σ2)
set_option maxRecDepth 100000 in
theorem w_X9_seen_j25 {E : E0} (hE : EOK E) {X : X0} (C : XOK E X cX9_seen RX9 4 (some .int) rm_X9_seen) (hxn : xn X = (rm_X9_seen.cells, rm_X9_seen.slots)) (h0 : Nat) (σ : Hp) (r : Int32) (σ1 : Hp) (h : s_X9_seen_j25 h0 σ = some (r, σ1)) (hx : xd X = (some (tI r), σ1)) : G E X 0 0 25 [(0, tR (some (h0)))] [] σ := by
  unfold s_X9_seen_j25 at h
  refine g_aload_n (pc := 25) C 0 0 dX9_seen_25 rfl rfl ?_
  refine g_iconst (v := (-1)) (pc := 26) C dX9_seen_26 (by decide) ?_
  obtain ⟨u1, hvu1, h⟩ := zbind h
  obtain ⟨v3, σ2, hvσ2, h⟩ := zcb h
  refine g_callV (pc := 27) (av := [tI ((-1))]) C (c_X9_tell hE hvσ2) yv_X9_tell ml_X9_170 ck_9 (zopt hvu1).1 rfl (rf_of (by decide)) rfl (Nat.le_of_ble_eq_true rfl) dX9_seen_27 ?_
  obtain ⟨rfl, rfl⟩ := zsome h
  exact g_iret (pc := 30) C rfl hx (by rw [hxn]; rfl) (by rw [hxn]; rfl) dX9_seen_30
noncomputable def s_X9_seen (h0 : Nat) (p1 : Int32) (p2 : Int32) (σ : Hp) : Option (Int32 × Hp) :=
  (wrI 9 σ h0 0 (0)).bind fun σ1 =>
  cb (s_X9_in (Int32.toInt64 (p1 : Int32)) (0) (60) σ1) fun v3 σ2 =>
  if v3 = 0 then
    s_X9_seen_j25 (h0) σ2
  else
    cb (s_X9_isRoom (Int32.toInt64 (p2 : Int32)) σ2) fun v5 σ4 =>
    if v5 = 0 then
      s_X9_seen_j25 (h0) σ4
    else
      (rdR 9 σ4 h0 3).bind fun r6 =>
      (r6).bind fun a7 =>
      (ldI 11 σ4 a7 (4)).bind fun v8 =>
      if v8 = 6 then
        (ck 9 σ4 h0).bind fun u22 =>
        cb (s_X9_tell h0 ((-5)) σ4) fun v24 σ23 =>
        some ((v24), σ23)
      else
        (rdR 9 σ4 h0 3).bind fun r9 =>
        (r9).bind fun a10 =>
        (stI σ4 a10 (166 + (2 * v8)) (p1)).bind fun σ11 =>
        (rdR 9 σ11 h0 3).bind fun r12 =>
        (r12).bind fun a13 =>
        (stI σ11 a13 ((166 + (2 * v8)) + 1) (p2)).bind fun σ14 =>
        (rdR 9 σ14 h0 3).bind fun r15 =>
        (r15).bind fun a16 =>
        (ldI 11 σ14 a16 (4)).bind fun v17 =>
        (stI σ14 a16 (4) (v17 + 1)).bind fun σ18 =>
        (ck 9 σ18 h0).bind fun u19 =>
        cb (s_X9_tell h0 (v8 + 1) σ18) fun v21 σ20 =>
        some ((v21), σ20)
set_option maxRecDepth 100000 in
theorem c_X9_seen {E : E0} (hE : EOK E) {h0 : Nat} {p1 : Int32} {p2 : Int32} {σ σ1 : Hp} {r : Int32} (h : s_X9_seen h0 p1 p2 σ = some (r, σ1)) : CT E yX9_seen (.code yX9_seen cX9_seen 4 (some .int)) rm_X9_seen [tR (some (h0)), tI (p1), tI (p2)] σ (some (tI r)) σ1 := by
  refine CT.mk hE (by decide +kernel) (Nat.le_of_ble_eq_true rfl) [(0, tR (some (h0))), (1, tI (p1)), (2, tI (p2))] rfl (fun X C hin hx hxn => ?_)
  have C : XOK E X cX9_seen RX9 4 (some .int) rm_X9_seen := C
  unfold s_X9_seen at h
  refine g_aload_n (pc := 0) C 0 0 dX9_seen_0 rfl rfl ?_
  refine g_iconst (v := 0) (pc := 1) C dX9_seen_1 (by decide) ?_
  obtain ⟨σ1, hvσ1, h⟩ := zbind h
  refine g_putI (N := 58) (pc := 2) C ⟨ck_9, rfl, tyX9_ok⟩ hvσ1 rfl fl_X9_161 rfl rfl dX9_seen_2 ?_
  refine g_iload_n (pc := 5) C 1 1 dX9_seen_5 rfl rfl ?_
  refine g_i2l (pc := 6) C dX9_seen_6 ?_
  refine g_lconst (v := 0) (pc := 7) C dX9_seen_7 (by decide) ?_
  refine g_ldc2 (v := 60) (pc := 8) C dX9_seen_8 kl_X9_487 ?_
  obtain ⟨v3, σ2, hvσ2, h⟩ := zcb h
  refine g_callS (pc := 11) (av := [tJ (Int32.toInt64 (p1 : Int32)), tJ (0), tJ (60)]) C (c_X9_in hE hvσ2) ys_X9_in ml_X9_181 rfl (rf_of (by decide)) rfl (Nat.le_of_ble_eq_true rfl) dX9_seen_11 ?_
  refine g_if_eq (pc := 14) C 25 dX9_seen_14 (by decide) (fun c27 => ?_) (fun c27 => ?_)
  · have h := zif_t c27 h
    refine g_sub [0] (lm' := [(0, tR (some (h0)))]) rfl ?_
    exact w_X9_seen_j25 hE C hxn _ _ _ _ h hx
  · have h := zif_f c27 h
    refine g_iload_n (pc := 17) C 2 2 dX9_seen_17 rfl rfl ?_
    refine g_i2l (pc := 18) C dX9_seen_18 ?_
    obtain ⟨v5, σ4, hvσ4, h⟩ := zcb h
    refine g_callS (pc := 19) (av := [tJ (Int32.toInt64 (p2 : Int32))]) C (c_X9_isRoom hE hvσ4) ys_X9_isRoom ml_X9_190 rfl (rf_of (by decide)) rfl (Nat.le_of_ble_eq_true rfl) dX9_seen_19 ?_
    refine g_if_ne (pc := 22) C 31 dX9_seen_22 (by decide) (fun c26 => ?_) (fun c26 => ?_)
    · have h := zif_f c26 h
      refine g_aload_n (pc := 31) C 0 0 dX9_seen_31 rfl rfl ?_
      obtain ⟨r6, hvr6, h⟩ := zbind h
      refine g_getR (N := 58) (pc := 32) C ck_9 hvr6 rfl rfl fl_X9_13 dX9_seen_32 ?_
      refine g_iconst (v := 4) (pc := 35) C dX9_seen_35 (by decide) ?_
      obtain ⟨a7, hqa7, h9⟩ := zbind h
      clear h
      subst hqa7
      have h := h9
      clear h9
      obtain ⟨v8, hvv8, h⟩ := zbind h
      refine g_iald (pc := 36) C hvv8 dX9_seen_36 ?_
      refine g_istore_n (lm' := [(3, tI (v8)), (0, tR (some (h0))), (1, tI (p1)), (2, tI (p2))]) (pc := 37) C 3 dX9_seen_37 rfl (by decide) rfl ?_
      refine g_iload_n (pc := 38) C 3 0 dX9_seen_38 rfl rfl ?_
      refine g_bipush (v := 6) (pc := 39) C dX9_seen_39 (by decide) ?_
      refine g_icmp_ne (pc := 41) C 51 dX9_seen_41 (by decide) (fun c25 => ?_) (fun c25 => ?_)
      · have h := zif_f c25 h
        refine g_aload_n (pc := 51) C 0 1 dX9_seen_51 rfl rfl ?_
        obtain ⟨r9, hvr9, h⟩ := zbind h
        refine g_getR (N := 58) (pc := 52) C ck_9 hvr9 rfl rfl fl_X9_13 dX9_seen_52 ?_
        refine g_sipush (v := 166) (pc := 55) C dX9_seen_55 (by decide) ?_
        refine g_iconst (v := 2) (pc := 58) C dX9_seen_58 (by decide) ?_
        refine g_iload_n (pc := 59) C 3 0 dX9_seen_59 rfl rfl ?_
        refine g_imul (pc := 60) C dX9_seen_60 ?_
        refine g_iadd (pc := 61) C dX9_seen_61 ?_
        refine g_iload_n (pc := 62) C 1 2 dX9_seen_62 rfl rfl ?_
        obtain ⟨a10, hqa10, h9⟩ := zbind h
        clear h
        subst hqa10
        have h := h9
        clear h9
        obtain ⟨σ11, hvσ11, h⟩ := zbind h
        refine g_iast (pc := 63) C hvσ11 dX9_seen_63 ?_
        refine g_aload_n (pc := 64) C 0 1 dX9_seen_64 rfl rfl ?_
        obtain ⟨r12, hvr12, h⟩ := zbind h
        refine g_getR (N := 58) (pc := 65) C ck_9 hvr12 rfl rfl fl_X9_13 dX9_seen_65 ?_
        refine g_sipush (v := 166) (pc := 68) C dX9_seen_68 (by decide) ?_
        refine g_iconst (v := 2) (pc := 71) C dX9_seen_71 (by decide) ?_
        refine g_iload_n (pc := 72) C 3 0 dX9_seen_72 rfl rfl ?_
        refine g_imul (pc := 73) C dX9_seen_73 ?_
        refine g_iadd (pc := 74) C dX9_seen_74 ?_
        refine g_iconst (v := 1) (pc := 75) C dX9_seen_75 (by decide) ?_
        refine g_iadd (pc := 76) C dX9_seen_76 ?_
        refine g_iload_n (pc := 77) C 2 3 dX9_seen_77 rfl rfl ?_
        obtain ⟨a13, hqa13, h9⟩ := zbind h
        clear h
        subst hqa13
        have h := h9
        clear h9
        obtain ⟨σ14, hvσ14, h⟩ := zbind h
        refine g_iast (pc := 78) C hvσ14 dX9_seen_78 ?_
        refine g_aload_n (pc := 79) C 0 1 dX9_seen_79 rfl rfl ?_
        obtain ⟨r15, hvr15, h⟩ := zbind h
        refine g_getR (N := 58) (pc := 80) C ck_9 hvr15 rfl rfl fl_X9_13 dX9_seen_80 ?_
        refine g_iconst (v := 4) (pc := 83) C dX9_seen_83 (by decide) ?_
        refine g_dup2 (pc := 84) C dX9_seen_84 rfl rfl ?_
        obtain ⟨a16, hqa16, h9⟩ := zbind h
        clear h
        subst hqa16
        have h := h9
        clear h9
        obtain ⟨v17, hvv17, h⟩ := zbind h
        refine g_iald (pc := 85) C hvv17 dX9_seen_85 ?_
        refine g_iconst (v := 1) (pc := 86) C dX9_seen_86 (by decide) ?_
        refine g_iadd (pc := 87) C dX9_seen_87 ?_
        obtain ⟨σ18, hvσ18, h⟩ := zbind h
        refine g_iast (pc := 88) C hvσ18 dX9_seen_88 ?_
        refine g_aload_n (pc := 89) C 0 1 dX9_seen_89 rfl rfl ?_
        refine g_iload_n (pc := 90) C 3 0 dX9_seen_90 rfl rfl ?_
        refine g_iconst (v := 1) (pc := 91) C dX9_seen_91 (by decide) ?_
        refine g_iadd (pc := 92) C dX9_seen_92 ?_
        obtain ⟨u19, hvu19, h⟩ := zbind h
        obtain ⟨v21, σ20, hvσ20, h⟩ := zcb h
        refine g_callV (pc := 93) (av := [tI (v8 + 1)]) C (c_X9_tell hE hvσ20) yv_X9_tell ml_X9_170 ck_9 (zopt hvu19).1 rfl (rf_of (by decide)) rfl (Nat.le_of_ble_eq_true rfl) dX9_seen_93 ?_
        obtain ⟨rfl, rfl⟩ := zsome h
        exact g_iret (pc := 96) C rfl hx (by rw [hxn]; rfl) (by rw [hxn]; rfl) dX9_seen_96
      · have h := zif_t c25 h
        refine g_aload_n (pc := 44) C 0 1 dX9_seen_44 rfl rfl ?_
        refine g_bipush (v := (-5)) (pc := 45) C dX9_seen_45 (by decide) ?_
        obtain ⟨u22, hvu22, h⟩ := zbind h
        obtain ⟨v24, σ23, hvσ23, h⟩ := zcb h
        refine g_callV (pc := 47) (av := [tI ((-5))]) C (c_X9_tell hE hvσ23) yv_X9_tell ml_X9_170 ck_9 (zopt hvu22).1 rfl (rf_of (by decide)) rfl (Nat.le_of_ble_eq_true rfl) dX9_seen_47 ?_
        obtain ⟨rfl, rfl⟩ := zsome h
        exact g_iret (pc := 50) C rfl hx (by rw [hxn]; rfl) (by rw [hxn]; rfl) dX9_seen_50
    · have h := zif_t c26 h
      refine g_sub [0] (lm' := [(0, tR (some (h0)))]) rfl ?_
      exact w_X9_seen_j25 hE C hxn _ _ _ _ h hx
def rm_X9_forget : Room := { frames := 0, cells := 0, slots := 0, locals := 0 }
noncomputable def s_X9_forget (h0 : Nat) (σ : Hp) : Option (Int32 × Hp) :=
  (wrI 9 σ h0 0 (0)).bind fun σ1 =>
  (rdR 9 σ1 h0 3).bind fun r2 =>
  (r2).bind fun a3 =>
  (ldI 11 σ1 a3 (4)).bind fun v4 =>
  (rdR 9 σ1 h0 3).bind fun r5 =>
  (r5).bind fun a6 =>
  (stI σ1 a6 (4) (0)).bind fun σ7 =>
  some ((v4), σ7)
set_option maxRecDepth 100000 in
theorem c_X9_forget {E : E0} (hE : EOK E) {h0 : Nat} {σ σ1 : Hp} {r : Int32} (h : s_X9_forget h0 σ = some (r, σ1)) : CT E yX9_forget (.code yX9_forget cX9_forget 2 (some .int)) rm_X9_forget [tR (some (h0))] σ (some (tI r)) σ1 := by
  refine CT.mk hE (by decide +kernel) (Nat.le_of_ble_eq_true rfl) [(0, tR (some (h0)))] rfl (fun X C hin hx hxn => ?_)
  have C : XOK E X cX9_forget RX9 2 (some .int) rm_X9_forget := C
  unfold s_X9_forget at h
  refine g_aload_n (pc := 0) C 0 0 dX9_forget_0 rfl rfl ?_
  refine g_iconst (v := 0) (pc := 1) C dX9_forget_1 (by decide) ?_
  obtain ⟨σ1, hvσ1, h⟩ := zbind h
  refine g_putI (N := 58) (pc := 2) C ⟨ck_9, rfl, tyX9_ok⟩ hvσ1 rfl fl_X9_161 rfl rfl dX9_forget_2 ?_
  refine g_aload_n (pc := 5) C 0 0 dX9_forget_5 rfl rfl ?_
  obtain ⟨r2, hvr2, h⟩ := zbind h
  refine g_getR (N := 58) (pc := 6) C ck_9 hvr2 rfl rfl fl_X9_13 dX9_forget_6 ?_
  refine g_iconst (v := 4) (pc := 9) C dX9_forget_9 (by decide) ?_
  obtain ⟨a3, hqa3, h9⟩ := zbind h
  clear h
  subst hqa3
  have h := h9
  clear h9
  obtain ⟨v4, hvv4, h⟩ := zbind h
  refine g_iald (pc := 10) C hvv4 dX9_forget_10 ?_
  refine g_istore_n (lm' := [(1, tI (v4)), (0, tR (some (h0)))]) (pc := 11) C 1 dX9_forget_11 rfl (by decide) rfl ?_
  refine g_aload_n (pc := 12) C 0 1 dX9_forget_12 rfl rfl ?_
  obtain ⟨r5, hvr5, h⟩ := zbind h
  refine g_getR (N := 58) (pc := 13) C ck_9 hvr5 rfl rfl fl_X9_13 dX9_forget_13 ?_
  refine g_iconst (v := 4) (pc := 16) C dX9_forget_16 (by decide) ?_
  refine g_iconst (v := 0) (pc := 17) C dX9_forget_17 (by decide) ?_
  obtain ⟨a6, hqa6, h9⟩ := zbind h
  clear h
  subst hqa6
  have h := h9
  clear h9
  obtain ⟨σ7, hvσ7, h⟩ := zbind h
  refine g_iast (pc := 18) C hvσ7 dX9_forget_18 ?_
  refine g_iload_n (pc := 19) C 1 0 dX9_forget_19 rfl rfl ?_
  obtain ⟨rfl, rfl⟩ := zsome h
  exact g_iret (pc := 20) C rfl hx (by rw [hxn]; rfl) (by rw [hxn]; rfl) dX9_forget_20
def rm_X9_layLater : Room := { frames := 7, cells := 0, slots := 0, locals := 169 }
noncomputable def s_X9_layLater_j51 (h0 : Nat) (l1 : Int32) (l2 : Int32) (t0 : Option Nat) (t1 : Int32) (t2 : Int32) (σ : Hp) : Option (((Nat × Int32 × Int32) ⊕ ((Nat × Int32))) × Hp) :=
  (t0).bind fun a1 =>
  (stI σ a1 (t1) (t2)).bind fun σ2 =>
  some (Sum.inl ((h0), (l1), (l2 + 1)), σ2)
set_option maxRecDepth 100000 in
theorem w_X9_layLater_j51 {E : E0} (hE : EOK E) {X : X0} (C : XOK E X cX9_layLater RX9 3 none rm_X9_layLater) (hxn : xn X = (rm_X9_layLater.cells, rm_X9_layLater.slots)) {KE : ((Nat × Int32)) → Hp → Prop} (e_58 : ∀ (h0 : Nat) (l1 : Int32) (σ : Hp), KE ((h0, l1)) σ → G E X 0 0 58 [(0, tR (some (h0))), (1, tI (l1))] [] σ) (h0 : Nat) (l1 : Int32) (l2 : Int32) (t0 : Option Nat) (t1 : Int32) (t2 : Int32) (σ : Hp) (x : (Nat × Int32 × Int32) ⊕ ((Nat × Int32))) (σ1 : Hp) (h : s_X9_layLater_j51 h0 l1 l2 t0 t1 t2 σ = some (x, σ1)) (hI : ∀ v, x = Sum.inl v → (fun (v : Nat × Int32 × Int32) (σ : Hp) => G E X 0 0 16 [(0, tR (some ((v.1)))), (1, tI ((v.2.1))), (2, tI ((v.2.2)))] [] σ) v σ1) (hO : ∀ e, x = Sum.inr e → KE e σ1) : G E X 0 0 51 [(0, tR (some (h0))), (1, tI (l1)), (2, tI (l2))] [tI (t2), tI (t1), tR (t0)] σ := by
  unfold s_X9_layLater_j51 at h
  obtain ⟨a1, hqa1, h9⟩ := zbind h
  clear h
  subst hqa1
  have h := h9
  clear h9
  obtain ⟨σ2, hvσ2, h⟩ := zbind h
  refine g_iast (pc := 51) C hvσ2 dX9_layLater_51 ?_
  refine g_iinc (lm' := [(2, tI (l2 + 1)), (0, tR (some (h0))), (1, tI (l1))]) (v := l2 + 1) (pc := 52) C 2 dX9_layLater_52 rfl rfl (by decide) rfl ?_
  refine g_goto (pc := 55) C 16 dX9_layLater_55 (by decide) ?_
  refine g_sub [1, 2, 0] (lm' := [(0, tR (some (h0))), (1, tI (l1)), (2, tI (l2 + 1))]) rfl ?_
  obtain ⟨rfl, rfl⟩ := zsome h
  exact hI _ rfl
noncomputable def s_X9_layLater_b16 (h0 : Nat) (l1 : Int32) (l2 : Int32) (σ : Hp) : Option (((Nat × Int32 × Int32) ⊕ ((Nat × Int32))) × Hp) :=
  if 3 ≤ l2 then
    some (Sum.inr ((h0), (l1)), σ)
  else
    (rdR 9 σ h0 45).bind fun r1 =>
    (ck 9 σ h0).bind fun u2 =>
    cb (s_X9_isBadger h0 (l2) σ) fun v4 σ3 =>
    if v4 = 0 then
      s_X9_layLater_j51 (h0) (l1) (l2) (r1) ((3 * l1) + l2) ((-1)) σ3
    else
      (rdR 9 σ3 h0 3).bind fun r5 =>
      (r5).bind fun a6 =>
      (ldI 11 σ3 a6 (21 + l2)).bind fun v7 =>
      s_X9_layLater_j51 (h0) (l1) (l2) (r1) ((3 * l1) + l2) (v7) σ3
noncomputable def s_X9_layLater_l16 : (Nat × Int32 × Int32) → Hp → Option (((Nat × Int32)) × Hp) := loopF (fun v => s_X9_layLater_b16 (v.1) (v.2.1) (v.2.2))
set_option maxRecDepth 100000 in
theorem w_X9_layLater_b16 {E : E0} (hE : EOK E) {X : X0} (C : XOK E X cX9_layLater RX9 3 none rm_X9_layLater) (hxn : xn X = (rm_X9_layLater.cells, rm_X9_layLater.slots)) {KE : ((Nat × Int32)) → Hp → Prop} (e_58 : ∀ (h0 : Nat) (l1 : Int32) (σ : Hp), KE ((h0, l1)) σ → G E X 0 0 58 [(0, tR (some (h0))), (1, tI (l1))] [] σ) (h0 : Nat) (l1 : Int32) (l2 : Int32) (σ : Hp) (x : (Nat × Int32 × Int32) ⊕ ((Nat × Int32))) (σ1 : Hp) (h : s_X9_layLater_b16 h0 l1 l2 σ = some (x, σ1)) (hI : ∀ v, x = Sum.inl v → (fun (v : Nat × Int32 × Int32) (σ : Hp) => G E X 0 0 16 [(0, tR (some ((v.1)))), (1, tI ((v.2.1))), (2, tI ((v.2.2)))] [] σ) v σ1) (hO : ∀ e, x = Sum.inr e → KE e σ1) : G E X 0 0 16 [(0, tR (some (h0))), (1, tI (l1)), (2, tI (l2))] [] σ := by
  unfold s_X9_layLater_b16 at h
  refine g_iload_n (pc := 16) C 2 2 dX9_layLater_16 rfl rfl ?_
  refine g_iconst (v := 3) (pc := 17) C dX9_layLater_17 (by decide) ?_
  refine g_icmp_ge (pc := 18) C 58 dX9_layLater_18 (by decide) (fun c9 => ?_) (fun c9 => ?_)
  · have h := zif_t c9 h
    refine g_sub [0, 1] (lm' := [(0, tR (some (h0))), (1, tI (l1))]) rfl ?_
    obtain ⟨rfl, rfl⟩ := zsome h
    exact e_58 _ _ _ (hO _ rfl)
  · have h := zif_f c9 h
    refine g_aload_n (pc := 21) C 0 0 dX9_layLater_21 rfl rfl ?_
    obtain ⟨r1, hvr1, h⟩ := zbind h
    refine g_getR (N := 58) (pc := 22) C ck_9 hvr1 rfl rfl fl_X9_122 dX9_layLater_22 ?_
    refine g_iconst (v := 3) (pc := 25) C dX9_layLater_25 (by decide) ?_
    refine g_iload_n (pc := 26) C 1 1 dX9_layLater_26 rfl rfl ?_
    refine g_imul (pc := 27) C dX9_layLater_27 ?_
    refine g_iload_n (pc := 28) C 2 2 dX9_layLater_28 rfl rfl ?_
    refine g_iadd (pc := 29) C dX9_layLater_29 ?_
    refine g_aload_n (pc := 30) C 0 0 dX9_layLater_30 rfl rfl ?_
    refine g_iload_n (pc := 31) C 2 2 dX9_layLater_31 rfl rfl ?_
    obtain ⟨u2, hvu2, h⟩ := zbind h
    obtain ⟨v4, σ3, hvσ3, h⟩ := zcb h
    refine g_callV (pc := 32) (av := [tI (l2)]) C (c_X9_isBadger hE hvσ3) yv_X9_isBadger ml_X9_212 ck_9 (zopt hvu2).1 rfl (rf_of (by decide)) rfl (Nat.le_of_ble_eq_true rfl) dX9_layLater_32 ?_
    refine g_if_eq (pc := 35) C 50 dX9_layLater_35 (by decide) (fun c8 => ?_) (fun c8 => ?_)
    · have h := zif_t c8 h
      refine g_iconst (v := (-1)) (pc := 50) C dX9_layLater_50 (by decide) ?_
      exact w_X9_layLater_j51 hE C hxn e_58 _ _ _ _ _ _ _ _ _ h hI hO
    · have h := zif_f c8 h
      refine g_aload_n (pc := 38) C 0 0 dX9_layLater_38 rfl rfl ?_
      obtain ⟨r5, hvr5, h⟩ := zbind h
      refine g_getR (N := 58) (pc := 39) C ck_9 hvr5 rfl rfl fl_X9_13 dX9_layLater_39 ?_
      refine g_bipush (v := 21) (pc := 42) C dX9_layLater_42 (by decide) ?_
      refine g_iload_n (pc := 44) C 2 2 dX9_layLater_44 rfl rfl ?_
      refine g_iadd (pc := 45) C dX9_layLater_45 ?_
      obtain ⟨a6, hqa6, h9⟩ := zbind h
      clear h
      subst hqa6
      have h := h9
      clear h9
      obtain ⟨v7, hvv7, h⟩ := zbind h
      refine g_iald (pc := 46) C hvv7 dX9_layLater_46 ?_
      refine g_goto (pc := 47) C 51 dX9_layLater_47 (by decide) ?_
      exact w_X9_layLater_j51 hE C hxn e_58 _ _ _ _ _ _ _ _ _ h hI hO
theorem w_X9_layLater_l16 {E : E0} (hE : EOK E) {X : X0} (C : XOK E X cX9_layLater RX9 3 none rm_X9_layLater) (hxn : xn X = (rm_X9_layLater.cells, rm_X9_layLater.slots)) {KE : ((Nat × Int32)) → Hp → Prop} (e_58 : ∀ (h0 : Nat) (l1 : Int32) (σ : Hp), KE ((h0, l1)) σ → G E X 0 0 58 [(0, tR (some (h0))), (1, tI (l1))] [] σ) {v : Nat × Int32 × Int32} {σ : Hp} {e : (Nat × Int32)} {σ1 : Hp} (h : s_X9_layLater_l16 v σ = some (e, σ1)) (hO : KE e σ1) : G E X 0 0 16 [(0, tR (some ((v.1)))), (1, tI ((v.2.1))), (2, tI ((v.2.2)))] [] σ := loopF_ind (P := fun (v : Nat × Int32 × Int32) (σ : Hp) => G E X 0 0 16 [(0, tR (some ((v.1)))), (1, tI ((v.2.1))), (2, tI ((v.2.2)))] [] σ) (KE := KE) (fun v σ x σ1 h hI hO => w_X9_layLater_b16 hE C hxn e_58 (v.1) (v.2.1) (v.2.2) σ x σ1 h hI hO) v σ e σ1 h hO
noncomputable def s_X9_layLater_b8 (h0 : Nat) (l1 : Int32) (σ : Hp) : Option (((Nat × Int32) ⊕ (Nat)) × Hp) :=
  if 60 < l1 then
    some (Sum.inr (h0), σ)
  else
    cb (s_X9_layLater_l16 ((h0), (l1), (0)) σ) fun e9 σ8 =>
    match e9 with
    | (h1, l12) =>
      (ck 9 σ8 h1).bind fun u4 =>
      cb (s_X9_allGo h1 σ8) fun v6 σ5 =>
      some (Sum.inl ((h1), (l12 + 1)), σ5)
noncomputable def s_X9_layLater_l8 : (Nat × Int32) → Hp → Option ((Nat) × Hp) := loopF (fun v => s_X9_layLater_b8 (v.1) (v.2))
set_option maxRecDepth 100000 in
theorem w_X9_layLater_b8 {E : E0} (hE : EOK E) {X : X0} (C : XOK E X cX9_layLater RX9 3 none rm_X9_layLater) (hxn : xn X = (rm_X9_layLater.cells, rm_X9_layLater.slots)) {KE : (Nat) → Hp → Prop} (e_68 : ∀ (h0 : Nat) (σ : Hp), KE (h0) σ → G E X 0 0 68 [(0, tR (some (h0)))] [] σ) (h0 : Nat) (l1 : Int32) (σ : Hp) (x : (Nat × Int32) ⊕ (Nat)) (σ1 : Hp) (h : s_X9_layLater_b8 h0 l1 σ = some (x, σ1)) (hI : ∀ v, x = Sum.inl v → (fun (v : Nat × Int32) (σ : Hp) => G E X 0 0 8 [(0, tR (some ((v.1)))), (1, tI ((v.2)))] [] σ) v σ1) (hO : ∀ e, x = Sum.inr e → KE e σ1) : G E X 0 0 8 [(0, tR (some (h0))), (1, tI (l1))] [] σ := by
  unfold s_X9_layLater_b8 at h
  refine g_iload_n (pc := 8) C 1 1 dX9_layLater_8 rfl rfl ?_
  refine g_bipush (v := 60) (pc := 9) C dX9_layLater_9 (by decide) ?_
  refine g_icmp_gt (pc := 11) C 68 dX9_layLater_11 (by decide) (fun c10 => ?_) (fun c10 => ?_)
  · have h := zif_t c10 h
    refine g_sub [0] (lm' := [(0, tR (some (h0)))]) rfl ?_
    obtain ⟨rfl, rfl⟩ := zsome h
    exact e_68 _ _ (hO _ rfl)
  · have h := zif_f c10 h
    refine g_iconst (v := 0) (pc := 14) C dX9_layLater_14 (by decide) ?_
    refine g_istore_n (lm' := [(2, tI (0)), (0, tR (some (h0))), (1, tI (l1))]) (pc := 15) C 2 dX9_layLater_15 rfl (by decide) rfl ?_
    refine g_sub [1, 2, 0] (lm' := [(0, tR (some (h0))), (1, tI (l1)), (2, tI (0))]) rfl ?_
    obtain ⟨KQ, hKQ, e9, σ8, hle9, h⟩ := zcbK h
    refine w_X9_layLater_l16 (KE := KQ) hE C hxn ?_ hle9 h
    · intro h1 l12 σ3 h
      have h := (hKQ _ _).mp h
      refine g_aload_n (pc := 58) C 0 0 dX9_layLater_58 rfl rfl ?_
      obtain ⟨u4, hvu4, h⟩ := zbind h
      obtain ⟨v6, σ5, hvσ5, h⟩ := zcb h
      refine g_callV (pc := 59) (av := []) C (c_X9_allGo hE hvσ5) yv_X9_allGo ml_X9_454 ck_9 (zopt hvu4).1 rfl (rf_of (by decide)) rfl (Nat.le_of_ble_eq_true rfl) dX9_layLater_59 ?_
      refine g_iinc (lm' := [(1, tI (l12 + 1)), (0, tR (some (h1)))]) (v := l12 + 1) (pc := 62) C 1 dX9_layLater_62 rfl rfl (by decide) rfl ?_
      refine g_goto (pc := 65) C 8 dX9_layLater_65 (by decide) ?_
      refine g_sub [1, 0] (lm' := [(0, tR (some (h1))), (1, tI (l12 + 1))]) rfl ?_
      obtain ⟨rfl, rfl⟩ := zsome h
      exact hI _ rfl
theorem w_X9_layLater_l8 {E : E0} (hE : EOK E) {X : X0} (C : XOK E X cX9_layLater RX9 3 none rm_X9_layLater) (hxn : xn X = (rm_X9_layLater.cells, rm_X9_layLater.slots)) {KE : (Nat) → Hp → Prop} (e_68 : ∀ (h0 : Nat) (σ : Hp), KE (h0) σ → G E X 0 0 68 [(0, tR (some (h0)))] [] σ) {v : Nat × Int32} {σ : Hp} {e : Nat} {σ1 : Hp} (h : s_X9_layLater_l8 v σ = some (e, σ1)) (hO : KE e σ1) : G E X 0 0 8 [(0, tR (some ((v.1)))), (1, tI ((v.2)))] [] σ := loopF_ind (P := fun (v : Nat × Int32) (σ : Hp) => G E X 0 0 8 [(0, tR (some ((v.1)))), (1, tI ((v.2)))] [] σ) (KE := KE) (fun v σ x σ1 h hI hO => w_X9_layLater_b8 hE C hxn e_68 (v.1) (v.2) σ x σ1 h hI hO) v σ e σ1 h hO
noncomputable def s_X9_layLater (h0 : Nat) (σ : Hp) : Option (Unit × Hp) :=
  (ck 9 σ h0).bind fun u1 =>
  cb (s_X9_keepAll h0 (16) σ) fun v3 σ2 =>
  cb (s_X9_layLater_l8 ((h0), (0)) σ2) fun h4 σ10 =>
  (ck 9 σ10 h4).bind fun u6 =>
  cb (s_X9_putBack h4 (16) σ10) fun v8 σ7 =>
  some ((), σ7)
set_option maxRecDepth 100000 in
theorem c_X9_layLater {E : E0} (hE : EOK E) {h0 : Nat} {σ σ1 : Hp} {r : Unit} (h : s_X9_layLater h0 σ = some (r, σ1)) : CT E yX9_layLater (.code yX9_layLater cX9_layLater 3 none) rm_X9_layLater [tR (some (h0))] σ none σ1 := by
  refine CT.mk hE (by decide +kernel) (Nat.le_of_ble_eq_true rfl) [(0, tR (some (h0)))] rfl (fun X C hin hx hxn => ?_)
  have C : XOK E X cX9_layLater RX9 3 none rm_X9_layLater := C
  unfold s_X9_layLater at h
  refine g_aload_n (pc := 0) C 0 0 dX9_layLater_0 rfl rfl ?_
  refine g_bipush (v := 16) (pc := 1) C dX9_layLater_1 (by decide) ?_
  obtain ⟨u1, hvu1, h⟩ := zbind h
  obtain ⟨v3, σ2, hvσ2, h⟩ := zcb h
  refine g_callV (pc := 3) (av := [tI (16)]) C (c_X9_keepAll hE hvσ2) yv_X9_keepAll ml_X9_174 ck_9 (zopt hvu1).1 rfl (rf_of (by decide)) rfl (Nat.le_of_ble_eq_true rfl) dX9_layLater_3 ?_
  refine g_iconst (v := 0) (pc := 6) C dX9_layLater_6 (by decide) ?_
  refine g_istore_n (lm' := [(1, tI (0)), (0, tR (some (h0)))]) (pc := 7) C 1 dX9_layLater_7 rfl (by decide) rfl ?_
  refine g_sub [1, 0] (lm' := [(0, tR (some (h0))), (1, tI (0))]) rfl ?_
  obtain ⟨KQ, hKQ, h4, σ10, hlh4, h⟩ := zcbK h
  refine w_X9_layLater_l8 (KE := KQ) hE C hxn ?_ hlh4 h
  · intro h4 σ5 h
    have h := (hKQ _ _).mp h
    refine g_aload_n (pc := 68) C 0 0 dX9_layLater_68 rfl rfl ?_
    refine g_bipush (v := 16) (pc := 69) C dX9_layLater_69 (by decide) ?_
    obtain ⟨u6, hvu6, h⟩ := zbind h
    obtain ⟨v8, σ7, hvσ7, h⟩ := zcb h
    refine g_callV (pc := 71) (av := [tI (16)]) C (c_X9_putBack hE hvσ7) yv_X9_putBack ml_X9_178 ck_9 (zopt hvu6).1 rfl (rf_of (by decide)) rfl (Nat.le_of_ble_eq_true rfl) dX9_layLater_71 ?_
    obtain ⟨rfl, rfl⟩ := zsome h
    exact g_vret (pc := 74) C rfl hx (by rw [hxn]; rfl) (by rw [hxn]; rfl) dX9_layLater_74
def rm_X9_thatCanBe : Room := { frames := 0, cells := 0, slots := 0, locals := 0 }
noncomputable def s_X9_thatCanBe_j79 (h0 : Nat) (l1 : Int32) (l2 : Int32) (l4 : Int32) (t0 : Int32) (σ : Hp) : Option (((Nat × Int32 × Int32 × Int32 × Int32) ⊕ ((Nat × Int32 × Int32 × Int32))) × Hp) :=
  some (Sum.inl ((h0), (l1), (l2), (t0), (l4 + 1)), σ)
set_option maxRecDepth 100000 in
theorem w_X9_thatCanBe_j79 {E : E0} (hE : EOK E) {X : X0} (C : XOK E X cX9_thatCanBe RX9 5 (some .int) rm_X9_thatCanBe) (hxn : xn X = (rm_X9_thatCanBe.cells, rm_X9_thatCanBe.slots)) {KE : ((Nat × Int32 × Int32 × Int32)) → Hp → Prop} (e_86 : ∀ (h0 : Nat) (l1 : Int32) (l2 : Int32) (l3 : Int32) (σ : Hp), KE ((h0, l1, l2, l3)) σ → G E X 0 0 86 [(0, tR (some (h0))), (1, tI (l1)), (2, tI (l2)), (3, tI (l3))] [] σ) (h0 : Nat) (l1 : Int32) (l2 : Int32) (l4 : Int32) (t0 : Int32) (σ : Hp) (x : (Nat × Int32 × Int32 × Int32 × Int32) ⊕ ((Nat × Int32 × Int32 × Int32))) (σ1 : Hp) (h : s_X9_thatCanBe_j79 h0 l1 l2 l4 t0 σ = some (x, σ1)) (hI : ∀ v, x = Sum.inl v → (fun (v : Nat × Int32 × Int32 × Int32 × Int32) (σ : Hp) => G E X 0 0 19 [(0, tR (some ((v.1)))), (1, tI ((v.2.1))), (2, tI ((v.2.2.1))), (3, tI ((v.2.2.2.1))), (4, tI ((v.2.2.2.2)))] [] σ) v σ1) (hO : ∀ e, x = Sum.inr e → KE e σ1) : G E X 0 0 79 [(0, tR (some (h0))), (1, tI (l1)), (2, tI (l2)), (4, tI (l4))] [tI (t0)] σ := by
  unfold s_X9_thatCanBe_j79 at h
  refine g_istore_n (lm' := [(3, tI (t0)), (0, tR (some (h0))), (1, tI (l1)), (2, tI (l2)), (4, tI (l4))]) (pc := 79) C 3 dX9_thatCanBe_79 rfl (by decide) rfl ?_
  refine g_iinc (lm' := [(4, tI (l4 + 1)), (3, tI (t0)), (0, tR (some (h0))), (1, tI (l1)), (2, tI (l2))]) (v := l4 + 1) (pc := 80) C 4 dX9_thatCanBe_80 rfl rfl (by decide) rfl ?_
  refine g_goto (pc := 83) C 19 dX9_thatCanBe_83 (by decide) ?_
  refine g_sub [2, 3, 4, 1, 0] (lm' := [(0, tR (some (h0))), (1, tI (l1)), (2, tI (l2)), (3, tI (t0)), (4, tI (l4 + 1))]) rfl ?_
  obtain ⟨rfl, rfl⟩ := zsome h
  exact hI _ rfl
noncomputable def s_X9_thatCanBe_j78 (h0 : Nat) (l1 : Int32) (l2 : Int32) (l4 : Int32) (σ : Hp) : Option (((Nat × Int32 × Int32 × Int32 × Int32) ⊕ ((Nat × Int32 × Int32 × Int32))) × Hp) :=
  s_X9_thatCanBe_j79 (h0) (l1) (l2) (l4) (0) σ
set_option maxRecDepth 100000 in
theorem w_X9_thatCanBe_j78 {E : E0} (hE : EOK E) {X : X0} (C : XOK E X cX9_thatCanBe RX9 5 (some .int) rm_X9_thatCanBe) (hxn : xn X = (rm_X9_thatCanBe.cells, rm_X9_thatCanBe.slots)) {KE : ((Nat × Int32 × Int32 × Int32)) → Hp → Prop} (e_86 : ∀ (h0 : Nat) (l1 : Int32) (l2 : Int32) (l3 : Int32) (σ : Hp), KE ((h0, l1, l2, l3)) σ → G E X 0 0 86 [(0, tR (some (h0))), (1, tI (l1)), (2, tI (l2)), (3, tI (l3))] [] σ) (h0 : Nat) (l1 : Int32) (l2 : Int32) (l4 : Int32) (σ : Hp) (x : (Nat × Int32 × Int32 × Int32 × Int32) ⊕ ((Nat × Int32 × Int32 × Int32))) (σ1 : Hp) (h : s_X9_thatCanBe_j78 h0 l1 l2 l4 σ = some (x, σ1)) (hI : ∀ v, x = Sum.inl v → (fun (v : Nat × Int32 × Int32 × Int32 × Int32) (σ : Hp) => G E X 0 0 19 [(0, tR (some ((v.1)))), (1, tI ((v.2.1))), (2, tI ((v.2.2.1))), (3, tI ((v.2.2.2.1))), (4, tI ((v.2.2.2.2)))] [] σ) v σ1) (hO : ∀ e, x = Sum.inr e → KE e σ1) : G E X 0 0 78 [(0, tR (some (h0))), (1, tI (l1)), (2, tI (l2)), (4, tI (l4))] [] σ := by
  unfold s_X9_thatCanBe_j78 at h
  refine g_iconst (v := 0) (pc := 78) C dX9_thatCanBe_78 (by decide) ?_
  exact w_X9_thatCanBe_j79 hE C hxn e_86 _ _ _ _ _ _ _ _ h hI hO
noncomputable def s_X9_thatCanBe_b19 (h0 : Nat) (l1 : Int32) (l2 : Int32) (l3 : Int32) (l4 : Int32) (σ : Hp) : Option (((Nat × Int32 × Int32 × Int32 × Int32) ⊕ ((Nat × Int32 × Int32 × Int32))) × Hp) :=
  (rdR 9 σ h0 3).bind fun r1 =>
  (r1).bind fun a2 =>
  (ldI 11 σ a2 (4)).bind fun v3 =>
  if v3 ≤ l4 then
    some (Sum.inr ((h0), (l1), (l2), (l3)), σ)
  else
    if l3 = 0 then
      s_X9_thatCanBe_j78 (h0) (l1) (l2) (l4) σ
    else
      (rdR 9 σ h0 45).bind fun r4 =>
      (rdR 9 σ h0 3).bind fun r5 =>
      (r5).bind fun a6 =>
      (ldI 11 σ a6 (166 + (2 * l4))).bind fun v7 =>
      (r4).bind fun a8 =>
      (ldI 11 σ a8 ((3 * v7) + l2)).bind fun v9 =>
      (rdR 9 σ h0 3).bind fun r10 =>
      (r10).bind fun a11 =>
      (ldI 11 σ a11 ((166 + (2 * l4)) + 1)).bind fun v12 =>
      if v9 = v12 then
        s_X9_thatCanBe_j79 (h0) (l1) (l2) (l4) (1) σ
      else
        s_X9_thatCanBe_j78 (h0) (l1) (l2) (l4) σ
noncomputable def s_X9_thatCanBe_l19 : (Nat × Int32 × Int32 × Int32 × Int32) → Hp → Option (((Nat × Int32 × Int32 × Int32)) × Hp) := loopF (fun v => s_X9_thatCanBe_b19 (v.1) (v.2.1) (v.2.2.1) (v.2.2.2.1) (v.2.2.2.2))
set_option maxRecDepth 100000 in
theorem w_X9_thatCanBe_b19 {E : E0} (hE : EOK E) {X : X0} (C : XOK E X cX9_thatCanBe RX9 5 (some .int) rm_X9_thatCanBe) (hxn : xn X = (rm_X9_thatCanBe.cells, rm_X9_thatCanBe.slots)) {KE : ((Nat × Int32 × Int32 × Int32)) → Hp → Prop} (e_86 : ∀ (h0 : Nat) (l1 : Int32) (l2 : Int32) (l3 : Int32) (σ : Hp), KE ((h0, l1, l2, l3)) σ → G E X 0 0 86 [(0, tR (some (h0))), (1, tI (l1)), (2, tI (l2)), (3, tI (l3))] [] σ) (h0 : Nat) (l1 : Int32) (l2 : Int32) (l3 : Int32) (l4 : Int32) (σ : Hp) (x : (Nat × Int32 × Int32 × Int32 × Int32) ⊕ ((Nat × Int32 × Int32 × Int32))) (σ1 : Hp) (h : s_X9_thatCanBe_b19 h0 l1 l2 l3 l4 σ = some (x, σ1)) (hI : ∀ v, x = Sum.inl v → (fun (v : Nat × Int32 × Int32 × Int32 × Int32) (σ : Hp) => G E X 0 0 19 [(0, tR (some ((v.1)))), (1, tI ((v.2.1))), (2, tI ((v.2.2.1))), (3, tI ((v.2.2.2.1))), (4, tI ((v.2.2.2.2)))] [] σ) v σ1) (hO : ∀ e, x = Sum.inr e → KE e σ1) : G E X 0 0 19 [(0, tR (some (h0))), (1, tI (l1)), (2, tI (l2)), (3, tI (l3)), (4, tI (l4))] [] σ := by
  unfold s_X9_thatCanBe_b19 at h
  refine g_iload (pc := 19) C 4 dX9_thatCanBe_19 rfl ?_
  refine g_aload_n (pc := 21) C 0 0 dX9_thatCanBe_21 rfl rfl ?_
  obtain ⟨r1, hvr1, h⟩ := zbind h
  refine g_getR (N := 58) (pc := 22) C ck_9 hvr1 rfl rfl fl_X9_13 dX9_thatCanBe_22 ?_
  refine g_iconst (v := 4) (pc := 25) C dX9_thatCanBe_25 (by decide) ?_
  obtain ⟨a2, hqa2, h9⟩ := zbind h
  clear h
  subst hqa2
  have h := h9
  clear h9
  obtain ⟨v3, hvv3, h⟩ := zbind h
  refine g_iald (pc := 26) C hvv3 dX9_thatCanBe_26 ?_
  refine g_icmp_ge (pc := 27) C 86 dX9_thatCanBe_27 (by decide) (fun c15 => ?_) (fun c15 => ?_)
  · have h := zif_t c15 h
    refine g_sub [0, 1, 2, 3] (lm' := [(0, tR (some (h0))), (1, tI (l1)), (2, tI (l2)), (3, tI (l3))]) rfl ?_
    obtain ⟨rfl, rfl⟩ := zsome h
    exact e_86 _ _ _ _ _ (hO _ rfl)
  · have h := zif_f c15 h
    refine g_iload_n (pc := 30) C 3 3 dX9_thatCanBe_30 rfl rfl ?_
    refine g_if_eq (pc := 31) C 78 dX9_thatCanBe_31 (by decide) (fun c14 => ?_) (fun c14 => ?_)
    · have h := zif_t c14 h
      refine g_sub [0, 1, 2, 4] (lm' := [(0, tR (some (h0))), (1, tI (l1)), (2, tI (l2)), (4, tI (l4))]) rfl ?_
      exact w_X9_thatCanBe_j78 hE C hxn e_86 _ _ _ _ _ _ _ h hI hO
    · have h := zif_f c14 h
      refine g_aload_n (pc := 34) C 0 0 dX9_thatCanBe_34 rfl rfl ?_
      obtain ⟨r4, hvr4, h⟩ := zbind h
      refine g_getR (N := 58) (pc := 35) C ck_9 hvr4 rfl rfl fl_X9_122 dX9_thatCanBe_35 ?_
      refine g_iconst (v := 3) (pc := 38) C dX9_thatCanBe_38 (by decide) ?_
      refine g_aload_n (pc := 39) C 0 0 dX9_thatCanBe_39 rfl rfl ?_
      obtain ⟨r5, hvr5, h⟩ := zbind h
      refine g_getR (N := 58) (pc := 40) C ck_9 hvr5 rfl rfl fl_X9_13 dX9_thatCanBe_40 ?_
      refine g_sipush (v := 166) (pc := 43) C dX9_thatCanBe_43 (by decide) ?_
      refine g_iconst (v := 2) (pc := 46) C dX9_thatCanBe_46 (by decide) ?_
      refine g_iload (pc := 47) C 4 dX9_thatCanBe_47 rfl ?_
      refine g_imul (pc := 49) C dX9_thatCanBe_49 ?_
      refine g_iadd (pc := 50) C dX9_thatCanBe_50 ?_
      obtain ⟨a6, hqa6, h9⟩ := zbind h
      clear h
      subst hqa6
      have h := h9
      clear h9
      obtain ⟨v7, hvv7, h⟩ := zbind h
      refine g_iald (pc := 51) C hvv7 dX9_thatCanBe_51 ?_
      refine g_imul (pc := 52) C dX9_thatCanBe_52 ?_
      refine g_iload_n (pc := 53) C 2 2 dX9_thatCanBe_53 rfl rfl ?_
      refine g_iadd (pc := 54) C dX9_thatCanBe_54 ?_
      obtain ⟨a8, hqa8, h9⟩ := zbind h
      clear h
      subst hqa8
      have h := h9
      clear h9
      obtain ⟨v9, hvv9, h⟩ := zbind h
      refine g_iald (pc := 55) C hvv9 dX9_thatCanBe_55 ?_
      refine g_aload_n (pc := 56) C 0 0 dX9_thatCanBe_56 rfl rfl ?_
      obtain ⟨r10, hvr10, h⟩ := zbind h
      refine g_getR (N := 58) (pc := 57) C ck_9 hvr10 rfl rfl fl_X9_13 dX9_thatCanBe_57 ?_
      refine g_sipush (v := 166) (pc := 60) C dX9_thatCanBe_60 (by decide) ?_
      refine g_iconst (v := 2) (pc := 63) C dX9_thatCanBe_63 (by decide) ?_
      refine g_iload (pc := 64) C 4 dX9_thatCanBe_64 rfl ?_
      refine g_imul (pc := 66) C dX9_thatCanBe_66 ?_
      refine g_iadd (pc := 67) C dX9_thatCanBe_67 ?_
      refine g_iconst (v := 1) (pc := 68) C dX9_thatCanBe_68 (by decide) ?_
      refine g_iadd (pc := 69) C dX9_thatCanBe_69 ?_
      obtain ⟨a11, hqa11, h9⟩ := zbind h
      clear h
      subst hqa11
      have h := h9
      clear h9
      obtain ⟨v12, hvv12, h⟩ := zbind h
      refine g_iald (pc := 70) C hvv12 dX9_thatCanBe_70 ?_
      refine g_icmp_ne (pc := 71) C 78 dX9_thatCanBe_71 (by decide) (fun c13 => ?_) (fun c13 => ?_)
      · have h := zif_f c13 h
        refine g_sub [0, 1, 2, 4] (lm' := [(0, tR (some (h0))), (1, tI (l1)), (2, tI (l2)), (4, tI (l4))]) rfl ?_
        exact w_X9_thatCanBe_j78 hE C hxn e_86 _ _ _ _ _ _ _ h hI hO
      · have h := zif_t c13 h
        refine g_iconst (v := 1) (pc := 74) C dX9_thatCanBe_74 (by decide) ?_
        refine g_goto (pc := 75) C 79 dX9_thatCanBe_75 (by decide) ?_
        refine g_sub [0, 1, 2, 4] (lm' := [(0, tR (some (h0))), (1, tI (l1)), (2, tI (l2)), (4, tI (l4))]) rfl ?_
        exact w_X9_thatCanBe_j79 hE C hxn e_86 _ _ _ _ _ _ _ _ h hI hO
theorem w_X9_thatCanBe_l19 {E : E0} (hE : EOK E) {X : X0} (C : XOK E X cX9_thatCanBe RX9 5 (some .int) rm_X9_thatCanBe) (hxn : xn X = (rm_X9_thatCanBe.cells, rm_X9_thatCanBe.slots)) {KE : ((Nat × Int32 × Int32 × Int32)) → Hp → Prop} (e_86 : ∀ (h0 : Nat) (l1 : Int32) (l2 : Int32) (l3 : Int32) (σ : Hp), KE ((h0, l1, l2, l3)) σ → G E X 0 0 86 [(0, tR (some (h0))), (1, tI (l1)), (2, tI (l2)), (3, tI (l3))] [] σ) {v : Nat × Int32 × Int32 × Int32 × Int32} {σ : Hp} {e : (Nat × Int32 × Int32 × Int32)} {σ1 : Hp} (h : s_X9_thatCanBe_l19 v σ = some (e, σ1)) (hO : KE e σ1) : G E X 0 0 19 [(0, tR (some ((v.1)))), (1, tI ((v.2.1))), (2, tI ((v.2.2.1))), (3, tI ((v.2.2.2.1))), (4, tI ((v.2.2.2.2)))] [] σ := loopF_ind (P := fun (v : Nat × Int32 × Int32 × Int32 × Int32) (σ : Hp) => G E X 0 0 19 [(0, tR (some ((v.1)))), (1, tI ((v.2.1))), (2, tI ((v.2.2.1))), (3, tI ((v.2.2.2.1))), (4, tI ((v.2.2.2.2)))] [] σ) (KE := KE) (fun v σ x σ1 h hI hO => w_X9_thatCanBe_b19 hE C hxn e_86 (v.1) (v.2.1) (v.2.2.1) (v.2.2.2.1) (v.2.2.2.2) σ x σ1 h hI hO) v σ e σ1 h hO
noncomputable def s_X9_thatCanBe_j98 (h0 : Nat) (l2 : Int32) (t0 : Int32) (t1 : Int32) (σ : Hp) : Option (((Nat × Int32 × Int32) ⊕ (Int32)) × Hp) :=
  some (Sum.inl ((h0), (t0 ||| t1), (l2 + 1)), σ)
set_option maxRecDepth 100000 in
theorem w_X9_thatCanBe_j98 {E : E0} (hE : EOK E) {X : X0} (C : XOK E X cX9_thatCanBe RX9 5 (some .int) rm_X9_thatCanBe) (hxn : xn X = (rm_X9_thatCanBe.cells, rm_X9_thatCanBe.slots)) {KE : (Int32) → Hp → Prop} (e_ret : ∀ (r : Int32) (σ : Hp), KE (r) σ → xd X = (some (tI r), σ)) (h0 : Nat) (l2 : Int32) (t0 : Int32) (t1 : Int32) (σ : Hp) (x : (Nat × Int32 × Int32) ⊕ (Int32)) (σ1 : Hp) (h : s_X9_thatCanBe_j98 h0 l2 t0 t1 σ = some (x, σ1)) (hI : ∀ v, x = Sum.inl v → (fun (v : Nat × Int32 × Int32) (σ : Hp) => G E X 0 0 4 [(0, tR (some ((v.1)))), (1, tI ((v.2.1))), (2, tI ((v.2.2)))] [] σ) v σ1) (hO : ∀ e, x = Sum.inr e → KE e σ1) : G E X 0 0 98 [(0, tR (some (h0))), (2, tI (l2))] [tI (t1), tI (t0)] σ := by
  unfold s_X9_thatCanBe_j98 at h
  refine g_ior (pc := 98) C dX9_thatCanBe_98 ?_
  refine g_istore_n (lm' := [(1, tI (t0 ||| t1)), (0, tR (some (h0))), (2, tI (l2))]) (pc := 99) C 1 dX9_thatCanBe_99 rfl (by decide) rfl ?_
  refine g_iinc (lm' := [(2, tI (l2 + 1)), (1, tI (t0 ||| t1)), (0, tR (some (h0)))]) (v := l2 + 1) (pc := 100) C 2 dX9_thatCanBe_100 rfl rfl (by decide) rfl ?_
  refine g_goto (pc := 103) C 4 dX9_thatCanBe_103 (by decide) ?_
  refine g_sub [2, 1, 0] (lm' := [(0, tR (some (h0))), (1, tI (t0 ||| t1)), (2, tI (l2 + 1))]) rfl ?_
  obtain ⟨rfl, rfl⟩ := zsome h
  exact hI _ rfl
noncomputable def s_X9_thatCanBe_b4 (h0 : Nat) (l1 : Int32) (l2 : Int32) (σ : Hp) : Option (((Nat × Int32 × Int32) ⊕ (Int32)) × Hp) :=
  (rdR 9 σ h0 3).bind fun r1 =>
  (r1).bind fun a2 =>
  (ldI 11 σ a2 (2)).bind fun v3 =>
  if v3 ≤ l2 then
    some (Sum.inr (l1), σ)
  else
    cb (s_X9_thatCanBe_l19 ((h0), (l1), (l2), (1), (0)) σ) fun e12 σ11 =>
    match e12 with
    | (h4, l15, l26, l37) =>
      if l37 = 0 then
        s_X9_thatCanBe_j98 (h4) (l26) (l15) (0) σ11
      else
        s_X9_thatCanBe_j98 (h4) (l26) (l15) ((1 : Int32) <<< (l26 &&& 31)) σ11
noncomputable def s_X9_thatCanBe_l4 : (Nat × Int32 × Int32) → Hp → Option ((Int32) × Hp) := loopF (fun v => s_X9_thatCanBe_b4 (v.1) (v.2.1) (v.2.2))
set_option maxRecDepth 100000 in
theorem w_X9_thatCanBe_b4 {E : E0} (hE : EOK E) {X : X0} (C : XOK E X cX9_thatCanBe RX9 5 (some .int) rm_X9_thatCanBe) (hxn : xn X = (rm_X9_thatCanBe.cells, rm_X9_thatCanBe.slots)) {KE : (Int32) → Hp → Prop} (e_ret : ∀ (r : Int32) (σ : Hp), KE (r) σ → xd X = (some (tI r), σ)) (h0 : Nat) (l1 : Int32) (l2 : Int32) (σ : Hp) (x : (Nat × Int32 × Int32) ⊕ (Int32)) (σ1 : Hp) (h : s_X9_thatCanBe_b4 h0 l1 l2 σ = some (x, σ1)) (hI : ∀ v, x = Sum.inl v → (fun (v : Nat × Int32 × Int32) (σ : Hp) => G E X 0 0 4 [(0, tR (some ((v.1)))), (1, tI ((v.2.1))), (2, tI ((v.2.2)))] [] σ) v σ1) (hO : ∀ e, x = Sum.inr e → KE e σ1) : G E X 0 0 4 [(0, tR (some (h0))), (1, tI (l1)), (2, tI (l2))] [] σ := by
  unfold s_X9_thatCanBe_b4 at h
  refine g_iload_n (pc := 4) C 2 2 dX9_thatCanBe_4 rfl rfl ?_
  refine g_aload_n (pc := 5) C 0 0 dX9_thatCanBe_5 rfl rfl ?_
  obtain ⟨r1, hvr1, h⟩ := zbind h
  refine g_getR (N := 58) (pc := 6) C ck_9 hvr1 rfl rfl fl_X9_13 dX9_thatCanBe_6 ?_
  refine g_iconst (v := 2) (pc := 9) C dX9_thatCanBe_9 (by decide) ?_
  obtain ⟨a2, hqa2, h9⟩ := zbind h
  clear h
  subst hqa2
  have h := h9
  clear h9
  obtain ⟨v3, hvv3, h⟩ := zbind h
  refine g_iald (pc := 10) C hvv3 dX9_thatCanBe_10 ?_
  refine g_icmp_ge (pc := 11) C 106 dX9_thatCanBe_11 (by decide) (fun c13 => ?_) (fun c13 => ?_)
  · have h := zif_t c13 h
    refine g_iload_n (pc := 106) C 1 1 dX9_thatCanBe_106 rfl rfl ?_
    obtain ⟨rfl, rfl⟩ := zsome h
    exact g_iret (pc := 107) C rfl (e_ret _ _ (hO _ rfl)) (by rw [hxn]; rfl) (by rw [hxn]; rfl) dX9_thatCanBe_107
  · have h := zif_f c13 h
    refine g_iconst (v := 1) (pc := 14) C dX9_thatCanBe_14 (by decide) ?_
    refine g_istore_n (lm' := [(3, tI (1)), (0, tR (some (h0))), (1, tI (l1)), (2, tI (l2))]) (pc := 15) C 3 dX9_thatCanBe_15 rfl (by decide) rfl ?_
    refine g_iconst (v := 0) (pc := 16) C dX9_thatCanBe_16 (by decide) ?_
    refine g_istore (lm' := [(4, tI (0)), (3, tI (1)), (0, tR (some (h0))), (1, tI (l1)), (2, tI (l2))]) (pc := 17) C dX9_thatCanBe_17 (by decide) rfl ?_
    refine g_sub [2, 3, 4, 1, 0] (lm' := [(0, tR (some (h0))), (1, tI (l1)), (2, tI (l2)), (3, tI (1)), (4, tI (0))]) rfl ?_
    obtain ⟨KQ, hKQ, e12, σ11, hle12, h⟩ := zcbK h
    refine w_X9_thatCanBe_l19 (KE := KQ) hE C hxn ?_ hle12 h
    · intro h4 l15 l26 l37 σ8 h
      have h := (hKQ _ _).mp h
      refine g_iload_n (pc := 86) C 1 1 dX9_thatCanBe_86 rfl rfl ?_
      refine g_iload_n (pc := 87) C 3 3 dX9_thatCanBe_87 rfl rfl ?_
      refine g_if_eq (pc := 88) C 97 dX9_thatCanBe_88 (by decide) (fun c9 => ?_) (fun c9 => ?_)
      · have h := zif_t c9 h
        refine g_iconst (v := 0) (pc := 97) C dX9_thatCanBe_97 (by decide) ?_
        refine g_sub [0, 2] (lm' := [(0, tR (some (h4))), (2, tI (l26))]) rfl ?_
        exact w_X9_thatCanBe_j98 hE C hxn e_ret _ _ _ _ _ _ _ h hI hO
      · have h := zif_f c9 h
        refine g_iconst (v := 1) (pc := 91) C dX9_thatCanBe_91 (by decide) ?_
        refine g_iload_n (pc := 92) C 2 2 dX9_thatCanBe_92 rfl rfl ?_
        refine g_ishl (pc := 93) C dX9_thatCanBe_93 ?_
        refine g_goto (pc := 94) C 98 dX9_thatCanBe_94 (by decide) ?_
        refine g_sub [0, 2] (lm' := [(0, tR (some (h4))), (2, tI (l26))]) rfl ?_
        exact w_X9_thatCanBe_j98 hE C hxn e_ret _ _ _ _ _ _ _ h hI hO
theorem w_X9_thatCanBe_l4 {E : E0} (hE : EOK E) {X : X0} (C : XOK E X cX9_thatCanBe RX9 5 (some .int) rm_X9_thatCanBe) (hxn : xn X = (rm_X9_thatCanBe.cells, rm_X9_thatCanBe.slots)) {KE : (Int32) → Hp → Prop} (e_ret : ∀ (r : Int32) (σ : Hp), KE (r) σ → xd X = (some (tI r), σ)) {v : Nat × Int32 × Int32} {σ : Hp} {e : Int32} {σ1 : Hp} (h : s_X9_thatCanBe_l4 v σ = some (e, σ1)) (hO : KE e σ1) : G E X 0 0 4 [(0, tR (some ((v.1)))), (1, tI ((v.2.1))), (2, tI ((v.2.2)))] [] σ := loopF_ind (P := fun (v : Nat × Int32 × Int32) (σ : Hp) => G E X 0 0 4 [(0, tR (some ((v.1)))), (1, tI ((v.2.1))), (2, tI ((v.2.2)))] [] σ) (KE := KE) (fun v σ x σ1 h hI hO => w_X9_thatCanBe_b4 hE C hxn e_ret (v.1) (v.2.1) (v.2.2) σ x σ1 h hI hO) v σ e σ1 h hO
noncomputable def s_X9_thatCanBe (h0 : Nat) (σ : Hp) : Option (Int32 × Hp) :=
  cb (s_X9_thatCanBe_l4 ((h0), (0), (0)) σ) fun r2 σ3 =>
  some (r2, σ3)
set_option maxRecDepth 100000 in
theorem c_X9_thatCanBe {E : E0} (hE : EOK E) {h0 : Nat} {σ σ1 : Hp} {r : Int32} (h : s_X9_thatCanBe h0 σ = some (r, σ1)) : CT E yX9_thatCanBe (.code yX9_thatCanBe cX9_thatCanBe 5 (some .int)) rm_X9_thatCanBe [tR (some (h0))] σ (some (tI r)) σ1 := by
  refine CT.mk hE (by decide +kernel) (Nat.le_of_ble_eq_true rfl) [(0, tR (some (h0)))] rfl (fun X C hin hx hxn => ?_)
  have C : XOK E X cX9_thatCanBe RX9 5 (some .int) rm_X9_thatCanBe := C
  unfold s_X9_thatCanBe at h
  refine g_iconst (v := 0) (pc := 0) C dX9_thatCanBe_0 (by decide) ?_
  refine g_istore_n (lm' := [(1, tI (0)), (0, tR (some (h0)))]) (pc := 1) C 1 dX9_thatCanBe_1 rfl (by decide) rfl ?_
  refine g_iconst (v := 0) (pc := 2) C dX9_thatCanBe_2 (by decide) ?_
  refine g_istore_n (lm' := [(2, tI (0)), (1, tI (0)), (0, tR (some (h0)))]) (pc := 3) C 2 dX9_thatCanBe_3 rfl (by decide) rfl ?_
  refine g_sub [2, 1, 0] (lm' := [(0, tR (some (h0))), (1, tI (0)), (2, tI (0))]) rfl ?_
  obtain ⟨KQ, hKQ, r2, σ3, hlr2, h⟩ := zcbK h
  refine w_X9_thatCanBe_l4 (KE := KQ) hE C hxn ?_ hlr2 h
  · intro r2 σ1 h
    have h := (hKQ _ _).mp h
    obtain ⟨rfl, rfl⟩ := zsome h
    exact hx
def rm_X9_canBe : Room := { frames := 8, cells := 0, slots := 0, locals := 191 }
noncomputable def s_X9_canBe (h0 : Nat) (σ : Hp) : Option (Int32 × Hp) :=
  (wrI 9 σ h0 0 (0)).bind fun σ1 =>
  (ck 9 σ1 h0).bind fun u2 =>
  cb (s_X9_layLater h0 σ1) fun v4 σ3 =>
  (ck 9 σ3 h0).bind fun u5 =>
  cb (s_X9_thatCanBe h0 σ3) fun v7 σ6 =>
  some ((v7), σ6)
set_option maxRecDepth 100000 in
theorem c_X9_canBe {E : E0} (hE : EOK E) {h0 : Nat} {σ σ1 : Hp} {r : Int32} (h : s_X9_canBe h0 σ = some (r, σ1)) : CT E yX9_canBe (.code yX9_canBe cX9_canBe 1 (some .int)) rm_X9_canBe [tR (some (h0))] σ (some (tI r)) σ1 := by
  refine CT.mk hE (by decide +kernel) (Nat.le_of_ble_eq_true rfl) [(0, tR (some (h0)))] rfl (fun X C hin hx hxn => ?_)
  have C : XOK E X cX9_canBe RX9 1 (some .int) rm_X9_canBe := C
  unfold s_X9_canBe at h
  refine g_aload_n (pc := 0) C 0 0 dX9_canBe_0 rfl rfl ?_
  refine g_iconst (v := 0) (pc := 1) C dX9_canBe_1 (by decide) ?_
  obtain ⟨σ1, hvσ1, h⟩ := zbind h
  refine g_putI (N := 58) (pc := 2) C ⟨ck_9, rfl, tyX9_ok⟩ hvσ1 rfl fl_X9_161 rfl rfl dX9_canBe_2 ?_
  refine g_aload_n (pc := 5) C 0 0 dX9_canBe_5 rfl rfl ?_
  obtain ⟨u2, hvu2, h⟩ := zbind h
  obtain ⟨v4, σ3, hvσ3, h⟩ := zcb h
  refine g_callV (pc := 6) (av := []) C (c_X9_layLater hE hvσ3) yv_X9_layLater ml_X9_489 ck_9 (zopt hvu2).1 rfl (rf_of (by decide)) rfl (Nat.le_of_ble_eq_true rfl) dX9_canBe_6 ?_
  refine g_aload_n (pc := 9) C 0 0 dX9_canBe_9 rfl rfl ?_
  obtain ⟨u5, hvu5, h⟩ := zbind h
  obtain ⟨v7, σ6, hvσ6, h⟩ := zcb h
  refine g_callV (pc := 10) (av := []) C (c_X9_thatCanBe hE hvσ6) yv_X9_thatCanBe ml_X9_492 ck_9 (zopt hvu5).1 rfl (rf_of (by decide)) rfl (Nat.le_of_ble_eq_true rfl) dX9_canBe_10 ?_
  obtain ⟨rfl, rfl⟩ := zsome h
  exact g_iret (pc := 13) C rfl hx (by rw [hxn]; rfl) (by rw [hxn]; rfl) dX9_canBe_13
def rm_X9_mostAlike : Room := { frames := 1, cells := 0, slots := 0, locals := 21 }
noncomputable def s_X9_mostAlike_j61 (h0 : Nat) (l1 : Int32) (l2 : Int32) (l3 : Int32) (l4 : Int32) (l6 : Int32) (t0 : Int32) (t1 : Int32) (σ : Hp) : Option (((Nat × Int32 × Int32 × Int32 × Int32 × Int32 × Int32) ⊕ ((Nat × Int32 × Int32 × Int32 × Int32 × Int32))) × Hp) :=
  some (Sum.inl ((h0), (l1), (l2), (l3), (l4), (t0 + t1), (l6 + 1)), σ)
set_option maxRecDepth 100000 in
theorem w_X9_mostAlike_j61 {E : E0} (hE : EOK E) {X : X0} (C : XOK E X cX9_mostAlike RX9 7 (some .int) rm_X9_mostAlike) (hxn : xn X = (rm_X9_mostAlike.cells, rm_X9_mostAlike.slots)) {KE : ((Nat × Int32 × Int32 × Int32 × Int32 × Int32)) → Hp → Prop} (e_70 : ∀ (h0 : Nat) (l1 : Int32) (l2 : Int32) (l3 : Int32) (l4 : Int32) (l5 : Int32) (σ : Hp), KE ((h0, l1, l2, l3, l4, l5)) σ → G E X 0 0 70 [(0, tR (some (h0))), (1, tI (l1)), (2, tI (l2)), (3, tI (l3)), (4, tI (l4)), (5, tI (l5))] [] σ) (h0 : Nat) (l1 : Int32) (l2 : Int32) (l3 : Int32) (l4 : Int32) (l6 : Int32) (t0 : Int32) (t1 : Int32) (σ : Hp) (x : (Nat × Int32 × Int32 × Int32 × Int32 × Int32 × Int32) ⊕ ((Nat × Int32 × Int32 × Int32 × Int32 × Int32))) (σ1 : Hp) (h : s_X9_mostAlike_j61 h0 l1 l2 l3 l4 l6 t0 t1 σ = some (x, σ1)) (hI : ∀ v, x = Sum.inl v → (fun (v : Nat × Int32 × Int32 × Int32 × Int32 × Int32 × Int32) (σ : Hp) => G E X 0 0 18 [(0, tR (some ((v.1)))), (1, tI ((v.2.1))), (2, tI ((v.2.2.1))), (3, tI ((v.2.2.2.1))), (4, tI ((v.2.2.2.2.1))), (5, tI ((v.2.2.2.2.2.1))), (6, tI ((v.2.2.2.2.2.2)))] [] σ) v σ1) (hO : ∀ e, x = Sum.inr e → KE e σ1) : G E X 0 0 61 [(0, tR (some (h0))), (1, tI (l1)), (2, tI (l2)), (3, tI (l3)), (4, tI (l4)), (6, tI (l6))] [tI (t1), tI (t0)] σ := by
  unfold s_X9_mostAlike_j61 at h
  refine g_iadd (pc := 61) C dX9_mostAlike_61 ?_
  refine g_istore (lm' := [(5, tI (t0 + t1)), (0, tR (some (h0))), (1, tI (l1)), (2, tI (l2)), (3, tI (l3)), (4, tI (l4)), (6, tI (l6))]) (pc := 62) C dX9_mostAlike_62 (by decide) rfl ?_
  refine g_iinc (lm' := [(6, tI (l6 + 1)), (5, tI (t0 + t1)), (0, tR (some (h0))), (1, tI (l1)), (2, tI (l2)), (3, tI (l3)), (4, tI (l4))]) (v := l6 + 1) (pc := 64) C 6 dX9_mostAlike_64 rfl rfl (by decide) rfl ?_
  refine g_goto (pc := 67) C 18 dX9_mostAlike_67 (by decide) ?_
  refine g_sub [2, 3, 4, 5, 6, 1, 0] (lm' := [(0, tR (some (h0))), (1, tI (l1)), (2, tI (l2)), (3, tI (l3)), (4, tI (l4)), (5, tI (t0 + t1)), (6, tI (l6 + 1))]) rfl ?_
  obtain ⟨rfl, rfl⟩ := zsome h
  exact hI _ rfl
noncomputable def s_X9_mostAlike_j60 (h0 : Nat) (l1 : Int32) (l2 : Int32) (l3 : Int32) (l4 : Int32) (l6 : Int32) (t0 : Int32) (σ : Hp) : Option (((Nat × Int32 × Int32 × Int32 × Int32 × Int32 × Int32) ⊕ ((Nat × Int32 × Int32 × Int32 × Int32 × Int32))) × Hp) :=
  s_X9_mostAlike_j61 (h0) (l1) (l2) (l3) (l4) (l6) (t0) (0) σ
set_option maxRecDepth 100000 in
theorem w_X9_mostAlike_j60 {E : E0} (hE : EOK E) {X : X0} (C : XOK E X cX9_mostAlike RX9 7 (some .int) rm_X9_mostAlike) (hxn : xn X = (rm_X9_mostAlike.cells, rm_X9_mostAlike.slots)) {KE : ((Nat × Int32 × Int32 × Int32 × Int32 × Int32)) → Hp → Prop} (e_70 : ∀ (h0 : Nat) (l1 : Int32) (l2 : Int32) (l3 : Int32) (l4 : Int32) (l5 : Int32) (σ : Hp), KE ((h0, l1, l2, l3, l4, l5)) σ → G E X 0 0 70 [(0, tR (some (h0))), (1, tI (l1)), (2, tI (l2)), (3, tI (l3)), (4, tI (l4)), (5, tI (l5))] [] σ) (h0 : Nat) (l1 : Int32) (l2 : Int32) (l3 : Int32) (l4 : Int32) (l6 : Int32) (t0 : Int32) (σ : Hp) (x : (Nat × Int32 × Int32 × Int32 × Int32 × Int32 × Int32) ⊕ ((Nat × Int32 × Int32 × Int32 × Int32 × Int32))) (σ1 : Hp) (h : s_X9_mostAlike_j60 h0 l1 l2 l3 l4 l6 t0 σ = some (x, σ1)) (hI : ∀ v, x = Sum.inl v → (fun (v : Nat × Int32 × Int32 × Int32 × Int32 × Int32 × Int32) (σ : Hp) => G E X 0 0 18 [(0, tR (some ((v.1)))), (1, tI ((v.2.1))), (2, tI ((v.2.2.1))), (3, tI ((v.2.2.2.1))), (4, tI ((v.2.2.2.2.1))), (5, tI ((v.2.2.2.2.2.1))), (6, tI ((v.2.2.2.2.2.2)))] [] σ) v σ1) (hO : ∀ e, x = Sum.inr e → KE e σ1) : G E X 0 0 60 [(0, tR (some (h0))), (1, tI (l1)), (2, tI (l2)), (3, tI (l3)), (4, tI (l4)), (6, tI (l6))] [tI (t0)] σ := by
  unfold s_X9_mostAlike_j60 at h
  refine g_iconst (v := 0) (pc := 60) C dX9_mostAlike_60 (by decide) ?_
  exact w_X9_mostAlike_j61 hE C hxn e_70 _ _ _ _ _ _ _ _ _ _ _ h hI hO
noncomputable def s_X9_mostAlike_b18 (h0 : Nat) (l1 : Int32) (l2 : Int32) (l3 : Int32) (l4 : Int32) (l5 : Int32) (l6 : Int32) (σ : Hp) : Option (((Nat × Int32 × Int32 × Int32 × Int32 × Int32 × Int32) ⊕ ((Nat × Int32 × Int32 × Int32 × Int32 × Int32))) × Hp) :=
  (rdR 9 σ h0 3).bind fun r1 =>
  (r1).bind fun a2 =>
  (ldI 11 σ a2 (2)).bind fun v3 =>
  if v3 ≤ l6 then
    some (Sum.inr ((h0), (l1), (l2), (l3), (l4), (l5)), σ)
  else
    cb (s_X9_is (l1) (l6) σ) fun v5 σ4 =>
    if v5 = 0 then
      s_X9_mostAlike_j60 (h0) (l1) (l2) (l3) (l4) (l6) (l5) σ4
    else
      (rdR 9 σ4 h0 45).bind fun r6 =>
      (r6).bind fun a7 =>
      (ldI 11 σ4 a7 ((3 * l2) + l6)).bind fun v8 =>
      if v8 = l4 then
        s_X9_mostAlike_j61 (h0) (l1) (l2) (l3) (l4) (l6) (l5) (1) σ4
      else
        s_X9_mostAlike_j60 (h0) (l1) (l2) (l3) (l4) (l6) (l5) σ4
noncomputable def s_X9_mostAlike_l18 : (Nat × Int32 × Int32 × Int32 × Int32 × Int32 × Int32) → Hp → Option (((Nat × Int32 × Int32 × Int32 × Int32 × Int32)) × Hp) := loopF (fun v => s_X9_mostAlike_b18 (v.1) (v.2.1) (v.2.2.1) (v.2.2.2.1) (v.2.2.2.2.1) (v.2.2.2.2.2.1) (v.2.2.2.2.2.2))
set_option maxRecDepth 100000 in
theorem w_X9_mostAlike_b18 {E : E0} (hE : EOK E) {X : X0} (C : XOK E X cX9_mostAlike RX9 7 (some .int) rm_X9_mostAlike) (hxn : xn X = (rm_X9_mostAlike.cells, rm_X9_mostAlike.slots)) {KE : ((Nat × Int32 × Int32 × Int32 × Int32 × Int32)) → Hp → Prop} (e_70 : ∀ (h0 : Nat) (l1 : Int32) (l2 : Int32) (l3 : Int32) (l4 : Int32) (l5 : Int32) (σ : Hp), KE ((h0, l1, l2, l3, l4, l5)) σ → G E X 0 0 70 [(0, tR (some (h0))), (1, tI (l1)), (2, tI (l2)), (3, tI (l3)), (4, tI (l4)), (5, tI (l5))] [] σ) (h0 : Nat) (l1 : Int32) (l2 : Int32) (l3 : Int32) (l4 : Int32) (l5 : Int32) (l6 : Int32) (σ : Hp) (x : (Nat × Int32 × Int32 × Int32 × Int32 × Int32 × Int32) ⊕ ((Nat × Int32 × Int32 × Int32 × Int32 × Int32))) (σ1 : Hp) (h : s_X9_mostAlike_b18 h0 l1 l2 l3 l4 l5 l6 σ = some (x, σ1)) (hI : ∀ v, x = Sum.inl v → (fun (v : Nat × Int32 × Int32 × Int32 × Int32 × Int32 × Int32) (σ : Hp) => G E X 0 0 18 [(0, tR (some ((v.1)))), (1, tI ((v.2.1))), (2, tI ((v.2.2.1))), (3, tI ((v.2.2.2.1))), (4, tI ((v.2.2.2.2.1))), (5, tI ((v.2.2.2.2.2.1))), (6, tI ((v.2.2.2.2.2.2)))] [] σ) v σ1) (hO : ∀ e, x = Sum.inr e → KE e σ1) : G E X 0 0 18 [(0, tR (some (h0))), (1, tI (l1)), (2, tI (l2)), (3, tI (l3)), (4, tI (l4)), (5, tI (l5)), (6, tI (l6))] [] σ := by
  unfold s_X9_mostAlike_b18 at h
  refine g_iload (pc := 18) C 6 dX9_mostAlike_18 rfl ?_
  refine g_aload_n (pc := 20) C 0 0 dX9_mostAlike_20 rfl rfl ?_
  obtain ⟨r1, hvr1, h⟩ := zbind h
  refine g_getR (N := 58) (pc := 21) C ck_9 hvr1 rfl rfl fl_X9_13 dX9_mostAlike_21 ?_
  refine g_iconst (v := 2) (pc := 24) C dX9_mostAlike_24 (by decide) ?_
  obtain ⟨a2, hqa2, h9⟩ := zbind h
  clear h
  subst hqa2
  have h := h9
  clear h9
  obtain ⟨v3, hvv3, h⟩ := zbind h
  refine g_iald (pc := 25) C hvv3 dX9_mostAlike_25 ?_
  refine g_icmp_ge (pc := 26) C 70 dX9_mostAlike_26 (by decide) (fun c11 => ?_) (fun c11 => ?_)
  · have h := zif_t c11 h
    refine g_sub [0, 1, 2, 3, 4, 5] (lm' := [(0, tR (some (h0))), (1, tI (l1)), (2, tI (l2)), (3, tI (l3)), (4, tI (l4)), (5, tI (l5))]) rfl ?_
    obtain ⟨rfl, rfl⟩ := zsome h
    exact e_70 _ _ _ _ _ _ _ (hO _ rfl)
  · have h := zif_f c11 h
    refine g_iload (pc := 29) C 5 dX9_mostAlike_29 rfl ?_
    refine g_iload_n (pc := 31) C 1 1 dX9_mostAlike_31 rfl rfl ?_
    refine g_iload (pc := 32) C 6 dX9_mostAlike_32 rfl ?_
    obtain ⟨v5, σ4, hvσ4, h⟩ := zcb h
    refine g_callS (pc := 34) (av := [tI (l1), tI (l6)]) C (c_X9_is hE hvσ4) ys_X9_is ml_X9_438 rfl (rf_of (by decide)) rfl (Nat.le_of_ble_eq_true rfl) dX9_mostAlike_34 ?_
    refine g_if_eq (pc := 37) C 60 dX9_mostAlike_37 (by decide) (fun c10 => ?_) (fun c10 => ?_)
    · have h := zif_t c10 h
      refine g_sub [0, 1, 2, 3, 4, 6] (lm' := [(0, tR (some (h0))), (1, tI (l1)), (2, tI (l2)), (3, tI (l3)), (4, tI (l4)), (6, tI (l6))]) rfl ?_
      exact w_X9_mostAlike_j60 hE C hxn e_70 _ _ _ _ _ _ _ _ _ _ h hI hO
    · have h := zif_f c10 h
      refine g_aload_n (pc := 40) C 0 0 dX9_mostAlike_40 rfl rfl ?_
      obtain ⟨r6, hvr6, h⟩ := zbind h
      refine g_getR (N := 58) (pc := 41) C ck_9 hvr6 rfl rfl fl_X9_122 dX9_mostAlike_41 ?_
      refine g_iconst (v := 3) (pc := 44) C dX9_mostAlike_44 (by decide) ?_
      refine g_iload_n (pc := 45) C 2 2 dX9_mostAlike_45 rfl rfl ?_
      refine g_imul (pc := 46) C dX9_mostAlike_46 ?_
      refine g_iload (pc := 47) C 6 dX9_mostAlike_47 rfl ?_
      refine g_iadd (pc := 49) C dX9_mostAlike_49 ?_
      obtain ⟨a7, hqa7, h9⟩ := zbind h
      clear h
      subst hqa7
      have h := h9
      clear h9
      obtain ⟨v8, hvv8, h⟩ := zbind h
      refine g_iald (pc := 50) C hvv8 dX9_mostAlike_50 ?_
      refine g_iload (pc := 51) C 4 dX9_mostAlike_51 rfl ?_
      refine g_icmp_ne (pc := 53) C 60 dX9_mostAlike_53 (by decide) (fun c9 => ?_) (fun c9 => ?_)
      · have h := zif_f c9 h
        refine g_sub [0, 1, 2, 3, 4, 6] (lm' := [(0, tR (some (h0))), (1, tI (l1)), (2, tI (l2)), (3, tI (l3)), (4, tI (l4)), (6, tI (l6))]) rfl ?_
        exact w_X9_mostAlike_j60 hE C hxn e_70 _ _ _ _ _ _ _ _ _ _ h hI hO
      · have h := zif_t c9 h
        refine g_iconst (v := 1) (pc := 56) C dX9_mostAlike_56 (by decide) ?_
        refine g_goto (pc := 57) C 61 dX9_mostAlike_57 (by decide) ?_
        refine g_sub [0, 1, 2, 3, 4, 6] (lm' := [(0, tR (some (h0))), (1, tI (l1)), (2, tI (l2)), (3, tI (l3)), (4, tI (l4)), (6, tI (l6))]) rfl ?_
        exact w_X9_mostAlike_j61 hE C hxn e_70 _ _ _ _ _ _ _ _ _ _ _ h hI hO
theorem w_X9_mostAlike_l18 {E : E0} (hE : EOK E) {X : X0} (C : XOK E X cX9_mostAlike RX9 7 (some .int) rm_X9_mostAlike) (hxn : xn X = (rm_X9_mostAlike.cells, rm_X9_mostAlike.slots)) {KE : ((Nat × Int32 × Int32 × Int32 × Int32 × Int32)) → Hp → Prop} (e_70 : ∀ (h0 : Nat) (l1 : Int32) (l2 : Int32) (l3 : Int32) (l4 : Int32) (l5 : Int32) (σ : Hp), KE ((h0, l1, l2, l3, l4, l5)) σ → G E X 0 0 70 [(0, tR (some (h0))), (1, tI (l1)), (2, tI (l2)), (3, tI (l3)), (4, tI (l4)), (5, tI (l5))] [] σ) {v : Nat × Int32 × Int32 × Int32 × Int32 × Int32 × Int32} {σ : Hp} {e : (Nat × Int32 × Int32 × Int32 × Int32 × Int32)} {σ1 : Hp} (h : s_X9_mostAlike_l18 v σ = some (e, σ1)) (hO : KE e σ1) : G E X 0 0 18 [(0, tR (some ((v.1)))), (1, tI ((v.2.1))), (2, tI ((v.2.2.1))), (3, tI ((v.2.2.2.1))), (4, tI ((v.2.2.2.2.1))), (5, tI ((v.2.2.2.2.2.1))), (6, tI ((v.2.2.2.2.2.2)))] [] σ := loopF_ind (P := fun (v : Nat × Int32 × Int32 × Int32 × Int32 × Int32 × Int32) (σ : Hp) => G E X 0 0 18 [(0, tR (some ((v.1)))), (1, tI ((v.2.1))), (2, tI ((v.2.2.1))), (3, tI ((v.2.2.2.1))), (4, tI ((v.2.2.2.2.1))), (5, tI ((v.2.2.2.2.2.1))), (6, tI ((v.2.2.2.2.2.2)))] [] σ) (KE := KE) (fun v σ x σ1 h hI hO => w_X9_mostAlike_b18 hE C hxn e_70 (v.1) (v.2.1) (v.2.2.1) (v.2.2.2.1) (v.2.2.2.2.1) (v.2.2.2.2.2.1) (v.2.2.2.2.2.2) σ x σ1 h hI hO) v σ e σ1 h hO
noncomputable def s_X9_mostAlike_j82 (h0 : Nat) (l1 : Int32) (l2 : Int32) (l4 : Int32) (t0 : Int32) (σ : Hp) : Option (((Nat × Int32 × Int32 × Int32 × Int32) ⊕ (Int32)) × Hp) :=
  some (Sum.inl ((h0), (l1), (l2), (t0), (l4 + 1)), σ)
set_option maxRecDepth 100000 in
theorem w_X9_mostAlike_j82 {E : E0} (hE : EOK E) {X : X0} (C : XOK E X cX9_mostAlike RX9 7 (some .int) rm_X9_mostAlike) (hxn : xn X = (rm_X9_mostAlike.cells, rm_X9_mostAlike.slots)) {KE : (Int32) → Hp → Prop} (e_ret : ∀ (r : Int32) (σ : Hp), KE (r) σ → xd X = (some (tI r), σ)) (h0 : Nat) (l1 : Int32) (l2 : Int32) (l4 : Int32) (t0 : Int32) (σ : Hp) (x : (Nat × Int32 × Int32 × Int32 × Int32) ⊕ (Int32)) (σ1 : Hp) (h : s_X9_mostAlike_j82 h0 l1 l2 l4 t0 σ = some (x, σ1)) (hI : ∀ v, x = Sum.inl v → (fun (v : Nat × Int32 × Int32 × Int32 × Int32) (σ : Hp) => G E X 0 0 5 [(0, tR (some ((v.1)))), (1, tI ((v.2.1))), (2, tI ((v.2.2.1))), (3, tI ((v.2.2.2.1))), (4, tI ((v.2.2.2.2)))] [] σ) v σ1) (hO : ∀ e, x = Sum.inr e → KE e σ1) : G E X 0 0 82 [(0, tR (some (h0))), (1, tI (l1)), (2, tI (l2)), (4, tI (l4))] [tI (t0)] σ := by
  unfold s_X9_mostAlike_j82 at h
  refine g_istore_n (lm' := [(3, tI (t0)), (0, tR (some (h0))), (1, tI (l1)), (2, tI (l2)), (4, tI (l4))]) (pc := 82) C 3 dX9_mostAlike_82 rfl (by decide) rfl ?_
  refine g_iinc (lm' := [(4, tI (l4 + 1)), (3, tI (t0)), (0, tR (some (h0))), (1, tI (l1)), (2, tI (l2))]) (v := l4 + 1) (pc := 83) C 4 dX9_mostAlike_83 rfl rfl (by decide) rfl ?_
  refine g_goto (pc := 86) C 5 dX9_mostAlike_86 (by decide) ?_
  refine g_sub [2, 3, 4, 1, 0] (lm' := [(0, tR (some (h0))), (1, tI (l1)), (2, tI (l2)), (3, tI (t0)), (4, tI (l4 + 1))]) rfl ?_
  obtain ⟨rfl, rfl⟩ := zsome h
  exact hI _ rfl
noncomputable def s_X9_mostAlike_b5 (h0 : Nat) (l1 : Int32) (l2 : Int32) (l3 : Int32) (l4 : Int32) (σ : Hp) : Option (((Nat × Int32 × Int32 × Int32 × Int32) ⊕ (Int32)) × Hp) :=
  if 6 ≤ l4 then
    some (Sum.inr (l3), σ)
  else
    cb (s_X9_mostAlike_l18 ((h0), (l1), (l2), (l3), (l4), (0), (0)) σ) fun e11 σ10 =>
    match e11 with
    | (h1, l12, l23, l34, l45, l56) =>
      if l56 ≤ l34 then
        s_X9_mostAlike_j82 (h1) (l12) (l23) (l45) (l34) σ10
      else
        s_X9_mostAlike_j82 (h1) (l12) (l23) (l45) (l56) σ10
noncomputable def s_X9_mostAlike_l5 : (Nat × Int32 × Int32 × Int32 × Int32) → Hp → Option ((Int32) × Hp) := loopF (fun v => s_X9_mostAlike_b5 (v.1) (v.2.1) (v.2.2.1) (v.2.2.2.1) (v.2.2.2.2))
set_option maxRecDepth 100000 in
theorem w_X9_mostAlike_b5 {E : E0} (hE : EOK E) {X : X0} (C : XOK E X cX9_mostAlike RX9 7 (some .int) rm_X9_mostAlike) (hxn : xn X = (rm_X9_mostAlike.cells, rm_X9_mostAlike.slots)) {KE : (Int32) → Hp → Prop} (e_ret : ∀ (r : Int32) (σ : Hp), KE (r) σ → xd X = (some (tI r), σ)) (h0 : Nat) (l1 : Int32) (l2 : Int32) (l3 : Int32) (l4 : Int32) (σ : Hp) (x : (Nat × Int32 × Int32 × Int32 × Int32) ⊕ (Int32)) (σ1 : Hp) (h : s_X9_mostAlike_b5 h0 l1 l2 l3 l4 σ = some (x, σ1)) (hI : ∀ v, x = Sum.inl v → (fun (v : Nat × Int32 × Int32 × Int32 × Int32) (σ : Hp) => G E X 0 0 5 [(0, tR (some ((v.1)))), (1, tI ((v.2.1))), (2, tI ((v.2.2.1))), (3, tI ((v.2.2.2.1))), (4, tI ((v.2.2.2.2)))] [] σ) v σ1) (hO : ∀ e, x = Sum.inr e → KE e σ1) : G E X 0 0 5 [(0, tR (some (h0))), (1, tI (l1)), (2, tI (l2)), (3, tI (l3)), (4, tI (l4))] [] σ := by
  unfold s_X9_mostAlike_b5 at h
  refine g_iload (pc := 5) C 4 dX9_mostAlike_5 rfl ?_
  refine g_bipush (v := 6) (pc := 7) C dX9_mostAlike_7 (by decide) ?_
  refine g_icmp_ge (pc := 9) C 89 dX9_mostAlike_9 (by decide) (fun c12 => ?_) (fun c12 => ?_)
  · have h := zif_t c12 h
    refine g_iload_n (pc := 89) C 3 3 dX9_mostAlike_89 rfl rfl ?_
    obtain ⟨rfl, rfl⟩ := zsome h
    exact g_iret (pc := 90) C rfl (e_ret _ _ (hO _ rfl)) (by rw [hxn]; rfl) (by rw [hxn]; rfl) dX9_mostAlike_90
  · have h := zif_f c12 h
    refine g_iconst (v := 0) (pc := 12) C dX9_mostAlike_12 (by decide) ?_
    refine g_istore (lm' := [(5, tI (0)), (0, tR (some (h0))), (1, tI (l1)), (2, tI (l2)), (3, tI (l3)), (4, tI (l4))]) (pc := 13) C dX9_mostAlike_13 (by decide) rfl ?_
    refine g_iconst (v := 0) (pc := 15) C dX9_mostAlike_15 (by decide) ?_
    refine g_istore (lm' := [(6, tI (0)), (5, tI (0)), (0, tR (some (h0))), (1, tI (l1)), (2, tI (l2)), (3, tI (l3)), (4, tI (l4))]) (pc := 16) C dX9_mostAlike_16 (by decide) rfl ?_
    refine g_sub [2, 3, 4, 5, 6, 1, 0] (lm' := [(0, tR (some (h0))), (1, tI (l1)), (2, tI (l2)), (3, tI (l3)), (4, tI (l4)), (5, tI (0)), (6, tI (0))]) rfl ?_
    obtain ⟨KQ, hKQ, e11, σ10, hle11, h⟩ := zcbK h
    refine w_X9_mostAlike_l18 (KE := KQ) hE C hxn ?_ hle11 h
    · intro h1 l12 l23 l34 l45 l56 σ7 h
      have h := (hKQ _ _).mp h
      refine g_iload (pc := 70) C 5 dX9_mostAlike_70 rfl ?_
      refine g_iload_n (pc := 72) C 3 3 dX9_mostAlike_72 rfl rfl ?_
      refine g_icmp_le (pc := 73) C 81 dX9_mostAlike_73 (by decide) (fun c8 => ?_) (fun c8 => ?_)
      · have h := zif_t c8 h
        refine g_iload_n (pc := 81) C 3 3 dX9_mostAlike_81 rfl rfl ?_
        refine g_sub [0, 1, 2, 4] (lm' := [(0, tR (some (h1))), (1, tI (l12)), (2, tI (l23)), (4, tI (l45))]) rfl ?_
        exact w_X9_mostAlike_j82 hE C hxn e_ret _ _ _ _ _ _ _ _ h hI hO
      · have h := zif_f c8 h
        refine g_iload (pc := 76) C 5 dX9_mostAlike_76 rfl ?_
        refine g_goto (pc := 78) C 82 dX9_mostAlike_78 (by decide) ?_
        refine g_sub [0, 1, 2, 4] (lm' := [(0, tR (some (h1))), (1, tI (l12)), (2, tI (l23)), (4, tI (l45))]) rfl ?_
        exact w_X9_mostAlike_j82 hE C hxn e_ret _ _ _ _ _ _ _ _ h hI hO
theorem w_X9_mostAlike_l5 {E : E0} (hE : EOK E) {X : X0} (C : XOK E X cX9_mostAlike RX9 7 (some .int) rm_X9_mostAlike) (hxn : xn X = (rm_X9_mostAlike.cells, rm_X9_mostAlike.slots)) {KE : (Int32) → Hp → Prop} (e_ret : ∀ (r : Int32) (σ : Hp), KE (r) σ → xd X = (some (tI r), σ)) {v : Nat × Int32 × Int32 × Int32 × Int32} {σ : Hp} {e : Int32} {σ1 : Hp} (h : s_X9_mostAlike_l5 v σ = some (e, σ1)) (hO : KE e σ1) : G E X 0 0 5 [(0, tR (some ((v.1)))), (1, tI ((v.2.1))), (2, tI ((v.2.2.1))), (3, tI ((v.2.2.2.1))), (4, tI ((v.2.2.2.2)))] [] σ := loopF_ind (P := fun (v : Nat × Int32 × Int32 × Int32 × Int32) (σ : Hp) => G E X 0 0 5 [(0, tR (some ((v.1)))), (1, tI ((v.2.1))), (2, tI ((v.2.2.1))), (3, tI ((v.2.2.2.1))), (4, tI ((v.2.2.2.2)))] [] σ) (KE := KE) (fun v σ x σ1 h hI hO => w_X9_mostAlike_b5 hE C hxn e_ret (v.1) (v.2.1) (v.2.2.1) (v.2.2.2.1) (v.2.2.2.2) σ x σ1 h hI hO) v σ e σ1 h hO
noncomputable def s_X9_mostAlike (h0 : Nat) (p1 : Int32) (p2 : Int32) (σ : Hp) : Option (Int32 × Hp) :=
  cb (s_X9_mostAlike_l5 ((h0), (p1), (p2), (0), (0)) σ) fun r2 σ3 =>
  some (r2, σ3)
set_option maxRecDepth 100000 in
theorem c_X9_mostAlike {E : E0} (hE : EOK E) {h0 : Nat} {p1 : Int32} {p2 : Int32} {σ σ1 : Hp} {r : Int32} (h : s_X9_mostAlike h0 p1 p2 σ = some (r, σ1)) : CT E yX9_mostAlike (.code yX9_mostAlike cX9_mostAlike 7 (some .int)) rm_X9_mostAlike [tR (some (h0)), tI (p1), tI (p2)] σ (some (tI r)) σ1 := by
  refine CT.mk hE (by decide +kernel) (Nat.le_of_ble_eq_true rfl) [(0, tR (some (h0))), (1, tI (p1)), (2, tI (p2))] rfl (fun X C hin hx hxn => ?_)
  have C : XOK E X cX9_mostAlike RX9 7 (some .int) rm_X9_mostAlike := C
  unfold s_X9_mostAlike at h
  refine g_iconst (v := 0) (pc := 0) C dX9_mostAlike_0 (by decide) ?_
  refine g_istore_n (lm' := [(3, tI (0)), (0, tR (some (h0))), (1, tI (p1)), (2, tI (p2))]) (pc := 1) C 3 dX9_mostAlike_1 rfl (by decide) rfl ?_
  refine g_iconst (v := 0) (pc := 2) C dX9_mostAlike_2 (by decide) ?_
  refine g_istore (lm' := [(4, tI (0)), (3, tI (0)), (0, tR (some (h0))), (1, tI (p1)), (2, tI (p2))]) (pc := 3) C dX9_mostAlike_3 (by decide) rfl ?_
  refine g_sub [2, 3, 4, 1, 0] (lm' := [(0, tR (some (h0))), (1, tI (p1)), (2, tI (p2)), (3, tI (0)), (4, tI (0))]) rfl ?_
  obtain ⟨KQ, hKQ, r2, σ3, hlr2, h⟩ := zcbK h
  refine w_X9_mostAlike_l5 (KE := KQ) hE C hxn ?_ hlr2 h
  · intro r2 σ1 h
    have h := (hKQ _ _).mp h
    obtain ⟨rfl, rfl⟩ := zsome h
    exact hx
def rm_X9_look : Room := { frames := 8, cells := 0, slots := 0, locals := 191 }
noncomputable def s_X9_look_j83 (h0 : Nat) (l1 : Int32) (l2 : Int32) (l4 : Int32) (l5 : Int32) (t0 : Int32) (σ : Hp) : Option (((Nat × Int32 × Int32 × Int32 × Int32 × Int32) ⊕ ((Int32 × Int32 × Int32))) × Hp) :=
  some (Sum.inl ((h0), (l1), (l2), (t0), (l4), (l5 + 1)), σ)
set_option maxRecDepth 100000 in
theorem w_X9_look_j83 {E : E0} (hE : EOK E) {X : X0} (C : XOK E X cX9_look RX9 7 (some .int) rm_X9_look) (hxn : xn X = (rm_X9_look.cells, rm_X9_look.slots)) {KE : ((Int32 × Int32 × Int32)) → Hp → Prop} (e_90 : ∀ (l1 : Int32) (l3 : Int32) (l4 : Int32) (σ : Hp), KE ((l1, l3, l4)) σ → G E X 0 0 90 [(1, tI (l1)), (3, tI (l3)), (4, tI (l4))] [] σ) (h0 : Nat) (l1 : Int32) (l2 : Int32) (l4 : Int32) (l5 : Int32) (t0 : Int32) (σ : Hp) (x : (Nat × Int32 × Int32 × Int32 × Int32 × Int32) ⊕ ((Int32 × Int32 × Int32))) (σ1 : Hp) (h : s_X9_look_j83 h0 l1 l2 l4 l5 t0 σ = some (x, σ1)) (hI : ∀ v, x = Sum.inl v → (fun (v : Nat × Int32 × Int32 × Int32 × Int32 × Int32) (σ : Hp) => G E X 0 0 40 [(0, tR (some ((v.1)))), (1, tI ((v.2.1))), (2, tI ((v.2.2.1))), (3, tI ((v.2.2.2.1))), (4, tI ((v.2.2.2.2.1))), (5, tI ((v.2.2.2.2.2)))] [] σ) v σ1) (hO : ∀ e, x = Sum.inr e → KE e σ1) : G E X 0 0 83 [(0, tR (some (h0))), (1, tI (l1)), (2, tI (l2)), (4, tI (l4)), (5, tI (l5))] [tI (t0)] σ := by
  unfold s_X9_look_j83 at h
  refine g_istore_n (lm' := [(3, tI (t0)), (0, tR (some (h0))), (1, tI (l1)), (2, tI (l2)), (4, tI (l4)), (5, tI (l5))]) (pc := 83) C 3 dX9_look_83 rfl (by decide) rfl ?_
  refine g_iinc (lm' := [(5, tI (l5 + 1)), (3, tI (t0)), (0, tR (some (h0))), (1, tI (l1)), (2, tI (l2)), (4, tI (l4))]) (v := l5 + 1) (pc := 84) C 5 dX9_look_84 rfl rfl (by decide) rfl ?_
  refine g_goto (pc := 87) C 40 dX9_look_87 (by decide) ?_
  refine g_sub [2, 3, 4, 1, 5, 0] (lm' := [(0, tR (some (h0))), (1, tI (l1)), (2, tI (l2)), (3, tI (t0)), (4, tI (l4)), (5, tI (l5 + 1))]) rfl ?_
  obtain ⟨rfl, rfl⟩ := zsome h
  exact hI _ rfl
noncomputable def s_X9_look_j69 (h0 : Nat) (l1 : Int32) (l2 : Int32) (l3 : Int32) (l5 : Int32) (l6 : Int32) (t0 : Int32) (σ : Hp) : Option (((Nat × Int32 × Int32 × Int32 × Int32 × Int32) ⊕ ((Int32 × Int32 × Int32))) × Hp) :=
  if l3 ≤ l6 then
    s_X9_look_j83 (h0) (l1) (l2) (t0) (l5) (l3) σ
  else
    s_X9_look_j83 (h0) (l1) (l2) (t0) (l5) (l6) σ
set_option maxRecDepth 100000 in
theorem w_X9_look_j69 {E : E0} (hE : EOK E) {X : X0} (C : XOK E X cX9_look RX9 7 (some .int) rm_X9_look) (hxn : xn X = (rm_X9_look.cells, rm_X9_look.slots)) {KE : ((Int32 × Int32 × Int32)) → Hp → Prop} (e_90 : ∀ (l1 : Int32) (l3 : Int32) (l4 : Int32) (σ : Hp), KE ((l1, l3, l4)) σ → G E X 0 0 90 [(1, tI (l1)), (3, tI (l3)), (4, tI (l4))] [] σ) (h0 : Nat) (l1 : Int32) (l2 : Int32) (l3 : Int32) (l5 : Int32) (l6 : Int32) (t0 : Int32) (σ : Hp) (x : (Nat × Int32 × Int32 × Int32 × Int32 × Int32) ⊕ ((Int32 × Int32 × Int32))) (σ1 : Hp) (h : s_X9_look_j69 h0 l1 l2 l3 l5 l6 t0 σ = some (x, σ1)) (hI : ∀ v, x = Sum.inl v → (fun (v : Nat × Int32 × Int32 × Int32 × Int32 × Int32) (σ : Hp) => G E X 0 0 40 [(0, tR (some ((v.1)))), (1, tI ((v.2.1))), (2, tI ((v.2.2.1))), (3, tI ((v.2.2.2.1))), (4, tI ((v.2.2.2.2.1))), (5, tI ((v.2.2.2.2.2)))] [] σ) v σ1) (hO : ∀ e, x = Sum.inr e → KE e σ1) : G E X 0 0 69 [(0, tR (some (h0))), (1, tI (l1)), (2, tI (l2)), (3, tI (l3)), (5, tI (l5)), (6, tI (l6))] [tI (t0)] σ := by
  unfold s_X9_look_j69 at h
  refine g_istore (lm' := [(4, tI (t0)), (0, tR (some (h0))), (1, tI (l1)), (2, tI (l2)), (3, tI (l3)), (5, tI (l5)), (6, tI (l6))]) (pc := 69) C dX9_look_69 (by decide) rfl ?_
  refine g_iload (pc := 71) C 6 dX9_look_71 rfl ?_
  refine g_iload_n (pc := 73) C 3 4 dX9_look_73 rfl rfl ?_
  refine g_icmp_ge (pc := 74) C 82 dX9_look_74 (by decide) (fun c1 => ?_) (fun c1 => ?_)
  · have h := zif_t c1 h
    refine g_iload_n (pc := 82) C 3 4 dX9_look_82 rfl rfl ?_
    refine g_sub [1, 2, 3, 0, 5] (lm' := [(0, tR (some (h0))), (1, tI (l1)), (2, tI (l2)), (4, tI (t0)), (5, tI (l5))]) rfl ?_
    exact w_X9_look_j83 hE C hxn e_90 _ _ _ _ _ _ _ _ _ h hI hO
  · have h := zif_f c1 h
    refine g_iload (pc := 77) C 6 dX9_look_77 rfl ?_
    refine g_goto (pc := 79) C 83 dX9_look_79 (by decide) ?_
    refine g_sub [1, 2, 3, 0, 5] (lm' := [(0, tR (some (h0))), (1, tI (l1)), (2, tI (l2)), (4, tI (t0)), (5, tI (l5))]) rfl ?_
    exact w_X9_look_j83 hE C hxn e_90 _ _ _ _ _ _ _ _ _ h hI hO
noncomputable def s_X9_look_b40 (h0 : Nat) (l1 : Int32) (l2 : Int32) (l3 : Int32) (l4 : Int32) (l5 : Int32) (σ : Hp) : Option (((Nat × Int32 × Int32 × Int32 × Int32 × Int32) ⊕ ((Int32 × Int32 × Int32))) × Hp) :=
  if 60 < l5 then
    some (Sum.inr ((l1), (l3), (l4)), σ)
  else
    (ck 9 σ h0).bind fun u1 =>
    cb (s_X9_mostAlike h0 (l2) (l5) σ) fun v3 σ2 =>
    if l3 ≤ v3 then
      s_X9_look_j69 (h0) (l1) (l2) (l3) (l5) (v3) (l4) σ2
    else
      s_X9_look_j69 (h0) (l1) (l2) (l3) (l5) (v3) (l5) σ2
noncomputable def s_X9_look_l40 : (Nat × Int32 × Int32 × Int32 × Int32 × Int32) → Hp → Option (((Int32 × Int32 × Int32)) × Hp) := loopF (fun v => s_X9_look_b40 (v.1) (v.2.1) (v.2.2.1) (v.2.2.2.1) (v.2.2.2.2.1) (v.2.2.2.2.2))
set_option maxRecDepth 100000 in
theorem w_X9_look_b40 {E : E0} (hE : EOK E) {X : X0} (C : XOK E X cX9_look RX9 7 (some .int) rm_X9_look) (hxn : xn X = (rm_X9_look.cells, rm_X9_look.slots)) {KE : ((Int32 × Int32 × Int32)) → Hp → Prop} (e_90 : ∀ (l1 : Int32) (l3 : Int32) (l4 : Int32) (σ : Hp), KE ((l1, l3, l4)) σ → G E X 0 0 90 [(1, tI (l1)), (3, tI (l3)), (4, tI (l4))] [] σ) (h0 : Nat) (l1 : Int32) (l2 : Int32) (l3 : Int32) (l4 : Int32) (l5 : Int32) (σ : Hp) (x : (Nat × Int32 × Int32 × Int32 × Int32 × Int32) ⊕ ((Int32 × Int32 × Int32))) (σ1 : Hp) (h : s_X9_look_b40 h0 l1 l2 l3 l4 l5 σ = some (x, σ1)) (hI : ∀ v, x = Sum.inl v → (fun (v : Nat × Int32 × Int32 × Int32 × Int32 × Int32) (σ : Hp) => G E X 0 0 40 [(0, tR (some ((v.1)))), (1, tI ((v.2.1))), (2, tI ((v.2.2.1))), (3, tI ((v.2.2.2.1))), (4, tI ((v.2.2.2.2.1))), (5, tI ((v.2.2.2.2.2)))] [] σ) v σ1) (hO : ∀ e, x = Sum.inr e → KE e σ1) : G E X 0 0 40 [(0, tR (some (h0))), (1, tI (l1)), (2, tI (l2)), (3, tI (l3)), (4, tI (l4)), (5, tI (l5))] [] σ := by
  unfold s_X9_look_b40 at h
  refine g_iload (pc := 40) C 5 dX9_look_40 rfl ?_
  refine g_bipush (v := 60) (pc := 42) C dX9_look_42 (by decide) ?_
  refine g_icmp_gt (pc := 44) C 90 dX9_look_44 (by decide) (fun c5 => ?_) (fun c5 => ?_)
  · have h := zif_t c5 h
    refine g_sub [1, 3, 4] (lm' := [(1, tI (l1)), (3, tI (l3)), (4, tI (l4))]) rfl ?_
    obtain ⟨rfl, rfl⟩ := zsome h
    exact e_90 _ _ _ _ (hO _ rfl)
  · have h := zif_f c5 h
    refine g_aload_n (pc := 47) C 0 0 dX9_look_47 rfl rfl ?_
    refine g_iload_n (pc := 48) C 2 2 dX9_look_48 rfl rfl ?_
    refine g_iload (pc := 49) C 5 dX9_look_49 rfl ?_
    obtain ⟨u1, hvu1, h⟩ := zbind h
    obtain ⟨v3, σ2, hvσ2, h⟩ := zcb h
    refine g_callV (pc := 51) (av := [tI (l2), tI (l5)]) C (c_X9_mostAlike hE hvσ2) yv_X9_mostAlike ml_X9_495 ck_9 (zopt hvu1).1 rfl (rf_of (by decide)) rfl (Nat.le_of_ble_eq_true rfl) dX9_look_51 ?_
    refine g_istore (lm' := [(6, tI (v3)), (0, tR (some (h0))), (1, tI (l1)), (2, tI (l2)), (3, tI (l3)), (4, tI (l4)), (5, tI (l5))]) (pc := 54) C dX9_look_54 (by decide) rfl ?_
    refine g_iload (pc := 56) C 0 dX9_look_56 rfl ?_
    refine g_iload_n (pc := 58) C 3 4 dX9_look_58 rfl rfl ?_
    refine g_icmp_ge (pc := 59) C 67 dX9_look_59 (by decide) (fun c4 => ?_) (fun c4 => ?_)
    · have h := zif_t c4 h
      refine g_iload (pc := 67) C 5 dX9_look_67 rfl ?_
      refine g_sub [1, 2, 3, 4, 6, 0] (lm' := [(0, tR (some (h0))), (1, tI (l1)), (2, tI (l2)), (3, tI (l3)), (5, tI (l5)), (6, tI (v3))]) rfl ?_
      exact w_X9_look_j69 hE C hxn e_90 _ _ _ _ _ _ _ _ _ _ h hI hO
    · have h := zif_f c4 h
      refine g_iload (pc := 62) C 6 dX9_look_62 rfl ?_
      refine g_goto (pc := 64) C 69 dX9_look_64 (by decide) ?_
      refine g_sub [1, 2, 3, 4, 6, 0] (lm' := [(0, tR (some (h0))), (1, tI (l1)), (2, tI (l2)), (3, tI (l3)), (5, tI (l5)), (6, tI (v3))]) rfl ?_
      exact w_X9_look_j69 hE C hxn e_90 _ _ _ _ _ _ _ _ _ _ h hI hO
theorem w_X9_look_l40 {E : E0} (hE : EOK E) {X : X0} (C : XOK E X cX9_look RX9 7 (some .int) rm_X9_look) (hxn : xn X = (rm_X9_look.cells, rm_X9_look.slots)) {KE : ((Int32 × Int32 × Int32)) → Hp → Prop} (e_90 : ∀ (l1 : Int32) (l3 : Int32) (l4 : Int32) (σ : Hp), KE ((l1, l3, l4)) σ → G E X 0 0 90 [(1, tI (l1)), (3, tI (l3)), (4, tI (l4))] [] σ) {v : Nat × Int32 × Int32 × Int32 × Int32 × Int32} {σ : Hp} {e : (Int32 × Int32 × Int32)} {σ1 : Hp} (h : s_X9_look_l40 v σ = some (e, σ1)) (hO : KE e σ1) : G E X 0 0 40 [(0, tR (some ((v.1)))), (1, tI ((v.2.1))), (2, tI ((v.2.2.1))), (3, tI ((v.2.2.2.1))), (4, tI ((v.2.2.2.2.1))), (5, tI ((v.2.2.2.2.2)))] [] σ := loopF_ind (P := fun (v : Nat × Int32 × Int32 × Int32 × Int32 × Int32) (σ : Hp) => G E X 0 0 40 [(0, tR (some ((v.1)))), (1, tI ((v.2.1))), (2, tI ((v.2.2.1))), (3, tI ((v.2.2.2.1))), (4, tI ((v.2.2.2.2.1))), (5, tI ((v.2.2.2.2.2)))] [] σ) (KE := KE) (fun v σ x σ1 h hI hO => w_X9_look_b40 hE C hxn e_90 (v.1) (v.2.1) (v.2.2.1) (v.2.2.2.1) (v.2.2.2.2.1) (v.2.2.2.2.2) σ x σ1 h hI hO) v σ e σ1 h hO
noncomputable def s_X9_look (h0 : Nat) (p1 : Int32) (σ : Hp) : Option (Int32 × Hp) :=
  (wrI 9 σ h0 0 (0)).bind fun σ1 =>
  (ck 9 σ1 h0).bind fun u2 =>
  cb (s_X9_layLater h0 σ1) fun v4 σ3 =>
  (ck 9 σ3 h0).bind fun u5 =>
  cb (s_X9_thatCanBe h0 σ3) fun v7 σ6 =>
  cb (s_X9_in (Int32.toInt64 (p1 : Int32)) (0) (1) σ6) fun v9 σ8 =>
  if v9 = 0 then
    some (((-1)), σ8)
  else
    if v7 = 0 then
      some (((-1)), σ8)
    else
      cb (s_X9_look_l40 ((h0), (p1), (v7), (100000000), ((-1)), (0)) σ8) fun e17 σ16 =>
      match e17 with
      | (l110, l311, l412) =>
        if l110 = 0 then
          some ((l412), σ16)
        else
          some ((l311), σ16)
set_option maxRecDepth 100000 in
theorem c_X9_look {E : E0} (hE : EOK E) {h0 : Nat} {p1 : Int32} {σ σ1 : Hp} {r : Int32} (h : s_X9_look h0 p1 σ = some (r, σ1)) : CT E yX9_look (.code yX9_look cX9_look 7 (some .int)) rm_X9_look [tR (some (h0)), tI (p1)] σ (some (tI r)) σ1 := by
  refine CT.mk hE (by decide +kernel) (Nat.le_of_ble_eq_true rfl) [(0, tR (some (h0))), (1, tI (p1))] rfl (fun X C hin hx hxn => ?_)
  have C : XOK E X cX9_look RX9 7 (some .int) rm_X9_look := C
  unfold s_X9_look at h
  refine g_aload_n (pc := 0) C 0 0 dX9_look_0 rfl rfl ?_
  refine g_iconst (v := 0) (pc := 1) C dX9_look_1 (by decide) ?_
  obtain ⟨σ1, hvσ1, h⟩ := zbind h
  refine g_putI (N := 58) (pc := 2) C ⟨ck_9, rfl, tyX9_ok⟩ hvσ1 rfl fl_X9_161 rfl rfl dX9_look_2 ?_
  refine g_aload_n (pc := 5) C 0 0 dX9_look_5 rfl rfl ?_
  obtain ⟨u2, hvu2, h⟩ := zbind h
  obtain ⟨v4, σ3, hvσ3, h⟩ := zcb h
  refine g_callV (pc := 6) (av := []) C (c_X9_layLater hE hvσ3) yv_X9_layLater ml_X9_489 ck_9 (zopt hvu2).1 rfl (rf_of (by decide)) rfl (Nat.le_of_ble_eq_true rfl) dX9_look_6 ?_
  refine g_aload_n (pc := 9) C 0 0 dX9_look_9 rfl rfl ?_
  obtain ⟨u5, hvu5, h⟩ := zbind h
  obtain ⟨v7, σ6, hvσ6, h⟩ := zcb h
  refine g_callV (pc := 10) (av := []) C (c_X9_thatCanBe hE hvσ6) yv_X9_thatCanBe ml_X9_492 ck_9 (zopt hvu5).1 rfl (rf_of (by decide)) rfl (Nat.le_of_ble_eq_true rfl) dX9_look_10 ?_
  refine g_istore_n (lm' := [(2, tI (v7)), (0, tR (some (h0))), (1, tI (p1))]) (pc := 13) C 2 dX9_look_13 rfl (by decide) rfl ?_
  refine g_iload_n (pc := 14) C 1 2 dX9_look_14 rfl rfl ?_
  refine g_i2l (pc := 15) C dX9_look_15 ?_
  refine g_lconst (v := 0) (pc := 16) C dX9_look_16 (by decide) ?_
  refine g_lconst (v := 1) (pc := 17) C dX9_look_17 (by decide) ?_
  obtain ⟨v9, σ8, hvσ8, h⟩ := zcb h
  refine g_callS (pc := 18) (av := [tJ (Int32.toInt64 (p1 : Int32)), tJ (0), tJ (1)]) C (c_X9_in hE hvσ8) ys_X9_in ml_X9_181 rfl (rf_of (by decide)) rfl (Nat.le_of_ble_eq_true rfl) dX9_look_18 ?_
  refine g_if_eq (pc := 21) C 28 dX9_look_21 (by decide) (fun c19 => ?_) (fun c19 => ?_)
  · have h := zif_t c19 h
    refine g_iconst (v := (-1)) (pc := 28) C dX9_look_28 (by decide) ?_
    obtain ⟨rfl, rfl⟩ := zsome h
    exact g_iret (pc := 29) C rfl hx (by rw [hxn]; rfl) (by rw [hxn]; rfl) dX9_look_29
  · have h := zif_f c19 h
    refine g_iload_n (pc := 24) C 2 0 dX9_look_24 rfl rfl ?_
    refine g_if_ne (pc := 25) C 30 dX9_look_25 (by decide) (fun c18 => ?_) (fun c18 => ?_)
    · have h := zif_f c18 h
      refine g_ldcw (v := 100000000) (pc := 30) C dX9_look_30 kc_X9_480 ?_
      refine g_istore_n (lm' := [(3, tI (100000000)), (2, tI (v7)), (0, tR (some (h0))), (1, tI (p1))]) (pc := 33) C 3 dX9_look_33 rfl (by decide) rfl ?_
      refine g_iconst (v := (-1)) (pc := 34) C dX9_look_34 (by decide) ?_
      refine g_istore (lm' := [(4, tI ((-1))), (3, tI (100000000)), (2, tI (v7)), (0, tR (some (h0))), (1, tI (p1))]) (pc := 35) C dX9_look_35 (by decide) rfl ?_
      refine g_iconst (v := 0) (pc := 37) C dX9_look_37 (by decide) ?_
      refine g_istore (lm' := [(5, tI (0)), (4, tI ((-1))), (3, tI (100000000)), (2, tI (v7)), (0, tR (some (h0))), (1, tI (p1))]) (pc := 38) C dX9_look_38 (by decide) rfl ?_
      refine g_sub [4, 5, 3, 2, 1, 0] (lm' := [(0, tR (some (h0))), (1, tI (p1)), (2, tI (v7)), (3, tI (100000000)), (4, tI ((-1))), (5, tI (0))]) rfl ?_
      obtain ⟨KQ, hKQ, e17, σ16, hle17, h⟩ := zcbK h
      refine w_X9_look_l40 (KE := KQ) hE C hxn ?_ hle17 h
      · intro l110 l311 l412 σ13 h
        have h := (hKQ _ _).mp h
        refine g_iload_n (pc := 90) C 1 0 dX9_look_90 rfl rfl ?_
        refine g_if_ne (pc := 91) C 99 dX9_look_91 (by decide) (fun c14 => ?_) (fun c14 => ?_)
        · have h := zif_f c14 h
          refine g_iload_n (pc := 99) C 3 1 dX9_look_99 rfl rfl ?_
          obtain ⟨rfl, rfl⟩ := zsome h
          exact g_iret (pc := 100) C rfl hx (by rw [hxn]; rfl) (by rw [hxn]; rfl) dX9_look_100
        · have h := zif_t c14 h
          refine g_iload (pc := 94) C 2 dX9_look_94 rfl ?_
          refine g_goto (pc := 96) C 100 dX9_look_96 (by decide) ?_
          obtain ⟨rfl, rfl⟩ := zsome h
          exact g_iret (pc := 100) C rfl hx (by rw [hxn]; rfl) (by rw [hxn]; rfl) dX9_look_100
    · have h := zif_t c18 h
      refine g_iconst (v := (-1)) (pc := 28) C dX9_look_28 (by decide) ?_
      obtain ⟨rfl, rfl⟩ := zsome h
      exact g_iret (pc := 29) C rfl hx (by rw [hxn]; rfl) (by rw [hxn]; rfl) dX9_look_29
def rm_X9_few : Room := { frames := 1, cells := 0, slots := 0, locals := 25 }
noncomputable def s_X9_few_j57 (h0 : Nat) (l1 : Int32) (l2 : Int32) (l3 : Int32) (t0 : Option Nat) (t1 : Int32) (t2 : Int64) (σ : Hp) : Option (((Nat × Int32 × Int32 × Int32) ⊕ ((Nat × Int32 × Int32))) × Hp) :=
  (t0).bind fun a1 =>
  (stJ σ a1 (t1) (t2)).bind fun σ2 =>
  some (Sum.inl ((h0), (l1), (l2), (l3 + 1)), σ2)
set_option maxRecDepth 100000 in
theorem w_X9_few_j57 {E : E0} (hE : EOK E) {X : X0} (C : XOK E X cX9_few RX9 8 (some .long) rm_X9_few) (hxn : xn X = (rm_X9_few.cells, rm_X9_few.slots)) {KE : ((Nat × Int32 × Int32)) → Hp → Prop} (e_64 : ∀ (h0 : Nat) (l1 : Int32) (l2 : Int32) (σ : Hp), KE ((h0, l1, l2)) σ → G E X 0 0 64 [(0, tR (some (h0))), (1, tI (l1)), (2, tI (l2))] [] σ) (h0 : Nat) (l1 : Int32) (l2 : Int32) (l3 : Int32) (t0 : Option Nat) (t1 : Int32) (t2 : Int64) (σ : Hp) (x : (Nat × Int32 × Int32 × Int32) ⊕ ((Nat × Int32 × Int32))) (σ1 : Hp) (h : s_X9_few_j57 h0 l1 l2 l3 t0 t1 t2 σ = some (x, σ1)) (hI : ∀ v, x = Sum.inl v → (fun (v : Nat × Int32 × Int32 × Int32) (σ : Hp) => G E X 0 0 35 [(0, tR (some ((v.1)))), (1, tI ((v.2.1))), (2, tI ((v.2.2.1))), (3, tI ((v.2.2.2)))] [] σ) v σ1) (hO : ∀ e, x = Sum.inr e → KE e σ1) : G E X 0 0 57 [(0, tR (some (h0))), (1, tI (l1)), (2, tI (l2)), (3, tI (l3))] [tJ (t2), tI (t1), tR (t0)] σ := by
  unfold s_X9_few_j57 at h
  obtain ⟨a1, hqa1, h9⟩ := zbind h
  clear h
  subst hqa1
  have h := h9
  clear h9
  obtain ⟨σ2, hvσ2, h⟩ := zbind h
  refine g_last (pc := 57) C hvσ2 dX9_few_57 ?_
  refine g_iinc (lm' := [(3, tI (l3 + 1)), (0, tR (some (h0))), (1, tI (l1)), (2, tI (l2))]) (v := l3 + 1) (pc := 58) C 3 dX9_few_58 rfl rfl (by decide) rfl ?_
  refine g_goto (pc := 61) C 35 dX9_few_61 (by decide) ?_
  refine g_sub [1, 2, 3, 0] (lm' := [(0, tR (some (h0))), (1, tI (l1)), (2, tI (l2)), (3, tI (l3 + 1))]) rfl ?_
  obtain ⟨rfl, rfl⟩ := zsome h
  exact hI _ rfl
noncomputable def s_X9_few_b35 (h0 : Nat) (l1 : Int32) (l2 : Int32) (l3 : Int32) (σ : Hp) : Option (((Nat × Int32 × Int32 × Int32) ⊕ ((Nat × Int32 × Int32))) × Hp) :=
  if 21 ≤ l3 then
    some (Sum.inr ((h0), (l1), (l2)), σ)
  else
    (rdR 9 σ h0 46).bind fun r1 =>
    if l3 = 0 then
      s_X9_few_j57 (h0) (l1) (l2) (l3) (r1) (l3) (1000000000000) σ
    else
      s_X9_few_j57 (h0) (l1) (l2) (l3) (r1) (l3) (0) σ
noncomputable def s_X9_few_l35 : (Nat × Int32 × Int32 × Int32) → Hp → Option (((Nat × Int32 × Int32)) × Hp) := loopF (fun v => s_X9_few_b35 (v.1) (v.2.1) (v.2.2.1) (v.2.2.2))
set_option maxRecDepth 100000 in
theorem w_X9_few_b35 {E : E0} (hE : EOK E) {X : X0} (C : XOK E X cX9_few RX9 8 (some .long) rm_X9_few) (hxn : xn X = (rm_X9_few.cells, rm_X9_few.slots)) {KE : ((Nat × Int32 × Int32)) → Hp → Prop} (e_64 : ∀ (h0 : Nat) (l1 : Int32) (l2 : Int32) (σ : Hp), KE ((h0, l1, l2)) σ → G E X 0 0 64 [(0, tR (some (h0))), (1, tI (l1)), (2, tI (l2))] [] σ) (h0 : Nat) (l1 : Int32) (l2 : Int32) (l3 : Int32) (σ : Hp) (x : (Nat × Int32 × Int32 × Int32) ⊕ ((Nat × Int32 × Int32))) (σ1 : Hp) (h : s_X9_few_b35 h0 l1 l2 l3 σ = some (x, σ1)) (hI : ∀ v, x = Sum.inl v → (fun (v : Nat × Int32 × Int32 × Int32) (σ : Hp) => G E X 0 0 35 [(0, tR (some ((v.1)))), (1, tI ((v.2.1))), (2, tI ((v.2.2.1))), (3, tI ((v.2.2.2)))] [] σ) v σ1) (hO : ∀ e, x = Sum.inr e → KE e σ1) : G E X 0 0 35 [(0, tR (some (h0))), (1, tI (l1)), (2, tI (l2)), (3, tI (l3))] [] σ := by
  unfold s_X9_few_b35 at h
  refine g_iload_n (pc := 35) C 3 3 dX9_few_35 rfl rfl ?_
  refine g_bipush (v := 21) (pc := 36) C dX9_few_36 (by decide) ?_
  refine g_icmp_ge (pc := 38) C 64 dX9_few_38 (by decide) (fun c3 => ?_) (fun c3 => ?_)
  · have h := zif_t c3 h
    refine g_sub [0, 1, 2] (lm' := [(0, tR (some (h0))), (1, tI (l1)), (2, tI (l2))]) rfl ?_
    obtain ⟨rfl, rfl⟩ := zsome h
    exact e_64 _ _ _ _ (hO _ rfl)
  · have h := zif_f c3 h
    refine g_aload_n (pc := 41) C 0 0 dX9_few_41 rfl rfl ?_
    obtain ⟨r1, hvr1, h⟩ := zbind h
    refine g_getR (N := 58) (pc := 42) C ck_9 hvr1 rfl rfl fl_X9_125 dX9_few_42 ?_
    refine g_iload_n (pc := 45) C 3 3 dX9_few_45 rfl rfl ?_
    refine g_iload_n (pc := 46) C 3 3 dX9_few_46 rfl rfl ?_
    refine g_if_ne (pc := 47) C 56 dX9_few_47 (by decide) (fun c2 => ?_) (fun c2 => ?_)
    · have h := zif_f c2 h
      refine g_lconst (v := 0) (pc := 56) C dX9_few_56 (by decide) ?_
      exact w_X9_few_j57 hE C hxn e_64 _ _ _ _ _ _ _ _ _ _ h hI hO
    · have h := zif_t c2 h
      refine g_ldc2 (v := 1000000000000) (pc := 50) C dX9_few_50 kl_X9_500 ?_
      refine g_goto (pc := 53) C 57 dX9_few_53 (by decide) ?_
      exact w_X9_few_j57 hE C hxn e_64 _ _ _ _ _ _ _ _ _ _ h hI hO
theorem w_X9_few_l35 {E : E0} (hE : EOK E) {X : X0} (C : XOK E X cX9_few RX9 8 (some .long) rm_X9_few) (hxn : xn X = (rm_X9_few.cells, rm_X9_few.slots)) {KE : ((Nat × Int32 × Int32)) → Hp → Prop} (e_64 : ∀ (h0 : Nat) (l1 : Int32) (l2 : Int32) (σ : Hp), KE ((h0, l1, l2)) σ → G E X 0 0 64 [(0, tR (some (h0))), (1, tI (l1)), (2, tI (l2))] [] σ) {v : Nat × Int32 × Int32 × Int32} {σ : Hp} {e : (Nat × Int32 × Int32)} {σ1 : Hp} (h : s_X9_few_l35 v σ = some (e, σ1)) (hO : KE e σ1) : G E X 0 0 35 [(0, tR (some ((v.1)))), (1, tI ((v.2.1))), (2, tI ((v.2.2.1))), (3, tI ((v.2.2.2)))] [] σ := loopF_ind (P := fun (v : Nat × Int32 × Int32 × Int32) (σ : Hp) => G E X 0 0 35 [(0, tR (some ((v.1)))), (1, tI ((v.2.1))), (2, tI ((v.2.2.1))), (3, tI ((v.2.2.2)))] [] σ) (KE := KE) (fun v σ x σ1 h hI hO => w_X9_few_b35 hE C hxn e_64 (v.1) (v.2.1) (v.2.2.1) (v.2.2.2) σ x σ1 h hI hO) v σ e σ1 h hO
noncomputable def s_X9_few_b86 (h0 : Nat) (l1 : Int32) (l2 : Int32) (l3 : Int32) (l4 : Int32) (l5 : Int32) (σ : Hp) : Option (((Nat × Int32 × Int32 × Int32 × Int32 × Int32) ⊕ ((Nat × Int32 × Int32 × Int32 × Int32))) × Hp) :=
  if l5 < 0 then
    some (Sum.inr ((h0), (l1), (l2), (l3), (l4)), σ)
  else
    (rdR 9 σ h0 46).bind fun r1 =>
    (r1).bind fun a2 =>
    (ldJ σ a2 (l5)).bind fun v3 =>
    (rdR 9 σ h0 46).bind fun r4 =>
    (r4).bind fun a5 =>
    (stJ σ a5 (l5) ((v3 * (Int32.toInt64 (10 - l3 : Int32))) / 10)).bind fun σ6 =>
    (rdR 9 σ6 h0 46).bind fun r7 =>
    (r7).bind fun a8 =>
    (ldJ σ6 a8 (l5 + 1)).bind fun v9 =>
    (stJ σ6 a8 (l5 + 1) (v9 + ((v3 * (Int32.toInt64 (l3 : Int32))) / 10))).bind fun σ10 =>
    some (Sum.inl ((h0), (l1), (l2), (l3), (l4), (l5 + (-1))), σ10)
noncomputable def s_X9_few_l86 : (Nat × Int32 × Int32 × Int32 × Int32 × Int32) → Hp → Option (((Nat × Int32 × Int32 × Int32 × Int32)) × Hp) := loopF (fun v => s_X9_few_b86 (v.1) (v.2.1) (v.2.2.1) (v.2.2.2.1) (v.2.2.2.2.1) (v.2.2.2.2.2))
set_option maxRecDepth 100000 in
theorem w_X9_few_b86 {E : E0} (hE : EOK E) {X : X0} (C : XOK E X cX9_few RX9 8 (some .long) rm_X9_few) (hxn : xn X = (rm_X9_few.cells, rm_X9_few.slots)) {KE : ((Nat × Int32 × Int32 × Int32 × Int32)) → Hp → Prop} (e_146 : ∀ (h0 : Nat) (l1 : Int32) (l2 : Int32) (l3 : Int32) (l4 : Int32) (σ : Hp), KE ((h0, l1, l2, l3, l4)) σ → G E X 0 0 146 [(0, tR (some (h0))), (1, tI (l1)), (2, tI (l2)), (3, tI (l3)), (4, tI (l4))] [] σ) (h0 : Nat) (l1 : Int32) (l2 : Int32) (l3 : Int32) (l4 : Int32) (l5 : Int32) (σ : Hp) (x : (Nat × Int32 × Int32 × Int32 × Int32 × Int32) ⊕ ((Nat × Int32 × Int32 × Int32 × Int32))) (σ1 : Hp) (h : s_X9_few_b86 h0 l1 l2 l3 l4 l5 σ = some (x, σ1)) (hI : ∀ v, x = Sum.inl v → (fun (v : Nat × Int32 × Int32 × Int32 × Int32 × Int32) (σ : Hp) => G E X 0 0 86 [(0, tR (some ((v.1)))), (1, tI ((v.2.1))), (2, tI ((v.2.2.1))), (3, tI ((v.2.2.2.1))), (4, tI ((v.2.2.2.2.1))), (5, tI ((v.2.2.2.2.2)))] [] σ) v σ1) (hO : ∀ e, x = Sum.inr e → KE e σ1) : G E X 0 0 86 [(0, tR (some (h0))), (1, tI (l1)), (2, tI (l2)), (3, tI (l3)), (4, tI (l4)), (5, tI (l5))] [] σ := by
  unfold s_X9_few_b86 at h
  refine g_iload (pc := 86) C 5 dX9_few_86 rfl ?_
  refine g_if_lt (pc := 88) C 146 dX9_few_88 (by decide) (fun c11 => ?_) (fun c11 => ?_)
  · have h := zif_t c11 h
    refine g_sub [0, 1, 2, 3, 4] (lm' := [(0, tR (some (h0))), (1, tI (l1)), (2, tI (l2)), (3, tI (l3)), (4, tI (l4))]) rfl ?_
    obtain ⟨rfl, rfl⟩ := zsome h
    exact e_146 _ _ _ _ _ _ (hO _ rfl)
  · have h := zif_f c11 h
    refine g_aload_n (pc := 91) C 0 0 dX9_few_91 rfl rfl ?_
    obtain ⟨r1, hvr1, h⟩ := zbind h
    refine g_getR (N := 58) (pc := 92) C ck_9 hvr1 rfl rfl fl_X9_125 dX9_few_92 ?_
    refine g_iload (pc := 95) C 5 dX9_few_95 rfl ?_
    obtain ⟨a2, hqa2, h9⟩ := zbind h
    clear h
    subst hqa2
    have h := h9
    clear h9
    obtain ⟨v3, hvv3, h⟩ := zbind h
    refine g_lald (pc := 97) C hvv3 dX9_few_97 ?_
    refine g_lstore (lm' := [(6, tJ (v3)), (0, tR (some (h0))), (1, tI (l1)), (2, tI (l2)), (3, tI (l3)), (4, tI (l4)), (5, tI (l5))]) (pc := 98) C dX9_few_98 (by decide) rfl ?_
    refine g_aload_n (pc := 100) C 0 1 dX9_few_100 rfl rfl ?_
    obtain ⟨r4, hvr4, h⟩ := zbind h
    refine g_getR (N := 58) (pc := 101) C ck_9 hvr4 rfl rfl fl_X9_125 dX9_few_101 ?_
    refine g_iload (pc := 104) C 6 dX9_few_104 rfl ?_
    refine g_lload (pc := 106) C 0 dX9_few_106 rfl ?_
    refine g_bipush (v := 10) (pc := 108) C dX9_few_108 (by decide) ?_
    refine g_iload_n (pc := 110) C 3 4 dX9_few_110 rfl rfl ?_
    refine g_isub (pc := 111) C dX9_few_111 ?_
    refine g_i2l (pc := 112) C dX9_few_112 ?_
    refine g_lmul (pc := 113) C dX9_few_113 ?_
    refine g_ldc2 (v := 10) (pc := 114) C dX9_few_114 kl_X9_237 ?_
    refine g_ldiv (pc := 117) C dX9_few_117 (by decide) ?_
    obtain ⟨a5, hqa5, h9⟩ := zbind h
    clear h
    subst hqa5
    have h := h9
    clear h9
    obtain ⟨σ6, hvσ6, h⟩ := zbind h
    refine g_last (pc := 118) C hvσ6 dX9_few_118 ?_
    refine g_aload_n (pc := 119) C 0 1 dX9_few_119 rfl rfl ?_
    obtain ⟨r7, hvr7, h⟩ := zbind h
    refine g_getR (N := 58) (pc := 120) C ck_9 hvr7 rfl rfl fl_X9_125 dX9_few_120 ?_
    refine g_iload (pc := 123) C 6 dX9_few_123 rfl ?_
    refine g_iconst (v := 1) (pc := 125) C dX9_few_125 (by decide) ?_
    refine g_iadd (pc := 126) C dX9_few_126 ?_
    refine g_dup2 (pc := 127) C dX9_few_127 rfl rfl ?_
    obtain ⟨a8, hqa8, h9⟩ := zbind h
    clear h
    subst hqa8
    have h := h9
    clear h9
    obtain ⟨v9, hvv9, h⟩ := zbind h
    refine g_lald (pc := 128) C hvv9 dX9_few_128 ?_
    refine g_lload (pc := 129) C 0 dX9_few_129 rfl ?_
    refine g_iload_n (pc := 131) C 3 4 dX9_few_131 rfl rfl ?_
    refine g_i2l (pc := 132) C dX9_few_132 ?_
    refine g_lmul (pc := 133) C dX9_few_133 ?_
    refine g_ldc2 (v := 10) (pc := 134) C dX9_few_134 kl_X9_237 ?_
    refine g_ldiv (pc := 137) C dX9_few_137 (by decide) ?_
    refine g_ladd (pc := 138) C dX9_few_138 ?_
    obtain ⟨σ10, hvσ10, h⟩ := zbind h
    refine g_last (pc := 139) C hvσ10 dX9_few_139 ?_
    refine g_iinc (lm' := [(5, tI (l5 + (-1))), (6, tJ (v3)), (0, tR (some (h0))), (1, tI (l1)), (2, tI (l2)), (3, tI (l3)), (4, tI (l4))]) (v := l5 + (-1)) (pc := 140) C 6 dX9_few_140 rfl rfl (by decide) rfl ?_
    refine g_goto (pc := 143) C 86 dX9_few_143 (by decide) ?_
    refine g_sub [2, 3, 4, 5, 6, 0] (lm' := [(0, tR (some (h0))), (1, tI (l1)), (2, tI (l2)), (3, tI (l3)), (4, tI (l4)), (5, tI (l5 + (-1)))]) rfl ?_
    obtain ⟨rfl, rfl⟩ := zsome h
    exact hI _ rfl
theorem w_X9_few_l86 {E : E0} (hE : EOK E) {X : X0} (C : XOK E X cX9_few RX9 8 (some .long) rm_X9_few) (hxn : xn X = (rm_X9_few.cells, rm_X9_few.slots)) {KE : ((Nat × Int32 × Int32 × Int32 × Int32)) → Hp → Prop} (e_146 : ∀ (h0 : Nat) (l1 : Int32) (l2 : Int32) (l3 : Int32) (l4 : Int32) (σ : Hp), KE ((h0, l1, l2, l3, l4)) σ → G E X 0 0 146 [(0, tR (some (h0))), (1, tI (l1)), (2, tI (l2)), (3, tI (l3)), (4, tI (l4))] [] σ) {v : Nat × Int32 × Int32 × Int32 × Int32 × Int32} {σ : Hp} {e : (Nat × Int32 × Int32 × Int32 × Int32)} {σ1 : Hp} (h : s_X9_few_l86 v σ = some (e, σ1)) (hO : KE e σ1) : G E X 0 0 86 [(0, tR (some ((v.1)))), (1, tI ((v.2.1))), (2, tI ((v.2.2.1))), (3, tI ((v.2.2.2.1))), (4, tI ((v.2.2.2.2.1))), (5, tI ((v.2.2.2.2.2)))] [] σ := loopF_ind (P := fun (v : Nat × Int32 × Int32 × Int32 × Int32 × Int32) (σ : Hp) => G E X 0 0 86 [(0, tR (some ((v.1)))), (1, tI ((v.2.1))), (2, tI ((v.2.2.1))), (3, tI ((v.2.2.2.1))), (4, tI ((v.2.2.2.2.1))), (5, tI ((v.2.2.2.2.2)))] [] σ) (KE := KE) (fun v σ x σ1 h hI hO => w_X9_few_b86 hE C hxn e_146 (v.1) (v.2.1) (v.2.2.1) (v.2.2.2.1) (v.2.2.2.2.1) (v.2.2.2.2.2) σ x σ1 h hI hO) v σ e σ1 h hO
noncomputable def s_X9_few_b75 (h0 : Nat) (l1 : Int32) (l2 : Int32) (l3 : Int32) (l4 : Int32) (σ : Hp) : Option (((Nat × Int32 × Int32 × Int32 × Int32) ⊕ ((Nat × Int32))) × Hp) :=
  if l2 ≤ l4 then
    some (Sum.inr ((h0), (l1)), σ)
  else
    cb (s_X9_few_l86 ((h0), (l1), (l2), (l3), (l4), (l1 - 1)) σ) fun e9 σ8 =>
    match e9 with
    | (h1, l12, l23, l34, l45) =>
      some (Sum.inl ((h1), (l12), (l23), (l34), (l45 + 1)), σ8)
noncomputable def s_X9_few_l75 : (Nat × Int32 × Int32 × Int32 × Int32) → Hp → Option (((Nat × Int32)) × Hp) := loopF (fun v => s_X9_few_b75 (v.1) (v.2.1) (v.2.2.1) (v.2.2.2.1) (v.2.2.2.2))
set_option maxRecDepth 100000 in
theorem w_X9_few_b75 {E : E0} (hE : EOK E) {X : X0} (C : XOK E X cX9_few RX9 8 (some .long) rm_X9_few) (hxn : xn X = (rm_X9_few.cells, rm_X9_few.slots)) {KE : ((Nat × Int32)) → Hp → Prop} (e_152 : ∀ (h0 : Nat) (l1 : Int32) (σ : Hp), KE ((h0, l1)) σ → G E X 0 0 152 [(0, tR (some (h0))), (1, tI (l1))] [] σ) (h0 : Nat) (l1 : Int32) (l2 : Int32) (l3 : Int32) (l4 : Int32) (σ : Hp) (x : (Nat × Int32 × Int32 × Int32 × Int32) ⊕ ((Nat × Int32))) (σ1 : Hp) (h : s_X9_few_b75 h0 l1 l2 l3 l4 σ = some (x, σ1)) (hI : ∀ v, x = Sum.inl v → (fun (v : Nat × Int32 × Int32 × Int32 × Int32) (σ : Hp) => G E X 0 0 75 [(0, tR (some ((v.1)))), (1, tI ((v.2.1))), (2, tI ((v.2.2.1))), (3, tI ((v.2.2.2.1))), (4, tI ((v.2.2.2.2)))] [] σ) v σ1) (hO : ∀ e, x = Sum.inr e → KE e σ1) : G E X 0 0 75 [(0, tR (some (h0))), (1, tI (l1)), (2, tI (l2)), (3, tI (l3)), (4, tI (l4))] [] σ := by
  unfold s_X9_few_b75 at h
  refine g_iload (pc := 75) C 4 dX9_few_75 rfl ?_
  refine g_iload_n (pc := 77) C 2 2 dX9_few_77 rfl rfl ?_
  refine g_icmp_ge (pc := 78) C 152 dX9_few_78 (by decide) (fun c10 => ?_) (fun c10 => ?_)
  · have h := zif_t c10 h
    refine g_sub [0, 1] (lm' := [(0, tR (some (h0))), (1, tI (l1))]) rfl ?_
    obtain ⟨rfl, rfl⟩ := zsome h
    exact e_152 _ _ _ (hO _ rfl)
  · have h := zif_f c10 h
    refine g_iload_n (pc := 81) C 1 1 dX9_few_81 rfl rfl ?_
    refine g_iconst (v := 1) (pc := 82) C dX9_few_82 (by decide) ?_
    refine g_isub (pc := 83) C dX9_few_83 ?_
    refine g_istore (lm' := [(5, tI (l1 - 1)), (0, tR (some (h0))), (1, tI (l1)), (2, tI (l2)), (3, tI (l3)), (4, tI (l4))]) (pc := 84) C dX9_few_84 (by decide) rfl ?_
    refine g_sub [1, 2, 3, 4, 5, 0] (lm' := [(0, tR (some (h0))), (1, tI (l1)), (2, tI (l2)), (3, tI (l3)), (4, tI (l4)), (5, tI (l1 - 1))]) rfl ?_
    obtain ⟨KQ, hKQ, e9, σ8, hle9, h⟩ := zcbK h
    refine w_X9_few_l86 (KE := KQ) hE C hxn ?_ hle9 h
    · intro h1 l12 l23 l34 l45 σ6 h
      have h := (hKQ _ _).mp h
      refine g_iinc (lm' := [(4, tI (l45 + 1)), (0, tR (some (h1))), (1, tI (l12)), (2, tI (l23)), (3, tI (l34))]) (v := l45 + 1) (pc := 146) C 4 dX9_few_146 rfl rfl (by decide) rfl ?_
      refine g_goto (pc := 149) C 75 dX9_few_149 (by decide) ?_
      refine g_sub [1, 2, 3, 4, 0] (lm' := [(0, tR (some (h1))), (1, tI (l12)), (2, tI (l23)), (3, tI (l34)), (4, tI (l45 + 1))]) rfl ?_
      obtain ⟨rfl, rfl⟩ := zsome h
      exact hI _ rfl
theorem w_X9_few_l75 {E : E0} (hE : EOK E) {X : X0} (C : XOK E X cX9_few RX9 8 (some .long) rm_X9_few) (hxn : xn X = (rm_X9_few.cells, rm_X9_few.slots)) {KE : ((Nat × Int32)) → Hp → Prop} (e_152 : ∀ (h0 : Nat) (l1 : Int32) (σ : Hp), KE ((h0, l1)) σ → G E X 0 0 152 [(0, tR (some (h0))), (1, tI (l1))] [] σ) {v : Nat × Int32 × Int32 × Int32 × Int32} {σ : Hp} {e : (Nat × Int32)} {σ1 : Hp} (h : s_X9_few_l75 v σ = some (e, σ1)) (hO : KE e σ1) : G E X 0 0 75 [(0, tR (some ((v.1)))), (1, tI ((v.2.1))), (2, tI ((v.2.2.1))), (3, tI ((v.2.2.2.1))), (4, tI ((v.2.2.2.2)))] [] σ := loopF_ind (P := fun (v : Nat × Int32 × Int32 × Int32 × Int32) (σ : Hp) => G E X 0 0 75 [(0, tR (some ((v.1)))), (1, tI ((v.2.1))), (2, tI ((v.2.2.1))), (3, tI ((v.2.2.2.1))), (4, tI ((v.2.2.2.2)))] [] σ) (KE := KE) (fun v σ x σ1 h hI hO => w_X9_few_b75 hE C hxn e_152 (v.1) (v.2.1) (v.2.2.1) (v.2.2.2.1) (v.2.2.2.2) σ x σ1 h hI hO) v σ e σ1 h hO
noncomputable def s_X9_few_b158 (h0 : Nat) (l1 : Int32) (l4 : Int64) (l6 : Int32) (σ : Hp) : Option (((Nat × Int32 × Int64 × Int32) ⊕ (Int64)) × Hp) :=
  if l1 ≤ l6 then
    some (Sum.inr (l4), σ)
  else
    (rdR 9 σ h0 46).bind fun r1 =>
    (r1).bind fun a2 =>
    (ldJ σ a2 (l6)).bind fun v3 =>
    some (Sum.inl ((h0), (l1), (l4 + v3), (l6 + 1)), σ)
noncomputable def s_X9_few_l158 : (Nat × Int32 × Int64 × Int32) → Hp → Option ((Int64) × Hp) := loopF (fun v => s_X9_few_b158 (v.1) (v.2.1) (v.2.2.1) (v.2.2.2))
set_option maxRecDepth 100000 in
theorem w_X9_few_b158 {E : E0} (hE : EOK E) {X : X0} (C : XOK E X cX9_few RX9 8 (some .long) rm_X9_few) (hxn : xn X = (rm_X9_few.cells, rm_X9_few.slots)) {KE : (Int64) → Hp → Prop} (e_ret : ∀ (r : Int64) (σ : Hp), KE (r) σ → xd X = (some (tJ r), σ)) (h0 : Nat) (l1 : Int32) (l4 : Int64) (l6 : Int32) (σ : Hp) (x : (Nat × Int32 × Int64 × Int32) ⊕ (Int64)) (σ1 : Hp) (h : s_X9_few_b158 h0 l1 l4 l6 σ = some (x, σ1)) (hI : ∀ v, x = Sum.inl v → (fun (v : Nat × Int32 × Int64 × Int32) (σ : Hp) => G E X 0 0 158 [(0, tR (some ((v.1)))), (1, tI ((v.2.1))), (4, tJ ((v.2.2.1))), (6, tI ((v.2.2.2)))] [] σ) v σ1) (hO : ∀ e, x = Sum.inr e → KE e σ1) : G E X 0 0 158 [(0, tR (some (h0))), (1, tI (l1)), (4, tJ (l4)), (6, tI (l6))] [] σ := by
  unfold s_X9_few_b158 at h
  refine g_iload (pc := 158) C 3 dX9_few_158 rfl ?_
  refine g_iload_n (pc := 160) C 1 1 dX9_few_160 rfl rfl ?_
  refine g_icmp_ge (pc := 161) C 182 dX9_few_161 (by decide) (fun c4 => ?_) (fun c4 => ?_)
  · have h := zif_t c4 h
    refine g_lload (pc := 182) C 2 dX9_few_182 rfl ?_
    obtain ⟨rfl, rfl⟩ := zsome h
    exact g_lret (pc := 184) C rfl (e_ret _ _ (hO _ rfl)) (by rw [hxn]; rfl) (by rw [hxn]; rfl) dX9_few_184
  · have h := zif_f c4 h
    refine g_lload (pc := 164) C 2 dX9_few_164 rfl ?_
    refine g_aload_n (pc := 166) C 0 0 dX9_few_166 rfl rfl ?_
    obtain ⟨r1, hvr1, h⟩ := zbind h
    refine g_getR (N := 58) (pc := 167) C ck_9 hvr1 rfl rfl fl_X9_125 dX9_few_167 ?_
    refine g_iload (pc := 170) C 3 dX9_few_170 rfl ?_
    obtain ⟨a2, hqa2, h9⟩ := zbind h
    clear h
    subst hqa2
    have h := h9
    clear h9
    obtain ⟨v3, hvv3, h⟩ := zbind h
    refine g_lald (pc := 172) C hvv3 dX9_few_172 ?_
    refine g_ladd (pc := 173) C dX9_few_173 ?_
    refine g_lstore (lm' := [(4, tJ (l4 + v3)), (0, tR (some (h0))), (1, tI (l1)), (6, tI (l6))]) (pc := 174) C dX9_few_174 (by decide) rfl ?_
    refine g_iinc (lm' := [(6, tI (l6 + 1)), (4, tJ (l4 + v3)), (0, tR (some (h0))), (1, tI (l1))]) (v := l6 + 1) (pc := 176) C 3 dX9_few_176 rfl rfl (by decide) rfl ?_
    refine g_goto (pc := 179) C 158 dX9_few_179 (by decide) ?_
    refine g_sub [2, 3, 1, 0] (lm' := [(0, tR (some (h0))), (1, tI (l1)), (4, tJ (l4 + v3)), (6, tI (l6 + 1))]) rfl ?_
    obtain ⟨rfl, rfl⟩ := zsome h
    exact hI _ rfl
theorem w_X9_few_l158 {E : E0} (hE : EOK E) {X : X0} (C : XOK E X cX9_few RX9 8 (some .long) rm_X9_few) (hxn : xn X = (rm_X9_few.cells, rm_X9_few.slots)) {KE : (Int64) → Hp → Prop} (e_ret : ∀ (r : Int64) (σ : Hp), KE (r) σ → xd X = (some (tJ r), σ)) {v : Nat × Int32 × Int64 × Int32} {σ : Hp} {e : Int64} {σ1 : Hp} (h : s_X9_few_l158 v σ = some (e, σ1)) (hO : KE e σ1) : G E X 0 0 158 [(0, tR (some ((v.1)))), (1, tI ((v.2.1))), (4, tJ ((v.2.2.1))), (6, tI ((v.2.2.2)))] [] σ := loopF_ind (P := fun (v : Nat × Int32 × Int64 × Int32) (σ : Hp) => G E X 0 0 158 [(0, tR (some ((v.1)))), (1, tI ((v.2.1))), (4, tJ ((v.2.2.1))), (6, tI ((v.2.2.2)))] [] σ) (KE := KE) (fun v σ x σ1 h hI hO => w_X9_few_b158 hE C hxn e_ret (v.1) (v.2.1) (v.2.2.1) (v.2.2.2) σ x σ1 h hI hO) v σ e σ1 h hO
noncomputable def s_X9_few (h0 : Nat) (p1 : Int32) (p2 : Int32) (σ : Hp) : Option (Int64 × Hp) :=
  (wrI 9 σ h0 0 (0)).bind fun σ1 =>
  cb (s_X9_in (Int32.toInt64 (p1 : Int32)) (1) (20) σ1) fun v3 σ2 =>
  if v3 = 0 then
    some (((-1)), σ2)
  else
    cb (s_X9_in (Int32.toInt64 (p2 : Int32)) (0) (99) σ2) fun v5 σ4 =>
    if v5 = 0 then
      some (((-1)), σ4)
    else
      cb (s_X9_few_l35 ((h0), (p1), (p2), (0)) σ4) fun e25 σ24 =>
      match e25 with
      | (h6, l17, l28) =>
        (rdR 9 σ24 h6 3).bind fun r10 =>
        (r10).bind fun a11 =>
        (ldI 11 σ24 a11 (8)).bind fun v12 =>
        cb (s_X9_few_l75 ((h6), (l17), (l28), (v12), (0)) σ24) fun e22 σ21 =>
        match e22 with
        | (h13, l114) =>
          cb (s_X9_few_l158 ((h13), (l114), (0), (0)) σ21) fun r17 σ18 =>
          some (r17, σ18)
set_option maxRecDepth 100000 in
theorem c_X9_few {E : E0} (hE : EOK E) {h0 : Nat} {p1 : Int32} {p2 : Int32} {σ σ1 : Hp} {r : Int64} (h : s_X9_few h0 p1 p2 σ = some (r, σ1)) : CT E yX9_few (.code yX9_few cX9_few 8 (some .long)) rm_X9_few [tR (some (h0)), tI (p1), tI (p2)] σ (some (tJ r)) σ1 := by
  refine CT.mk hE (by decide +kernel) (Nat.le_of_ble_eq_true rfl) [(0, tR (some (h0))), (1, tI (p1)), (2, tI (p2))] rfl (fun X C hin hx hxn => ?_)
  have C : XOK E X cX9_few RX9 8 (some .long) rm_X9_few := C
  unfold s_X9_few at h
  refine g_aload_n (pc := 0) C 0 0 dX9_few_0 rfl rfl ?_
  refine g_iconst (v := 0) (pc := 1) C dX9_few_1 (by decide) ?_
  obtain ⟨σ1, hvσ1, h⟩ := zbind h
  refine g_putI (N := 58) (pc := 2) C ⟨ck_9, rfl, tyX9_ok⟩ hvσ1 rfl fl_X9_161 rfl rfl dX9_few_2 ?_
  refine g_iload_n (pc := 5) C 1 1 dX9_few_5 rfl rfl ?_
  refine g_i2l (pc := 6) C dX9_few_6 ?_
  refine g_lconst (v := 1) (pc := 7) C dX9_few_7 (by decide) ?_
  refine g_ldc2 (v := 20) (pc := 8) C dX9_few_8 kl_X9_304 ?_
  obtain ⟨v3, σ2, hvσ2, h⟩ := zcb h
  refine g_callS (pc := 11) (av := [tJ (Int32.toInt64 (p1 : Int32)), tJ (1), tJ (20)]) C (c_X9_in hE hvσ2) ys_X9_in ml_X9_181 rfl (rf_of (by decide)) rfl (Nat.le_of_ble_eq_true rfl) dX9_few_11 ?_
  refine g_if_eq (pc := 14) C 29 dX9_few_14 (by decide) (fun c27 => ?_) (fun c27 => ?_)
  · have h := zif_t c27 h
    refine g_ldc2 (v := (-1)) (pc := 29) C dX9_few_29 kl_X9_281 ?_
    obtain ⟨rfl, rfl⟩ := zsome h
    exact g_lret (pc := 32) C rfl hx (by rw [hxn]; rfl) (by rw [hxn]; rfl) dX9_few_32
  · have h := zif_f c27 h
    refine g_iload_n (pc := 17) C 2 2 dX9_few_17 rfl rfl ?_
    refine g_i2l (pc := 18) C dX9_few_18 ?_
    refine g_lconst (v := 0) (pc := 19) C dX9_few_19 (by decide) ?_
    refine g_ldc2 (v := 99) (pc := 20) C dX9_few_20 kl_X9_498 ?_
    obtain ⟨v5, σ4, hvσ4, h⟩ := zcb h
    refine g_callS (pc := 23) (av := [tJ (Int32.toInt64 (p2 : Int32)), tJ (0), tJ (99)]) C (c_X9_in hE hvσ4) ys_X9_in ml_X9_181 rfl (rf_of (by decide)) rfl (Nat.le_of_ble_eq_true rfl) dX9_few_23 ?_
    refine g_if_ne (pc := 26) C 33 dX9_few_26 (by decide) (fun c26 => ?_) (fun c26 => ?_)
    · have h := zif_f c26 h
      refine g_iconst (v := 0) (pc := 33) C dX9_few_33 (by decide) ?_
      refine g_istore_n (lm' := [(3, tI (0)), (0, tR (some (h0))), (1, tI (p1)), (2, tI (p2))]) (pc := 34) C 3 dX9_few_34 rfl (by decide) rfl ?_
      refine g_sub [1, 2, 3, 0] (lm' := [(0, tR (some (h0))), (1, tI (p1)), (2, tI (p2)), (3, tI (0))]) rfl ?_
      obtain ⟨KQ, hKQ, e25, σ24, hle25, h⟩ := zcbK h
      refine w_X9_few_l35 (KE := KQ) hE C hxn ?_ hle25 h
      · intro h6 l17 l28 σ9 h
        have h := (hKQ _ _).mp h
        refine g_aload_n (pc := 64) C 0 0 dX9_few_64 rfl rfl ?_
        obtain ⟨r10, hvr10, h⟩ := zbind h
        refine g_getR (N := 58) (pc := 65) C ck_9 hvr10 rfl rfl fl_X9_13 dX9_few_65 ?_
        refine g_bipush (v := 8) (pc := 68) C dX9_few_68 (by decide) ?_
        obtain ⟨a11, hqa11, h9⟩ := zbind h
        clear h
        subst hqa11
        have h := h9
        clear h9
        obtain ⟨v12, hvv12, h⟩ := zbind h
        refine g_iald (pc := 70) C hvv12 dX9_few_70 ?_
        refine g_istore_n (lm' := [(3, tI (v12)), (0, tR (some (h6))), (1, tI (l17)), (2, tI (l28))]) (pc := 71) C 3 dX9_few_71 rfl (by decide) rfl ?_
        refine g_iconst (v := 0) (pc := 72) C dX9_few_72 (by decide) ?_
        refine g_istore (lm' := [(4, tI (0)), (3, tI (v12)), (0, tR (some (h6))), (1, tI (l17)), (2, tI (l28))]) (pc := 73) C dX9_few_73 (by decide) rfl ?_
        refine g_sub [2, 3, 4, 1, 0] (lm' := [(0, tR (some (h6))), (1, tI (l17)), (2, tI (l28)), (3, tI (v12)), (4, tI (0))]) rfl ?_
        obtain ⟨KQ, hKQ, e22, σ21, hle22, h⟩ := zcbK h
        refine w_X9_few_l75 (KE := KQ) hE C hxn ?_ hle22 h
        · intro h13 l114 σ15 h
          have h := (hKQ _ _).mp h
          refine g_lconst (v := 0) (pc := 152) C dX9_few_152 (by decide) ?_
          refine g_lstore (lm' := [(4, tJ (0)), (0, tR (some (h13))), (1, tI (l114))]) (pc := 153) C dX9_few_153 (by decide) rfl ?_
          refine g_iconst (v := 0) (pc := 155) C dX9_few_155 (by decide) ?_
          refine g_istore (lm' := [(6, tI (0)), (4, tJ (0)), (0, tR (some (h13))), (1, tI (l114))]) (pc := 156) C dX9_few_156 (by decide) rfl ?_
          refine g_sub [2, 3, 1, 0] (lm' := [(0, tR (some (h13))), (1, tI (l114)), (4, tJ (0)), (6, tI (0))]) rfl ?_
          obtain ⟨KQ, hKQ, r17, σ18, hlr17, h⟩ := zcbK h
          refine w_X9_few_l158 (KE := KQ) hE C hxn ?_ hlr17 h
          · intro r17 σ16 h
            have h := (hKQ _ _).mp h
            obtain ⟨rfl, rfl⟩ := zsome h
            exact hx
    · have h := zif_t c26 h
      refine g_ldc2 (v := (-1)) (pc := 29) C dX9_few_29 kl_X9_281 ?_
      obtain ⟨rfl, rfl⟩ := zsome h
      exact g_lret (pc := 32) C rfl hx (by rw [hxn]; rfl) (by rw [hxn]; rfl) dX9_few_32
def rm_X9_compare : Room := { frames := 6, cells := 0, slots := 0, locals := 146 }
noncomputable def s_X9_compare (h0 : Nat) (p1 : Int32) (p2 : Int32) (σ : Hp) : Option (Int32 × Hp) :=
  (wrI 9 σ h0 0 (0)).bind fun σ1 =>
  (ck 9 σ1 h0).bind fun u2 =>
  cb (s_X9_isLaw h0 (p1) σ1) fun v4 σ3 =>
  if v4 = 0 then
    some (((-1)), σ3)
  else
    cb (s_X9_isRoom (Int32.toInt64 (p2 : Int32)) σ3) fun v6 σ5 =>
    if v6 = 0 then
      some (((-1)), σ5)
    else
      (rdR 9 σ5 h0 3).bind fun r7 =>
      (r7).bind fun a8 =>
      (ldI 11 σ5 a8 (6)).bind fun v9 =>
      (rdR 9 σ5 h0 3).bind fun r10 =>
      (r10).bind fun a11 =>
      (stI σ5 a11 (6) (p1)).bind fun σ12 =>
      (ck 9 σ12 h0).bind fun u13 =>
      cb (s_X9_theirsIn h0 (p2) σ12) fun v15 σ14 =>
      (rdR 9 σ14 h0 3).bind fun r16 =>
      (r16).bind fun a17 =>
      (stI σ14 a17 (6) (v9)).bind fun σ18 =>
      some ((v15), σ18)
set_option maxRecDepth 100000 in
theorem c_X9_compare {E : E0} (hE : EOK E) {h0 : Nat} {p1 : Int32} {p2 : Int32} {σ σ1 : Hp} {r : Int32} (h : s_X9_compare h0 p1 p2 σ = some (r, σ1)) : CT E yX9_compare (.code yX9_compare cX9_compare 5 (some .int)) rm_X9_compare [tR (some (h0)), tI (p1), tI (p2)] σ (some (tI r)) σ1 := by
  refine CT.mk hE (by decide +kernel) (Nat.le_of_ble_eq_true rfl) [(0, tR (some (h0))), (1, tI (p1)), (2, tI (p2))] rfl (fun X C hin hx hxn => ?_)
  have C : XOK E X cX9_compare RX9 5 (some .int) rm_X9_compare := C
  unfold s_X9_compare at h
  refine g_aload_n (pc := 0) C 0 0 dX9_compare_0 rfl rfl ?_
  refine g_iconst (v := 0) (pc := 1) C dX9_compare_1 (by decide) ?_
  obtain ⟨σ1, hvσ1, h⟩ := zbind h
  refine g_putI (N := 58) (pc := 2) C ⟨ck_9, rfl, tyX9_ok⟩ hvσ1 rfl fl_X9_161 rfl rfl dX9_compare_2 ?_
  refine g_aload_n (pc := 5) C 0 0 dX9_compare_5 rfl rfl ?_
  refine g_iload_n (pc := 6) C 1 1 dX9_compare_6 rfl rfl ?_
  obtain ⟨u2, hvu2, h⟩ := zbind h
  obtain ⟨v4, σ3, hvσ3, h⟩ := zcb h
  refine g_callV (pc := 7) (av := [tI (p1)]) C (c_X9_isLaw hE hvσ3) yv_X9_isLaw ml_X9_401 ck_9 (zopt hvu2).1 rfl (rf_of (by decide)) rfl (Nat.le_of_ble_eq_true rfl) dX9_compare_7 ?_
  refine g_if_eq (pc := 10) C 21 dX9_compare_10 (by decide) (fun c20 => ?_) (fun c20 => ?_)
  · have h := zif_t c20 h
    refine g_iconst (v := (-1)) (pc := 21) C dX9_compare_21 (by decide) ?_
    obtain ⟨rfl, rfl⟩ := zsome h
    exact g_iret (pc := 22) C rfl hx (by rw [hxn]; rfl) (by rw [hxn]; rfl) dX9_compare_22
  · have h := zif_f c20 h
    refine g_iload_n (pc := 13) C 2 2 dX9_compare_13 rfl rfl ?_
    refine g_i2l (pc := 14) C dX9_compare_14 ?_
    obtain ⟨v6, σ5, hvσ5, h⟩ := zcb h
    refine g_callS (pc := 15) (av := [tJ (Int32.toInt64 (p2 : Int32))]) C (c_X9_isRoom hE hvσ5) ys_X9_isRoom ml_X9_190 rfl (rf_of (by decide)) rfl (Nat.le_of_ble_eq_true rfl) dX9_compare_15 ?_
    refine g_if_ne (pc := 18) C 23 dX9_compare_18 (by decide) (fun c19 => ?_) (fun c19 => ?_)
    · have h := zif_f c19 h
      refine g_aload_n (pc := 23) C 0 0 dX9_compare_23 rfl rfl ?_
      obtain ⟨r7, hvr7, h⟩ := zbind h
      refine g_getR (N := 58) (pc := 24) C ck_9 hvr7 rfl rfl fl_X9_13 dX9_compare_24 ?_
      refine g_bipush (v := 6) (pc := 27) C dX9_compare_27 (by decide) ?_
      obtain ⟨a8, hqa8, h9⟩ := zbind h
      clear h
      subst hqa8
      have h := h9
      clear h9
      obtain ⟨v9, hvv9, h⟩ := zbind h
      refine g_iald (pc := 29) C hvv9 dX9_compare_29 ?_
      refine g_istore_n (lm' := [(3, tI (v9)), (0, tR (some (h0))), (1, tI (p1)), (2, tI (p2))]) (pc := 30) C 3 dX9_compare_30 rfl (by decide) rfl ?_
      refine g_aload_n (pc := 31) C 0 1 dX9_compare_31 rfl rfl ?_
      obtain ⟨r10, hvr10, h⟩ := zbind h
      refine g_getR (N := 58) (pc := 32) C ck_9 hvr10 rfl rfl fl_X9_13 dX9_compare_32 ?_
      refine g_bipush (v := 6) (pc := 35) C dX9_compare_35 (by decide) ?_
      refine g_iload_n (pc := 37) C 1 2 dX9_compare_37 rfl rfl ?_
      obtain ⟨a11, hqa11, h9⟩ := zbind h
      clear h
      subst hqa11
      have h := h9
      clear h9
      obtain ⟨σ12, hvσ12, h⟩ := zbind h
      refine g_iast (pc := 38) C hvσ12 dX9_compare_38 ?_
      refine g_aload_n (pc := 39) C 0 1 dX9_compare_39 rfl rfl ?_
      refine g_iload_n (pc := 40) C 2 3 dX9_compare_40 rfl rfl ?_
      obtain ⟨u13, hvu13, h⟩ := zbind h
      obtain ⟨v15, σ14, hvσ14, h⟩ := zcb h
      refine g_callV (pc := 41) (av := [tI (p2)]) C (c_X9_theirsIn hE hvσ14) yv_X9_theirsIn ml_X9_225 ck_9 (zopt hvu13).1 rfl (rf_of (by decide)) rfl (Nat.le_of_ble_eq_true rfl) dX9_compare_41 ?_
      refine g_istore (lm' := [(4, tI (v15)), (3, tI (v9)), (0, tR (some (h0))), (1, tI (p1)), (2, tI (p2))]) (pc := 44) C dX9_compare_44 (by decide) rfl ?_
      refine g_aload_n (pc := 46) C 0 2 dX9_compare_46 rfl rfl ?_
      obtain ⟨r16, hvr16, h⟩ := zbind h
      refine g_getR (N := 58) (pc := 47) C ck_9 hvr16 rfl rfl fl_X9_13 dX9_compare_47 ?_
      refine g_bipush (v := 6) (pc := 50) C dX9_compare_50 (by decide) ?_
      refine g_iload_n (pc := 52) C 3 1 dX9_compare_52 rfl rfl ?_
      obtain ⟨a17, hqa17, h9⟩ := zbind h
      clear h
      subst hqa17
      have h := h9
      clear h9
      obtain ⟨σ18, hvσ18, h⟩ := zbind h
      refine g_iast (pc := 53) C hvσ18 dX9_compare_53 ?_
      refine g_iload (pc := 54) C 0 dX9_compare_54 rfl ?_
      obtain ⟨rfl, rfl⟩ := zsome h
      exact g_iret (pc := 56) C rfl hx (by rw [hxn]; rfl) (by rw [hxn]; rfl) dX9_compare_56
    · have h := zif_t c19 h
      refine g_iconst (v := (-1)) (pc := 21) C dX9_compare_21 (by decide) ?_
      obtain ⟨rfl, rfl⟩ := zsome h
      exact g_iret (pc := 22) C rfl hx (by rw [hxn]; rfl) (by rw [hxn]; rfl) dX9_compare_22
def rm_X9_readSum : Room := { frames := 7, cells := 0, slots := 0, locals := 151 }
noncomputable def s_X9_readSum_j22 (h0 : Nat) (l1 : Int32) (σ : Hp) : Option (Unit × Hp) :=
  (rdR 9 σ h0 49).bind fun r1 =>
  (rdI 9 σ h0 23).bind fun v2 =>
  (r1).bind fun a3 =>
  (stI σ a3 (l1 + 1) (v2)).bind fun σ4 =>
  some ((), σ4)
set_option maxRecDepth 100000 in
theorem w_X9_readSum_j22 {E : E0} (hE : EOK E) {X : X0} (C : XOK E X cX9_readSum RX9 2 none rm_X9_readSum) (hxn : xn X = (rm_X9_readSum.cells, rm_X9_readSum.slots)) (h0 : Nat) (l1 : Int32) (σ : Hp) (r : Unit) (σ1 : Hp) (h : s_X9_readSum_j22 h0 l1 σ = some (r, σ1)) (hx : xd X = (none, σ1)) : G E X 0 0 22 [(0, tR (some (h0))), (1, tI (l1))] [] σ := by
  unfold s_X9_readSum_j22 at h
  refine g_aload_n (pc := 22) C 0 0 dX9_readSum_22 rfl rfl ?_
  obtain ⟨r1, hvr1, h⟩ := zbind h
  refine g_getR (N := 58) (pc := 23) C ck_9 hvr1 rfl rfl fl_X9_146 dX9_readSum_23 ?_
  refine g_iload_n (pc := 26) C 1 1 dX9_readSum_26 rfl rfl ?_
  refine g_iconst (v := 1) (pc := 27) C dX9_readSum_27 (by decide) ?_
  refine g_iadd (pc := 28) C dX9_readSum_28 ?_
  refine g_aload_n (pc := 29) C 0 0 dX9_readSum_29 rfl rfl ?_
  obtain ⟨v2, hvv2, h⟩ := zbind h
  refine g_getI (N := 58) (pc := 30) C ck_9 hvv2 rfl rfl fl_X9_291 dX9_readSum_30 ?_
  obtain ⟨a3, hqa3, h9⟩ := zbind h
  clear h
  subst hqa3
  have h := h9
  clear h9
  obtain ⟨σ4, hvσ4, h⟩ := zbind h
  refine g_iast (pc := 33) C hvσ4 dX9_readSum_33 ?_
  obtain ⟨rfl, rfl⟩ := zsome h
  exact g_vret (pc := 34) C rfl hx (by rw [hxn]; rfl) (by rw [hxn]; rfl) dX9_readSum_34
noncomputable def s_X9_readSum (h0 : Nat) (p1 : Int32) (σ : Hp) : Option (Unit × Hp) :=
  (rdR 9 σ h0 49).bind fun r1 =>
  (rdI 9 σ h0 23).bind fun v2 =>
  (r1).bind fun a3 =>
  (stI σ a3 (p1) (v2)).bind fun σ4 =>
  (rdI 9 σ4 h0 19).bind fun v5 =>
  if v5 = 0 then
    (ck 9 σ4 h0).bind fun u6 =>
    cb (s_X9_readExpression h0 (0) σ4) fun v8 σ7 =>
    s_X9_readSum_j22 (h0) (p1) σ7
  else
    s_X9_readSum_j22 (h0) (p1) σ4
set_option maxRecDepth 100000 in
theorem c_X9_readSum {E : E0} (hE : EOK E) {h0 : Nat} {p1 : Int32} {σ σ1 : Hp} {r : Unit} (h : s_X9_readSum h0 p1 σ = some (r, σ1)) : CT E yX9_readSum (.code yX9_readSum cX9_readSum 2 none) rm_X9_readSum [tR (some (h0)), tI (p1)] σ none σ1 := by
  refine CT.mk hE (by decide +kernel) (Nat.le_of_ble_eq_true rfl) [(0, tR (some (h0))), (1, tI (p1))] rfl (fun X C hin hx hxn => ?_)
  have C : XOK E X cX9_readSum RX9 2 none rm_X9_readSum := C
  unfold s_X9_readSum at h
  refine g_aload_n (pc := 0) C 0 0 dX9_readSum_0 rfl rfl ?_
  obtain ⟨r1, hvr1, h⟩ := zbind h
  refine g_getR (N := 58) (pc := 1) C ck_9 hvr1 rfl rfl fl_X9_146 dX9_readSum_1 ?_
  refine g_iload_n (pc := 4) C 1 1 dX9_readSum_4 rfl rfl ?_
  refine g_aload_n (pc := 5) C 0 0 dX9_readSum_5 rfl rfl ?_
  obtain ⟨v2, hvv2, h⟩ := zbind h
  refine g_getI (N := 58) (pc := 6) C ck_9 hvv2 rfl rfl fl_X9_291 dX9_readSum_6 ?_
  obtain ⟨a3, hqa3, h9⟩ := zbind h
  clear h
  subst hqa3
  have h := h9
  clear h9
  obtain ⟨σ4, hvσ4, h⟩ := zbind h
  refine g_iast (pc := 9) C hvσ4 dX9_readSum_9 ?_
  refine g_aload_n (pc := 10) C 0 0 dX9_readSum_10 rfl rfl ?_
  obtain ⟨v5, hvv5, h⟩ := zbind h
  refine g_getI (N := 58) (pc := 11) C ck_9 hvv5 rfl rfl fl_X9_254 dX9_readSum_11 ?_
  refine g_if_ne (pc := 14) C 22 dX9_readSum_14 (by decide) (fun c9 => ?_) (fun c9 => ?_)
  · have h := zif_f c9 h
    exact w_X9_readSum_j22 hE C hxn _ _ _ _ _ h hx
  · have h := zif_t c9 h
    refine g_aload_n (pc := 17) C 0 0 dX9_readSum_17 rfl rfl ?_
    refine g_iconst (v := 0) (pc := 18) C dX9_readSum_18 (by decide) ?_
    obtain ⟨u6, hvu6, h⟩ := zbind h
    obtain ⟨v8, σ7, hvσ7, h⟩ := zcb h
    refine g_callV (pc := 19) (av := [tI (0)]) C (c_X9_readExpression hE hvσ7) yv_X9_readExpression ml_X9_387 ck_9 (zopt hvu6).1 rfl (rf_of (by decide)) rfl (Nat.le_of_ble_eq_true rfl) dX9_readSum_19 ?_
    exact w_X9_readSum_j22 hE C hxn _ _ _ _ _ h hx
def rm_X9_readOrder : Room := { frames := 8, cells := 0, slots := 0, locals := 172 }
noncomputable def s_X9_readOrder_j27 (h0 : Nat) (l2 : Int32) (t0 : Int32) (σ : Hp) : Option (((Nat × Int32 × Int32) ⊕ ((Nat × Int32))) × Hp) :=
  some (Sum.inl ((h0), (t0), (l2 + 1)), σ)
set_option maxRecDepth 100000 in
theorem w_X9_readOrder_j27 {E : E0} (hE : EOK E) {X : X0} (C : XOK E X cX9_readOrder RX9 4 none rm_X9_readOrder) (hxn : xn X = (rm_X9_readOrder.cells, rm_X9_readOrder.slots)) {KE : ((Nat × Int32)) → Hp → Prop} (e_34 : ∀ (h0 : Nat) (l1 : Int32) (σ : Hp), KE ((h0, l1)) σ → G E X 0 0 34 [(0, tR (some (h0))), (1, tI (l1))] [] σ) (h0 : Nat) (l2 : Int32) (t0 : Int32) (σ : Hp) (x : (Nat × Int32 × Int32) ⊕ ((Nat × Int32))) (σ1 : Hp) (h : s_X9_readOrder_j27 h0 l2 t0 σ = some (x, σ1)) (hI : ∀ v, x = Sum.inl v → (fun (v : Nat × Int32 × Int32) (σ : Hp) => G E X 0 0 4 [(0, tR (some ((v.1)))), (1, tI ((v.2.1))), (2, tI ((v.2.2)))] [] σ) v σ1) (hO : ∀ e, x = Sum.inr e → KE e σ1) : G E X 0 0 27 [(0, tR (some (h0))), (2, tI (l2))] [tI (t0)] σ := by
  unfold s_X9_readOrder_j27 at h
  refine g_istore_n (lm' := [(1, tI (t0)), (0, tR (some (h0))), (2, tI (l2))]) (pc := 27) C 1 dX9_readOrder_27 rfl (by decide) rfl ?_
  refine g_iinc (lm' := [(2, tI (l2 + 1)), (1, tI (t0)), (0, tR (some (h0)))]) (v := l2 + 1) (pc := 28) C 2 dX9_readOrder_28 rfl rfl (by decide) rfl ?_
  refine g_goto (pc := 31) C 4 dX9_readOrder_31 (by decide) ?_
  refine g_sub [2, 1, 0] (lm' := [(0, tR (some (h0))), (1, tI (t0)), (2, tI (l2 + 1))]) rfl ?_
  obtain ⟨rfl, rfl⟩ := zsome h
  exact hI _ rfl
noncomputable def s_X9_readOrder_b4 (h0 : Nat) (l1 : Int32) (l2 : Int32) (σ : Hp) : Option (((Nat × Int32 × Int32) ⊕ ((Nat × Int32))) × Hp) :=
  if 4 ≤ l2 then
    some (Sum.inr ((h0), (l1)), σ)
  else
    (rdR 9 σ h0 47).bind fun r1 =>
    (r1).bind fun a2 =>
    (ldJ σ a2 (l2)).bind fun v3 =>
    (ck 9 σ h0).bind fun u4 =>
    cb (s_X9_isWord h0 (v3) σ) fun v6 σ5 =>
    if v6 = 0 then
      s_X9_readOrder_j27 (h0) (l2) (l1) σ5
    else
      s_X9_readOrder_j27 (h0) (l2) (l2) σ5
noncomputable def s_X9_readOrder_l4 : (Nat × Int32 × Int32) → Hp → Option (((Nat × Int32)) × Hp) := loopF (fun v => s_X9_readOrder_b4 (v.1) (v.2.1) (v.2.2))
set_option maxRecDepth 100000 in
theorem w_X9_readOrder_b4 {E : E0} (hE : EOK E) {X : X0} (C : XOK E X cX9_readOrder RX9 4 none rm_X9_readOrder) (hxn : xn X = (rm_X9_readOrder.cells, rm_X9_readOrder.slots)) {KE : ((Nat × Int32)) → Hp → Prop} (e_34 : ∀ (h0 : Nat) (l1 : Int32) (σ : Hp), KE ((h0, l1)) σ → G E X 0 0 34 [(0, tR (some (h0))), (1, tI (l1))] [] σ) (h0 : Nat) (l1 : Int32) (l2 : Int32) (σ : Hp) (x : (Nat × Int32 × Int32) ⊕ ((Nat × Int32))) (σ1 : Hp) (h : s_X9_readOrder_b4 h0 l1 l2 σ = some (x, σ1)) (hI : ∀ v, x = Sum.inl v → (fun (v : Nat × Int32 × Int32) (σ : Hp) => G E X 0 0 4 [(0, tR (some ((v.1)))), (1, tI ((v.2.1))), (2, tI ((v.2.2)))] [] σ) v σ1) (hO : ∀ e, x = Sum.inr e → KE e σ1) : G E X 0 0 4 [(0, tR (some (h0))), (1, tI (l1)), (2, tI (l2))] [] σ := by
  unfold s_X9_readOrder_b4 at h
  refine g_iload_n (pc := 4) C 2 2 dX9_readOrder_4 rfl rfl ?_
  refine g_iconst (v := 4) (pc := 5) C dX9_readOrder_5 (by decide) ?_
  refine g_icmp_ge (pc := 6) C 34 dX9_readOrder_6 (by decide) (fun c8 => ?_) (fun c8 => ?_)
  · have h := zif_t c8 h
    refine g_sub [0, 1] (lm' := [(0, tR (some (h0))), (1, tI (l1))]) rfl ?_
    obtain ⟨rfl, rfl⟩ := zsome h
    exact e_34 _ _ _ (hO _ rfl)
  · have h := zif_f c8 h
    refine g_aload_n (pc := 9) C 0 0 dX9_readOrder_9 rfl rfl ?_
    refine g_aload_n (pc := 10) C 0 0 dX9_readOrder_10 rfl rfl ?_
    obtain ⟨r1, hvr1, h⟩ := zbind h
    refine g_getR (N := 58) (pc := 11) C ck_9 hvr1 rfl rfl fl_X9_136 dX9_readOrder_11 ?_
    refine g_iload_n (pc := 14) C 2 2 dX9_readOrder_14 rfl rfl ?_
    obtain ⟨a2, hqa2, h9⟩ := zbind h
    clear h
    subst hqa2
    have h := h9
    clear h9
    obtain ⟨v3, hvv3, h⟩ := zbind h
    refine g_lald (pc := 15) C hvv3 dX9_readOrder_15 ?_
    obtain ⟨u4, hvu4, h⟩ := zbind h
    obtain ⟨v6, σ5, hvσ5, h⟩ := zcb h
    refine g_callV (pc := 16) (av := [tJ (v3)]) C (c_X9_isWord hE hvσ5) yv_X9_isWord ml_X9_312 ck_9 (zopt hvu4).1 rfl (rf_of (by decide)) rfl (Nat.le_of_ble_eq_true rfl) dX9_readOrder_16 ?_
    refine g_if_eq (pc := 19) C 26 dX9_readOrder_19 (by decide) (fun c7 => ?_) (fun c7 => ?_)
    · have h := zif_t c7 h
      refine g_iload_n (pc := 26) C 1 1 dX9_readOrder_26 rfl rfl ?_
      refine g_sub [0, 2] (lm' := [(0, tR (some (h0))), (2, tI (l2))]) rfl ?_
      exact w_X9_readOrder_j27 hE C hxn e_34 _ _ _ _ _ _ h hI hO
    · have h := zif_f c7 h
      refine g_iload_n (pc := 22) C 2 2 dX9_readOrder_22 rfl rfl ?_
      refine g_goto (pc := 23) C 27 dX9_readOrder_23 (by decide) ?_
      refine g_sub [0, 2] (lm' := [(0, tR (some (h0))), (2, tI (l2))]) rfl ?_
      exact w_X9_readOrder_j27 hE C hxn e_34 _ _ _ _ _ _ h hI hO
theorem w_X9_readOrder_l4 {E : E0} (hE : EOK E) {X : X0} (C : XOK E X cX9_readOrder RX9 4 none rm_X9_readOrder) (hxn : xn X = (rm_X9_readOrder.cells, rm_X9_readOrder.slots)) {KE : ((Nat × Int32)) → Hp → Prop} (e_34 : ∀ (h0 : Nat) (l1 : Int32) (σ : Hp), KE ((h0, l1)) σ → G E X 0 0 34 [(0, tR (some (h0))), (1, tI (l1))] [] σ) {v : Nat × Int32 × Int32} {σ : Hp} {e : (Nat × Int32)} {σ1 : Hp} (h : s_X9_readOrder_l4 v σ = some (e, σ1)) (hO : KE e σ1) : G E X 0 0 4 [(0, tR (some ((v.1)))), (1, tI ((v.2.1))), (2, tI ((v.2.2)))] [] σ := loopF_ind (P := fun (v : Nat × Int32 × Int32) (σ : Hp) => G E X 0 0 4 [(0, tR (some ((v.1)))), (1, tI ((v.2.1))), (2, tI ((v.2.2)))] [] σ) (KE := KE) (fun v σ x σ1 h hI hO => w_X9_readOrder_b4 hE C hxn e_34 (v.1) (v.2.1) (v.2.2) σ x σ1 h hI hO) v σ e σ1 h hO
noncomputable def s_X9_readOrder_b85 (h0 : Nat) (l1 : Int32) (l2 : Int32) (l3 : Int32) (σ : Hp) : Option (((Nat × Int32 × Int32 × Int32) ⊕ ((Nat × Int32 × Int32))) × Hp) :=
  if 8 ≤ l3 then
    some (Sum.inr ((h0), (l1), (l2)), σ)
  else
    (rdR 9 σ h0 49).bind fun r1 =>
    (r1).bind fun a2 =>
    (stI σ a2 (l2 + l3) (0)).bind fun σ3 =>
    some (Sum.inl ((h0), (l1), (l2), (l3 + 1)), σ3)
noncomputable def s_X9_readOrder_l85 : (Nat × Int32 × Int32 × Int32) → Hp → Option (((Nat × Int32 × Int32)) × Hp) := loopF (fun v => s_X9_readOrder_b85 (v.1) (v.2.1) (v.2.2.1) (v.2.2.2))
set_option maxRecDepth 100000 in
theorem w_X9_readOrder_b85 {E : E0} (hE : EOK E) {X : X0} (C : XOK E X cX9_readOrder RX9 4 none rm_X9_readOrder) (hxn : xn X = (rm_X9_readOrder.cells, rm_X9_readOrder.slots)) {KE : ((Nat × Int32 × Int32)) → Hp → Prop} (e_106 : ∀ (h0 : Nat) (l1 : Int32) (l2 : Int32) (σ : Hp), KE ((h0, l1, l2)) σ → G E X 0 0 106 [(0, tR (some (h0))), (1, tI (l1)), (2, tI (l2))] [] σ) (h0 : Nat) (l1 : Int32) (l2 : Int32) (l3 : Int32) (σ : Hp) (x : (Nat × Int32 × Int32 × Int32) ⊕ ((Nat × Int32 × Int32))) (σ1 : Hp) (h : s_X9_readOrder_b85 h0 l1 l2 l3 σ = some (x, σ1)) (hI : ∀ v, x = Sum.inl v → (fun (v : Nat × Int32 × Int32 × Int32) (σ : Hp) => G E X 0 0 85 [(0, tR (some ((v.1)))), (1, tI ((v.2.1))), (2, tI ((v.2.2.1))), (3, tI ((v.2.2.2)))] [] σ) v σ1) (hO : ∀ e, x = Sum.inr e → KE e σ1) : G E X 0 0 85 [(0, tR (some (h0))), (1, tI (l1)), (2, tI (l2)), (3, tI (l3))] [] σ := by
  unfold s_X9_readOrder_b85 at h
  refine g_iload_n (pc := 85) C 3 3 dX9_readOrder_85 rfl rfl ?_
  refine g_bipush (v := 8) (pc := 86) C dX9_readOrder_86 (by decide) ?_
  refine g_icmp_ge (pc := 88) C 106 dX9_readOrder_88 (by decide) (fun c4 => ?_) (fun c4 => ?_)
  · have h := zif_t c4 h
    refine g_sub [0, 1, 2] (lm' := [(0, tR (some (h0))), (1, tI (l1)), (2, tI (l2))]) rfl ?_
    obtain ⟨rfl, rfl⟩ := zsome h
    exact e_106 _ _ _ _ (hO _ rfl)
  · have h := zif_f c4 h
    refine g_aload_n (pc := 91) C 0 0 dX9_readOrder_91 rfl rfl ?_
    obtain ⟨r1, hvr1, h⟩ := zbind h
    refine g_getR (N := 58) (pc := 92) C ck_9 hvr1 rfl rfl fl_X9_146 dX9_readOrder_92 ?_
    refine g_iload_n (pc := 95) C 2 2 dX9_readOrder_95 rfl rfl ?_
    refine g_iload_n (pc := 96) C 3 3 dX9_readOrder_96 rfl rfl ?_
    refine g_iadd (pc := 97) C dX9_readOrder_97 ?_
    refine g_iconst (v := 0) (pc := 98) C dX9_readOrder_98 (by decide) ?_
    obtain ⟨a2, hqa2, h9⟩ := zbind h
    clear h
    subst hqa2
    have h := h9
    clear h9
    obtain ⟨σ3, hvσ3, h⟩ := zbind h
    refine g_iast (pc := 99) C hvσ3 dX9_readOrder_99 ?_
    refine g_iinc (lm' := [(3, tI (l3 + 1)), (0, tR (some (h0))), (1, tI (l1)), (2, tI (l2))]) (v := l3 + 1) (pc := 100) C 3 dX9_readOrder_100 rfl rfl (by decide) rfl ?_
    refine g_goto (pc := 103) C 85 dX9_readOrder_103 (by decide) ?_
    refine g_sub [1, 2, 3, 0] (lm' := [(0, tR (some (h0))), (1, tI (l1)), (2, tI (l2)), (3, tI (l3 + 1))]) rfl ?_
    obtain ⟨rfl, rfl⟩ := zsome h
    exact hI _ rfl
theorem w_X9_readOrder_l85 {E : E0} (hE : EOK E) {X : X0} (C : XOK E X cX9_readOrder RX9 4 none rm_X9_readOrder) (hxn : xn X = (rm_X9_readOrder.cells, rm_X9_readOrder.slots)) {KE : ((Nat × Int32 × Int32)) → Hp → Prop} (e_106 : ∀ (h0 : Nat) (l1 : Int32) (l2 : Int32) (σ : Hp), KE ((h0, l1, l2)) σ → G E X 0 0 106 [(0, tR (some (h0))), (1, tI (l1)), (2, tI (l2))] [] σ) {v : Nat × Int32 × Int32 × Int32} {σ : Hp} {e : (Nat × Int32 × Int32)} {σ1 : Hp} (h : s_X9_readOrder_l85 v σ = some (e, σ1)) (hO : KE e σ1) : G E X 0 0 85 [(0, tR (some ((v.1)))), (1, tI ((v.2.1))), (2, tI ((v.2.2.1))), (3, tI ((v.2.2.2)))] [] σ := loopF_ind (P := fun (v : Nat × Int32 × Int32 × Int32) (σ : Hp) => G E X 0 0 85 [(0, tR (some ((v.1)))), (1, tI ((v.2.1))), (2, tI ((v.2.2.1))), (3, tI ((v.2.2.2)))] [] σ) (KE := KE) (fun v σ x σ1 h hI hO => w_X9_readOrder_b85 hE C hxn e_106 (v.1) (v.2.1) (v.2.2.1) (v.2.2.2) σ x σ1 h hI hO) v σ e σ1 h hO
noncomputable def s_X9_readOrder_j239 (h0 : Nat) (l2 : Int32) (σ : Hp) : Option (Unit × Hp) :=
  (rdR 9 σ h0 49).bind fun r1 =>
  (rdI 9 σ h0 23).bind fun v2 =>
  (r1).bind fun a3 =>
  (stI σ a3 (l2 + 6) (v2)).bind fun σ4 =>
  some ((), σ4)
set_option maxRecDepth 100000 in
theorem w_X9_readOrder_j239 {E : E0} (hE : EOK E) {X : X0} (C : XOK E X cX9_readOrder RX9 4 none rm_X9_readOrder) (hxn : xn X = (rm_X9_readOrder.cells, rm_X9_readOrder.slots)) (h0 : Nat) (l2 : Int32) (σ : Hp) (r : Unit) (σ1 : Hp) (h : s_X9_readOrder_j239 h0 l2 σ = some (r, σ1)) (hx : xd X = (none, σ1)) : G E X 0 0 239 [(0, tR (some (h0))), (2, tI (l2))] [] σ := by
  unfold s_X9_readOrder_j239 at h
  refine g_aload_n (pc := 239) C 0 0 dX9_readOrder_239 rfl rfl ?_
  obtain ⟨r1, hvr1, h⟩ := zbind h
  refine g_getR (N := 58) (pc := 240) C ck_9 hvr1 rfl rfl fl_X9_146 dX9_readOrder_240 ?_
  refine g_iload_n (pc := 243) C 2 1 dX9_readOrder_243 rfl rfl ?_
  refine g_bipush (v := 6) (pc := 244) C dX9_readOrder_244 (by decide) ?_
  refine g_iadd (pc := 246) C dX9_readOrder_246 ?_
  refine g_aload_n (pc := 247) C 0 0 dX9_readOrder_247 rfl rfl ?_
  obtain ⟨v2, hvv2, h⟩ := zbind h
  refine g_getI (N := 58) (pc := 248) C ck_9 hvv2 rfl rfl fl_X9_291 dX9_readOrder_248 ?_
  obtain ⟨a3, hqa3, h9⟩ := zbind h
  clear h
  subst hqa3
  have h := h9
  clear h9
  obtain ⟨σ4, hvσ4, h⟩ := zbind h
  refine g_iast (pc := 251) C hvσ4 dX9_readOrder_251 ?_
  obtain ⟨rfl, rfl⟩ := zsome h
  exact g_vret (pc := 252) C rfl hx (by rw [hxn]; rfl) (by rw [hxn]; rfl) dX9_readOrder_252
noncomputable def s_X9_readOrder_j201 (h0 : Nat) (l2 : Int32) (σ : Hp) : Option (Unit × Hp) :=
  (rdR 9 σ h0 49).bind fun r1 =>
  (rdI 9 σ h0 23).bind fun v2 =>
  (r1).bind fun a3 =>
  (stI σ a3 (l2 + 5) (v2)).bind fun σ4 =>
  (rdI 9 σ4 h0 19).bind fun v5 =>
  if v5 = 0 then
    (ck 9 σ4 h0).bind fun u6 =>
    cb (s_X9_isWord h0 (294) σ4) fun v8 σ7 =>
    if v8 = 0 then
      s_X9_readOrder_j239 (h0) (l2) σ7
    else
      (ck 9 σ7 h0).bind fun u9 =>
      cb (s_X9_next h0 σ7) fun v11 σ10 =>
      (ck 9 σ10 h0).bind fun u12 =>
      cb (s_X9_readExpression h0 (1) σ10) fun v14 σ13 =>
      s_X9_readOrder_j239 (h0) (l2) σ13
  else
    s_X9_readOrder_j239 (h0) (l2) σ4
set_option maxRecDepth 100000 in
theorem w_X9_readOrder_j201 {E : E0} (hE : EOK E) {X : X0} (C : XOK E X cX9_readOrder RX9 4 none rm_X9_readOrder) (hxn : xn X = (rm_X9_readOrder.cells, rm_X9_readOrder.slots)) (h0 : Nat) (l2 : Int32) (σ : Hp) (r : Unit) (σ1 : Hp) (h : s_X9_readOrder_j201 h0 l2 σ = some (r, σ1)) (hx : xd X = (none, σ1)) : G E X 0 0 201 [(0, tR (some (h0))), (2, tI (l2))] [] σ := by
  unfold s_X9_readOrder_j201 at h
  refine g_aload_n (pc := 201) C 0 0 dX9_readOrder_201 rfl rfl ?_
  obtain ⟨r1, hvr1, h⟩ := zbind h
  refine g_getR (N := 58) (pc := 202) C ck_9 hvr1 rfl rfl fl_X9_146 dX9_readOrder_202 ?_
  refine g_iload_n (pc := 205) C 2 1 dX9_readOrder_205 rfl rfl ?_
  refine g_iconst (v := 5) (pc := 206) C dX9_readOrder_206 (by decide) ?_
  refine g_iadd (pc := 207) C dX9_readOrder_207 ?_
  refine g_aload_n (pc := 208) C 0 0 dX9_readOrder_208 rfl rfl ?_
  obtain ⟨v2, hvv2, h⟩ := zbind h
  refine g_getI (N := 58) (pc := 209) C ck_9 hvv2 rfl rfl fl_X9_291 dX9_readOrder_209 ?_
  obtain ⟨a3, hqa3, h9⟩ := zbind h
  clear h
  subst hqa3
  have h := h9
  clear h9
  obtain ⟨σ4, hvσ4, h⟩ := zbind h
  refine g_iast (pc := 212) C hvσ4 dX9_readOrder_212 ?_
  refine g_aload_n (pc := 213) C 0 0 dX9_readOrder_213 rfl rfl ?_
  obtain ⟨v5, hvv5, h⟩ := zbind h
  refine g_getI (N := 58) (pc := 214) C ck_9 hvv5 rfl rfl fl_X9_254 dX9_readOrder_214 ?_
  refine g_if_ne (pc := 217) C 239 dX9_readOrder_217 (by decide) (fun c16 => ?_) (fun c16 => ?_)
  · have h := zif_f c16 h
    exact w_X9_readOrder_j239 hE C hxn _ _ _ _ _ h hx
  · have h := zif_t c16 h
    refine g_aload_n (pc := 220) C 0 0 dX9_readOrder_220 rfl rfl ?_
    refine g_ldc2 (v := 294) (pc := 221) C dX9_readOrder_221 kl_X9_390 ?_
    obtain ⟨u6, hvu6, h⟩ := zbind h
    obtain ⟨v8, σ7, hvσ7, h⟩ := zcb h
    refine g_callV (pc := 224) (av := [tJ (294)]) C (c_X9_isWord hE hvσ7) yv_X9_isWord ml_X9_312 ck_9 (zopt hvu6).1 rfl (rf_of (by decide)) rfl (Nat.le_of_ble_eq_true rfl) dX9_readOrder_224 ?_
    refine g_if_eq (pc := 227) C 239 dX9_readOrder_227 (by decide) (fun c15 => ?_) (fun c15 => ?_)
    · have h := zif_t c15 h
      exact w_X9_readOrder_j239 hE C hxn _ _ _ _ _ h hx
    · have h := zif_f c15 h
      refine g_aload_n (pc := 230) C 0 0 dX9_readOrder_230 rfl rfl ?_
      obtain ⟨u9, hvu9, h⟩ := zbind h
      obtain ⟨v11, σ10, hvσ10, h⟩ := zcb h
      refine g_callV (pc := 231) (av := []) C (c_X9_next hE hvσ10) yv_X9_next ml_X9_258 ck_9 (zopt hvu9).1 rfl (rf_of (by decide)) rfl (Nat.le_of_ble_eq_true rfl) dX9_readOrder_231 ?_
      refine g_aload_n (pc := 234) C 0 0 dX9_readOrder_234 rfl rfl ?_
      refine g_iconst (v := 1) (pc := 235) C dX9_readOrder_235 (by decide) ?_
      obtain ⟨u12, hvu12, h⟩ := zbind h
      obtain ⟨v14, σ13, hvσ13, h⟩ := zcb h
      refine g_callV (pc := 236) (av := [tI (1)]) C (c_X9_readExpression hE hvσ13) yv_X9_readExpression ml_X9_387 ck_9 (zopt hvu12).1 rfl (rf_of (by decide)) rfl (Nat.le_of_ble_eq_true rfl) dX9_readOrder_236 ?_
      exact w_X9_readOrder_j239 hE C hxn _ _ _ _ _ h hx
noncomputable def s_X9_readOrder_j153 (h0 : Nat) (l2 : Int32) (σ : Hp) : Option (Unit × Hp) :=
  (rdR 9 σ h0 49).bind fun r1 =>
  (r1).bind fun a2 =>
  (stI σ a2 (l2 + 7) (1)).bind fun σ3 =>
  (rdI 9 σ3 h0 19).bind fun v4 =>
  if v4 = 0 then
    (ck 9 σ3 h0).bind fun u5 =>
    cb (s_X9_isWord h0 (21279923) σ3) fun v7 σ6 =>
    if v7 = 0 then
      s_X9_readOrder_j201 (h0) (l2) σ6
    else
      (ck 9 σ6 h0).bind fun u8 =>
      cb (s_X9_next h0 σ6) fun v10 σ9 =>
      (rdR 9 σ9 h0 49).bind fun r11 =>
      (ck 9 σ9 h0).bind fun u12 =>
      cb (s_X9_number h0 (1) (20) σ9) fun v14 σ13 =>
      (r11).bind fun a15 =>
      (stI σ13 a15 (l2 + 7) (v14)).bind fun σ16 =>
      s_X9_readOrder_j201 (h0) (l2) σ16
  else
    s_X9_readOrder_j201 (h0) (l2) σ3
set_option maxRecDepth 100000 in
theorem w_X9_readOrder_j153 {E : E0} (hE : EOK E) {X : X0} (C : XOK E X cX9_readOrder RX9 4 none rm_X9_readOrder) (hxn : xn X = (rm_X9_readOrder.cells, rm_X9_readOrder.slots)) (h0 : Nat) (l2 : Int32) (σ : Hp) (r : Unit) (σ1 : Hp) (h : s_X9_readOrder_j153 h0 l2 σ = some (r, σ1)) (hx : xd X = (none, σ1)) : G E X 0 0 153 [(0, tR (some (h0))), (2, tI (l2))] [] σ := by
  unfold s_X9_readOrder_j153 at h
  refine g_aload_n (pc := 153) C 0 0 dX9_readOrder_153 rfl rfl ?_
  obtain ⟨r1, hvr1, h⟩ := zbind h
  refine g_getR (N := 58) (pc := 154) C ck_9 hvr1 rfl rfl fl_X9_146 dX9_readOrder_154 ?_
  refine g_iload_n (pc := 157) C 2 1 dX9_readOrder_157 rfl rfl ?_
  refine g_bipush (v := 7) (pc := 158) C dX9_readOrder_158 (by decide) ?_
  refine g_iadd (pc := 160) C dX9_readOrder_160 ?_
  refine g_iconst (v := 1) (pc := 161) C dX9_readOrder_161 (by decide) ?_
  obtain ⟨a2, hqa2, h9⟩ := zbind h
  clear h
  subst hqa2
  have h := h9
  clear h9
  obtain ⟨σ3, hvσ3, h⟩ := zbind h
  refine g_iast (pc := 162) C hvσ3 dX9_readOrder_162 ?_
  refine g_aload_n (pc := 163) C 0 0 dX9_readOrder_163 rfl rfl ?_
  obtain ⟨v4, hvv4, h⟩ := zbind h
  refine g_getI (N := 58) (pc := 164) C ck_9 hvv4 rfl rfl fl_X9_254 dX9_readOrder_164 ?_
  refine g_if_ne (pc := 167) C 201 dX9_readOrder_167 (by decide) (fun c18 => ?_) (fun c18 => ?_)
  · have h := zif_f c18 h
    exact w_X9_readOrder_j201 hE C hxn _ _ _ _ _ h hx
  · have h := zif_t c18 h
    refine g_aload_n (pc := 170) C 0 0 dX9_readOrder_170 rfl rfl ?_
    refine g_ldc2 (v := 21279923) (pc := 171) C dX9_readOrder_171 kl_X9_505 ?_
    obtain ⟨u5, hvu5, h⟩ := zbind h
    obtain ⟨v7, σ6, hvσ6, h⟩ := zcb h
    refine g_callV (pc := 174) (av := [tJ (21279923)]) C (c_X9_isWord hE hvσ6) yv_X9_isWord ml_X9_312 ck_9 (zopt hvu5).1 rfl (rf_of (by decide)) rfl (Nat.le_of_ble_eq_true rfl) dX9_readOrder_174 ?_
    refine g_if_eq (pc := 177) C 201 dX9_readOrder_177 (by decide) (fun c17 => ?_) (fun c17 => ?_)
    · have h := zif_t c17 h
      exact w_X9_readOrder_j201 hE C hxn _ _ _ _ _ h hx
    · have h := zif_f c17 h
      refine g_aload_n (pc := 180) C 0 0 dX9_readOrder_180 rfl rfl ?_
      obtain ⟨u8, hvu8, h⟩ := zbind h
      obtain ⟨v10, σ9, hvσ9, h⟩ := zcb h
      refine g_callV (pc := 181) (av := []) C (c_X9_next hE hvσ9) yv_X9_next ml_X9_258 ck_9 (zopt hvu8).1 rfl (rf_of (by decide)) rfl (Nat.le_of_ble_eq_true rfl) dX9_readOrder_181 ?_
      refine g_aload_n (pc := 184) C 0 0 dX9_readOrder_184 rfl rfl ?_
      obtain ⟨r11, hvr11, h⟩ := zbind h
      refine g_getR (N := 58) (pc := 185) C ck_9 hvr11 rfl rfl fl_X9_146 dX9_readOrder_185 ?_
      refine g_iload_n (pc := 188) C 2 1 dX9_readOrder_188 rfl rfl ?_
      refine g_bipush (v := 7) (pc := 189) C dX9_readOrder_189 (by decide) ?_
      refine g_iadd (pc := 191) C dX9_readOrder_191 ?_
      refine g_aload_n (pc := 192) C 0 0 dX9_readOrder_192 rfl rfl ?_
      refine g_lconst (v := 1) (pc := 193) C dX9_readOrder_193 (by decide) ?_
      refine g_ldc2 (v := 20) (pc := 194) C dX9_readOrder_194 kl_X9_304 ?_
      obtain ⟨u12, hvu12, h⟩ := zbind h
      obtain ⟨v14, σ13, hvσ13, h⟩ := zcb h
      refine g_callV (pc := 197) (av := [tJ (1), tJ (20)]) C (c_X9_number hE hvσ13) yv_X9_number ml_X9_348 ck_9 (zopt hvu12).1 rfl (rf_of (by decide)) rfl (Nat.le_of_ble_eq_true rfl) dX9_readOrder_197 ?_
      obtain ⟨a15, hqa15, h9⟩ := zbind h
      clear h
      subst hqa15
      have h := h9
      clear h9
      obtain ⟨σ16, hvσ16, h⟩ := zbind h
      refine g_iast (pc := 200) C hvσ16 dX9_readOrder_200 ?_
      exact w_X9_readOrder_j201 hE C hxn _ _ _ _ _ h hx
noncomputable def s_X9_readOrder_j146 (h0 : Nat) (l2 : Int32) (σ : Hp) : Option (Unit × Hp) :=
  (ck 9 σ h0).bind fun u1 =>
  cb (s_X9_readSum h0 (l2 + 3) σ) fun v3 σ2 =>
  s_X9_readOrder_j153 (h0) (l2) σ2
set_option maxRecDepth 100000 in
theorem w_X9_readOrder_j146 {E : E0} (hE : EOK E) {X : X0} (C : XOK E X cX9_readOrder RX9 4 none rm_X9_readOrder) (hxn : xn X = (rm_X9_readOrder.cells, rm_X9_readOrder.slots)) (h0 : Nat) (l2 : Int32) (σ : Hp) (r : Unit) (σ1 : Hp) (h : s_X9_readOrder_j146 h0 l2 σ = some (r, σ1)) (hx : xd X = (none, σ1)) : G E X 0 0 146 [(0, tR (some (h0))), (2, tI (l2))] [] σ := by
  unfold s_X9_readOrder_j146 at h
  refine g_aload_n (pc := 146) C 0 0 dX9_readOrder_146 rfl rfl ?_
  refine g_iload_n (pc := 147) C 2 1 dX9_readOrder_147 rfl rfl ?_
  refine g_iconst (v := 3) (pc := 148) C dX9_readOrder_148 (by decide) ?_
  refine g_iadd (pc := 149) C dX9_readOrder_149 ?_
  obtain ⟨u1, hvu1, h⟩ := zbind h
  obtain ⟨v3, σ2, hvσ2, h⟩ := zcb h
  refine g_callV (pc := 150) (av := [tI (l2 + 3)]) C (c_X9_readSum hE hvσ2) yv_X9_readSum ml_X9_502 ck_9 (zopt hvu1).1 rfl (rf_of (by decide)) rfl (Nat.le_of_ble_eq_true rfl) dX9_readOrder_150 ?_
  exact w_X9_readOrder_j153 hE C hxn _ _ _ _ _ h hx
noncomputable def s_X9_readOrder_j54 (h0 : Nat) (l1 : Int32) (t0 : Option Nat) (t1 : Int32) (σ : Hp) : Option (Unit × Hp) :=
  (t0).bind fun a1 =>
  (ck 9 σ a1).bind fun u2 =>
  cb (s_X9_must a1 (t1) σ) fun v4 σ3 =>
  (rdI 9 σ3 h0 19).bind fun v5 =>
  if v5 = 0 then
    (rdI 9 σ3 h0 21).bind fun v6 =>
    (rdI 9 σ3 h0 21).bind fun v7 =>
    (wrI 9 σ3 h0 21 (v7 + 1)).bind fun σ8 =>
    cb (s_X9_readOrder_l85 ((h0), (l1), (8 * v6), (0)) σ8) fun e33 σ32 =>
    match e33 with
    | (h9, l110, l211) =>
      (rdR 9 σ32 h9 49).bind fun r13 =>
      (r13).bind fun a14 =>
      (stI σ32 a14 (l211) (l110)).bind fun σ15 =>
      if l110 = 3 then
        s_X9_readOrder_j153 (h9) (l211) σ15
      else
        (ck 9 σ15 h9).bind fun u16 =>
        cb (s_X9_readSum h9 (l211 + 1) σ15) fun v18 σ17 =>
        (rdI 9 σ17 h9 19).bind fun v19 =>
        if v19 = 0 then
          (rdR 9 σ17 h9 48).bind fun r20 =>
          (r20).bind fun a21 =>
          (ldJ σ17 a21 (l110)).bind fun v22 =>
          (ck 9 σ17 h9).bind fun u23 =>
          cb (s_X9_isWord h9 (v22) σ17) fun v25 σ24 =>
          (ck 9 σ24 h9).bind fun u26 =>
          cb (s_X9_must h9 (v25) σ24) fun v28 σ27 =>
          s_X9_readOrder_j146 (h9) (l211) σ27
        else
          s_X9_readOrder_j146 (h9) (l211) σ17
  else
    some ((), σ3)
set_option maxRecDepth 100000 in
theorem w_X9_readOrder_j54 {E : E0} (hE : EOK E) {X : X0} (C : XOK E X cX9_readOrder RX9 4 none rm_X9_readOrder) (hxn : xn X = (rm_X9_readOrder.cells, rm_X9_readOrder.slots)) (h0 : Nat) (l1 : Int32) (t0 : Option Nat) (t1 : Int32) (σ : Hp) (r : Unit) (σ1 : Hp) (h : s_X9_readOrder_j54 h0 l1 t0 t1 σ = some (r, σ1)) (hx : xd X = (none, σ1)) : G E X 0 0 54 [(0, tR (some (h0))), (1, tI (l1))] [tI (t1), tR (t0)] σ := by
  unfold s_X9_readOrder_j54 at h
  obtain ⟨a1, hqa1, h9⟩ := zbind h
  clear h
  subst hqa1
  have h := h9
  clear h9
  obtain ⟨u2, hvu2, h⟩ := zbind h
  obtain ⟨v4, σ3, hvσ3, h⟩ := zcb h
  refine g_callV (pc := 54) (av := [tI (t1)]) C (c_X9_must hE hvσ3) yv_X9_must ml_X9_287 ck_9 (zopt hvu2).1 rfl (rf_of (by decide)) rfl (Nat.le_of_ble_eq_true rfl) dX9_readOrder_54 ?_
  refine g_aload_n (pc := 57) C 0 0 dX9_readOrder_57 rfl rfl ?_
  obtain ⟨v5, hvv5, h⟩ := zbind h
  refine g_getI (N := 58) (pc := 58) C ck_9 hvv5 rfl rfl fl_X9_254 dX9_readOrder_58 ?_
  refine g_if_eq (pc := 61) C 65 dX9_readOrder_61 (by decide) (fun c34 => ?_) (fun c34 => ?_)
  · have h := zif_t c34 h
    refine g_bipush (v := 8) (pc := 65) C dX9_readOrder_65 (by decide) ?_
    refine g_aload_n (pc := 67) C 0 0 dX9_readOrder_67 rfl rfl ?_
    obtain ⟨v6, hvv6, h⟩ := zbind h
    refine g_getI (N := 58) (pc := 68) C ck_9 hvv6 rfl rfl fl_X9_384 dX9_readOrder_68 ?_
    refine g_imul (pc := 71) C dX9_readOrder_71 ?_
    refine g_istore_n (lm' := [(2, tI (8 * v6)), (0, tR (some (h0))), (1, tI (l1))]) (pc := 72) C 2 dX9_readOrder_72 rfl (by decide) rfl ?_
    refine g_aload_n (pc := 73) C 0 1 dX9_readOrder_73 rfl rfl ?_
    refine g_dup (pc := 74) C dX9_readOrder_74 rfl ?_
    obtain ⟨v7, hvv7, h⟩ := zbind h
    refine g_getI (N := 58) (pc := 75) C ck_9 hvv7 rfl rfl fl_X9_384 dX9_readOrder_75 ?_
    refine g_iconst (v := 1) (pc := 78) C dX9_readOrder_78 (by decide) ?_
    refine g_iadd (pc := 79) C dX9_readOrder_79 ?_
    obtain ⟨σ8, hvσ8, h⟩ := zbind h
    refine g_putI (N := 58) (pc := 80) C ⟨ck_9, rfl, tyX9_ok⟩ hvσ8 rfl fl_X9_384 rfl rfl dX9_readOrder_80 ?_
    refine g_iconst (v := 0) (pc := 83) C dX9_readOrder_83 (by decide) ?_
    refine g_istore_n (lm' := [(3, tI (0)), (2, tI (8 * v6)), (0, tR (some (h0))), (1, tI (l1))]) (pc := 84) C 3 dX9_readOrder_84 rfl (by decide) rfl ?_
    refine g_sub [2, 3, 1, 0] (lm' := [(0, tR (some (h0))), (1, tI (l1)), (2, tI (8 * v6)), (3, tI (0))]) rfl ?_
    obtain ⟨KQ, hKQ, e33, σ32, hle33, h⟩ := zcbK h
    refine w_X9_readOrder_l85 (KE := KQ) hE C hxn ?_ hle33 h
    · intro h9 l110 l211 σ12 h
      have h := (hKQ _ _).mp h
      refine g_aload_n (pc := 106) C 0 0 dX9_readOrder_106 rfl rfl ?_
      obtain ⟨r13, hvr13, h⟩ := zbind h
      refine g_getR (N := 58) (pc := 107) C ck_9 hvr13 rfl rfl fl_X9_146 dX9_readOrder_107 ?_
      refine g_iload_n (pc := 110) C 2 2 dX9_readOrder_110 rfl rfl ?_
      refine g_iload_n (pc := 111) C 1 1 dX9_readOrder_111 rfl rfl ?_
      obtain ⟨a14, hqa14, h9⟩ := zbind h
      clear h
      subst hqa14
      have h := h9
      clear h9
      obtain ⟨σ15, hvσ15, h⟩ := zbind h
      refine g_iast (pc := 112) C hvσ15 dX9_readOrder_112 ?_
      refine g_iload_n (pc := 113) C 1 1 dX9_readOrder_113 rfl rfl ?_
      refine g_iconst (v := 3) (pc := 114) C dX9_readOrder_114 (by decide) ?_
      refine g_icmp_eq (pc := 115) C 153 dX9_readOrder_115 (by decide) (fun c30 => ?_) (fun c30 => ?_)
      · have h := zif_t c30 h
        refine g_sub [0, 2] (lm' := [(0, tR (some (h9))), (2, tI (l211))]) rfl ?_
        exact w_X9_readOrder_j153 hE C hxn _ _ _ _ _ h hx
      · have h := zif_f c30 h
        refine g_aload_n (pc := 118) C 0 0 dX9_readOrder_118 rfl rfl ?_
        refine g_iload_n (pc := 119) C 2 2 dX9_readOrder_119 rfl rfl ?_
        refine g_iconst (v := 1) (pc := 120) C dX9_readOrder_120 (by decide) ?_
        refine g_iadd (pc := 121) C dX9_readOrder_121 ?_
        obtain ⟨u16, hvu16, h⟩ := zbind h
        obtain ⟨v18, σ17, hvσ17, h⟩ := zcb h
        refine g_callV (pc := 122) (av := [tI (l211 + 1)]) C (c_X9_readSum hE hvσ17) yv_X9_readSum ml_X9_502 ck_9 (zopt hvu16).1 rfl (rf_of (by decide)) rfl (Nat.le_of_ble_eq_true rfl) dX9_readOrder_122 ?_
        refine g_aload_n (pc := 125) C 0 0 dX9_readOrder_125 rfl rfl ?_
        obtain ⟨v19, hvv19, h⟩ := zbind h
        refine g_getI (N := 58) (pc := 126) C ck_9 hvv19 rfl rfl fl_X9_254 dX9_readOrder_126 ?_
        refine g_if_ne (pc := 129) C 146 dX9_readOrder_129 (by decide) (fun c29 => ?_) (fun c29 => ?_)
        · have h := zif_f c29 h
          refine g_sub [0, 2] (lm' := [(0, tR (some (h9))), (2, tI (l211))]) rfl ?_
          exact w_X9_readOrder_j146 hE C hxn _ _ _ _ _ h hx
        · have h := zif_t c29 h
          refine g_aload_n (pc := 132) C 0 0 dX9_readOrder_132 rfl rfl ?_
          refine g_aload_n (pc := 133) C 0 0 dX9_readOrder_133 rfl rfl ?_
          refine g_aload_n (pc := 134) C 0 0 dX9_readOrder_134 rfl rfl ?_
          obtain ⟨r20, hvr20, h⟩ := zbind h
          refine g_getR (N := 58) (pc := 135) C ck_9 hvr20 rfl rfl fl_X9_143 dX9_readOrder_135 ?_
          refine g_iload_n (pc := 138) C 1 1 dX9_readOrder_138 rfl rfl ?_
          obtain ⟨a21, hqa21, h9⟩ := zbind h
          clear h
          subst hqa21
          have h := h9
          clear h9
          obtain ⟨v22, hvv22, h⟩ := zbind h
          refine g_lald (pc := 139) C hvv22 dX9_readOrder_139 ?_
          obtain ⟨u23, hvu23, h⟩ := zbind h
          obtain ⟨v25, σ24, hvσ24, h⟩ := zcb h
          refine g_callV (pc := 140) (av := [tJ (v22)]) C (c_X9_isWord hE hvσ24) yv_X9_isWord ml_X9_312 ck_9 (zopt hvu23).1 rfl (rf_of (by decide)) rfl (Nat.le_of_ble_eq_true rfl) dX9_readOrder_140 ?_
          obtain ⟨u26, hvu26, h⟩ := zbind h
          obtain ⟨v28, σ27, hvσ27, h⟩ := zcb h
          refine g_callV (pc := 143) (av := [tI (v25)]) C (c_X9_must hE hvσ27) yv_X9_must ml_X9_287 ck_9 (zopt hvu26).1 rfl (rf_of (by decide)) rfl (Nat.le_of_ble_eq_true rfl) dX9_readOrder_143 ?_
          refine g_sub [0, 2] (lm' := [(0, tR (some (h9))), (2, tI (l211))]) rfl ?_
          exact w_X9_readOrder_j146 hE C hxn _ _ _ _ _ h hx
  · have h := zif_f c34 h
    obtain ⟨rfl, rfl⟩ := zsome h
    exact g_vret (pc := 64) C rfl hx (by rw [hxn]; rfl) (by rw [hxn]; rfl) dX9_readOrder_64
noncomputable def s_X9_readOrder_j53 (h0 : Nat) (l1 : Int32) (t0 : Option Nat) (σ : Hp) : Option (Unit × Hp) :=
  s_X9_readOrder_j54 (h0) (l1) (t0) (0) σ
set_option maxRecDepth 100000 in
theorem w_X9_readOrder_j53 {E : E0} (hE : EOK E) {X : X0} (C : XOK E X cX9_readOrder RX9 4 none rm_X9_readOrder) (hxn : xn X = (rm_X9_readOrder.cells, rm_X9_readOrder.slots)) (h0 : Nat) (l1 : Int32) (t0 : Option Nat) (σ : Hp) (r : Unit) (σ1 : Hp) (h : s_X9_readOrder_j53 h0 l1 t0 σ = some (r, σ1)) (hx : xd X = (none, σ1)) : G E X 0 0 53 [(0, tR (some (h0))), (1, tI (l1))] [tR (t0)] σ := by
  unfold s_X9_readOrder_j53 at h
  refine g_iconst (v := 0) (pc := 53) C dX9_readOrder_53 (by decide) ?_
  exact w_X9_readOrder_j54 hE C hxn _ _ _ _ _ _ _ h hx
noncomputable def s_X9_readOrder (h0 : Nat) (σ : Hp) : Option (Unit × Hp) :=
  cb (s_X9_readOrder_l4 ((h0), ((-1)), (0)) σ) fun e9 σ8 =>
  match e9 with
  | (h1, l12) =>
    if l12 = (-1) then
      s_X9_readOrder_j53 (h1) (l12) (some (h1)) σ8
    else
      (rdI 9 σ8 h1 21).bind fun v4 =>
      if 12 ≤ v4 then
        s_X9_readOrder_j53 (h1) (l12) (some (h1)) σ8
      else
        s_X9_readOrder_j54 (h1) (l12) (some (h1)) (1) σ8
set_option maxRecDepth 100000 in
theorem c_X9_readOrder {E : E0} (hE : EOK E) {h0 : Nat} {σ σ1 : Hp} {r : Unit} (h : s_X9_readOrder h0 σ = some (r, σ1)) : CT E yX9_readOrder (.code yX9_readOrder cX9_readOrder 4 none) rm_X9_readOrder [tR (some (h0))] σ none σ1 := by
  refine CT.mk hE (by decide +kernel) (Nat.le_of_ble_eq_true rfl) [(0, tR (some (h0)))] rfl (fun X C hin hx hxn => ?_)
  have C : XOK E X cX9_readOrder RX9 4 none rm_X9_readOrder := C
  unfold s_X9_readOrder at h
  refine g_iconst (v := (-1)) (pc := 0) C dX9_readOrder_0 (by decide) ?_
  refine g_istore_n (lm' := [(1, tI ((-1))), (0, tR (some (h0)))]) (pc := 1) C 1 dX9_readOrder_1 rfl (by decide) rfl ?_
  refine g_iconst (v := 0) (pc := 2) C dX9_readOrder_2 (by decide) ?_
  refine g_istore_n (lm' := [(2, tI (0)), (1, tI ((-1))), (0, tR (some (h0)))]) (pc := 3) C 2 dX9_readOrder_3 rfl (by decide) rfl ?_
  refine g_sub [2, 1, 0] (lm' := [(0, tR (some (h0))), (1, tI ((-1))), (2, tI (0))]) rfl ?_
  obtain ⟨KQ, hKQ, e9, σ8, hle9, h⟩ := zcbK h
  refine w_X9_readOrder_l4 (KE := KQ) hE C hxn ?_ hle9 h
  · intro h1 l12 σ3 h
    have h := (hKQ _ _).mp h
    refine g_aload_n (pc := 34) C 0 0 dX9_readOrder_34 rfl rfl ?_
    refine g_iload_n (pc := 35) C 1 1 dX9_readOrder_35 rfl rfl ?_
    refine g_iconst (v := (-1)) (pc := 36) C dX9_readOrder_36 (by decide) ?_
    refine g_icmp_eq (pc := 37) C 53 dX9_readOrder_37 (by decide) (fun c6 => ?_) (fun c6 => ?_)
    · have h := zif_t c6 h
      exact w_X9_readOrder_j53 hE C hxn _ _ _ _ _ _ h hx
    · have h := zif_f c6 h
      refine g_aload_n (pc := 40) C 0 0 dX9_readOrder_40 rfl rfl ?_
      obtain ⟨v4, hvv4, h⟩ := zbind h
      refine g_getI (N := 58) (pc := 41) C ck_9 hvv4 rfl rfl fl_X9_384 dX9_readOrder_41 ?_
      refine g_bipush (v := 12) (pc := 44) C dX9_readOrder_44 (by decide) ?_
      refine g_icmp_ge (pc := 46) C 53 dX9_readOrder_46 (by decide) (fun c5 => ?_) (fun c5 => ?_)
      · have h := zif_t c5 h
        exact w_X9_readOrder_j53 hE C hxn _ _ _ _ _ _ h hx
      · have h := zif_f c5 h
        refine g_iconst (v := 1) (pc := 49) C dX9_readOrder_49 (by decide) ?_
        refine g_goto (pc := 50) C 54 dX9_readOrder_50 (by decide) ?_
        exact w_X9_readOrder_j54 hE C hxn _ _ _ _ _ _ _ h hx
def rm_X9_sumOf : Room := { frames := 3, cells := 0, slots := 0, locals := 72 }
noncomputable def s_X9_sumOf (h0 : Nat) (p1 : Int32) (σ : Hp) : Option (Int32 × Hp) :=
  (rdI 9 σ h0 53).bind fun v1 =>
  if v1 = 0 then
    (rdR 9 σ h0 49).bind fun r2 =>
    (r2).bind fun a3 =>
    (ldI 11 σ a3 (p1)).bind fun v4 =>
    (rdR 9 σ h0 49).bind fun r5 =>
    (r5).bind fun a6 =>
    (ldI 11 σ a6 (p1 + 1)).bind fun v7 =>
    if v4 = v7 then
      some (((-1)), σ)
    else
      (wrZ 9 σ h0 20 (1)).bind fun σ8 =>
      (rdR 9 σ8 h0 49).bind fun r9 =>
      (r9).bind fun a10 =>
      (ldI 11 σ8 a10 (p1)).bind fun v11 =>
      (rdR 9 σ8 h0 49).bind fun r12 =>
      (r12).bind fun a13 =>
      (ldI 11 σ8 a13 (p1 + 1)).bind fun v14 =>
      (ck 9 σ8 h0).bind fun u15 =>
      cb (s_X9_reckonAll h0 (v11) (v14) σ8) fun v17 σ16 =>
      (wrZ 9 σ16 h0 20 (0)).bind fun σ18 =>
      (rdI 9 σ18 h0 38).bind fun v19 =>
      (wrZ 9 σ18 h0 53 (v19)).bind fun σ20 =>
      (rdJ 9 σ20 h0 39).bind fun v21 =>
      some ((Int64.toInt32 (v21 : Int64)), σ20)
  else
    some (((-1)), σ)
set_option maxRecDepth 100000 in
theorem c_X9_sumOf {E : E0} (hE : EOK E) {h0 : Nat} {p1 : Int32} {σ σ1 : Hp} {r : Int32} (h : s_X9_sumOf h0 p1 σ = some (r, σ1)) : CT E yX9_sumOf (.code yX9_sumOf cX9_sumOf 2 (some .int)) rm_X9_sumOf [tR (some (h0)), tI (p1)] σ (some (tI r)) σ1 := by
  refine CT.mk hE (by decide +kernel) (Nat.le_of_ble_eq_true rfl) [(0, tR (some (h0))), (1, tI (p1))] rfl (fun X C hin hx hxn => ?_)
  have C : XOK E X cX9_sumOf RX9 2 (some .int) rm_X9_sumOf := C
  unfold s_X9_sumOf at h
  refine g_aload_n (pc := 0) C 0 0 dX9_sumOf_0 rfl rfl ?_
  obtain ⟨v1, hvv1, h⟩ := zbind h
  refine g_getI (N := 58) (pc := 1) C ck_9 hvv1 rfl rfl fl_X9_507 dX9_sumOf_1 ?_
  refine g_if_ne (pc := 4) C 24 dX9_sumOf_4 (by decide) (fun c23 => ?_) (fun c23 => ?_)
  · have h := zif_f c23 h
    refine g_iconst (v := (-1)) (pc := 24) C dX9_sumOf_24 (by decide) ?_
    obtain ⟨rfl, rfl⟩ := zsome h
    exact g_iret (pc := 25) C rfl hx (by rw [hxn]; rfl) (by rw [hxn]; rfl) dX9_sumOf_25
  · have h := zif_t c23 h
    refine g_aload_n (pc := 7) C 0 0 dX9_sumOf_7 rfl rfl ?_
    obtain ⟨r2, hvr2, h⟩ := zbind h
    refine g_getR (N := 58) (pc := 8) C ck_9 hvr2 rfl rfl fl_X9_146 dX9_sumOf_8 ?_
    refine g_iload_n (pc := 11) C 1 1 dX9_sumOf_11 rfl rfl ?_
    obtain ⟨a3, hqa3, h9⟩ := zbind h
    clear h
    subst hqa3
    have h := h9
    clear h9
    obtain ⟨v4, hvv4, h⟩ := zbind h
    refine g_iald (pc := 12) C hvv4 dX9_sumOf_12 ?_
    refine g_aload_n (pc := 13) C 0 0 dX9_sumOf_13 rfl rfl ?_
    obtain ⟨r5, hvr5, h⟩ := zbind h
    refine g_getR (N := 58) (pc := 14) C ck_9 hvr5 rfl rfl fl_X9_146 dX9_sumOf_14 ?_
    refine g_iload_n (pc := 17) C 1 1 dX9_sumOf_17 rfl rfl ?_
    refine g_iconst (v := 1) (pc := 18) C dX9_sumOf_18 (by decide) ?_
    refine g_iadd (pc := 19) C dX9_sumOf_19 ?_
    obtain ⟨a6, hqa6, h9⟩ := zbind h
    clear h
    subst hqa6
    have h := h9
    clear h9
    obtain ⟨v7, hvv7, h⟩ := zbind h
    refine g_iald (pc := 20) C hvv7 dX9_sumOf_20 ?_
    refine g_icmp_ne (pc := 21) C 26 dX9_sumOf_21 (by decide) (fun c22 => ?_) (fun c22 => ?_)
    · have h := zif_f c22 h
      refine g_aload_n (pc := 26) C 0 0 dX9_sumOf_26 rfl rfl ?_
      refine g_iconst (v := 1) (pc := 27) C dX9_sumOf_27 (by decide) ?_
      obtain ⟨σ8, hvσ8, h⟩ := zbind h
      refine g_putZ (N := 58) (pc := 28) C ⟨ck_9, rfl, tyX9_ok⟩ hvσ8 rfl fl_X9_330 rfl rfl dX9_sumOf_28 ?_
      refine g_aload_n (pc := 31) C 0 0 dX9_sumOf_31 rfl rfl ?_
      refine g_aload_n (pc := 32) C 0 0 dX9_sumOf_32 rfl rfl ?_
      obtain ⟨r9, hvr9, h⟩ := zbind h
      refine g_getR (N := 58) (pc := 33) C ck_9 hvr9 rfl rfl fl_X9_146 dX9_sumOf_33 ?_
      refine g_iload_n (pc := 36) C 1 1 dX9_sumOf_36 rfl rfl ?_
      obtain ⟨a10, hqa10, h9⟩ := zbind h
      clear h
      subst hqa10
      have h := h9
      clear h9
      obtain ⟨v11, hvv11, h⟩ := zbind h
      refine g_iald (pc := 37) C hvv11 dX9_sumOf_37 ?_
      refine g_aload_n (pc := 38) C 0 0 dX9_sumOf_38 rfl rfl ?_
      obtain ⟨r12, hvr12, h⟩ := zbind h
      refine g_getR (N := 58) (pc := 39) C ck_9 hvr12 rfl rfl fl_X9_146 dX9_sumOf_39 ?_
      refine g_iload_n (pc := 42) C 1 1 dX9_sumOf_42 rfl rfl ?_
      refine g_iconst (v := 1) (pc := 43) C dX9_sumOf_43 (by decide) ?_
      refine g_iadd (pc := 44) C dX9_sumOf_44 ?_
      obtain ⟨a13, hqa13, h9⟩ := zbind h
      clear h
      subst hqa13
      have h := h9
      clear h9
      obtain ⟨v14, hvv14, h⟩ := zbind h
      refine g_iald (pc := 45) C hvv14 dX9_sumOf_45 ?_
      obtain ⟨u15, hvu15, h⟩ := zbind h
      obtain ⟨v17, σ16, hvσ16, h⟩ := zcb h
      refine g_callV (pc := 46) (av := [tI (v11), tI (v14)]) C (c_X9_reckonAll hE hvσ16) yv_X9_reckonAll ml_X9_421 ck_9 (zopt hvu15).1 rfl (rf_of (by decide)) rfl (Nat.le_of_ble_eq_true rfl) dX9_sumOf_46 ?_
      refine g_aload_n (pc := 49) C 0 0 dX9_sumOf_49 rfl rfl ?_
      refine g_iconst (v := 0) (pc := 50) C dX9_sumOf_50 (by decide) ?_
      obtain ⟨σ18, hvσ18, h⟩ := zbind h
      refine g_putZ (N := 58) (pc := 51) C ⟨ck_9, rfl, tyX9_ok⟩ hvσ18 rfl fl_X9_330 rfl rfl dX9_sumOf_51 ?_
      refine g_aload_n (pc := 54) C 0 0 dX9_sumOf_54 rfl rfl ?_
      refine g_aload_n (pc := 55) C 0 0 dX9_sumOf_55 rfl rfl ?_
      obtain ⟨v19, hvv19, h⟩ := zbind h
      refine g_getI (N := 58) (pc := 56) C ck_9 hvv19 rfl rfl fl_X9_404 dX9_sumOf_56 ?_
      obtain ⟨σ20, hvσ20, h⟩ := zbind h
      refine g_putZ (N := 58) (pc := 59) C ⟨ck_9, rfl, tyX9_ok⟩ hvσ20 rfl fl_X9_507 rfl rfl dX9_sumOf_59 ?_
      refine g_aload_n (pc := 62) C 0 0 dX9_sumOf_62 rfl rfl ?_
      obtain ⟨v21, hvv21, h⟩ := zbind h
      refine g_getJ (N := 58) (pc := 63) C ck_9 hvv21 rfl rfl fl_X9_418 dX9_sumOf_63 ?_
      refine g_l2i (pc := 66) C dX9_sumOf_66 ?_
      obtain ⟨rfl, rfl⟩ := zsome h
      exact g_iret (pc := 67) C rfl hx (by rw [hxn]; rfl) (by rw [hxn]; rfl) dX9_sumOf_67
    · have h := zif_t c22 h
      refine g_iconst (v := (-1)) (pc := 24) C dX9_sumOf_24 (by decide) ?_
      obtain ⟨rfl, rfl⟩ := zsome h
      exact g_iret (pc := 25) C rfl hx (by rw [hxn]; rfl) (by rw [hxn]; rfl) dX9_sumOf_25
def rm_X9_act : Room := { frames := 9, cells := 0, slots := 0, locals := 212 }
noncomputable def s_X9_act (h0 : Nat) (p1 : Int32) (p2 : Int32) (p3 : Int32) (σ : Hp) : Option (Int32 × Hp) :=
  if p1 = 0 then
    (ck 9 σ h0).bind fun u1 =>
    cb (s_X9_strideNow h0 (p2) (p3) σ) fun v3 σ2 =>
    some ((v3), σ2)
  else
    if p1 = 1 then
      (ck 9 σ h0).bind fun u5 =>
      cb (s_X9_putNow h0 (p2) (p3) σ) fun v7 σ6 =>
      some ((v7), σ6)
    else
      if p1 = 2 then
        (ck 9 σ h0).bind fun u9 =>
        cb (s_X9_doorNow h0 (p2) (p3) σ) fun v11 σ10 =>
        some ((v11), σ10)
      else
        (ck 9 σ h0).bind fun u13 =>
        cb (s_X9_passNow h0 σ) fun v15 σ14 =>
        some ((v15), σ14)
set_option maxRecDepth 100000 in
theorem c_X9_act {E : E0} (hE : EOK E) {h0 : Nat} {p1 : Int32} {p2 : Int32} {p3 : Int32} {σ σ1 : Hp} {r : Int32} (h : s_X9_act h0 p1 p2 p3 σ = some (r, σ1)) : CT E yX9_act (.code yX9_act cX9_act 4 (some .int)) rm_X9_act [tR (some (h0)), tI (p1), tI (p2), tI (p3)] σ (some (tI r)) σ1 := by
  refine CT.mk hE (by decide +kernel) (Nat.le_of_ble_eq_true rfl) [(0, tR (some (h0))), (1, tI (p1)), (2, tI (p2)), (3, tI (p3))] rfl (fun X C hin hx hxn => ?_)
  have C : XOK E X cX9_act RX9 4 (some .int) rm_X9_act := C
  unfold s_X9_act at h
  refine g_iload_n (pc := 0) C 1 1 dX9_act_0 rfl rfl ?_
  by_cases c4 : p1 = 0
  · refine g_tswIn (pc := 1) C 28 dX9_act_1 (by rw [c4]; decide) (by rw [c4]; decide) (by rw [c4]; rfl) (by decide) ?_
    have h := zif_t c4 h
    refine g_aload_n (pc := 28) C 0 0 dX9_act_28 rfl rfl ?_
    refine g_iload_n (pc := 29) C 2 2 dX9_act_29 rfl rfl ?_
    refine g_iload_n (pc := 30) C 3 3 dX9_act_30 rfl rfl ?_
    obtain ⟨u1, hvu1, h⟩ := zbind h
    obtain ⟨v3, σ2, hvσ2, h⟩ := zcb h
    refine g_callV (pc := 31) (av := [tI (p2), tI (p3)]) C (c_X9_strideNow hE hvσ2) yv_X9_strideNow ml_X9_445 ck_9 (zopt hvu1).1 rfl (rf_of (by decide)) rfl (Nat.le_of_ble_eq_true rfl) dX9_act_31 ?_
    obtain ⟨rfl, rfl⟩ := zsome h
    exact g_iret (pc := 34) C rfl hx (by rw [hxn]; rfl) (by rw [hxn]; rfl) dX9_act_34
  · have h := zif_f c4 h
    by_cases c8 : p1 = 1
    · refine g_tswIn (pc := 1) C 35 dX9_act_1 (by rw [c8]; decide) (by rw [c8]; decide) (by rw [c8]; rfl) (by decide) ?_
      have h := zif_t c8 h
      refine g_aload_n (pc := 35) C 0 0 dX9_act_35 rfl rfl ?_
      refine g_iload_n (pc := 36) C 2 2 dX9_act_36 rfl rfl ?_
      refine g_iload_n (pc := 37) C 3 3 dX9_act_37 rfl rfl ?_
      obtain ⟨u5, hvu5, h⟩ := zbind h
      obtain ⟨v7, σ6, hvσ6, h⟩ := zcb h
      refine g_callV (pc := 38) (av := [tI (p2), tI (p3)]) C (c_X9_putNow hE hvσ6) yv_X9_putNow ml_X9_448 ck_9 (zopt hvu5).1 rfl (rf_of (by decide)) rfl (Nat.le_of_ble_eq_true rfl) dX9_act_38 ?_
      obtain ⟨rfl, rfl⟩ := zsome h
      exact g_iret (pc := 41) C rfl hx (by rw [hxn]; rfl) (by rw [hxn]; rfl) dX9_act_41
    · have h := zif_f c8 h
      by_cases c12 : p1 = 2
      · refine g_tswIn (pc := 1) C 42 dX9_act_1 (by rw [c12]; decide) (by rw [c12]; decide) (by rw [c12]; rfl) (by decide) ?_
        have h := zif_t c12 h
        refine g_aload_n (pc := 42) C 0 0 dX9_act_42 rfl rfl ?_
        refine g_iload_n (pc := 43) C 2 2 dX9_act_43 rfl rfl ?_
        refine g_iload_n (pc := 44) C 3 3 dX9_act_44 rfl rfl ?_
        obtain ⟨u9, hvu9, h⟩ := zbind h
        obtain ⟨v11, σ10, hvσ10, h⟩ := zcb h
        refine g_callV (pc := 45) (av := [tI (p2), tI (p3)]) C (c_X9_doorNow hE hvσ10) yv_X9_doorNow ml_X9_451 ck_9 (zopt hvu9).1 rfl (rf_of (by decide)) rfl (Nat.le_of_ble_eq_true rfl) dX9_act_45 ?_
        obtain ⟨rfl, rfl⟩ := zsome h
        exact g_iret (pc := 48) C rfl hx (by rw [hxn]; rfl) (by rw [hxn]; rfl) dX9_act_48
      · have h := zif_f c12 h
        refine g_tswOut (pc := 1) C 49 dX9_act_1 (by have ec4 := n32 (k := 0) (n := 0) (by decide) c4; have ec8 := n32 (k := 1) (n := 1) (by decide) c8; have ec12 := n32 (k := 2) (n := 2) (by decide) c12; omega) (by decide) ?_
        refine g_aload_n (pc := 49) C 0 0 dX9_act_49 rfl rfl ?_
        obtain ⟨u13, hvu13, h⟩ := zbind h
        obtain ⟨v15, σ14, hvσ14, h⟩ := zcb h
        refine g_callV (pc := 50) (av := []) C (c_X9_passNow hE hvσ14) yv_X9_passNow ml_X9_460 ck_9 (zopt hvu13).1 rfl (rf_of (by decide)) rfl (Nat.le_of_ble_eq_true rfl) dX9_act_50 ?_
        obtain ⟨rfl, rfl⟩ := zsome h
        exact g_iret (pc := 53) C rfl hx (by rw [hxn]; rfl) (by rw [hxn]; rfl) dX9_act_53
def rm_X9_run : Room := { frames := 10, cells := 0, slots := 0, locals := 235 }
noncomputable def s_X9_run_j181 (h0 : Nat) (t0 : Option Nat) (t1 : Int32) (σ : Hp) : Option (Int32 × Hp) :=
  (t0).bind fun a1 =>
  (wrI 9 σ a1 51 (t1)).bind fun σ2 =>
  (rdI 9 σ2 h0 50).bind fun v3 =>
  (wrI 9 σ2 h0 50 (v3 + 1)).bind fun σ4 =>
  some ((0), σ4)
set_option maxRecDepth 100000 in
theorem w_X9_run_j181 {E : E0} (hE : EOK E) {X : X0} (C : XOK E X cX9_run RX9 5 (some .int) rm_X9_run) (hxn : xn X = (rm_X9_run.cells, rm_X9_run.slots)) (h0 : Nat) (t0 : Option Nat) (t1 : Int32) (σ : Hp) (r : Int32) (σ1 : Hp) (h : s_X9_run_j181 h0 t0 t1 σ = some (r, σ1)) (hx : xd X = (some (tI r), σ1)) : G E X 0 0 181 [(0, tR (some (h0)))] [tI (t1), tR (t0)] σ := by
  unfold s_X9_run_j181 at h
  obtain ⟨a1, hqa1, h9⟩ := zbind h
  clear h
  subst hqa1
  have h := h9
  clear h9
  obtain ⟨σ2, hvσ2, h⟩ := zbind h
  refine g_putI (N := 58) (pc := 181) C ⟨ck_9, rfl, tyX9_ok⟩ hvσ2 rfl fl_X9_513 rfl rfl dX9_run_181 ?_
  refine g_aload_n (pc := 184) C 0 0 dX9_run_184 rfl rfl ?_
  refine g_dup (pc := 185) C dX9_run_185 rfl ?_
  obtain ⟨v3, hvv3, h⟩ := zbind h
  refine g_getI (N := 58) (pc := 186) C ck_9 hvv3 rfl rfl fl_X9_510 dX9_run_186 ?_
  refine g_iconst (v := 1) (pc := 189) C dX9_run_189 (by decide) ?_
  refine g_iadd (pc := 190) C dX9_run_190 ?_
  obtain ⟨σ4, hvσ4, h⟩ := zbind h
  refine g_putI (N := 58) (pc := 191) C ⟨ck_9, rfl, tyX9_ok⟩ hvσ4 rfl fl_X9_510 rfl rfl dX9_run_191 ?_
  refine g_iconst (v := 0) (pc := 194) C dX9_run_194 (by decide) ?_
  obtain ⟨rfl, rfl⟩ := zsome h
  exact g_iret (pc := 195) C rfl hx (by rw [hxn]; rfl) (by rw [hxn]; rfl) dX9_run_195
noncomputable def s_X9_run_j113 (h0 : Nat) (l1 : Int32) (σ : Hp) : Option (Int32 × Hp) :=
  (ck 9 σ h0).bind fun u1 =>
  cb (s_X9_sumOf h0 (l1 + 1) σ) fun v3 σ2 =>
  (ck 9 σ2 h0).bind fun u4 =>
  cb (s_X9_sumOf h0 (l1 + 3) σ2) fun v6 σ5 =>
  (rdI 9 σ5 h0 53).bind fun v7 =>
  if v7 = 0 then
    (rdR 9 σ5 h0 49).bind fun r8 =>
    (r8).bind fun a9 =>
    (ldI 11 σ5 a9 (l1)).bind fun v10 =>
    (ck 9 σ5 h0).bind fun u11 =>
    cb (s_X9_act h0 (v10) (v3) (v6) σ5) fun v13 σ12 =>
    if 0 ≤ v13 then
      (rdR 9 σ12 h0 49).bind fun r14 =>
      (r14).bind fun a15 =>
      (ldI 11 σ12 a15 (l1)).bind fun v16 =>
      if v16 = 3 then
        s_X9_run_j181 (h0) (some (h0)) (v13) σ12
      else
        (rdI 9 σ12 h0 51).bind fun v17 =>
        s_X9_run_j181 (h0) (some (h0)) (v17) σ12
    else
      some (((-3)), σ12)
  else
    some (((-3)), σ5)
set_option maxRecDepth 100000 in
theorem w_X9_run_j113 {E : E0} (hE : EOK E) {X : X0} (C : XOK E X cX9_run RX9 5 (some .int) rm_X9_run) (hxn : xn X = (rm_X9_run.cells, rm_X9_run.slots)) (h0 : Nat) (l1 : Int32) (σ : Hp) (r : Int32) (σ1 : Hp) (h : s_X9_run_j113 h0 l1 σ = some (r, σ1)) (hx : xd X = (some (tI r), σ1)) : G E X 0 0 113 [(0, tR (some (h0))), (1, tI (l1))] [] σ := by
  unfold s_X9_run_j113 at h
  refine g_aload_n (pc := 113) C 0 0 dX9_run_113 rfl rfl ?_
  refine g_iload_n (pc := 114) C 1 1 dX9_run_114 rfl rfl ?_
  refine g_iconst (v := 1) (pc := 115) C dX9_run_115 (by decide) ?_
  refine g_iadd (pc := 116) C dX9_run_116 ?_
  obtain ⟨u1, hvu1, h⟩ := zbind h
  obtain ⟨v3, σ2, hvσ2, h⟩ := zcb h
  refine g_callV (pc := 117) (av := [tI (l1 + 1)]) C (c_X9_sumOf hE hvσ2) yv_X9_sumOf ml_X9_516 ck_9 (zopt hvu1).1 rfl (rf_of (by decide)) rfl (Nat.le_of_ble_eq_true rfl) dX9_run_117 ?_
  refine g_istore_n (lm' := [(2, tI (v3)), (0, tR (some (h0))), (1, tI (l1))]) (pc := 120) C 2 dX9_run_120 rfl (by decide) rfl ?_
  refine g_aload_n (pc := 121) C 0 1 dX9_run_121 rfl rfl ?_
  refine g_iload_n (pc := 122) C 1 2 dX9_run_122 rfl rfl ?_
  refine g_iconst (v := 3) (pc := 123) C dX9_run_123 (by decide) ?_
  refine g_iadd (pc := 124) C dX9_run_124 ?_
  obtain ⟨u4, hvu4, h⟩ := zbind h
  obtain ⟨v6, σ5, hvσ5, h⟩ := zcb h
  refine g_callV (pc := 125) (av := [tI (l1 + 3)]) C (c_X9_sumOf hE hvσ5) yv_X9_sumOf ml_X9_516 ck_9 (zopt hvu4).1 rfl (rf_of (by decide)) rfl (Nat.le_of_ble_eq_true rfl) dX9_run_125 ?_
  refine g_istore_n (lm' := [(3, tI (v6)), (2, tI (v3)), (0, tR (some (h0))), (1, tI (l1))]) (pc := 128) C 3 dX9_run_128 rfl (by decide) rfl ?_
  refine g_aload_n (pc := 129) C 0 2 dX9_run_129 rfl rfl ?_
  obtain ⟨v7, hvv7, h⟩ := zbind h
  refine g_getI (N := 58) (pc := 130) C ck_9 hvv7 rfl rfl fl_X9_507 dX9_run_130 ?_
  refine g_if_eq (pc := 133) C 139 dX9_run_133 (by decide) (fun c20 => ?_) (fun c20 => ?_)
  · have h := zif_t c20 h
    refine g_aload_n (pc := 139) C 0 2 dX9_run_139 rfl rfl ?_
    refine g_aload_n (pc := 140) C 0 2 dX9_run_140 rfl rfl ?_
    obtain ⟨r8, hvr8, h⟩ := zbind h
    refine g_getR (N := 58) (pc := 141) C ck_9 hvr8 rfl rfl fl_X9_146 dX9_run_141 ?_
    refine g_iload_n (pc := 144) C 1 3 dX9_run_144 rfl rfl ?_
    obtain ⟨a9, hqa9, h9⟩ := zbind h
    clear h
    subst hqa9
    have h := h9
    clear h9
    obtain ⟨v10, hvv10, h⟩ := zbind h
    refine g_iald (pc := 145) C hvv10 dX9_run_145 ?_
    refine g_iload_n (pc := 146) C 2 1 dX9_run_146 rfl rfl ?_
    refine g_iload_n (pc := 147) C 3 0 dX9_run_147 rfl rfl ?_
    obtain ⟨u11, hvu11, h⟩ := zbind h
    obtain ⟨v13, σ12, hvσ12, h⟩ := zcb h
    refine g_callV (pc := 148) (av := [tI (v10), tI (v3), tI (v6)]) C (c_X9_act hE hvσ12) yv_X9_act ml_X9_519 ck_9 (zopt hvu11).1 rfl (rf_of (by decide)) rfl (Nat.le_of_ble_eq_true rfl) dX9_run_148 ?_
    refine g_istore (lm' := [(4, tI (v13)), (3, tI (v6)), (2, tI (v3)), (0, tR (some (h0))), (1, tI (l1))]) (pc := 151) C dX9_run_151 (by decide) rfl ?_
    refine g_iload (pc := 153) C 0 dX9_run_153 rfl ?_
    refine g_if_ge (pc := 155) C 161 dX9_run_155 (by decide) (fun c19 => ?_) (fun c19 => ?_)
    · have h := zif_t c19 h
      refine g_aload_n (pc := 161) C 0 3 dX9_run_161 rfl rfl ?_
      refine g_aload_n (pc := 162) C 0 3 dX9_run_162 rfl rfl ?_
      obtain ⟨r14, hvr14, h⟩ := zbind h
      refine g_getR (N := 58) (pc := 163) C ck_9 hvr14 rfl rfl fl_X9_146 dX9_run_163 ?_
      refine g_iload_n (pc := 166) C 1 4 dX9_run_166 rfl rfl ?_
      obtain ⟨a15, hqa15, h9⟩ := zbind h
      clear h
      subst hqa15
      have h := h9
      clear h9
      obtain ⟨v16, hvv16, h⟩ := zbind h
      refine g_iald (pc := 167) C hvv16 dX9_run_167 ?_
      refine g_iconst (v := 3) (pc := 168) C dX9_run_168 (by decide) ?_
      refine g_icmp_ne (pc := 169) C 177 dX9_run_169 (by decide) (fun c18 => ?_) (fun c18 => ?_)
      · have h := zif_f c18 h
        refine g_aload_n (pc := 177) C 0 3 dX9_run_177 rfl rfl ?_
        obtain ⟨v17, hvv17, h⟩ := zbind h
        refine g_getI (N := 58) (pc := 178) C ck_9 hvv17 rfl rfl fl_X9_513 dX9_run_178 ?_
        refine g_sub [3] (lm' := [(0, tR (some (h0)))]) rfl ?_
        exact w_X9_run_j181 hE C hxn _ _ _ _ _ _ h hx
      · have h := zif_t c18 h
        refine g_iload (pc := 172) C 0 dX9_run_172 rfl ?_
        refine g_goto (pc := 174) C 181 dX9_run_174 (by decide) ?_
        refine g_sub [3] (lm' := [(0, tR (some (h0)))]) rfl ?_
        exact w_X9_run_j181 hE C hxn _ _ _ _ _ _ h hx
    · have h := zif_f c19 h
      refine g_bipush (v := (-3)) (pc := 158) C dX9_run_158 (by decide) ?_
      obtain ⟨rfl, rfl⟩ := zsome h
      exact g_iret (pc := 160) C rfl hx (by rw [hxn]; rfl) (by rw [hxn]; rfl) dX9_run_160
  · have h := zif_f c20 h
    refine g_bipush (v := (-3)) (pc := 136) C dX9_run_136 (by decide) ?_
    obtain ⟨rfl, rfl⟩ := zsome h
    exact g_iret (pc := 138) C rfl hx (by rw [hxn]; rfl) (by rw [hxn]; rfl) dX9_run_138
noncomputable def s_X9_run (h0 : Nat) (p1 : Int32) (σ : Hp) : Option (Int32 × Hp) :=
  (rdR 9 σ h0 36).bind fun r1 =>
  (rdR 9 σ h0 3).bind fun r2 =>
  (r2).bind fun a3 =>
  (ldI 11 σ a3 (7)).bind fun v4 =>
  (r1).bind fun a5 =>
  (stJ σ a5 (1) (Int32.toInt64 (v4 : Int32))).bind fun σ6 =>
  (rdR 9 σ6 h0 36).bind fun r7 =>
  (rdI 9 σ6 h0 50).bind fun v8 =>
  (r7).bind fun a9 =>
  (stJ σ6 a9 (2) (Int32.toInt64 (v8 : Int32))).bind fun σ10 =>
  (rdR 9 σ10 h0 36).bind fun r11 =>
  (rdI 9 σ10 h0 51).bind fun v12 =>
  (r11).bind fun a13 =>
  (stJ σ10 a13 (3) (Int32.toInt64 (v12 : Int32))).bind fun σ14 =>
  (rdR 9 σ14 h0 36).bind fun r15 =>
  (rdR 9 σ14 h0 3).bind fun r16 =>
  (r16).bind fun a17 =>
  (ldI 11 σ14 a17 (10)).bind fun v18 =>
  (r15).bind fun a19 =>
  (stJ σ14 a19 (4) (Int32.toInt64 (v18 : Int32))).bind fun σ20 =>
  (rdR 9 σ20 h0 36).bind fun r21 =>
  (rdR 9 σ20 h0 3).bind fun r22 =>
  (r22).bind fun a23 =>
  (ldI 11 σ20 a23 (7)).bind fun v24 =>
  (r21).bind fun a25 =>
  (stJ σ20 a25 (5) (Int32.toInt64 (v24 - v24 / 24 * 24 : Int32))).bind fun σ26 =>
  (wrZ 9 σ26 h0 53 (0)).bind fun σ27 =>
  (rdR 9 σ27 h0 49).bind fun r28 =>
  (r28).bind fun a29 =>
  (ldI 11 σ27 a29 (p1 + 5)).bind fun v30 =>
  (rdR 9 σ27 h0 49).bind fun r31 =>
  (r31).bind fun a32 =>
  (ldI 11 σ27 a32 (p1 + 6)).bind fun v33 =>
  if v33 ≤ v30 then
    s_X9_run_j113 (h0) (p1) σ27
  else
    (ck 9 σ27 h0).bind fun u34 =>
    cb (s_X9_sumOf h0 (p1 + 5) σ27) fun v36 σ35 =>
    (rdI 9 σ35 h0 53).bind fun v37 =>
    if v37 = 0 then
      if v36 = 0 then
        some ((0), σ35)
      else
        s_X9_run_j113 (h0) (p1) σ35
    else
      some ((0), σ35)
set_option maxRecDepth 100000 in
theorem c_X9_run {E : E0} (hE : EOK E) {h0 : Nat} {p1 : Int32} {σ σ1 : Hp} {r : Int32} (h : s_X9_run h0 p1 σ = some (r, σ1)) : CT E yX9_run (.code yX9_run cX9_run 5 (some .int)) rm_X9_run [tR (some (h0)), tI (p1)] σ (some (tI r)) σ1 := by
  refine CT.mk hE (by decide +kernel) (Nat.le_of_ble_eq_true rfl) [(0, tR (some (h0))), (1, tI (p1))] rfl (fun X C hin hx hxn => ?_)
  have C : XOK E X cX9_run RX9 5 (some .int) rm_X9_run := C
  unfold s_X9_run at h
  refine g_aload_n (pc := 0) C 0 0 dX9_run_0 rfl rfl ?_
  obtain ⟨r1, hvr1, h⟩ := zbind h
  refine g_getR (N := 58) (pc := 1) C ck_9 hvr1 rfl rfl fl_X9_104 dX9_run_1 ?_
  refine g_iconst (v := 1) (pc := 4) C dX9_run_4 (by decide) ?_
  refine g_aload_n (pc := 5) C 0 0 dX9_run_5 rfl rfl ?_
  obtain ⟨r2, hvr2, h⟩ := zbind h
  refine g_getR (N := 58) (pc := 6) C ck_9 hvr2 rfl rfl fl_X9_13 dX9_run_6 ?_
  refine g_bipush (v := 7) (pc := 9) C dX9_run_9 (by decide) ?_
  obtain ⟨a3, hqa3, h9⟩ := zbind h
  clear h
  subst hqa3
  have h := h9
  clear h9
  obtain ⟨v4, hvv4, h⟩ := zbind h
  refine g_iald (pc := 11) C hvv4 dX9_run_11 ?_
  refine g_i2l (pc := 12) C dX9_run_12 ?_
  obtain ⟨a5, hqa5, h9⟩ := zbind h
  clear h
  subst hqa5
  have h := h9
  clear h9
  obtain ⟨σ6, hvσ6, h⟩ := zbind h
  refine g_last (pc := 13) C hvσ6 dX9_run_13 ?_
  refine g_aload_n (pc := 14) C 0 0 dX9_run_14 rfl rfl ?_
  obtain ⟨r7, hvr7, h⟩ := zbind h
  refine g_getR (N := 58) (pc := 15) C ck_9 hvr7 rfl rfl fl_X9_104 dX9_run_15 ?_
  refine g_iconst (v := 2) (pc := 18) C dX9_run_18 (by decide) ?_
  refine g_aload_n (pc := 19) C 0 0 dX9_run_19 rfl rfl ?_
  obtain ⟨v8, hvv8, h⟩ := zbind h
  refine g_getI (N := 58) (pc := 20) C ck_9 hvv8 rfl rfl fl_X9_510 dX9_run_20 ?_
  refine g_i2l (pc := 23) C dX9_run_23 ?_
  obtain ⟨a9, hqa9, h9⟩ := zbind h
  clear h
  subst hqa9
  have h := h9
  clear h9
  obtain ⟨σ10, hvσ10, h⟩ := zbind h
  refine g_last (pc := 24) C hvσ10 dX9_run_24 ?_
  refine g_aload_n (pc := 25) C 0 0 dX9_run_25 rfl rfl ?_
  obtain ⟨r11, hvr11, h⟩ := zbind h
  refine g_getR (N := 58) (pc := 26) C ck_9 hvr11 rfl rfl fl_X9_104 dX9_run_26 ?_
  refine g_iconst (v := 3) (pc := 29) C dX9_run_29 (by decide) ?_
  refine g_aload_n (pc := 30) C 0 0 dX9_run_30 rfl rfl ?_
  obtain ⟨v12, hvv12, h⟩ := zbind h
  refine g_getI (N := 58) (pc := 31) C ck_9 hvv12 rfl rfl fl_X9_513 dX9_run_31 ?_
  refine g_i2l (pc := 34) C dX9_run_34 ?_
  obtain ⟨a13, hqa13, h9⟩ := zbind h
  clear h
  subst hqa13
  have h := h9
  clear h9
  obtain ⟨σ14, hvσ14, h⟩ := zbind h
  refine g_last (pc := 35) C hvσ14 dX9_run_35 ?_
  refine g_aload_n (pc := 36) C 0 0 dX9_run_36 rfl rfl ?_
  obtain ⟨r15, hvr15, h⟩ := zbind h
  refine g_getR (N := 58) (pc := 37) C ck_9 hvr15 rfl rfl fl_X9_104 dX9_run_37 ?_
  refine g_iconst (v := 4) (pc := 40) C dX9_run_40 (by decide) ?_
  refine g_aload_n (pc := 41) C 0 0 dX9_run_41 rfl rfl ?_
  obtain ⟨r16, hvr16, h⟩ := zbind h
  refine g_getR (N := 58) (pc := 42) C ck_9 hvr16 rfl rfl fl_X9_13 dX9_run_42 ?_
  refine g_bipush (v := 10) (pc := 45) C dX9_run_45 (by decide) ?_
  obtain ⟨a17, hqa17, h9⟩ := zbind h
  clear h
  subst hqa17
  have h := h9
  clear h9
  obtain ⟨v18, hvv18, h⟩ := zbind h
  refine g_iald (pc := 47) C hvv18 dX9_run_47 ?_
  refine g_i2l (pc := 48) C dX9_run_48 ?_
  obtain ⟨a19, hqa19, h9⟩ := zbind h
  clear h
  subst hqa19
  have h := h9
  clear h9
  obtain ⟨σ20, hvσ20, h⟩ := zbind h
  refine g_last (pc := 49) C hvσ20 dX9_run_49 ?_
  refine g_aload_n (pc := 50) C 0 0 dX9_run_50 rfl rfl ?_
  obtain ⟨r21, hvr21, h⟩ := zbind h
  refine g_getR (N := 58) (pc := 51) C ck_9 hvr21 rfl rfl fl_X9_104 dX9_run_51 ?_
  refine g_iconst (v := 5) (pc := 54) C dX9_run_54 (by decide) ?_
  refine g_aload_n (pc := 55) C 0 0 dX9_run_55 rfl rfl ?_
  obtain ⟨r22, hvr22, h⟩ := zbind h
  refine g_getR (N := 58) (pc := 56) C ck_9 hvr22 rfl rfl fl_X9_13 dX9_run_56 ?_
  refine g_bipush (v := 7) (pc := 59) C dX9_run_59 (by decide) ?_
  obtain ⟨a23, hqa23, h9⟩ := zbind h
  clear h
  subst hqa23
  have h := h9
  clear h9
  obtain ⟨v24, hvv24, h⟩ := zbind h
  refine g_iald (pc := 61) C hvv24 dX9_run_61 ?_
  refine g_bipush (v := 24) (pc := 62) C dX9_run_62 (by decide) ?_
  refine g_irem (pc := 64) C dX9_run_64 (by decide) ?_
  refine g_i2l (pc := 65) C dX9_run_65 ?_
  obtain ⟨a25, hqa25, h9⟩ := zbind h
  clear h
  subst hqa25
  have h := h9
  clear h9
  obtain ⟨σ26, hvσ26, h⟩ := zbind h
  refine g_last (pc := 66) C hvσ26 dX9_run_66 ?_
  refine g_aload_n (pc := 67) C 0 0 dX9_run_67 rfl rfl ?_
  refine g_iconst (v := 0) (pc := 68) C dX9_run_68 (by decide) ?_
  obtain ⟨σ27, hvσ27, h⟩ := zbind h
  refine g_putZ (N := 58) (pc := 69) C ⟨ck_9, rfl, tyX9_ok⟩ hvσ27 rfl fl_X9_507 rfl rfl dX9_run_69 ?_
  refine g_aload_n (pc := 72) C 0 0 dX9_run_72 rfl rfl ?_
  obtain ⟨r28, hvr28, h⟩ := zbind h
  refine g_getR (N := 58) (pc := 73) C ck_9 hvr28 rfl rfl fl_X9_146 dX9_run_73 ?_
  refine g_iload_n (pc := 76) C 1 1 dX9_run_76 rfl rfl ?_
  refine g_iconst (v := 5) (pc := 77) C dX9_run_77 (by decide) ?_
  refine g_iadd (pc := 78) C dX9_run_78 ?_
  obtain ⟨a29, hqa29, h9⟩ := zbind h
  clear h
  subst hqa29
  have h := h9
  clear h9
  obtain ⟨v30, hvv30, h⟩ := zbind h
  refine g_iald (pc := 79) C hvv30 dX9_run_79 ?_
  refine g_aload_n (pc := 80) C 0 0 dX9_run_80 rfl rfl ?_
  obtain ⟨r31, hvr31, h⟩ := zbind h
  refine g_getR (N := 58) (pc := 81) C ck_9 hvr31 rfl rfl fl_X9_146 dX9_run_81 ?_
  refine g_iload_n (pc := 84) C 1 1 dX9_run_84 rfl rfl ?_
  refine g_bipush (v := 6) (pc := 85) C dX9_run_85 (by decide) ?_
  refine g_iadd (pc := 87) C dX9_run_87 ?_
  obtain ⟨a32, hqa32, h9⟩ := zbind h
  clear h
  subst hqa32
  have h := h9
  clear h9
  obtain ⟨v33, hvv33, h⟩ := zbind h
  refine g_iald (pc := 88) C hvv33 dX9_run_88 ?_
  refine g_icmp_ge (pc := 89) C 113 dX9_run_89 (by decide) (fun c40 => ?_) (fun c40 => ?_)
  · have h := zif_t c40 h
    exact w_X9_run_j113 hE C hxn _ _ _ _ _ h hx
  · have h := zif_f c40 h
    refine g_aload_n (pc := 92) C 0 0 dX9_run_92 rfl rfl ?_
    refine g_iload_n (pc := 93) C 1 1 dX9_run_93 rfl rfl ?_
    refine g_iconst (v := 5) (pc := 94) C dX9_run_94 (by decide) ?_
    refine g_iadd (pc := 95) C dX9_run_95 ?_
    obtain ⟨u34, hvu34, h⟩ := zbind h
    obtain ⟨v36, σ35, hvσ35, h⟩ := zcb h
    refine g_callV (pc := 96) (av := [tI (p1 + 5)]) C (c_X9_sumOf hE hvσ35) yv_X9_sumOf ml_X9_516 ck_9 (zopt hvu34).1 rfl (rf_of (by decide)) rfl (Nat.le_of_ble_eq_true rfl) dX9_run_96 ?_
    refine g_istore_n (lm' := [(2, tI (v36)), (0, tR (some (h0))), (1, tI (p1))]) (pc := 99) C 2 dX9_run_99 rfl (by decide) rfl ?_
    refine g_aload_n (pc := 100) C 0 1 dX9_run_100 rfl rfl ?_
    obtain ⟨v37, hvv37, h⟩ := zbind h
    refine g_getI (N := 58) (pc := 101) C ck_9 hvv37 rfl rfl fl_X9_507 dX9_run_101 ?_
    refine g_if_ne (pc := 104) C 111 dX9_run_104 (by decide) (fun c39 => ?_) (fun c39 => ?_)
    · have h := zif_f c39 h
      refine g_iconst (v := 0) (pc := 111) C dX9_run_111 (by decide) ?_
      obtain ⟨rfl, rfl⟩ := zsome h
      exact g_iret (pc := 112) C rfl hx (by rw [hxn]; rfl) (by rw [hxn]; rfl) dX9_run_112
    · have h := zif_t c39 h
      refine g_iload_n (pc := 107) C 2 0 dX9_run_107 rfl rfl ?_
      refine g_if_ne (pc := 108) C 113 dX9_run_108 (by decide) (fun c38 => ?_) (fun c38 => ?_)
      · have h := zif_f c38 h
        refine g_sub [1, 2] (lm' := [(0, tR (some (h0))), (1, tI (p1))]) rfl ?_
        exact w_X9_run_j113 hE C hxn _ _ _ _ _ h hx
      · have h := zif_t c38 h
        refine g_iconst (v := 0) (pc := 111) C dX9_run_111 (by decide) ?_
        obtain ⟨rfl, rfl⟩ := zsome h
        exact g_iret (pc := 112) C rfl hx (by rw [hxn]; rfl) (by rw [hxn]; rfl) dX9_run_112
def rm_X9_giveBack : Room := { frames := 1, cells := 0, slots := 0, locals := 22 }
noncomputable def s_X9_giveBack_b8 (h0 : Nat) (l1 : Int32) (l2 : Int32) (σ : Hp) : Option (((Nat × Int32 × Int32) ⊕ ((Nat × Int32))) × Hp) :=
  if 368 ≤ l2 then
    some (Sum.inr ((h0), (l1)), σ)
  else
    (rdR 9 σ h0 6).bind fun r1 =>
    (rdR 9 σ h0 9).bind fun r2 =>
    (r2).bind fun a3 =>
    (ldI 11 σ a3 (l2)).bind fun v4 =>
    (r1).bind fun a5 =>
    (stI σ a5 (l2) (v4)).bind fun σ6 =>
    some (Sum.inl ((h0), (l1), (l2 + 1)), σ6)
noncomputable def s_X9_giveBack_l8 : (Nat × Int32 × Int32) → Hp → Option (((Nat × Int32)) × Hp) := loopF (fun v => s_X9_giveBack_b8 (v.1) (v.2.1) (v.2.2))
set_option maxRecDepth 100000 in
theorem w_X9_giveBack_b8 {E : E0} (hE : EOK E) {X : X0} (C : XOK E X cX9_giveBack RX9 3 none rm_X9_giveBack) (hxn : xn X = (rm_X9_giveBack.cells, rm_X9_giveBack.slots)) {KE : ((Nat × Int32)) → Hp → Prop} (e_33 : ∀ (h0 : Nat) (l1 : Int32) (σ : Hp), KE ((h0, l1)) σ → G E X 0 0 33 [(0, tR (some (h0))), (1, tI (l1))] [] σ) (h0 : Nat) (l1 : Int32) (l2 : Int32) (σ : Hp) (x : (Nat × Int32 × Int32) ⊕ ((Nat × Int32))) (σ1 : Hp) (h : s_X9_giveBack_b8 h0 l1 l2 σ = some (x, σ1)) (hI : ∀ v, x = Sum.inl v → (fun (v : Nat × Int32 × Int32) (σ : Hp) => G E X 0 0 8 [(0, tR (some ((v.1)))), (1, tI ((v.2.1))), (2, tI ((v.2.2)))] [] σ) v σ1) (hO : ∀ e, x = Sum.inr e → KE e σ1) : G E X 0 0 8 [(0, tR (some (h0))), (1, tI (l1)), (2, tI (l2))] [] σ := by
  unfold s_X9_giveBack_b8 at h
  refine g_iload_n (pc := 8) C 2 2 dX9_giveBack_8 rfl rfl ?_
  refine g_sipush (v := 368) (pc := 9) C dX9_giveBack_9 (by decide) ?_
  refine g_icmp_ge (pc := 12) C 33 dX9_giveBack_12 (by decide) (fun c7 => ?_) (fun c7 => ?_)
  · have h := zif_t c7 h
    refine g_sub [0, 1] (lm' := [(0, tR (some (h0))), (1, tI (l1))]) rfl ?_
    obtain ⟨rfl, rfl⟩ := zsome h
    exact e_33 _ _ _ (hO _ rfl)
  · have h := zif_f c7 h
    refine g_aload_n (pc := 15) C 0 0 dX9_giveBack_15 rfl rfl ?_
    obtain ⟨r1, hvr1, h⟩ := zbind h
    refine g_getR (N := 58) (pc := 16) C ck_9 hvr1 rfl rfl fl_X9_23 dX9_giveBack_16 ?_
    refine g_iload_n (pc := 19) C 2 2 dX9_giveBack_19 rfl rfl ?_
    refine g_aload_n (pc := 20) C 0 0 dX9_giveBack_20 rfl rfl ?_
    obtain ⟨r2, hvr2, h⟩ := zbind h
    refine g_getR (N := 58) (pc := 21) C ck_9 hvr2 rfl rfl fl_X9_29 dX9_giveBack_21 ?_
    refine g_iload_n (pc := 24) C 2 2 dX9_giveBack_24 rfl rfl ?_
    obtain ⟨a3, hqa3, h9⟩ := zbind h
    clear h
    subst hqa3
    have h := h9
    clear h9
    obtain ⟨v4, hvv4, h⟩ := zbind h
    refine g_iald (pc := 25) C hvv4 dX9_giveBack_25 ?_
    obtain ⟨a5, hqa5, h9⟩ := zbind h
    clear h
    subst hqa5
    have h := h9
    clear h9
    obtain ⟨σ6, hvσ6, h⟩ := zbind h
    refine g_iast (pc := 26) C hvσ6 dX9_giveBack_26 ?_
    refine g_iinc (lm' := [(2, tI (l2 + 1)), (0, tR (some (h0))), (1, tI (l1))]) (v := l2 + 1) (pc := 27) C 2 dX9_giveBack_27 rfl rfl (by decide) rfl ?_
    refine g_goto (pc := 30) C 8 dX9_giveBack_30 (by decide) ?_
    refine g_sub [1, 2, 0] (lm' := [(0, tR (some (h0))), (1, tI (l1)), (2, tI (l2 + 1))]) rfl ?_
    obtain ⟨rfl, rfl⟩ := zsome h
    exact hI _ rfl
theorem w_X9_giveBack_l8 {E : E0} (hE : EOK E) {X : X0} (C : XOK E X cX9_giveBack RX9 3 none rm_X9_giveBack) (hxn : xn X = (rm_X9_giveBack.cells, rm_X9_giveBack.slots)) {KE : ((Nat × Int32)) → Hp → Prop} (e_33 : ∀ (h0 : Nat) (l1 : Int32) (σ : Hp), KE ((h0, l1)) σ → G E X 0 0 33 [(0, tR (some (h0))), (1, tI (l1))] [] σ) {v : Nat × Int32 × Int32} {σ : Hp} {e : (Nat × Int32)} {σ1 : Hp} (h : s_X9_giveBack_l8 v σ = some (e, σ1)) (hO : KE e σ1) : G E X 0 0 8 [(0, tR (some ((v.1)))), (1, tI ((v.2.1))), (2, tI ((v.2.2)))] [] σ := loopF_ind (P := fun (v : Nat × Int32 × Int32) (σ : Hp) => G E X 0 0 8 [(0, tR (some ((v.1)))), (1, tI ((v.2.1))), (2, tI ((v.2.2)))] [] σ) (KE := KE) (fun v σ x σ1 h hI hO => w_X9_giveBack_b8 hE C hxn e_33 (v.1) (v.2.1) (v.2.2) σ x σ1 h hI hO) v σ e σ1 h hO
noncomputable def s_X9_giveBack_b35 (h0 : Nat) (l1 : Int32) (l2 : Int32) (σ : Hp) : Option (((Nat × Int32 × Int32) ⊕ (Unit)) × Hp) :=
  if 16 ≤ l2 then
    (wrI 9 σ h0 8 (l1)).bind fun σ1 =>
    some (Sum.inr (), σ1)
  else
    (rdR 9 σ h0 7).bind fun r2 =>
    (rdR 9 σ h0 10).bind fun r3 =>
    (r3).bind fun a4 =>
    (ldI 11 σ a4 (l2)).bind fun v5 =>
    (r2).bind fun a6 =>
    (stI σ a6 (l2) (v5)).bind fun σ7 =>
    some (Sum.inl ((h0), (l1), (l2 + 1)), σ7)
noncomputable def s_X9_giveBack_l35 : (Nat × Int32 × Int32) → Hp → Option ((Unit) × Hp) := loopF (fun v => s_X9_giveBack_b35 (v.1) (v.2.1) (v.2.2))
set_option maxRecDepth 100000 in
theorem w_X9_giveBack_b35 {E : E0} (hE : EOK E) {X : X0} (C : XOK E X cX9_giveBack RX9 3 none rm_X9_giveBack) (hxn : xn X = (rm_X9_giveBack.cells, rm_X9_giveBack.slots)) {KE : (Unit) → Hp → Prop} (e_ret : ∀ (r : Unit) (σ : Hp), KE (r) σ → xd X = (none, σ)) (h0 : Nat) (l1 : Int32) (l2 : Int32) (σ : Hp) (x : (Nat × Int32 × Int32) ⊕ (Unit)) (σ1 : Hp) (h : s_X9_giveBack_b35 h0 l1 l2 σ = some (x, σ1)) (hI : ∀ v, x = Sum.inl v → (fun (v : Nat × Int32 × Int32) (σ : Hp) => G E X 0 0 35 [(0, tR (some ((v.1)))), (1, tI ((v.2.1))), (2, tI ((v.2.2)))] [] σ) v σ1) (hO : ∀ e, x = Sum.inr e → KE e σ1) : G E X 0 0 35 [(0, tR (some (h0))), (1, tI (l1)), (2, tI (l2))] [] σ := by
  unfold s_X9_giveBack_b35 at h
  refine g_iload_n (pc := 35) C 2 2 dX9_giveBack_35 rfl rfl ?_
  refine g_bipush (v := 16) (pc := 36) C dX9_giveBack_36 (by decide) ?_
  refine g_icmp_ge (pc := 38) C 59 dX9_giveBack_38 (by decide) (fun c8 => ?_) (fun c8 => ?_)
  · have h := zif_t c8 h
    refine g_aload_n (pc := 59) C 0 0 dX9_giveBack_59 rfl rfl ?_
    refine g_iload_n (pc := 60) C 1 1 dX9_giveBack_60 rfl rfl ?_
    obtain ⟨σ1, hvσ1, h⟩ := zbind h
    refine g_putI (N := 58) (pc := 61) C ⟨ck_9, rfl, tyX9_ok⟩ hvσ1 rfl fl_X9_167 rfl rfl dX9_giveBack_61 ?_
    obtain ⟨rfl, rfl⟩ := zsome h
    exact g_vret (pc := 64) C rfl (e_ret _ _ (hO _ rfl)) (by rw [hxn]; rfl) (by rw [hxn]; rfl) dX9_giveBack_64
  · have h := zif_f c8 h
    refine g_aload_n (pc := 41) C 0 0 dX9_giveBack_41 rfl rfl ?_
    obtain ⟨r2, hvr2, h⟩ := zbind h
    refine g_getR (N := 58) (pc := 42) C ck_9 hvr2 rfl rfl fl_X9_26 dX9_giveBack_42 ?_
    refine g_iload_n (pc := 45) C 2 2 dX9_giveBack_45 rfl rfl ?_
    refine g_aload_n (pc := 46) C 0 0 dX9_giveBack_46 rfl rfl ?_
    obtain ⟨r3, hvr3, h⟩ := zbind h
    refine g_getR (N := 58) (pc := 47) C ck_9 hvr3 rfl rfl fl_X9_32 dX9_giveBack_47 ?_
    refine g_iload_n (pc := 50) C 2 2 dX9_giveBack_50 rfl rfl ?_
    obtain ⟨a4, hqa4, h9⟩ := zbind h
    clear h
    subst hqa4
    have h := h9
    clear h9
    obtain ⟨v5, hvv5, h⟩ := zbind h
    refine g_iald (pc := 51) C hvv5 dX9_giveBack_51 ?_
    obtain ⟨a6, hqa6, h9⟩ := zbind h
    clear h
    subst hqa6
    have h := h9
    clear h9
    obtain ⟨σ7, hvσ7, h⟩ := zbind h
    refine g_iast (pc := 52) C hvσ7 dX9_giveBack_52 ?_
    refine g_iinc (lm' := [(2, tI (l2 + 1)), (0, tR (some (h0))), (1, tI (l1))]) (v := l2 + 1) (pc := 53) C 2 dX9_giveBack_53 rfl rfl (by decide) rfl ?_
    refine g_goto (pc := 56) C 35 dX9_giveBack_56 (by decide) ?_
    refine g_sub [1, 2, 0] (lm' := [(0, tR (some (h0))), (1, tI (l1)), (2, tI (l2 + 1))]) rfl ?_
    obtain ⟨rfl, rfl⟩ := zsome h
    exact hI _ rfl
theorem w_X9_giveBack_l35 {E : E0} (hE : EOK E) {X : X0} (C : XOK E X cX9_giveBack RX9 3 none rm_X9_giveBack) (hxn : xn X = (rm_X9_giveBack.cells, rm_X9_giveBack.slots)) {KE : (Unit) → Hp → Prop} (e_ret : ∀ (r : Unit) (σ : Hp), KE (r) σ → xd X = (none, σ)) {v : Nat × Int32 × Int32} {σ : Hp} {e : Unit} {σ1 : Hp} (h : s_X9_giveBack_l35 v σ = some (e, σ1)) (hO : KE e σ1) : G E X 0 0 35 [(0, tR (some ((v.1)))), (1, tI ((v.2.1))), (2, tI ((v.2.2)))] [] σ := loopF_ind (P := fun (v : Nat × Int32 × Int32) (σ : Hp) => G E X 0 0 35 [(0, tR (some ((v.1)))), (1, tI ((v.2.1))), (2, tI ((v.2.2)))] [] σ) (KE := KE) (fun v σ x σ1 h hI hO => w_X9_giveBack_b35 hE C hxn e_ret (v.1) (v.2.1) (v.2.2) σ x σ1 h hI hO) v σ e σ1 h hO
noncomputable def s_X9_giveBack (h0 : Nat) (p1 : Int32) (σ : Hp) : Option (Unit × Hp) :=
  (ck 9 σ h0).bind fun u1 =>
  cb (s_X9_putBack h0 (17) σ) fun v3 σ2 =>
  cb (s_X9_giveBack_l8 ((h0), (p1), (0)) σ2) fun e13 σ12 =>
  match e13 with
  | (h4, l15) =>
    cb (s_X9_giveBack_l35 ((h4), (l15), (0)) σ12) fun r8 σ9 =>
    some (r8, σ9)
set_option maxRecDepth 100000 in
theorem c_X9_giveBack {E : E0} (hE : EOK E) {h0 : Nat} {p1 : Int32} {σ σ1 : Hp} {r : Unit} (h : s_X9_giveBack h0 p1 σ = some (r, σ1)) : CT E yX9_giveBack (.code yX9_giveBack cX9_giveBack 3 none) rm_X9_giveBack [tR (some (h0)), tI (p1)] σ none σ1 := by
  refine CT.mk hE (by decide +kernel) (Nat.le_of_ble_eq_true rfl) [(0, tR (some (h0))), (1, tI (p1))] rfl (fun X C hin hx hxn => ?_)
  have C : XOK E X cX9_giveBack RX9 3 none rm_X9_giveBack := C
  unfold s_X9_giveBack at h
  refine g_aload_n (pc := 0) C 0 0 dX9_giveBack_0 rfl rfl ?_
  refine g_bipush (v := 17) (pc := 1) C dX9_giveBack_1 (by decide) ?_
  obtain ⟨u1, hvu1, h⟩ := zbind h
  obtain ⟨v3, σ2, hvσ2, h⟩ := zcb h
  refine g_callV (pc := 3) (av := [tI (17)]) C (c_X9_putBack hE hvσ2) yv_X9_putBack ml_X9_178 ck_9 (zopt hvu1).1 rfl (rf_of (by decide)) rfl (Nat.le_of_ble_eq_true rfl) dX9_giveBack_3 ?_
  refine g_iconst (v := 0) (pc := 6) C dX9_giveBack_6 (by decide) ?_
  refine g_istore_n (lm' := [(2, tI (0)), (0, tR (some (h0))), (1, tI (p1))]) (pc := 7) C 2 dX9_giveBack_7 rfl (by decide) rfl ?_
  refine g_sub [1, 2, 0] (lm' := [(0, tR (some (h0))), (1, tI (p1)), (2, tI (0))]) rfl ?_
  obtain ⟨KQ, hKQ, e13, σ12, hle13, h⟩ := zcbK h
  refine w_X9_giveBack_l8 (KE := KQ) hE C hxn ?_ hle13 h
  · intro h4 l15 σ6 h
    have h := (hKQ _ _).mp h
    refine g_iconst (v := 0) (pc := 33) C dX9_giveBack_33 (by decide) ?_
    refine g_istore_n (lm' := [(2, tI (0)), (0, tR (some (h4))), (1, tI (l15))]) (pc := 34) C 2 dX9_giveBack_34 rfl (by decide) rfl ?_
    refine g_sub [1, 2, 0] (lm' := [(0, tR (some (h4))), (1, tI (l15)), (2, tI (0))]) rfl ?_
    obtain ⟨KQ, hKQ, r8, σ9, hlr8, h⟩ := zcbK h
    refine w_X9_giveBack_l35 (KE := KQ) hE C hxn ?_ hlr8 h
    · intro r8 σ7 h
      have h := (hKQ _ _).mp h
      obtain ⟨rfl, rfl⟩ := zsome h
      exact hx
def rm_X9_orders : Room := { frames := 11, cells := 0, slots := 0, locals := 259 }
noncomputable def s_X9_orders_b19 (h0 : Nat) (σ : Hp) : Option (((Nat) ⊕ (Nat)) × Hp) :=
  (rdI 9 σ h0 19).bind fun v1 =>
  if v1 = 0 then
    (ck 9 σ h0).bind fun u2 =>
    cb (s_X9_isSign h0 (59) σ) fun v4 σ3 =>
    if v4 = 0 then
      some (Sum.inr (h0), σ3)
    else
      (ck 9 σ3 h0).bind fun u5 =>
      cb (s_X9_next h0 σ3) fun v7 σ6 =>
      (ck 9 σ6 h0).bind fun u8 =>
      cb (s_X9_readOrder h0 σ6) fun v10 σ9 =>
      some (Sum.inl (h0), σ9)
  else
    some (Sum.inr (h0), σ)
noncomputable def s_X9_orders_l19 : (Nat) → Hp → Option ((Nat) × Hp) := loopF (fun v => s_X9_orders_b19 v)
set_option maxRecDepth 100000 in
theorem w_X9_orders_b19 {E : E0} (hE : EOK E) {X : X0} (C : XOK E X cX9_orders RX9 4 (some .int) rm_X9_orders) (hxn : xn X = (rm_X9_orders.cells, rm_X9_orders.slots)) {KE : (Nat) → Hp → Prop} (e_46 : ∀ (h0 : Nat) (σ : Hp), KE (h0) σ → G E X 0 0 46 [(0, tR (some (h0)))] [] σ) (h0 : Nat) (σ : Hp) (x : (Nat) ⊕ (Nat)) (σ1 : Hp) (h : s_X9_orders_b19 h0 σ = some (x, σ1)) (hI : ∀ v, x = Sum.inl v → (fun (v : Nat) (σ : Hp) => G E X 0 0 19 [(0, tR (some (v)))] [] σ) v σ1) (hO : ∀ e, x = Sum.inr e → KE e σ1) : G E X 0 0 19 [(0, tR (some (h0)))] [] σ := by
  unfold s_X9_orders_b19 at h
  refine g_aload_n (pc := 19) C 0 0 dX9_orders_19 rfl rfl ?_
  obtain ⟨v1, hvv1, h⟩ := zbind h
  refine g_getI (N := 58) (pc := 20) C ck_9 hvv1 rfl rfl fl_X9_254 dX9_orders_20 ?_
  refine g_if_ne (pc := 23) C 46 dX9_orders_23 (by decide) (fun c12 => ?_) (fun c12 => ?_)
  · have h := zif_f c12 h
    obtain ⟨rfl, rfl⟩ := zsome h
    exact e_46 _ _ (hO _ rfl)
  · have h := zif_t c12 h
    refine g_aload_n (pc := 26) C 0 0 dX9_orders_26 rfl rfl ?_
    refine g_bipush (v := 59) (pc := 27) C dX9_orders_27 (by decide) ?_
    obtain ⟨u2, hvu2, h⟩ := zbind h
    obtain ⟨v4, σ3, hvσ3, h⟩ := zcb h
    refine g_callV (pc := 29) (av := [tI (59)]) C (c_X9_isSign hE hvσ3) yv_X9_isSign ml_X9_324 ck_9 (zopt hvu2).1 rfl (rf_of (by decide)) rfl (Nat.le_of_ble_eq_true rfl) dX9_orders_29 ?_
    refine g_if_eq (pc := 32) C 46 dX9_orders_32 (by decide) (fun c11 => ?_) (fun c11 => ?_)
    · have h := zif_t c11 h
      obtain ⟨rfl, rfl⟩ := zsome h
      exact e_46 _ _ (hO _ rfl)
    · have h := zif_f c11 h
      refine g_aload_n (pc := 35) C 0 0 dX9_orders_35 rfl rfl ?_
      obtain ⟨u5, hvu5, h⟩ := zbind h
      obtain ⟨v7, σ6, hvσ6, h⟩ := zcb h
      refine g_callV (pc := 36) (av := []) C (c_X9_next hE hvσ6) yv_X9_next ml_X9_258 ck_9 (zopt hvu5).1 rfl (rf_of (by decide)) rfl (Nat.le_of_ble_eq_true rfl) dX9_orders_36 ?_
      refine g_aload_n (pc := 39) C 0 0 dX9_orders_39 rfl rfl ?_
      obtain ⟨u8, hvu8, h⟩ := zbind h
      obtain ⟨v10, σ9, hvσ9, h⟩ := zcb h
      refine g_callV (pc := 40) (av := []) C (c_X9_readOrder hE hvσ9) yv_X9_readOrder ml_X9_522 ck_9 (zopt hvu8).1 rfl (rf_of (by decide)) rfl (Nat.le_of_ble_eq_true rfl) dX9_orders_40 ?_
      refine g_goto (pc := 43) C 19 dX9_orders_43 (by decide) ?_
      obtain ⟨rfl, rfl⟩ := zsome h
      exact hI _ rfl
theorem w_X9_orders_l19 {E : E0} (hE : EOK E) {X : X0} (C : XOK E X cX9_orders RX9 4 (some .int) rm_X9_orders) (hxn : xn X = (rm_X9_orders.cells, rm_X9_orders.slots)) {KE : (Nat) → Hp → Prop} (e_46 : ∀ (h0 : Nat) (σ : Hp), KE (h0) σ → G E X 0 0 46 [(0, tR (some (h0)))] [] σ) {v : Nat} {σ : Hp} {e : Nat} {σ1 : Hp} (h : s_X9_orders_l19 v σ = some (e, σ1)) (hO : KE e σ1) : G E X 0 0 19 [(0, tR (some (v)))] [] σ := loopF_ind (P := fun (v : Nat) (σ : Hp) => G E X 0 0 19 [(0, tR (some (v)))] [] σ) (KE := KE) (fun v σ x σ1 h hI hO => w_X9_orders_b19 hE C hxn e_46 v σ x σ1 h hI hO) v σ e σ1 h hO
noncomputable def s_X9_orders_b77 (h0 : Nat) (l1 : Int32) (l2 : Int32) (σ : Hp) : Option (((Nat × Int32 × Int32) ⊕ ((Nat × Int32))) × Hp) :=
  if 368 ≤ l2 then
    some (Sum.inr ((h0), (l1)), σ)
  else
    (rdR 9 σ h0 9).bind fun r1 =>
    (rdR 9 σ h0 6).bind fun r2 =>
    (r2).bind fun a3 =>
    (ldI 11 σ a3 (l2)).bind fun v4 =>
    (r1).bind fun a5 =>
    (stI σ a5 (l2) (v4)).bind fun σ6 =>
    some (Sum.inl ((h0), (l1), (l2 + 1)), σ6)
noncomputable def s_X9_orders_l77 : (Nat × Int32 × Int32) → Hp → Option (((Nat × Int32)) × Hp) := loopF (fun v => s_X9_orders_b77 (v.1) (v.2.1) (v.2.2))
set_option maxRecDepth 100000 in
theorem w_X9_orders_b77 {E : E0} (hE : EOK E) {X : X0} (C : XOK E X cX9_orders RX9 4 (some .int) rm_X9_orders) (hxn : xn X = (rm_X9_orders.cells, rm_X9_orders.slots)) {KE : ((Nat × Int32)) → Hp → Prop} (e_102 : ∀ (h0 : Nat) (l1 : Int32) (σ : Hp), KE ((h0, l1)) σ → G E X 0 0 102 [(0, tR (some (h0))), (1, tI (l1))] [] σ) (h0 : Nat) (l1 : Int32) (l2 : Int32) (σ : Hp) (x : (Nat × Int32 × Int32) ⊕ ((Nat × Int32))) (σ1 : Hp) (h : s_X9_orders_b77 h0 l1 l2 σ = some (x, σ1)) (hI : ∀ v, x = Sum.inl v → (fun (v : Nat × Int32 × Int32) (σ : Hp) => G E X 0 0 77 [(0, tR (some ((v.1)))), (1, tI ((v.2.1))), (2, tI ((v.2.2)))] [] σ) v σ1) (hO : ∀ e, x = Sum.inr e → KE e σ1) : G E X 0 0 77 [(0, tR (some (h0))), (1, tI (l1)), (2, tI (l2))] [] σ := by
  unfold s_X9_orders_b77 at h
  refine g_iload_n (pc := 77) C 2 2 dX9_orders_77 rfl rfl ?_
  refine g_sipush (v := 368) (pc := 78) C dX9_orders_78 (by decide) ?_
  refine g_icmp_ge (pc := 81) C 102 dX9_orders_81 (by decide) (fun c7 => ?_) (fun c7 => ?_)
  · have h := zif_t c7 h
    refine g_sub [0, 1] (lm' := [(0, tR (some (h0))), (1, tI (l1))]) rfl ?_
    obtain ⟨rfl, rfl⟩ := zsome h
    exact e_102 _ _ _ (hO _ rfl)
  · have h := zif_f c7 h
    refine g_aload_n (pc := 84) C 0 0 dX9_orders_84 rfl rfl ?_
    obtain ⟨r1, hvr1, h⟩ := zbind h
    refine g_getR (N := 58) (pc := 85) C ck_9 hvr1 rfl rfl fl_X9_29 dX9_orders_85 ?_
    refine g_iload_n (pc := 88) C 2 2 dX9_orders_88 rfl rfl ?_
    refine g_aload_n (pc := 89) C 0 0 dX9_orders_89 rfl rfl ?_
    obtain ⟨r2, hvr2, h⟩ := zbind h
    refine g_getR (N := 58) (pc := 90) C ck_9 hvr2 rfl rfl fl_X9_23 dX9_orders_90 ?_
    refine g_iload_n (pc := 93) C 2 2 dX9_orders_93 rfl rfl ?_
    obtain ⟨a3, hqa3, h9⟩ := zbind h
    clear h
    subst hqa3
    have h := h9
    clear h9
    obtain ⟨v4, hvv4, h⟩ := zbind h
    refine g_iald (pc := 94) C hvv4 dX9_orders_94 ?_
    obtain ⟨a5, hqa5, h9⟩ := zbind h
    clear h
    subst hqa5
    have h := h9
    clear h9
    obtain ⟨σ6, hvσ6, h⟩ := zbind h
    refine g_iast (pc := 95) C hvσ6 dX9_orders_95 ?_
    refine g_iinc (lm' := [(2, tI (l2 + 1)), (0, tR (some (h0))), (1, tI (l1))]) (v := l2 + 1) (pc := 96) C 2 dX9_orders_96 rfl rfl (by decide) rfl ?_
    refine g_goto (pc := 99) C 77 dX9_orders_99 (by decide) ?_
    refine g_sub [1, 2, 0] (lm' := [(0, tR (some (h0))), (1, tI (l1)), (2, tI (l2 + 1))]) rfl ?_
    obtain ⟨rfl, rfl⟩ := zsome h
    exact hI _ rfl
theorem w_X9_orders_l77 {E : E0} (hE : EOK E) {X : X0} (C : XOK E X cX9_orders RX9 4 (some .int) rm_X9_orders) (hxn : xn X = (rm_X9_orders.cells, rm_X9_orders.slots)) {KE : ((Nat × Int32)) → Hp → Prop} (e_102 : ∀ (h0 : Nat) (l1 : Int32) (σ : Hp), KE ((h0, l1)) σ → G E X 0 0 102 [(0, tR (some (h0))), (1, tI (l1))] [] σ) {v : Nat × Int32 × Int32} {σ : Hp} {e : (Nat × Int32)} {σ1 : Hp} (h : s_X9_orders_l77 v σ = some (e, σ1)) (hO : KE e σ1) : G E X 0 0 77 [(0, tR (some ((v.1)))), (1, tI ((v.2.1))), (2, tI ((v.2.2)))] [] σ := loopF_ind (P := fun (v : Nat × Int32 × Int32) (σ : Hp) => G E X 0 0 77 [(0, tR (some ((v.1)))), (1, tI ((v.2.1))), (2, tI ((v.2.2)))] [] σ) (KE := KE) (fun v σ x σ1 h hI hO => w_X9_orders_b77 hE C hxn e_102 (v.1) (v.2.1) (v.2.2) σ x σ1 h hI hO) v σ e σ1 h hO
noncomputable def s_X9_orders_b104 (h0 : Nat) (l1 : Int32) (l2 : Int32) (σ : Hp) : Option (((Nat × Int32 × Int32) ⊕ ((Nat × Int32))) × Hp) :=
  if 16 ≤ l2 then
    some (Sum.inr ((h0), (l1)), σ)
  else
    (rdR 9 σ h0 10).bind fun r1 =>
    (rdR 9 σ h0 7).bind fun r2 =>
    (r2).bind fun a3 =>
    (ldI 11 σ a3 (l2)).bind fun v4 =>
    (r1).bind fun a5 =>
    (stI σ a5 (l2) (v4)).bind fun σ6 =>
    some (Sum.inl ((h0), (l1), (l2 + 1)), σ6)
noncomputable def s_X9_orders_l104 : (Nat × Int32 × Int32) → Hp → Option (((Nat × Int32)) × Hp) := loopF (fun v => s_X9_orders_b104 (v.1) (v.2.1) (v.2.2))
set_option maxRecDepth 100000 in
theorem w_X9_orders_b104 {E : E0} (hE : EOK E) {X : X0} (C : XOK E X cX9_orders RX9 4 (some .int) rm_X9_orders) (hxn : xn X = (rm_X9_orders.cells, rm_X9_orders.slots)) {KE : ((Nat × Int32)) → Hp → Prop} (e_128 : ∀ (h0 : Nat) (l1 : Int32) (σ : Hp), KE ((h0, l1)) σ → G E X 0 0 128 [(0, tR (some (h0))), (1, tI (l1))] [] σ) (h0 : Nat) (l1 : Int32) (l2 : Int32) (σ : Hp) (x : (Nat × Int32 × Int32) ⊕ ((Nat × Int32))) (σ1 : Hp) (h : s_X9_orders_b104 h0 l1 l2 σ = some (x, σ1)) (hI : ∀ v, x = Sum.inl v → (fun (v : Nat × Int32 × Int32) (σ : Hp) => G E X 0 0 104 [(0, tR (some ((v.1)))), (1, tI ((v.2.1))), (2, tI ((v.2.2)))] [] σ) v σ1) (hO : ∀ e, x = Sum.inr e → KE e σ1) : G E X 0 0 104 [(0, tR (some (h0))), (1, tI (l1)), (2, tI (l2))] [] σ := by
  unfold s_X9_orders_b104 at h
  refine g_iload_n (pc := 104) C 2 2 dX9_orders_104 rfl rfl ?_
  refine g_bipush (v := 16) (pc := 105) C dX9_orders_105 (by decide) ?_
  refine g_icmp_ge (pc := 107) C 128 dX9_orders_107 (by decide) (fun c7 => ?_) (fun c7 => ?_)
  · have h := zif_t c7 h
    refine g_sub [0, 1] (lm' := [(0, tR (some (h0))), (1, tI (l1))]) rfl ?_
    obtain ⟨rfl, rfl⟩ := zsome h
    exact e_128 _ _ _ (hO _ rfl)
  · have h := zif_f c7 h
    refine g_aload_n (pc := 110) C 0 0 dX9_orders_110 rfl rfl ?_
    obtain ⟨r1, hvr1, h⟩ := zbind h
    refine g_getR (N := 58) (pc := 111) C ck_9 hvr1 rfl rfl fl_X9_32 dX9_orders_111 ?_
    refine g_iload_n (pc := 114) C 2 2 dX9_orders_114 rfl rfl ?_
    refine g_aload_n (pc := 115) C 0 0 dX9_orders_115 rfl rfl ?_
    obtain ⟨r2, hvr2, h⟩ := zbind h
    refine g_getR (N := 58) (pc := 116) C ck_9 hvr2 rfl rfl fl_X9_26 dX9_orders_116 ?_
    refine g_iload_n (pc := 119) C 2 2 dX9_orders_119 rfl rfl ?_
    obtain ⟨a3, hqa3, h9⟩ := zbind h
    clear h
    subst hqa3
    have h := h9
    clear h9
    obtain ⟨v4, hvv4, h⟩ := zbind h
    refine g_iald (pc := 120) C hvv4 dX9_orders_120 ?_
    obtain ⟨a5, hqa5, h9⟩ := zbind h
    clear h
    subst hqa5
    have h := h9
    clear h9
    obtain ⟨σ6, hvσ6, h⟩ := zbind h
    refine g_iast (pc := 121) C hvσ6 dX9_orders_121 ?_
    refine g_iinc (lm' := [(2, tI (l2 + 1)), (0, tR (some (h0))), (1, tI (l1))]) (v := l2 + 1) (pc := 122) C 2 dX9_orders_122 rfl rfl (by decide) rfl ?_
    refine g_goto (pc := 125) C 104 dX9_orders_125 (by decide) ?_
    refine g_sub [1, 2, 0] (lm' := [(0, tR (some (h0))), (1, tI (l1)), (2, tI (l2 + 1))]) rfl ?_
    obtain ⟨rfl, rfl⟩ := zsome h
    exact hI _ rfl
theorem w_X9_orders_l104 {E : E0} (hE : EOK E) {X : X0} (C : XOK E X cX9_orders RX9 4 (some .int) rm_X9_orders) (hxn : xn X = (rm_X9_orders.cells, rm_X9_orders.slots)) {KE : ((Nat × Int32)) → Hp → Prop} (e_128 : ∀ (h0 : Nat) (l1 : Int32) (σ : Hp), KE ((h0, l1)) σ → G E X 0 0 128 [(0, tR (some (h0))), (1, tI (l1))] [] σ) {v : Nat × Int32 × Int32} {σ : Hp} {e : (Nat × Int32)} {σ1 : Hp} (h : s_X9_orders_l104 v σ = some (e, σ1)) (hO : KE e σ1) : G E X 0 0 104 [(0, tR (some ((v.1)))), (1, tI ((v.2.1))), (2, tI ((v.2.2)))] [] σ := loopF_ind (P := fun (v : Nat × Int32 × Int32) (σ : Hp) => G E X 0 0 104 [(0, tR (some ((v.1)))), (1, tI ((v.2.1))), (2, tI ((v.2.2)))] [] σ) (KE := KE) (fun v σ x σ1 h hI hO => w_X9_orders_b104 hE C hxn e_128 (v.1) (v.2.1) (v.2.2) σ x σ1 h hI hO) v σ e σ1 h hO
noncomputable def s_X9_orders_b150 (h0 : Nat) (l1 : Int32) (l2 : Int32) (l3 : Int32) (σ : Hp) : Option (((Nat × Int32 × Int32 × Int32) ⊕ ((Nat × Int32 × Int32) ⊕ (Nat × Int32 × Int32))) × Hp) :=
  (rdR 9 σ h0 49).bind fun r1 =>
  (r1).bind fun a2 =>
  (ldI 11 σ a2 ((8 * l2) + 7)).bind fun v3 =>
  if v3 ≤ l3 then
    some (Sum.inr (Sum.inl ((h0), (l1), (l2))), σ)
  else
    (ck 9 σ h0).bind fun u4 =>
    cb (s_X9_run h0 (8 * l2) σ) fun v6 σ5 =>
    if 0 ≤ v6 then
      some (Sum.inl ((h0), (l1), (l2), (l3 + 1)), σ5)
    else
      some (Sum.inr (Sum.inr ((h0), (l1), (l2))), σ5)
noncomputable def s_X9_orders_l150 : (Nat × Int32 × Int32 × Int32) → Hp → Option (((Nat × Int32 × Int32) ⊕ (Nat × Int32 × Int32)) × Hp) := loopF (fun v => s_X9_orders_b150 (v.1) (v.2.1) (v.2.2.1) (v.2.2.2))
set_option maxRecDepth 100000 in
theorem w_X9_orders_b150 {E : E0} (hE : EOK E) {X : X0} (C : XOK E X cX9_orders RX9 4 (some .int) rm_X9_orders) (hxn : xn X = (rm_X9_orders.cells, rm_X9_orders.slots)) {KE : ((Nat × Int32 × Int32) ⊕ (Nat × Int32 × Int32)) → Hp → Prop} (e_200 : ∀ (h0 : Nat) (l1 : Int32) (l2 : Int32) (σ : Hp), KE (Sum.inl (h0, l1, l2)) σ → G E X 0 0 200 [(0, tR (some (h0))), (1, tI (l1)), (2, tI (l2))] [] σ) (e_177 : ∀ (h0 : Nat) (l1 : Int32) (l2 : Int32) (σ : Hp), KE (Sum.inr (h0, l1, l2)) σ → G E X 0 0 177 [(0, tR (some (h0))), (1, tI (l1)), (2, tI (l2))] [] σ) (h0 : Nat) (l1 : Int32) (l2 : Int32) (l3 : Int32) (σ : Hp) (x : (Nat × Int32 × Int32 × Int32) ⊕ ((Nat × Int32 × Int32) ⊕ (Nat × Int32 × Int32))) (σ1 : Hp) (h : s_X9_orders_b150 h0 l1 l2 l3 σ = some (x, σ1)) (hI : ∀ v, x = Sum.inl v → (fun (v : Nat × Int32 × Int32 × Int32) (σ : Hp) => G E X 0 0 150 [(0, tR (some ((v.1)))), (1, tI ((v.2.1))), (2, tI ((v.2.2.1))), (3, tI ((v.2.2.2)))] [] σ) v σ1) (hO : ∀ e, x = Sum.inr e → KE e σ1) : G E X 0 0 150 [(0, tR (some (h0))), (1, tI (l1)), (2, tI (l2)), (3, tI (l3))] [] σ := by
  unfold s_X9_orders_b150 at h
  refine g_iload_n (pc := 150) C 3 3 dX9_orders_150 rfl rfl ?_
  refine g_aload_n (pc := 151) C 0 0 dX9_orders_151 rfl rfl ?_
  obtain ⟨r1, hvr1, h⟩ := zbind h
  refine g_getR (N := 58) (pc := 152) C ck_9 hvr1 rfl rfl fl_X9_146 dX9_orders_152 ?_
  refine g_bipush (v := 8) (pc := 155) C dX9_orders_155 (by decide) ?_
  refine g_iload_n (pc := 157) C 2 2 dX9_orders_157 rfl rfl ?_
  refine g_imul (pc := 158) C dX9_orders_158 ?_
  refine g_bipush (v := 7) (pc := 159) C dX9_orders_159 (by decide) ?_
  refine g_iadd (pc := 161) C dX9_orders_161 ?_
  obtain ⟨a2, hqa2, h9⟩ := zbind h
  clear h
  subst hqa2
  have h := h9
  clear h9
  obtain ⟨v3, hvv3, h⟩ := zbind h
  refine g_iald (pc := 162) C hvv3 dX9_orders_162 ?_
  refine g_icmp_ge (pc := 163) C 200 dX9_orders_163 (by decide) (fun c8 => ?_) (fun c8 => ?_)
  · have h := zif_t c8 h
    refine g_sub [0, 1, 2] (lm' := [(0, tR (some (h0))), (1, tI (l1)), (2, tI (l2))]) rfl ?_
    obtain ⟨rfl, rfl⟩ := zsome h
    exact e_200 _ _ _ _ (hO _ rfl)
  · have h := zif_f c8 h
    refine g_aload_n (pc := 166) C 0 0 dX9_orders_166 rfl rfl ?_
    refine g_bipush (v := 8) (pc := 167) C dX9_orders_167 (by decide) ?_
    refine g_iload_n (pc := 169) C 2 2 dX9_orders_169 rfl rfl ?_
    refine g_imul (pc := 170) C dX9_orders_170 ?_
    obtain ⟨u4, hvu4, h⟩ := zbind h
    obtain ⟨v6, σ5, hvσ5, h⟩ := zcb h
    refine g_callV (pc := 171) (av := [tI (8 * l2)]) C (c_X9_run hE hvσ5) yv_X9_run ml_X9_525 ck_9 (zopt hvu4).1 rfl (rf_of (by decide)) rfl (Nat.le_of_ble_eq_true rfl) dX9_orders_171 ?_
    refine g_if_ge (pc := 174) C 194 dX9_orders_174 (by decide) (fun c7 => ?_) (fun c7 => ?_)
    · have h := zif_t c7 h
      refine g_iinc (lm' := [(3, tI (l3 + 1)), (0, tR (some (h0))), (1, tI (l1)), (2, tI (l2))]) (v := l3 + 1) (pc := 194) C 3 dX9_orders_194 rfl rfl (by decide) rfl ?_
      refine g_goto (pc := 197) C 150 dX9_orders_197 (by decide) ?_
      refine g_sub [1, 2, 3, 0] (lm' := [(0, tR (some (h0))), (1, tI (l1)), (2, tI (l2)), (3, tI (l3 + 1))]) rfl ?_
      obtain ⟨rfl, rfl⟩ := zsome h
      exact hI _ rfl
    · have h := zif_f c7 h
      refine g_sub [0, 1, 2] (lm' := [(0, tR (some (h0))), (1, tI (l1)), (2, tI (l2))]) rfl ?_
      obtain ⟨rfl, rfl⟩ := zsome h
      exact e_177 _ _ _ _ (hO _ rfl)
theorem w_X9_orders_l150 {E : E0} (hE : EOK E) {X : X0} (C : XOK E X cX9_orders RX9 4 (some .int) rm_X9_orders) (hxn : xn X = (rm_X9_orders.cells, rm_X9_orders.slots)) {KE : ((Nat × Int32 × Int32) ⊕ (Nat × Int32 × Int32)) → Hp → Prop} (e_200 : ∀ (h0 : Nat) (l1 : Int32) (l2 : Int32) (σ : Hp), KE (Sum.inl (h0, l1, l2)) σ → G E X 0 0 200 [(0, tR (some (h0))), (1, tI (l1)), (2, tI (l2))] [] σ) (e_177 : ∀ (h0 : Nat) (l1 : Int32) (l2 : Int32) (σ : Hp), KE (Sum.inr (h0, l1, l2)) σ → G E X 0 0 177 [(0, tR (some (h0))), (1, tI (l1)), (2, tI (l2))] [] σ) {v : Nat × Int32 × Int32 × Int32} {σ : Hp} {e : (Nat × Int32 × Int32) ⊕ (Nat × Int32 × Int32)} {σ1 : Hp} (h : s_X9_orders_l150 v σ = some (e, σ1)) (hO : KE e σ1) : G E X 0 0 150 [(0, tR (some ((v.1)))), (1, tI ((v.2.1))), (2, tI ((v.2.2.1))), (3, tI ((v.2.2.2)))] [] σ := loopF_ind (P := fun (v : Nat × Int32 × Int32 × Int32) (σ : Hp) => G E X 0 0 150 [(0, tR (some ((v.1)))), (1, tI ((v.2.1))), (2, tI ((v.2.2.1))), (3, tI ((v.2.2.2)))] [] σ) (KE := KE) (fun v σ x σ1 h hI hO => w_X9_orders_b150 hE C hxn e_200 e_177 (v.1) (v.2.1) (v.2.2.1) (v.2.2.2) σ x σ1 h hI hO) v σ e σ1 h hO
noncomputable def s_X9_orders_b140 (h0 : Nat) (l1 : Int32) (l2 : Int32) (σ : Hp) : Option (((Nat × Int32 × Int32) ⊕ (Nat ⊕ (Nat × Int32 × Int32))) × Hp) :=
  (rdI 9 σ h0 21).bind fun v1 =>
  if v1 ≤ l2 then
    some (Sum.inr (Sum.inl (h0)), σ)
  else
    cb (s_X9_orders_l150 ((h0), (l1), (l2), (0)) σ) fun e12 σ11 =>
    match e12 with
    | Sum.inl (h2, l13, l24) =>
      some (Sum.inl ((h2), (l13), (l24 + 1)), σ11)
    | Sum.inr (h6, l17, l28) =>
      some (Sum.inr (Sum.inr ((h6), (l17), (l28))), σ11)
noncomputable def s_X9_orders_l140 : (Nat × Int32 × Int32) → Hp → Option ((Nat ⊕ (Nat × Int32 × Int32)) × Hp) := loopF (fun v => s_X9_orders_b140 (v.1) (v.2.1) (v.2.2))
set_option maxRecDepth 100000 in
theorem w_X9_orders_b140 {E : E0} (hE : EOK E) {X : X0} (C : XOK E X cX9_orders RX9 4 (some .int) rm_X9_orders) (hxn : xn X = (rm_X9_orders.cells, rm_X9_orders.slots)) {KE : (Nat ⊕ (Nat × Int32 × Int32)) → Hp → Prop} (e_206 : ∀ (h0 : Nat) (σ : Hp), KE (Sum.inl h0) σ → G E X 0 0 206 [(0, tR (some (h0)))] [] σ) (e_177 : ∀ (h0 : Nat) (l1 : Int32) (l2 : Int32) (σ : Hp), KE (Sum.inr (h0, l1, l2)) σ → G E X 0 0 177 [(0, tR (some (h0))), (1, tI (l1)), (2, tI (l2))] [] σ) (h0 : Nat) (l1 : Int32) (l2 : Int32) (σ : Hp) (x : (Nat × Int32 × Int32) ⊕ (Nat ⊕ (Nat × Int32 × Int32))) (σ1 : Hp) (h : s_X9_orders_b140 h0 l1 l2 σ = some (x, σ1)) (hI : ∀ v, x = Sum.inl v → (fun (v : Nat × Int32 × Int32) (σ : Hp) => G E X 0 0 140 [(0, tR (some ((v.1)))), (1, tI ((v.2.1))), (2, tI ((v.2.2)))] [] σ) v σ1) (hO : ∀ e, x = Sum.inr e → KE e σ1) : G E X 0 0 140 [(0, tR (some (h0))), (1, tI (l1)), (2, tI (l2))] [] σ := by
  unfold s_X9_orders_b140 at h
  refine g_iload_n (pc := 140) C 2 2 dX9_orders_140 rfl rfl ?_
  refine g_aload_n (pc := 141) C 0 0 dX9_orders_141 rfl rfl ?_
  obtain ⟨v1, hvv1, h⟩ := zbind h
  refine g_getI (N := 58) (pc := 142) C ck_9 hvv1 rfl rfl fl_X9_384 dX9_orders_142 ?_
  refine g_icmp_ge (pc := 145) C 206 dX9_orders_145 (by decide) (fun c13 => ?_) (fun c13 => ?_)
  · have h := zif_t c13 h
    refine g_sub [0] (lm' := [(0, tR (some (h0)))]) rfl ?_
    obtain ⟨rfl, rfl⟩ := zsome h
    exact e_206 _ _ (hO _ rfl)
  · have h := zif_f c13 h
    refine g_iconst (v := 0) (pc := 148) C dX9_orders_148 (by decide) ?_
    refine g_istore_n (lm' := [(3, tI (0)), (0, tR (some (h0))), (1, tI (l1)), (2, tI (l2))]) (pc := 149) C 3 dX9_orders_149 rfl (by decide) rfl ?_
    refine g_sub [1, 2, 3, 0] (lm' := [(0, tR (some (h0))), (1, tI (l1)), (2, tI (l2)), (3, tI (0))]) rfl ?_
    obtain ⟨KQ, hKQ, e12, σ11, hle12, h⟩ := zcbK h
    refine w_X9_orders_l150 (KE := KQ) hE C hxn ?_ ?_ hle12 h
    · intro h2 l13 l24 σ5 h
      have h := (hKQ _ _).mp h
      refine g_iinc (lm' := [(2, tI (l24 + 1)), (0, tR (some (h2))), (1, tI (l13))]) (v := l24 + 1) (pc := 200) C 2 dX9_orders_200 rfl rfl (by decide) rfl ?_
      refine g_goto (pc := 203) C 140 dX9_orders_203 (by decide) ?_
      refine g_sub [1, 2, 0] (lm' := [(0, tR (some (h2))), (1, tI (l13)), (2, tI (l24 + 1))]) rfl ?_
      obtain ⟨rfl, rfl⟩ := zsome h
      exact hI _ rfl
    · intro h6 l17 l28 σ9 h
      have h := (hKQ _ _).mp h
      obtain ⟨rfl, rfl⟩ := zsome h
      exact e_177 _ _ _ _ (hO _ rfl)
theorem w_X9_orders_l140 {E : E0} (hE : EOK E) {X : X0} (C : XOK E X cX9_orders RX9 4 (some .int) rm_X9_orders) (hxn : xn X = (rm_X9_orders.cells, rm_X9_orders.slots)) {KE : (Nat ⊕ (Nat × Int32 × Int32)) → Hp → Prop} (e_206 : ∀ (h0 : Nat) (σ : Hp), KE (Sum.inl h0) σ → G E X 0 0 206 [(0, tR (some (h0)))] [] σ) (e_177 : ∀ (h0 : Nat) (l1 : Int32) (l2 : Int32) (σ : Hp), KE (Sum.inr (h0, l1, l2)) σ → G E X 0 0 177 [(0, tR (some (h0))), (1, tI (l1)), (2, tI (l2))] [] σ) {v : Nat × Int32 × Int32} {σ : Hp} {e : Nat ⊕ (Nat × Int32 × Int32)} {σ1 : Hp} (h : s_X9_orders_l140 v σ = some (e, σ1)) (hO : KE e σ1) : G E X 0 0 140 [(0, tR (some ((v.1)))), (1, tI ((v.2.1))), (2, tI ((v.2.2)))] [] σ := loopF_ind (P := fun (v : Nat × Int32 × Int32) (σ : Hp) => G E X 0 0 140 [(0, tR (some ((v.1)))), (1, tI ((v.2.1))), (2, tI ((v.2.2)))] [] σ) (KE := KE) (fun v σ x σ1 h hI hO => w_X9_orders_b140 hE C hxn e_206 e_177 (v.1) (v.2.1) (v.2.2) σ x σ1 h hI hO) v σ e σ1 h hO
noncomputable def s_X9_orders_j46 (h0 : Nat) (σ : Hp) : Option (Int32 × Hp) :=
  (ck 9 σ h0).bind fun u1 =>
  cb (s_X9_endText h0 σ) fun v3 σ2 =>
  (rdI 9 σ2 h0 19).bind fun v4 =>
  if v4 = 0 then
    (ck 9 σ2 h0).bind fun u5 =>
    cb (s_X9_keepAll h0 (17) σ2) fun v7 σ6 =>
    (rdI 9 σ6 h0 8).bind fun v8 =>
    cb (s_X9_orders_l77 ((h0), (v8), (0)) σ6) fun e42 σ41 =>
    match e42 with
    | (h9, l110) =>
      cb (s_X9_orders_l104 ((h9), (l110), (0)) σ41) fun e39 σ38 =>
      match e39 with
      | (h12, l113) =>
        (wrI 9 σ38 h12 50 (0)).bind fun σ15 =>
        (wrI 9 σ15 h12 51 ((-1))).bind fun σ16 =>
        cb (s_X9_orders_l140 ((h12), (l113), (0)) σ16) fun e36 σ35 =>
        match e36 with
        | Sum.inl h17 =>
          (rdI 9 σ35 h17 50).bind fun v19 =>
          (ck 9 σ35 h17).bind fun u20 =>
          cb (s_X9_tell h17 (v19) σ35) fun v22 σ21 =>
          some ((v22), σ21)
        | Sum.inr (h23, l124, l225) =>
          (ck 9 σ35 h23).bind fun u27 =>
          cb (s_X9_giveBack h23 (l124) σ35) fun v29 σ28 =>
          (wrI 9 σ28 h23 52 (l225)).bind fun σ30 =>
          (ck 9 σ30 h23).bind fun u31 =>
          cb (s_X9_tell h23 ((-3)) σ30) fun v33 σ32 =>
          some ((v33), σ32)
  else
    (ck 9 σ2 h0).bind fun u43 =>
    cb (s_X9_tell h0 ((-6)) σ2) fun v45 σ44 =>
    some ((v45), σ44)
set_option maxRecDepth 100000 in
theorem w_X9_orders_j46 {E : E0} (hE : EOK E) {X : X0} (C : XOK E X cX9_orders RX9 4 (some .int) rm_X9_orders) (hxn : xn X = (rm_X9_orders.cells, rm_X9_orders.slots)) (h0 : Nat) (σ : Hp) (r : Int32) (σ1 : Hp) (h : s_X9_orders_j46 h0 σ = some (r, σ1)) (hx : xd X = (some (tI r), σ1)) : G E X 0 0 46 [(0, tR (some (h0)))] [] σ := by
  unfold s_X9_orders_j46 at h
  refine g_aload_n (pc := 46) C 0 0 dX9_orders_46 rfl rfl ?_
  obtain ⟨u1, hvu1, h⟩ := zbind h
  obtain ⟨v3, σ2, hvσ2, h⟩ := zcb h
  refine g_callV (pc := 47) (av := []) C (c_X9_endText hE hvσ2) yv_X9_endText ml_X9_398 ck_9 (zopt hvu1).1 rfl (rf_of (by decide)) rfl (Nat.le_of_ble_eq_true rfl) dX9_orders_47 ?_
  refine g_aload_n (pc := 50) C 0 0 dX9_orders_50 rfl rfl ?_
  obtain ⟨v4, hvv4, h⟩ := zbind h
  refine g_getI (N := 58) (pc := 51) C ck_9 hvv4 rfl rfl fl_X9_254 dX9_orders_51 ?_
  refine g_if_eq (pc := 54) C 64 dX9_orders_54 (by decide) (fun c46 => ?_) (fun c46 => ?_)
  · have h := zif_t c46 h
    refine g_aload_n (pc := 64) C 0 0 dX9_orders_64 rfl rfl ?_
    refine g_bipush (v := 17) (pc := 65) C dX9_orders_65 (by decide) ?_
    obtain ⟨u5, hvu5, h⟩ := zbind h
    obtain ⟨v7, σ6, hvσ6, h⟩ := zcb h
    refine g_callV (pc := 67) (av := [tI (17)]) C (c_X9_keepAll hE hvσ6) yv_X9_keepAll ml_X9_174 ck_9 (zopt hvu5).1 rfl (rf_of (by decide)) rfl (Nat.le_of_ble_eq_true rfl) dX9_orders_67 ?_
    refine g_aload_n (pc := 70) C 0 0 dX9_orders_70 rfl rfl ?_
    obtain ⟨v8, hvv8, h⟩ := zbind h
    refine g_getI (N := 58) (pc := 71) C ck_9 hvv8 rfl rfl fl_X9_167 dX9_orders_71 ?_
    refine g_istore_n (lm' := [(1, tI (v8)), (0, tR (some (h0)))]) (pc := 74) C 1 dX9_orders_74 rfl (by decide) rfl ?_
    refine g_iconst (v := 0) (pc := 75) C dX9_orders_75 (by decide) ?_
    refine g_istore_n (lm' := [(2, tI (0)), (1, tI (v8)), (0, tR (some (h0)))]) (pc := 76) C 2 dX9_orders_76 rfl (by decide) rfl ?_
    refine g_sub [2, 1, 0] (lm' := [(0, tR (some (h0))), (1, tI (v8)), (2, tI (0))]) rfl ?_
    obtain ⟨KQ, hKQ, e42, σ41, hle42, h⟩ := zcbK h
    refine w_X9_orders_l77 (KE := KQ) hE C hxn ?_ hle42 h
    · intro h9 l110 σ11 h
      have h := (hKQ _ _).mp h
      refine g_iconst (v := 0) (pc := 102) C dX9_orders_102 (by decide) ?_
      refine g_istore_n (lm' := [(2, tI (0)), (0, tR (some (h9))), (1, tI (l110))]) (pc := 103) C 2 dX9_orders_103 rfl (by decide) rfl ?_
      refine g_sub [1, 2, 0] (lm' := [(0, tR (some (h9))), (1, tI (l110)), (2, tI (0))]) rfl ?_
      obtain ⟨KQ, hKQ, e39, σ38, hle39, h⟩ := zcbK h
      refine w_X9_orders_l104 (KE := KQ) hE C hxn ?_ hle39 h
      · intro h12 l113 σ14 h
        have h := (hKQ _ _).mp h
        refine g_aload_n (pc := 128) C 0 0 dX9_orders_128 rfl rfl ?_
        refine g_iconst (v := 0) (pc := 129) C dX9_orders_129 (by decide) ?_
        obtain ⟨σ15, hvσ15, h⟩ := zbind h
        refine g_putI (N := 58) (pc := 130) C ⟨ck_9, rfl, tyX9_ok⟩ hvσ15 rfl fl_X9_510 rfl rfl dX9_orders_130 ?_
        refine g_aload_n (pc := 133) C 0 0 dX9_orders_133 rfl rfl ?_
        refine g_iconst (v := (-1)) (pc := 134) C dX9_orders_134 (by decide) ?_
        obtain ⟨σ16, hvσ16, h⟩ := zbind h
        refine g_putI (N := 58) (pc := 135) C ⟨ck_9, rfl, tyX9_ok⟩ hvσ16 rfl fl_X9_513 rfl rfl dX9_orders_135 ?_
        refine g_iconst (v := 0) (pc := 138) C dX9_orders_138 (by decide) ?_
        refine g_istore_n (lm' := [(2, tI (0)), (0, tR (some (h12))), (1, tI (l113))]) (pc := 139) C 2 dX9_orders_139 rfl (by decide) rfl ?_
        refine g_sub [1, 2, 0] (lm' := [(0, tR (some (h12))), (1, tI (l113)), (2, tI (0))]) rfl ?_
        obtain ⟨KQ, hKQ, e36, σ35, hle36, h⟩ := zcbK h
        refine w_X9_orders_l140 (KE := KQ) hE C hxn ?_ ?_ hle36 h
        · intro h17 σ18 h
          have h := (hKQ _ _).mp h
          refine g_aload_n (pc := 206) C 0 0 dX9_orders_206 rfl rfl ?_
          refine g_aload_n (pc := 207) C 0 0 dX9_orders_207 rfl rfl ?_
          obtain ⟨v19, hvv19, h⟩ := zbind h
          refine g_getI (N := 58) (pc := 208) C ck_9 hvv19 rfl rfl fl_X9_510 dX9_orders_208 ?_
          obtain ⟨u20, hvu20, h⟩ := zbind h
          obtain ⟨v22, σ21, hvσ21, h⟩ := zcb h
          refine g_callV (pc := 211) (av := [tI (v19)]) C (c_X9_tell hE hvσ21) yv_X9_tell ml_X9_170 ck_9 (zopt hvu20).1 rfl (rf_of (by decide)) rfl (Nat.le_of_ble_eq_true rfl) dX9_orders_211 ?_
          obtain ⟨rfl, rfl⟩ := zsome h
          exact g_iret (pc := 214) C rfl hx (by rw [hxn]; rfl) (by rw [hxn]; rfl) dX9_orders_214
        · intro h23 l124 l225 σ26 h
          have h := (hKQ _ _).mp h
          refine g_aload_n (pc := 177) C 0 0 dX9_orders_177 rfl rfl ?_
          refine g_iload_n (pc := 178) C 1 1 dX9_orders_178 rfl rfl ?_
          obtain ⟨u27, hvu27, h⟩ := zbind h
          obtain ⟨v29, σ28, hvσ28, h⟩ := zcb h
          refine g_callV (pc := 179) (av := [tI (l124)]) C (c_X9_giveBack hE hvσ28) yv_X9_giveBack ml_X9_528 ck_9 (zopt hvu27).1 rfl (rf_of (by decide)) rfl (Nat.le_of_ble_eq_true rfl) dX9_orders_179 ?_
          refine g_aload_n (pc := 182) C 0 0 dX9_orders_182 rfl rfl ?_
          refine g_iload_n (pc := 183) C 2 2 dX9_orders_183 rfl rfl ?_
          obtain ⟨σ30, hvσ30, h⟩ := zbind h
          refine g_putI (N := 58) (pc := 184) C ⟨ck_9, rfl, tyX9_ok⟩ hvσ30 rfl fl_X9_149 rfl rfl dX9_orders_184 ?_
          refine g_aload_n (pc := 187) C 0 0 dX9_orders_187 rfl rfl ?_
          refine g_bipush (v := (-3)) (pc := 188) C dX9_orders_188 (by decide) ?_
          obtain ⟨u31, hvu31, h⟩ := zbind h
          obtain ⟨v33, σ32, hvσ32, h⟩ := zcb h
          refine g_callV (pc := 190) (av := [tI ((-3))]) C (c_X9_tell hE hvσ32) yv_X9_tell ml_X9_170 ck_9 (zopt hvu31).1 rfl (rf_of (by decide)) rfl (Nat.le_of_ble_eq_true rfl) dX9_orders_190 ?_
          obtain ⟨rfl, rfl⟩ := zsome h
          exact g_iret (pc := 193) C rfl hx (by rw [hxn]; rfl) (by rw [hxn]; rfl) dX9_orders_193
  · have h := zif_f c46 h
    refine g_aload_n (pc := 57) C 0 0 dX9_orders_57 rfl rfl ?_
    refine g_bipush (v := (-6)) (pc := 58) C dX9_orders_58 (by decide) ?_
    obtain ⟨u43, hvu43, h⟩ := zbind h
    obtain ⟨v45, σ44, hvσ44, h⟩ := zcb h
    refine g_callV (pc := 60) (av := [tI ((-6))]) C (c_X9_tell hE hvσ44) yv_X9_tell ml_X9_170 ck_9 (zopt hvu43).1 rfl (rf_of (by decide)) rfl (Nat.le_of_ble_eq_true rfl) dX9_orders_60 ?_
    obtain ⟨rfl, rfl⟩ := zsome h
    exact g_iret (pc := 63) C rfl hx (by rw [hxn]; rfl) (by rw [hxn]; rfl) dX9_orders_63
noncomputable def s_X9_orders (h0 : Nat) (σ : Hp) : Option (Int32 × Hp) :=
  (wrI 9 σ h0 0 (0)).bind fun σ1 =>
  (wrI 9 σ1 h0 52 ((-1))).bind fun σ2 =>
  (ck 9 σ2 h0).bind fun u3 =>
  cb (s_X9_beginText h0 (1) σ2) fun v5 σ4 =>
  (ck 9 σ4 h0).bind fun u6 =>
  cb (s_X9_readOrder h0 σ4) fun v8 σ7 =>
  cb (s_X9_orders_l19 (h0) σ7) fun h9 σ12 =>
  s_X9_orders_j46 (h9) σ12
set_option maxRecDepth 100000 in
theorem c_X9_orders {E : E0} (hE : EOK E) {h0 : Nat} {σ σ1 : Hp} {r : Int32} (h : s_X9_orders h0 σ = some (r, σ1)) : CT E yX9_orders (.code yX9_orders cX9_orders 4 (some .int)) rm_X9_orders [tR (some (h0))] σ (some (tI r)) σ1 := by
  refine CT.mk hE (by decide +kernel) (Nat.le_of_ble_eq_true rfl) [(0, tR (some (h0)))] rfl (fun X C hin hx hxn => ?_)
  have C : XOK E X cX9_orders RX9 4 (some .int) rm_X9_orders := C
  unfold s_X9_orders at h
  refine g_aload_n (pc := 0) C 0 0 dX9_orders_0 rfl rfl ?_
  refine g_iconst (v := 0) (pc := 1) C dX9_orders_1 (by decide) ?_
  obtain ⟨σ1, hvσ1, h⟩ := zbind h
  refine g_putI (N := 58) (pc := 2) C ⟨ck_9, rfl, tyX9_ok⟩ hvσ1 rfl fl_X9_161 rfl rfl dX9_orders_2 ?_
  refine g_aload_n (pc := 5) C 0 0 dX9_orders_5 rfl rfl ?_
  refine g_iconst (v := (-1)) (pc := 6) C dX9_orders_6 (by decide) ?_
  obtain ⟨σ2, hvσ2, h⟩ := zbind h
  refine g_putI (N := 58) (pc := 7) C ⟨ck_9, rfl, tyX9_ok⟩ hvσ2 rfl fl_X9_149 rfl rfl dX9_orders_7 ?_
  refine g_aload_n (pc := 10) C 0 0 dX9_orders_10 rfl rfl ?_
  refine g_iconst (v := 1) (pc := 11) C dX9_orders_11 (by decide) ?_
  obtain ⟨u3, hvu3, h⟩ := zbind h
  obtain ⟨v5, σ4, hvσ4, h⟩ := zcb h
  refine g_callV (pc := 12) (av := [tI (1)]) C (c_X9_beginText hE hvσ4) yv_X9_beginText ml_X9_392 ck_9 (zopt hvu3).1 rfl (rf_of (by decide)) rfl (Nat.le_of_ble_eq_true rfl) dX9_orders_12 ?_
  refine g_aload_n (pc := 15) C 0 0 dX9_orders_15 rfl rfl ?_
  obtain ⟨u6, hvu6, h⟩ := zbind h
  obtain ⟨v8, σ7, hvσ7, h⟩ := zcb h
  refine g_callV (pc := 16) (av := []) C (c_X9_readOrder hE hvσ7) yv_X9_readOrder ml_X9_522 ck_9 (zopt hvu6).1 rfl (rf_of (by decide)) rfl (Nat.le_of_ble_eq_true rfl) dX9_orders_16 ?_
  obtain ⟨KQ, hKQ, h9, σ12, hlh9, h⟩ := zcbK h
  refine w_X9_orders_l19 (KE := KQ) hE C hxn ?_ hlh9 h
  · intro h9 σ10 h
    have h := (hKQ _ _).mp h
    exact w_X9_orders_j46 hE C hxn _ _ _ _ h hx
def rm_X9_stopped : Room := { frames := 0, cells := 0, slots := 0, locals := 0 }
noncomputable def s_X9_stopped (h0 : Nat) (σ : Hp) : Option (Int32 × Hp) :=
  (wrI 9 σ h0 0 (0)).bind fun σ1 =>
  (rdI 9 σ1 h0 52).bind fun v2 =>
  some ((v2), σ1)
set_option maxRecDepth 100000 in
theorem c_X9_stopped {E : E0} (hE : EOK E) {h0 : Nat} {σ σ1 : Hp} {r : Int32} (h : s_X9_stopped h0 σ = some (r, σ1)) : CT E yX9_stopped (.code yX9_stopped cX9_stopped 1 (some .int)) rm_X9_stopped [tR (some (h0))] σ (some (tI r)) σ1 := by
  refine CT.mk hE (by decide +kernel) (Nat.le_of_ble_eq_true rfl) [(0, tR (some (h0)))] rfl (fun X C hin hx hxn => ?_)
  have C : XOK E X cX9_stopped RX9 1 (some .int) rm_X9_stopped := C
  unfold s_X9_stopped at h
  refine g_aload_n (pc := 0) C 0 0 dX9_stopped_0 rfl rfl ?_
  refine g_iconst (v := 0) (pc := 1) C dX9_stopped_1 (by decide) ?_
  obtain ⟨σ1, hvσ1, h⟩ := zbind h
  refine g_putI (N := 58) (pc := 2) C ⟨ck_9, rfl, tyX9_ok⟩ hvσ1 rfl fl_X9_161 rfl rfl dX9_stopped_2 ?_
  refine g_aload_n (pc := 5) C 0 0 dX9_stopped_5 rfl rfl ?_
  obtain ⟨v2, hvv2, h⟩ := zbind h
  refine g_getI (N := 58) (pc := 6) C ck_9 hvv2 rfl rfl fl_X9_149 dX9_stopped_6 ?_
  obtain ⟨rfl, rfl⟩ := zsome h
  exact g_iret (pc := 9) C rfl hx (by rw [hxn]; rfl) (by rw [hxn]; rfl) dX9_stopped_9
def rm_X9_draw : Room := { frames := 0, cells := 0, slots := 0, locals := 0 }
noncomputable def s_X9_draw (h0 : Nat) (p1 : Int32) (σ : Hp) : Option (Int32 × Hp) :=
  (rdJ 9 σ h0 54).bind fun v1 =>
  (wrJ 9 σ h0 54 (((v1 * 1103) + 12345) - ((v1 * 1103) + 12345) / 1000003 * 1000003)).bind fun σ2 =>
  (rdJ 9 σ2 h0 54).bind fun v3 =>
  (zne (Int32.toInt64 (p1 : Int32) = 0)).bind fun u4 =>
  some ((Int64.toInt32 (v3 - v3 / (Int32.toInt64 (p1 : Int32)) * (Int32.toInt64 (p1 : Int32)) : Int64)), σ2)
set_option maxRecDepth 100000 in
theorem c_X9_draw {E : E0} (hE : EOK E) {h0 : Nat} {p1 : Int32} {σ σ1 : Hp} {r : Int32} (h : s_X9_draw h0 p1 σ = some (r, σ1)) : CT E yX9_draw (.code yX9_draw cX9_draw 2 (some .int)) rm_X9_draw [tR (some (h0)), tI (p1)] σ (some (tI r)) σ1 := by
  refine CT.mk hE (by decide +kernel) (Nat.le_of_ble_eq_true rfl) [(0, tR (some (h0))), (1, tI (p1))] rfl (fun X C hin hx hxn => ?_)
  have C : XOK E X cX9_draw RX9 2 (some .int) rm_X9_draw := C
  unfold s_X9_draw at h
  refine g_aload_n (pc := 0) C 0 0 dX9_draw_0 rfl rfl ?_
  refine g_aload_n (pc := 1) C 0 0 dX9_draw_1 rfl rfl ?_
  obtain ⟨v1, hvv1, h⟩ := zbind h
  refine g_getJ (N := 58) (pc := 2) C ck_9 hvv1 rfl rfl fl_X9_531 dX9_draw_2 ?_
  refine g_ldc2 (v := 1103) (pc := 5) C dX9_draw_5 kl_X9_534 ?_
  refine g_lmul (pc := 8) C dX9_draw_8 ?_
  refine g_ldc2 (v := 12345) (pc := 9) C dX9_draw_9 kl_X9_536 ?_
  refine g_ladd (pc := 12) C dX9_draw_12 ?_
  refine g_ldc2 (v := 1000003) (pc := 13) C dX9_draw_13 kl_X9_538 ?_
  refine g_lrem (pc := 16) C dX9_draw_16 (by decide) ?_
  obtain ⟨σ2, hvσ2, h⟩ := zbind h
  refine g_putJ (N := 58) (pc := 17) C ⟨ck_9, rfl, tyX9_ok⟩ hvσ2 rfl fl_X9_531 rfl rfl dX9_draw_17 ?_
  refine g_aload_n (pc := 20) C 0 0 dX9_draw_20 rfl rfl ?_
  obtain ⟨v3, hvv3, h⟩ := zbind h
  refine g_getJ (N := 58) (pc := 21) C ck_9 hvv3 rfl rfl fl_X9_531 dX9_draw_21 ?_
  refine g_iload_n (pc := 24) C 1 1 dX9_draw_24 rfl rfl ?_
  refine g_i2l (pc := 25) C dX9_draw_25 ?_
  obtain ⟨u4, hvu4, h⟩ := zbind h
  refine g_lrem (pc := 26) C dX9_draw_26 (zne_h hvu4) ?_
  refine g_l2i (pc := 27) C dX9_draw_27 ?_
  obtain ⟨rfl, rfl⟩ := zsome h
  exact g_iret (pc := 28) C rfl hx (by rw [hxn]; rfl) (by rw [hxn]; rfl) dX9_draw_28
def rm_X9_dusks : Room := { frames := 8, cells := 0, slots := 0, locals := 192 }
noncomputable def s_X9_dusks_j29 (h0 : Nat) (σ : Hp) : Option (Int32 × Hp) :=
  (ck 9 σ h0).bind fun u1 =>
  cb (s_X9_tell h0 ((-1)) σ) fun v3 σ2 =>
  some ((v3), σ2)
set_option maxRecDepth 100000 in
theorem w_X9_dusks_j29 {E : E0} (hE : EOK E) {X : X0} (C : XOK E X cX9_dusks RX9 8 (some .int) rm_X9_dusks) (hxn : xn X = (rm_X9_dusks.cells, rm_X9_dusks.slots)) (h0 : Nat) (σ : Hp) (r : Int32) (σ1 : Hp) (h : s_X9_dusks_j29 h0 σ = some (r, σ1)) (hx : xd X = (some (tI r), σ1)) : G E X 0 0 29 [(0, tR (some (h0)))] [] σ := by
  unfold s_X9_dusks_j29 at h
  refine g_aload_n (pc := 29) C 0 0 dX9_dusks_29 rfl rfl ?_
  refine g_iconst (v := (-1)) (pc := 30) C dX9_dusks_30 (by decide) ?_
  obtain ⟨u1, hvu1, h⟩ := zbind h
  obtain ⟨v3, σ2, hvσ2, h⟩ := zcb h
  refine g_callV (pc := 31) (av := [tI ((-1))]) C (c_X9_tell hE hvσ2) yv_X9_tell ml_X9_170 ck_9 (zopt hvu1).1 rfl (rf_of (by decide)) rfl (Nat.le_of_ble_eq_true rfl) dX9_dusks_31 ?_
  obtain ⟨rfl, rfl⟩ := zsome h
  exact g_iret (pc := 34) C rfl hx (by rw [hxn]; rfl) (by rw [hxn]; rfl) dX9_dusks_34
noncomputable def s_X9_dusks_j163 (h0 : Nat) (l2 : Int32) (l3 : Int32) (l4 : Int32) (σ : Hp) : Option (((Nat × Int32 × Int32 × Int32) ⊕ ((Nat × Int32))) × Hp) :=
  (ck 9 σ h0).bind fun u1 =>
  cb (s_X9_passIt h0 σ) fun v3 σ2 =>
  some (Sum.inl ((h0), (l2), (l3), (l4 + 1)), σ2)
set_option maxRecDepth 100000 in
theorem w_X9_dusks_j163 {E : E0} (hE : EOK E) {X : X0} (C : XOK E X cX9_dusks RX9 8 (some .int) rm_X9_dusks) (hxn : xn X = (rm_X9_dusks.cells, rm_X9_dusks.slots)) {KE : ((Nat × Int32)) → Hp → Prop} (e_174 : ∀ (h0 : Nat) (l3 : Int32) (σ : Hp), KE ((h0, l3)) σ → G E X 0 0 174 [(0, tR (some (h0))), (3, tI (l3))] [] σ) (h0 : Nat) (l2 : Int32) (l3 : Int32) (l4 : Int32) (σ : Hp) (x : (Nat × Int32 × Int32 × Int32) ⊕ ((Nat × Int32))) (σ1 : Hp) (h : s_X9_dusks_j163 h0 l2 l3 l4 σ = some (x, σ1)) (hI : ∀ v, x = Sum.inl v → (fun (v : Nat × Int32 × Int32 × Int32) (σ : Hp) => G E X 0 0 74 [(0, tR (some ((v.1)))), (2, tI ((v.2.1))), (3, tI ((v.2.2.1))), (4, tI ((v.2.2.2)))] [] σ) v σ1) (hO : ∀ e, x = Sum.inr e → KE e σ1) : G E X 0 0 163 [(0, tR (some (h0))), (2, tI (l2)), (3, tI (l3)), (4, tI (l4))] [] σ := by
  unfold s_X9_dusks_j163 at h
  refine g_aload_n (pc := 163) C 0 0 dX9_dusks_163 rfl rfl ?_
  obtain ⟨u1, hvu1, h⟩ := zbind h
  obtain ⟨v3, σ2, hvσ2, h⟩ := zcb h
  refine g_callV (pc := 164) (av := []) C (c_X9_passIt hE hvσ2) yv_X9_passIt ml_X9_457 ck_9 (zopt hvu1).1 rfl (rf_of (by decide)) rfl (Nat.le_of_ble_eq_true rfl) dX9_dusks_164 ?_
  refine g_pop (pc := 167) C dX9_dusks_167 rfl ?_
  refine g_iinc (lm' := [(4, tI (l4 + 1)), (0, tR (some (h0))), (2, tI (l2)), (3, tI (l3))]) (v := l4 + 1) (pc := 168) C 3 dX9_dusks_168 rfl rfl (by decide) rfl ?_
  refine g_goto (pc := 171) C 74 dX9_dusks_171 (by decide) ?_
  refine g_sub [1, 2, 3, 0] (lm' := [(0, tR (some (h0))), (2, tI (l2)), (3, tI (l3)), (4, tI (l4 + 1))]) rfl ?_
  obtain ⟨rfl, rfl⟩ := zsome h
  exact hI _ rfl
noncomputable def s_X9_dusks_b74 (h0 : Nat) (l2 : Int32) (l3 : Int32) (l4 : Int32) (σ : Hp) : Option (((Nat × Int32 × Int32 × Int32) ⊕ ((Nat × Int32))) × Hp) :=
  if l2 ≤ l4 then
    some (Sum.inr ((h0), (l3)), σ)
  else
    (rdR 9 σ h0 3).bind fun r1 =>
    (r1).bind fun a2 =>
    (ldI 11 σ a2 (7)).bind fun v3 =>
    if 999 ≤ v3 then
      some (Sum.inr ((h0), (l3)), σ)
    else
      (rdR 9 σ h0 3).bind fun r4 =>
      (r4).bind fun a5 =>
      (ldI 11 σ a5 (1)).bind fun v6 =>
      (ck 9 σ h0).bind fun u7 =>
      cb (s_X9_draw h0 (v6) σ) fun v9 σ8 =>
      (rdR 9 σ8 h0 3).bind fun r10 =>
      (r10).bind fun a11 =>
      (ldI 11 σ8 a11 (0)).bind fun v12 =>
      (ck 9 σ8 h0).bind fun u13 =>
      cb (s_X9_draw h0 (v12) σ8) fun v15 σ14 =>
      (ck 9 σ14 h0).bind fun u16 =>
      cb (s_X9_draw h0 (4) σ14) fun v18 σ17 =>
      if 3 ≤ v18 then
        s_X9_dusks_j163 (h0) (l2) (l3) (l4) σ17
      else
        (rdR 9 σ17 h0 3).bind fun r19 =>
        (r19).bind fun a20 =>
        (ldI 11 σ17 a20 (17 + v9)).bind fun v21 =>
        (ck 9 σ17 h0).bind fun u22 =>
        cb (s_X9_canStride h0 (v9) (v21) (v15) σ17) fun v24 σ23 =>
        if v24 = 0 then
          s_X9_dusks_j163 (h0) (l2) (l3) (l4) σ23
        else
          (rdR 9 σ23 h0 3).bind fun r25 =>
          (r25).bind fun a26 =>
          (stI σ23 a26 (17 + v9) (v15)).bind fun σ27 =>
          s_X9_dusks_j163 (h0) (l2) (l3) (l4) σ27
noncomputable def s_X9_dusks_l74 : (Nat × Int32 × Int32 × Int32) → Hp → Option (((Nat × Int32)) × Hp) := loopF (fun v => s_X9_dusks_b74 (v.1) (v.2.1) (v.2.2.1) (v.2.2.2))
set_option maxRecDepth 100000 in
theorem w_X9_dusks_b74 {E : E0} (hE : EOK E) {X : X0} (C : XOK E X cX9_dusks RX9 8 (some .int) rm_X9_dusks) (hxn : xn X = (rm_X9_dusks.cells, rm_X9_dusks.slots)) {KE : ((Nat × Int32)) → Hp → Prop} (e_174 : ∀ (h0 : Nat) (l3 : Int32) (σ : Hp), KE ((h0, l3)) σ → G E X 0 0 174 [(0, tR (some (h0))), (3, tI (l3))] [] σ) (h0 : Nat) (l2 : Int32) (l3 : Int32) (l4 : Int32) (σ : Hp) (x : (Nat × Int32 × Int32 × Int32) ⊕ ((Nat × Int32))) (σ1 : Hp) (h : s_X9_dusks_b74 h0 l2 l3 l4 σ = some (x, σ1)) (hI : ∀ v, x = Sum.inl v → (fun (v : Nat × Int32 × Int32 × Int32) (σ : Hp) => G E X 0 0 74 [(0, tR (some ((v.1)))), (2, tI ((v.2.1))), (3, tI ((v.2.2.1))), (4, tI ((v.2.2.2)))] [] σ) v σ1) (hO : ∀ e, x = Sum.inr e → KE e σ1) : G E X 0 0 74 [(0, tR (some (h0))), (2, tI (l2)), (3, tI (l3)), (4, tI (l4))] [] σ := by
  unfold s_X9_dusks_b74 at h
  refine g_iload (pc := 74) C 3 dX9_dusks_74 rfl ?_
  refine g_iload_n (pc := 76) C 2 1 dX9_dusks_76 rfl rfl ?_
  refine g_icmp_ge (pc := 77) C 174 dX9_dusks_77 (by decide) (fun c31 => ?_) (fun c31 => ?_)
  · have h := zif_t c31 h
    refine g_sub [0, 2] (lm' := [(0, tR (some (h0))), (3, tI (l3))]) rfl ?_
    obtain ⟨rfl, rfl⟩ := zsome h
    exact e_174 _ _ _ (hO _ rfl)
  · have h := zif_f c31 h
    refine g_aload_n (pc := 80) C 0 0 dX9_dusks_80 rfl rfl ?_
    obtain ⟨r1, hvr1, h⟩ := zbind h
    refine g_getR (N := 58) (pc := 81) C ck_9 hvr1 rfl rfl fl_X9_13 dX9_dusks_81 ?_
    refine g_bipush (v := 7) (pc := 84) C dX9_dusks_84 (by decide) ?_
    obtain ⟨a2, hqa2, h9⟩ := zbind h
    clear h
    subst hqa2
    have h := h9
    clear h9
    obtain ⟨v3, hvv3, h⟩ := zbind h
    refine g_iald (pc := 86) C hvv3 dX9_dusks_86 ?_
    refine g_sipush (v := 999) (pc := 87) C dX9_dusks_87 (by decide) ?_
    refine g_icmp_ge (pc := 90) C 174 dX9_dusks_90 (by decide) (fun c30 => ?_) (fun c30 => ?_)
    · have h := zif_t c30 h
      refine g_sub [0, 2] (lm' := [(0, tR (some (h0))), (3, tI (l3))]) rfl ?_
      obtain ⟨rfl, rfl⟩ := zsome h
      exact e_174 _ _ _ (hO _ rfl)
    · have h := zif_f c30 h
      refine g_aload_n (pc := 93) C 0 0 dX9_dusks_93 rfl rfl ?_
      refine g_aload_n (pc := 94) C 0 0 dX9_dusks_94 rfl rfl ?_
      obtain ⟨r4, hvr4, h⟩ := zbind h
      refine g_getR (N := 58) (pc := 95) C ck_9 hvr4 rfl rfl fl_X9_13 dX9_dusks_95 ?_
      refine g_iconst (v := 1) (pc := 98) C dX9_dusks_98 (by decide) ?_
      obtain ⟨a5, hqa5, h9⟩ := zbind h
      clear h
      subst hqa5
      have h := h9
      clear h9
      obtain ⟨v6, hvv6, h⟩ := zbind h
      refine g_iald (pc := 99) C hvv6 dX9_dusks_99 ?_
      obtain ⟨u7, hvu7, h⟩ := zbind h
      obtain ⟨v9, σ8, hvσ8, h⟩ := zcb h
      refine g_callV (pc := 100) (av := [tI (v6)]) C (c_X9_draw hE hvσ8) yv_X9_draw ml_X9_540 ck_9 (zopt hvu7).1 rfl (rf_of (by decide)) rfl (Nat.le_of_ble_eq_true rfl) dX9_dusks_100 ?_
      refine g_istore (lm' := [(5, tI (v9)), (0, tR (some (h0))), (2, tI (l2)), (3, tI (l3)), (4, tI (l4))]) (pc := 103) C dX9_dusks_103 (by decide) rfl ?_
      refine g_aload_n (pc := 105) C 0 1 dX9_dusks_105 rfl rfl ?_
      refine g_aload_n (pc := 106) C 0 1 dX9_dusks_106 rfl rfl ?_
      obtain ⟨r10, hvr10, h⟩ := zbind h
      refine g_getR (N := 58) (pc := 107) C ck_9 hvr10 rfl rfl fl_X9_13 dX9_dusks_107 ?_
      refine g_iconst (v := 0) (pc := 110) C dX9_dusks_110 (by decide) ?_
      obtain ⟨a11, hqa11, h9⟩ := zbind h
      clear h
      subst hqa11
      have h := h9
      clear h9
      obtain ⟨v12, hvv12, h⟩ := zbind h
      refine g_iald (pc := 111) C hvv12 dX9_dusks_111 ?_
      obtain ⟨u13, hvu13, h⟩ := zbind h
      obtain ⟨v15, σ14, hvσ14, h⟩ := zcb h
      refine g_callV (pc := 112) (av := [tI (v12)]) C (c_X9_draw hE hvσ14) yv_X9_draw ml_X9_540 ck_9 (zopt hvu13).1 rfl (rf_of (by decide)) rfl (Nat.le_of_ble_eq_true rfl) dX9_dusks_112 ?_
      refine g_istore (lm' := [(6, tI (v15)), (5, tI (v9)), (0, tR (some (h0))), (2, tI (l2)), (3, tI (l3)), (4, tI (l4))]) (pc := 115) C dX9_dusks_115 (by decide) rfl ?_
      refine g_aload_n (pc := 117) C 0 2 dX9_dusks_117 rfl rfl ?_
      refine g_iconst (v := 4) (pc := 118) C dX9_dusks_118 (by decide) ?_
      obtain ⟨u16, hvu16, h⟩ := zbind h
      obtain ⟨v18, σ17, hvσ17, h⟩ := zcb h
      refine g_callV (pc := 119) (av := [tI (4)]) C (c_X9_draw hE hvσ17) yv_X9_draw ml_X9_540 ck_9 (zopt hvu16).1 rfl (rf_of (by decide)) rfl (Nat.le_of_ble_eq_true rfl) dX9_dusks_119 ?_
      refine g_istore (lm' := [(7, tI (v18)), (6, tI (v15)), (5, tI (v9)), (0, tR (some (h0))), (2, tI (l2)), (3, tI (l3)), (4, tI (l4))]) (pc := 122) C dX9_dusks_122 (by decide) rfl ?_
      refine g_iload (pc := 124) C 0 dX9_dusks_124 rfl ?_
      refine g_iconst (v := 3) (pc := 126) C dX9_dusks_126 (by decide) ?_
      refine g_icmp_ge (pc := 127) C 163 dX9_dusks_127 (by decide) (fun c29 => ?_) (fun c29 => ?_)
      · have h := zif_t c29 h
        refine g_sub [3, 4, 5, 6] (lm' := [(0, tR (some (h0))), (2, tI (l2)), (3, tI (l3)), (4, tI (l4))]) rfl ?_
        exact w_X9_dusks_j163 hE C hxn e_174 _ _ _ _ _ _ _ h hI hO
      · have h := zif_f c29 h
        refine g_aload_n (pc := 130) C 0 3 dX9_dusks_130 rfl rfl ?_
        refine g_iload (pc := 131) C 2 dX9_dusks_131 rfl ?_
        refine g_aload_n (pc := 133) C 0 3 dX9_dusks_133 rfl rfl ?_
        obtain ⟨r19, hvr19, h⟩ := zbind h
        refine g_getR (N := 58) (pc := 134) C ck_9 hvr19 rfl rfl fl_X9_13 dX9_dusks_134 ?_
        refine g_bipush (v := 17) (pc := 137) C dX9_dusks_137 (by decide) ?_
        refine g_iload (pc := 139) C 2 dX9_dusks_139 rfl ?_
        refine g_iadd (pc := 141) C dX9_dusks_141 ?_
        obtain ⟨a20, hqa20, h9⟩ := zbind h
        clear h
        subst hqa20
        have h := h9
        clear h9
        obtain ⟨v21, hvv21, h⟩ := zbind h
        refine g_iald (pc := 142) C hvv21 dX9_dusks_142 ?_
        refine g_iload (pc := 143) C 1 dX9_dusks_143 rfl ?_
        obtain ⟨u22, hvu22, h⟩ := zbind h
        obtain ⟨v24, σ23, hvσ23, h⟩ := zcb h
        refine g_callV (pc := 145) (av := [tI (v9), tI (v21), tI (v15)]) C (c_X9_canStride hE hvσ23) yv_X9_canStride ml_X9_231 ck_9 (zopt hvu22).1 rfl (rf_of (by decide)) rfl (Nat.le_of_ble_eq_true rfl) dX9_dusks_145 ?_
        refine g_if_eq (pc := 148) C 163 dX9_dusks_148 (by decide) (fun c28 => ?_) (fun c28 => ?_)
        · have h := zif_t c28 h
          refine g_sub [3, 4, 5, 6] (lm' := [(0, tR (some (h0))), (2, tI (l2)), (3, tI (l3)), (4, tI (l4))]) rfl ?_
          exact w_X9_dusks_j163 hE C hxn e_174 _ _ _ _ _ _ _ h hI hO
        · have h := zif_f c28 h
          refine g_aload_n (pc := 151) C 0 3 dX9_dusks_151 rfl rfl ?_
          obtain ⟨r25, hvr25, h⟩ := zbind h
          refine g_getR (N := 58) (pc := 152) C ck_9 hvr25 rfl rfl fl_X9_13 dX9_dusks_152 ?_
          refine g_bipush (v := 17) (pc := 155) C dX9_dusks_155 (by decide) ?_
          refine g_iload (pc := 157) C 2 dX9_dusks_157 rfl ?_
          refine g_iadd (pc := 159) C dX9_dusks_159 ?_
          refine g_iload (pc := 160) C 1 dX9_dusks_160 rfl ?_
          obtain ⟨a26, hqa26, h9⟩ := zbind h
          clear h
          subst hqa26
          have h := h9
          clear h9
          obtain ⟨σ27, hvσ27, h⟩ := zbind h
          refine g_iast (pc := 162) C hvσ27 dX9_dusks_162 ?_
          refine g_sub [3, 4, 5, 6] (lm' := [(0, tR (some (h0))), (2, tI (l2)), (3, tI (l3)), (4, tI (l4))]) rfl ?_
          exact w_X9_dusks_j163 hE C hxn e_174 _ _ _ _ _ _ _ h hI hO
theorem w_X9_dusks_l74 {E : E0} (hE : EOK E) {X : X0} (C : XOK E X cX9_dusks RX9 8 (some .int) rm_X9_dusks) (hxn : xn X = (rm_X9_dusks.cells, rm_X9_dusks.slots)) {KE : ((Nat × Int32)) → Hp → Prop} (e_174 : ∀ (h0 : Nat) (l3 : Int32) (σ : Hp), KE ((h0, l3)) σ → G E X 0 0 174 [(0, tR (some (h0))), (3, tI (l3))] [] σ) {v : Nat × Int32 × Int32 × Int32} {σ : Hp} {e : (Nat × Int32)} {σ1 : Hp} (h : s_X9_dusks_l74 v σ = some (e, σ1)) (hO : KE e σ1) : G E X 0 0 74 [(0, tR (some ((v.1)))), (2, tI ((v.2.1))), (3, tI ((v.2.2.1))), (4, tI ((v.2.2.2)))] [] σ := loopF_ind (P := fun (v : Nat × Int32 × Int32 × Int32) (σ : Hp) => G E X 0 0 74 [(0, tR (some ((v.1)))), (2, tI ((v.2.1))), (3, tI ((v.2.2.1))), (4, tI ((v.2.2.2)))] [] σ) (KE := KE) (fun v σ x σ1 h hI hO => w_X9_dusks_b74 hE C hxn e_174 (v.1) (v.2.1) (v.2.2.1) (v.2.2.2) σ x σ1 h hI hO) v σ e σ1 h hO
noncomputable def s_X9_dusks_b177 (h0 : Nat) (l3 : Int32) (l4 : Int32) (σ : Hp) : Option (((Nat × Int32 × Int32) ⊕ ((Nat × Int32))) × Hp) :=
  if 23 ≤ l4 then
    some (Sum.inr ((h0), (l3)), σ)
  else
    (rdR 9 σ h0 55).bind fun r1 =>
    (rdR 9 σ h0 3).bind fun r2 =>
    (r2).bind fun a3 =>
    (ldI 11 σ a3 (7 + l4)).bind fun v4 =>
    (r1).bind fun a5 =>
    (stI σ a5 (l4) (v4)).bind fun σ6 =>
    some (Sum.inl ((h0), (l3), (l4 + 1)), σ6)
noncomputable def s_X9_dusks_l177 : (Nat × Int32 × Int32) → Hp → Option (((Nat × Int32)) × Hp) := loopF (fun v => s_X9_dusks_b177 (v.1) (v.2.1) (v.2.2))
set_option maxRecDepth 100000 in
theorem w_X9_dusks_b177 {E : E0} (hE : EOK E) {X : X0} (C : XOK E X cX9_dusks RX9 8 (some .int) rm_X9_dusks) (hxn : xn X = (rm_X9_dusks.cells, rm_X9_dusks.slots)) {KE : ((Nat × Int32)) → Hp → Prop} (e_207 : ∀ (h0 : Nat) (l3 : Int32) (σ : Hp), KE ((h0, l3)) σ → G E X 0 0 207 [(0, tR (some (h0))), (3, tI (l3))] [] σ) (h0 : Nat) (l3 : Int32) (l4 : Int32) (σ : Hp) (x : (Nat × Int32 × Int32) ⊕ ((Nat × Int32))) (σ1 : Hp) (h : s_X9_dusks_b177 h0 l3 l4 σ = some (x, σ1)) (hI : ∀ v, x = Sum.inl v → (fun (v : Nat × Int32 × Int32) (σ : Hp) => G E X 0 0 177 [(0, tR (some ((v.1)))), (3, tI ((v.2.1))), (4, tI ((v.2.2)))] [] σ) v σ1) (hO : ∀ e, x = Sum.inr e → KE e σ1) : G E X 0 0 177 [(0, tR (some (h0))), (3, tI (l3)), (4, tI (l4))] [] σ := by
  unfold s_X9_dusks_b177 at h
  refine g_iload (pc := 177) C 2 dX9_dusks_177 rfl ?_
  refine g_bipush (v := 23) (pc := 179) C dX9_dusks_179 (by decide) ?_
  refine g_icmp_ge (pc := 181) C 207 dX9_dusks_181 (by decide) (fun c7 => ?_) (fun c7 => ?_)
  · have h := zif_t c7 h
    refine g_sub [0, 1] (lm' := [(0, tR (some (h0))), (3, tI (l3))]) rfl ?_
    obtain ⟨rfl, rfl⟩ := zsome h
    exact e_207 _ _ _ (hO _ rfl)
  · have h := zif_f c7 h
    refine g_aload_n (pc := 184) C 0 0 dX9_dusks_184 rfl rfl ?_
    obtain ⟨r1, hvr1, h⟩ := zbind h
    refine g_getR (N := 58) (pc := 185) C ck_9 hvr1 rfl rfl fl_X9_152 dX9_dusks_185 ?_
    refine g_iload (pc := 188) C 2 dX9_dusks_188 rfl ?_
    refine g_aload_n (pc := 190) C 0 0 dX9_dusks_190 rfl rfl ?_
    obtain ⟨r2, hvr2, h⟩ := zbind h
    refine g_getR (N := 58) (pc := 191) C ck_9 hvr2 rfl rfl fl_X9_13 dX9_dusks_191 ?_
    refine g_bipush (v := 7) (pc := 194) C dX9_dusks_194 (by decide) ?_
    refine g_iload (pc := 196) C 2 dX9_dusks_196 rfl ?_
    refine g_iadd (pc := 198) C dX9_dusks_198 ?_
    obtain ⟨a3, hqa3, h9⟩ := zbind h
    clear h
    subst hqa3
    have h := h9
    clear h9
    obtain ⟨v4, hvv4, h⟩ := zbind h
    refine g_iald (pc := 199) C hvv4 dX9_dusks_199 ?_
    obtain ⟨a5, hqa5, h9⟩ := zbind h
    clear h
    subst hqa5
    have h := h9
    clear h9
    obtain ⟨σ6, hvσ6, h⟩ := zbind h
    refine g_iast (pc := 200) C hvσ6 dX9_dusks_200 ?_
    refine g_iinc (lm' := [(4, tI (l4 + 1)), (0, tR (some (h0))), (3, tI (l3))]) (v := l4 + 1) (pc := 201) C 2 dX9_dusks_201 rfl rfl (by decide) rfl ?_
    refine g_goto (pc := 204) C 177 dX9_dusks_204 (by decide) ?_
    refine g_sub [1, 2, 0] (lm' := [(0, tR (some (h0))), (3, tI (l3)), (4, tI (l4 + 1))]) rfl ?_
    obtain ⟨rfl, rfl⟩ := zsome h
    exact hI _ rfl
theorem w_X9_dusks_l177 {E : E0} (hE : EOK E) {X : X0} (C : XOK E X cX9_dusks RX9 8 (some .int) rm_X9_dusks) (hxn : xn X = (rm_X9_dusks.cells, rm_X9_dusks.slots)) {KE : ((Nat × Int32)) → Hp → Prop} (e_207 : ∀ (h0 : Nat) (l3 : Int32) (σ : Hp), KE ((h0, l3)) σ → G E X 0 0 207 [(0, tR (some (h0))), (3, tI (l3))] [] σ) {v : Nat × Int32 × Int32} {σ : Hp} {e : (Nat × Int32)} {σ1 : Hp} (h : s_X9_dusks_l177 v σ = some (e, σ1)) (hO : KE e σ1) : G E X 0 0 177 [(0, tR (some ((v.1)))), (3, tI ((v.2.1))), (4, tI ((v.2.2)))] [] σ := loopF_ind (P := fun (v : Nat × Int32 × Int32) (σ : Hp) => G E X 0 0 177 [(0, tR (some ((v.1)))), (3, tI ((v.2.1))), (4, tI ((v.2.2)))] [] σ) (KE := KE) (fun v σ x σ1 h hI hO => w_X9_dusks_b177 hE C hxn e_207 (v.1) (v.2.1) (v.2.2) σ x σ1 h hI hO) v σ e σ1 h hO
noncomputable def s_X9_dusks_j174 (h0 : Nat) (l3 : Int32) (σ : Hp) : Option (Int32 × Hp) :=
  cb (s_X9_dusks_l177 ((h0), (l3), (0)) σ) fun e23 σ22 =>
  match e23 with
  | (h1, l32) =>
    (rdR 9 σ22 h1 3).bind fun r4 =>
    (r4).bind fun a5 =>
    (ldI 11 σ22 a5 (1)).bind fun v6 =>
    (wrI 9 σ22 h1 56 (v6)).bind fun σ7 =>
    (rdR 9 σ7 h1 3).bind fun r8 =>
    (r8).bind fun a9 =>
    (ldI 11 σ7 a9 (2)).bind fun v10 =>
    (wrI 9 σ7 h1 57 (v10)).bind fun σ11 =>
    (rdR 9 σ11 h1 3).bind fun r12 =>
    (r12).bind fun a13 =>
    (ldI 11 σ11 a13 (10)).bind fun v14 =>
    (ck 9 σ11 h1).bind fun u15 =>
    cb (s_X9_putBack h1 (16) σ11) fun v17 σ16 =>
    (ck 9 σ16 h1).bind fun u18 =>
    cb (s_X9_tell h1 (v14 - l32) σ16) fun v20 σ19 =>
    some ((v20), σ19)
set_option maxRecDepth 100000 in
theorem w_X9_dusks_j174 {E : E0} (hE : EOK E) {X : X0} (C : XOK E X cX9_dusks RX9 8 (some .int) rm_X9_dusks) (hxn : xn X = (rm_X9_dusks.cells, rm_X9_dusks.slots)) (h0 : Nat) (l3 : Int32) (σ : Hp) (r : Int32) (σ1 : Hp) (h : s_X9_dusks_j174 h0 l3 σ = some (r, σ1)) (hx : xd X = (some (tI r), σ1)) : G E X 0 0 174 [(0, tR (some (h0))), (3, tI (l3))] [] σ := by
  unfold s_X9_dusks_j174 at h
  refine g_iconst (v := 0) (pc := 174) C dX9_dusks_174 (by decide) ?_
  refine g_istore (lm' := [(4, tI (0)), (0, tR (some (h0))), (3, tI (l3))]) (pc := 175) C dX9_dusks_175 (by decide) rfl ?_
  refine g_sub [1, 2, 0] (lm' := [(0, tR (some (h0))), (3, tI (l3)), (4, tI (0))]) rfl ?_
  obtain ⟨KQ, hKQ, e23, σ22, hle23, h⟩ := zcbK h
  refine w_X9_dusks_l177 (KE := KQ) hE C hxn ?_ hle23 h
  · intro h1 l32 σ3 h
    have h := (hKQ _ _).mp h
    refine g_aload_n (pc := 207) C 0 0 dX9_dusks_207 rfl rfl ?_
    refine g_aload_n (pc := 208) C 0 0 dX9_dusks_208 rfl rfl ?_
    obtain ⟨r4, hvr4, h⟩ := zbind h
    refine g_getR (N := 58) (pc := 209) C ck_9 hvr4 rfl rfl fl_X9_13 dX9_dusks_209 ?_
    refine g_iconst (v := 1) (pc := 212) C dX9_dusks_212 (by decide) ?_
    obtain ⟨a5, hqa5, h9⟩ := zbind h
    clear h
    subst hqa5
    have h := h9
    clear h9
    obtain ⟨v6, hvv6, h⟩ := zbind h
    refine g_iald (pc := 213) C hvv6 dX9_dusks_213 ?_
    obtain ⟨σ7, hvσ7, h⟩ := zbind h
    refine g_putI (N := 58) (pc := 214) C ⟨ck_9, rfl, tyX9_ok⟩ hvσ7 rfl fl_X9_155 rfl rfl dX9_dusks_214 ?_
    refine g_aload_n (pc := 217) C 0 0 dX9_dusks_217 rfl rfl ?_
    refine g_aload_n (pc := 218) C 0 0 dX9_dusks_218 rfl rfl ?_
    obtain ⟨r8, hvr8, h⟩ := zbind h
    refine g_getR (N := 58) (pc := 219) C ck_9 hvr8 rfl rfl fl_X9_13 dX9_dusks_219 ?_
    refine g_iconst (v := 2) (pc := 222) C dX9_dusks_222 (by decide) ?_
    obtain ⟨a9, hqa9, h9⟩ := zbind h
    clear h
    subst hqa9
    have h := h9
    clear h9
    obtain ⟨v10, hvv10, h⟩ := zbind h
    refine g_iald (pc := 223) C hvv10 dX9_dusks_223 ?_
    obtain ⟨σ11, hvσ11, h⟩ := zbind h
    refine g_putI (N := 58) (pc := 224) C ⟨ck_9, rfl, tyX9_ok⟩ hvσ11 rfl fl_X9_158 rfl rfl dX9_dusks_224 ?_
    refine g_aload_n (pc := 227) C 0 0 dX9_dusks_227 rfl rfl ?_
    obtain ⟨r12, hvr12, h⟩ := zbind h
    refine g_getR (N := 58) (pc := 228) C ck_9 hvr12 rfl rfl fl_X9_13 dX9_dusks_228 ?_
    refine g_bipush (v := 10) (pc := 231) C dX9_dusks_231 (by decide) ?_
    obtain ⟨a13, hqa13, h9⟩ := zbind h
    clear h
    subst hqa13
    have h := h9
    clear h9
    obtain ⟨v14, hvv14, h⟩ := zbind h
    refine g_iald (pc := 233) C hvv14 dX9_dusks_233 ?_
    refine g_iload_n (pc := 234) C 3 1 dX9_dusks_234 rfl rfl ?_
    refine g_isub (pc := 235) C dX9_dusks_235 ?_
    refine g_istore (lm' := [(4, tI (v14 - l32)), (0, tR (some (h1))), (3, tI (l32))]) (pc := 236) C dX9_dusks_236 (by decide) rfl ?_
    refine g_aload_n (pc := 238) C 0 1 dX9_dusks_238 rfl rfl ?_
    refine g_bipush (v := 16) (pc := 239) C dX9_dusks_239 (by decide) ?_
    obtain ⟨u15, hvu15, h⟩ := zbind h
    obtain ⟨v17, σ16, hvσ16, h⟩ := zcb h
    refine g_callV (pc := 241) (av := [tI (16)]) C (c_X9_putBack hE hvσ16) yv_X9_putBack ml_X9_178 ck_9 (zopt hvu15).1 rfl (rf_of (by decide)) rfl (Nat.le_of_ble_eq_true rfl) dX9_dusks_241 ?_
    refine g_aload_n (pc := 244) C 0 1 dX9_dusks_244 rfl rfl ?_
    refine g_iload (pc := 245) C 0 dX9_dusks_245 rfl ?_
    obtain ⟨u18, hvu18, h⟩ := zbind h
    obtain ⟨v20, σ19, hvσ19, h⟩ := zcb h
    refine g_callV (pc := 247) (av := [tI (v14 - l32)]) C (c_X9_tell hE hvσ19) yv_X9_tell ml_X9_170 ck_9 (zopt hvu18).1 rfl (rf_of (by decide)) rfl (Nat.le_of_ble_eq_true rfl) dX9_dusks_247 ?_
    obtain ⟨rfl, rfl⟩ := zsome h
    exact g_iret (pc := 250) C rfl hx (by rw [hxn]; rfl) (by rw [hxn]; rfl) dX9_dusks_250
noncomputable def s_X9_dusks (h0 : Nat) (p1 : Int32) (p2 : Int32) (σ : Hp) : Option (Int32 × Hp) :=
  (wrI 9 σ h0 0 (0)).bind fun σ1 =>
  cb (s_X9_in (Int32.toInt64 (p1 : Int32)) (0) (1000000) σ1) fun v3 σ2 =>
  if v3 = 0 then
    s_X9_dusks_j29 (h0) σ2
  else
    cb (s_X9_in (Int32.toInt64 (p2 : Int32)) (1) (60) σ2) fun v5 σ4 =>
    if v5 = 0 then
      s_X9_dusks_j29 (h0) σ4
    else
      (rdR 9 σ4 h0 3).bind fun r6 =>
      (r6).bind fun a7 =>
      (ldI 11 σ4 a7 (1)).bind fun v8 =>
      if v8 = 0 then
        (ck 9 σ4 h0).bind fun u22 =>
        cb (s_X9_tell h0 ((-3)) σ4) fun v24 σ23 =>
        some ((v24), σ23)
      else
        (ck 9 σ4 h0).bind fun u9 =>
        cb (s_X9_keepAll h0 (16) σ4) fun v11 σ10 =>
        (wrJ 9 σ10 h0 54 (Int32.toInt64 (p1 : Int32))).bind fun σ12 =>
        (rdR 9 σ12 h0 3).bind fun r13 =>
        (r13).bind fun a14 =>
        (ldI 11 σ12 a14 (10)).bind fun v15 =>
        cb (s_X9_dusks_l74 ((h0), (p2), (v15), (0)) σ12) fun e21 σ20 =>
        match e21 with
        | (h16, l317) =>
          s_X9_dusks_j174 (h16) (l317) σ20
set_option maxRecDepth 100000 in
theorem c_X9_dusks {E : E0} (hE : EOK E) {h0 : Nat} {p1 : Int32} {p2 : Int32} {σ σ1 : Hp} {r : Int32} (h : s_X9_dusks h0 p1 p2 σ = some (r, σ1)) : CT E yX9_dusks (.code yX9_dusks cX9_dusks 8 (some .int)) rm_X9_dusks [tR (some (h0)), tI (p1), tI (p2)] σ (some (tI r)) σ1 := by
  refine CT.mk hE (by decide +kernel) (Nat.le_of_ble_eq_true rfl) [(0, tR (some (h0))), (1, tI (p1)), (2, tI (p2))] rfl (fun X C hin hx hxn => ?_)
  have C : XOK E X cX9_dusks RX9 8 (some .int) rm_X9_dusks := C
  unfold s_X9_dusks at h
  refine g_aload_n (pc := 0) C 0 0 dX9_dusks_0 rfl rfl ?_
  refine g_iconst (v := 0) (pc := 1) C dX9_dusks_1 (by decide) ?_
  obtain ⟨σ1, hvσ1, h⟩ := zbind h
  refine g_putI (N := 58) (pc := 2) C ⟨ck_9, rfl, tyX9_ok⟩ hvσ1 rfl fl_X9_161 rfl rfl dX9_dusks_2 ?_
  refine g_iload_n (pc := 5) C 1 1 dX9_dusks_5 rfl rfl ?_
  refine g_i2l (pc := 6) C dX9_dusks_6 ?_
  refine g_lconst (v := 0) (pc := 7) C dX9_dusks_7 (by decide) ?_
  refine g_ldc2 (v := 1000000) (pc := 8) C dX9_dusks_8 kl_X9_283 ?_
  obtain ⟨v3, σ2, hvσ2, h⟩ := zcb h
  refine g_callS (pc := 11) (av := [tJ (Int32.toInt64 (p1 : Int32)), tJ (0), tJ (1000000)]) C (c_X9_in hE hvσ2) ys_X9_in ml_X9_181 rfl (rf_of (by decide)) rfl (Nat.le_of_ble_eq_true rfl) dX9_dusks_11 ?_
  refine g_if_eq (pc := 14) C 29 dX9_dusks_14 (by decide) (fun c27 => ?_) (fun c27 => ?_)
  · have h := zif_t c27 h
    refine g_sub [0] (lm' := [(0, tR (some (h0)))]) rfl ?_
    exact w_X9_dusks_j29 hE C hxn _ _ _ _ h hx
  · have h := zif_f c27 h
    refine g_iload_n (pc := 17) C 2 2 dX9_dusks_17 rfl rfl ?_
    refine g_i2l (pc := 18) C dX9_dusks_18 ?_
    refine g_lconst (v := 1) (pc := 19) C dX9_dusks_19 (by decide) ?_
    refine g_ldc2 (v := 60) (pc := 20) C dX9_dusks_20 kl_X9_487 ?_
    obtain ⟨v5, σ4, hvσ4, h⟩ := zcb h
    refine g_callS (pc := 23) (av := [tJ (Int32.toInt64 (p2 : Int32)), tJ (1), tJ (60)]) C (c_X9_in hE hvσ4) ys_X9_in ml_X9_181 rfl (rf_of (by decide)) rfl (Nat.le_of_ble_eq_true rfl) dX9_dusks_23 ?_
    refine g_if_ne (pc := 26) C 35 dX9_dusks_26 (by decide) (fun c26 => ?_) (fun c26 => ?_)
    · have h := zif_f c26 h
      refine g_aload_n (pc := 35) C 0 0 dX9_dusks_35 rfl rfl ?_
      obtain ⟨r6, hvr6, h⟩ := zbind h
      refine g_getR (N := 58) (pc := 36) C ck_9 hvr6 rfl rfl fl_X9_13 dX9_dusks_36 ?_
      refine g_iconst (v := 1) (pc := 39) C dX9_dusks_39 (by decide) ?_
      obtain ⟨a7, hqa7, h9⟩ := zbind h
      clear h
      subst hqa7
      have h := h9
      clear h9
      obtain ⟨v8, hvv8, h⟩ := zbind h
      refine g_iald (pc := 40) C hvv8 dX9_dusks_40 ?_
      refine g_if_ne (pc := 41) C 51 dX9_dusks_41 (by decide) (fun c25 => ?_) (fun c25 => ?_)
      · have h := zif_f c25 h
        refine g_aload_n (pc := 51) C 0 0 dX9_dusks_51 rfl rfl ?_
        refine g_bipush (v := 16) (pc := 52) C dX9_dusks_52 (by decide) ?_
        obtain ⟨u9, hvu9, h⟩ := zbind h
        obtain ⟨v11, σ10, hvσ10, h⟩ := zcb h
        refine g_callV (pc := 54) (av := [tI (16)]) C (c_X9_keepAll hE hvσ10) yv_X9_keepAll ml_X9_174 ck_9 (zopt hvu9).1 rfl (rf_of (by decide)) rfl (Nat.le_of_ble_eq_true rfl) dX9_dusks_54 ?_
        refine g_aload_n (pc := 57) C 0 0 dX9_dusks_57 rfl rfl ?_
        refine g_iload_n (pc := 58) C 1 1 dX9_dusks_58 rfl rfl ?_
        refine g_i2l (pc := 59) C dX9_dusks_59 ?_
        obtain ⟨σ12, hvσ12, h⟩ := zbind h
        refine g_putJ (N := 58) (pc := 60) C ⟨ck_9, rfl, tyX9_ok⟩ hvσ12 rfl fl_X9_531 rfl rfl dX9_dusks_60 ?_
        refine g_aload_n (pc := 63) C 0 0 dX9_dusks_63 rfl rfl ?_
        obtain ⟨r13, hvr13, h⟩ := zbind h
        refine g_getR (N := 58) (pc := 64) C ck_9 hvr13 rfl rfl fl_X9_13 dX9_dusks_64 ?_
        refine g_bipush (v := 10) (pc := 67) C dX9_dusks_67 (by decide) ?_
        obtain ⟨a14, hqa14, h9⟩ := zbind h
        clear h
        subst hqa14
        have h := h9
        clear h9
        obtain ⟨v15, hvv15, h⟩ := zbind h
        refine g_iald (pc := 69) C hvv15 dX9_dusks_69 ?_
        refine g_istore_n (lm' := [(3, tI (v15)), (0, tR (some (h0))), (1, tI (p1)), (2, tI (p2))]) (pc := 70) C 3 dX9_dusks_70 rfl (by decide) rfl ?_
        refine g_iconst (v := 0) (pc := 71) C dX9_dusks_71 (by decide) ?_
        refine g_istore (lm' := [(4, tI (0)), (3, tI (v15)), (0, tR (some (h0))), (1, tI (p1)), (2, tI (p2))]) (pc := 72) C dX9_dusks_72 (by decide) rfl ?_
        refine g_sub [2, 4, 1, 0] (lm' := [(0, tR (some (h0))), (2, tI (p2)), (3, tI (v15)), (4, tI (0))]) rfl ?_
        obtain ⟨KQ, hKQ, e21, σ20, hle21, h⟩ := zcbK h
        refine w_X9_dusks_l74 (KE := KQ) hE C hxn ?_ hle21 h
        · intro h16 l317 σ18 h
          have h := (hKQ _ _).mp h
          exact w_X9_dusks_j174 hE C hxn _ _ _ _ _ h hx
      · have h := zif_t c25 h
        refine g_aload_n (pc := 44) C 0 0 dX9_dusks_44 rfl rfl ?_
        refine g_bipush (v := (-3)) (pc := 45) C dX9_dusks_45 (by decide) ?_
        obtain ⟨u22, hvu22, h⟩ := zbind h
        obtain ⟨v24, σ23, hvσ23, h⟩ := zcb h
        refine g_callV (pc := 47) (av := [tI ((-3))]) C (c_X9_tell hE hvσ23) yv_X9_tell ml_X9_170 ck_9 (zopt hvu22).1 rfl (rf_of (by decide)) rfl (Nat.le_of_ble_eq_true rfl) dX9_dusks_47 ?_
        obtain ⟨rfl, rfl⟩ := zsome h
        exact g_iret (pc := 50) C rfl hx (by rw [hxn]; rfl) (by rw [hxn]; rfl) dX9_dusks_50
    · have h := zif_t c26 h
      refine g_sub [0] (lm' := [(0, tR (some (h0)))]) rfl ?_
      exact w_X9_dusks_j29 hE C hxn _ _ _ _ h hx
def rm_X9_drawn : Room := { frames := 1, cells := 0, slots := 0, locals := 25 }
noncomputable def s_X9_drawn_j33 (h0 : Nat) (l1 : Int32) (l2 : Int32) (t0 : Int64) (t1 : Int64) (t2 : Int32) (σ : Hp) : Option (Int32 × Hp) :=
  cb (s_X9_in (t0) (t1) ((Int32.toInt64 (t2 : Int32)) - 1) σ) fun v2 σ1 =>
  if v2 = 0 then
    some (((-1)), σ1)
  else
    (rdR 9 σ1 h0 55).bind fun r3 =>
    if l2 = 0 then
      (r3).bind fun a6 =>
      (ldI 11 σ1 a6 ((17 - 7) + l1)).bind fun v7 =>
      some ((v7), σ1)
    else
      (r3).bind fun a4 =>
      (ldI 11 σ1 a4 ((21 - 7) + l1)).bind fun v5 =>
      some ((v5), σ1)
set_option maxRecDepth 100000 in
theorem w_X9_drawn_j33 {E : E0} (hE : EOK E) {X : X0} (C : XOK E X cX9_drawn RX9 3 (some .int) rm_X9_drawn) (hxn : xn X = (rm_X9_drawn.cells, rm_X9_drawn.slots)) (h0 : Nat) (l1 : Int32) (l2 : Int32) (t0 : Int64) (t1 : Int64) (t2 : Int32) (σ : Hp) (r : Int32) (σ1 : Hp) (h : s_X9_drawn_j33 h0 l1 l2 t0 t1 t2 σ = some (r, σ1)) (hx : xd X = (some (tI r), σ1)) : G E X 0 0 33 [(0, tR (some (h0))), (1, tI (l1)), (2, tI (l2))] [tI (t2), tJ (t1), tJ (t0)] σ := by
  unfold s_X9_drawn_j33 at h
  refine g_i2l (pc := 33) C dX9_drawn_33 ?_
  refine g_lconst (v := 1) (pc := 34) C dX9_drawn_34 (by decide) ?_
  refine g_lsub (pc := 35) C dX9_drawn_35 ?_
  obtain ⟨v2, σ1, hvσ1, h⟩ := zcb h
  refine g_callS (pc := 36) (av := [tJ (t0), tJ (t1), tJ ((Int32.toInt64 (t2 : Int32)) - 1)]) C (c_X9_in hE hvσ1) ys_X9_in ml_X9_181 rfl (rf_of (by decide)) rfl (Nat.le_of_ble_eq_true rfl) dX9_drawn_36 ?_
  refine g_if_ne (pc := 39) C 44 dX9_drawn_39 (by decide) (fun c9 => ?_) (fun c9 => ?_)
  · have h := zif_f c9 h
    refine g_aload_n (pc := 44) C 0 0 dX9_drawn_44 rfl rfl ?_
    obtain ⟨r3, hvr3, h⟩ := zbind h
    refine g_getR (N := 58) (pc := 45) C ck_9 hvr3 rfl rfl fl_X9_152 dX9_drawn_45 ?_
    refine g_iload_n (pc := 48) C 2 2 dX9_drawn_48 rfl rfl ?_
    refine g_if_ne (pc := 49) C 57 dX9_drawn_49 (by decide) (fun c8 => ?_) (fun c8 => ?_)
    · have h := zif_f c8 h
      refine g_bipush (v := 21) (pc := 57) C dX9_drawn_57 (by decide) ?_
      refine g_bipush (v := 7) (pc := 59) C dX9_drawn_59 (by decide) ?_
      refine g_isub (pc := 61) C dX9_drawn_61 ?_
      refine g_iload_n (pc := 62) C 1 1 dX9_drawn_62 rfl rfl ?_
      refine g_iadd (pc := 63) C dX9_drawn_63 ?_
      obtain ⟨a4, hqa4, h9⟩ := zbind h
      clear h
      subst hqa4
      have h := h9
      clear h9
      obtain ⟨v5, hvv5, h⟩ := zbind h
      refine g_iald (pc := 64) C hvv5 dX9_drawn_64 ?_
      obtain ⟨rfl, rfl⟩ := zsome h
      exact g_iret (pc := 65) C rfl hx (by rw [hxn]; rfl) (by rw [hxn]; rfl) dX9_drawn_65
    · have h := zif_t c8 h
      refine g_bipush (v := 17) (pc := 52) C dX9_drawn_52 (by decide) ?_
      refine g_goto (pc := 54) C 59 dX9_drawn_54 (by decide) ?_
      refine g_bipush (v := 7) (pc := 59) C dX9_drawn_59 (by decide) ?_
      refine g_isub (pc := 61) C dX9_drawn_61 ?_
      refine g_iload_n (pc := 62) C 1 1 dX9_drawn_62 rfl rfl ?_
      refine g_iadd (pc := 63) C dX9_drawn_63 ?_
      obtain ⟨a6, hqa6, h9⟩ := zbind h
      clear h
      subst hqa6
      have h := h9
      clear h9
      obtain ⟨v7, hvv7, h⟩ := zbind h
      refine g_iald (pc := 64) C hvv7 dX9_drawn_64 ?_
      obtain ⟨rfl, rfl⟩ := zsome h
      exact g_iret (pc := 65) C rfl hx (by rw [hxn]; rfl) (by rw [hxn]; rfl) dX9_drawn_65
  · have h := zif_t c9 h
    refine g_iconst (v := (-1)) (pc := 42) C dX9_drawn_42 (by decide) ?_
    obtain ⟨rfl, rfl⟩ := zsome h
    exact g_iret (pc := 43) C rfl hx (by rw [hxn]; rfl) (by rw [hxn]; rfl) dX9_drawn_43
noncomputable def s_X9_drawn (h0 : Nat) (p1 : Int32) (p2 : Int32) (σ : Hp) : Option (Int32 × Hp) :=
  (wrI 9 σ h0 0 (0)).bind fun σ1 =>
  cb (s_X9_in (Int32.toInt64 (p2 : Int32)) (0) (1) σ1) fun v3 σ2 =>
  if v3 = 0 then
    some (((-1)), σ2)
  else
    if p2 = 0 then
      (rdI 9 σ2 h0 56).bind fun v5 =>
      s_X9_drawn_j33 (h0) (p1) (p2) (Int32.toInt64 (p1 : Int32)) (0) (v5) σ2
    else
      (rdI 9 σ2 h0 57).bind fun v4 =>
      s_X9_drawn_j33 (h0) (p1) (p2) (Int32.toInt64 (p1 : Int32)) (0) (v4) σ2
set_option maxRecDepth 100000 in
theorem c_X9_drawn {E : E0} (hE : EOK E) {h0 : Nat} {p1 : Int32} {p2 : Int32} {σ σ1 : Hp} {r : Int32} (h : s_X9_drawn h0 p1 p2 σ = some (r, σ1)) : CT E yX9_drawn (.code yX9_drawn cX9_drawn 3 (some .int)) rm_X9_drawn [tR (some (h0)), tI (p1), tI (p2)] σ (some (tI r)) σ1 := by
  refine CT.mk hE (by decide +kernel) (Nat.le_of_ble_eq_true rfl) [(0, tR (some (h0))), (1, tI (p1)), (2, tI (p2))] rfl (fun X C hin hx hxn => ?_)
  have C : XOK E X cX9_drawn RX9 3 (some .int) rm_X9_drawn := C
  unfold s_X9_drawn at h
  refine g_aload_n (pc := 0) C 0 0 dX9_drawn_0 rfl rfl ?_
  refine g_iconst (v := 0) (pc := 1) C dX9_drawn_1 (by decide) ?_
  obtain ⟨σ1, hvσ1, h⟩ := zbind h
  refine g_putI (N := 58) (pc := 2) C ⟨ck_9, rfl, tyX9_ok⟩ hvσ1 rfl fl_X9_161 rfl rfl dX9_drawn_2 ?_
  refine g_iload_n (pc := 5) C 2 2 dX9_drawn_5 rfl rfl ?_
  refine g_i2l (pc := 6) C dX9_drawn_6 ?_
  refine g_lconst (v := 0) (pc := 7) C dX9_drawn_7 (by decide) ?_
  refine g_lconst (v := 1) (pc := 8) C dX9_drawn_8 (by decide) ?_
  obtain ⟨v3, σ2, hvσ2, h⟩ := zcb h
  refine g_callS (pc := 9) (av := [tJ (Int32.toInt64 (p2 : Int32)), tJ (0), tJ (1)]) C (c_X9_in hE hvσ2) ys_X9_in ml_X9_181 rfl (rf_of (by decide)) rfl (Nat.le_of_ble_eq_true rfl) dX9_drawn_9 ?_
  refine g_if_eq (pc := 12) C 42 dX9_drawn_12 (by decide) (fun c7 => ?_) (fun c7 => ?_)
  · have h := zif_t c7 h
    refine g_iconst (v := (-1)) (pc := 42) C dX9_drawn_42 (by decide) ?_
    obtain ⟨rfl, rfl⟩ := zsome h
    exact g_iret (pc := 43) C rfl hx (by rw [hxn]; rfl) (by rw [hxn]; rfl) dX9_drawn_43
  · have h := zif_f c7 h
    refine g_iload_n (pc := 15) C 1 1 dX9_drawn_15 rfl rfl ?_
    refine g_i2l (pc := 16) C dX9_drawn_16 ?_
    refine g_lconst (v := 0) (pc := 17) C dX9_drawn_17 (by decide) ?_
    refine g_iload_n (pc := 18) C 2 2 dX9_drawn_18 rfl rfl ?_
    refine g_if_ne (pc := 19) C 29 dX9_drawn_19 (by decide) (fun c6 => ?_) (fun c6 => ?_)
    · have h := zif_f c6 h
      refine g_aload_n (pc := 29) C 0 0 dX9_drawn_29 rfl rfl ?_
      obtain ⟨v4, hvv4, h⟩ := zbind h
      refine g_getI (N := 58) (pc := 30) C ck_9 hvv4 rfl rfl fl_X9_158 dX9_drawn_30 ?_
      exact w_X9_drawn_j33 hE C hxn _ _ _ _ _ _ _ _ _ h hx
    · have h := zif_t c6 h
      refine g_aload_n (pc := 22) C 0 0 dX9_drawn_22 rfl rfl ?_
      obtain ⟨v5, hvv5, h⟩ := zbind h
      refine g_getI (N := 58) (pc := 23) C ck_9 hvv5 rfl rfl fl_X9_155 dX9_drawn_23 ?_
      refine g_goto (pc := 26) C 33 dX9_drawn_26 (by decide) ?_
      exact w_X9_drawn_j33 hE C hxn _ _ _ _ _ _ _ _ _ h hx
def rm_X9_count : Room := { frames := 1, cells := 0, slots := 0, locals := 25 }
noncomputable def s_X9_count (h0 : Nat) (p1 : Int32) (σ : Hp) : Option (Int32 × Hp) :=
  (wrI 9 σ h0 0 (0)).bind fun σ1 =>
  if p1 = 0 then
    (rdR 9 σ1 h0 3).bind fun r2 =>
    (r2).bind fun a3 =>
    (ldI 11 σ1 a3 (0)).bind fun v4 =>
    some ((v4), σ1)
  else
    if p1 = 1 then
      (rdR 9 σ1 h0 3).bind fun r6 =>
      (r6).bind fun a7 =>
      (ldI 11 σ1 a7 (1)).bind fun v8 =>
      some ((v8), σ1)
    else
      if p1 = 2 then
        (rdR 9 σ1 h0 3).bind fun r10 =>
        (r10).bind fun a11 =>
        (ldI 11 σ1 a11 (2)).bind fun v12 =>
        some ((v12), σ1)
      else
        if p1 = 3 then
          (rdR 9 σ1 h0 3).bind fun r14 =>
          (r14).bind fun a15 =>
          (ldI 11 σ1 a15 (3)).bind fun v16 =>
          some ((v16), σ1)
        else
          if p1 = 4 then
            (rdR 9 σ1 h0 3).bind fun r18 =>
            (r18).bind fun a19 =>
            (ldI 11 σ1 a19 (10)).bind fun v20 =>
            some ((v20), σ1)
          else
            if p1 = 5 then
              (rdR 9 σ1 h0 3).bind fun r22 =>
              (r22).bind fun a23 =>
              (ldI 11 σ1 a23 (4)).bind fun v24 =>
              some ((v24), σ1)
            else
              if p1 = 6 then
                (rdR 9 σ1 h0 3).bind fun r26 =>
                (r26).bind fun a27 =>
                (ldI 11 σ1 a27 (5)).bind fun v28 =>
                some ((v28), σ1)
              else
                if p1 = 7 then
                  (rdI 9 σ1 h0 8).bind fun v30 =>
                  some ((v30), σ1)
                else
                  if p1 = 8 then
                    (rdI 9 σ1 h0 13).bind fun v32 =>
                    some ((v32), σ1)
                  else
                    if p1 = 9 then
                      (rdR 9 σ1 h0 2).bind fun r34 =>
                      (r34).bind fun a35 =>
                      (ldI 11 σ1 a35 (1)).bind fun v36 =>
                      some ((v36), σ1)
                    else
                      if p1 = 10 then
                        (rdR 9 σ1 h0 2).bind fun r38 =>
                        (r38).bind fun a39 =>
                        (ldI 11 σ1 a39 (2)).bind fun v40 =>
                        some ((v40), σ1)
                      else
                        if p1 = 11 then
                          (rdR 9 σ1 h0 2).bind fun r42 =>
                          (r42).bind fun a43 =>
                          (ldI 11 σ1 a43 (3)).bind fun v44 =>
                          some ((v44), σ1)
                        else
                          if p1 = 12 then
                            (rdR 9 σ1 h0 2).bind fun r46 =>
                            (r46).bind fun a47 =>
                            (ldI 11 σ1 a47 (5)).bind fun v48 =>
                            some ((v48), σ1)
                          else
                            if p1 = 13 then
                              (rdR 9 σ1 h0 2).bind fun r50 =>
                              (r50).bind fun a51 =>
                              (ldI 11 σ1 a51 (6)).bind fun v52 =>
                              some ((v52), σ1)
                            else
                              if p1 = 14 then
                                (rdR 9 σ1 h0 3).bind fun r54 =>
                                (r54).bind fun a55 =>
                                (ldI 11 σ1 a55 (6)).bind fun v56 =>
                                some ((v56), σ1)
                              else
                                cb (s_X9_in (Int32.toInt64 (p1 : Int32)) (15) (17) σ1) fun v59 σ58 =>
                                if v59 = 0 then
                                  some (((-1)), σ58)
                                else
                                  (rdR 9 σ58 h0 3).bind fun r60 =>
                                  (r60).bind fun a61 =>
                                  (ldI 11 σ58 a61 ((7 + p1) - 15)).bind fun v62 =>
                                  some ((v62), σ58)
set_option maxRecDepth 100000 in
theorem c_X9_count {E : E0} (hE : EOK E) {h0 : Nat} {p1 : Int32} {σ σ1 : Hp} {r : Int32} (h : s_X9_count h0 p1 σ = some (r, σ1)) : CT E yX9_count (.code yX9_count cX9_count 2 (some .int)) rm_X9_count [tR (some (h0)), tI (p1)] σ (some (tI r)) σ1 := by
  refine CT.mk hE (by decide +kernel) (Nat.le_of_ble_eq_true rfl) [(0, tR (some (h0))), (1, tI (p1))] rfl (fun X C hin hx hxn => ?_)
  have C : XOK E X cX9_count RX9 2 (some .int) rm_X9_count := C
  unfold s_X9_count at h
  refine g_aload_n (pc := 0) C 0 0 dX9_count_0 rfl rfl ?_
  refine g_iconst (v := 0) (pc := 1) C dX9_count_1 (by decide) ?_
  obtain ⟨σ1, hvσ1, h⟩ := zbind h
  refine g_putI (N := 58) (pc := 2) C ⟨ck_9, rfl, tyX9_ok⟩ hvσ1 rfl fl_X9_161 rfl rfl dX9_count_2 ?_
  refine g_iload_n (pc := 5) C 1 1 dX9_count_5 rfl rfl ?_
  by_cases c5 : p1 = 0
  · refine g_tswIn (pc := 6) C 80 dX9_count_6 (by rw [c5]; decide) (by rw [c5]; decide) (by rw [c5]; rfl) (by decide) ?_
    have h := zif_t c5 h
    refine g_aload_n (pc := 80) C 0 0 dX9_count_80 rfl rfl ?_
    obtain ⟨r2, hvr2, h⟩ := zbind h
    refine g_getR (N := 58) (pc := 81) C ck_9 hvr2 rfl rfl fl_X9_13 dX9_count_81 ?_
    refine g_iconst (v := 0) (pc := 84) C dX9_count_84 (by decide) ?_
    obtain ⟨a3, hqa3, h9⟩ := zbind h
    clear h
    subst hqa3
    have h := h9
    clear h9
    obtain ⟨v4, hvv4, h⟩ := zbind h
    refine g_iald (pc := 85) C hvv4 dX9_count_85 ?_
    obtain ⟨rfl, rfl⟩ := zsome h
    exact g_iret (pc := 86) C rfl hx (by rw [hxn]; rfl) (by rw [hxn]; rfl) dX9_count_86
  · have h := zif_f c5 h
    by_cases c9 : p1 = 1
    · refine g_tswIn (pc := 6) C 87 dX9_count_6 (by rw [c9]; decide) (by rw [c9]; decide) (by rw [c9]; rfl) (by decide) ?_
      have h := zif_t c9 h
      refine g_aload_n (pc := 87) C 0 0 dX9_count_87 rfl rfl ?_
      obtain ⟨r6, hvr6, h⟩ := zbind h
      refine g_getR (N := 58) (pc := 88) C ck_9 hvr6 rfl rfl fl_X9_13 dX9_count_88 ?_
      refine g_iconst (v := 1) (pc := 91) C dX9_count_91 (by decide) ?_
      obtain ⟨a7, hqa7, h9⟩ := zbind h
      clear h
      subst hqa7
      have h := h9
      clear h9
      obtain ⟨v8, hvv8, h⟩ := zbind h
      refine g_iald (pc := 92) C hvv8 dX9_count_92 ?_
      obtain ⟨rfl, rfl⟩ := zsome h
      exact g_iret (pc := 93) C rfl hx (by rw [hxn]; rfl) (by rw [hxn]; rfl) dX9_count_93
    · have h := zif_f c9 h
      by_cases c13 : p1 = 2
      · refine g_tswIn (pc := 6) C 94 dX9_count_6 (by rw [c13]; decide) (by rw [c13]; decide) (by rw [c13]; rfl) (by decide) ?_
        have h := zif_t c13 h
        refine g_aload_n (pc := 94) C 0 0 dX9_count_94 rfl rfl ?_
        obtain ⟨r10, hvr10, h⟩ := zbind h
        refine g_getR (N := 58) (pc := 95) C ck_9 hvr10 rfl rfl fl_X9_13 dX9_count_95 ?_
        refine g_iconst (v := 2) (pc := 98) C dX9_count_98 (by decide) ?_
        obtain ⟨a11, hqa11, h9⟩ := zbind h
        clear h
        subst hqa11
        have h := h9
        clear h9
        obtain ⟨v12, hvv12, h⟩ := zbind h
        refine g_iald (pc := 99) C hvv12 dX9_count_99 ?_
        obtain ⟨rfl, rfl⟩ := zsome h
        exact g_iret (pc := 100) C rfl hx (by rw [hxn]; rfl) (by rw [hxn]; rfl) dX9_count_100
      · have h := zif_f c13 h
        by_cases c17 : p1 = 3
        · refine g_tswIn (pc := 6) C 101 dX9_count_6 (by rw [c17]; decide) (by rw [c17]; decide) (by rw [c17]; rfl) (by decide) ?_
          have h := zif_t c17 h
          refine g_aload_n (pc := 101) C 0 0 dX9_count_101 rfl rfl ?_
          obtain ⟨r14, hvr14, h⟩ := zbind h
          refine g_getR (N := 58) (pc := 102) C ck_9 hvr14 rfl rfl fl_X9_13 dX9_count_102 ?_
          refine g_iconst (v := 3) (pc := 105) C dX9_count_105 (by decide) ?_
          obtain ⟨a15, hqa15, h9⟩ := zbind h
          clear h
          subst hqa15
          have h := h9
          clear h9
          obtain ⟨v16, hvv16, h⟩ := zbind h
          refine g_iald (pc := 106) C hvv16 dX9_count_106 ?_
          obtain ⟨rfl, rfl⟩ := zsome h
          exact g_iret (pc := 107) C rfl hx (by rw [hxn]; rfl) (by rw [hxn]; rfl) dX9_count_107
        · have h := zif_f c17 h
          by_cases c21 : p1 = 4
          · refine g_tswIn (pc := 6) C 108 dX9_count_6 (by rw [c21]; decide) (by rw [c21]; decide) (by rw [c21]; rfl) (by decide) ?_
            have h := zif_t c21 h
            refine g_aload_n (pc := 108) C 0 0 dX9_count_108 rfl rfl ?_
            obtain ⟨r18, hvr18, h⟩ := zbind h
            refine g_getR (N := 58) (pc := 109) C ck_9 hvr18 rfl rfl fl_X9_13 dX9_count_109 ?_
            refine g_bipush (v := 10) (pc := 112) C dX9_count_112 (by decide) ?_
            obtain ⟨a19, hqa19, h9⟩ := zbind h
            clear h
            subst hqa19
            have h := h9
            clear h9
            obtain ⟨v20, hvv20, h⟩ := zbind h
            refine g_iald (pc := 114) C hvv20 dX9_count_114 ?_
            obtain ⟨rfl, rfl⟩ := zsome h
            exact g_iret (pc := 115) C rfl hx (by rw [hxn]; rfl) (by rw [hxn]; rfl) dX9_count_115
          · have h := zif_f c21 h
            by_cases c25 : p1 = 5
            · refine g_tswIn (pc := 6) C 116 dX9_count_6 (by rw [c25]; decide) (by rw [c25]; decide) (by rw [c25]; rfl) (by decide) ?_
              have h := zif_t c25 h
              refine g_aload_n (pc := 116) C 0 0 dX9_count_116 rfl rfl ?_
              obtain ⟨r22, hvr22, h⟩ := zbind h
              refine g_getR (N := 58) (pc := 117) C ck_9 hvr22 rfl rfl fl_X9_13 dX9_count_117 ?_
              refine g_iconst (v := 4) (pc := 120) C dX9_count_120 (by decide) ?_
              obtain ⟨a23, hqa23, h9⟩ := zbind h
              clear h
              subst hqa23
              have h := h9
              clear h9
              obtain ⟨v24, hvv24, h⟩ := zbind h
              refine g_iald (pc := 121) C hvv24 dX9_count_121 ?_
              obtain ⟨rfl, rfl⟩ := zsome h
              exact g_iret (pc := 122) C rfl hx (by rw [hxn]; rfl) (by rw [hxn]; rfl) dX9_count_122
            · have h := zif_f c25 h
              by_cases c29 : p1 = 6
              · refine g_tswIn (pc := 6) C 123 dX9_count_6 (by rw [c29]; decide) (by rw [c29]; decide) (by rw [c29]; rfl) (by decide) ?_
                have h := zif_t c29 h
                refine g_aload_n (pc := 123) C 0 0 dX9_count_123 rfl rfl ?_
                obtain ⟨r26, hvr26, h⟩ := zbind h
                refine g_getR (N := 58) (pc := 124) C ck_9 hvr26 rfl rfl fl_X9_13 dX9_count_124 ?_
                refine g_iconst (v := 5) (pc := 127) C dX9_count_127 (by decide) ?_
                obtain ⟨a27, hqa27, h9⟩ := zbind h
                clear h
                subst hqa27
                have h := h9
                clear h9
                obtain ⟨v28, hvv28, h⟩ := zbind h
                refine g_iald (pc := 128) C hvv28 dX9_count_128 ?_
                obtain ⟨rfl, rfl⟩ := zsome h
                exact g_iret (pc := 129) C rfl hx (by rw [hxn]; rfl) (by rw [hxn]; rfl) dX9_count_129
              · have h := zif_f c29 h
                by_cases c31 : p1 = 7
                · refine g_tswIn (pc := 6) C 130 dX9_count_6 (by rw [c31]; decide) (by rw [c31]; decide) (by rw [c31]; rfl) (by decide) ?_
                  have h := zif_t c31 h
                  refine g_aload_n (pc := 130) C 0 0 dX9_count_130 rfl rfl ?_
                  obtain ⟨v30, hvv30, h⟩ := zbind h
                  refine g_getI (N := 58) (pc := 131) C ck_9 hvv30 rfl rfl fl_X9_167 dX9_count_131 ?_
                  obtain ⟨rfl, rfl⟩ := zsome h
                  exact g_iret (pc := 134) C rfl hx (by rw [hxn]; rfl) (by rw [hxn]; rfl) dX9_count_134
                · have h := zif_f c31 h
                  by_cases c33 : p1 = 8
                  · refine g_tswIn (pc := 6) C 135 dX9_count_6 (by rw [c33]; decide) (by rw [c33]; decide) (by rw [c33]; rfl) (by decide) ?_
                    have h := zif_t c33 h
                    refine g_aload_n (pc := 135) C 0 0 dX9_count_135 rfl rfl ?_
                    obtain ⟨v32, hvv32, h⟩ := zbind h
                    refine g_getI (N := 58) (pc := 136) C ck_9 hvv32 rfl rfl fl_X9_242 dX9_count_136 ?_
                    obtain ⟨rfl, rfl⟩ := zsome h
                    exact g_iret (pc := 139) C rfl hx (by rw [hxn]; rfl) (by rw [hxn]; rfl) dX9_count_139
                  · have h := zif_f c33 h
                    by_cases c37 : p1 = 9
                    · refine g_tswIn (pc := 6) C 140 dX9_count_6 (by rw [c37]; decide) (by rw [c37]; decide) (by rw [c37]; rfl) (by decide) ?_
                      have h := zif_t c37 h
                      refine g_aload_n (pc := 140) C 0 0 dX9_count_140 rfl rfl ?_
                      obtain ⟨r34, hvr34, h⟩ := zbind h
                      refine g_getR (N := 58) (pc := 141) C ck_9 hvr34 rfl rfl fl_X9_7 dX9_count_141 ?_
                      refine g_iconst (v := 1) (pc := 144) C dX9_count_144 (by decide) ?_
                      obtain ⟨a35, hqa35, h9⟩ := zbind h
                      clear h
                      subst hqa35
                      have h := h9
                      clear h9
                      obtain ⟨v36, hvv36, h⟩ := zbind h
                      refine g_iald (pc := 145) C hvv36 dX9_count_145 ?_
                      obtain ⟨rfl, rfl⟩ := zsome h
                      exact g_iret (pc := 146) C rfl hx (by rw [hxn]; rfl) (by rw [hxn]; rfl) dX9_count_146
                    · have h := zif_f c37 h
                      by_cases c41 : p1 = 10
                      · refine g_tswIn (pc := 6) C 147 dX9_count_6 (by rw [c41]; decide) (by rw [c41]; decide) (by rw [c41]; rfl) (by decide) ?_
                        have h := zif_t c41 h
                        refine g_aload_n (pc := 147) C 0 0 dX9_count_147 rfl rfl ?_
                        obtain ⟨r38, hvr38, h⟩ := zbind h
                        refine g_getR (N := 58) (pc := 148) C ck_9 hvr38 rfl rfl fl_X9_7 dX9_count_148 ?_
                        refine g_iconst (v := 2) (pc := 151) C dX9_count_151 (by decide) ?_
                        obtain ⟨a39, hqa39, h9⟩ := zbind h
                        clear h
                        subst hqa39
                        have h := h9
                        clear h9
                        obtain ⟨v40, hvv40, h⟩ := zbind h
                        refine g_iald (pc := 152) C hvv40 dX9_count_152 ?_
                        obtain ⟨rfl, rfl⟩ := zsome h
                        exact g_iret (pc := 153) C rfl hx (by rw [hxn]; rfl) (by rw [hxn]; rfl) dX9_count_153
                      · have h := zif_f c41 h
                        by_cases c45 : p1 = 11
                        · refine g_tswIn (pc := 6) C 154 dX9_count_6 (by rw [c45]; decide) (by rw [c45]; decide) (by rw [c45]; rfl) (by decide) ?_
                          have h := zif_t c45 h
                          refine g_aload_n (pc := 154) C 0 0 dX9_count_154 rfl rfl ?_
                          obtain ⟨r42, hvr42, h⟩ := zbind h
                          refine g_getR (N := 58) (pc := 155) C ck_9 hvr42 rfl rfl fl_X9_7 dX9_count_155 ?_
                          refine g_iconst (v := 3) (pc := 158) C dX9_count_158 (by decide) ?_
                          obtain ⟨a43, hqa43, h9⟩ := zbind h
                          clear h
                          subst hqa43
                          have h := h9
                          clear h9
                          obtain ⟨v44, hvv44, h⟩ := zbind h
                          refine g_iald (pc := 159) C hvv44 dX9_count_159 ?_
                          obtain ⟨rfl, rfl⟩ := zsome h
                          exact g_iret (pc := 160) C rfl hx (by rw [hxn]; rfl) (by rw [hxn]; rfl) dX9_count_160
                        · have h := zif_f c45 h
                          by_cases c49 : p1 = 12
                          · refine g_tswIn (pc := 6) C 161 dX9_count_6 (by rw [c49]; decide) (by rw [c49]; decide) (by rw [c49]; rfl) (by decide) ?_
                            have h := zif_t c49 h
                            refine g_aload_n (pc := 161) C 0 0 dX9_count_161 rfl rfl ?_
                            obtain ⟨r46, hvr46, h⟩ := zbind h
                            refine g_getR (N := 58) (pc := 162) C ck_9 hvr46 rfl rfl fl_X9_7 dX9_count_162 ?_
                            refine g_iconst (v := 5) (pc := 165) C dX9_count_165 (by decide) ?_
                            obtain ⟨a47, hqa47, h9⟩ := zbind h
                            clear h
                            subst hqa47
                            have h := h9
                            clear h9
                            obtain ⟨v48, hvv48, h⟩ := zbind h
                            refine g_iald (pc := 166) C hvv48 dX9_count_166 ?_
                            obtain ⟨rfl, rfl⟩ := zsome h
                            exact g_iret (pc := 167) C rfl hx (by rw [hxn]; rfl) (by rw [hxn]; rfl) dX9_count_167
                          · have h := zif_f c49 h
                            by_cases c53 : p1 = 13
                            · refine g_tswIn (pc := 6) C 168 dX9_count_6 (by rw [c53]; decide) (by rw [c53]; decide) (by rw [c53]; rfl) (by decide) ?_
                              have h := zif_t c53 h
                              refine g_aload_n (pc := 168) C 0 0 dX9_count_168 rfl rfl ?_
                              obtain ⟨r50, hvr50, h⟩ := zbind h
                              refine g_getR (N := 58) (pc := 169) C ck_9 hvr50 rfl rfl fl_X9_7 dX9_count_169 ?_
                              refine g_bipush (v := 6) (pc := 172) C dX9_count_172 (by decide) ?_
                              obtain ⟨a51, hqa51, h9⟩ := zbind h
                              clear h
                              subst hqa51
                              have h := h9
                              clear h9
                              obtain ⟨v52, hvv52, h⟩ := zbind h
                              refine g_iald (pc := 174) C hvv52 dX9_count_174 ?_
                              obtain ⟨rfl, rfl⟩ := zsome h
                              exact g_iret (pc := 175) C rfl hx (by rw [hxn]; rfl) (by rw [hxn]; rfl) dX9_count_175
                            · have h := zif_f c53 h
                              by_cases c57 : p1 = 14
                              · refine g_tswIn (pc := 6) C 176 dX9_count_6 (by rw [c57]; decide) (by rw [c57]; decide) (by rw [c57]; rfl) (by decide) ?_
                                have h := zif_t c57 h
                                refine g_aload_n (pc := 176) C 0 0 dX9_count_176 rfl rfl ?_
                                obtain ⟨r54, hvr54, h⟩ := zbind h
                                refine g_getR (N := 58) (pc := 177) C ck_9 hvr54 rfl rfl fl_X9_13 dX9_count_177 ?_
                                refine g_bipush (v := 6) (pc := 180) C dX9_count_180 (by decide) ?_
                                obtain ⟨a55, hqa55, h9⟩ := zbind h
                                clear h
                                subst hqa55
                                have h := h9
                                clear h9
                                obtain ⟨v56, hvv56, h⟩ := zbind h
                                refine g_iald (pc := 182) C hvv56 dX9_count_182 ?_
                                obtain ⟨rfl, rfl⟩ := zsome h
                                exact g_iret (pc := 183) C rfl hx (by rw [hxn]; rfl) (by rw [hxn]; rfl) dX9_count_183
                              · have h := zif_f c57 h
                                refine g_tswOut (pc := 6) C 184 dX9_count_6 (by have ec5 := n32 (k := 0) (n := 0) (by decide) c5; have ec9 := n32 (k := 1) (n := 1) (by decide) c9; have ec13 := n32 (k := 2) (n := 2) (by decide) c13; have ec17 := n32 (k := 3) (n := 3) (by decide) c17; have ec21 := n32 (k := 4) (n := 4) (by decide) c21; have ec25 := n32 (k := 5) (n := 5) (by decide) c25; have ec29 := n32 (k := 6) (n := 6) (by decide) c29; have ec31 := n32 (k := 7) (n := 7) (by decide) c31; have ec33 := n32 (k := 8) (n := 8) (by decide) c33; have ec37 := n32 (k := 9) (n := 9) (by decide) c37; have ec41 := n32 (k := 10) (n := 10) (by decide) c41; have ec45 := n32 (k := 11) (n := 11) (by decide) c45; have ec49 := n32 (k := 12) (n := 12) (by decide) c49; have ec53 := n32 (k := 13) (n := 13) (by decide) c53; have ec57 := n32 (k := 14) (n := 14) (by decide) c57; omega) (by decide) ?_
                                refine g_iload_n (pc := 184) C 1 1 dX9_count_184 rfl rfl ?_
                                refine g_i2l (pc := 185) C dX9_count_185 ?_
                                refine g_ldc2 (v := 15) (pc := 186) C dX9_count_186 kl_X9_543 ?_
                                refine g_ldc2 (v := 17) (pc := 189) C dX9_count_189 kl_X9_545 ?_
                                obtain ⟨v59, σ58, hvσ58, h⟩ := zcb h
                                refine g_callS (pc := 192) (av := [tJ (Int32.toInt64 (p1 : Int32)), tJ (15), tJ (17)]) C (c_X9_in hE hvσ58) ys_X9_in ml_X9_181 rfl (rf_of (by decide)) rfl (Nat.le_of_ble_eq_true rfl) dX9_count_192 ?_
                                refine g_if_eq (pc := 195) C 213 dX9_count_195 (by decide) (fun c63 => ?_) (fun c63 => ?_)
                                · have h := zif_t c63 h
                                  refine g_iconst (v := (-1)) (pc := 213) C dX9_count_213 (by decide) ?_
                                  obtain ⟨rfl, rfl⟩ := zsome h
                                  exact g_iret (pc := 214) C rfl hx (by rw [hxn]; rfl) (by rw [hxn]; rfl) dX9_count_214
                                · have h := zif_f c63 h
                                  refine g_aload_n (pc := 198) C 0 0 dX9_count_198 rfl rfl ?_
                                  obtain ⟨r60, hvr60, h⟩ := zbind h
                                  refine g_getR (N := 58) (pc := 199) C ck_9 hvr60 rfl rfl fl_X9_13 dX9_count_199 ?_
                                  refine g_bipush (v := 7) (pc := 202) C dX9_count_202 (by decide) ?_
                                  refine g_iload_n (pc := 204) C 1 1 dX9_count_204 rfl rfl ?_
                                  refine g_iadd (pc := 205) C dX9_count_205 ?_
                                  refine g_bipush (v := 15) (pc := 206) C dX9_count_206 (by decide) ?_
                                  refine g_isub (pc := 208) C dX9_count_208 ?_
                                  obtain ⟨a61, hqa61, h9⟩ := zbind h
                                  clear h
                                  subst hqa61
                                  have h := h9
                                  clear h9
                                  obtain ⟨v62, hvv62, h⟩ := zbind h
                                  refine g_iald (pc := 209) C hvv62 dX9_count_209 ?_
                                  refine g_goto (pc := 210) C 214 dX9_count_210 (by decide) ?_
                                  obtain ⟨rfl, rfl⟩ := zsome h
                                  exact g_iret (pc := 214) C rfl hx (by rw [hxn]; rfl) (by rw [hxn]; rfl) dX9_count_214
def rm_X9_status : Room := { frames := 0, cells := 0, slots := 0, locals := 0 }
noncomputable def s_X9_status (h0 : Nat) (σ : Hp) : Option (Int32 × Hp) :=
  (wrI 9 σ h0 0 (0)).bind fun σ1 =>
  (rdI 9 σ1 h0 1).bind fun v2 =>
  some ((v2), σ1)
set_option maxRecDepth 100000 in
theorem c_X9_status {E : E0} (hE : EOK E) {h0 : Nat} {σ σ1 : Hp} {r : Int32} (h : s_X9_status h0 σ = some (r, σ1)) : CT E yX9_status (.code yX9_status cX9_status 1 (some .int)) rm_X9_status [tR (some (h0))] σ (some (tI r)) σ1 := by
  refine CT.mk hE (by decide +kernel) (Nat.le_of_ble_eq_true rfl) [(0, tR (some (h0)))] rfl (fun X C hin hx hxn => ?_)
  have C : XOK E X cX9_status RX9 1 (some .int) rm_X9_status := C
  unfold s_X9_status at h
  refine g_aload_n (pc := 0) C 0 0 dX9_status_0 rfl rfl ?_
  refine g_iconst (v := 0) (pc := 1) C dX9_status_1 (by decide) ?_
  obtain ⟨σ1, hvσ1, h⟩ := zbind h
  refine g_putI (N := 58) (pc := 2) C ⟨ck_9, rfl, tyX9_ok⟩ hvσ1 rfl fl_X9_161 rfl rfl dX9_status_2 ?_
  refine g_aload_n (pc := 5) C 0 0 dX9_status_5 rfl rfl ?_
  obtain ⟨v2, hvv2, h⟩ := zbind h
  refine g_getI (N := 58) (pc := 6) C ck_9 hvv2 rfl rfl fl_X9_164 dX9_status_6 ?_
  obtain ⟨rfl, rfl⟩ := zsome h
  exact g_iret (pc := 9) C rfl hx (by rw [hxn]; rfl) (by rw [hxn]; rfl) dX9_status_9
