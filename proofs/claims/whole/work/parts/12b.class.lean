def rm_X4_addStep : Room := { frames := 0, cells := 0, slots := 0, locals := 0 }
noncomputable def s_X4_addStep (h0 : Nat) (p1 : Int32) (p2 : Int32) (σ : Hp) : Option (Unit × Hp) :=
  (rdI 4 σ h0 7).bind fun v1 =>
  if 600 ≤ v1 then
    some ((), σ)
  else
    (rdR 4 σ h0 3).bind fun r2 =>
    (rdI 4 σ h0 7).bind fun v3 =>
    (wrI 4 σ h0 7 (v3 + 1)).bind fun σ4 =>
    (r2).bind fun a5 =>
    (stI σ4 a5 (v3) ((p2 <<< (4 &&& 31)) ||| p1)).bind fun σ6 =>
    some ((), σ6)
set_option maxRecDepth 100000 in
theorem c_X4_addStep {E : E0} (hE : EOK E) {h0 : Nat} {p1 : Int32} {p2 : Int32} {σ σ1 : Hp} {r : Unit} (h : s_X4_addStep h0 p1 p2 σ = some (r, σ1)) : CT E yX4_addStep (.code yX4_addStep cX4_addStep 3 none) rm_X4_addStep [tR (some (h0)), tI (p1), tI (p2)] σ none σ1 := by
  refine CT.mk hE (by decide +kernel) (Nat.le_of_ble_eq_true rfl) [(0, tR (some (h0))), (1, tI (p1)), (2, tI (p2))] rfl (fun X C hin hx hxn => ?_)
  have C : XOK E X cX4_addStep RX4 3 none rm_X4_addStep := C
  unfold s_X4_addStep at h
  refine g_aload_n (pc := 0) C 0 0 dX4_addStep_0 rfl rfl ?_
  obtain ⟨v1, hvv1, h⟩ := zbind h
  refine g_getI (N := 12) (pc := 1) C ck_4 hvv1 rfl rfl fl_X4_38 dX4_addStep_1 ?_
  refine g_sipush (v := 600) (pc := 4) C dX4_addStep_4 (by decide) ?_
  refine g_icmp_ge (pc := 7) C 31 dX4_addStep_7 (by decide) (fun c7 => ?_) (fun c7 => ?_)
  · have h := zif_t c7 h
    obtain ⟨rfl, rfl⟩ := zsome h
    exact g_vret (pc := 31) C rfl hx (by rw [hxn]; rfl) (by rw [hxn]; rfl) dX4_addStep_31
  · have h := zif_f c7 h
    refine g_aload_n (pc := 10) C 0 0 dX4_addStep_10 rfl rfl ?_
    obtain ⟨r2, hvr2, h⟩ := zbind h
    refine g_getR (N := 12) (pc := 11) C ck_4 hvr2 rfl rfl fl_X4_21 dX4_addStep_11 ?_
    refine g_aload_n (pc := 14) C 0 0 dX4_addStep_14 rfl rfl ?_
    refine g_dup (pc := 15) C dX4_addStep_15 rfl ?_
    obtain ⟨v3, hvv3, h⟩ := zbind h
    refine g_getI (N := 12) (pc := 16) C ck_4 hvv3 rfl rfl fl_X4_38 dX4_addStep_16 ?_
    refine g_dup_x1 (pc := 19) C dX4_addStep_19 rfl rfl ?_
    refine g_iconst (v := 1) (pc := 20) C dX4_addStep_20 (by decide) ?_
    refine g_iadd (pc := 21) C dX4_addStep_21 ?_
    obtain ⟨σ4, hvσ4, h⟩ := zbind h
    refine g_putI (N := 12) (pc := 22) C ⟨ck_4, rfl, tyX4_ok⟩ hvσ4 rfl fl_X4_38 rfl rfl dX4_addStep_22 ?_
    refine g_iload_n (pc := 25) C 2 2 dX4_addStep_25 rfl rfl ?_
    refine g_iconst (v := 4) (pc := 26) C dX4_addStep_26 (by decide) ?_
    refine g_ishl (pc := 27) C dX4_addStep_27 ?_
    refine g_iload_n (pc := 28) C 1 1 dX4_addStep_28 rfl rfl ?_
    refine g_ior (pc := 29) C dX4_addStep_29 ?_
    obtain ⟨a5, hqa5, h9⟩ := zbind h
    clear h
    subst hqa5
    have h := h9
    clear h9
    obtain ⟨σ6, hvσ6, h⟩ := zbind h
    refine g_iast (pc := 30) C hvσ6 dX4_addStep_30 ?_
    obtain ⟨rfl, rfl⟩ := zsome h
    exact g_vret (pc := 31) C rfl hx (by rw [hxn]; rfl) (by rw [hxn]; rfl) dX4_addStep_31
def rm_X4_takeNumber : Room := { frames := 1, cells := 0, slots := 0, locals := 20 }
noncomputable def s_X4_takeNumber_j26 (h0 : Nat) (σ : Hp) : Option (Int32 × Hp) :=
  (ck 4 σ h0).bind fun u1 =>
  cb (s_X4_fail h0 σ) fun v3 σ2 =>
  (zbo (v3)).bind fun u4 =>
  some ((v3), σ2)
set_option maxRecDepth 100000 in
theorem w_X4_takeNumber_j26 {E : E0} (hE : EOK E) {X : X0} (C : XOK E X cX4_takeNumber RX4 3 (some .boolean) rm_X4_takeNumber) (hxn : xn X = (rm_X4_takeNumber.cells, rm_X4_takeNumber.slots)) (h0 : Nat) (σ : Hp) (r : Int32) (σ1 : Hp) (h : s_X4_takeNumber_j26 h0 σ = some (r, σ1)) (hx : xd X = (some (tI r), σ1)) : G E X 0 0 26 [(0, tR (some (h0)))] [] σ := by
  unfold s_X4_takeNumber_j26 at h
  refine g_aload_n (pc := 26) C 0 0 dX4_takeNumber_26 rfl rfl ?_
  obtain ⟨u1, hvu1, h⟩ := zbind h
  obtain ⟨v3, σ2, hvσ2, h⟩ := zcb h
  refine g_callV (pc := 27) (av := []) C (c_X4_fail hE hvσ2) yv_X4_fail ml_X4_74 ck_4 (zopt hvu1).1 rfl (rf_of (by decide)) rfl (Nat.le_of_ble_eq_true rfl) dX4_takeNumber_27 ?_
  obtain ⟨u4, hvu4, h⟩ := zbind h
  obtain ⟨rfl, rfl⟩ := zsome h
  exact g_zret (pc := 30) C rfl hx (zbo_h hvu4) (by rw [hxn]; rfl) (by rw [hxn]; rfl) dX4_takeNumber_30
noncomputable def s_X4_takeNumber (h0 : Nat) (p1 : Int32) (p2 : Int32) (σ : Hp) : Option (Int32 × Hp) :=
  (ck 4 σ h0).bind fun u1 =>
  cb (s_X4_kind h0 σ) fun v3 σ2 =>
  if v3 = 256 then
    (ck 4 σ2 h0).bind fun u4 =>
    cb (s_X4_numberNow h0 σ2) fun v6 σ5 =>
    if v6 < p1 then
      s_X4_takeNumber_j26 (h0) σ5
    else
      (ck 4 σ5 h0).bind fun u7 =>
      cb (s_X4_numberNow h0 σ5) fun v9 σ8 =>
      if v9 ≤ p2 then
        (rdI 4 σ8 h0 6).bind fun v10 =>
        (wrI 4 σ8 h0 6 (v10 + 1)).bind fun σ11 =>
        some ((1), σ11)
      else
        s_X4_takeNumber_j26 (h0) σ8
  else
    s_X4_takeNumber_j26 (h0) σ2
set_option maxRecDepth 100000 in
theorem c_X4_takeNumber {E : E0} (hE : EOK E) {h0 : Nat} {p1 : Int32} {p2 : Int32} {σ σ1 : Hp} {r : Int32} (h : s_X4_takeNumber h0 p1 p2 σ = some (r, σ1)) : CT E yX4_takeNumber (.code yX4_takeNumber cX4_takeNumber 3 (some .boolean)) rm_X4_takeNumber [tR (some (h0)), tI (p1), tI (p2)] σ (some (tI r)) σ1 := by
  refine CT.mk hE (by decide +kernel) (Nat.le_of_ble_eq_true rfl) [(0, tR (some (h0))), (1, tI (p1)), (2, tI (p2))] rfl (fun X C hin hx hxn => ?_)
  have C : XOK E X cX4_takeNumber RX4 3 (some .boolean) rm_X4_takeNumber := C
  unfold s_X4_takeNumber at h
  refine g_aload_n (pc := 0) C 0 0 dX4_takeNumber_0 rfl rfl ?_
  obtain ⟨u1, hvu1, h⟩ := zbind h
  obtain ⟨v3, σ2, hvσ2, h⟩ := zcb h
  refine g_callV (pc := 1) (av := []) C (c_X4_kind hE hvσ2) yv_X4_kind ml_X4_55 ck_4 (zopt hvu1).1 rfl (rf_of (by decide)) rfl (Nat.le_of_ble_eq_true rfl) dX4_takeNumber_1 ?_
  refine g_sipush (v := 256) (pc := 4) C dX4_takeNumber_4 (by decide) ?_
  refine g_icmp_ne (pc := 7) C 26 dX4_takeNumber_7 (by decide) (fun c14 => ?_) (fun c14 => ?_)
  · have h := zif_f c14 h
    refine g_sub [0] (lm' := [(0, tR (some (h0)))]) rfl ?_
    exact w_X4_takeNumber_j26 hE C hxn _ _ _ _ h hx
  · have h := zif_t c14 h
    refine g_aload_n (pc := 10) C 0 0 dX4_takeNumber_10 rfl rfl ?_
    obtain ⟨u4, hvu4, h⟩ := zbind h
    obtain ⟨v6, σ5, hvσ5, h⟩ := zcb h
    refine g_callV (pc := 11) (av := []) C (c_X4_numberNow hE hvσ5) yv_X4_numberNow ml_X4_140 ck_4 (zopt hvu4).1 rfl (rf_of (by decide)) rfl (Nat.le_of_ble_eq_true rfl) dX4_takeNumber_11 ?_
    refine g_iload_n (pc := 14) C 1 1 dX4_takeNumber_14 rfl rfl ?_
    refine g_icmp_lt (pc := 15) C 26 dX4_takeNumber_15 (by decide) (fun c13 => ?_) (fun c13 => ?_)
    · have h := zif_t c13 h
      refine g_sub [0] (lm' := [(0, tR (some (h0)))]) rfl ?_
      exact w_X4_takeNumber_j26 hE C hxn _ _ _ _ h hx
    · have h := zif_f c13 h
      refine g_aload_n (pc := 18) C 0 0 dX4_takeNumber_18 rfl rfl ?_
      obtain ⟨u7, hvu7, h⟩ := zbind h
      obtain ⟨v9, σ8, hvσ8, h⟩ := zcb h
      refine g_callV (pc := 19) (av := []) C (c_X4_numberNow hE hvσ8) yv_X4_numberNow ml_X4_140 ck_4 (zopt hvu7).1 rfl (rf_of (by decide)) rfl (Nat.le_of_ble_eq_true rfl) dX4_takeNumber_19 ?_
      refine g_iload_n (pc := 22) C 2 2 dX4_takeNumber_22 rfl rfl ?_
      refine g_icmp_le (pc := 23) C 31 dX4_takeNumber_23 (by decide) (fun c12 => ?_) (fun c12 => ?_)
      · have h := zif_t c12 h
        refine g_aload_n (pc := 31) C 0 0 dX4_takeNumber_31 rfl rfl ?_
        refine g_dup (pc := 32) C dX4_takeNumber_32 rfl ?_
        obtain ⟨v10, hvv10, h⟩ := zbind h
        refine g_getI (N := 12) (pc := 33) C ck_4 hvv10 rfl rfl fl_X4_35 dX4_takeNumber_33 ?_
        refine g_iconst (v := 1) (pc := 36) C dX4_takeNumber_36 (by decide) ?_
        refine g_iadd (pc := 37) C dX4_takeNumber_37 ?_
        obtain ⟨σ11, hvσ11, h⟩ := zbind h
        refine g_putI (N := 12) (pc := 38) C ⟨ck_4, rfl, tyX4_ok⟩ hvσ11 rfl fl_X4_35 rfl rfl dX4_takeNumber_38 ?_
        refine g_iconst (v := 1) (pc := 41) C dX4_takeNumber_41 (by decide) ?_
        obtain ⟨rfl, rfl⟩ := zsome h
        exact g_zret (pc := 42) C rfl hx (by decide) (by rw [hxn]; rfl) (by rw [hxn]; rfl) dX4_takeNumber_42
      · have h := zif_f c12 h
        refine g_sub [0] (lm' := [(0, tR (some (h0)))]) rfl ?_
        exact w_X4_takeNumber_j26 hE C hxn _ _ _ _ h hx
def rm_X4_lawWordOf : Room := { frames := 0, cells := 0, slots := 0, locals := 0 }
noncomputable def s_X4_lawWordOf (p0 : Int32) (σ : Hp) : Option (Int32 × Hp) :=
  if p0 < 307 then
    some (((-1)), σ)
  else
    if 315 < p0 then
      some (((-1)), σ)
    else
      some ((p0 - 307), σ)
set_option maxRecDepth 100000 in
theorem c_X4_lawWordOf {E : E0} (hE : EOK E) {p0 : Int32} {σ σ1 : Hp} {r : Int32} (h : s_X4_lawWordOf p0 σ = some (r, σ1)) : CT E yX4_lawWordOf (.code yX4_lawWordOf cX4_lawWordOf 1 (some .int)) rm_X4_lawWordOf [tI (p0)] σ (some (tI r)) σ1 := by
  refine CT.mk hE (by decide +kernel) (Nat.le_of_ble_eq_true rfl) [(0, tI (p0))] rfl (fun X C hin hx hxn => ?_)
  have C : XOK E X cX4_lawWordOf RX4 1 (some .int) rm_X4_lawWordOf := C
  unfold s_X4_lawWordOf at h
  refine g_iload_n (pc := 0) C 0 0 dX4_lawWordOf_0 rfl rfl ?_
  refine g_sipush (v := 307) (pc := 1) C dX4_lawWordOf_1 (by decide) ?_
  refine g_icmp_lt (pc := 4) C 22 dX4_lawWordOf_4 (by decide) (fun c2 => ?_) (fun c2 => ?_)
  · have h := zif_t c2 h
    refine g_iconst (v := (-1)) (pc := 22) C dX4_lawWordOf_22 (by decide) ?_
    obtain ⟨rfl, rfl⟩ := zsome h
    exact g_iret (pc := 23) C rfl hx (by rw [hxn]; rfl) (by rw [hxn]; rfl) dX4_lawWordOf_23
  · have h := zif_f c2 h
    refine g_iload_n (pc := 7) C 0 0 dX4_lawWordOf_7 rfl rfl ?_
    refine g_sipush (v := 315) (pc := 8) C dX4_lawWordOf_8 (by decide) ?_
    refine g_icmp_gt (pc := 11) C 22 dX4_lawWordOf_11 (by decide) (fun c1 => ?_) (fun c1 => ?_)
    · have h := zif_t c1 h
      refine g_iconst (v := (-1)) (pc := 22) C dX4_lawWordOf_22 (by decide) ?_
      obtain ⟨rfl, rfl⟩ := zsome h
      exact g_iret (pc := 23) C rfl hx (by rw [hxn]; rfl) (by rw [hxn]; rfl) dX4_lawWordOf_23
    · have h := zif_f c1 h
      refine g_iload_n (pc := 14) C 0 0 dX4_lawWordOf_14 rfl rfl ?_
      refine g_sipush (v := 307) (pc := 15) C dX4_lawWordOf_15 (by decide) ?_
      refine g_isub (pc := 18) C dX4_lawWordOf_18 ?_
      refine g_goto (pc := 19) C 23 dX4_lawWordOf_19 (by decide) ?_
      obtain ⟨rfl, rfl⟩ := zsome h
      exact g_iret (pc := 23) C rfl hx (by rw [hxn]; rfl) (by rw [hxn]; rfl) dX4_lawWordOf_23
def rm_X4_orderWordOf : Room := { frames := 0, cells := 0, slots := 0, locals := 0 }
noncomputable def s_X4_orderWordOf (p0 : Int32) (σ : Hp) : Option (Int32 × Hp) :=
  if p0 = 307 then
    some ((9), σ)
  else
    if p0 = 308 then
      some ((4), σ)
    else
      if p0 = 309 then
        some ((0), σ)
      else
        if p0 = 310 then
          some (((-1)), σ)
        else
          if p0 = 311 then
            some (((-1)), σ)
          else
            if p0 = 312 then
              some (((-1)), σ)
            else
              if p0 = 313 then
                some (((-1)), σ)
              else
                if p0 = 314 then
                  some (((-1)), σ)
                else
                  if p0 = 315 then
                    some (((-1)), σ)
                  else
                    if p0 = 316 then
                      some (((-1)), σ)
                    else
                      if p0 = 317 then
                        some (((-1)), σ)
                      else
                        if p0 = 318 then
                          some (((-1)), σ)
                        else
                          if p0 = 319 then
                            some ((5), σ)
                          else
                            if p0 = 320 then
                              some (((-1)), σ)
                            else
                              if p0 = 321 then
                                some (((-1)), σ)
                              else
                                if p0 = 322 then
                                  some (((-1)), σ)
                                else
                                  if p0 = 323 then
                                    some (((-1)), σ)
                                  else
                                    if p0 = 324 then
                                      some ((1), σ)
                                    else
                                      if p0 = 325 then
                                        some ((2), σ)
                                      else
                                        if p0 = 326 then
                                          some ((3), σ)
                                        else
                                          if p0 = 327 then
                                            some ((12), σ)
                                          else
                                            some (((-1)), σ)
set_option maxRecDepth 100000 in
theorem c_X4_orderWordOf {E : E0} (hE : EOK E) {p0 : Int32} {σ σ1 : Hp} {r : Int32} (h : s_X4_orderWordOf p0 σ = some (r, σ1)) : CT E yX4_orderWordOf (.code yX4_orderWordOf cX4_orderWordOf 1 (some .int)) rm_X4_orderWordOf [tI (p0)] σ (some (tI r)) σ1 := by
  refine CT.mk hE (by decide +kernel) (Nat.le_of_ble_eq_true rfl) [(0, tI (p0))] rfl (fun X C hin hx hxn => ?_)
  have C : XOK E X cX4_orderWordOf RX4 1 (some .int) rm_X4_orderWordOf := C
  unfold s_X4_orderWordOf at h
  refine g_iload_n (pc := 0) C 0 0 dX4_orderWordOf_0 rfl rfl ?_
  by_cases c1 : p0 = 307
  · refine g_tswIn (pc := 1) C 112 dX4_orderWordOf_1 (by rw [c1] <;> decide) (by rw [c1] <;> decide) (by rw [c1] <;> rfl) (by decide) ?_
    have h := zif_t c1 h
    refine g_bipush (v := 9) (pc := 112) C dX4_orderWordOf_112 (by decide) ?_
    obtain ⟨rfl, rfl⟩ := zsome h
    exact g_iret (pc := 114) C rfl hx (by rw [hxn]; rfl) (by rw [hxn]; rfl) dX4_orderWordOf_114
  · have h := zif_f c1 h
    by_cases c2 : p0 = 308
    · refine g_tswIn (pc := 1) C 108 dX4_orderWordOf_1 (by rw [c2] <;> decide) (by rw [c2] <;> decide) (by rw [c2] <;> rfl) (by decide) ?_
      have h := zif_t c2 h
      refine g_iconst (v := 4) (pc := 108) C dX4_orderWordOf_108 (by decide) ?_
      obtain ⟨rfl, rfl⟩ := zsome h
      exact g_iret (pc := 109) C rfl hx (by rw [hxn]; rfl) (by rw [hxn]; rfl) dX4_orderWordOf_109
    · have h := zif_f c2 h
      by_cases c3 : p0 = 309
      · refine g_tswIn (pc := 1) C 100 dX4_orderWordOf_1 (by rw [c3] <;> decide) (by rw [c3] <;> decide) (by rw [c3] <;> rfl) (by decide) ?_
        have h := zif_t c3 h
        refine g_iconst (v := 0) (pc := 100) C dX4_orderWordOf_100 (by decide) ?_
        obtain ⟨rfl, rfl⟩ := zsome h
        exact g_iret (pc := 101) C rfl hx (by rw [hxn]; rfl) (by rw [hxn]; rfl) dX4_orderWordOf_101
      · have h := zif_f c3 h
        by_cases c4 : p0 = 310
        · refine g_tswIn (pc := 1) C 118 dX4_orderWordOf_1 (by rw [c4] <;> decide) (by rw [c4] <;> decide) (by rw [c4] <;> rfl) (by decide) ?_
          have h := zif_t c4 h
          refine g_iconst (v := (-1)) (pc := 118) C dX4_orderWordOf_118 (by decide) ?_
          obtain ⟨rfl, rfl⟩ := zsome h
          exact g_iret (pc := 119) C rfl hx (by rw [hxn]; rfl) (by rw [hxn]; rfl) dX4_orderWordOf_119
        · have h := zif_f c4 h
          by_cases c5 : p0 = 311
          · refine g_tswIn (pc := 1) C 118 dX4_orderWordOf_1 (by rw [c5] <;> decide) (by rw [c5] <;> decide) (by rw [c5] <;> rfl) (by decide) ?_
            have h := zif_t c5 h
            refine g_iconst (v := (-1)) (pc := 118) C dX4_orderWordOf_118 (by decide) ?_
            obtain ⟨rfl, rfl⟩ := zsome h
            exact g_iret (pc := 119) C rfl hx (by rw [hxn]; rfl) (by rw [hxn]; rfl) dX4_orderWordOf_119
          · have h := zif_f c5 h
            by_cases c6 : p0 = 312
            · refine g_tswIn (pc := 1) C 118 dX4_orderWordOf_1 (by rw [c6] <;> decide) (by rw [c6] <;> decide) (by rw [c6] <;> rfl) (by decide) ?_
              have h := zif_t c6 h
              refine g_iconst (v := (-1)) (pc := 118) C dX4_orderWordOf_118 (by decide) ?_
              obtain ⟨rfl, rfl⟩ := zsome h
              exact g_iret (pc := 119) C rfl hx (by rw [hxn]; rfl) (by rw [hxn]; rfl) dX4_orderWordOf_119
            · have h := zif_f c6 h
              by_cases c7 : p0 = 313
              · refine g_tswIn (pc := 1) C 118 dX4_orderWordOf_1 (by rw [c7] <;> decide) (by rw [c7] <;> decide) (by rw [c7] <;> rfl) (by decide) ?_
                have h := zif_t c7 h
                refine g_iconst (v := (-1)) (pc := 118) C dX4_orderWordOf_118 (by decide) ?_
                obtain ⟨rfl, rfl⟩ := zsome h
                exact g_iret (pc := 119) C rfl hx (by rw [hxn]; rfl) (by rw [hxn]; rfl) dX4_orderWordOf_119
              · have h := zif_f c7 h
                by_cases c8 : p0 = 314
                · refine g_tswIn (pc := 1) C 118 dX4_orderWordOf_1 (by rw [c8] <;> decide) (by rw [c8] <;> decide) (by rw [c8] <;> rfl) (by decide) ?_
                  have h := zif_t c8 h
                  refine g_iconst (v := (-1)) (pc := 118) C dX4_orderWordOf_118 (by decide) ?_
                  obtain ⟨rfl, rfl⟩ := zsome h
                  exact g_iret (pc := 119) C rfl hx (by rw [hxn]; rfl) (by rw [hxn]; rfl) dX4_orderWordOf_119
                · have h := zif_f c8 h
                  by_cases c9 : p0 = 315
                  · refine g_tswIn (pc := 1) C 118 dX4_orderWordOf_1 (by rw [c9] <;> decide) (by rw [c9] <;> decide) (by rw [c9] <;> rfl) (by decide) ?_
                    have h := zif_t c9 h
                    refine g_iconst (v := (-1)) (pc := 118) C dX4_orderWordOf_118 (by decide) ?_
                    obtain ⟨rfl, rfl⟩ := zsome h
                    exact g_iret (pc := 119) C rfl hx (by rw [hxn]; rfl) (by rw [hxn]; rfl) dX4_orderWordOf_119
                  · have h := zif_f c9 h
                    by_cases c10 : p0 = 316
                    · refine g_tswIn (pc := 1) C 118 dX4_orderWordOf_1 (by rw [c10] <;> decide) (by rw [c10] <;> decide) (by rw [c10] <;> rfl) (by decide) ?_
                      have h := zif_t c10 h
                      refine g_iconst (v := (-1)) (pc := 118) C dX4_orderWordOf_118 (by decide) ?_
                      obtain ⟨rfl, rfl⟩ := zsome h
                      exact g_iret (pc := 119) C rfl hx (by rw [hxn]; rfl) (by rw [hxn]; rfl) dX4_orderWordOf_119
                    · have h := zif_f c10 h
                      by_cases c11 : p0 = 317
                      · refine g_tswIn (pc := 1) C 118 dX4_orderWordOf_1 (by rw [c11] <;> decide) (by rw [c11] <;> decide) (by rw [c11] <;> rfl) (by decide) ?_
                        have h := zif_t c11 h
                        refine g_iconst (v := (-1)) (pc := 118) C dX4_orderWordOf_118 (by decide) ?_
                        obtain ⟨rfl, rfl⟩ := zsome h
                        exact g_iret (pc := 119) C rfl hx (by rw [hxn]; rfl) (by rw [hxn]; rfl) dX4_orderWordOf_119
                      · have h := zif_f c11 h
                        by_cases c12 : p0 = 318
                        · refine g_tswIn (pc := 1) C 118 dX4_orderWordOf_1 (by rw [c12] <;> decide) (by rw [c12] <;> decide) (by rw [c12] <;> rfl) (by decide) ?_
                          have h := zif_t c12 h
                          refine g_iconst (v := (-1)) (pc := 118) C dX4_orderWordOf_118 (by decide) ?_
                          obtain ⟨rfl, rfl⟩ := zsome h
                          exact g_iret (pc := 119) C rfl hx (by rw [hxn]; rfl) (by rw [hxn]; rfl) dX4_orderWordOf_119
                        · have h := zif_f c12 h
                          by_cases c13 : p0 = 319
                          · refine g_tswIn (pc := 1) C 110 dX4_orderWordOf_1 (by rw [c13] <;> decide) (by rw [c13] <;> decide) (by rw [c13] <;> rfl) (by decide) ?_
                            have h := zif_t c13 h
                            refine g_iconst (v := 5) (pc := 110) C dX4_orderWordOf_110 (by decide) ?_
                            obtain ⟨rfl, rfl⟩ := zsome h
                            exact g_iret (pc := 111) C rfl hx (by rw [hxn]; rfl) (by rw [hxn]; rfl) dX4_orderWordOf_111
                          · have h := zif_f c13 h
                            by_cases c14 : p0 = 320
                            · refine g_tswIn (pc := 1) C 118 dX4_orderWordOf_1 (by rw [c14] <;> decide) (by rw [c14] <;> decide) (by rw [c14] <;> rfl) (by decide) ?_
                              have h := zif_t c14 h
                              refine g_iconst (v := (-1)) (pc := 118) C dX4_orderWordOf_118 (by decide) ?_
                              obtain ⟨rfl, rfl⟩ := zsome h
                              exact g_iret (pc := 119) C rfl hx (by rw [hxn]; rfl) (by rw [hxn]; rfl) dX4_orderWordOf_119
                            · have h := zif_f c14 h
                              by_cases c15 : p0 = 321
                              · refine g_tswIn (pc := 1) C 118 dX4_orderWordOf_1 (by rw [c15] <;> decide) (by rw [c15] <;> decide) (by rw [c15] <;> rfl) (by decide) ?_
                                have h := zif_t c15 h
                                refine g_iconst (v := (-1)) (pc := 118) C dX4_orderWordOf_118 (by decide) ?_
                                obtain ⟨rfl, rfl⟩ := zsome h
                                exact g_iret (pc := 119) C rfl hx (by rw [hxn]; rfl) (by rw [hxn]; rfl) dX4_orderWordOf_119
                              · have h := zif_f c15 h
                                by_cases c16 : p0 = 322
                                · refine g_tswIn (pc := 1) C 118 dX4_orderWordOf_1 (by rw [c16] <;> decide) (by rw [c16] <;> decide) (by rw [c16] <;> rfl) (by decide) ?_
                                  have h := zif_t c16 h
                                  refine g_iconst (v := (-1)) (pc := 118) C dX4_orderWordOf_118 (by decide) ?_
                                  obtain ⟨rfl, rfl⟩ := zsome h
                                  exact g_iret (pc := 119) C rfl hx (by rw [hxn]; rfl) (by rw [hxn]; rfl) dX4_orderWordOf_119
                                · have h := zif_f c16 h
                                  by_cases c17 : p0 = 323
                                  · refine g_tswIn (pc := 1) C 118 dX4_orderWordOf_1 (by rw [c17] <;> decide) (by rw [c17] <;> decide) (by rw [c17] <;> rfl) (by decide) ?_
                                    have h := zif_t c17 h
                                    refine g_iconst (v := (-1)) (pc := 118) C dX4_orderWordOf_118 (by decide) ?_
                                    obtain ⟨rfl, rfl⟩ := zsome h
                                    exact g_iret (pc := 119) C rfl hx (by rw [hxn]; rfl) (by rw [hxn]; rfl) dX4_orderWordOf_119
                                  · have h := zif_f c17 h
                                    by_cases c18 : p0 = 324
                                    · refine g_tswIn (pc := 1) C 102 dX4_orderWordOf_1 (by rw [c18] <;> decide) (by rw [c18] <;> decide) (by rw [c18] <;> rfl) (by decide) ?_
                                      have h := zif_t c18 h
                                      refine g_iconst (v := 1) (pc := 102) C dX4_orderWordOf_102 (by decide) ?_
                                      obtain ⟨rfl, rfl⟩ := zsome h
                                      exact g_iret (pc := 103) C rfl hx (by rw [hxn]; rfl) (by rw [hxn]; rfl) dX4_orderWordOf_103
                                    · have h := zif_f c18 h
                                      by_cases c19 : p0 = 325
                                      · refine g_tswIn (pc := 1) C 104 dX4_orderWordOf_1 (by rw [c19] <;> decide) (by rw [c19] <;> decide) (by rw [c19] <;> rfl) (by decide) ?_
                                        have h := zif_t c19 h
                                        refine g_iconst (v := 2) (pc := 104) C dX4_orderWordOf_104 (by decide) ?_
                                        obtain ⟨rfl, rfl⟩ := zsome h
                                        exact g_iret (pc := 105) C rfl hx (by rw [hxn]; rfl) (by rw [hxn]; rfl) dX4_orderWordOf_105
                                      · have h := zif_f c19 h
                                        by_cases c20 : p0 = 326
                                        · refine g_tswIn (pc := 1) C 106 dX4_orderWordOf_1 (by rw [c20] <;> decide) (by rw [c20] <;> decide) (by rw [c20] <;> rfl) (by decide) ?_
                                          have h := zif_t c20 h
                                          refine g_iconst (v := 3) (pc := 106) C dX4_orderWordOf_106 (by decide) ?_
                                          obtain ⟨rfl, rfl⟩ := zsome h
                                          exact g_iret (pc := 107) C rfl hx (by rw [hxn]; rfl) (by rw [hxn]; rfl) dX4_orderWordOf_107
                                        · have h := zif_f c20 h
                                          by_cases c21 : p0 = 327
                                          · refine g_tswIn (pc := 1) C 115 dX4_orderWordOf_1 (by rw [c21] <;> decide) (by rw [c21] <;> decide) (by rw [c21] <;> rfl) (by decide) ?_
                                            have h := zif_t c21 h
                                            refine g_bipush (v := 12) (pc := 115) C dX4_orderWordOf_115 (by decide) ?_
                                            obtain ⟨rfl, rfl⟩ := zsome h
                                            exact g_iret (pc := 117) C rfl hx (by rw [hxn]; rfl) (by rw [hxn]; rfl) dX4_orderWordOf_117
                                          · have h := zif_f c21 h
                                            refine g_tswOut (pc := 1) C 118 dX4_orderWordOf_1 (by have ec1 := n32 (k := 307) (n := 307) (by decide) c1; have ec2 := n32 (k := 308) (n := 308) (by decide) c2; have ec3 := n32 (k := 309) (n := 309) (by decide) c3; have ec4 := n32 (k := 310) (n := 310) (by decide) c4; have ec5 := n32 (k := 311) (n := 311) (by decide) c5; have ec6 := n32 (k := 312) (n := 312) (by decide) c6; have ec7 := n32 (k := 313) (n := 313) (by decide) c7; have ec8 := n32 (k := 314) (n := 314) (by decide) c8; have ec9 := n32 (k := 315) (n := 315) (by decide) c9; have ec10 := n32 (k := 316) (n := 316) (by decide) c10; have ec11 := n32 (k := 317) (n := 317) (by decide) c11; have ec12 := n32 (k := 318) (n := 318) (by decide) c12; have ec13 := n32 (k := 319) (n := 319) (by decide) c13; have ec14 := n32 (k := 320) (n := 320) (by decide) c14; have ec15 := n32 (k := 321) (n := 321) (by decide) c15; have ec16 := n32 (k := 322) (n := 322) (by decide) c16; have ec17 := n32 (k := 323) (n := 323) (by decide) c17; have ec18 := n32 (k := 324) (n := 324) (by decide) c18; have ec19 := n32 (k := 325) (n := 325) (by decide) c19; have ec20 := n32 (k := 326) (n := 326) (by decide) c20; have ec21 := n32 (k := 327) (n := 327) (by decide) c21; omega) (by decide) ?_
                                            refine g_iconst (v := (-1)) (pc := 118) C dX4_orderWordOf_118 (by decide) ?_
                                            obtain ⟨rfl, rfl⟩ := zsome h
                                            exact g_iret (pc := 119) C rfl hx (by rw [hxn]; rfl) (by rw [hxn]; rfl) dX4_orderWordOf_119
def rm_X4_manyOf : Room := { frames := 0, cells := 0, slots := 0, locals := 0 }
noncomputable def s_X4_manyOf (p0 : Int32) (σ : Hp) : Option (Int32 × Hp) :=
  if p0 = 307 then
    some ((3), σ)
  else
    if p0 = 319 then
      some ((4), σ)
    else
      if p0 = 327 then
        some ((6), σ)
      else
        some ((0), σ)
set_option maxRecDepth 100000 in
theorem c_X4_manyOf {E : E0} (hE : EOK E) {p0 : Int32} {σ σ1 : Hp} {r : Int32} (h : s_X4_manyOf p0 σ = some (r, σ1)) : CT E yX4_manyOf (.code yX4_manyOf cX4_manyOf 1 (some .int)) rm_X4_manyOf [tI (p0)] σ (some (tI r)) σ1 := by
  refine CT.mk hE (by decide +kernel) (Nat.le_of_ble_eq_true rfl) [(0, tI (p0))] rfl (fun X C hin hx hxn => ?_)
  have C : XOK E X cX4_manyOf RX4 1 (some .int) rm_X4_manyOf := C
  unfold s_X4_manyOf at h
  refine g_iload_n (pc := 0) C 0 0 dX4_manyOf_0 rfl rfl ?_
  by_cases c1 : p0 = 307
  · refine g_lsw (pc := 1) C 38 dX4_manyOf_1 (by decide) (by rw [c1] <;> rfl) (by decide) ?_
    have h := zif_t c1 h
    refine g_iconst (v := 3) (pc := 38) C dX4_manyOf_38 (by decide) ?_
    obtain ⟨rfl, rfl⟩ := zsome h
    exact g_iret (pc := 39) C rfl hx (by rw [hxn]; rfl) (by rw [hxn]; rfl) dX4_manyOf_39
  · have h := zif_f c1 h
    by_cases c2 : p0 = 319
    · refine g_lsw (pc := 1) C 36 dX4_manyOf_1 (by decide) (by rw [c2] <;> rfl) (by decide) ?_
      have h := zif_t c2 h
      refine g_iconst (v := 4) (pc := 36) C dX4_manyOf_36 (by decide) ?_
      obtain ⟨rfl, rfl⟩ := zsome h
      exact g_iret (pc := 37) C rfl hx (by rw [hxn]; rfl) (by rw [hxn]; rfl) dX4_manyOf_37
    · have h := zif_f c2 h
      by_cases c3 : p0 = 327
      · refine g_lsw (pc := 1) C 40 dX4_manyOf_1 (by decide) (by rw [c3] <;> rfl) (by decide) ?_
        have h := zif_t c3 h
        refine g_bipush (v := 6) (pc := 40) C dX4_manyOf_40 (by decide) ?_
        obtain ⟨rfl, rfl⟩ := zsome h
        exact g_iret (pc := 42) C rfl hx (by rw [hxn]; rfl) (by rw [hxn]; rfl) dX4_manyOf_42
      · have h := zif_f c3 h
        refine g_lsw (pc := 1) C 43 dX4_manyOf_1 (by decide) (lsw_def (by have ec1 := n32 (k := 307) (n := 307) (by decide) c1; have ec2 := n32 (k := 319) (n := 319) (by decide) c2; have ec3 := n32 (k := 327) (n := 327) (by decide) c3; simp only [List.mem_cons, List.not_mem_nil, or_false, forall_eq_or_imp, forall_eq]; omega)) (by decide) ?_
        refine g_iconst (v := 0) (pc := 43) C dX4_manyOf_43 (by decide) ?_
        obtain ⟨rfl, rfl⟩ := zsome h
        exact g_iret (pc := 44) C rfl hx (by rw [hxn]; rfl) (by rw [hxn]; rfl) dX4_manyOf_44
def rm_X4_sumStepOf : Room := { frames := 0, cells := 0, slots := 0, locals := 0 }
noncomputable def s_X4_sumStepOf (p0 : Int32) (σ : Hp) : Option (Int32 × Hp) :=
  if p0 = 43 then
    some ((2), σ)
  else
    if p0 = 45 then
      some ((3), σ)
    else
      some (((-1)), σ)
set_option maxRecDepth 100000 in
theorem c_X4_sumStepOf {E : E0} (hE : EOK E) {p0 : Int32} {σ σ1 : Hp} {r : Int32} (h : s_X4_sumStepOf p0 σ = some (r, σ1)) : CT E yX4_sumStepOf (.code yX4_sumStepOf cX4_sumStepOf 1 (some .int)) rm_X4_sumStepOf [tI (p0)] σ (some (tI r)) σ1 := by
  refine CT.mk hE (by decide +kernel) (Nat.le_of_ble_eq_true rfl) [(0, tI (p0))] rfl (fun X C hin hx hxn => ?_)
  have C : XOK E X cX4_sumStepOf RX4 1 (some .int) rm_X4_sumStepOf := C
  unfold s_X4_sumStepOf at h
  refine g_iload_n (pc := 0) C 0 0 dX4_sumStepOf_0 rfl rfl ?_
  refine g_bipush (v := 43) (pc := 1) C dX4_sumStepOf_1 (by decide) ?_
  refine g_icmp_ne (pc := 3) C 10 dX4_sumStepOf_3 (by decide) (fun c2 => ?_) (fun c2 => ?_)
  · have h := zif_f c2 h
    refine g_iload_n (pc := 10) C 0 0 dX4_sumStepOf_10 rfl rfl ?_
    refine g_bipush (v := 45) (pc := 11) C dX4_sumStepOf_11 (by decide) ?_
    refine g_icmp_ne (pc := 13) C 20 dX4_sumStepOf_13 (by decide) (fun c1 => ?_) (fun c1 => ?_)
    · have h := zif_f c1 h
      refine g_iconst (v := (-1)) (pc := 20) C dX4_sumStepOf_20 (by decide) ?_
      obtain ⟨rfl, rfl⟩ := zsome h
      exact g_iret (pc := 21) C rfl hx (by rw [hxn]; rfl) (by rw [hxn]; rfl) dX4_sumStepOf_21
    · have h := zif_t c1 h
      refine g_iconst (v := 3) (pc := 16) C dX4_sumStepOf_16 (by decide) ?_
      refine g_goto (pc := 17) C 21 dX4_sumStepOf_17 (by decide) ?_
      obtain ⟨rfl, rfl⟩ := zsome h
      exact g_iret (pc := 21) C rfl hx (by rw [hxn]; rfl) (by rw [hxn]; rfl) dX4_sumStepOf_21
  · have h := zif_t c2 h
    refine g_iconst (v := 2) (pc := 6) C dX4_sumStepOf_6 (by decide) ?_
    refine g_goto (pc := 7) C 21 dX4_sumStepOf_7 (by decide) ?_
    obtain ⟨rfl, rfl⟩ := zsome h
    exact g_iret (pc := 21) C rfl hx (by rw [hxn]; rfl) (by rw [hxn]; rfl) dX4_sumStepOf_21
def rm_X4_termStepOf : Room := { frames := 0, cells := 0, slots := 0, locals := 0 }
noncomputable def s_X4_termStepOf (p0 : Int32) (σ : Hp) : Option (Int32 × Hp) :=
  if p0 = 42 then
    some ((4), σ)
  else
    if p0 = 47 then
      some ((5), σ)
    else
      if p0 = 37 then
        some ((6), σ)
      else
        some (((-1)), σ)
set_option maxRecDepth 100000 in
theorem c_X4_termStepOf {E : E0} (hE : EOK E) {p0 : Int32} {σ σ1 : Hp} {r : Int32} (h : s_X4_termStepOf p0 σ = some (r, σ1)) : CT E yX4_termStepOf (.code yX4_termStepOf cX4_termStepOf 1 (some .int)) rm_X4_termStepOf [tI (p0)] σ (some (tI r)) σ1 := by
  refine CT.mk hE (by decide +kernel) (Nat.le_of_ble_eq_true rfl) [(0, tI (p0))] rfl (fun X C hin hx hxn => ?_)
  have C : XOK E X cX4_termStepOf RX4 1 (some .int) rm_X4_termStepOf := C
  unfold s_X4_termStepOf at h
  refine g_iload_n (pc := 0) C 0 0 dX4_termStepOf_0 rfl rfl ?_
  refine g_bipush (v := 42) (pc := 1) C dX4_termStepOf_1 (by decide) ?_
  refine g_icmp_ne (pc := 3) C 10 dX4_termStepOf_3 (by decide) (fun c3 => ?_) (fun c3 => ?_)
  · have h := zif_f c3 h
    refine g_iload_n (pc := 10) C 0 0 dX4_termStepOf_10 rfl rfl ?_
    refine g_bipush (v := 47) (pc := 11) C dX4_termStepOf_11 (by decide) ?_
    refine g_icmp_ne (pc := 13) C 20 dX4_termStepOf_13 (by decide) (fun c2 => ?_) (fun c2 => ?_)
    · have h := zif_f c2 h
      refine g_iload_n (pc := 20) C 0 0 dX4_termStepOf_20 rfl rfl ?_
      refine g_bipush (v := 37) (pc := 21) C dX4_termStepOf_21 (by decide) ?_
      refine g_icmp_ne (pc := 23) C 31 dX4_termStepOf_23 (by decide) (fun c1 => ?_) (fun c1 => ?_)
      · have h := zif_f c1 h
        refine g_iconst (v := (-1)) (pc := 31) C dX4_termStepOf_31 (by decide) ?_
        obtain ⟨rfl, rfl⟩ := zsome h
        exact g_iret (pc := 32) C rfl hx (by rw [hxn]; rfl) (by rw [hxn]; rfl) dX4_termStepOf_32
      · have h := zif_t c1 h
        refine g_bipush (v := 6) (pc := 26) C dX4_termStepOf_26 (by decide) ?_
        refine g_goto (pc := 28) C 32 dX4_termStepOf_28 (by decide) ?_
        obtain ⟨rfl, rfl⟩ := zsome h
        exact g_iret (pc := 32) C rfl hx (by rw [hxn]; rfl) (by rw [hxn]; rfl) dX4_termStepOf_32
    · have h := zif_t c2 h
      refine g_iconst (v := 5) (pc := 16) C dX4_termStepOf_16 (by decide) ?_
      refine g_goto (pc := 17) C 32 dX4_termStepOf_17 (by decide) ?_
      obtain ⟨rfl, rfl⟩ := zsome h
      exact g_iret (pc := 32) C rfl hx (by rw [hxn]; rfl) (by rw [hxn]; rfl) dX4_termStepOf_32
  · have h := zif_t c3 h
    refine g_iconst (v := 4) (pc := 6) C dX4_termStepOf_6 (by decide) ?_
    refine g_goto (pc := 7) C 32 dX4_termStepOf_7 (by decide) ?_
    obtain ⟨rfl, rfl⟩ := zsome h
    exact g_iret (pc := 32) C rfl hx (by rw [hxn]; rfl) (by rw [hxn]; rfl) dX4_termStepOf_32
def rm_X4_linkOf : Room := { frames := 0, cells := 0, slots := 0, locals := 0 }
noncomputable def s_X4_linkOf (p0 : Int32) (σ : Hp) : Option (Int32 × Hp) :=
  if p0 = 316 then
    some ((317), σ)
  else
    if p0 = 317 then
      some (((-1)), σ)
    else
      if p0 = 318 then
        some ((319), σ)
      else
        if p0 = 319 then
          some (((-1)), σ)
        else
          if p0 = 320 then
            some ((321), σ)
          else
            some (((-1)), σ)
set_option maxRecDepth 100000 in
theorem c_X4_linkOf {E : E0} (hE : EOK E) {p0 : Int32} {σ σ1 : Hp} {r : Int32} (h : s_X4_linkOf p0 σ = some (r, σ1)) : CT E yX4_linkOf (.code yX4_linkOf cX4_linkOf 1 (some .int)) rm_X4_linkOf [tI (p0)] σ (some (tI r)) σ1 := by
  refine CT.mk hE (by decide +kernel) (Nat.le_of_ble_eq_true rfl) [(0, tI (p0))] rfl (fun X C hin hx hxn => ?_)
  have C : XOK E X cX4_linkOf RX4 1 (some .int) rm_X4_linkOf := C
  unfold s_X4_linkOf at h
  refine g_iload_n (pc := 0) C 0 0 dX4_linkOf_0 rfl rfl ?_
  by_cases c1 : p0 = 316
  · refine g_tswIn (pc := 1) C 36 dX4_linkOf_1 (by rw [c1] <;> decide) (by rw [c1] <;> decide) (by rw [c1] <;> rfl) (by decide) ?_
    have h := zif_t c1 h
    refine g_sipush (v := 317) (pc := 36) C dX4_linkOf_36 (by decide) ?_
    obtain ⟨rfl, rfl⟩ := zsome h
    exact g_iret (pc := 39) C rfl hx (by rw [hxn]; rfl) (by rw [hxn]; rfl) dX4_linkOf_39
  · have h := zif_f c1 h
    by_cases c2 : p0 = 317
    · refine g_tswIn (pc := 1) C 48 dX4_linkOf_1 (by rw [c2] <;> decide) (by rw [c2] <;> decide) (by rw [c2] <;> rfl) (by decide) ?_
      have h := zif_t c2 h
      refine g_iconst (v := (-1)) (pc := 48) C dX4_linkOf_48 (by decide) ?_
      obtain ⟨rfl, rfl⟩ := zsome h
      exact g_iret (pc := 49) C rfl hx (by rw [hxn]; rfl) (by rw [hxn]; rfl) dX4_linkOf_49
    · have h := zif_f c2 h
      by_cases c3 : p0 = 318
      · refine g_tswIn (pc := 1) C 40 dX4_linkOf_1 (by rw [c3] <;> decide) (by rw [c3] <;> decide) (by rw [c3] <;> rfl) (by decide) ?_
        have h := zif_t c3 h
        refine g_sipush (v := 319) (pc := 40) C dX4_linkOf_40 (by decide) ?_
        obtain ⟨rfl, rfl⟩ := zsome h
        exact g_iret (pc := 43) C rfl hx (by rw [hxn]; rfl) (by rw [hxn]; rfl) dX4_linkOf_43
      · have h := zif_f c3 h
        by_cases c4 : p0 = 319
        · refine g_tswIn (pc := 1) C 48 dX4_linkOf_1 (by rw [c4] <;> decide) (by rw [c4] <;> decide) (by rw [c4] <;> rfl) (by decide) ?_
          have h := zif_t c4 h
          refine g_iconst (v := (-1)) (pc := 48) C dX4_linkOf_48 (by decide) ?_
          obtain ⟨rfl, rfl⟩ := zsome h
          exact g_iret (pc := 49) C rfl hx (by rw [hxn]; rfl) (by rw [hxn]; rfl) dX4_linkOf_49
        · have h := zif_f c4 h
          by_cases c5 : p0 = 320
          · refine g_tswIn (pc := 1) C 44 dX4_linkOf_1 (by rw [c5] <;> decide) (by rw [c5] <;> decide) (by rw [c5] <;> rfl) (by decide) ?_
            have h := zif_t c5 h
            refine g_sipush (v := 321) (pc := 44) C dX4_linkOf_44 (by decide) ?_
            obtain ⟨rfl, rfl⟩ := zsome h
            exact g_iret (pc := 47) C rfl hx (by rw [hxn]; rfl) (by rw [hxn]; rfl) dX4_linkOf_47
          · have h := zif_f c5 h
            refine g_tswOut (pc := 1) C 48 dX4_linkOf_1 (by have ec1 := n32 (k := 316) (n := 316) (by decide) c1; have ec2 := n32 (k := 317) (n := 317) (by decide) c2; have ec3 := n32 (k := 318) (n := 318) (by decide) c3; have ec4 := n32 (k := 319) (n := 319) (by decide) c4; have ec5 := n32 (k := 320) (n := 320) (by decide) c5; omega) (by decide) ?_
            refine g_iconst (v := (-1)) (pc := 48) C dX4_linkOf_48 (by decide) ?_
            obtain ⟨rfl, rfl⟩ := zsome h
            exact g_iret (pc := 49) C rfl hx (by rw [hxn]; rfl) (by rw [hxn]; rfl) dX4_linkOf_49
def rm_X4_comparisonOf : Room := { frames := 0, cells := 0, slots := 0, locals := 0 }
noncomputable def s_X4_comparisonOf (p0 : Int32) (σ : Hp) : Option (Int32 × Hp) :=
  if p0 = 60 then
    some ((7), σ)
  else
    if p0 = 61 then
      some ((9), σ)
    else
      if p0 = 62 then
        some ((8), σ)
      else
        some (((-1)), σ)
set_option maxRecDepth 100000 in
theorem c_X4_comparisonOf {E : E0} (hE : EOK E) {p0 : Int32} {σ σ1 : Hp} {r : Int32} (h : s_X4_comparisonOf p0 σ = some (r, σ1)) : CT E yX4_comparisonOf (.code yX4_comparisonOf cX4_comparisonOf 1 (some .int)) rm_X4_comparisonOf [tI (p0)] σ (some (tI r)) σ1 := by
  refine CT.mk hE (by decide +kernel) (Nat.le_of_ble_eq_true rfl) [(0, tI (p0))] rfl (fun X C hin hx hxn => ?_)
  have C : XOK E X cX4_comparisonOf RX4 1 (some .int) rm_X4_comparisonOf := C
  unfold s_X4_comparisonOf at h
  refine g_iload_n (pc := 0) C 0 0 dX4_comparisonOf_0 rfl rfl ?_
  by_cases c1 : p0 = 60
  · refine g_tswIn (pc := 1) C 28 dX4_comparisonOf_1 (by rw [c1] <;> decide) (by rw [c1] <;> decide) (by rw [c1] <;> rfl) (by decide) ?_
    have h := zif_t c1 h
    refine g_bipush (v := 7) (pc := 28) C dX4_comparisonOf_28 (by decide) ?_
    obtain ⟨rfl, rfl⟩ := zsome h
    exact g_iret (pc := 30) C rfl hx (by rw [hxn]; rfl) (by rw [hxn]; rfl) dX4_comparisonOf_30
  · have h := zif_f c1 h
    by_cases c2 : p0 = 61
    · refine g_tswIn (pc := 1) C 34 dX4_comparisonOf_1 (by rw [c2] <;> decide) (by rw [c2] <;> decide) (by rw [c2] <;> rfl) (by decide) ?_
      have h := zif_t c2 h
      refine g_bipush (v := 9) (pc := 34) C dX4_comparisonOf_34 (by decide) ?_
      obtain ⟨rfl, rfl⟩ := zsome h
      exact g_iret (pc := 36) C rfl hx (by rw [hxn]; rfl) (by rw [hxn]; rfl) dX4_comparisonOf_36
    · have h := zif_f c2 h
      by_cases c3 : p0 = 62
      · refine g_tswIn (pc := 1) C 31 dX4_comparisonOf_1 (by rw [c3] <;> decide) (by rw [c3] <;> decide) (by rw [c3] <;> rfl) (by decide) ?_
        have h := zif_t c3 h
        refine g_bipush (v := 8) (pc := 31) C dX4_comparisonOf_31 (by decide) ?_
        obtain ⟨rfl, rfl⟩ := zsome h
        exact g_iret (pc := 33) C rfl hx (by rw [hxn]; rfl) (by rw [hxn]; rfl) dX4_comparisonOf_33
      · have h := zif_f c3 h
        refine g_tswOut (pc := 1) C 37 dX4_comparisonOf_1 (by have ec1 := n32 (k := 60) (n := 60) (by decide) c1; have ec2 := n32 (k := 61) (n := 61) (by decide) c2; have ec3 := n32 (k := 62) (n := 62) (by decide) c3; omega) (by decide) ?_
        refine g_iconst (v := (-1)) (pc := 37) C dX4_comparisonOf_37 (by decide) ?_
        obtain ⟨rfl, rfl⟩ := zsome h
        exact g_iret (pc := 38) C rfl hx (by rw [hxn]; rfl) (by rw [hxn]; rfl) dX4_comparisonOf_38
def rm_X4_skipTillHere : Room := { frames := 0, cells := 0, slots := 0, locals := 0 }
noncomputable def s_X4_skipTillHere (h0 : Nat) (p1 : Int32) (σ : Hp) : Option (Unit × Hp) :=
  if p1 < 0 then
    some ((), σ)
  else
    (rdI 4 σ h0 7).bind fun v1 =>
    if v1 ≤ p1 then
      some ((), σ)
    else
      (rdR 4 σ h0 3).bind fun r2 =>
      (rdI 4 σ h0 7).bind fun v3 =>
      (rdR 4 σ h0 3).bind fun r4 =>
      (r4).bind fun a5 =>
      (ldI 11 σ a5 (p1)).bind fun v6 =>
      (r2).bind fun a7 =>
      (stI σ a7 (p1) ((v3 <<< (4 &&& 31)) ||| (v6 &&& 15))).bind fun σ8 =>
      some ((), σ8)
set_option maxRecDepth 100000 in
theorem c_X4_skipTillHere {E : E0} (hE : EOK E) {h0 : Nat} {p1 : Int32} {σ σ1 : Hp} {r : Unit} (h : s_X4_skipTillHere h0 p1 σ = some (r, σ1)) : CT E yX4_skipTillHere (.code yX4_skipTillHere cX4_skipTillHere 2 none) rm_X4_skipTillHere [tR (some (h0)), tI (p1)] σ none σ1 := by
  refine CT.mk hE (by decide +kernel) (Nat.le_of_ble_eq_true rfl) [(0, tR (some (h0))), (1, tI (p1))] rfl (fun X C hin hx hxn => ?_)
  have C : XOK E X cX4_skipTillHere RX4 2 none rm_X4_skipTillHere := C
  unfold s_X4_skipTillHere at h
  refine g_iload_n (pc := 0) C 1 1 dX4_skipTillHere_0 rfl rfl ?_
  refine g_if_lt (pc := 1) C 34 dX4_skipTillHere_1 (by decide) (fun c10 => ?_) (fun c10 => ?_)
  · have h := zif_t c10 h
    obtain ⟨rfl, rfl⟩ := zsome h
    exact g_vret (pc := 34) C rfl hx (by rw [hxn]; rfl) (by rw [hxn]; rfl) dX4_skipTillHere_34
  · have h := zif_f c10 h
    refine g_iload_n (pc := 4) C 1 1 dX4_skipTillHere_4 rfl rfl ?_
    refine g_aload_n (pc := 5) C 0 0 dX4_skipTillHere_5 rfl rfl ?_
    obtain ⟨v1, hvv1, h⟩ := zbind h
    refine g_getI (N := 12) (pc := 6) C ck_4 hvv1 rfl rfl fl_X4_38 dX4_skipTillHere_6 ?_
    refine g_icmp_ge (pc := 9) C 34 dX4_skipTillHere_9 (by decide) (fun c9 => ?_) (fun c9 => ?_)
    · have h := zif_t c9 h
      obtain ⟨rfl, rfl⟩ := zsome h
      exact g_vret (pc := 34) C rfl hx (by rw [hxn]; rfl) (by rw [hxn]; rfl) dX4_skipTillHere_34
    · have h := zif_f c9 h
      refine g_aload_n (pc := 12) C 0 0 dX4_skipTillHere_12 rfl rfl ?_
      obtain ⟨r2, hvr2, h⟩ := zbind h
      refine g_getR (N := 12) (pc := 13) C ck_4 hvr2 rfl rfl fl_X4_21 dX4_skipTillHere_13 ?_
      refine g_iload_n (pc := 16) C 1 1 dX4_skipTillHere_16 rfl rfl ?_
      refine g_aload_n (pc := 17) C 0 0 dX4_skipTillHere_17 rfl rfl ?_
      obtain ⟨v3, hvv3, h⟩ := zbind h
      refine g_getI (N := 12) (pc := 18) C ck_4 hvv3 rfl rfl fl_X4_38 dX4_skipTillHere_18 ?_
      refine g_iconst (v := 4) (pc := 21) C dX4_skipTillHere_21 (by decide) ?_
      refine g_ishl (pc := 22) C dX4_skipTillHere_22 ?_
      refine g_aload_n (pc := 23) C 0 0 dX4_skipTillHere_23 rfl rfl ?_
      obtain ⟨r4, hvr4, h⟩ := zbind h
      refine g_getR (N := 12) (pc := 24) C ck_4 hvr4 rfl rfl fl_X4_21 dX4_skipTillHere_24 ?_
      refine g_iload_n (pc := 27) C 1 1 dX4_skipTillHere_27 rfl rfl ?_
      obtain ⟨a5, hqa5, h9⟩ := zbind h
      clear h
      subst hqa5
      have h := h9
      clear h9
      obtain ⟨v6, hvv6, h⟩ := zbind h
      refine g_iald (pc := 28) C hvv6 dX4_skipTillHere_28 ?_
      refine g_bipush (v := 15) (pc := 29) C dX4_skipTillHere_29 (by decide) ?_
      refine g_iand (pc := 31) C dX4_skipTillHere_31 ?_
      refine g_ior (pc := 32) C dX4_skipTillHere_32 ?_
      obtain ⟨a7, hqa7, h9⟩ := zbind h
      clear h
      subst hqa7
      have h := h9
      clear h9
      obtain ⟨σ8, hvσ8, h⟩ := zbind h
      refine g_iast (pc := 33) C hvσ8 dX4_skipTillHere_33 ?_
      obtain ⟨rfl, rfl⟩ := zsome h
      exact g_vret (pc := 34) C rfl hx (by rw [hxn]; rfl) (by rw [hxn]; rfl) dX4_skipTillHere_34
def rm_X7_init : Room := { frames := 1, cells := 0, slots := 0, locals := 20 }
noncomputable def s_X7_init (h0 : Nat) (p1 : Option Nat) (p2 : Option Nat) (p3 : Int32) (σ : Hp) : Option (Unit × Hp) :=
  (wrR 7 σ h0 0 (p1)).bind fun σ1 =>
  (wrR 7 σ1 h0 1 (p2)).bind fun σ2 =>
  (wrI 7 σ2 h0 2 (p3)).bind fun σ3 =>
  some ((), σ3)
set_option maxRecDepth 100000 in
theorem c_X7_init {E : E0} (hE : EOK E) {h0 : Nat} {p1 : Option Nat} {p2 : Option Nat} {p3 : Int32} {σ σ1 : Hp} {r : Unit} (h : s_X7_init h0 p1 p2 p3 σ = some (r, σ1)) : CT E yX7_init (.code yX7_init cX7_init 4 none) rm_X7_init [tR (some (h0)), tR (p1), tR (p2), tI (p3)] σ none σ1 := by
  refine CT.mk hE (by decide +kernel) (Nat.le_of_ble_eq_true rfl) [(0, tR (some (h0))), (1, tR (p1)), (2, tR (p2)), (3, tI (p3))] rfl (fun X C hin hx hxn => ?_)
  have C : XOK E X cX7_init RX7 4 none rm_X7_init := C
  unfold s_X7_init at h
  refine g_aload_n (pc := 0) C 0 0 dX7_init_0 rfl rfl ?_
  refine g_objInit (pc := 1) C ml_X7_3 oi_1 oi_2 ⟨Nat.le_of_ble_eq_true rfl, Nat.le_of_ble_eq_true rfl⟩ (Nat.le_of_ble_eq_true rfl) dX7_init_1 ?_
  refine g_aload_n (pc := 4) C 0 0 dX7_init_4 rfl rfl ?_
  refine g_aload_n (pc := 5) C 1 1 dX7_init_5 rfl rfl ?_
  obtain ⟨σ1, hvσ1, h⟩ := zbind h
  refine g_putRF (N := 3) (pc := 6) C ⟨ck_7, rfl, tyX7_ok⟩ hvσ1 rfl fl_X7_9 rfl hin ⟨rfl, rfl⟩ dX7_init_6 ?_
  refine g_aload_n (pc := 9) C 0 0 dX7_init_9 rfl rfl ?_
  refine g_aload_n (pc := 10) C 2 2 dX7_init_10 rfl rfl ?_
  obtain ⟨σ2, hvσ2, h⟩ := zbind h
  refine g_putRF (N := 3) (pc := 11) C ⟨ck_7, rfl, tyX7_ok⟩ hvσ2 rfl fl_X7_15 rfl hin ⟨rfl, rfl⟩ dX7_init_11 ?_
  refine g_aload_n (pc := 14) C 0 0 dX7_init_14 rfl rfl ?_
  refine g_iload_n (pc := 15) C 3 3 dX7_init_15 rfl rfl ?_
  obtain ⟨σ3, hvσ3, h⟩ := zbind h
  refine g_putIF (N := 3) (pc := 16) C ⟨ck_7, rfl, tyX7_ok⟩ hvσ3 rfl fl_X7_18 rfl hin ⟨rfl, rfl⟩ dX7_init_16 ?_
  obtain ⟨rfl, rfl⟩ := zsome h
  exact g_vret (pc := 19) C rfl hx (by rw [hxn]; rfl) (by rw [hxn]; rfl) dX7_init_19
def rm_X6_init : Room := { frames := 1, cells := 1, slots := 400, locals := 20 }
noncomputable def s_X6_init (h0 : Nat) (σ : Hp) : Option (Unit × Hp) :=
  cb (nw 10 400 σ) fun a2 σ1 =>
  (wrR 6 σ1 h0 0 (some (a2))).bind fun σ3 =>
  (wrI 6 σ3 h0 1 (0)).bind fun σ4 =>
  some ((), σ4)
set_option maxRecDepth 100000 in
theorem c_X6_init {E : E0} (hE : EOK E) {h0 : Nat} {σ σ1 : Hp} {r : Unit} (h : s_X6_init h0 σ = some (r, σ1)) : CT E yX6_init (.code yX6_init cX6_init 1 none) rm_X6_init [tR (some (h0))] σ none σ1 := by
  refine CT.mk hE (by decide +kernel) (Nat.le_of_ble_eq_true rfl) [(0, tR (some (h0)))] rfl (fun X C hin hx hxn => ?_)
  have C : XOK E X cX6_init RX6 1 none rm_X6_init := C
  unfold s_X6_init at h
  refine g_aload_n (pc := 0) C 0 0 dX6_init_0 rfl rfl ?_
  refine g_objInit (pc := 1) C ml_X6_3 oi_1 oi_2 ⟨Nat.le_of_ble_eq_true rfl, Nat.le_of_ble_eq_true rfl⟩ (Nat.le_of_ble_eq_true rfl) dX6_init_1 ?_
  refine g_aload_n (pc := 4) C 0 0 dX6_init_4 rfl rfl ?_
  refine g_sipush (v := 400) (pc := 5) C dX6_init_5 (by decide) ?_
  obtain ⟨a2, σ1, hvσ1, h⟩ := zcb h
  refine g_newaB (N := 400) (pc := 8) C (by decide) (by decide) (by decide) ac_byte (by decide) (by decide) dX6_init_8 ?_
  rw [← (nw_h hvσ1).2, ← (nw_h hvσ1).1]
  obtain ⟨σ3, hvσ3, h⟩ := zbind h
  refine g_putRF (N := 2) (pc := 10) C ⟨ck_6, rfl, tyX6_ok⟩ hvσ3 rfl fl_X6_9 rfl hin ⟨rfl, rfl⟩ dX6_init_10 ?_
  refine g_aload_n (pc := 13) C 0 0 dX6_init_13 rfl rfl ?_
  refine g_iconst (v := 0) (pc := 14) C dX6_init_14 (by decide) ?_
  obtain ⟨σ4, hvσ4, h⟩ := zbind h
  refine g_putI (N := 2) (pc := 15) C ⟨ck_6, rfl, tyX6_ok⟩ hvσ4 rfl fl_X6_15 rfl rfl dX6_init_15 ?_
  obtain ⟨rfl, rfl⟩ := zsome h
  exact g_vret (pc := 18) C rfl hx (by rw [hxn]; rfl) (by rw [hxn]; rfl) dX6_init_18
def rm_X6_hasPlaceFor : Room := { frames := 0, cells := 0, slots := 0, locals := 0 }
noncomputable def s_X6_hasPlaceFor (h0 : Nat) (p1 : Int32) (σ : Hp) : Option (Int32 × Hp) :=
  (rdI 6 σ h0 1).bind fun v1 =>
  (rdR 6 σ h0 0).bind fun r2 =>
  (r2).bind fun a3 =>
  (lnA 10 σ a3).bind fun v4 =>
  if v4 < (v1 + p1) then
    some ((0), σ)
  else
    some ((1), σ)
set_option maxRecDepth 100000 in
theorem c_X6_hasPlaceFor {E : E0} (hE : EOK E) {h0 : Nat} {p1 : Int32} {σ σ1 : Hp} {r : Int32} (h : s_X6_hasPlaceFor h0 p1 σ = some (r, σ1)) : CT E yX6_hasPlaceFor (.code yX6_hasPlaceFor cX6_hasPlaceFor 2 (some .boolean)) rm_X6_hasPlaceFor [tR (some (h0)), tI (p1)] σ (some (tI r)) σ1 := by
  refine CT.mk hE (by decide +kernel) (Nat.le_of_ble_eq_true rfl) [(0, tR (some (h0))), (1, tI (p1))] rfl (fun X C hin hx hxn => ?_)
  have C : XOK E X cX6_hasPlaceFor RX6 2 (some .boolean) rm_X6_hasPlaceFor := C
  unfold s_X6_hasPlaceFor at h
  refine g_aload_n (pc := 0) C 0 0 dX6_hasPlaceFor_0 rfl rfl ?_
  obtain ⟨v1, hvv1, h⟩ := zbind h
  refine g_getI (N := 2) (pc := 1) C ck_6 hvv1 rfl rfl fl_X6_15 dX6_hasPlaceFor_1 ?_
  refine g_iload_n (pc := 4) C 1 1 dX6_hasPlaceFor_4 rfl rfl ?_
  refine g_iadd (pc := 5) C dX6_hasPlaceFor_5 ?_
  refine g_aload_n (pc := 6) C 0 0 dX6_hasPlaceFor_6 rfl rfl ?_
  obtain ⟨r2, hvr2, h⟩ := zbind h
  refine g_getR (N := 2) (pc := 7) C ck_6 hvr2 rfl rfl fl_X6_9 dX6_hasPlaceFor_7 ?_
  obtain ⟨a3, hqa3, h9⟩ := zbind h
  clear h
  subst hqa3
  have h := h9
  clear h9
  obtain ⟨v4, hvv4, h⟩ := zbind h
  refine g_alen (c := 10) (pc := 10) C (by decide) hvv4 dX6_hasPlaceFor_10 ?_
  refine g_icmp_gt (pc := 11) C 18 dX6_hasPlaceFor_11 (by decide) (fun c5 => ?_) (fun c5 => ?_)
  · have h := zif_t c5 h
    refine g_iconst (v := 0) (pc := 18) C dX6_hasPlaceFor_18 (by decide) ?_
    obtain ⟨rfl, rfl⟩ := zsome h
    exact g_zret (pc := 19) C rfl hx (by decide) (by rw [hxn]; rfl) (by rw [hxn]; rfl) dX6_hasPlaceFor_19
  · have h := zif_f c5 h
    refine g_iconst (v := 1) (pc := 14) C dX6_hasPlaceFor_14 (by decide) ?_
    refine g_goto (pc := 15) C 19 dX6_hasPlaceFor_15 (by decide) ?_
    obtain ⟨rfl, rfl⟩ := zsome h
    exact g_zret (pc := 19) C rfl hx (by decide) (by rw [hxn]; rfl) (by rw [hxn]; rfl) dX6_hasPlaceFor_19
def rm_X6_addNumber : Room := { frames := 1, cells := 0, slots := 0, locals := 21 }
noncomputable def s_X6_addNumber_b12 (h0 : Nat) (l1 : Int32) (l2 : Int32) (σ : Hp) : Option (((Nat × Int32 × Int32) ⊕ (Unit)) × Hp) :=
  if l2 < 0 then
    some (Sum.inr (), σ)
  else
    (rdR 6 σ h0 0).bind fun r1 =>
    (rdI 6 σ h0 1).bind fun v2 =>
    (wrI 6 σ h0 1 (v2 + 1)).bind fun σ3 =>
    (r1).bind fun a4 =>
    (stB σ3 a4 (v2) ((Int32.toInt8 (l1 >>> (l2 &&& 31) : Int32)).toInt32)).bind fun σ5 =>
    some (Sum.inl ((h0), (l1), (l2 + (-8))), σ5)
noncomputable def s_X6_addNumber_l12 : (Nat × Int32 × Int32) → Hp → Option ((Unit) × Hp) := loopF (fun v => s_X6_addNumber_b12 (v.1) (v.2.1) (v.2.2))
set_option maxRecDepth 100000 in
theorem w_X6_addNumber_b12 {E : E0} (hE : EOK E) {X : X0} (C : XOK E X cX6_addNumber RX6 3 none rm_X6_addNumber) (hxn : xn X = (rm_X6_addNumber.cells, rm_X6_addNumber.slots)) {KE : (Unit) → Hp → Prop} (e_ret : ∀ (r : Unit) (σ : Hp), KE (r) σ → xd X = (none, σ)) (h0 : Nat) (l1 : Int32) (l2 : Int32) (σ : Hp) (x : (Nat × Int32 × Int32) ⊕ (Unit)) (σ1 : Hp) (h : s_X6_addNumber_b12 h0 l1 l2 σ = some (x, σ1)) (hI : ∀ v, x = Sum.inl v → (fun (v : Nat × Int32 × Int32) (σ : Hp) => G E X 0 0 12 [(0, tR (some ((v.1)))), (1, tI ((v.2.1))), (2, tI ((v.2.2)))] [] σ) v σ1) (hO : ∀ e, x = Sum.inr e → KE e σ1) : G E X 0 0 12 [(0, tR (some (h0))), (1, tI (l1)), (2, tI (l2))] [] σ := by
  unfold s_X6_addNumber_b12 at h
  refine g_iload_n (pc := 12) C 2 2 dX6_addNumber_12 rfl rfl ?_
  refine g_if_lt (pc := 13) C 42 dX6_addNumber_13 (by decide) (fun c6 => ?_) (fun c6 => ?_)
  · have h := zif_t c6 h
    obtain ⟨rfl, rfl⟩ := zsome h
    exact g_vret (pc := 42) C rfl (e_ret _ _ (hO _ rfl)) (by rw [hxn]; rfl) (by rw [hxn]; rfl) dX6_addNumber_42
  · have h := zif_f c6 h
    refine g_aload_n (pc := 16) C 0 0 dX6_addNumber_16 rfl rfl ?_
    obtain ⟨r1, hvr1, h⟩ := zbind h
    refine g_getR (N := 2) (pc := 17) C ck_6 hvr1 rfl rfl fl_X6_9 dX6_addNumber_17 ?_
    refine g_aload_n (pc := 20) C 0 0 dX6_addNumber_20 rfl rfl ?_
    refine g_dup (pc := 21) C dX6_addNumber_21 rfl ?_
    obtain ⟨v2, hvv2, h⟩ := zbind h
    refine g_getI (N := 2) (pc := 22) C ck_6 hvv2 rfl rfl fl_X6_15 dX6_addNumber_22 ?_
    refine g_dup_x1 (pc := 25) C dX6_addNumber_25 rfl rfl ?_
    refine g_iconst (v := 1) (pc := 26) C dX6_addNumber_26 (by decide) ?_
    refine g_iadd (pc := 27) C dX6_addNumber_27 ?_
    obtain ⟨σ3, hvσ3, h⟩ := zbind h
    refine g_putI (N := 2) (pc := 28) C ⟨ck_6, rfl, tyX6_ok⟩ hvσ3 rfl fl_X6_15 rfl rfl dX6_addNumber_28 ?_
    refine g_iload_n (pc := 31) C 1 1 dX6_addNumber_31 rfl rfl ?_
    refine g_iload_n (pc := 32) C 2 2 dX6_addNumber_32 rfl rfl ?_
    refine g_ishr (pc := 33) C dX6_addNumber_33 ?_
    refine g_i2b (pc := 34) C dX6_addNumber_34 ?_
    obtain ⟨a4, hqa4, h9⟩ := zbind h
    clear h
    subst hqa4
    have h := h9
    clear h9
    obtain ⟨σ5, hvσ5, h⟩ := zbind h
    refine g_bast (pc := 35) C hvσ5 dX6_addNumber_35 ?_
    refine g_iinc (lm' := [(2, tI (l2 + (-8))), (0, tR (some (h0))), (1, tI (l1))]) (v := l2 + (-8)) (pc := 36) C 2 dX6_addNumber_36 rfl rfl (by decide) rfl ?_
    refine g_goto (pc := 39) C 12 dX6_addNumber_39 (by decide) ?_
    refine g_sub [1, 2, 0] (lm' := [(0, tR (some (h0))), (1, tI (l1)), (2, tI (l2 + (-8)))]) rfl ?_
    obtain ⟨rfl, rfl⟩ := zsome h
    exact hI _ rfl
theorem w_X6_addNumber_l12 {E : E0} (hE : EOK E) {X : X0} (C : XOK E X cX6_addNumber RX6 3 none rm_X6_addNumber) (hxn : xn X = (rm_X6_addNumber.cells, rm_X6_addNumber.slots)) {KE : (Unit) → Hp → Prop} (e_ret : ∀ (r : Unit) (σ : Hp), KE (r) σ → xd X = (none, σ)) {v : Nat × Int32 × Int32} {σ : Hp} {e : Unit} {σ1 : Hp} (h : s_X6_addNumber_l12 v σ = some (e, σ1)) (hO : KE e σ1) : G E X 0 0 12 [(0, tR (some ((v.1)))), (1, tI ((v.2.1))), (2, tI ((v.2.2)))] [] σ := loopF_ind (P := fun (v : Nat × Int32 × Int32) (σ : Hp) => G E X 0 0 12 [(0, tR (some ((v.1)))), (1, tI ((v.2.1))), (2, tI ((v.2.2)))] [] σ) (KE := KE) (fun v σ x σ1 h hI hO => w_X6_addNumber_b12 hE C hxn e_ret (v.1) (v.2.1) (v.2.2) σ x σ1 h hI hO) v σ e σ1 h hO
noncomputable def s_X6_addNumber (h0 : Nat) (p1 : Int32) (σ : Hp) : Option (Unit × Hp) :=
  (ck 6 σ h0).bind fun u1 =>
  cb (s_X6_hasPlaceFor h0 (4) σ) fun v3 σ2 =>
  if v3 = 0 then
    some ((), σ2)
  else
    cb (s_X6_addNumber_l12 ((h0), (p1), (24)) σ2) fun r5 σ6 =>
    some (r5, σ6)
set_option maxRecDepth 100000 in
theorem c_X6_addNumber {E : E0} (hE : EOK E) {h0 : Nat} {p1 : Int32} {σ σ1 : Hp} {r : Unit} (h : s_X6_addNumber h0 p1 σ = some (r, σ1)) : CT E yX6_addNumber (.code yX6_addNumber cX6_addNumber 3 none) rm_X6_addNumber [tR (some (h0)), tI (p1)] σ none σ1 := by
  refine CT.mk hE (by decide +kernel) (Nat.le_of_ble_eq_true rfl) [(0, tR (some (h0))), (1, tI (p1))] rfl (fun X C hin hx hxn => ?_)
  have C : XOK E X cX6_addNumber RX6 3 none rm_X6_addNumber := C
  unfold s_X6_addNumber at h
  refine g_aload_n (pc := 0) C 0 0 dX6_addNumber_0 rfl rfl ?_
  refine g_iconst (v := 4) (pc := 1) C dX6_addNumber_1 (by decide) ?_
  obtain ⟨u1, hvu1, h⟩ := zbind h
  obtain ⟨v3, σ2, hvσ2, h⟩ := zcb h
  refine g_callV (pc := 2) (av := [tI (4)]) C (c_X6_hasPlaceFor hE hvσ2) yv_X6_hasPlaceFor ml_X6_19 ck_6 (zopt hvu1).1 rfl (rf_of (by decide)) rfl (Nat.le_of_ble_eq_true rfl) dX6_addNumber_2 ?_
  refine g_if_ne (pc := 5) C 9 dX6_addNumber_5 (by decide) (fun c8 => ?_) (fun c8 => ?_)
  · have h := zif_f c8 h
    refine g_bipush (v := 24) (pc := 9) C dX6_addNumber_9 (by decide) ?_
    refine g_istore_n (lm' := [(2, tI (24)), (0, tR (some (h0))), (1, tI (p1))]) (pc := 11) C 2 dX6_addNumber_11 rfl (by decide) rfl ?_
    refine g_sub [1, 2, 0] (lm' := [(0, tR (some (h0))), (1, tI (p1)), (2, tI (24))]) rfl ?_
    obtain ⟨KQ, hKQ, r5, σ6, hlr5, h⟩ := zcbK h
    refine w_X6_addNumber_l12 (KE := KQ) hE C hxn ?_ hlr5 h
    · intro r5 σ4 h
      have h := (hKQ _ _).mp h
      obtain ⟨rfl, rfl⟩ := zsome h
      exact hx
  · have h := zif_t c8 h
    obtain ⟨rfl, rfl⟩ := zsome h
    exact g_vret (pc := 8) C rfl hx (by rw [hxn]; rfl) (by rw [hxn]; rfl) dX6_addNumber_8
def rm_X8_kindOfRefusal : Room := { frames := 0, cells := 0, slots := 0, locals := 0 }
noncomputable def s_X8_kindOfRefusal (p0 : Int32) (σ : Hp) : Option (Int32 × Hp) :=
  if p0 = (-6) then
    some ((4), σ)
  else
    if p0 = (-5) then
      some ((3), σ)
    else
      if p0 = (-4) then
        some (((-1)), σ)
      else
        if p0 = (-3) then
          some ((2), σ)
        else
          if p0 = (-2) then
            some ((1), σ)
          else
            if p0 = (-1) then
              some ((0), σ)
            else
              some (((-1)), σ)
set_option maxRecDepth 100000 in
theorem c_X8_kindOfRefusal {E : E0} (hE : EOK E) {p0 : Int32} {σ σ1 : Hp} {r : Int32} (h : s_X8_kindOfRefusal p0 σ = some (r, σ1)) : CT E yX8_kindOfRefusal (.code yX8_kindOfRefusal cX8_kindOfRefusal 1 (some .int)) rm_X8_kindOfRefusal [tI (p0)] σ (some (tI r)) σ1 := by
  refine CT.mk hE (by decide +kernel) (Nat.le_of_ble_eq_true rfl) [(0, tI (p0))] rfl (fun X C hin hx hxn => ?_)
  have C : XOK E X cX8_kindOfRefusal RX8 1 (some .int) rm_X8_kindOfRefusal := C
  unfold s_X8_kindOfRefusal at h
  refine g_iload_n (pc := 0) C 0 0 dX8_kindOfRefusal_0 rfl rfl ?_
  by_cases c1 : p0 = (-6)
  · refine g_tswIn (pc := 1) C 48 dX8_kindOfRefusal_1 (by rw [c1] <;> decide) (by rw [c1] <;> decide) (by rw [c1] <;> rfl) (by decide) ?_
    have h := zif_t c1 h
    refine g_iconst (v := 4) (pc := 48) C dX8_kindOfRefusal_48 (by decide) ?_
    obtain ⟨rfl, rfl⟩ := zsome h
    exact g_iret (pc := 49) C rfl hx (by rw [hxn]; rfl) (by rw [hxn]; rfl) dX8_kindOfRefusal_49
  · have h := zif_f c1 h
    by_cases c2 : p0 = (-5)
    · refine g_tswIn (pc := 1) C 46 dX8_kindOfRefusal_1 (by rw [c2] <;> decide) (by rw [c2] <;> decide) (by rw [c2] <;> rfl) (by decide) ?_
      have h := zif_t c2 h
      refine g_iconst (v := 3) (pc := 46) C dX8_kindOfRefusal_46 (by decide) ?_
      obtain ⟨rfl, rfl⟩ := zsome h
      exact g_iret (pc := 47) C rfl hx (by rw [hxn]; rfl) (by rw [hxn]; rfl) dX8_kindOfRefusal_47
    · have h := zif_f c2 h
      by_cases c3 : p0 = (-4)
      · refine g_tswIn (pc := 1) C 50 dX8_kindOfRefusal_1 (by rw [c3] <;> decide) (by rw [c3] <;> decide) (by rw [c3] <;> rfl) (by decide) ?_
        have h := zif_t c3 h
        refine g_iconst (v := (-1)) (pc := 50) C dX8_kindOfRefusal_50 (by decide) ?_
        obtain ⟨rfl, rfl⟩ := zsome h
        exact g_iret (pc := 51) C rfl hx (by rw [hxn]; rfl) (by rw [hxn]; rfl) dX8_kindOfRefusal_51
      · have h := zif_f c3 h
        by_cases c4 : p0 = (-3)
        · refine g_tswIn (pc := 1) C 44 dX8_kindOfRefusal_1 (by rw [c4] <;> decide) (by rw [c4] <;> decide) (by rw [c4] <;> rfl) (by decide) ?_
          have h := zif_t c4 h
          refine g_iconst (v := 2) (pc := 44) C dX8_kindOfRefusal_44 (by decide) ?_
          obtain ⟨rfl, rfl⟩ := zsome h
          exact g_iret (pc := 45) C rfl hx (by rw [hxn]; rfl) (by rw [hxn]; rfl) dX8_kindOfRefusal_45
        · have h := zif_f c4 h
          by_cases c5 : p0 = (-2)
          · refine g_tswIn (pc := 1) C 42 dX8_kindOfRefusal_1 (by rw [c5] <;> decide) (by rw [c5] <;> decide) (by rw [c5] <;> rfl) (by decide) ?_
            have h := zif_t c5 h
            refine g_iconst (v := 1) (pc := 42) C dX8_kindOfRefusal_42 (by decide) ?_
            obtain ⟨rfl, rfl⟩ := zsome h
            exact g_iret (pc := 43) C rfl hx (by rw [hxn]; rfl) (by rw [hxn]; rfl) dX8_kindOfRefusal_43
          · have h := zif_f c5 h
            by_cases c6 : p0 = (-1)
            · refine g_tswIn (pc := 1) C 40 dX8_kindOfRefusal_1 (by rw [c6] <;> decide) (by rw [c6] <;> decide) (by rw [c6] <;> rfl) (by decide) ?_
              have h := zif_t c6 h
              refine g_iconst (v := 0) (pc := 40) C dX8_kindOfRefusal_40 (by decide) ?_
              obtain ⟨rfl, rfl⟩ := zsome h
              exact g_iret (pc := 41) C rfl hx (by rw [hxn]; rfl) (by rw [hxn]; rfl) dX8_kindOfRefusal_41
            · have h := zif_f c6 h
              refine g_tswOut (pc := 1) C 50 dX8_kindOfRefusal_1 (by have ec1 := n32 (k := (-6)) (n := (-6)) (by decide) c1; have ec2 := n32 (k := (-5)) (n := (-5)) (by decide) c2; have ec3 := n32 (k := (-4)) (n := (-4)) (by decide) c3; have ec4 := n32 (k := (-3)) (n := (-3)) (by decide) c4; have ec5 := n32 (k := (-2)) (n := (-2)) (by decide) c5; have ec6 := n32 (k := (-1)) (n := (-1)) (by decide) c6; omega) (by decide) ?_
              refine g_iconst (v := (-1)) (pc := 50) C dX8_kindOfRefusal_50 (by decide) ?_
              obtain ⟨rfl, rfl⟩ := zsome h
              exact g_iret (pc := 51) C rfl hx (by rw [hxn]; rfl) (by rw [hxn]; rfl) dX8_kindOfRefusal_51
def rm_X8_refuse : Room := { frames := 1, cells := 0, slots := 0, locals := 20 }
noncomputable def s_X8_refuse (h0 : Nat) (p1 : Int32) (σ : Hp) : Option (Int32 × Hp) :=
  (wrI 8 σ h0 18 (p1)).bind fun σ1 =>
  cb (s_X8_kindOfRefusal (p1) σ1) fun v3 σ2 =>
  if v3 < 0 then
    some ((p1), σ2)
  else
    (rdR 8 σ2 h0 11).bind fun r4 =>
    (r4).bind fun a5 =>
    (lnA 11 σ2 a5).bind fun v6 =>
    if v6 ≤ v3 then
      some ((p1), σ2)
    else
      (rdR 8 σ2 h0 11).bind fun r7 =>
      (r7).bind fun a8 =>
      (ldI 11 σ2 a8 (v3)).bind fun v9 =>
      (stI σ2 a8 (v3) (v9 + 1)).bind fun σ10 =>
      some ((p1), σ10)
set_option maxRecDepth 100000 in
theorem c_X8_refuse {E : E0} (hE : EOK E) {h0 : Nat} {p1 : Int32} {σ σ1 : Hp} {r : Int32} (h : s_X8_refuse h0 p1 σ = some (r, σ1)) : CT E yX8_refuse (.code yX8_refuse cX8_refuse 3 (some .int)) rm_X8_refuse [tR (some (h0)), tI (p1)] σ (some (tI r)) σ1 := by
  refine CT.mk hE (by decide +kernel) (Nat.le_of_ble_eq_true rfl) [(0, tR (some (h0))), (1, tI (p1))] rfl (fun X C hin hx hxn => ?_)
  have C : XOK E X cX8_refuse RX8 3 (some .int) rm_X8_refuse := C
  unfold s_X8_refuse at h
  refine g_aload_n (pc := 0) C 0 0 dX8_refuse_0 rfl rfl ?_
  refine g_iload_n (pc := 1) C 1 1 dX8_refuse_1 rfl rfl ?_
  obtain ⟨σ1, hvσ1, h⟩ := zbind h
  refine g_putI (N := 19) (pc := 2) C ⟨ck_8, rfl, tyX8_ok⟩ hvσ1 rfl fl_X8_92 rfl rfl dX8_refuse_2 ?_
  refine g_iload_n (pc := 5) C 1 1 dX8_refuse_5 rfl rfl ?_
  obtain ⟨v3, σ2, hvσ2, h⟩ := zcb h
  refine g_callS (pc := 6) (av := [tI (p1)]) C (c_X8_kindOfRefusal hE hvσ2) ys_X8_kindOfRefusal ml_X8_399 rfl (rf_of (by decide)) rfl (Nat.le_of_ble_eq_true rfl) dX8_refuse_6 ?_
  refine g_istore_n (lm' := [(2, tI (v3)), (0, tR (some (h0))), (1, tI (p1))]) (pc := 9) C 2 dX8_refuse_9 rfl (by decide) rfl ?_
  refine g_iload_n (pc := 10) C 2 0 dX8_refuse_10 rfl rfl ?_
  refine g_if_lt (pc := 11) C 33 dX8_refuse_11 (by decide) (fun c12 => ?_) (fun c12 => ?_)
  · have h := zif_t c12 h
    refine g_iload_n (pc := 33) C 1 2 dX8_refuse_33 rfl rfl ?_
    obtain ⟨rfl, rfl⟩ := zsome h
    exact g_iret (pc := 34) C rfl hx (by rw [hxn]; rfl) (by rw [hxn]; rfl) dX8_refuse_34
  · have h := zif_f c12 h
    refine g_iload_n (pc := 14) C 2 0 dX8_refuse_14 rfl rfl ?_
    refine g_aload_n (pc := 15) C 0 1 dX8_refuse_15 rfl rfl ?_
    obtain ⟨r4, hvr4, h⟩ := zbind h
    refine g_getR (N := 19) (pc := 16) C ck_8 hvr4 rfl rfl fl_X8_68 dX8_refuse_16 ?_
    obtain ⟨a5, hqa5, h9⟩ := zbind h
    clear h
    subst hqa5
    have h := h9
    clear h9
    obtain ⟨v6, hvv6, h⟩ := zbind h
    refine g_alen (c := 11) (pc := 19) C (by decide) hvv6 dX8_refuse_19 ?_
    refine g_icmp_ge (pc := 20) C 33 dX8_refuse_20 (by decide) (fun c11 => ?_) (fun c11 => ?_)
    · have h := zif_t c11 h
      refine g_iload_n (pc := 33) C 1 2 dX8_refuse_33 rfl rfl ?_
      obtain ⟨rfl, rfl⟩ := zsome h
      exact g_iret (pc := 34) C rfl hx (by rw [hxn]; rfl) (by rw [hxn]; rfl) dX8_refuse_34
    · have h := zif_f c11 h
      refine g_aload_n (pc := 23) C 0 1 dX8_refuse_23 rfl rfl ?_
      obtain ⟨r7, hvr7, h⟩ := zbind h
      refine g_getR (N := 19) (pc := 24) C ck_8 hvr7 rfl rfl fl_X8_68 dX8_refuse_24 ?_
      refine g_iload_n (pc := 27) C 2 0 dX8_refuse_27 rfl rfl ?_
      refine g_dup2 (pc := 28) C dX8_refuse_28 rfl rfl ?_
      obtain ⟨a8, hqa8, h9⟩ := zbind h
      clear h
      subst hqa8
      have h := h9
      clear h9
      obtain ⟨v9, hvv9, h⟩ := zbind h
      refine g_iald (pc := 29) C hvv9 dX8_refuse_29 ?_
      refine g_iconst (v := 1) (pc := 30) C dX8_refuse_30 (by decide) ?_
      refine g_iadd (pc := 31) C dX8_refuse_31 ?_
      obtain ⟨σ10, hvσ10, h⟩ := zbind h
      refine g_iast (pc := 32) C hvσ10 dX8_refuse_32 ?_
      refine g_iload_n (pc := 33) C 1 2 dX8_refuse_33 rfl rfl ?_
      obtain ⟨rfl, rfl⟩ := zsome h
      exact g_iret (pc := 34) C rfl hx (by rw [hxn]; rfl) (by rw [hxn]; rfl) dX8_refuse_34
def rm_X8_grant : Room := { frames := 0, cells := 0, slots := 0, locals := 0 }
noncomputable def s_X8_grant (h0 : Nat) (p1 : Int32) (σ : Hp) : Option (Int32 × Hp) :=
  (wrI 8 σ h0 18 (0)).bind fun σ1 =>
  some ((p1), σ1)
set_option maxRecDepth 100000 in
theorem c_X8_grant {E : E0} (hE : EOK E) {h0 : Nat} {p1 : Int32} {σ σ1 : Hp} {r : Int32} (h : s_X8_grant h0 p1 σ = some (r, σ1)) : CT E yX8_grant (.code yX8_grant cX8_grant 2 (some .int)) rm_X8_grant [tR (some (h0)), tI (p1)] σ (some (tI r)) σ1 := by
  refine CT.mk hE (by decide +kernel) (Nat.le_of_ble_eq_true rfl) [(0, tR (some (h0))), (1, tI (p1))] rfl (fun X C hin hx hxn => ?_)
  have C : XOK E X cX8_grant RX8 2 (some .int) rm_X8_grant := C
  unfold s_X8_grant at h
  refine g_aload_n (pc := 0) C 0 0 dX8_grant_0 rfl rfl ?_
  refine g_iconst (v := 0) (pc := 1) C dX8_grant_1 (by decide) ?_
  obtain ⟨σ1, hvσ1, h⟩ := zbind h
  refine g_putI (N := 19) (pc := 2) C ⟨ck_8, rfl, tyX8_ok⟩ hvσ1 rfl fl_X8_92 rfl rfl dX8_grant_2 ?_
  refine g_iload_n (pc := 5) C 1 1 dX8_grant_5 rfl rfl ?_
  obtain ⟨rfl, rfl⟩ := zsome h
  exact g_iret (pc := 6) C rfl hx (by rw [hxn]; rfl) (by rw [hxn]; rfl) dX8_grant_6
def rm_X8_perch : Room := { frames := 2, cells := 0, slots := 0, locals := 42 }
noncomputable def s_X8_perch_j18 (h0 : Nat) (σ : Hp) : Option (Int32 × Hp) :=
  (ck 8 σ h0).bind fun u1 =>
  cb (s_X8_refuse h0 ((-1)) σ) fun v3 σ2 =>
  some ((v3), σ2)
set_option maxRecDepth 100000 in
theorem w_X8_perch_j18 {E : E0} (hE : EOK E) {X : X0} (C : XOK E X cX8_perch RX8 3 (some .int) rm_X8_perch) (hxn : xn X = (rm_X8_perch.cells, rm_X8_perch.slots)) (h0 : Nat) (σ : Hp) (r : Int32) (σ1 : Hp) (h : s_X8_perch_j18 h0 σ = some (r, σ1)) (hx : xd X = (some (tI r), σ1)) : G E X 0 0 18 [(0, tR (some (h0)))] [] σ := by
  unfold s_X8_perch_j18 at h
  refine g_aload_n (pc := 18) C 0 0 dX8_perch_18 rfl rfl ?_
  refine g_iconst (v := (-1)) (pc := 19) C dX8_perch_19 (by decide) ?_
  obtain ⟨u1, hvu1, h⟩ := zbind h
  obtain ⟨v3, σ2, hvσ2, h⟩ := zcb h
  refine g_callV (pc := 20) (av := [tI ((-1))]) C (c_X8_refuse hE hvσ2) yv_X8_refuse ml_X8_99 ck_8 (zopt hvu1).1 rfl (rf_of (by decide)) rfl (Nat.le_of_ble_eq_true rfl) dX8_perch_20 ?_
  obtain ⟨rfl, rfl⟩ := zsome h
  exact g_iret (pc := 23) C rfl hx (by rw [hxn]; rfl) (by rw [hxn]; rfl) dX8_perch_23
noncomputable def s_X8_perch (h0 : Nat) (p1 : Int32) (p2 : Int32) (σ : Hp) : Option (Int32 × Hp) :=
  cb (s_X8_isRoom (Int32.toInt64 (p1 : Int32)) σ) fun v2 σ1 =>
  if v2 = 0 then
    s_X8_perch_j18 (h0) σ1
  else
    if p2 < 0 then
      s_X8_perch_j18 (h0) σ1
    else
      if p2 ≤ 9 then
        (rdR 8 σ1 h0 0).bind fun r3 =>
        (r3).bind fun a4 =>
        (rdR 1 σ1 a4 0).bind fun r5 =>
        (r5).bind fun a6 =>
        (rdI 3 σ1 a6 3).bind fun v7 =>
        if v7 < 10 then
          (rdR 8 σ1 h0 8).bind fun r8 =>
          (r8).bind fun a9 =>
          (ck 0 σ1 a9).bind fun u10 =>
          cb (s_X0_clear a9 σ1) fun v12 σ11 =>
          (rdR 8 σ11 h0 0).bind fun r13 =>
          (r13).bind fun a14 =>
          (rdR 1 σ11 a14 0).bind fun r15 =>
          (r15).bind fun a16 =>
          (ck 3 σ11 a16).bind fun u17 =>
          cb (s_X3_add a16 (p1) (p2) σ11) fun v19 σ18 =>
          (ck 8 σ18 h0).bind fun u20 =>
          cb (s_X8_grant h0 (v19) σ18) fun v22 σ21 =>
          some ((v22), σ21)
        else
          (ck 8 σ1 h0).bind fun u23 =>
          cb (s_X8_refuse h0 ((-5)) σ1) fun v25 σ24 =>
          some ((v25), σ24)
      else
        s_X8_perch_j18 (h0) σ1
set_option maxRecDepth 100000 in
theorem c_X8_perch {E : E0} (hE : EOK E) {h0 : Nat} {p1 : Int32} {p2 : Int32} {σ σ1 : Hp} {r : Int32} (h : s_X8_perch h0 p1 p2 σ = some (r, σ1)) : CT E yX8_perch (.code yX8_perch cX8_perch 3 (some .int)) rm_X8_perch [tR (some (h0)), tI (p1), tI (p2)] σ (some (tI r)) σ1 := by
  refine CT.mk hE (by decide +kernel) (Nat.le_of_ble_eq_true rfl) [(0, tR (some (h0))), (1, tI (p1)), (2, tI (p2))] rfl (fun X C hin hx hxn => ?_)
  have C : XOK E X cX8_perch RX8 3 (some .int) rm_X8_perch := C
  unfold s_X8_perch at h
  refine g_iload_n (pc := 0) C 1 1 dX8_perch_0 rfl rfl ?_
  refine g_i2l (pc := 1) C dX8_perch_1 ?_
  obtain ⟨v2, σ1, hvσ1, h⟩ := zcb h
  refine g_callS (pc := 2) (av := [tJ (Int32.toInt64 (p1 : Int32))]) C (c_X8_isRoom hE hvσ1) ys_X8_isRoom ml_X8_95 rfl (rf_of (by decide)) rfl (Nat.le_of_ble_eq_true rfl) dX8_perch_2 ?_
  refine g_if_eq (pc := 5) C 18 dX8_perch_5 (by decide) (fun c29 => ?_) (fun c29 => ?_)
  · have h := zif_t c29 h
    refine g_sub [0] (lm' := [(0, tR (some (h0)))]) rfl ?_
    exact w_X8_perch_j18 hE C hxn _ _ _ _ h hx
  · have h := zif_f c29 h
    refine g_iload_n (pc := 8) C 2 2 dX8_perch_8 rfl rfl ?_
    refine g_if_lt (pc := 9) C 18 dX8_perch_9 (by decide) (fun c28 => ?_) (fun c28 => ?_)
    · have h := zif_t c28 h
      refine g_sub [0] (lm' := [(0, tR (some (h0)))]) rfl ?_
      exact w_X8_perch_j18 hE C hxn _ _ _ _ h hx
    · have h := zif_f c28 h
      refine g_iload_n (pc := 12) C 2 2 dX8_perch_12 rfl rfl ?_
      refine g_bipush (v := 9) (pc := 13) C dX8_perch_13 (by decide) ?_
      refine g_icmp_le (pc := 15) C 24 dX8_perch_15 (by decide) (fun c27 => ?_) (fun c27 => ?_)
      · have h := zif_t c27 h
        refine g_aload_n (pc := 24) C 0 0 dX8_perch_24 rfl rfl ?_
        obtain ⟨r3, hvr3, h⟩ := zbind h
        refine g_getR (N := 19) (pc := 25) C ck_8 hvr3 rfl rfl fl_X8_12 dX8_perch_25 ?_
        obtain ⟨a4, hqa4, h9⟩ := zbind h
        clear h
        subst hqa4
        have h := h9
        clear h9
        obtain ⟨r5, hvr5, h⟩ := zbind h
        refine g_getR (N := 20) (pc := 28) C ck_1 hvr5 rfl rfl fl_X8_103 dX8_perch_28 ?_
        obtain ⟨a6, hqa6, h9⟩ := zbind h
        clear h
        subst hqa6
        have h := h9
        clear h9
        obtain ⟨v7, hvv7, h⟩ := zbind h
        refine g_getI (N := 4) (pc := 31) C ck_3 hvv7 rfl rfl fl_X8_107 dX8_perch_31 ?_
        refine g_bipush (v := 10) (pc := 34) C dX8_perch_34 (by decide) ?_
        refine g_icmp_lt (pc := 36) C 46 dX8_perch_36 (by decide) (fun c26 => ?_) (fun c26 => ?_)
        · have h := zif_t c26 h
          refine g_aload_n (pc := 46) C 0 0 dX8_perch_46 rfl rfl ?_
          obtain ⟨r8, hvr8, h⟩ := zbind h
          refine g_getR (N := 19) (pc := 47) C ck_8 hvr8 rfl rfl fl_X8_54 dX8_perch_47 ?_
          obtain ⟨a9, hqa9, h9⟩ := zbind h
          clear h
          subst hqa9
          have h := h9
          clear h9
          obtain ⟨u10, hvu10, h⟩ := zbind h
          obtain ⟨v12, σ11, hvσ11, h⟩ := zcb h
          refine g_callV (pc := 50) (av := []) C (c_X0_clear hE hvσ11) yv_X0_clear ml_X8_112 ck_0 (zopt hvu10).1 rfl (rf_of (by decide)) rfl (Nat.le_of_ble_eq_true rfl) dX8_perch_50 ?_
          refine g_aload_n (pc := 53) C 0 0 dX8_perch_53 rfl rfl ?_
          refine g_aload_n (pc := 54) C 0 0 dX8_perch_54 rfl rfl ?_
          obtain ⟨r13, hvr13, h⟩ := zbind h
          refine g_getR (N := 19) (pc := 55) C ck_8 hvr13 rfl rfl fl_X8_12 dX8_perch_55 ?_
          obtain ⟨a14, hqa14, h9⟩ := zbind h
          clear h
          subst hqa14
          have h := h9
          clear h9
          obtain ⟨r15, hvr15, h⟩ := zbind h
          refine g_getR (N := 20) (pc := 58) C ck_1 hvr15 rfl rfl fl_X8_103 dX8_perch_58 ?_
          refine g_iload_n (pc := 61) C 1 1 dX8_perch_61 rfl rfl ?_
          refine g_iload_n (pc := 62) C 2 2 dX8_perch_62 rfl rfl ?_
          obtain ⟨a16, hqa16, h9⟩ := zbind h
          clear h
          subst hqa16
          have h := h9
          clear h9
          obtain ⟨u17, hvu17, h⟩ := zbind h
          obtain ⟨v19, σ18, hvσ18, h⟩ := zcb h
          refine g_callV (pc := 63) (av := [tI (p1), tI (p2)]) C (c_X3_add hE hvσ18) yv_X3_add ml_X8_115 ck_3 (zopt hvu17).1 rfl (rf_of (by decide)) rfl (Nat.le_of_ble_eq_true rfl) dX8_perch_63 ?_
          obtain ⟨u20, hvu20, h⟩ := zbind h
          obtain ⟨v22, σ21, hvσ21, h⟩ := zcb h
          refine g_callV (pc := 66) (av := [tI (v19)]) C (c_X8_grant hE hvσ21) yv_X8_grant ml_X8_119 ck_8 (zopt hvu20).1 rfl (rf_of (by decide)) rfl (Nat.le_of_ble_eq_true rfl) dX8_perch_66 ?_
          obtain ⟨rfl, rfl⟩ := zsome h
          exact g_iret (pc := 69) C rfl hx (by rw [hxn]; rfl) (by rw [hxn]; rfl) dX8_perch_69
        · have h := zif_f c26 h
          refine g_aload_n (pc := 39) C 0 0 dX8_perch_39 rfl rfl ?_
          refine g_bipush (v := (-5)) (pc := 40) C dX8_perch_40 (by decide) ?_
          obtain ⟨u23, hvu23, h⟩ := zbind h
          obtain ⟨v25, σ24, hvσ24, h⟩ := zcb h
          refine g_callV (pc := 42) (av := [tI ((-5))]) C (c_X8_refuse hE hvσ24) yv_X8_refuse ml_X8_99 ck_8 (zopt hvu23).1 rfl (rf_of (by decide)) rfl (Nat.le_of_ble_eq_true rfl) dX8_perch_42 ?_
          obtain ⟨rfl, rfl⟩ := zsome h
          exact g_iret (pc := 45) C rfl hx (by rw [hxn]; rfl) (by rw [hxn]; rfl) dX8_perch_45
      · have h := zif_f c27 h
        refine g_sub [0] (lm' := [(0, tR (some (h0)))]) rfl ?_
        exact w_X8_perch_j18 hE C hxn _ _ _ _ h hx
def rm_X8_at : Room := { frames := 5, cells := 0, slots := 0, locals := 128 }
noncomputable def s_X8_at (h0 : Nat) (p1 : Int32) (p2 : Int32) (σ : Hp) : Option (Int32 × Hp) :=
  (rdR 8 σ h0 0).bind fun r1 =>
  (r1).bind fun a2 =>
  (rdR 1 σ a2 0).bind fun r3 =>
  (r3).bind fun a4 =>
  (ck 3 σ a4).bind fun u5 =>
  cb (s_X3_isOne a4 (p1) σ) fun v7 σ6 =>
  if v7 = 0 then
    some (((-1)), σ6)
  else
    if p2 = 0 then
      (rdR 8 σ6 h0 0).bind fun r8 =>
      (r8).bind fun a9 =>
      (rdR 1 σ6 a9 0).bind fun r10 =>
      (r10).bind fun a11 =>
      (ck 3 σ6 a11).bind fun u12 =>
      cb (s_X3_roomOf a11 (p1) σ6) fun v14 σ13 =>
      some ((v14), σ13)
    else
      if p2 = 1 then
        (rdR 8 σ6 h0 0).bind fun r16 =>
        (r16).bind fun a17 =>
        (rdR 1 σ6 a17 0).bind fun r18 =>
        (r18).bind fun a19 =>
        (ck 3 σ6 a19).bind fun u20 =>
        cb (s_X3_highOf a19 (p1) σ6) fun v22 σ21 =>
        some ((v22), σ21)
      else
        if p2 = 2 then
          (rdR 8 σ6 h0 0).bind fun r24 =>
          (rdR 8 σ6 h0 0).bind fun r25 =>
          (r25).bind fun a26 =>
          (rdR 1 σ6 a26 10).bind fun r27 =>
          (r27).bind fun a28 =>
          (ldI 11 σ6 a28 (0)).bind fun v29 =>
          (r24).bind fun a30 =>
          (ck 1 σ6 a30).bind fun u31 =>
          cb (s_X1_isSafe a30 (p1) (v29) σ6) fun v33 σ32 =>
          if v33 = 0 then
            some ((0), σ32)
          else
            some ((1), σ32)
        else
          if p2 < 3 then
            some (((-1)), σ6)
          else
            (rdR 8 σ6 h0 0).bind fun r36 =>
            (r36).bind fun a37 =>
            (rdR 1 σ6 a37 0).bind fun r38 =>
            (r38).bind fun a39 =>
            (ck 3 σ6 a39).bind fun u40 =>
            cb (s_X3_isOne a39 (p2 - 3) σ6) fun v42 σ41 =>
            if v42 = 0 then
              some (((-1)), σ41)
            else
              (rdR 8 σ41 h0 0).bind fun r43 =>
              (r43).bind fun a44 =>
              (rdR 1 σ41 a44 0).bind fun r45 =>
              (r45).bind fun a46 =>
              (ck 3 σ41 a46).bind fun u47 =>
              cb (s_X3_between a46 (p1) (p2 - 3) σ41) fun v49 σ48 =>
              some ((v49), σ48)
set_option maxRecDepth 100000 in
theorem c_X8_at {E : E0} (hE : EOK E) {h0 : Nat} {p1 : Int32} {p2 : Int32} {σ σ1 : Hp} {r : Int32} (h : s_X8_at h0 p1 p2 σ = some (r, σ1)) : CT E yX8_at (.code yX8_at cX8_at 3 (some .int)) rm_X8_at [tR (some (h0)), tI (p1), tI (p2)] σ (some (tI r)) σ1 := by
  refine CT.mk hE (by decide +kernel) (Nat.le_of_ble_eq_true rfl) [(0, tR (some (h0))), (1, tI (p1)), (2, tI (p2))] rfl (fun X C hin hx hxn => ?_)
  have C : XOK E X cX8_at RX8 3 (some .int) rm_X8_at := C
  unfold s_X8_at at h
  refine g_aload_n (pc := 0) C 0 0 dX8_at_0 rfl rfl ?_
  obtain ⟨r1, hvr1, h⟩ := zbind h
  refine g_getR (N := 19) (pc := 1) C ck_8 hvr1 rfl rfl fl_X8_12 dX8_at_1 ?_
  obtain ⟨a2, hqa2, h9⟩ := zbind h
  clear h
  subst hqa2
  have h := h9
  clear h9
  obtain ⟨r3, hvr3, h⟩ := zbind h
  refine g_getR (N := 20) (pc := 4) C ck_1 hvr3 rfl rfl fl_X8_103 dX8_at_4 ?_
  refine g_iload_n (pc := 7) C 1 1 dX8_at_7 rfl rfl ?_
  obtain ⟨a4, hqa4, h9⟩ := zbind h
  clear h
  subst hqa4
  have h := h9
  clear h9
  obtain ⟨u5, hvu5, h⟩ := zbind h
  obtain ⟨v7, σ6, hvσ6, h⟩ := zcb h
  refine g_callV (pc := 8) (av := [tI (p1)]) C (c_X3_isOne hE hvσ6) yv_X3_isOne ml_X8_122 ck_3 (zopt hvu5).1 rfl (rf_of (by decide)) rfl (Nat.le_of_ble_eq_true rfl) dX8_at_8 ?_
  refine g_if_ne (pc := 11) C 16 dX8_at_11 (by decide) (fun c52 => ?_) (fun c52 => ?_)
  · have h := zif_f c52 h
    refine g_iload_n (pc := 16) C 2 2 dX8_at_16 rfl rfl ?_
    by_cases c15 : p2 = 0
    · refine g_tswIn (pc := 17) C 44 dX8_at_17 (by rw [c15] <;> decide) (by rw [c15] <;> decide) (by rw [c15] <;> rfl) (by decide) ?_
      have h := zif_t c15 h
      refine g_aload_n (pc := 44) C 0 0 dX8_at_44 rfl rfl ?_
      obtain ⟨r8, hvr8, h⟩ := zbind h
      refine g_getR (N := 19) (pc := 45) C ck_8 hvr8 rfl rfl fl_X8_12 dX8_at_45 ?_
      obtain ⟨a9, hqa9, h9⟩ := zbind h
      clear h
      subst hqa9
      have h := h9
      clear h9
      obtain ⟨r10, hvr10, h⟩ := zbind h
      refine g_getR (N := 20) (pc := 48) C ck_1 hvr10 rfl rfl fl_X8_103 dX8_at_48 ?_
      refine g_iload_n (pc := 51) C 1 1 dX8_at_51 rfl rfl ?_
      obtain ⟨a11, hqa11, h9⟩ := zbind h
      clear h
      subst hqa11
      have h := h9
      clear h9
      obtain ⟨u12, hvu12, h⟩ := zbind h
      obtain ⟨v14, σ13, hvσ13, h⟩ := zcb h
      refine g_callV (pc := 52) (av := [tI (p1)]) C (c_X3_roomOf hE hvσ13) yv_X3_roomOf ml_X8_126 ck_3 (zopt hvu12).1 rfl (rf_of (by decide)) rfl (Nat.le_of_ble_eq_true rfl) dX8_at_52 ?_
      obtain ⟨rfl, rfl⟩ := zsome h
      exact g_iret (pc := 55) C rfl hx (by rw [hxn]; rfl) (by rw [hxn]; rfl) dX8_at_55
    · have h := zif_f c15 h
      by_cases c23 : p2 = 1
      · refine g_tswIn (pc := 17) C 56 dX8_at_17 (by rw [c23] <;> decide) (by rw [c23] <;> decide) (by rw [c23] <;> rfl) (by decide) ?_
        have h := zif_t c23 h
        refine g_aload_n (pc := 56) C 0 0 dX8_at_56 rfl rfl ?_
        obtain ⟨r16, hvr16, h⟩ := zbind h
        refine g_getR (N := 19) (pc := 57) C ck_8 hvr16 rfl rfl fl_X8_12 dX8_at_57 ?_
        obtain ⟨a17, hqa17, h9⟩ := zbind h
        clear h
        subst hqa17
        have h := h9
        clear h9
        obtain ⟨r18, hvr18, h⟩ := zbind h
        refine g_getR (N := 20) (pc := 60) C ck_1 hvr18 rfl rfl fl_X8_103 dX8_at_60 ?_
        refine g_iload_n (pc := 63) C 1 1 dX8_at_63 rfl rfl ?_
        obtain ⟨a19, hqa19, h9⟩ := zbind h
        clear h
        subst hqa19
        have h := h9
        clear h9
        obtain ⟨u20, hvu20, h⟩ := zbind h
        obtain ⟨v22, σ21, hvσ21, h⟩ := zcb h
        refine g_callV (pc := 64) (av := [tI (p1)]) C (c_X3_highOf hE hvσ21) yv_X3_highOf ml_X8_129 ck_3 (zopt hvu20).1 rfl (rf_of (by decide)) rfl (Nat.le_of_ble_eq_true rfl) dX8_at_64 ?_
        obtain ⟨rfl, rfl⟩ := zsome h
        exact g_iret (pc := 67) C rfl hx (by rw [hxn]; rfl) (by rw [hxn]; rfl) dX8_at_67
      · have h := zif_f c23 h
        by_cases c35 : p2 = 2
        · refine g_tswIn (pc := 17) C 68 dX8_at_17 (by rw [c35] <;> decide) (by rw [c35] <;> decide) (by rw [c35] <;> rfl) (by decide) ?_
          have h := zif_t c35 h
          refine g_aload_n (pc := 68) C 0 0 dX8_at_68 rfl rfl ?_
          obtain ⟨r24, hvr24, h⟩ := zbind h
          refine g_getR (N := 19) (pc := 69) C ck_8 hvr24 rfl rfl fl_X8_12 dX8_at_69 ?_
          refine g_iload_n (pc := 72) C 1 1 dX8_at_72 rfl rfl ?_
          refine g_aload_n (pc := 73) C 0 0 dX8_at_73 rfl rfl ?_
          obtain ⟨r25, hvr25, h⟩ := zbind h
          refine g_getR (N := 19) (pc := 74) C ck_8 hvr25 rfl rfl fl_X8_12 dX8_at_74 ?_
          obtain ⟨a26, hqa26, h9⟩ := zbind h
          clear h
          subst hqa26
          have h := h9
          clear h9
          obtain ⟨r27, hvr27, h⟩ := zbind h
          refine g_getR (N := 20) (pc := 77) C ck_1 hvr27 rfl rfl fl_X8_132 dX8_at_77 ?_
          refine g_iconst (v := 0) (pc := 80) C dX8_at_80 (by decide) ?_
          obtain ⟨a28, hqa28, h9⟩ := zbind h
          clear h
          subst hqa28
          have h := h9
          clear h9
          obtain ⟨v29, hvv29, h⟩ := zbind h
          refine g_iald (pc := 81) C hvv29 dX8_at_81 ?_
          obtain ⟨a30, hqa30, h9⟩ := zbind h
          clear h
          subst hqa30
          have h := h9
          clear h9
          obtain ⟨u31, hvu31, h⟩ := zbind h
          obtain ⟨v33, σ32, hvσ32, h⟩ := zcb h
          refine g_callV (pc := 82) (av := [tI (p1), tI (v29)]) C (c_X1_isSafe hE hvσ32) yv_X1_isSafe ml_X8_135 ck_1 (zopt hvu31).1 rfl (rf_of (by decide)) rfl (Nat.le_of_ble_eq_true rfl) dX8_at_82 ?_
          refine g_if_eq (pc := 85) C 92 dX8_at_85 (by decide) (fun c34 => ?_) (fun c34 => ?_)
          · have h := zif_t c34 h
            refine g_iconst (v := 0) (pc := 92) C dX8_at_92 (by decide) ?_
            obtain ⟨rfl, rfl⟩ := zsome h
            exact g_iret (pc := 93) C rfl hx (by rw [hxn]; rfl) (by rw [hxn]; rfl) dX8_at_93
          · have h := zif_f c34 h
            refine g_iconst (v := 1) (pc := 88) C dX8_at_88 (by decide) ?_
            refine g_goto (pc := 89) C 93 dX8_at_89 (by decide) ?_
            obtain ⟨rfl, rfl⟩ := zsome h
            exact g_iret (pc := 93) C rfl hx (by rw [hxn]; rfl) (by rw [hxn]; rfl) dX8_at_93
        · have h := zif_f c35 h
          refine g_tswOut (pc := 17) C 94 dX8_at_17 (by have ec15 := n32 (k := 0) (n := 0) (by decide) c15; have ec23 := n32 (k := 1) (n := 1) (by decide) c23; have ec35 := n32 (k := 2) (n := 2) (by decide) c35; omega) (by decide) ?_
          refine g_iload_n (pc := 94) C 2 2 dX8_at_94 rfl rfl ?_
          refine g_iconst (v := 3) (pc := 95) C dX8_at_95 (by decide) ?_
          refine g_icmp_lt (pc := 96) C 132 dX8_at_96 (by decide) (fun c51 => ?_) (fun c51 => ?_)
          · have h := zif_t c51 h
            refine g_iconst (v := (-1)) (pc := 132) C dX8_at_132 (by decide) ?_
            obtain ⟨rfl, rfl⟩ := zsome h
            exact g_iret (pc := 133) C rfl hx (by rw [hxn]; rfl) (by rw [hxn]; rfl) dX8_at_133
          · have h := zif_f c51 h
            refine g_aload_n (pc := 99) C 0 0 dX8_at_99 rfl rfl ?_
            obtain ⟨r36, hvr36, h⟩ := zbind h
            refine g_getR (N := 19) (pc := 100) C ck_8 hvr36 rfl rfl fl_X8_12 dX8_at_100 ?_
            obtain ⟨a37, hqa37, h9⟩ := zbind h
            clear h
            subst hqa37
            have h := h9
            clear h9
            obtain ⟨r38, hvr38, h⟩ := zbind h
            refine g_getR (N := 20) (pc := 103) C ck_1 hvr38 rfl rfl fl_X8_103 dX8_at_103 ?_
            refine g_iload_n (pc := 106) C 2 2 dX8_at_106 rfl rfl ?_
            refine g_iconst (v := 3) (pc := 107) C dX8_at_107 (by decide) ?_
            refine g_isub (pc := 108) C dX8_at_108 ?_
            obtain ⟨a39, hqa39, h9⟩ := zbind h
            clear h
            subst hqa39
            have h := h9
            clear h9
            obtain ⟨u40, hvu40, h⟩ := zbind h
            obtain ⟨v42, σ41, hvσ41, h⟩ := zcb h
            refine g_callV (pc := 109) (av := [tI (p2 - 3)]) C (c_X3_isOne hE hvσ41) yv_X3_isOne ml_X8_122 ck_3 (zopt hvu40).1 rfl (rf_of (by decide)) rfl (Nat.le_of_ble_eq_true rfl) dX8_at_109 ?_
            refine g_if_eq (pc := 112) C 132 dX8_at_112 (by decide) (fun c50 => ?_) (fun c50 => ?_)
            · have h := zif_t c50 h
              refine g_iconst (v := (-1)) (pc := 132) C dX8_at_132 (by decide) ?_
              obtain ⟨rfl, rfl⟩ := zsome h
              exact g_iret (pc := 133) C rfl hx (by rw [hxn]; rfl) (by rw [hxn]; rfl) dX8_at_133
            · have h := zif_f c50 h
              refine g_aload_n (pc := 115) C 0 0 dX8_at_115 rfl rfl ?_
              obtain ⟨r43, hvr43, h⟩ := zbind h
              refine g_getR (N := 19) (pc := 116) C ck_8 hvr43 rfl rfl fl_X8_12 dX8_at_116 ?_
              obtain ⟨a44, hqa44, h9⟩ := zbind h
              clear h
              subst hqa44
              have h := h9
              clear h9
              obtain ⟨r45, hvr45, h⟩ := zbind h
              refine g_getR (N := 20) (pc := 119) C ck_1 hvr45 rfl rfl fl_X8_103 dX8_at_119 ?_
              refine g_iload_n (pc := 122) C 1 1 dX8_at_122 rfl rfl ?_
              refine g_iload_n (pc := 123) C 2 2 dX8_at_123 rfl rfl ?_
              refine g_iconst (v := 3) (pc := 124) C dX8_at_124 (by decide) ?_
              refine g_isub (pc := 125) C dX8_at_125 ?_
              obtain ⟨a46, hqa46, h9⟩ := zbind h
              clear h
              subst hqa46
              have h := h9
              clear h9
              obtain ⟨u47, hvu47, h⟩ := zbind h
              obtain ⟨v49, σ48, hvσ48, h⟩ := zcb h
              refine g_callV (pc := 126) (av := [tI (p1), tI (p2 - 3)]) C (c_X3_between hE hvσ48) yv_X3_between ml_X8_139 ck_3 (zopt hvu47).1 rfl (rf_of (by decide)) rfl (Nat.le_of_ble_eq_true rfl) dX8_at_126 ?_
              refine g_goto (pc := 129) C 133 dX8_at_129 (by decide) ?_
              obtain ⟨rfl, rfl⟩ := zsome h
              exact g_iret (pc := 133) C rfl hx (by rw [hxn]; rfl) (by rw [hxn]; rfl) dX8_at_133
  · have h := zif_t c52 h
    refine g_iconst (v := (-1)) (pc := 14) C dX8_at_14 (by decide) ?_
    obtain ⟨rfl, rfl⟩ := zsome h
    exact g_iret (pc := 15) C rfl hx (by rw [hxn]; rfl) (by rw [hxn]; rfl) dX8_at_15
def rm_X8_folk : Room := { frames := 2, cells := 0, slots := 0, locals := 42 }
noncomputable def s_X8_folk_j11 (h0 : Nat) (σ : Hp) : Option (Int32 × Hp) :=
  (ck 8 σ h0).bind fun u1 =>
  cb (s_X8_refuse h0 ((-1)) σ) fun v3 σ2 =>
  some ((v3), σ2)
set_option maxRecDepth 100000 in
theorem w_X8_folk_j11 {E : E0} (hE : EOK E) {X : X0} (C : XOK E X cX8_folk RX8 4 (some .int) rm_X8_folk) (hxn : xn X = (rm_X8_folk.cells, rm_X8_folk.slots)) (h0 : Nat) (σ : Hp) (r : Int32) (σ1 : Hp) (h : s_X8_folk_j11 h0 σ = some (r, σ1)) (hx : xd X = (some (tI r), σ1)) : G E X 0 0 11 [(0, tR (some (h0)))] [] σ := by
  unfold s_X8_folk_j11 at h
  refine g_aload_n (pc := 11) C 0 0 dX8_folk_11 rfl rfl ?_
  refine g_iconst (v := (-1)) (pc := 12) C dX8_folk_12 (by decide) ?_
  obtain ⟨u1, hvu1, h⟩ := zbind h
  obtain ⟨v3, σ2, hvσ2, h⟩ := zcb h
  refine g_callV (pc := 13) (av := [tI ((-1))]) C (c_X8_refuse hE hvσ2) yv_X8_refuse ml_X8_99 ck_8 (zopt hvu1).1 rfl (rf_of (by decide)) rfl (Nat.le_of_ble_eq_true rfl) dX8_folk_13 ?_
  obtain ⟨rfl, rfl⟩ := zsome h
  exact g_iret (pc := 16) C rfl hx (by rw [hxn]; rfl) (by rw [hxn]; rfl) dX8_folk_16
noncomputable def s_X8_folk_j55 (h0 : Nat) (σ : Hp) : Option (Int32 × Hp) :=
  (ck 8 σ h0).bind fun u1 =>
  cb (s_X8_refuse h0 ((-5)) σ) fun v3 σ2 =>
  some ((v3), σ2)
set_option maxRecDepth 100000 in
theorem w_X8_folk_j55 {E : E0} (hE : EOK E) {X : X0} (C : XOK E X cX8_folk RX8 4 (some .int) rm_X8_folk) (hxn : xn X = (rm_X8_folk.cells, rm_X8_folk.slots)) (h0 : Nat) (σ : Hp) (r : Int32) (σ1 : Hp) (h : s_X8_folk_j55 h0 σ = some (r, σ1)) (hx : xd X = (some (tI r), σ1)) : G E X 0 0 55 [(0, tR (some (h0)))] [] σ := by
  unfold s_X8_folk_j55 at h
  refine g_aload_n (pc := 55) C 0 0 dX8_folk_55 rfl rfl ?_
  refine g_bipush (v := (-5)) (pc := 56) C dX8_folk_56 (by decide) ?_
  obtain ⟨u1, hvu1, h⟩ := zbind h
  obtain ⟨v3, σ2, hvσ2, h⟩ := zcb h
  refine g_callV (pc := 58) (av := [tI ((-5))]) C (c_X8_refuse hE hvσ2) yv_X8_refuse ml_X8_99 ck_8 (zopt hvu1).1 rfl (rf_of (by decide)) rfl (Nat.le_of_ble_eq_true rfl) dX8_folk_58 ?_
  obtain ⟨rfl, rfl⟩ := zsome h
  exact g_iret (pc := 61) C rfl hx (by rw [hxn]; rfl) (by rw [hxn]; rfl) dX8_folk_61
noncomputable def s_X8_folk (h0 : Nat) (p1 : Int32) (p2 : Int32) (σ : Hp) : Option (Int32 × Hp) :=
  if p1 < 1 then
    s_X8_folk_j11 (h0) σ
  else
    if p1 ≤ 9 then
      (rdR 8 σ h0 0).bind fun r1 =>
      (r1).bind fun a2 =>
      (rdR 1 σ a2 0).bind fun r3 =>
      (r3).bind fun a4 =>
      (ck 3 σ a4).bind fun u5 =>
      cb (s_X3_isOne a4 (p2) σ) fun v7 σ6 =>
      if v7 = 0 then
        (ck 8 σ6 h0).bind fun u34 =>
        cb (s_X8_refuse h0 ((-2)) σ6) fun v36 σ35 =>
        some ((v36), σ35)
      else
        (rdR 8 σ6 h0 0).bind fun r8 =>
        (r8).bind fun a9 =>
        (rdI 1 σ6 a9 13).bind fun v10 =>
        if v10 < 0 then
          s_X8_folk_j55 (h0) σ6
        else
          if v10 < 4 then
            (rdR 8 σ6 h0 0).bind fun r11 =>
            (r11).bind fun a12 =>
            (rdR 1 σ6 a12 2).bind fun r13 =>
            (r13).bind fun a14 =>
            (stI σ6 a14 (v10) (p1)).bind fun σ15 =>
            (rdR 8 σ15 h0 0).bind fun r16 =>
            (r16).bind fun a17 =>
            (rdR 1 σ15 a17 3).bind fun r18 =>
            (r18).bind fun a19 =>
            (stI σ15 a19 (v10) (p2)).bind fun σ20 =>
            (rdR 8 σ20 h0 0).bind fun r21 =>
            (r21).bind fun a22 =>
            (wrI 1 σ20 a22 13 (v10 + 1)).bind fun σ23 =>
            (rdR 8 σ23 h0 8).bind fun r24 =>
            (r24).bind fun a25 =>
            (ck 0 σ23 a25).bind fun u26 =>
            cb (s_X0_clear a25 σ23) fun v28 σ27 =>
            (ck 8 σ27 h0).bind fun u29 =>
            cb (s_X8_grant h0 (v10) σ27) fun v31 σ30 =>
            some ((v31), σ30)
          else
            s_X8_folk_j55 (h0) σ6
    else
      s_X8_folk_j11 (h0) σ
set_option maxRecDepth 100000 in
theorem c_X8_folk {E : E0} (hE : EOK E) {h0 : Nat} {p1 : Int32} {p2 : Int32} {σ σ1 : Hp} {r : Int32} (h : s_X8_folk h0 p1 p2 σ = some (r, σ1)) : CT E yX8_folk (.code yX8_folk cX8_folk 4 (some .int)) rm_X8_folk [tR (some (h0)), tI (p1), tI (p2)] σ (some (tI r)) σ1 := by
  refine CT.mk hE (by decide +kernel) (Nat.le_of_ble_eq_true rfl) [(0, tR (some (h0))), (1, tI (p1)), (2, tI (p2))] rfl (fun X C hin hx hxn => ?_)
  have C : XOK E X cX8_folk RX8 4 (some .int) rm_X8_folk := C
  unfold s_X8_folk at h
  refine g_iload_n (pc := 0) C 1 1 dX8_folk_0 rfl rfl ?_
  refine g_iconst (v := 1) (pc := 1) C dX8_folk_1 (by decide) ?_
  refine g_icmp_lt (pc := 2) C 11 dX8_folk_2 (by decide) (fun c39 => ?_) (fun c39 => ?_)
  · have h := zif_t c39 h
    refine g_sub [0] (lm' := [(0, tR (some (h0)))]) rfl ?_
    exact w_X8_folk_j11 hE C hxn _ _ _ _ h hx
  · have h := zif_f c39 h
    refine g_iload_n (pc := 5) C 1 1 dX8_folk_5 rfl rfl ?_
    refine g_bipush (v := 9) (pc := 6) C dX8_folk_6 (by decide) ?_
    refine g_icmp_le (pc := 8) C 17 dX8_folk_8 (by decide) (fun c38 => ?_) (fun c38 => ?_)
    · have h := zif_t c38 h
      refine g_aload_n (pc := 17) C 0 0 dX8_folk_17 rfl rfl ?_
      obtain ⟨r1, hvr1, h⟩ := zbind h
      refine g_getR (N := 19) (pc := 18) C ck_8 hvr1 rfl rfl fl_X8_12 dX8_folk_18 ?_
      obtain ⟨a2, hqa2, h9⟩ := zbind h
      clear h
      subst hqa2
      have h := h9
      clear h9
      obtain ⟨r3, hvr3, h⟩ := zbind h
      refine g_getR (N := 20) (pc := 21) C ck_1 hvr3 rfl rfl fl_X8_103 dX8_folk_21 ?_
      refine g_iload_n (pc := 24) C 2 2 dX8_folk_24 rfl rfl ?_
      obtain ⟨a4, hqa4, h9⟩ := zbind h
      clear h
      subst hqa4
      have h := h9
      clear h9
      obtain ⟨u5, hvu5, h⟩ := zbind h
      obtain ⟨v7, σ6, hvσ6, h⟩ := zcb h
      refine g_callV (pc := 25) (av := [tI (p2)]) C (c_X3_isOne hE hvσ6) yv_X3_isOne ml_X8_122 ck_3 (zopt hvu5).1 rfl (rf_of (by decide)) rfl (Nat.le_of_ble_eq_true rfl) dX8_folk_25 ?_
      refine g_if_ne (pc := 28) C 38 dX8_folk_28 (by decide) (fun c37 => ?_) (fun c37 => ?_)
      · have h := zif_f c37 h
        refine g_aload_n (pc := 38) C 0 0 dX8_folk_38 rfl rfl ?_
        obtain ⟨r8, hvr8, h⟩ := zbind h
        refine g_getR (N := 19) (pc := 39) C ck_8 hvr8 rfl rfl fl_X8_12 dX8_folk_39 ?_
        obtain ⟨a9, hqa9, h9⟩ := zbind h
        clear h
        subst hqa9
        have h := h9
        clear h9
        obtain ⟨v10, hvv10, h⟩ := zbind h
        refine g_getI (N := 20) (pc := 42) C ck_1 hvv10 rfl rfl fl_X8_142 dX8_folk_42 ?_
        refine g_istore_n (lm' := [(3, tI (v10)), (0, tR (some (h0))), (1, tI (p1)), (2, tI (p2))]) (pc := 45) C 3 dX8_folk_45 rfl (by decide) rfl ?_
        refine g_iload_n (pc := 46) C 3 0 dX8_folk_46 rfl rfl ?_
        refine g_if_lt (pc := 47) C 55 dX8_folk_47 (by decide) (fun c33 => ?_) (fun c33 => ?_)
        · have h := zif_t c33 h
          refine g_sub [1] (lm' := [(0, tR (some (h0)))]) rfl ?_
          exact w_X8_folk_j55 hE C hxn _ _ _ _ h hx
        · have h := zif_f c33 h
          refine g_iload_n (pc := 50) C 3 0 dX8_folk_50 rfl rfl ?_
          refine g_iconst (v := 4) (pc := 51) C dX8_folk_51 (by decide) ?_
          refine g_icmp_lt (pc := 52) C 62 dX8_folk_52 (by decide) (fun c32 => ?_) (fun c32 => ?_)
          · have h := zif_t c32 h
            refine g_aload_n (pc := 62) C 0 1 dX8_folk_62 rfl rfl ?_
            obtain ⟨r11, hvr11, h⟩ := zbind h
            refine g_getR (N := 19) (pc := 63) C ck_8 hvr11 rfl rfl fl_X8_12 dX8_folk_63 ?_
            obtain ⟨a12, hqa12, h9⟩ := zbind h
            clear h
            subst hqa12
            have h := h9
            clear h9
            obtain ⟨r13, hvr13, h⟩ := zbind h
            refine g_getR (N := 20) (pc := 66) C ck_1 hvr13 rfl rfl fl_X8_145 dX8_folk_66 ?_
            refine g_iload_n (pc := 69) C 3 0 dX8_folk_69 rfl rfl ?_
            refine g_iload_n (pc := 70) C 1 2 dX8_folk_70 rfl rfl ?_
            obtain ⟨a14, hqa14, h9⟩ := zbind h
            clear h
            subst hqa14
            have h := h9
            clear h9
            obtain ⟨σ15, hvσ15, h⟩ := zbind h
            refine g_iast (pc := 71) C hvσ15 dX8_folk_71 ?_
            refine g_aload_n (pc := 72) C 0 1 dX8_folk_72 rfl rfl ?_
            obtain ⟨r16, hvr16, h⟩ := zbind h
            refine g_getR (N := 19) (pc := 73) C ck_8 hvr16 rfl rfl fl_X8_12 dX8_folk_73 ?_
            obtain ⟨a17, hqa17, h9⟩ := zbind h
            clear h
            subst hqa17
            have h := h9
            clear h9
            obtain ⟨r18, hvr18, h⟩ := zbind h
            refine g_getR (N := 20) (pc := 76) C ck_1 hvr18 rfl rfl fl_X8_148 dX8_folk_76 ?_
            refine g_iload_n (pc := 79) C 3 0 dX8_folk_79 rfl rfl ?_
            refine g_iload_n (pc := 80) C 2 3 dX8_folk_80 rfl rfl ?_
            obtain ⟨a19, hqa19, h9⟩ := zbind h
            clear h
            subst hqa19
            have h := h9
            clear h9
            obtain ⟨σ20, hvσ20, h⟩ := zbind h
            refine g_iast (pc := 81) C hvσ20 dX8_folk_81 ?_
            refine g_aload_n (pc := 82) C 0 1 dX8_folk_82 rfl rfl ?_
            obtain ⟨r21, hvr21, h⟩ := zbind h
            refine g_getR (N := 19) (pc := 83) C ck_8 hvr21 rfl rfl fl_X8_12 dX8_folk_83 ?_
            refine g_iload_n (pc := 86) C 3 0 dX8_folk_86 rfl rfl ?_
            refine g_iconst (v := 1) (pc := 87) C dX8_folk_87 (by decide) ?_
            refine g_iadd (pc := 88) C dX8_folk_88 ?_
            obtain ⟨a22, hqa22, h9⟩ := zbind h
            clear h
            subst hqa22
            have h := h9
            clear h9
            obtain ⟨σ23, hvσ23, h⟩ := zbind h
            refine g_putI (N := 20) (pc := 89) C ⟨ck_1, rfl, tyX1_ok⟩ hvσ23 rfl fl_X8_142 rfl rfl dX8_folk_89 ?_
            refine g_aload_n (pc := 92) C 0 1 dX8_folk_92 rfl rfl ?_
            obtain ⟨r24, hvr24, h⟩ := zbind h
            refine g_getR (N := 19) (pc := 93) C ck_8 hvr24 rfl rfl fl_X8_54 dX8_folk_93 ?_
            obtain ⟨a25, hqa25, h9⟩ := zbind h
            clear h
            subst hqa25
            have h := h9
            clear h9
            obtain ⟨u26, hvu26, h⟩ := zbind h
            obtain ⟨v28, σ27, hvσ27, h⟩ := zcb h
            refine g_callV (pc := 96) (av := []) C (c_X0_clear hE hvσ27) yv_X0_clear ml_X8_112 ck_0 (zopt hvu26).1 rfl (rf_of (by decide)) rfl (Nat.le_of_ble_eq_true rfl) dX8_folk_96 ?_
            refine g_aload_n (pc := 99) C 0 1 dX8_folk_99 rfl rfl ?_
            refine g_iload_n (pc := 100) C 3 0 dX8_folk_100 rfl rfl ?_
            obtain ⟨u29, hvu29, h⟩ := zbind h
            obtain ⟨v31, σ30, hvσ30, h⟩ := zcb h
            refine g_callV (pc := 101) (av := [tI (v10)]) C (c_X8_grant hE hvσ30) yv_X8_grant ml_X8_119 ck_8 (zopt hvu29).1 rfl (rf_of (by decide)) rfl (Nat.le_of_ble_eq_true rfl) dX8_folk_101 ?_
            obtain ⟨rfl, rfl⟩ := zsome h
            exact g_iret (pc := 104) C rfl hx (by rw [hxn]; rfl) (by rw [hxn]; rfl) dX8_folk_104
          · have h := zif_f c32 h
            refine g_sub [1] (lm' := [(0, tR (some (h0)))]) rfl ?_
            exact w_X8_folk_j55 hE C hxn _ _ _ _ h hx
      · have h := zif_t c37 h
        refine g_aload_n (pc := 31) C 0 0 dX8_folk_31 rfl rfl ?_
        refine g_bipush (v := (-2)) (pc := 32) C dX8_folk_32 (by decide) ?_
        obtain ⟨u34, hvu34, h⟩ := zbind h
        obtain ⟨v36, σ35, hvσ35, h⟩ := zcb h
        refine g_callV (pc := 34) (av := [tI ((-2))]) C (c_X8_refuse hE hvσ35) yv_X8_refuse ml_X8_99 ck_8 (zopt hvu34).1 rfl (rf_of (by decide)) rfl (Nat.le_of_ble_eq_true rfl) dX8_folk_34 ?_
        obtain ⟨rfl, rfl⟩ := zsome h
        exact g_iret (pc := 37) C rfl hx (by rw [hxn]; rfl) (by rw [hxn]; rfl) dX8_folk_37
    · have h := zif_f c38 h
      refine g_sub [0] (lm' := [(0, tR (some (h0)))]) rfl ?_
      exact w_X8_folk_j11 hE C hxn _ _ _ _ h hx
def rm_X8_of : Room := { frames := 1, cells := 0, slots := 0, locals := 21 }
noncomputable def s_X8_of (h0 : Nat) (p1 : Int32) (p2 : Int32) (σ : Hp) : Option (Int32 × Hp) :=
  (rdR 8 σ h0 0).bind fun r1 =>
  (r1).bind fun a2 =>
  (ck 1 σ a2).bind fun u3 =>
  cb (s_X1_isFolk a2 (p1) σ) fun v5 σ4 =>
  if v5 = 0 then
    some (((-1)), σ4)
  else
    if p2 = 0 then
      (rdR 8 σ4 h0 0).bind fun r6 =>
      (r6).bind fun a7 =>
      (rdR 1 σ4 a7 2).bind fun r8 =>
      (r8).bind fun a9 =>
      (ldI 11 σ4 a9 (p1)).bind fun v10 =>
      some ((v10), σ4)
    else
      if p2 = 1 then
        (rdR 8 σ4 h0 0).bind fun r12 =>
        (r12).bind fun a13 =>
        (rdR 1 σ4 a13 3).bind fun r14 =>
        (r14).bind fun a15 =>
        (ldI 11 σ4 a15 (p1)).bind fun v16 =>
        some ((v16), σ4)
      else
        some (((-1)), σ4)
set_option maxRecDepth 100000 in
theorem c_X8_of {E : E0} (hE : EOK E) {h0 : Nat} {p1 : Int32} {p2 : Int32} {σ σ1 : Hp} {r : Int32} (h : s_X8_of h0 p1 p2 σ = some (r, σ1)) : CT E yX8_of (.code yX8_of cX8_of 3 (some .int)) rm_X8_of [tR (some (h0)), tI (p1), tI (p2)] σ (some (tI r)) σ1 := by
  refine CT.mk hE (by decide +kernel) (Nat.le_of_ble_eq_true rfl) [(0, tR (some (h0))), (1, tI (p1)), (2, tI (p2))] rfl (fun X C hin hx hxn => ?_)
  have C : XOK E X cX8_of RX8 3 (some .int) rm_X8_of := C
  unfold s_X8_of at h
  refine g_aload_n (pc := 0) C 0 0 dX8_of_0 rfl rfl ?_
  obtain ⟨r1, hvr1, h⟩ := zbind h
  refine g_getR (N := 19) (pc := 1) C ck_8 hvr1 rfl rfl fl_X8_12 dX8_of_1 ?_
  refine g_iload_n (pc := 4) C 1 1 dX8_of_4 rfl rfl ?_
  obtain ⟨a2, hqa2, h9⟩ := zbind h
  clear h
  subst hqa2
  have h := h9
  clear h9
  obtain ⟨u3, hvu3, h⟩ := zbind h
  obtain ⟨v5, σ4, hvσ4, h⟩ := zcb h
  refine g_callV (pc := 5) (av := [tI (p1)]) C (c_X1_isFolk hE hvσ4) yv_X1_isFolk ml_X8_151 ck_1 (zopt hvu3).1 rfl (rf_of (by decide)) rfl (Nat.le_of_ble_eq_true rfl) dX8_of_5 ?_
  refine g_if_ne (pc := 8) C 13 dX8_of_8 (by decide) (fun c18 => ?_) (fun c18 => ?_)
  · have h := zif_f c18 h
    refine g_iload_n (pc := 13) C 2 2 dX8_of_13 rfl rfl ?_
    by_cases c11 : p2 = 0
    · refine g_lsw (pc := 14) C 40 dX8_of_14 (by decide) (by rw [c11] <;> rfl) (by decide) ?_
      have h := zif_t c11 h
      refine g_aload_n (pc := 40) C 0 0 dX8_of_40 rfl rfl ?_
      obtain ⟨r6, hvr6, h⟩ := zbind h
      refine g_getR (N := 19) (pc := 41) C ck_8 hvr6 rfl rfl fl_X8_12 dX8_of_41 ?_
      obtain ⟨a7, hqa7, h9⟩ := zbind h
      clear h
      subst hqa7
      have h := h9
      clear h9
      obtain ⟨r8, hvr8, h⟩ := zbind h
      refine g_getR (N := 20) (pc := 44) C ck_1 hvr8 rfl rfl fl_X8_145 dX8_of_44 ?_
      refine g_iload_n (pc := 47) C 1 1 dX8_of_47 rfl rfl ?_
      obtain ⟨a9, hqa9, h9⟩ := zbind h
      clear h
      subst hqa9
      have h := h9
      clear h9
      obtain ⟨v10, hvv10, h⟩ := zbind h
      refine g_iald (pc := 48) C hvv10 dX8_of_48 ?_
      obtain ⟨rfl, rfl⟩ := zsome h
      exact g_iret (pc := 49) C rfl hx (by rw [hxn]; rfl) (by rw [hxn]; rfl) dX8_of_49
    · have h := zif_f c11 h
      by_cases c17 : p2 = 1
      · refine g_lsw (pc := 14) C 50 dX8_of_14 (by decide) (by rw [c17] <;> rfl) (by decide) ?_
        have h := zif_t c17 h
        refine g_aload_n (pc := 50) C 0 0 dX8_of_50 rfl rfl ?_
        obtain ⟨r12, hvr12, h⟩ := zbind h
        refine g_getR (N := 19) (pc := 51) C ck_8 hvr12 rfl rfl fl_X8_12 dX8_of_51 ?_
        obtain ⟨a13, hqa13, h9⟩ := zbind h
        clear h
        subst hqa13
        have h := h9
        clear h9
        obtain ⟨r14, hvr14, h⟩ := zbind h
        refine g_getR (N := 20) (pc := 54) C ck_1 hvr14 rfl rfl fl_X8_148 dX8_of_54 ?_
        refine g_iload_n (pc := 57) C 1 1 dX8_of_57 rfl rfl ?_
        obtain ⟨a15, hqa15, h9⟩ := zbind h
        clear h
        subst hqa15
        have h := h9
        clear h9
        obtain ⟨v16, hvv16, h⟩ := zbind h
        refine g_iald (pc := 58) C hvv16 dX8_of_58 ?_
        obtain ⟨rfl, rfl⟩ := zsome h
        exact g_iret (pc := 59) C rfl hx (by rw [hxn]; rfl) (by rw [hxn]; rfl) dX8_of_59
      · have h := zif_f c17 h
        refine g_lsw (pc := 14) C 60 dX8_of_14 (by decide) (lsw_def (by have ec11 := n32 (k := 0) (n := 0) (by decide) c11; have ec17 := n32 (k := 1) (n := 1) (by decide) c17; simp only [List.mem_cons, List.not_mem_nil, or_false, forall_eq_or_imp, forall_eq]; omega)) (by decide) ?_
        refine g_iconst (v := (-1)) (pc := 60) C dX8_of_60 (by decide) ?_
        obtain ⟨rfl, rfl⟩ := zsome h
        exact g_iret (pc := 61) C rfl hx (by rw [hxn]; rfl) (by rw [hxn]; rfl) dX8_of_61
  · have h := zif_t c18 h
    refine g_iconst (v := (-1)) (pc := 11) C dX8_of_11 (by decide) ?_
    obtain ⟨rfl, rfl⟩ := zsome h
    exact g_iret (pc := 12) C rfl hx (by rw [hxn]; rfl) (by rw [hxn]; rfl) dX8_of_12
def rm_X8_badger : Room := { frames := 2, cells := 0, slots := 0, locals := 42 }
noncomputable def s_X8_badger_j31 (h0 : Nat) (σ : Hp) : Option (Int32 × Hp) :=
  (ck 8 σ h0).bind fun u1 =>
  cb (s_X8_refuse h0 ((-5)) σ) fun v3 σ2 =>
  some ((v3), σ2)
set_option maxRecDepth 100000 in
theorem w_X8_badger_j31 {E : E0} (hE : EOK E) {X : X0} (C : XOK E X cX8_badger RX8 3 (some .int) rm_X8_badger) (hxn : xn X = (rm_X8_badger.cells, rm_X8_badger.slots)) (h0 : Nat) (σ : Hp) (r : Int32) (σ1 : Hp) (h : s_X8_badger_j31 h0 σ = some (r, σ1)) (hx : xd X = (some (tI r), σ1)) : G E X 0 0 31 [(0, tR (some (h0)))] [] σ := by
  unfold s_X8_badger_j31 at h
  refine g_aload_n (pc := 31) C 0 0 dX8_badger_31 rfl rfl ?_
  refine g_bipush (v := (-5)) (pc := 32) C dX8_badger_32 (by decide) ?_
  obtain ⟨u1, hvu1, h⟩ := zbind h
  obtain ⟨v3, σ2, hvσ2, h⟩ := zcb h
  refine g_callV (pc := 34) (av := [tI ((-5))]) C (c_X8_refuse hE hvσ2) yv_X8_refuse ml_X8_99 ck_8 (zopt hvu1).1 rfl (rf_of (by decide)) rfl (Nat.le_of_ble_eq_true rfl) dX8_badger_34 ?_
  obtain ⟨rfl, rfl⟩ := zsome h
  exact g_iret (pc := 37) C rfl hx (by rw [hxn]; rfl) (by rw [hxn]; rfl) dX8_badger_37
noncomputable def s_X8_badger (h0 : Nat) (p1 : Int32) (σ : Hp) : Option (Int32 × Hp) :=
  cb (s_X8_isRoom (Int32.toInt64 (p1 : Int32)) σ) fun v2 σ1 =>
  if v2 = 0 then
    (ck 8 σ1 h0).bind fun u24 =>
    cb (s_X8_refuse h0 ((-1)) σ1) fun v26 σ25 =>
    some ((v26), σ25)
  else
    (rdR 8 σ1 h0 0).bind fun r3 =>
    (r3).bind fun a4 =>
    (rdI 1 σ1 a4 14).bind fun v5 =>
    if v5 < 0 then
      s_X8_badger_j31 (h0) σ1
    else
      if v5 < 3 then
        (rdR 8 σ1 h0 0).bind fun r6 =>
        (r6).bind fun a7 =>
        (rdR 1 σ1 a7 4).bind fun r8 =>
        (r8).bind fun a9 =>
        (stI σ1 a9 (v5) (p1)).bind fun σ10 =>
        (rdR 8 σ10 h0 0).bind fun r11 =>
        (r11).bind fun a12 =>
        (wrI 1 σ10 a12 14 (v5 + 1)).bind fun σ13 =>
        (rdR 8 σ13 h0 8).bind fun r14 =>
        (r14).bind fun a15 =>
        (ck 0 σ13 a15).bind fun u16 =>
        cb (s_X0_clear a15 σ13) fun v18 σ17 =>
        (ck 8 σ17 h0).bind fun u19 =>
        cb (s_X8_grant h0 (v5) σ17) fun v21 σ20 =>
        some ((v21), σ20)
      else
        s_X8_badger_j31 (h0) σ1
set_option maxRecDepth 100000 in
theorem c_X8_badger {E : E0} (hE : EOK E) {h0 : Nat} {p1 : Int32} {σ σ1 : Hp} {r : Int32} (h : s_X8_badger h0 p1 σ = some (r, σ1)) : CT E yX8_badger (.code yX8_badger cX8_badger 3 (some .int)) rm_X8_badger [tR (some (h0)), tI (p1)] σ (some (tI r)) σ1 := by
  refine CT.mk hE (by decide +kernel) (Nat.le_of_ble_eq_true rfl) [(0, tR (some (h0))), (1, tI (p1))] rfl (fun X C hin hx hxn => ?_)
  have C : XOK E X cX8_badger RX8 3 (some .int) rm_X8_badger := C
  unfold s_X8_badger at h
  refine g_iload_n (pc := 0) C 1 1 dX8_badger_0 rfl rfl ?_
  refine g_i2l (pc := 1) C dX8_badger_1 ?_
  obtain ⟨v2, σ1, hvσ1, h⟩ := zcb h
  refine g_callS (pc := 2) (av := [tJ (Int32.toInt64 (p1 : Int32))]) C (c_X8_isRoom hE hvσ1) ys_X8_isRoom ml_X8_95 rfl (rf_of (by decide)) rfl (Nat.le_of_ble_eq_true rfl) dX8_badger_2 ?_
  refine g_if_ne (pc := 5) C 14 dX8_badger_5 (by decide) (fun c27 => ?_) (fun c27 => ?_)
  · have h := zif_f c27 h
    refine g_aload_n (pc := 14) C 0 0 dX8_badger_14 rfl rfl ?_
    obtain ⟨r3, hvr3, h⟩ := zbind h
    refine g_getR (N := 19) (pc := 15) C ck_8 hvr3 rfl rfl fl_X8_12 dX8_badger_15 ?_
    obtain ⟨a4, hqa4, h9⟩ := zbind h
    clear h
    subst hqa4
    have h := h9
    clear h9
    obtain ⟨v5, hvv5, h⟩ := zbind h
    refine g_getI (N := 20) (pc := 18) C ck_1 hvv5 rfl rfl fl_X8_154 dX8_badger_18 ?_
    refine g_istore_n (lm' := [(2, tI (v5)), (0, tR (some (h0))), (1, tI (p1))]) (pc := 21) C 2 dX8_badger_21 rfl (by decide) rfl ?_
    refine g_iload_n (pc := 22) C 2 0 dX8_badger_22 rfl rfl ?_
    refine g_if_lt (pc := 23) C 31 dX8_badger_23 (by decide) (fun c23 => ?_) (fun c23 => ?_)
    · have h := zif_t c23 h
      refine g_sub [1] (lm' := [(0, tR (some (h0)))]) rfl ?_
      exact w_X8_badger_j31 hE C hxn _ _ _ _ h hx
    · have h := zif_f c23 h
      refine g_iload_n (pc := 26) C 2 0 dX8_badger_26 rfl rfl ?_
      refine g_iconst (v := 3) (pc := 27) C dX8_badger_27 (by decide) ?_
      refine g_icmp_lt (pc := 28) C 38 dX8_badger_28 (by decide) (fun c22 => ?_) (fun c22 => ?_)
      · have h := zif_t c22 h
        refine g_aload_n (pc := 38) C 0 1 dX8_badger_38 rfl rfl ?_
        obtain ⟨r6, hvr6, h⟩ := zbind h
        refine g_getR (N := 19) (pc := 39) C ck_8 hvr6 rfl rfl fl_X8_12 dX8_badger_39 ?_
        obtain ⟨a7, hqa7, h9⟩ := zbind h
        clear h
        subst hqa7
        have h := h9
        clear h9
        obtain ⟨r8, hvr8, h⟩ := zbind h
        refine g_getR (N := 20) (pc := 42) C ck_1 hvr8 rfl rfl fl_X8_157 dX8_badger_42 ?_
        refine g_iload_n (pc := 45) C 2 0 dX8_badger_45 rfl rfl ?_
        refine g_iload_n (pc := 46) C 1 2 dX8_badger_46 rfl rfl ?_
        obtain ⟨a9, hqa9, h9⟩ := zbind h
        clear h
        subst hqa9
        have h := h9
        clear h9
        obtain ⟨σ10, hvσ10, h⟩ := zbind h
        refine g_iast (pc := 47) C hvσ10 dX8_badger_47 ?_
        refine g_aload_n (pc := 48) C 0 1 dX8_badger_48 rfl rfl ?_
        obtain ⟨r11, hvr11, h⟩ := zbind h
        refine g_getR (N := 19) (pc := 49) C ck_8 hvr11 rfl rfl fl_X8_12 dX8_badger_49 ?_
        refine g_iload_n (pc := 52) C 2 0 dX8_badger_52 rfl rfl ?_
        refine g_iconst (v := 1) (pc := 53) C dX8_badger_53 (by decide) ?_
        refine g_iadd (pc := 54) C dX8_badger_54 ?_
        obtain ⟨a12, hqa12, h9⟩ := zbind h
        clear h
        subst hqa12
        have h := h9
        clear h9
        obtain ⟨σ13, hvσ13, h⟩ := zbind h
        refine g_putI (N := 20) (pc := 55) C ⟨ck_1, rfl, tyX1_ok⟩ hvσ13 rfl fl_X8_154 rfl rfl dX8_badger_55 ?_
        refine g_aload_n (pc := 58) C 0 1 dX8_badger_58 rfl rfl ?_
        obtain ⟨r14, hvr14, h⟩ := zbind h
        refine g_getR (N := 19) (pc := 59) C ck_8 hvr14 rfl rfl fl_X8_54 dX8_badger_59 ?_
        obtain ⟨a15, hqa15, h9⟩ := zbind h
        clear h
        subst hqa15
        have h := h9
        clear h9
        obtain ⟨u16, hvu16, h⟩ := zbind h
        obtain ⟨v18, σ17, hvσ17, h⟩ := zcb h
        refine g_callV (pc := 62) (av := []) C (c_X0_clear hE hvσ17) yv_X0_clear ml_X8_112 ck_0 (zopt hvu16).1 rfl (rf_of (by decide)) rfl (Nat.le_of_ble_eq_true rfl) dX8_badger_62 ?_
        refine g_aload_n (pc := 65) C 0 1 dX8_badger_65 rfl rfl ?_
        refine g_iload_n (pc := 66) C 2 0 dX8_badger_66 rfl rfl ?_
        obtain ⟨u19, hvu19, h⟩ := zbind h
        obtain ⟨v21, σ20, hvσ20, h⟩ := zcb h
        refine g_callV (pc := 67) (av := [tI (v5)]) C (c_X8_grant hE hvσ20) yv_X8_grant ml_X8_119 ck_8 (zopt hvu19).1 rfl (rf_of (by decide)) rfl (Nat.le_of_ble_eq_true rfl) dX8_badger_67 ?_
        obtain ⟨rfl, rfl⟩ := zsome h
        exact g_iret (pc := 70) C rfl hx (by rw [hxn]; rfl) (by rw [hxn]; rfl) dX8_badger_70
      · have h := zif_f c22 h
        refine g_sub [1] (lm' := [(0, tR (some (h0)))]) rfl ?_
        exact w_X8_badger_j31 hE C hxn _ _ _ _ h hx
  · have h := zif_t c27 h
    refine g_aload_n (pc := 8) C 0 0 dX8_badger_8 rfl rfl ?_
    refine g_iconst (v := (-1)) (pc := 9) C dX8_badger_9 (by decide) ?_
    obtain ⟨u24, hvu24, h⟩ := zbind h
    obtain ⟨v26, σ25, hvσ25, h⟩ := zcb h
    refine g_callV (pc := 10) (av := [tI ((-1))]) C (c_X8_refuse hE hvσ25) yv_X8_refuse ml_X8_99 ck_8 (zopt hvu24).1 rfl (rf_of (by decide)) rfl (Nat.le_of_ble_eq_true rfl) dX8_badger_10 ?_
    obtain ⟨rfl, rfl⟩ := zsome h
    exact g_iret (pc := 13) C rfl hx (by rw [hxn]; rfl) (by rw [hxn]; rfl) dX8_badger_13
def rm_X8_sow : Room := { frames := 4, cells := 0, slots := 0, locals := 109 }
noncomputable def s_X8_sow (h0 : Nat) (p1 : Int32) (p2 : Int32) (σ : Hp) : Option (Int32 × Hp) :=
  (rdR 8 σ h0 0).bind fun r1 =>
  (r1).bind fun a2 =>
  (ck 1 σ a2).bind fun u3 =>
  cb (s_X1_isBadger a2 (p1) σ) fun v5 σ4 =>
  if v5 = 0 then
    some (((-1)), σ4)
  else
    if p2 = 0 then
      (rdR 8 σ4 h0 0).bind fun r6 =>
      (r6).bind fun a7 =>
      (rdR 1 σ4 a7 4).bind fun r8 =>
      (r8).bind fun a9 =>
      (ldI 11 σ4 a9 (p1)).bind fun v10 =>
      some ((v10), σ4)
    else
      if p2 = 1 then
        (rdR 8 σ4 h0 0).bind fun r12 =>
        (rdR 8 σ4 h0 0).bind fun r13 =>
        (r13).bind fun a14 =>
        (rdR 1 σ4 a14 4).bind fun r15 =>
        (r15).bind fun a16 =>
        (ldI 11 σ4 a16 (p1)).bind fun v17 =>
        (rdR 8 σ4 h0 0).bind fun r18 =>
        (r18).bind fun a19 =>
        (rdR 1 σ4 a19 10).bind fun r20 =>
        (r20).bind fun a21 =>
        (ldI 11 σ4 a21 (0)).bind fun v22 =>
        (r12).bind fun a23 =>
        (ck 1 σ4 a23).bind fun u24 =>
        cb (s_X1_whither a23 (p1) (v17) (v22) σ4) fun v26 σ25 =>
        some ((v26), σ25)
      else
        some (((-1)), σ4)
set_option maxRecDepth 100000 in
theorem c_X8_sow {E : E0} (hE : EOK E) {h0 : Nat} {p1 : Int32} {p2 : Int32} {σ σ1 : Hp} {r : Int32} (h : s_X8_sow h0 p1 p2 σ = some (r, σ1)) : CT E yX8_sow (.code yX8_sow cX8_sow 3 (some .int)) rm_X8_sow [tR (some (h0)), tI (p1), tI (p2)] σ (some (tI r)) σ1 := by
  refine CT.mk hE (by decide +kernel) (Nat.le_of_ble_eq_true rfl) [(0, tR (some (h0))), (1, tI (p1)), (2, tI (p2))] rfl (fun X C hin hx hxn => ?_)
  have C : XOK E X cX8_sow RX8 3 (some .int) rm_X8_sow := C
  unfold s_X8_sow at h
  refine g_aload_n (pc := 0) C 0 0 dX8_sow_0 rfl rfl ?_
  obtain ⟨r1, hvr1, h⟩ := zbind h
  refine g_getR (N := 19) (pc := 1) C ck_8 hvr1 rfl rfl fl_X8_12 dX8_sow_1 ?_
  refine g_iload_n (pc := 4) C 1 1 dX8_sow_4 rfl rfl ?_
  obtain ⟨a2, hqa2, h9⟩ := zbind h
  clear h
  subst hqa2
  have h := h9
  clear h9
  obtain ⟨u3, hvu3, h⟩ := zbind h
  obtain ⟨v5, σ4, hvσ4, h⟩ := zcb h
  refine g_callV (pc := 5) (av := [tI (p1)]) C (c_X1_isBadger hE hvσ4) yv_X1_isBadger ml_X8_160 ck_1 (zopt hvu3).1 rfl (rf_of (by decide)) rfl (Nat.le_of_ble_eq_true rfl) dX8_sow_5 ?_
  refine g_if_ne (pc := 8) C 13 dX8_sow_8 (by decide) (fun c28 => ?_) (fun c28 => ?_)
  · have h := zif_f c28 h
    refine g_iload_n (pc := 13) C 2 2 dX8_sow_13 rfl rfl ?_
    by_cases c11 : p2 = 0
    · refine g_lsw (pc := 14) C 40 dX8_sow_14 (by decide) (by rw [c11] <;> rfl) (by decide) ?_
      have h := zif_t c11 h
      refine g_aload_n (pc := 40) C 0 0 dX8_sow_40 rfl rfl ?_
      obtain ⟨r6, hvr6, h⟩ := zbind h
      refine g_getR (N := 19) (pc := 41) C ck_8 hvr6 rfl rfl fl_X8_12 dX8_sow_41 ?_
      obtain ⟨a7, hqa7, h9⟩ := zbind h
      clear h
      subst hqa7
      have h := h9
      clear h9
      obtain ⟨r8, hvr8, h⟩ := zbind h
      refine g_getR (N := 20) (pc := 44) C ck_1 hvr8 rfl rfl fl_X8_157 dX8_sow_44 ?_
      refine g_iload_n (pc := 47) C 1 1 dX8_sow_47 rfl rfl ?_
      obtain ⟨a9, hqa9, h9⟩ := zbind h
      clear h
      subst hqa9
      have h := h9
      clear h9
      obtain ⟨v10, hvv10, h⟩ := zbind h
      refine g_iald (pc := 48) C hvv10 dX8_sow_48 ?_
      obtain ⟨rfl, rfl⟩ := zsome h
      exact g_iret (pc := 49) C rfl hx (by rw [hxn]; rfl) (by rw [hxn]; rfl) dX8_sow_49
    · have h := zif_f c11 h
      by_cases c27 : p2 = 1
      · refine g_lsw (pc := 14) C 50 dX8_sow_14 (by decide) (by rw [c27] <;> rfl) (by decide) ?_
        have h := zif_t c27 h
        refine g_aload_n (pc := 50) C 0 0 dX8_sow_50 rfl rfl ?_
        obtain ⟨r12, hvr12, h⟩ := zbind h
        refine g_getR (N := 19) (pc := 51) C ck_8 hvr12 rfl rfl fl_X8_12 dX8_sow_51 ?_
        refine g_iload_n (pc := 54) C 1 1 dX8_sow_54 rfl rfl ?_
        refine g_aload_n (pc := 55) C 0 0 dX8_sow_55 rfl rfl ?_
        obtain ⟨r13, hvr13, h⟩ := zbind h
        refine g_getR (N := 19) (pc := 56) C ck_8 hvr13 rfl rfl fl_X8_12 dX8_sow_56 ?_
        obtain ⟨a14, hqa14, h9⟩ := zbind h
        clear h
        subst hqa14
        have h := h9
        clear h9
        obtain ⟨r15, hvr15, h⟩ := zbind h
        refine g_getR (N := 20) (pc := 59) C ck_1 hvr15 rfl rfl fl_X8_157 dX8_sow_59 ?_
        refine g_iload_n (pc := 62) C 1 1 dX8_sow_62 rfl rfl ?_
        obtain ⟨a16, hqa16, h9⟩ := zbind h
        clear h
        subst hqa16
        have h := h9
        clear h9
        obtain ⟨v17, hvv17, h⟩ := zbind h
        refine g_iald (pc := 63) C hvv17 dX8_sow_63 ?_
        refine g_aload_n (pc := 64) C 0 0 dX8_sow_64 rfl rfl ?_
        obtain ⟨r18, hvr18, h⟩ := zbind h
        refine g_getR (N := 19) (pc := 65) C ck_8 hvr18 rfl rfl fl_X8_12 dX8_sow_65 ?_
        obtain ⟨a19, hqa19, h9⟩ := zbind h
        clear h
        subst hqa19
        have h := h9
        clear h9
        obtain ⟨r20, hvr20, h⟩ := zbind h
        refine g_getR (N := 20) (pc := 68) C ck_1 hvr20 rfl rfl fl_X8_132 dX8_sow_68 ?_
        refine g_iconst (v := 0) (pc := 71) C dX8_sow_71 (by decide) ?_
        obtain ⟨a21, hqa21, h9⟩ := zbind h
        clear h
        subst hqa21
        have h := h9
        clear h9
        obtain ⟨v22, hvv22, h⟩ := zbind h
        refine g_iald (pc := 72) C hvv22 dX8_sow_72 ?_
        obtain ⟨a23, hqa23, h9⟩ := zbind h
        clear h
        subst hqa23
        have h := h9
        clear h9
        obtain ⟨u24, hvu24, h⟩ := zbind h
        obtain ⟨v26, σ25, hvσ25, h⟩ := zcb h
        refine g_callV (pc := 73) (av := [tI (p1), tI (v17), tI (v22)]) C (c_X1_whither hE hvσ25) yv_X1_whither ml_X8_163 ck_1 (zopt hvu24).1 rfl (rf_of (by decide)) rfl (Nat.le_of_ble_eq_true rfl) dX8_sow_73 ?_
        obtain ⟨rfl, rfl⟩ := zsome h
        exact g_iret (pc := 76) C rfl hx (by rw [hxn]; rfl) (by rw [hxn]; rfl) dX8_sow_76
      · have h := zif_f c27 h
        refine g_lsw (pc := 14) C 77 dX8_sow_14 (by decide) (lsw_def (by have ec11 := n32 (k := 0) (n := 0) (by decide) c11; have ec27 := n32 (k := 1) (n := 1) (by decide) c27; simp only [List.mem_cons, List.not_mem_nil, or_false, forall_eq_or_imp, forall_eq]; omega)) (by decide) ?_
        refine g_iconst (v := (-1)) (pc := 77) C dX8_sow_77 (by decide) ?_
        obtain ⟨rfl, rfl⟩ := zsome h
        exact g_iret (pc := 78) C rfl hx (by rw [hxn]; rfl) (by rw [hxn]; rfl) dX8_sow_78
  · have h := zif_t c28 h
    refine g_iconst (v := (-1)) (pc := 11) C dX8_sow_11 (by decide) ?_
    obtain ⟨rfl, rfl⟩ := zsome h
    exact g_iret (pc := 12) C rfl hx (by rw [hxn]; rfl) (by rw [hxn]; rfl) dX8_sow_12
def rm_X8_thing : Room := { frames := 2, cells := 0, slots := 0, locals := 42 }
noncomputable def s_X8_thing_j20 (h0 : Nat) (σ : Hp) : Option (Int32 × Hp) :=
  (ck 8 σ h0).bind fun u1 =>
  cb (s_X8_refuse h0 ((-1)) σ) fun v3 σ2 =>
  some ((v3), σ2)
set_option maxRecDepth 100000 in
theorem w_X8_thing_j20 {E : E0} (hE : EOK E) {X : X0} (C : XOK E X cX8_thing RX8 5 (some .int) rm_X8_thing) (hxn : xn X = (rm_X8_thing.cells, rm_X8_thing.slots)) (h0 : Nat) (σ : Hp) (r : Int32) (σ1 : Hp) (h : s_X8_thing_j20 h0 σ = some (r, σ1)) (hx : xd X = (some (tI r), σ1)) : G E X 0 0 20 [(0, tR (some (h0)))] [] σ := by
  unfold s_X8_thing_j20 at h
  refine g_aload_n (pc := 20) C 0 0 dX8_thing_20 rfl rfl ?_
  refine g_iconst (v := (-1)) (pc := 21) C dX8_thing_21 (by decide) ?_
  obtain ⟨u1, hvu1, h⟩ := zbind h
  obtain ⟨v3, σ2, hvσ2, h⟩ := zcb h
  refine g_callV (pc := 22) (av := [tI ((-1))]) C (c_X8_refuse hE hvσ2) yv_X8_refuse ml_X8_99 ck_8 (zopt hvu1).1 rfl (rf_of (by decide)) rfl (Nat.le_of_ble_eq_true rfl) dX8_thing_22 ?_
  obtain ⟨rfl, rfl⟩ := zsome h
  exact g_iret (pc := 25) C rfl hx (by rw [hxn]; rfl) (by rw [hxn]; rfl) dX8_thing_25
noncomputable def s_X8_thing_j68 (h0 : Nat) (σ : Hp) : Option (Int32 × Hp) :=
  (ck 8 σ h0).bind fun u1 =>
  cb (s_X8_refuse h0 ((-5)) σ) fun v3 σ2 =>
  some ((v3), σ2)
set_option maxRecDepth 100000 in
theorem w_X8_thing_j68 {E : E0} (hE : EOK E) {X : X0} (C : XOK E X cX8_thing RX8 5 (some .int) rm_X8_thing) (hxn : xn X = (rm_X8_thing.cells, rm_X8_thing.slots)) (h0 : Nat) (σ : Hp) (r : Int32) (σ1 : Hp) (h : s_X8_thing_j68 h0 σ = some (r, σ1)) (hx : xd X = (some (tI r), σ1)) : G E X 0 0 68 [(0, tR (some (h0)))] [] σ := by
  unfold s_X8_thing_j68 at h
  refine g_aload_n (pc := 68) C 0 0 dX8_thing_68 rfl rfl ?_
  refine g_bipush (v := (-5)) (pc := 69) C dX8_thing_69 (by decide) ?_
  obtain ⟨u1, hvu1, h⟩ := zbind h
  obtain ⟨v3, σ2, hvσ2, h⟩ := zcb h
  refine g_callV (pc := 71) (av := [tI ((-5))]) C (c_X8_refuse hE hvσ2) yv_X8_refuse ml_X8_99 ck_8 (zopt hvu1).1 rfl (rf_of (by decide)) rfl (Nat.le_of_ble_eq_true rfl) dX8_thing_71 ?_
  obtain ⟨rfl, rfl⟩ := zsome h
  exact g_iret (pc := 74) C rfl hx (by rw [hxn]; rfl) (by rw [hxn]; rfl) dX8_thing_74
noncomputable def s_X8_thing (h0 : Nat) (p1 : Int32) (p2 : Int32) (p3 : Int32) (σ : Hp) : Option (Int32 × Hp) :=
  if p2 < 0 then
    s_X8_thing_j20 (h0) σ
  else
    if 9 < p2 then
      s_X8_thing_j20 (h0) σ
    else
      if p3 < 0 then
        s_X8_thing_j20 (h0) σ
      else
        if p3 ≤ 9 then
          (rdR 8 σ h0 0).bind fun r1 =>
          (r1).bind fun a2 =>
          (rdR 1 σ a2 0).bind fun r3 =>
          (r3).bind fun a4 =>
          (ck 3 σ a4).bind fun u5 =>
          cb (s_X3_isOne a4 (p1) σ) fun v7 σ6 =>
          if v7 = 0 then
            (ck 8 σ6 h0).bind fun u39 =>
            cb (s_X8_refuse h0 ((-2)) σ6) fun v41 σ40 =>
            some ((v41), σ40)
          else
            (rdR 8 σ6 h0 0).bind fun r8 =>
            (r8).bind fun a9 =>
            (rdI 1 σ6 a9 15).bind fun v10 =>
            if v10 < 0 then
              s_X8_thing_j68 (h0) σ6
            else
              if v10 < 6 then
                (rdR 8 σ6 h0 0).bind fun r11 =>
                (r11).bind fun a12 =>
                (rdR 1 σ6 a12 5).bind fun r13 =>
                (r13).bind fun a14 =>
                (stI σ6 a14 (v10) (p1)).bind fun σ15 =>
                (rdR 8 σ15 h0 0).bind fun r16 =>
                (r16).bind fun a17 =>
                (rdR 1 σ15 a17 6).bind fun r18 =>
                (r18).bind fun a19 =>
                (stI σ15 a19 (v10) (p2)).bind fun σ20 =>
                (rdR 8 σ20 h0 0).bind fun r21 =>
                (r21).bind fun a22 =>
                (rdR 1 σ20 a22 7).bind fun r23 =>
                (r23).bind fun a24 =>
                (stI σ20 a24 (v10) (p3)).bind fun σ25 =>
                (rdR 8 σ25 h0 0).bind fun r26 =>
                (r26).bind fun a27 =>
                (wrI 1 σ25 a27 15 (v10 + 1)).bind fun σ28 =>
                (rdR 8 σ28 h0 8).bind fun r29 =>
                (r29).bind fun a30 =>
                (ck 0 σ28 a30).bind fun u31 =>
                cb (s_X0_clear a30 σ28) fun v33 σ32 =>
                (ck 8 σ32 h0).bind fun u34 =>
                cb (s_X8_grant h0 (v10) σ32) fun v36 σ35 =>
                some ((v36), σ35)
              else
                s_X8_thing_j68 (h0) σ6
        else
          s_X8_thing_j20 (h0) σ
set_option maxRecDepth 100000 in
theorem c_X8_thing {E : E0} (hE : EOK E) {h0 : Nat} {p1 : Int32} {p2 : Int32} {p3 : Int32} {σ σ1 : Hp} {r : Int32} (h : s_X8_thing h0 p1 p2 p3 σ = some (r, σ1)) : CT E yX8_thing (.code yX8_thing cX8_thing 5 (some .int)) rm_X8_thing [tR (some (h0)), tI (p1), tI (p2), tI (p3)] σ (some (tI r)) σ1 := by
  refine CT.mk hE (by decide +kernel) (Nat.le_of_ble_eq_true rfl) [(0, tR (some (h0))), (1, tI (p1)), (2, tI (p2)), (3, tI (p3))] rfl (fun X C hin hx hxn => ?_)
  have C : XOK E X cX8_thing RX8 5 (some .int) rm_X8_thing := C
  unfold s_X8_thing at h
  refine g_iload_n (pc := 0) C 2 2 dX8_thing_0 rfl rfl ?_
  refine g_if_lt (pc := 1) C 20 dX8_thing_1 (by decide) (fun c46 => ?_) (fun c46 => ?_)
  · have h := zif_t c46 h
    refine g_sub [0] (lm' := [(0, tR (some (h0)))]) rfl ?_
    exact w_X8_thing_j20 hE C hxn _ _ _ _ h hx
  · have h := zif_f c46 h
    refine g_iload_n (pc := 4) C 2 2 dX8_thing_4 rfl rfl ?_
    refine g_bipush (v := 9) (pc := 5) C dX8_thing_5 (by decide) ?_
    refine g_icmp_gt (pc := 7) C 20 dX8_thing_7 (by decide) (fun c45 => ?_) (fun c45 => ?_)
    · have h := zif_t c45 h
      refine g_sub [0] (lm' := [(0, tR (some (h0)))]) rfl ?_
      exact w_X8_thing_j20 hE C hxn _ _ _ _ h hx
    · have h := zif_f c45 h
      refine g_iload_n (pc := 10) C 3 3 dX8_thing_10 rfl rfl ?_
      refine g_if_lt (pc := 11) C 20 dX8_thing_11 (by decide) (fun c44 => ?_) (fun c44 => ?_)
      · have h := zif_t c44 h
        refine g_sub [0] (lm' := [(0, tR (some (h0)))]) rfl ?_
        exact w_X8_thing_j20 hE C hxn _ _ _ _ h hx
      · have h := zif_f c44 h
        refine g_iload_n (pc := 14) C 3 3 dX8_thing_14 rfl rfl ?_
        refine g_bipush (v := 9) (pc := 15) C dX8_thing_15 (by decide) ?_
        refine g_icmp_le (pc := 17) C 26 dX8_thing_17 (by decide) (fun c43 => ?_) (fun c43 => ?_)
        · have h := zif_t c43 h
          refine g_aload_n (pc := 26) C 0 0 dX8_thing_26 rfl rfl ?_
          obtain ⟨r1, hvr1, h⟩ := zbind h
          refine g_getR (N := 19) (pc := 27) C ck_8 hvr1 rfl rfl fl_X8_12 dX8_thing_27 ?_
          obtain ⟨a2, hqa2, h9⟩ := zbind h
          clear h
          subst hqa2
          have h := h9
          clear h9
          obtain ⟨r3, hvr3, h⟩ := zbind h
          refine g_getR (N := 20) (pc := 30) C ck_1 hvr3 rfl rfl fl_X8_103 dX8_thing_30 ?_
          refine g_iload_n (pc := 33) C 1 1 dX8_thing_33 rfl rfl ?_
          obtain ⟨a4, hqa4, h9⟩ := zbind h
          clear h
          subst hqa4
          have h := h9
          clear h9
          obtain ⟨u5, hvu5, h⟩ := zbind h
          obtain ⟨v7, σ6, hvσ6, h⟩ := zcb h
          refine g_callV (pc := 34) (av := [tI (p1)]) C (c_X3_isOne hE hvσ6) yv_X3_isOne ml_X8_122 ck_3 (zopt hvu5).1 rfl (rf_of (by decide)) rfl (Nat.le_of_ble_eq_true rfl) dX8_thing_34 ?_
          refine g_if_ne (pc := 37) C 47 dX8_thing_37 (by decide) (fun c42 => ?_) (fun c42 => ?_)
          · have h := zif_f c42 h
            refine g_aload_n (pc := 47) C 0 0 dX8_thing_47 rfl rfl ?_
            obtain ⟨r8, hvr8, h⟩ := zbind h
            refine g_getR (N := 19) (pc := 48) C ck_8 hvr8 rfl rfl fl_X8_12 dX8_thing_48 ?_
            obtain ⟨a9, hqa9, h9⟩ := zbind h
            clear h
            subst hqa9
            have h := h9
            clear h9
            obtain ⟨v10, hvv10, h⟩ := zbind h
            refine g_getI (N := 20) (pc := 51) C ck_1 hvv10 rfl rfl fl_X8_167 dX8_thing_51 ?_
            refine g_istore (lm' := [(4, tI (v10)), (0, tR (some (h0))), (1, tI (p1)), (2, tI (p2)), (3, tI (p3))]) (pc := 54) C dX8_thing_54 (by decide) rfl ?_
            refine g_iload (pc := 56) C 0 dX8_thing_56 rfl ?_
            refine g_if_lt (pc := 58) C 68 dX8_thing_58 (by decide) (fun c38 => ?_) (fun c38 => ?_)
            · have h := zif_t c38 h
              refine g_sub [1] (lm' := [(0, tR (some (h0)))]) rfl ?_
              exact w_X8_thing_j68 hE C hxn _ _ _ _ h hx
            · have h := zif_f c38 h
              refine g_iload (pc := 61) C 0 dX8_thing_61 rfl ?_
              refine g_bipush (v := 6) (pc := 63) C dX8_thing_63 (by decide) ?_
              refine g_icmp_lt (pc := 65) C 75 dX8_thing_65 (by decide) (fun c37 => ?_) (fun c37 => ?_)
              · have h := zif_t c37 h
                refine g_aload_n (pc := 75) C 0 1 dX8_thing_75 rfl rfl ?_
                obtain ⟨r11, hvr11, h⟩ := zbind h
                refine g_getR (N := 19) (pc := 76) C ck_8 hvr11 rfl rfl fl_X8_12 dX8_thing_76 ?_
                obtain ⟨a12, hqa12, h9⟩ := zbind h
                clear h
                subst hqa12
                have h := h9
                clear h9
                obtain ⟨r13, hvr13, h⟩ := zbind h
                refine g_getR (N := 20) (pc := 79) C ck_1 hvr13 rfl rfl fl_X8_170 dX8_thing_79 ?_
                refine g_iload (pc := 82) C 0 dX8_thing_82 rfl ?_
                refine g_iload_n (pc := 84) C 1 2 dX8_thing_84 rfl rfl ?_
                obtain ⟨a14, hqa14, h9⟩ := zbind h
                clear h
                subst hqa14
                have h := h9
                clear h9
                obtain ⟨σ15, hvσ15, h⟩ := zbind h
                refine g_iast (pc := 85) C hvσ15 dX8_thing_85 ?_
                refine g_aload_n (pc := 86) C 0 1 dX8_thing_86 rfl rfl ?_
                obtain ⟨r16, hvr16, h⟩ := zbind h
                refine g_getR (N := 19) (pc := 87) C ck_8 hvr16 rfl rfl fl_X8_12 dX8_thing_87 ?_
                obtain ⟨a17, hqa17, h9⟩ := zbind h
                clear h
                subst hqa17
                have h := h9
                clear h9
                obtain ⟨r18, hvr18, h⟩ := zbind h
                refine g_getR (N := 20) (pc := 90) C ck_1 hvr18 rfl rfl fl_X8_173 dX8_thing_90 ?_
                refine g_iload (pc := 93) C 0 dX8_thing_93 rfl ?_
                refine g_iload_n (pc := 95) C 2 3 dX8_thing_95 rfl rfl ?_
                obtain ⟨a19, hqa19, h9⟩ := zbind h
                clear h
                subst hqa19
                have h := h9
                clear h9
                obtain ⟨σ20, hvσ20, h⟩ := zbind h
                refine g_iast (pc := 96) C hvσ20 dX8_thing_96 ?_
                refine g_aload_n (pc := 97) C 0 1 dX8_thing_97 rfl rfl ?_
                obtain ⟨r21, hvr21, h⟩ := zbind h
                refine g_getR (N := 19) (pc := 98) C ck_8 hvr21 rfl rfl fl_X8_12 dX8_thing_98 ?_
                obtain ⟨a22, hqa22, h9⟩ := zbind h
                clear h
                subst hqa22
                have h := h9
                clear h9
                obtain ⟨r23, hvr23, h⟩ := zbind h
                refine g_getR (N := 20) (pc := 101) C ck_1 hvr23 rfl rfl fl_X8_176 dX8_thing_101 ?_
                refine g_iload (pc := 104) C 0 dX8_thing_104 rfl ?_
                refine g_iload_n (pc := 106) C 3 4 dX8_thing_106 rfl rfl ?_
                obtain ⟨a24, hqa24, h9⟩ := zbind h
                clear h
                subst hqa24
                have h := h9
                clear h9
                obtain ⟨σ25, hvσ25, h⟩ := zbind h
                refine g_iast (pc := 107) C hvσ25 dX8_thing_107 ?_
                refine g_aload_n (pc := 108) C 0 1 dX8_thing_108 rfl rfl ?_
                obtain ⟨r26, hvr26, h⟩ := zbind h
                refine g_getR (N := 19) (pc := 109) C ck_8 hvr26 rfl rfl fl_X8_12 dX8_thing_109 ?_
                refine g_iload (pc := 112) C 0 dX8_thing_112 rfl ?_
                refine g_iconst (v := 1) (pc := 114) C dX8_thing_114 (by decide) ?_
                refine g_iadd (pc := 115) C dX8_thing_115 ?_
                obtain ⟨a27, hqa27, h9⟩ := zbind h
                clear h
                subst hqa27
                have h := h9
                clear h9
                obtain ⟨σ28, hvσ28, h⟩ := zbind h
                refine g_putI (N := 20) (pc := 116) C ⟨ck_1, rfl, tyX1_ok⟩ hvσ28 rfl fl_X8_167 rfl rfl dX8_thing_116 ?_
                refine g_aload_n (pc := 119) C 0 1 dX8_thing_119 rfl rfl ?_
                obtain ⟨r29, hvr29, h⟩ := zbind h
                refine g_getR (N := 19) (pc := 120) C ck_8 hvr29 rfl rfl fl_X8_54 dX8_thing_120 ?_
                obtain ⟨a30, hqa30, h9⟩ := zbind h
                clear h
                subst hqa30
                have h := h9
                clear h9
                obtain ⟨u31, hvu31, h⟩ := zbind h
                obtain ⟨v33, σ32, hvσ32, h⟩ := zcb h
                refine g_callV (pc := 123) (av := []) C (c_X0_clear hE hvσ32) yv_X0_clear ml_X8_112 ck_0 (zopt hvu31).1 rfl (rf_of (by decide)) rfl (Nat.le_of_ble_eq_true rfl) dX8_thing_123 ?_
                refine g_aload_n (pc := 126) C 0 1 dX8_thing_126 rfl rfl ?_
                refine g_iload (pc := 127) C 0 dX8_thing_127 rfl ?_
                obtain ⟨u34, hvu34, h⟩ := zbind h
                obtain ⟨v36, σ35, hvσ35, h⟩ := zcb h
                refine g_callV (pc := 129) (av := [tI (v10)]) C (c_X8_grant hE hvσ35) yv_X8_grant ml_X8_119 ck_8 (zopt hvu34).1 rfl (rf_of (by decide)) rfl (Nat.le_of_ble_eq_true rfl) dX8_thing_129 ?_
                obtain ⟨rfl, rfl⟩ := zsome h
                exact g_iret (pc := 132) C rfl hx (by rw [hxn]; rfl) (by rw [hxn]; rfl) dX8_thing_132
              · have h := zif_f c37 h
                refine g_sub [1] (lm' := [(0, tR (some (h0)))]) rfl ?_
                exact w_X8_thing_j68 hE C hxn _ _ _ _ h hx
          · have h := zif_t c42 h
            refine g_aload_n (pc := 40) C 0 0 dX8_thing_40 rfl rfl ?_
            refine g_bipush (v := (-2)) (pc := 41) C dX8_thing_41 (by decide) ?_
            obtain ⟨u39, hvu39, h⟩ := zbind h
            obtain ⟨v41, σ40, hvσ40, h⟩ := zcb h
            refine g_callV (pc := 43) (av := [tI ((-2))]) C (c_X8_refuse hE hvσ40) yv_X8_refuse ml_X8_99 ck_8 (zopt hvu39).1 rfl (rf_of (by decide)) rfl (Nat.le_of_ble_eq_true rfl) dX8_thing_43 ?_
            obtain ⟨rfl, rfl⟩ := zsome h
            exact g_iret (pc := 46) C rfl hx (by rw [hxn]; rfl) (by rw [hxn]; rfl) dX8_thing_46
        · have h := zif_f c43 h
          refine g_sub [0] (lm' := [(0, tR (some (h0)))]) rfl ?_
          exact w_X8_thing_j20 hE C hxn _ _ _ _ h hx
def rm_X8_has : Room := { frames := 1, cells := 0, slots := 0, locals := 21 }
noncomputable def s_X8_has (h0 : Nat) (p1 : Int32) (p2 : Int32) (σ : Hp) : Option (Int32 × Hp) :=
  (rdR 8 σ h0 0).bind fun r1 =>
  (r1).bind fun a2 =>
  (ck 1 σ a2).bind fun u3 =>
  cb (s_X1_isThing a2 (p1) σ) fun v5 σ4 =>
  if v5 = 0 then
    some (((-1)), σ4)
  else
    if p2 = 0 then
      (rdR 8 σ4 h0 0).bind fun r6 =>
      (r6).bind fun a7 =>
      (rdR 1 σ4 a7 5).bind fun r8 =>
      (r8).bind fun a9 =>
      (ldI 11 σ4 a9 (p1)).bind fun v10 =>
      some ((v10), σ4)
    else
      if p2 = 1 then
        (rdR 8 σ4 h0 0).bind fun r12 =>
        (r12).bind fun a13 =>
        (rdR 1 σ4 a13 6).bind fun r14 =>
        (r14).bind fun a15 =>
        (ldI 11 σ4 a15 (p1)).bind fun v16 =>
        some ((v16), σ4)
      else
        if p2 = 2 then
          (rdR 8 σ4 h0 0).bind fun r18 =>
          (r18).bind fun a19 =>
          (rdR 1 σ4 a19 7).bind fun r20 =>
          (r20).bind fun a21 =>
          (ldI 11 σ4 a21 (p1)).bind fun v22 =>
          some ((v22), σ4)
        else
          some (((-1)), σ4)
set_option maxRecDepth 100000 in
theorem c_X8_has {E : E0} (hE : EOK E) {h0 : Nat} {p1 : Int32} {p2 : Int32} {σ σ1 : Hp} {r : Int32} (h : s_X8_has h0 p1 p2 σ = some (r, σ1)) : CT E yX8_has (.code yX8_has cX8_has 3 (some .int)) rm_X8_has [tR (some (h0)), tI (p1), tI (p2)] σ (some (tI r)) σ1 := by
  refine CT.mk hE (by decide +kernel) (Nat.le_of_ble_eq_true rfl) [(0, tR (some (h0))), (1, tI (p1)), (2, tI (p2))] rfl (fun X C hin hx hxn => ?_)
  have C : XOK E X cX8_has RX8 3 (some .int) rm_X8_has := C
  unfold s_X8_has at h
  refine g_aload_n (pc := 0) C 0 0 dX8_has_0 rfl rfl ?_
  obtain ⟨r1, hvr1, h⟩ := zbind h
  refine g_getR (N := 19) (pc := 1) C ck_8 hvr1 rfl rfl fl_X8_12 dX8_has_1 ?_
  refine g_iload_n (pc := 4) C 1 1 dX8_has_4 rfl rfl ?_
  obtain ⟨a2, hqa2, h9⟩ := zbind h
  clear h
  subst hqa2
  have h := h9
  clear h9
  obtain ⟨u3, hvu3, h⟩ := zbind h
  obtain ⟨v5, σ4, hvσ4, h⟩ := zcb h
  refine g_callV (pc := 5) (av := [tI (p1)]) C (c_X1_isThing hE hvσ4) yv_X1_isThing ml_X8_179 ck_1 (zopt hvu3).1 rfl (rf_of (by decide)) rfl (Nat.le_of_ble_eq_true rfl) dX8_has_5 ?_
  refine g_if_ne (pc := 8) C 13 dX8_has_8 (by decide) (fun c24 => ?_) (fun c24 => ?_)
  · have h := zif_f c24 h
    refine g_iload_n (pc := 13) C 2 2 dX8_has_13 rfl rfl ?_
    by_cases c11 : p2 = 0
    · refine g_tswIn (pc := 14) C 40 dX8_has_14 (by rw [c11] <;> decide) (by rw [c11] <;> decide) (by rw [c11] <;> rfl) (by decide) ?_
      have h := zif_t c11 h
      refine g_aload_n (pc := 40) C 0 0 dX8_has_40 rfl rfl ?_
      obtain ⟨r6, hvr6, h⟩ := zbind h
      refine g_getR (N := 19) (pc := 41) C ck_8 hvr6 rfl rfl fl_X8_12 dX8_has_41 ?_
      obtain ⟨a7, hqa7, h9⟩ := zbind h
      clear h
      subst hqa7
      have h := h9
      clear h9
      obtain ⟨r8, hvr8, h⟩ := zbind h
      refine g_getR (N := 20) (pc := 44) C ck_1 hvr8 rfl rfl fl_X8_170 dX8_has_44 ?_
      refine g_iload_n (pc := 47) C 1 1 dX8_has_47 rfl rfl ?_
      obtain ⟨a9, hqa9, h9⟩ := zbind h
      clear h
      subst hqa9
      have h := h9
      clear h9
      obtain ⟨v10, hvv10, h⟩ := zbind h
      refine g_iald (pc := 48) C hvv10 dX8_has_48 ?_
      obtain ⟨rfl, rfl⟩ := zsome h
      exact g_iret (pc := 49) C rfl hx (by rw [hxn]; rfl) (by rw [hxn]; rfl) dX8_has_49
    · have h := zif_f c11 h
      by_cases c17 : p2 = 1
      · refine g_tswIn (pc := 14) C 50 dX8_has_14 (by rw [c17] <;> decide) (by rw [c17] <;> decide) (by rw [c17] <;> rfl) (by decide) ?_
        have h := zif_t c17 h
        refine g_aload_n (pc := 50) C 0 0 dX8_has_50 rfl rfl ?_
        obtain ⟨r12, hvr12, h⟩ := zbind h
        refine g_getR (N := 19) (pc := 51) C ck_8 hvr12 rfl rfl fl_X8_12 dX8_has_51 ?_
        obtain ⟨a13, hqa13, h9⟩ := zbind h
        clear h
        subst hqa13
        have h := h9
        clear h9
        obtain ⟨r14, hvr14, h⟩ := zbind h
        refine g_getR (N := 20) (pc := 54) C ck_1 hvr14 rfl rfl fl_X8_173 dX8_has_54 ?_
        refine g_iload_n (pc := 57) C 1 1 dX8_has_57 rfl rfl ?_
        obtain ⟨a15, hqa15, h9⟩ := zbind h
        clear h
        subst hqa15
        have h := h9
        clear h9
        obtain ⟨v16, hvv16, h⟩ := zbind h
        refine g_iald (pc := 58) C hvv16 dX8_has_58 ?_
        obtain ⟨rfl, rfl⟩ := zsome h
        exact g_iret (pc := 59) C rfl hx (by rw [hxn]; rfl) (by rw [hxn]; rfl) dX8_has_59
      · have h := zif_f c17 h
        by_cases c23 : p2 = 2
        · refine g_tswIn (pc := 14) C 60 dX8_has_14 (by rw [c23] <;> decide) (by rw [c23] <;> decide) (by rw [c23] <;> rfl) (by decide) ?_
          have h := zif_t c23 h
          refine g_aload_n (pc := 60) C 0 0 dX8_has_60 rfl rfl ?_
          obtain ⟨r18, hvr18, h⟩ := zbind h
          refine g_getR (N := 19) (pc := 61) C ck_8 hvr18 rfl rfl fl_X8_12 dX8_has_61 ?_
          obtain ⟨a19, hqa19, h9⟩ := zbind h
          clear h
          subst hqa19
          have h := h9
          clear h9
          obtain ⟨r20, hvr20, h⟩ := zbind h
          refine g_getR (N := 20) (pc := 64) C ck_1 hvr20 rfl rfl fl_X8_176 dX8_has_64 ?_
          refine g_iload_n (pc := 67) C 1 1 dX8_has_67 rfl rfl ?_
          obtain ⟨a21, hqa21, h9⟩ := zbind h
          clear h
          subst hqa21
          have h := h9
          clear h9
          obtain ⟨v22, hvv22, h⟩ := zbind h
          refine g_iald (pc := 68) C hvv22 dX8_has_68 ?_
          obtain ⟨rfl, rfl⟩ := zsome h
          exact g_iret (pc := 69) C rfl hx (by rw [hxn]; rfl) (by rw [hxn]; rfl) dX8_has_69
        · have h := zif_f c23 h
          refine g_tswOut (pc := 14) C 70 dX8_has_14 (by have ec11 := n32 (k := 0) (n := 0) (by decide) c11; have ec17 := n32 (k := 1) (n := 1) (by decide) c17; have ec23 := n32 (k := 2) (n := 2) (by decide) c23; omega) (by decide) ?_
          refine g_iconst (v := (-1)) (pc := 70) C dX8_has_70 (by decide) ?_
          obtain ⟨rfl, rfl⟩ := zsome h
          exact g_iret (pc := 71) C rfl hx (by rw [hxn]; rfl) (by rw [hxn]; rfl) dX8_has_71
  · have h := zif_t c24 h
    refine g_iconst (v := (-1)) (pc := 11) C dX8_has_11 (by decide) ?_
    obtain ⟨rfl, rfl⟩ := zsome h
    exact g_iret (pc := 12) C rfl hx (by rw [hxn]; rfl) (by rw [hxn]; rfl) dX8_has_12
def rm_X8_link : Room := { frames := 2, cells := 0, slots := 0, locals := 44 }
noncomputable def s_X8_link_j12 (h0 : Nat) (σ : Hp) : Option (Int32 × Hp) :=
  (ck 8 σ h0).bind fun u1 =>
  cb (s_X8_refuse h0 ((-1)) σ) fun v3 σ2 =>
  some ((v3), σ2)
set_option maxRecDepth 100000 in
theorem w_X8_link_j12 {E : E0} (hE : EOK E) {X : X0} (C : XOK E X cX8_link RX8 5 (some .int) rm_X8_link) (hxn : xn X = (rm_X8_link.cells, rm_X8_link.slots)) (h0 : Nat) (σ : Hp) (r : Int32) (σ1 : Hp) (h : s_X8_link_j12 h0 σ = some (r, σ1)) (hx : xd X = (some (tI r), σ1)) : G E X 0 0 12 [(0, tR (some (h0)))] [] σ := by
  unfold s_X8_link_j12 at h
  refine g_aload_n (pc := 12) C 0 0 dX8_link_12 rfl rfl ?_
  refine g_iconst (v := (-1)) (pc := 13) C dX8_link_13 (by decide) ?_
  obtain ⟨u1, hvu1, h⟩ := zbind h
  obtain ⟨v3, σ2, hvσ2, h⟩ := zcb h
  refine g_callV (pc := 14) (av := [tI ((-1))]) C (c_X8_refuse hE hvσ2) yv_X8_refuse ml_X8_99 ck_8 (zopt hvu1).1 rfl (rf_of (by decide)) rfl (Nat.le_of_ble_eq_true rfl) dX8_link_14 ?_
  obtain ⟨rfl, rfl⟩ := zsome h
  exact g_iret (pc := 17) C rfl hx (by rw [hxn]; rfl) (by rw [hxn]; rfl) dX8_link_17
noncomputable def s_X8_link_j46 (h0 : Nat) (σ : Hp) : Option (Int32 × Hp) :=
  (ck 8 σ h0).bind fun u1 =>
  cb (s_X8_refuse h0 ((-2)) σ) fun v3 σ2 =>
  some ((v3), σ2)
set_option maxRecDepth 100000 in
theorem w_X8_link_j46 {E : E0} (hE : EOK E) {X : X0} (C : XOK E X cX8_link RX8 5 (some .int) rm_X8_link) (hxn : xn X = (rm_X8_link.cells, rm_X8_link.slots)) (h0 : Nat) (σ : Hp) (r : Int32) (σ1 : Hp) (h : s_X8_link_j46 h0 σ = some (r, σ1)) (hx : xd X = (some (tI r), σ1)) : G E X 0 0 46 [(0, tR (some (h0)))] [] σ := by
  unfold s_X8_link_j46 at h
  refine g_aload_n (pc := 46) C 0 0 dX8_link_46 rfl rfl ?_
  refine g_bipush (v := (-2)) (pc := 47) C dX8_link_47 (by decide) ?_
  obtain ⟨u1, hvu1, h⟩ := zbind h
  obtain ⟨v3, σ2, hvσ2, h⟩ := zcb h
  refine g_callV (pc := 49) (av := [tI ((-2))]) C (c_X8_refuse hE hvσ2) yv_X8_refuse ml_X8_99 ck_8 (zopt hvu1).1 rfl (rf_of (by decide)) rfl (Nat.le_of_ble_eq_true rfl) dX8_link_49 ?_
  obtain ⟨rfl, rfl⟩ := zsome h
  exact g_iret (pc := 52) C rfl hx (by rw [hxn]; rfl) (by rw [hxn]; rfl) dX8_link_52
noncomputable def s_X8_link (h0 : Nat) (p1 : Int32) (p2 : Int32) (p3 : Int32) (σ : Hp) : Option (Int32 × Hp) :=
  if p1 = p2 then
    s_X8_link_j12 (h0) σ
  else
    cb (s_X3_canBeLong (p3) σ) fun v2 σ1 =>
    if v2 = 0 then
      s_X8_link_j12 (h0) σ1
    else
      (rdR 8 σ1 h0 0).bind fun r3 =>
      (r3).bind fun a4 =>
      (rdR 1 σ1 a4 0).bind fun r5 =>
      (r5).bind fun a6 =>
      (ck 3 σ1 a6).bind fun u7 =>
      cb (s_X3_isOne a6 (p1) σ1) fun v9 σ8 =>
      if v9 = 0 then
        s_X8_link_j46 (h0) σ8
      else
        (rdR 8 σ8 h0 0).bind fun r10 =>
        (r10).bind fun a11 =>
        (rdR 1 σ8 a11 0).bind fun r12 =>
        (r12).bind fun a13 =>
        (ck 3 σ8 a13).bind fun u14 =>
        cb (s_X3_isOne a13 (p2) σ8) fun v16 σ15 =>
        if v16 = 0 then
          s_X8_link_j46 (h0) σ15
        else
          (rdR 8 σ15 h0 0).bind fun r17 =>
          (r17).bind fun a18 =>
          (rdR 1 σ15 a18 0).bind fun r19 =>
          (r19).bind fun a20 =>
          (ck 3 σ15 a20).bind fun u21 =>
          cb (s_X3_between a20 (p1) (p2) σ15) fun v23 σ22 =>
          (rdR 8 σ22 h0 0).bind fun r24 =>
          (r24).bind fun a25 =>
          (rdR 1 σ22 a25 0).bind fun r26 =>
          (r26).bind fun a27 =>
          (ck 3 σ22 a27).bind fun u28 =>
          cb (s_X3_join a27 (p1) (p2) (p3) σ22) fun v30 σ29 =>
          (ck 8 σ29 h0).bind fun u31 =>
          cb (s_X8_grant h0 (v23) σ29) fun v33 σ32 =>
          some ((v33), σ32)
set_option maxRecDepth 100000 in
theorem c_X8_link {E : E0} (hE : EOK E) {h0 : Nat} {p1 : Int32} {p2 : Int32} {p3 : Int32} {σ σ1 : Hp} {r : Int32} (h : s_X8_link h0 p1 p2 p3 σ = some (r, σ1)) : CT E yX8_link (.code yX8_link cX8_link 5 (some .int)) rm_X8_link [tR (some (h0)), tI (p1), tI (p2), tI (p3)] σ (some (tI r)) σ1 := by
  refine CT.mk hE (by decide +kernel) (Nat.le_of_ble_eq_true rfl) [(0, tR (some (h0))), (1, tI (p1)), (2, tI (p2)), (3, tI (p3))] rfl (fun X C hin hx hxn => ?_)
  have C : XOK E X cX8_link RX8 5 (some .int) rm_X8_link := C
  unfold s_X8_link at h
  refine g_iload_n (pc := 0) C 1 1 dX8_link_0 rfl rfl ?_
  refine g_iload_n (pc := 1) C 2 2 dX8_link_1 rfl rfl ?_
  refine g_icmp_eq (pc := 2) C 12 dX8_link_2 (by decide) (fun c37 => ?_) (fun c37 => ?_)
  · have h := zif_t c37 h
    refine g_sub [0] (lm' := [(0, tR (some (h0)))]) rfl ?_
    exact w_X8_link_j12 hE C hxn _ _ _ _ h hx
  · have h := zif_f c37 h
    refine g_iload_n (pc := 5) C 3 3 dX8_link_5 rfl rfl ?_
    obtain ⟨v2, σ1, hvσ1, h⟩ := zcb h
    refine g_callS (pc := 6) (av := [tI (p3)]) C (c_X3_canBeLong hE hvσ1) ys_X3_canBeLong ml_X8_182 rfl (rf_of (by decide)) rfl (Nat.le_of_ble_eq_true rfl) dX8_link_6 ?_
    refine g_if_ne (pc := 9) C 18 dX8_link_9 (by decide) (fun c36 => ?_) (fun c36 => ?_)
    · have h := zif_f c36 h
      refine g_aload_n (pc := 18) C 0 0 dX8_link_18 rfl rfl ?_
      obtain ⟨r3, hvr3, h⟩ := zbind h
      refine g_getR (N := 19) (pc := 19) C ck_8 hvr3 rfl rfl fl_X8_12 dX8_link_19 ?_
      obtain ⟨a4, hqa4, h9⟩ := zbind h
      clear h
      subst hqa4
      have h := h9
      clear h9
      obtain ⟨r5, hvr5, h⟩ := zbind h
      refine g_getR (N := 20) (pc := 22) C ck_1 hvr5 rfl rfl fl_X8_103 dX8_link_22 ?_
      refine g_iload_n (pc := 25) C 1 1 dX8_link_25 rfl rfl ?_
      obtain ⟨a6, hqa6, h9⟩ := zbind h
      clear h
      subst hqa6
      have h := h9
      clear h9
      obtain ⟨u7, hvu7, h⟩ := zbind h
      obtain ⟨v9, σ8, hvσ8, h⟩ := zcb h
      refine g_callV (pc := 26) (av := [tI (p1)]) C (c_X3_isOne hE hvσ8) yv_X3_isOne ml_X8_122 ck_3 (zopt hvu7).1 rfl (rf_of (by decide)) rfl (Nat.le_of_ble_eq_true rfl) dX8_link_26 ?_
      refine g_if_eq (pc := 29) C 46 dX8_link_29 (by decide) (fun c35 => ?_) (fun c35 => ?_)
      · have h := zif_t c35 h
        refine g_sub [0] (lm' := [(0, tR (some (h0)))]) rfl ?_
        exact w_X8_link_j46 hE C hxn _ _ _ _ h hx
      · have h := zif_f c35 h
        refine g_aload_n (pc := 32) C 0 0 dX8_link_32 rfl rfl ?_
        obtain ⟨r10, hvr10, h⟩ := zbind h
        refine g_getR (N := 19) (pc := 33) C ck_8 hvr10 rfl rfl fl_X8_12 dX8_link_33 ?_
        obtain ⟨a11, hqa11, h9⟩ := zbind h
        clear h
        subst hqa11
        have h := h9
        clear h9
        obtain ⟨r12, hvr12, h⟩ := zbind h
        refine g_getR (N := 20) (pc := 36) C ck_1 hvr12 rfl rfl fl_X8_103 dX8_link_36 ?_
        refine g_iload_n (pc := 39) C 2 2 dX8_link_39 rfl rfl ?_
        obtain ⟨a13, hqa13, h9⟩ := zbind h
        clear h
        subst hqa13
        have h := h9
        clear h9
        obtain ⟨u14, hvu14, h⟩ := zbind h
        obtain ⟨v16, σ15, hvσ15, h⟩ := zcb h
        refine g_callV (pc := 40) (av := [tI (p2)]) C (c_X3_isOne hE hvσ15) yv_X3_isOne ml_X8_122 ck_3 (zopt hvu14).1 rfl (rf_of (by decide)) rfl (Nat.le_of_ble_eq_true rfl) dX8_link_40 ?_
        refine g_if_ne (pc := 43) C 53 dX8_link_43 (by decide) (fun c34 => ?_) (fun c34 => ?_)
        · have h := zif_f c34 h
          refine g_aload_n (pc := 53) C 0 0 dX8_link_53 rfl rfl ?_
          obtain ⟨r17, hvr17, h⟩ := zbind h
          refine g_getR (N := 19) (pc := 54) C ck_8 hvr17 rfl rfl fl_X8_12 dX8_link_54 ?_
          obtain ⟨a18, hqa18, h9⟩ := zbind h
          clear h
          subst hqa18
          have h := h9
          clear h9
          obtain ⟨r19, hvr19, h⟩ := zbind h
          refine g_getR (N := 20) (pc := 57) C ck_1 hvr19 rfl rfl fl_X8_103 dX8_link_57 ?_
          refine g_iload_n (pc := 60) C 1 1 dX8_link_60 rfl rfl ?_
          refine g_iload_n (pc := 61) C 2 2 dX8_link_61 rfl rfl ?_
          obtain ⟨a20, hqa20, h9⟩ := zbind h
          clear h
          subst hqa20
          have h := h9
          clear h9
          obtain ⟨u21, hvu21, h⟩ := zbind h
          obtain ⟨v23, σ22, hvσ22, h⟩ := zcb h
          refine g_callV (pc := 62) (av := [tI (p1), tI (p2)]) C (c_X3_between hE hvσ22) yv_X3_between ml_X8_139 ck_3 (zopt hvu21).1 rfl (rf_of (by decide)) rfl (Nat.le_of_ble_eq_true rfl) dX8_link_62 ?_
          refine g_istore (lm' := [(4, tI (v23)), (0, tR (some (h0))), (1, tI (p1)), (2, tI (p2)), (3, tI (p3))]) (pc := 65) C dX8_link_65 (by decide) rfl ?_
          refine g_aload_n (pc := 67) C 0 1 dX8_link_67 rfl rfl ?_
          obtain ⟨r24, hvr24, h⟩ := zbind h
          refine g_getR (N := 19) (pc := 68) C ck_8 hvr24 rfl rfl fl_X8_12 dX8_link_68 ?_
          obtain ⟨a25, hqa25, h9⟩ := zbind h
          clear h
          subst hqa25
          have h := h9
          clear h9
          obtain ⟨r26, hvr26, h⟩ := zbind h
          refine g_getR (N := 20) (pc := 71) C ck_1 hvr26 rfl rfl fl_X8_103 dX8_link_71 ?_
          refine g_iload_n (pc := 74) C 1 2 dX8_link_74 rfl rfl ?_
          refine g_iload_n (pc := 75) C 2 3 dX8_link_75 rfl rfl ?_
          refine g_iload_n (pc := 76) C 3 4 dX8_link_76 rfl rfl ?_
          obtain ⟨a27, hqa27, h9⟩ := zbind h
          clear h
          subst hqa27
          have h := h9
          clear h9
          obtain ⟨u28, hvu28, h⟩ := zbind h
          obtain ⟨v30, σ29, hvσ29, h⟩ := zcb h
          refine g_callV (pc := 77) (av := [tI (p1), tI (p2), tI (p3)]) C (c_X3_join hE hvσ29) yv_X3_join ml_X8_185 ck_3 (zopt hvu28).1 rfl (rf_of (by decide)) rfl (Nat.le_of_ble_eq_true rfl) dX8_link_77 ?_
          refine g_aload_n (pc := 80) C 0 1 dX8_link_80 rfl rfl ?_
          refine g_iload (pc := 81) C 0 dX8_link_81 rfl ?_
          obtain ⟨u31, hvu31, h⟩ := zbind h
          obtain ⟨v33, σ32, hvσ32, h⟩ := zcb h
          refine g_callV (pc := 83) (av := [tI (v23)]) C (c_X8_grant hE hvσ32) yv_X8_grant ml_X8_119 ck_8 (zopt hvu31).1 rfl (rf_of (by decide)) rfl (Nat.le_of_ble_eq_true rfl) dX8_link_83 ?_
          obtain ⟨rfl, rfl⟩ := zsome h
          exact g_iret (pc := 86) C rfl hx (by rw [hxn]; rfl) (by rw [hxn]; rfl) dX8_link_86
        · have h := zif_t c34 h
          refine g_sub [0] (lm' := [(0, tR (some (h0)))]) rfl ?_
          exact w_X8_link_j46 hE C hxn _ _ _ _ h hx
    · have h := zif_t c36 h
      refine g_sub [0] (lm' := [(0, tR (some (h0)))]) rfl ?_
      exact w_X8_link_j12 hE C hxn _ _ _ _ h hx
def rm_X8_room : Room := { frames := 4, cells := 0, slots := 0, locals := 106 }
noncomputable def s_X8_room (h0 : Nat) (p1 : Int32) (p2 : Int32) (σ : Hp) : Option (Int32 × Hp) :=
  cb (s_X8_isRoom (Int32.toInt64 (p1 : Int32)) σ) fun v2 σ1 =>
  if v2 = 0 then
    some (((-1)), σ1)
  else
    if p2 = 0 then
      (rdR 8 σ1 h0 0).bind fun r3 =>
      (rdR 8 σ1 h0 0).bind fun r4 =>
      (r4).bind fun a5 =>
      (ck 1 σ1 a5).bind fun u6 =>
      cb (s_X1_lawInForce a5 σ1) fun r8 σ7 =>
      (rdR 8 σ7 h0 0).bind fun r9 =>
      (r9).bind fun a10 =>
      (rdR 1 σ7 a10 10).bind fun r11 =>
      (r11).bind fun a12 =>
      (ldI 11 σ7 a12 (0)).bind fun v13 =>
      (r3).bind fun a14 =>
      (ck 1 σ7 a14).bind fun u15 =>
      cb (s_X1_theirsBy a14 (r8) (p1) (v13) σ7) fun v17 σ16 =>
      some ((v17), σ16)
    else
      if p2 = 1 then
        (rdR 8 σ1 h0 0).bind fun r19 =>
        (r19).bind fun a20 =>
        (rdR 1 σ1 a20 1).bind fun r21 =>
        (r21).bind fun a22 =>
        (ldI 11 σ1 a22 (p1)).bind fun v23 =>
        some ((v23), σ1)
      else
        if p2 = 2 then
          (rdR 8 σ1 h0 0).bind fun r25 =>
          (r25).bind fun a26 =>
          (ck 1 σ1 a26).bind fun u27 =>
          cb (s_X1_badgersIn a26 (p1) σ1) fun v29 σ28 =>
          some ((v29), σ28)
        else
          some (((-1)), σ1)
set_option maxRecDepth 100000 in
theorem c_X8_room {E : E0} (hE : EOK E) {h0 : Nat} {p1 : Int32} {p2 : Int32} {σ σ1 : Hp} {r : Int32} (h : s_X8_room h0 p1 p2 σ = some (r, σ1)) : CT E yX8_room (.code yX8_room cX8_room 3 (some .int)) rm_X8_room [tR (some (h0)), tI (p1), tI (p2)] σ (some (tI r)) σ1 := by
  refine CT.mk hE (by decide +kernel) (Nat.le_of_ble_eq_true rfl) [(0, tR (some (h0))), (1, tI (p1)), (2, tI (p2))] rfl (fun X C hin hx hxn => ?_)
  have C : XOK E X cX8_room RX8 3 (some .int) rm_X8_room := C
  unfold s_X8_room at h
  refine g_iload_n (pc := 0) C 1 1 dX8_room_0 rfl rfl ?_
  refine g_i2l (pc := 1) C dX8_room_1 ?_
  obtain ⟨v2, σ1, hvσ1, h⟩ := zcb h
  refine g_callS (pc := 2) (av := [tJ (Int32.toInt64 (p1 : Int32))]) C (c_X8_isRoom hE hvσ1) ys_X8_isRoom ml_X8_95 rfl (rf_of (by decide)) rfl (Nat.le_of_ble_eq_true rfl) dX8_room_2 ?_
  refine g_if_ne (pc := 5) C 10 dX8_room_5 (by decide) (fun c31 => ?_) (fun c31 => ?_)
  · have h := zif_f c31 h
    refine g_iload_n (pc := 10) C 2 2 dX8_room_10 rfl rfl ?_
    by_cases c18 : p2 = 0
    · refine g_tswIn (pc := 11) C 36 dX8_room_11 (by rw [c18] <;> decide) (by rw [c18] <;> decide) (by rw [c18] <;> rfl) (by decide) ?_
      have h := zif_t c18 h
      refine g_aload_n (pc := 36) C 0 0 dX8_room_36 rfl rfl ?_
      obtain ⟨r3, hvr3, h⟩ := zbind h
      refine g_getR (N := 19) (pc := 37) C ck_8 hvr3 rfl rfl fl_X8_12 dX8_room_37 ?_
      refine g_aload_n (pc := 40) C 0 0 dX8_room_40 rfl rfl ?_
      obtain ⟨r4, hvr4, h⟩ := zbind h
      refine g_getR (N := 19) (pc := 41) C ck_8 hvr4 rfl rfl fl_X8_12 dX8_room_41 ?_
      obtain ⟨a5, hqa5, h9⟩ := zbind h
      clear h
      subst hqa5
      have h := h9
      clear h9
      obtain ⟨u6, hvu6, h⟩ := zbind h
      obtain ⟨r8, σ7, hvσ7, h⟩ := zcb h
      refine g_callV (pc := 44) (av := []) C (c_X1_lawInForce hE hvσ7) yv_X1_lawInForce ml_X8_189 ck_1 (zopt hvu6).1 rfl (rf_of (by decide)) rfl (Nat.le_of_ble_eq_true rfl) dX8_room_44 ?_
      refine g_iload_n (pc := 47) C 1 1 dX8_room_47 rfl rfl ?_
      refine g_aload_n (pc := 48) C 0 0 dX8_room_48 rfl rfl ?_
      obtain ⟨r9, hvr9, h⟩ := zbind h
      refine g_getR (N := 19) (pc := 49) C ck_8 hvr9 rfl rfl fl_X8_12 dX8_room_49 ?_
      obtain ⟨a10, hqa10, h9⟩ := zbind h
      clear h
      subst hqa10
      have h := h9
      clear h9
      obtain ⟨r11, hvr11, h⟩ := zbind h
      refine g_getR (N := 20) (pc := 52) C ck_1 hvr11 rfl rfl fl_X8_132 dX8_room_52 ?_
      refine g_iconst (v := 0) (pc := 55) C dX8_room_55 (by decide) ?_
      obtain ⟨a12, hqa12, h9⟩ := zbind h
      clear h
      subst hqa12
      have h := h9
      clear h9
      obtain ⟨v13, hvv13, h⟩ := zbind h
      refine g_iald (pc := 56) C hvv13 dX8_room_56 ?_
      obtain ⟨a14, hqa14, h9⟩ := zbind h
      clear h
      subst hqa14
      have h := h9
      clear h9
      obtain ⟨u15, hvu15, h⟩ := zbind h
      obtain ⟨v17, σ16, hvσ16, h⟩ := zcb h
      refine g_callV (pc := 57) (av := [tR (r8), tI (p1), tI (v13)]) C (c_X1_theirsBy hE hvσ16) yv_X1_theirsBy ml_X8_193 ck_1 (zopt hvu15).1 rfl (rf_of (by decide)) rfl (Nat.le_of_ble_eq_true rfl) dX8_room_57 ?_
      obtain ⟨rfl, rfl⟩ := zsome h
      exact g_iret (pc := 60) C rfl hx (by rw [hxn]; rfl) (by rw [hxn]; rfl) dX8_room_60
    · have h := zif_f c18 h
      by_cases c24 : p2 = 1
      · refine g_tswIn (pc := 11) C 61 dX8_room_11 (by rw [c24] <;> decide) (by rw [c24] <;> decide) (by rw [c24] <;> rfl) (by decide) ?_
        have h := zif_t c24 h
        refine g_aload_n (pc := 61) C 0 0 dX8_room_61 rfl rfl ?_
        obtain ⟨r19, hvr19, h⟩ := zbind h
        refine g_getR (N := 19) (pc := 62) C ck_8 hvr19 rfl rfl fl_X8_12 dX8_room_62 ?_
        obtain ⟨a20, hqa20, h9⟩ := zbind h
        clear h
        subst hqa20
        have h := h9
        clear h9
        obtain ⟨r21, hvr21, h⟩ := zbind h
        refine g_getR (N := 20) (pc := 65) C ck_1 hvr21 rfl rfl fl_X8_197 dX8_room_65 ?_
        refine g_iload_n (pc := 68) C 1 1 dX8_room_68 rfl rfl ?_
        obtain ⟨a22, hqa22, h9⟩ := zbind h
        clear h
        subst hqa22
        have h := h9
        clear h9
        obtain ⟨v23, hvv23, h⟩ := zbind h
        refine g_iald (pc := 69) C hvv23 dX8_room_69 ?_
        obtain ⟨rfl, rfl⟩ := zsome h
        exact g_iret (pc := 70) C rfl hx (by rw [hxn]; rfl) (by rw [hxn]; rfl) dX8_room_70
      · have h := zif_f c24 h
        by_cases c30 : p2 = 2
        · refine g_tswIn (pc := 11) C 71 dX8_room_11 (by rw [c30] <;> decide) (by rw [c30] <;> decide) (by rw [c30] <;> rfl) (by decide) ?_
          have h := zif_t c30 h
          refine g_aload_n (pc := 71) C 0 0 dX8_room_71 rfl rfl ?_
          obtain ⟨r25, hvr25, h⟩ := zbind h
          refine g_getR (N := 19) (pc := 72) C ck_8 hvr25 rfl rfl fl_X8_12 dX8_room_72 ?_
          refine g_iload_n (pc := 75) C 1 1 dX8_room_75 rfl rfl ?_
          obtain ⟨a26, hqa26, h9⟩ := zbind h
          clear h
          subst hqa26
          have h := h9
          clear h9
          obtain ⟨u27, hvu27, h⟩ := zbind h
          obtain ⟨v29, σ28, hvσ28, h⟩ := zcb h
          refine g_callV (pc := 76) (av := [tI (p1)]) C (c_X1_badgersIn hE hvσ28) yv_X1_badgersIn ml_X8_200 ck_1 (zopt hvu27).1 rfl (rf_of (by decide)) rfl (Nat.le_of_ble_eq_true rfl) dX8_room_76 ?_
          obtain ⟨rfl, rfl⟩ := zsome h
          exact g_iret (pc := 79) C rfl hx (by rw [hxn]; rfl) (by rw [hxn]; rfl) dX8_room_79
        · have h := zif_f c30 h
          refine g_tswOut (pc := 11) C 80 dX8_room_11 (by have ec18 := n32 (k := 0) (n := 0) (by decide) c18; have ec24 := n32 (k := 1) (n := 1) (by decide) c24; have ec30 := n32 (k := 2) (n := 2) (by decide) c30; omega) (by decide) ?_
          refine g_iconst (v := (-1)) (pc := 80) C dX8_room_80 (by decide) ?_
          obtain ⟨rfl, rfl⟩ := zsome h
          exact g_iret (pc := 81) C rfl hx (by rw [hxn]; rfl) (by rw [hxn]; rfl) dX8_room_81
  · have h := zif_t c31 h
    refine g_iconst (v := (-1)) (pc := 8) C dX8_room_8 (by decide) ?_
    obtain ⟨rfl, rfl⟩ := zsome h
    exact g_iret (pc := 9) C rfl hx (by rw [hxn]; rfl) (by rw [hxn]; rfl) dX8_room_9
def rm_X8_can : Room := { frames := 5, cells := 0, slots := 0, locals := 127 }
noncomputable def s_X8_can (h0 : Nat) (p1 : Int32) (p2 : Int32) (σ : Hp) : Option (Int32 × Hp) :=
  (rdR 8 σ h0 0).bind fun r1 =>
  (r1).bind fun a2 =>
  (ck 1 σ a2).bind fun u3 =>
  cb (s_X1_isFolk a2 (p1) σ) fun v5 σ4 =>
  if v5 = 0 then
    some (((-1)), σ4)
  else
    (rdR 8 σ4 h0 0).bind fun r6 =>
    (r6).bind fun a7 =>
    (rdR 1 σ4 a7 0).bind fun r8 =>
    (r8).bind fun a9 =>
    (ck 3 σ4 a9).bind fun u10 =>
    cb (s_X3_isOne a9 (p2) σ4) fun v12 σ11 =>
    if v12 = 0 then
      some (((-1)), σ11)
    else
      (rdR 8 σ11 h0 0).bind fun r13 =>
      (r13).bind fun a14 =>
      (ck 1 σ11 a14).bind fun u15 =>
      cb (s_X1_mayStride a14 (p1) (p2) σ11) fun v17 σ16 =>
      if v17 = 0 then
        some ((0), σ16)
      else
        some ((1), σ16)
set_option maxRecDepth 100000 in
theorem c_X8_can {E : E0} (hE : EOK E) {h0 : Nat} {p1 : Int32} {p2 : Int32} {σ σ1 : Hp} {r : Int32} (h : s_X8_can h0 p1 p2 σ = some (r, σ1)) : CT E yX8_can (.code yX8_can cX8_can 3 (some .int)) rm_X8_can [tR (some (h0)), tI (p1), tI (p2)] σ (some (tI r)) σ1 := by
  refine CT.mk hE (by decide +kernel) (Nat.le_of_ble_eq_true rfl) [(0, tR (some (h0))), (1, tI (p1)), (2, tI (p2))] rfl (fun X C hin hx hxn => ?_)
  have C : XOK E X cX8_can RX8 3 (some .int) rm_X8_can := C
  unfold s_X8_can at h
  refine g_aload_n (pc := 0) C 0 0 dX8_can_0 rfl rfl ?_
  obtain ⟨r1, hvr1, h⟩ := zbind h
  refine g_getR (N := 19) (pc := 1) C ck_8 hvr1 rfl rfl fl_X8_12 dX8_can_1 ?_
  refine g_iload_n (pc := 4) C 1 1 dX8_can_4 rfl rfl ?_
  obtain ⟨a2, hqa2, h9⟩ := zbind h
  clear h
  subst hqa2
  have h := h9
  clear h9
  obtain ⟨u3, hvu3, h⟩ := zbind h
  obtain ⟨v5, σ4, hvσ4, h⟩ := zcb h
  refine g_callV (pc := 5) (av := [tI (p1)]) C (c_X1_isFolk hE hvσ4) yv_X1_isFolk ml_X8_151 ck_1 (zopt hvu3).1 rfl (rf_of (by decide)) rfl (Nat.le_of_ble_eq_true rfl) dX8_can_5 ?_
  refine g_if_eq (pc := 8) C 25 dX8_can_8 (by decide) (fun c20 => ?_) (fun c20 => ?_)
  · have h := zif_t c20 h
    refine g_iconst (v := (-1)) (pc := 25) C dX8_can_25 (by decide) ?_
    obtain ⟨rfl, rfl⟩ := zsome h
    exact g_iret (pc := 26) C rfl hx (by rw [hxn]; rfl) (by rw [hxn]; rfl) dX8_can_26
  · have h := zif_f c20 h
    refine g_aload_n (pc := 11) C 0 0 dX8_can_11 rfl rfl ?_
    obtain ⟨r6, hvr6, h⟩ := zbind h
    refine g_getR (N := 19) (pc := 12) C ck_8 hvr6 rfl rfl fl_X8_12 dX8_can_12 ?_
    obtain ⟨a7, hqa7, h9⟩ := zbind h
    clear h
    subst hqa7
    have h := h9
    clear h9
    obtain ⟨r8, hvr8, h⟩ := zbind h
    refine g_getR (N := 20) (pc := 15) C ck_1 hvr8 rfl rfl fl_X8_103 dX8_can_15 ?_
    refine g_iload_n (pc := 18) C 2 2 dX8_can_18 rfl rfl ?_
    obtain ⟨a9, hqa9, h9⟩ := zbind h
    clear h
    subst hqa9
    have h := h9
    clear h9
    obtain ⟨u10, hvu10, h⟩ := zbind h
    obtain ⟨v12, σ11, hvσ11, h⟩ := zcb h
    refine g_callV (pc := 19) (av := [tI (p2)]) C (c_X3_isOne hE hvσ11) yv_X3_isOne ml_X8_122 ck_3 (zopt hvu10).1 rfl (rf_of (by decide)) rfl (Nat.le_of_ble_eq_true rfl) dX8_can_19 ?_
    refine g_if_ne (pc := 22) C 27 dX8_can_22 (by decide) (fun c19 => ?_) (fun c19 => ?_)
    · have h := zif_f c19 h
      refine g_aload_n (pc := 27) C 0 0 dX8_can_27 rfl rfl ?_
      obtain ⟨r13, hvr13, h⟩ := zbind h
      refine g_getR (N := 19) (pc := 28) C ck_8 hvr13 rfl rfl fl_X8_12 dX8_can_28 ?_
      refine g_iload_n (pc := 31) C 1 1 dX8_can_31 rfl rfl ?_
      refine g_iload_n (pc := 32) C 2 2 dX8_can_32 rfl rfl ?_
      obtain ⟨a14, hqa14, h9⟩ := zbind h
      clear h
      subst hqa14
      have h := h9
      clear h9
      obtain ⟨u15, hvu15, h⟩ := zbind h
      obtain ⟨v17, σ16, hvσ16, h⟩ := zcb h
      refine g_callV (pc := 33) (av := [tI (p1), tI (p2)]) C (c_X1_mayStride hE hvσ16) yv_X1_mayStride ml_X8_203 ck_1 (zopt hvu15).1 rfl (rf_of (by decide)) rfl (Nat.le_of_ble_eq_true rfl) dX8_can_33 ?_
      refine g_if_eq (pc := 36) C 43 dX8_can_36 (by decide) (fun c18 => ?_) (fun c18 => ?_)
      · have h := zif_t c18 h
        refine g_iconst (v := 0) (pc := 43) C dX8_can_43 (by decide) ?_
        obtain ⟨rfl, rfl⟩ := zsome h
        exact g_iret (pc := 44) C rfl hx (by rw [hxn]; rfl) (by rw [hxn]; rfl) dX8_can_44
      · have h := zif_f c18 h
        refine g_iconst (v := 1) (pc := 39) C dX8_can_39 (by decide) ?_
        refine g_goto (pc := 40) C 44 dX8_can_40 (by decide) ?_
        obtain ⟨rfl, rfl⟩ := zsome h
        exact g_iret (pc := 44) C rfl hx (by rw [hxn]; rfl) (by rw [hxn]; rfl) dX8_can_44
    · have h := zif_t c19 h
      refine g_iconst (v := (-1)) (pc := 25) C dX8_can_25 (by decide) ?_
      obtain ⟨rfl, rfl⟩ := zsome h
      exact g_iret (pc := 26) C rfl hx (by rw [hxn]; rfl) (by rw [hxn]; rfl) dX8_can_26
def rm_X8_mostOfTerm : Room := { frames := 0, cells := 0, slots := 0, locals := 0 }
noncomputable def s_X8_mostOfTerm (p0 : Int32) (σ : Hp) : Option (Int32 × Hp) :=
  if p0 = 0 then
    some ((999), σ)
  else
    if p0 = 1 then
      some ((10), σ)
    else
      some ((9), σ)
set_option maxRecDepth 100000 in
theorem c_X8_mostOfTerm {E : E0} (hE : EOK E) {p0 : Int32} {σ σ1 : Hp} {r : Int32} (h : s_X8_mostOfTerm p0 σ = some (r, σ1)) : CT E yX8_mostOfTerm (.code yX8_mostOfTerm cX8_mostOfTerm 1 (some .int)) rm_X8_mostOfTerm [tI (p0)] σ (some (tI r)) σ1 := by
  refine CT.mk hE (by decide +kernel) (Nat.le_of_ble_eq_true rfl) [(0, tI (p0))] rfl (fun X C hin hx hxn => ?_)
  have C : XOK E X cX8_mostOfTerm RX8 1 (some .int) rm_X8_mostOfTerm := C
  unfold s_X8_mostOfTerm at h
  refine g_iload_n (pc := 0) C 0 0 dX8_mostOfTerm_0 rfl rfl ?_
  by_cases c1 : p0 = 0
  · refine g_lsw (pc := 1) C 28 dX8_mostOfTerm_1 (by decide) (by rw [c1] <;> rfl) (by decide) ?_
    have h := zif_t c1 h
    refine g_sipush (v := 999) (pc := 28) C dX8_mostOfTerm_28 (by decide) ?_
    obtain ⟨rfl, rfl⟩ := zsome h
    exact g_iret (pc := 31) C rfl hx (by rw [hxn]; rfl) (by rw [hxn]; rfl) dX8_mostOfTerm_31
  · have h := zif_f c1 h
    by_cases c2 : p0 = 1
    · refine g_lsw (pc := 1) C 32 dX8_mostOfTerm_1 (by decide) (by rw [c2] <;> rfl) (by decide) ?_
      have h := zif_t c2 h
      refine g_bipush (v := 10) (pc := 32) C dX8_mostOfTerm_32 (by decide) ?_
      obtain ⟨rfl, rfl⟩ := zsome h
      exact g_iret (pc := 34) C rfl hx (by rw [hxn]; rfl) (by rw [hxn]; rfl) dX8_mostOfTerm_34
    · have h := zif_f c2 h
      refine g_lsw (pc := 1) C 35 dX8_mostOfTerm_1 (by decide) (lsw_def (by have ec1 := n32 (k := 0) (n := 0) (by decide) c1; have ec2 := n32 (k := 1) (n := 1) (by decide) c2; simp only [List.mem_cons, List.not_mem_nil, or_false, forall_eq_or_imp, forall_eq]; omega)) (by decide) ?_
      refine g_bipush (v := 9) (pc := 35) C dX8_mostOfTerm_35 (by decide) ?_
      obtain ⟨rfl, rfl⟩ := zsome h
      exact g_iret (pc := 37) C rfl hx (by rw [hxn]; rfl) (by rw [hxn]; rfl) dX8_mostOfTerm_37
def rm_X8_terms : Room := { frames := 2, cells := 0, slots := 0, locals := 42 }
noncomputable def s_X8_terms_j21 (h0 : Nat) (σ : Hp) : Option (Int32 × Hp) :=
  (ck 8 σ h0).bind fun u1 =>
  cb (s_X8_refuse h0 ((-1)) σ) fun v3 σ2 =>
  some ((v3), σ2)
set_option maxRecDepth 100000 in
theorem w_X8_terms_j21 {E : E0} (hE : EOK E) {X : X0} (C : XOK E X cX8_terms RX8 4 (some .int) rm_X8_terms) (hxn : xn X = (rm_X8_terms.cells, rm_X8_terms.slots)) (h0 : Nat) (σ : Hp) (r : Int32) (σ1 : Hp) (h : s_X8_terms_j21 h0 σ = some (r, σ1)) (hx : xd X = (some (tI r), σ1)) : G E X 0 0 21 [(0, tR (some (h0)))] [] σ := by
  unfold s_X8_terms_j21 at h
  refine g_aload_n (pc := 21) C 0 0 dX8_terms_21 rfl rfl ?_
  refine g_iconst (v := (-1)) (pc := 22) C dX8_terms_22 (by decide) ?_
  obtain ⟨u1, hvu1, h⟩ := zbind h
  obtain ⟨v3, σ2, hvσ2, h⟩ := zcb h
  refine g_callV (pc := 23) (av := [tI ((-1))]) C (c_X8_refuse hE hvσ2) yv_X8_refuse ml_X8_99 ck_8 (zopt hvu1).1 rfl (rf_of (by decide)) rfl (Nat.le_of_ble_eq_true rfl) dX8_terms_23 ?_
  obtain ⟨rfl, rfl⟩ := zsome h
  exact g_iret (pc := 26) C rfl hx (by rw [hxn]; rfl) (by rw [hxn]; rfl) dX8_terms_26
noncomputable def s_X8_terms (h0 : Nat) (p1 : Int32) (p2 : Int32) (σ : Hp) : Option (Int32 × Hp) :=
  if p1 < 0 then
    s_X8_terms_j21 (h0) σ
  else
    if 3 ≤ p1 then
      s_X8_terms_j21 (h0) σ
    else
      if p2 < 0 then
        s_X8_terms_j21 (h0) σ
      else
        cb (s_X8_mostOfTerm (p1) σ) fun v2 σ1 =>
        if p2 ≤ v2 then
          (rdR 8 σ1 h0 0).bind fun r3 =>
          (r3).bind fun a4 =>
          (rdR 1 σ1 a4 10).bind fun r5 =>
          (r5).bind fun a6 =>
          (ldI 11 σ1 a6 (p1)).bind fun v7 =>
          (rdR 8 σ1 h0 0).bind fun r8 =>
          (r8).bind fun a9 =>
          (rdR 1 σ1 a9 10).bind fun r10 =>
          (r10).bind fun a11 =>
          (stI σ1 a11 (p1) (p2)).bind fun σ12 =>
          (rdR 8 σ12 h0 8).bind fun r13 =>
          (r13).bind fun a14 =>
          (ck 0 σ12 a14).bind fun u15 =>
          cb (s_X0_clear a14 σ12) fun v17 σ16 =>
          (ck 8 σ16 h0).bind fun u18 =>
          cb (s_X8_grant h0 (v7) σ16) fun v20 σ19 =>
          some ((v20), σ19)
        else
          s_X8_terms_j21 (h0) σ1
set_option maxRecDepth 100000 in
theorem c_X8_terms {E : E0} (hE : EOK E) {h0 : Nat} {p1 : Int32} {p2 : Int32} {σ σ1 : Hp} {r : Int32} (h : s_X8_terms h0 p1 p2 σ = some (r, σ1)) : CT E yX8_terms (.code yX8_terms cX8_terms 4 (some .int)) rm_X8_terms [tR (some (h0)), tI (p1), tI (p2)] σ (some (tI r)) σ1 := by
  refine CT.mk hE (by decide +kernel) (Nat.le_of_ble_eq_true rfl) [(0, tR (some (h0))), (1, tI (p1)), (2, tI (p2))] rfl (fun X C hin hx hxn => ?_)
  have C : XOK E X cX8_terms RX8 4 (some .int) rm_X8_terms := C
  unfold s_X8_terms at h
  refine g_iload_n (pc := 0) C 1 1 dX8_terms_0 rfl rfl ?_
  refine g_if_lt (pc := 1) C 21 dX8_terms_1 (by decide) (fun c24 => ?_) (fun c24 => ?_)
  · have h := zif_t c24 h
    refine g_sub [0] (lm' := [(0, tR (some (h0)))]) rfl ?_
    exact w_X8_terms_j21 hE C hxn _ _ _ _ h hx
  · have h := zif_f c24 h
    refine g_iload_n (pc := 4) C 1 1 dX8_terms_4 rfl rfl ?_
    refine g_iconst (v := 3) (pc := 5) C dX8_terms_5 (by decide) ?_
    refine g_icmp_ge (pc := 6) C 21 dX8_terms_6 (by decide) (fun c23 => ?_) (fun c23 => ?_)
    · have h := zif_t c23 h
      refine g_sub [0] (lm' := [(0, tR (some (h0)))]) rfl ?_
      exact w_X8_terms_j21 hE C hxn _ _ _ _ h hx
    · have h := zif_f c23 h
      refine g_iload_n (pc := 9) C 2 2 dX8_terms_9 rfl rfl ?_
      refine g_if_lt (pc := 10) C 21 dX8_terms_10 (by decide) (fun c22 => ?_) (fun c22 => ?_)
      · have h := zif_t c22 h
        refine g_sub [0] (lm' := [(0, tR (some (h0)))]) rfl ?_
        exact w_X8_terms_j21 hE C hxn _ _ _ _ h hx
      · have h := zif_f c22 h
        refine g_iload_n (pc := 13) C 2 2 dX8_terms_13 rfl rfl ?_
        refine g_iload_n (pc := 14) C 1 1 dX8_terms_14 rfl rfl ?_
        obtain ⟨v2, σ1, hvσ1, h⟩ := zcb h
        refine g_callS (pc := 15) (av := [tI (p1)]) C (c_X8_mostOfTerm hE hvσ1) ys_X8_mostOfTerm ml_X8_206 rfl (rf_of (by decide)) rfl (Nat.le_of_ble_eq_true rfl) dX8_terms_15 ?_
        refine g_icmp_le (pc := 18) C 27 dX8_terms_18 (by decide) (fun c21 => ?_) (fun c21 => ?_)
        · have h := zif_t c21 h
          refine g_aload_n (pc := 27) C 0 0 dX8_terms_27 rfl rfl ?_
          obtain ⟨r3, hvr3, h⟩ := zbind h
          refine g_getR (N := 19) (pc := 28) C ck_8 hvr3 rfl rfl fl_X8_12 dX8_terms_28 ?_
          obtain ⟨a4, hqa4, h9⟩ := zbind h
          clear h
          subst hqa4
          have h := h9
          clear h9
          obtain ⟨r5, hvr5, h⟩ := zbind h
          refine g_getR (N := 20) (pc := 31) C ck_1 hvr5 rfl rfl fl_X8_132 dX8_terms_31 ?_
          refine g_iload_n (pc := 34) C 1 1 dX8_terms_34 rfl rfl ?_
          obtain ⟨a6, hqa6, h9⟩ := zbind h
          clear h
          subst hqa6
          have h := h9
          clear h9
          obtain ⟨v7, hvv7, h⟩ := zbind h
          refine g_iald (pc := 35) C hvv7 dX8_terms_35 ?_
          refine g_istore_n (lm' := [(3, tI (v7)), (0, tR (some (h0))), (1, tI (p1)), (2, tI (p2))]) (pc := 36) C 3 dX8_terms_36 rfl (by decide) rfl ?_
          refine g_aload_n (pc := 37) C 0 1 dX8_terms_37 rfl rfl ?_
          obtain ⟨r8, hvr8, h⟩ := zbind h
          refine g_getR (N := 19) (pc := 38) C ck_8 hvr8 rfl rfl fl_X8_12 dX8_terms_38 ?_
          obtain ⟨a9, hqa9, h9⟩ := zbind h
          clear h
          subst hqa9
          have h := h9
          clear h9
          obtain ⟨r10, hvr10, h⟩ := zbind h
          refine g_getR (N := 20) (pc := 41) C ck_1 hvr10 rfl rfl fl_X8_132 dX8_terms_41 ?_
          refine g_iload_n (pc := 44) C 1 2 dX8_terms_44 rfl rfl ?_
          refine g_iload_n (pc := 45) C 2 3 dX8_terms_45 rfl rfl ?_
          obtain ⟨a11, hqa11, h9⟩ := zbind h
          clear h
          subst hqa11
          have h := h9
          clear h9
          obtain ⟨σ12, hvσ12, h⟩ := zbind h
          refine g_iast (pc := 46) C hvσ12 dX8_terms_46 ?_
          refine g_aload_n (pc := 47) C 0 1 dX8_terms_47 rfl rfl ?_
          obtain ⟨r13, hvr13, h⟩ := zbind h
          refine g_getR (N := 19) (pc := 48) C ck_8 hvr13 rfl rfl fl_X8_54 dX8_terms_48 ?_
          obtain ⟨a14, hqa14, h9⟩ := zbind h
          clear h
          subst hqa14
          have h := h9
          clear h9
          obtain ⟨u15, hvu15, h⟩ := zbind h
          obtain ⟨v17, σ16, hvσ16, h⟩ := zcb h
          refine g_callV (pc := 51) (av := []) C (c_X0_clear hE hvσ16) yv_X0_clear ml_X8_112 ck_0 (zopt hvu15).1 rfl (rf_of (by decide)) rfl (Nat.le_of_ble_eq_true rfl) dX8_terms_51 ?_
          refine g_aload_n (pc := 54) C 0 1 dX8_terms_54 rfl rfl ?_
          refine g_iload_n (pc := 55) C 3 0 dX8_terms_55 rfl rfl ?_
          obtain ⟨u18, hvu18, h⟩ := zbind h
          obtain ⟨v20, σ19, hvσ19, h⟩ := zcb h
          refine g_callV (pc := 56) (av := [tI (v7)]) C (c_X8_grant hE hvσ19) yv_X8_grant ml_X8_119 ck_8 (zopt hvu18).1 rfl (rf_of (by decide)) rfl (Nat.le_of_ble_eq_true rfl) dX8_terms_56 ?_
          obtain ⟨rfl, rfl⟩ := zsome h
          exact g_iret (pc := 59) C rfl hx (by rw [hxn]; rfl) (by rw [hxn]; rfl) dX8_terms_59
        · have h := zif_f c21 h
          refine g_sub [0] (lm' := [(0, tR (some (h0)))]) rfl ?_
          exact w_X8_terms_j21 hE C hxn _ _ _ _ h hx
def rm_X8_feed : Room := { frames := 2, cells := 0, slots := 0, locals := 43 }
noncomputable def s_X8_feed (h0 : Nat) (p1 : Int32) (p2 : Int32) (p3 : Int32) (p4 : Int32) (p5 : Int32) (σ : Hp) : Option (Int32 × Hp) :=
  (rdR 8 σ h0 5).bind fun r1 =>
  (r1).bind fun a2 =>
  (ck 6 σ a2).bind fun u3 =>
  cb (s_X6_hasPlaceFor a2 (20) σ) fun v5 σ4 =>
  if v5 = 0 then
    some (((-1)), σ4)
  else
    (rdR 8 σ4 h0 5).bind fun r6 =>
    (r6).bind fun a7 =>
    (ck 6 σ4 a7).bind fun u8 =>
    cb (s_X6_addNumber a7 (p1) σ4) fun v10 σ9 =>
    (rdR 8 σ9 h0 5).bind fun r11 =>
    (r11).bind fun a12 =>
    (ck 6 σ9 a12).bind fun u13 =>
    cb (s_X6_addNumber a12 (p2) σ9) fun v15 σ14 =>
    (rdR 8 σ14 h0 5).bind fun r16 =>
    (r16).bind fun a17 =>
    (ck 6 σ14 a17).bind fun u18 =>
    cb (s_X6_addNumber a17 (p3) σ14) fun v20 σ19 =>
    (rdR 8 σ19 h0 5).bind fun r21 =>
    (r21).bind fun a22 =>
    (ck 6 σ19 a22).bind fun u23 =>
    cb (s_X6_addNumber a22 (p4) σ19) fun v25 σ24 =>
    (rdR 8 σ24 h0 5).bind fun r26 =>
    (r26).bind fun a27 =>
    (ck 6 σ24 a27).bind fun u28 =>
    cb (s_X6_addNumber a27 (p5) σ24) fun v30 σ29 =>
    (rdR 8 σ29 h0 5).bind fun r31 =>
    (r31).bind fun a32 =>
    (rdI 6 σ29 a32 1).bind fun v33 =>
    some ((v33), σ29)
set_option maxRecDepth 100000 in
theorem c_X8_feed {E : E0} (hE : EOK E) {h0 : Nat} {p1 : Int32} {p2 : Int32} {p3 : Int32} {p4 : Int32} {p5 : Int32} {σ σ1 : Hp} {r : Int32} (h : s_X8_feed h0 p1 p2 p3 p4 p5 σ = some (r, σ1)) : CT E yX8_feed (.code yX8_feed cX8_feed 6 (some .int)) rm_X8_feed [tR (some (h0)), tI (p1), tI (p2), tI (p3), tI (p4), tI (p5)] σ (some (tI r)) σ1 := by
  refine CT.mk hE (by decide +kernel) (Nat.le_of_ble_eq_true rfl) [(0, tR (some (h0))), (1, tI (p1)), (2, tI (p2)), (3, tI (p3)), (4, tI (p4)), (5, tI (p5))] rfl (fun X C hin hx hxn => ?_)
  have C : XOK E X cX8_feed RX8 6 (some .int) rm_X8_feed := C
  unfold s_X8_feed at h
  refine g_aload_n (pc := 0) C 0 0 dX8_feed_0 rfl rfl ?_
  obtain ⟨r1, hvr1, h⟩ := zbind h
  refine g_getR (N := 19) (pc := 1) C ck_8 hvr1 rfl rfl fl_X8_33 dX8_feed_1 ?_
  refine g_bipush (v := 20) (pc := 4) C dX8_feed_4 (by decide) ?_
  obtain ⟨a2, hqa2, h9⟩ := zbind h
  clear h
  subst hqa2
  have h := h9
  clear h9
  obtain ⟨u3, hvu3, h⟩ := zbind h
  obtain ⟨v5, σ4, hvσ4, h⟩ := zcb h
  refine g_callV (pc := 6) (av := [tI (20)]) C (c_X6_hasPlaceFor hE hvσ4) yv_X6_hasPlaceFor ml_X8_209 ck_6 (zopt hvu3).1 rfl (rf_of (by decide)) rfl (Nat.le_of_ble_eq_true rfl) dX8_feed_6 ?_
  refine g_if_ne (pc := 9) C 14 dX8_feed_9 (by decide) (fun c34 => ?_) (fun c34 => ?_)
  · have h := zif_f c34 h
    refine g_aload_n (pc := 14) C 0 0 dX8_feed_14 rfl rfl ?_
    obtain ⟨r6, hvr6, h⟩ := zbind h
    refine g_getR (N := 19) (pc := 15) C ck_8 hvr6 rfl rfl fl_X8_33 dX8_feed_15 ?_
    refine g_iload_n (pc := 18) C 1 1 dX8_feed_18 rfl rfl ?_
    obtain ⟨a7, hqa7, h9⟩ := zbind h
    clear h
    subst hqa7
    have h := h9
    clear h9
    obtain ⟨u8, hvu8, h⟩ := zbind h
    obtain ⟨v10, σ9, hvσ9, h⟩ := zcb h
    refine g_callV (pc := 19) (av := [tI (p1)]) C (c_X6_addNumber hE hvσ9) yv_X6_addNumber ml_X8_212 ck_6 (zopt hvu8).1 rfl (rf_of (by decide)) rfl (Nat.le_of_ble_eq_true rfl) dX8_feed_19 ?_
    refine g_aload_n (pc := 22) C 0 0 dX8_feed_22 rfl rfl ?_
    obtain ⟨r11, hvr11, h⟩ := zbind h
    refine g_getR (N := 19) (pc := 23) C ck_8 hvr11 rfl rfl fl_X8_33 dX8_feed_23 ?_
    refine g_iload_n (pc := 26) C 2 2 dX8_feed_26 rfl rfl ?_
    obtain ⟨a12, hqa12, h9⟩ := zbind h
    clear h
    subst hqa12
    have h := h9
    clear h9
    obtain ⟨u13, hvu13, h⟩ := zbind h
    obtain ⟨v15, σ14, hvσ14, h⟩ := zcb h
    refine g_callV (pc := 27) (av := [tI (p2)]) C (c_X6_addNumber hE hvσ14) yv_X6_addNumber ml_X8_212 ck_6 (zopt hvu13).1 rfl (rf_of (by decide)) rfl (Nat.le_of_ble_eq_true rfl) dX8_feed_27 ?_
    refine g_aload_n (pc := 30) C 0 0 dX8_feed_30 rfl rfl ?_
    obtain ⟨r16, hvr16, h⟩ := zbind h
    refine g_getR (N := 19) (pc := 31) C ck_8 hvr16 rfl rfl fl_X8_33 dX8_feed_31 ?_
    refine g_iload_n (pc := 34) C 3 3 dX8_feed_34 rfl rfl ?_
    obtain ⟨a17, hqa17, h9⟩ := zbind h
    clear h
    subst hqa17
    have h := h9
    clear h9
    obtain ⟨u18, hvu18, h⟩ := zbind h
    obtain ⟨v20, σ19, hvσ19, h⟩ := zcb h
    refine g_callV (pc := 35) (av := [tI (p3)]) C (c_X6_addNumber hE hvσ19) yv_X6_addNumber ml_X8_212 ck_6 (zopt hvu18).1 rfl (rf_of (by decide)) rfl (Nat.le_of_ble_eq_true rfl) dX8_feed_35 ?_
    refine g_aload_n (pc := 38) C 0 0 dX8_feed_38 rfl rfl ?_
    obtain ⟨r21, hvr21, h⟩ := zbind h
    refine g_getR (N := 19) (pc := 39) C ck_8 hvr21 rfl rfl fl_X8_33 dX8_feed_39 ?_
    refine g_iload (pc := 42) C 4 dX8_feed_42 rfl ?_
    obtain ⟨a22, hqa22, h9⟩ := zbind h
    clear h
    subst hqa22
    have h := h9
    clear h9
    obtain ⟨u23, hvu23, h⟩ := zbind h
    obtain ⟨v25, σ24, hvσ24, h⟩ := zcb h
    refine g_callV (pc := 44) (av := [tI (p4)]) C (c_X6_addNumber hE hvσ24) yv_X6_addNumber ml_X8_212 ck_6 (zopt hvu23).1 rfl (rf_of (by decide)) rfl (Nat.le_of_ble_eq_true rfl) dX8_feed_44 ?_
    refine g_aload_n (pc := 47) C 0 0 dX8_feed_47 rfl rfl ?_
    obtain ⟨r26, hvr26, h⟩ := zbind h
    refine g_getR (N := 19) (pc := 48) C ck_8 hvr26 rfl rfl fl_X8_33 dX8_feed_48 ?_
    refine g_iload (pc := 51) C 5 dX8_feed_51 rfl ?_
    obtain ⟨a27, hqa27, h9⟩ := zbind h
    clear h
    subst hqa27
    have h := h9
    clear h9
    obtain ⟨u28, hvu28, h⟩ := zbind h
    obtain ⟨v30, σ29, hvσ29, h⟩ := zcb h
    refine g_callV (pc := 53) (av := [tI (p5)]) C (c_X6_addNumber hE hvσ29) yv_X6_addNumber ml_X8_212 ck_6 (zopt hvu28).1 rfl (rf_of (by decide)) rfl (Nat.le_of_ble_eq_true rfl) dX8_feed_53 ?_
    refine g_aload_n (pc := 56) C 0 0 dX8_feed_56 rfl rfl ?_
    obtain ⟨r31, hvr31, h⟩ := zbind h
    refine g_getR (N := 19) (pc := 57) C ck_8 hvr31 rfl rfl fl_X8_33 dX8_feed_57 ?_
    obtain ⟨a32, hqa32, h9⟩ := zbind h
    clear h
    subst hqa32
    have h := h9
    clear h9
    obtain ⟨v33, hvv33, h⟩ := zbind h
    refine g_getI (N := 2) (pc := 60) C ck_6 hvv33 rfl rfl fl_X8_216 dX8_feed_60 ?_
    obtain ⟨rfl, rfl⟩ := zsome h
    exact g_iret (pc := 63) C rfl hx (by rw [hxn]; rfl) (by rw [hxn]; rfl) dX8_feed_63
  · have h := zif_t c34 h
    refine g_iconst (v := (-1)) (pc := 12) C dX8_feed_12 (by decide) ?_
    obtain ⟨rfl, rfl⟩ := zsome h
    exact g_iret (pc := 13) C rfl hx (by rw [hxn]; rfl) (by rw [hxn]; rfl) dX8_feed_13
def rm_X8_end : Room := { frames := 0, cells := 0, slots := 0, locals := 0 }
noncomputable def s_X8_end (h0 : Nat) (p1 : Int32) (σ : Hp) : Option (Int32 × Hp) :=
  if p1 < 0 then
    some (((-1)), σ)
  else
    (rdR 8 σ h0 5).bind fun r1 =>
    (r1).bind fun a2 =>
    (rdI 6 σ a2 1).bind fun v3 =>
    if p1 ≤ v3 then
      (rdR 8 σ h0 5).bind fun r4 =>
      (r4).bind fun a5 =>
      (wrI 6 σ a5 1 (p1)).bind fun σ6 =>
      some ((p1), σ6)
    else
      some (((-1)), σ)
set_option maxRecDepth 100000 in
theorem c_X8_end {E : E0} (hE : EOK E) {h0 : Nat} {p1 : Int32} {σ σ1 : Hp} {r : Int32} (h : s_X8_end h0 p1 σ = some (r, σ1)) : CT E yX8_end (.code yX8_end cX8_end 2 (some .int)) rm_X8_end [tR (some (h0)), tI (p1)] σ (some (tI r)) σ1 := by
  refine CT.mk hE (by decide +kernel) (Nat.le_of_ble_eq_true rfl) [(0, tR (some (h0))), (1, tI (p1))] rfl (fun X C hin hx hxn => ?_)
  have C : XOK E X cX8_end RX8 2 (some .int) rm_X8_end := C
  unfold s_X8_end at h
  refine g_iload_n (pc := 0) C 1 1 dX8_end_0 rfl rfl ?_
  refine g_if_lt (pc := 1) C 15 dX8_end_1 (by decide) (fun c8 => ?_) (fun c8 => ?_)
  · have h := zif_t c8 h
    refine g_iconst (v := (-1)) (pc := 15) C dX8_end_15 (by decide) ?_
    obtain ⟨rfl, rfl⟩ := zsome h
    exact g_iret (pc := 16) C rfl hx (by rw [hxn]; rfl) (by rw [hxn]; rfl) dX8_end_16
  · have h := zif_f c8 h
    refine g_iload_n (pc := 4) C 1 1 dX8_end_4 rfl rfl ?_
    refine g_aload_n (pc := 5) C 0 0 dX8_end_5 rfl rfl ?_
    obtain ⟨r1, hvr1, h⟩ := zbind h
    refine g_getR (N := 19) (pc := 6) C ck_8 hvr1 rfl rfl fl_X8_33 dX8_end_6 ?_
    obtain ⟨a2, hqa2, h9⟩ := zbind h
    clear h
    subst hqa2
    have h := h9
    clear h9
    obtain ⟨v3, hvv3, h⟩ := zbind h
    refine g_getI (N := 2) (pc := 9) C ck_6 hvv3 rfl rfl fl_X8_216 dX8_end_9 ?_
    refine g_icmp_le (pc := 12) C 17 dX8_end_12 (by decide) (fun c7 => ?_) (fun c7 => ?_)
    · have h := zif_t c7 h
      refine g_aload_n (pc := 17) C 0 0 dX8_end_17 rfl rfl ?_
      obtain ⟨r4, hvr4, h⟩ := zbind h
      refine g_getR (N := 19) (pc := 18) C ck_8 hvr4 rfl rfl fl_X8_33 dX8_end_18 ?_
      refine g_iload_n (pc := 21) C 1 1 dX8_end_21 rfl rfl ?_
      obtain ⟨a5, hqa5, h9⟩ := zbind h
      clear h
      subst hqa5
      have h := h9
      clear h9
      obtain ⟨σ6, hvσ6, h⟩ := zbind h
      refine g_putI (N := 2) (pc := 22) C ⟨ck_6, rfl, tyX6_ok⟩ hvσ6 rfl fl_X8_216 rfl rfl dX8_end_22 ?_
      refine g_iload_n (pc := 25) C 1 1 dX8_end_25 rfl rfl ?_
      obtain ⟨rfl, rfl⟩ := zsome h
      exact g_iret (pc := 26) C rfl hx (by rw [hxn]; rfl) (by rw [hxn]; rfl) dX8_end_26
    · have h := zif_f c7 h
      refine g_iconst (v := (-1)) (pc := 15) C dX8_end_15 (by decide) ?_
      obtain ⟨rfl, rfl⟩ := zsome h
      exact g_iret (pc := 16) C rfl hx (by rw [hxn]; rfl) (by rw [hxn]; rfl) dX8_end_16
def rm_X8_linkedByRow : Room := { frames := 2, cells := 0, slots := 0, locals := 44 }
noncomputable def s_X8_linkedByRow (h0 : Nat) (p1 : Int32) (p2 : Int32) (p3 : Int32) (σ : Hp) : Option (Int32 × Hp) :=
  if p1 = p2 then
    some ((0), σ)
  else
    cb (s_X3_canBeLong (p3) σ) fun v2 σ1 =>
    if v2 = 0 then
      some ((0), σ1)
    else
      (rdR 8 σ1 h0 0).bind fun r3 =>
      (r3).bind fun a4 =>
      (rdR 1 σ1 a4 0).bind fun r5 =>
      (r5).bind fun a6 =>
      (ck 3 σ1 a6).bind fun u7 =>
      cb (s_X3_isOne a6 (p1) σ1) fun v9 σ8 =>
      if v9 = 0 then
        some ((0), σ8)
      else
        (rdR 8 σ8 h0 0).bind fun r10 =>
        (r10).bind fun a11 =>
        (rdR 1 σ8 a11 0).bind fun r12 =>
        (r12).bind fun a13 =>
        (ck 3 σ8 a13).bind fun u14 =>
        cb (s_X3_isOne a13 (p2) σ8) fun v16 σ15 =>
        if v16 = 0 then
          some ((0), σ15)
        else
          (rdR 8 σ15 h0 0).bind fun r17 =>
          (r17).bind fun a18 =>
          (rdR 1 σ15 a18 0).bind fun r19 =>
          (r19).bind fun a20 =>
          (ck 3 σ15 a20).bind fun u21 =>
          cb (s_X3_join a20 (p1) (p2) (p3) σ15) fun v23 σ22 =>
          some ((1), σ22)
set_option maxRecDepth 100000 in
theorem c_X8_linkedByRow {E : E0} (hE : EOK E) {h0 : Nat} {p1 : Int32} {p2 : Int32} {p3 : Int32} {σ σ1 : Hp} {r : Int32} (h : s_X8_linkedByRow h0 p1 p2 p3 σ = some (r, σ1)) : CT E yX8_linkedByRow (.code yX8_linkedByRow cX8_linkedByRow 4 (some .boolean)) rm_X8_linkedByRow [tR (some (h0)), tI (p1), tI (p2), tI (p3)] σ (some (tI r)) σ1 := by
  refine CT.mk hE (by decide +kernel) (Nat.le_of_ble_eq_true rfl) [(0, tR (some (h0))), (1, tI (p1)), (2, tI (p2)), (3, tI (p3))] rfl (fun X C hin hx hxn => ?_)
  have C : XOK E X cX8_linkedByRow RX8 4 (some .boolean) rm_X8_linkedByRow := C
  unfold s_X8_linkedByRow at h
  refine g_iload_n (pc := 0) C 1 1 dX8_linkedByRow_0 rfl rfl ?_
  refine g_iload_n (pc := 1) C 2 2 dX8_linkedByRow_1 rfl rfl ?_
  refine g_icmp_eq (pc := 2) C 40 dX8_linkedByRow_2 (by decide) (fun c27 => ?_) (fun c27 => ?_)
  · have h := zif_t c27 h
    refine g_iconst (v := 0) (pc := 40) C dX8_linkedByRow_40 (by decide) ?_
    obtain ⟨rfl, rfl⟩ := zsome h
    exact g_zret (pc := 41) C rfl hx (by decide) (by rw [hxn]; rfl) (by rw [hxn]; rfl) dX8_linkedByRow_41
  · have h := zif_f c27 h
    refine g_iload_n (pc := 5) C 3 3 dX8_linkedByRow_5 rfl rfl ?_
    obtain ⟨v2, σ1, hvσ1, h⟩ := zcb h
    refine g_callS (pc := 6) (av := [tI (p3)]) C (c_X3_canBeLong hE hvσ1) ys_X3_canBeLong ml_X8_182 rfl (rf_of (by decide)) rfl (Nat.le_of_ble_eq_true rfl) dX8_linkedByRow_6 ?_
    refine g_if_eq (pc := 9) C 40 dX8_linkedByRow_9 (by decide) (fun c26 => ?_) (fun c26 => ?_)
    · have h := zif_t c26 h
      refine g_iconst (v := 0) (pc := 40) C dX8_linkedByRow_40 (by decide) ?_
      obtain ⟨rfl, rfl⟩ := zsome h
      exact g_zret (pc := 41) C rfl hx (by decide) (by rw [hxn]; rfl) (by rw [hxn]; rfl) dX8_linkedByRow_41
    · have h := zif_f c26 h
      refine g_aload_n (pc := 12) C 0 0 dX8_linkedByRow_12 rfl rfl ?_
      obtain ⟨r3, hvr3, h⟩ := zbind h
      refine g_getR (N := 19) (pc := 13) C ck_8 hvr3 rfl rfl fl_X8_12 dX8_linkedByRow_13 ?_
      obtain ⟨a4, hqa4, h9⟩ := zbind h
      clear h
      subst hqa4
      have h := h9
      clear h9
      obtain ⟨r5, hvr5, h⟩ := zbind h
      refine g_getR (N := 20) (pc := 16) C ck_1 hvr5 rfl rfl fl_X8_103 dX8_linkedByRow_16 ?_
      refine g_iload_n (pc := 19) C 1 1 dX8_linkedByRow_19 rfl rfl ?_
      obtain ⟨a6, hqa6, h9⟩ := zbind h
      clear h
      subst hqa6
      have h := h9
      clear h9
      obtain ⟨u7, hvu7, h⟩ := zbind h
      obtain ⟨v9, σ8, hvσ8, h⟩ := zcb h
      refine g_callV (pc := 20) (av := [tI (p1)]) C (c_X3_isOne hE hvσ8) yv_X3_isOne ml_X8_122 ck_3 (zopt hvu7).1 rfl (rf_of (by decide)) rfl (Nat.le_of_ble_eq_true rfl) dX8_linkedByRow_20 ?_
      refine g_if_eq (pc := 23) C 40 dX8_linkedByRow_23 (by decide) (fun c25 => ?_) (fun c25 => ?_)
      · have h := zif_t c25 h
        refine g_iconst (v := 0) (pc := 40) C dX8_linkedByRow_40 (by decide) ?_
        obtain ⟨rfl, rfl⟩ := zsome h
        exact g_zret (pc := 41) C rfl hx (by decide) (by rw [hxn]; rfl) (by rw [hxn]; rfl) dX8_linkedByRow_41
      · have h := zif_f c25 h
        refine g_aload_n (pc := 26) C 0 0 dX8_linkedByRow_26 rfl rfl ?_
        obtain ⟨r10, hvr10, h⟩ := zbind h
        refine g_getR (N := 19) (pc := 27) C ck_8 hvr10 rfl rfl fl_X8_12 dX8_linkedByRow_27 ?_
        obtain ⟨a11, hqa11, h9⟩ := zbind h
        clear h
        subst hqa11
        have h := h9
        clear h9
        obtain ⟨r12, hvr12, h⟩ := zbind h
        refine g_getR (N := 20) (pc := 30) C ck_1 hvr12 rfl rfl fl_X8_103 dX8_linkedByRow_30 ?_
        refine g_iload_n (pc := 33) C 2 2 dX8_linkedByRow_33 rfl rfl ?_
        obtain ⟨a13, hqa13, h9⟩ := zbind h
        clear h
        subst hqa13
        have h := h9
        clear h9
        obtain ⟨u14, hvu14, h⟩ := zbind h
        obtain ⟨v16, σ15, hvσ15, h⟩ := zcb h
        refine g_callV (pc := 34) (av := [tI (p2)]) C (c_X3_isOne hE hvσ15) yv_X3_isOne ml_X8_122 ck_3 (zopt hvu14).1 rfl (rf_of (by decide)) rfl (Nat.le_of_ble_eq_true rfl) dX8_linkedByRow_34 ?_
        refine g_if_ne (pc := 37) C 42 dX8_linkedByRow_37 (by decide) (fun c24 => ?_) (fun c24 => ?_)
        · have h := zif_f c24 h
          refine g_aload_n (pc := 42) C 0 0 dX8_linkedByRow_42 rfl rfl ?_
          obtain ⟨r17, hvr17, h⟩ := zbind h
          refine g_getR (N := 19) (pc := 43) C ck_8 hvr17 rfl rfl fl_X8_12 dX8_linkedByRow_43 ?_
          obtain ⟨a18, hqa18, h9⟩ := zbind h
          clear h
          subst hqa18
          have h := h9
          clear h9
          obtain ⟨r19, hvr19, h⟩ := zbind h
          refine g_getR (N := 20) (pc := 46) C ck_1 hvr19 rfl rfl fl_X8_103 dX8_linkedByRow_46 ?_
          refine g_iload_n (pc := 49) C 1 1 dX8_linkedByRow_49 rfl rfl ?_
          refine g_iload_n (pc := 50) C 2 2 dX8_linkedByRow_50 rfl rfl ?_
          refine g_iload_n (pc := 51) C 3 3 dX8_linkedByRow_51 rfl rfl ?_
          obtain ⟨a20, hqa20, h9⟩ := zbind h
          clear h
          subst hqa20
          have h := h9
          clear h9
          obtain ⟨u21, hvu21, h⟩ := zbind h
          obtain ⟨v23, σ22, hvσ22, h⟩ := zcb h
          refine g_callV (pc := 52) (av := [tI (p1), tI (p2), tI (p3)]) C (c_X3_join hE hvσ22) yv_X3_join ml_X8_185 ck_3 (zopt hvu21).1 rfl (rf_of (by decide)) rfl (Nat.le_of_ble_eq_true rfl) dX8_linkedByRow_52 ?_
          refine g_iconst (v := 1) (pc := 55) C dX8_linkedByRow_55 (by decide) ?_
          obtain ⟨rfl, rfl⟩ := zsome h
          exact g_zret (pc := 56) C rfl hx (by decide) (by rw [hxn]; rfl) (by rw [hxn]; rfl) dX8_linkedByRow_56
        · have h := zif_t c24 h
          refine g_iconst (v := 0) (pc := 40) C dX8_linkedByRow_40 (by decide) ?_
          obtain ⟨rfl, rfl⟩ := zsome h
          exact g_zret (pc := 41) C rfl hx (by decide) (by rw [hxn]; rfl) (by rw [hxn]; rfl) dX8_linkedByRow_41
def rm_X8_row : Room := { frames := 3, cells := 0, slots := 0, locals := 67 }
noncomputable def s_X8_row_j76 (h0 : Nat) (l1 : Int32) (l2 : Int32) (l3 : Int32) (σ : Hp) : Option (((Nat × Int32 × Int32 × Int32) ⊕ ((Nat × Int32 × Int32))) × Hp) :=
  some (Sum.inl ((h0), (l1), (l2), (l3 + 3)), σ)
set_option maxRecDepth 100000 in
theorem w_X8_row_j76 {E : E0} (hE : EOK E) {X : X0} (C : XOK E X cX8_row RX8 4 (some .int) rm_X8_row) (hxn : xn X = (rm_X8_row.cells, rm_X8_row.slots)) {KE : ((Nat × Int32 × Int32)) → Hp → Prop} (e_82 : ∀ (h0 : Nat) (l1 : Int32) (l2 : Int32) (σ : Hp), KE ((h0, l1, l2)) σ → G E X 0 0 82 [(0, tR (some (h0))), (1, tI (l1)), (2, tI (l2))] [] σ) (h0 : Nat) (l1 : Int32) (l2 : Int32) (l3 : Int32) (σ : Hp) (x : (Nat × Int32 × Int32 × Int32) ⊕ ((Nat × Int32 × Int32))) (σ1 : Hp) (h : s_X8_row_j76 h0 l1 l2 l3 σ = some (x, σ1)) (hI : ∀ v, x = Sum.inl v → (fun (v : Nat × Int32 × Int32 × Int32) (σ : Hp) => G E X 0 0 31 [(0, tR (some ((v.1)))), (1, tI ((v.2.1))), (2, tI ((v.2.2.1))), (3, tI ((v.2.2.2)))] [] σ) v σ1) (hO : ∀ e, x = Sum.inr e → KE e σ1) : G E X 0 0 76 [(0, tR (some (h0))), (1, tI (l1)), (2, tI (l2)), (3, tI (l3))] [] σ := by
  unfold s_X8_row_j76 at h
  refine g_iinc (lm' := [(3, tI (l3 + 3)), (0, tR (some (h0))), (1, tI (l1)), (2, tI (l2))]) (v := l3 + 3) (pc := 76) C 3 dX8_row_76 rfl rfl (by decide) rfl ?_
  refine g_goto (pc := 79) C 31 dX8_row_79 (by decide) ?_
  refine g_sub [1, 2, 3, 0] (lm' := [(0, tR (some (h0))), (1, tI (l1)), (2, tI (l2)), (3, tI (l3 + 3))]) rfl ?_
  obtain ⟨rfl, rfl⟩ := zsome h
  exact hI _ rfl
noncomputable def s_X8_row_b31 (h0 : Nat) (l1 : Int32) (l2 : Int32) (l3 : Int32) (σ : Hp) : Option (((Nat × Int32 × Int32 × Int32) ⊕ ((Nat × Int32 × Int32))) × Hp) :=
  if l1 ≤ (l3 + 2) then
    some (Sum.inr ((h0), (l1), (l2)), σ)
  else
    (rdR 8 σ h0 5).bind fun r1 =>
    (r1).bind fun a2 =>
    (ck 6 σ a2).bind fun u3 =>
    cb (s_X6_byteAt a2 (l3) σ) fun v5 σ4 =>
    (rdR 8 σ4 h0 5).bind fun r6 =>
    (r6).bind fun a7 =>
    (ck 6 σ4 a7).bind fun u8 =>
    cb (s_X6_byteAt a7 (l3 + 1) σ4) fun v10 σ9 =>
    (rdR 8 σ9 h0 5).bind fun r11 =>
    (r11).bind fun a12 =>
    (ck 6 σ9 a12).bind fun u13 =>
    cb (s_X6_byteAt a12 (l3 + 2) σ9) fun v15 σ14 =>
    (ck 8 σ14 h0).bind fun u16 =>
    cb (s_X8_linkedByRow h0 (v5) (v10) (v15) σ14) fun v18 σ17 =>
    if v18 = 0 then
      s_X8_row_j76 (h0) (l1) (l2) (l3) σ17
    else
      s_X8_row_j76 (h0) (l1) (l2 + 1) (l3) σ17
noncomputable def s_X8_row_l31 : (Nat × Int32 × Int32 × Int32) → Hp → Option (((Nat × Int32 × Int32)) × Hp) := loopF (fun v => s_X8_row_b31 (v.1) (v.2.1) (v.2.2.1) (v.2.2.2))
set_option maxRecDepth 100000 in
theorem w_X8_row_b31 {E : E0} (hE : EOK E) {X : X0} (C : XOK E X cX8_row RX8 4 (some .int) rm_X8_row) (hxn : xn X = (rm_X8_row.cells, rm_X8_row.slots)) {KE : ((Nat × Int32 × Int32)) → Hp → Prop} (e_82 : ∀ (h0 : Nat) (l1 : Int32) (l2 : Int32) (σ : Hp), KE ((h0, l1, l2)) σ → G E X 0 0 82 [(0, tR (some (h0))), (1, tI (l1)), (2, tI (l2))] [] σ) (h0 : Nat) (l1 : Int32) (l2 : Int32) (l3 : Int32) (σ : Hp) (x : (Nat × Int32 × Int32 × Int32) ⊕ ((Nat × Int32 × Int32))) (σ1 : Hp) (h : s_X8_row_b31 h0 l1 l2 l3 σ = some (x, σ1)) (hI : ∀ v, x = Sum.inl v → (fun (v : Nat × Int32 × Int32 × Int32) (σ : Hp) => G E X 0 0 31 [(0, tR (some ((v.1)))), (1, tI ((v.2.1))), (2, tI ((v.2.2.1))), (3, tI ((v.2.2.2)))] [] σ) v σ1) (hO : ∀ e, x = Sum.inr e → KE e σ1) : G E X 0 0 31 [(0, tR (some (h0))), (1, tI (l1)), (2, tI (l2)), (3, tI (l3))] [] σ := by
  unfold s_X8_row_b31 at h
  refine g_iload_n (pc := 31) C 3 3 dX8_row_31 rfl rfl ?_
  refine g_iconst (v := 2) (pc := 32) C dX8_row_32 (by decide) ?_
  refine g_iadd (pc := 33) C dX8_row_33 ?_
  refine g_iload_n (pc := 34) C 1 1 dX8_row_34 rfl rfl ?_
  refine g_icmp_ge (pc := 35) C 82 dX8_row_35 (by decide) (fun c20 => ?_) (fun c20 => ?_)
  · have h := zif_t c20 h
    refine g_sub [0, 1, 2] (lm' := [(0, tR (some (h0))), (1, tI (l1)), (2, tI (l2))]) rfl ?_
    obtain ⟨rfl, rfl⟩ := zsome h
    exact e_82 _ _ _ _ (hO _ rfl)
  · have h := zif_f c20 h
    refine g_aload_n (pc := 38) C 0 0 dX8_row_38 rfl rfl ?_
    refine g_aload_n (pc := 39) C 0 0 dX8_row_39 rfl rfl ?_
    obtain ⟨r1, hvr1, h⟩ := zbind h
    refine g_getR (N := 19) (pc := 40) C ck_8 hvr1 rfl rfl fl_X8_33 dX8_row_40 ?_
    refine g_iload_n (pc := 43) C 3 3 dX8_row_43 rfl rfl ?_
    obtain ⟨a2, hqa2, h9⟩ := zbind h
    clear h
    subst hqa2
    have h := h9
    clear h9
    obtain ⟨u3, hvu3, h⟩ := zbind h
    obtain ⟨v5, σ4, hvσ4, h⟩ := zcb h
    refine g_callV (pc := 44) (av := [tI (l3)]) C (c_X6_byteAt hE hvσ4) yv_X6_byteAt ml_X8_219 ck_6 (zopt hvu3).1 rfl (rf_of (by decide)) rfl (Nat.le_of_ble_eq_true rfl) dX8_row_44 ?_
    refine g_aload_n (pc := 47) C 0 0 dX8_row_47 rfl rfl ?_
    obtain ⟨r6, hvr6, h⟩ := zbind h
    refine g_getR (N := 19) (pc := 48) C ck_8 hvr6 rfl rfl fl_X8_33 dX8_row_48 ?_
    refine g_iload_n (pc := 51) C 3 3 dX8_row_51 rfl rfl ?_
    refine g_iconst (v := 1) (pc := 52) C dX8_row_52 (by decide) ?_
    refine g_iadd (pc := 53) C dX8_row_53 ?_
    obtain ⟨a7, hqa7, h9⟩ := zbind h
    clear h
    subst hqa7
    have h := h9
    clear h9
    obtain ⟨u8, hvu8, h⟩ := zbind h
    obtain ⟨v10, σ9, hvσ9, h⟩ := zcb h
    refine g_callV (pc := 54) (av := [tI (l3 + 1)]) C (c_X6_byteAt hE hvσ9) yv_X6_byteAt ml_X8_219 ck_6 (zopt hvu8).1 rfl (rf_of (by decide)) rfl (Nat.le_of_ble_eq_true rfl) dX8_row_54 ?_
    refine g_aload_n (pc := 57) C 0 0 dX8_row_57 rfl rfl ?_
    obtain ⟨r11, hvr11, h⟩ := zbind h
    refine g_getR (N := 19) (pc := 58) C ck_8 hvr11 rfl rfl fl_X8_33 dX8_row_58 ?_
    refine g_iload_n (pc := 61) C 3 3 dX8_row_61 rfl rfl ?_
    refine g_iconst (v := 2) (pc := 62) C dX8_row_62 (by decide) ?_
    refine g_iadd (pc := 63) C dX8_row_63 ?_
    obtain ⟨a12, hqa12, h9⟩ := zbind h
    clear h
    subst hqa12
    have h := h9
    clear h9
    obtain ⟨u13, hvu13, h⟩ := zbind h
    obtain ⟨v15, σ14, hvσ14, h⟩ := zcb h
    refine g_callV (pc := 64) (av := [tI (l3 + 2)]) C (c_X6_byteAt hE hvσ14) yv_X6_byteAt ml_X8_219 ck_6 (zopt hvu13).1 rfl (rf_of (by decide)) rfl (Nat.le_of_ble_eq_true rfl) dX8_row_64 ?_
    obtain ⟨u16, hvu16, h⟩ := zbind h
    obtain ⟨v18, σ17, hvσ17, h⟩ := zcb h
    refine g_callV (pc := 67) (av := [tI (v5), tI (v10), tI (v15)]) C (c_X8_linkedByRow hE hvσ17) yv_X8_linkedByRow ml_X8_222 ck_8 (zopt hvu16).1 rfl (rf_of (by decide)) rfl (Nat.le_of_ble_eq_true rfl) dX8_row_67 ?_
    refine g_if_eq (pc := 70) C 76 dX8_row_70 (by decide) (fun c19 => ?_) (fun c19 => ?_)
    · have h := zif_t c19 h
      exact w_X8_row_j76 hE C hxn e_82 _ _ _ _ _ _ _ h hI hO
    · have h := zif_f c19 h
      refine g_iinc (lm' := [(2, tI (l2 + 1)), (0, tR (some (h0))), (1, tI (l1)), (3, tI (l3))]) (v := l2 + 1) (pc := 73) C 2 dX8_row_73 rfl rfl (by decide) rfl ?_
      refine g_sub [1, 2, 0, 3] (lm' := [(0, tR (some (h0))), (1, tI (l1)), (2, tI (l2 + 1)), (3, tI (l3))]) rfl ?_
      exact w_X8_row_j76 hE C hxn e_82 _ _ _ _ _ _ _ h hI hO
theorem w_X8_row_l31 {E : E0} (hE : EOK E) {X : X0} (C : XOK E X cX8_row RX8 4 (some .int) rm_X8_row) (hxn : xn X = (rm_X8_row.cells, rm_X8_row.slots)) {KE : ((Nat × Int32 × Int32)) → Hp → Prop} (e_82 : ∀ (h0 : Nat) (l1 : Int32) (l2 : Int32) (σ : Hp), KE ((h0, l1, l2)) σ → G E X 0 0 82 [(0, tR (some (h0))), (1, tI (l1)), (2, tI (l2))] [] σ) {v : Nat × Int32 × Int32 × Int32} {σ : Hp} {e : (Nat × Int32 × Int32)} {σ1 : Hp} (h : s_X8_row_l31 v σ = some (e, σ1)) (hO : KE e σ1) : G E X 0 0 31 [(0, tR (some ((v.1)))), (1, tI ((v.2.1))), (2, tI ((v.2.2.1))), (3, tI ((v.2.2.2)))] [] σ := loopF_ind (P := fun (v : Nat × Int32 × Int32 × Int32) (σ : Hp) => G E X 0 0 31 [(0, tR (some ((v.1)))), (1, tI ((v.2.1))), (2, tI ((v.2.2.1))), (3, tI ((v.2.2.2)))] [] σ) (KE := KE) (fun v σ x σ1 h hI hO => w_X8_row_b31 hE C hxn e_82 (v.1) (v.2.1) (v.2.2.1) (v.2.2.2) σ x σ1 h hI hO) v σ e σ1 h hO
noncomputable def s_X8_row (h0 : Nat) (σ : Hp) : Option (Int32 × Hp) :=
  (rdR 8 σ h0 5).bind fun r1 =>
  (r1).bind fun a2 =>
  (rdI 6 σ a2 1).bind fun v3 =>
  (rdR 8 σ h0 5).bind fun r4 =>
  (r4).bind fun a5 =>
  (wrI 6 σ a5 1 (0)).bind fun σ6 =>
  if v3 = 0 then
    (ck 8 σ6 h0).bind fun u18 =>
    cb (s_X8_refuse h0 ((-6)) σ6) fun v20 σ19 =>
    some ((v20), σ19)
  else
    cb (s_X8_row_l31 ((h0), (v3), (0), (0)) σ6) fun e17 σ16 =>
    match e17 with
    | (h7, l18, l29) =>
      (wrI 8 σ16 h7 16 (((l18 + 2) / 3) - l29)).bind fun σ11 =>
      (ck 8 σ11 h7).bind fun u12 =>
      cb (s_X8_grant h7 (l29) σ11) fun v14 σ13 =>
      some ((v14), σ13)
set_option maxRecDepth 100000 in
theorem c_X8_row {E : E0} (hE : EOK E) {h0 : Nat} {σ σ1 : Hp} {r : Int32} (h : s_X8_row h0 σ = some (r, σ1)) : CT E yX8_row (.code yX8_row cX8_row 4 (some .int)) rm_X8_row [tR (some (h0))] σ (some (tI r)) σ1 := by
  refine CT.mk hE (by decide +kernel) (Nat.le_of_ble_eq_true rfl) [(0, tR (some (h0)))] rfl (fun X C hin hx hxn => ?_)
  have C : XOK E X cX8_row RX8 4 (some .int) rm_X8_row := C
  unfold s_X8_row at h
  refine g_aload_n (pc := 0) C 0 0 dX8_row_0 rfl rfl ?_
  obtain ⟨r1, hvr1, h⟩ := zbind h
  refine g_getR (N := 19) (pc := 1) C ck_8 hvr1 rfl rfl fl_X8_33 dX8_row_1 ?_
  obtain ⟨a2, hqa2, h9⟩ := zbind h
  clear h
  subst hqa2
  have h := h9
  clear h9
  obtain ⟨v3, hvv3, h⟩ := zbind h
  refine g_getI (N := 2) (pc := 4) C ck_6 hvv3 rfl rfl fl_X8_216 dX8_row_4 ?_
  refine g_istore_n (lm' := [(1, tI (v3)), (0, tR (some (h0)))]) (pc := 7) C 1 dX8_row_7 rfl (by decide) rfl ?_
  refine g_aload_n (pc := 8) C 0 1 dX8_row_8 rfl rfl ?_
  obtain ⟨r4, hvr4, h⟩ := zbind h
  refine g_getR (N := 19) (pc := 9) C ck_8 hvr4 rfl rfl fl_X8_33 dX8_row_9 ?_
  refine g_iconst (v := 0) (pc := 12) C dX8_row_12 (by decide) ?_
  obtain ⟨a5, hqa5, h9⟩ := zbind h
  clear h
  subst hqa5
  have h := h9
  clear h9
  obtain ⟨σ6, hvσ6, h⟩ := zbind h
  refine g_putI (N := 2) (pc := 13) C ⟨ck_6, rfl, tyX6_ok⟩ hvσ6 rfl fl_X8_216 rfl rfl dX8_row_13 ?_
  refine g_iload_n (pc := 16) C 1 0 dX8_row_16 rfl rfl ?_
  refine g_if_ne (pc := 17) C 27 dX8_row_17 (by decide) (fun c21 => ?_) (fun c21 => ?_)
  · have h := zif_f c21 h
    refine g_iconst (v := 0) (pc := 27) C dX8_row_27 (by decide) ?_
    refine g_istore_n (lm' := [(2, tI (0)), (1, tI (v3)), (0, tR (some (h0)))]) (pc := 28) C 2 dX8_row_28 rfl (by decide) rfl ?_
    refine g_iconst (v := 0) (pc := 29) C dX8_row_29 (by decide) ?_
    refine g_istore_n (lm' := [(3, tI (0)), (2, tI (0)), (1, tI (v3)), (0, tR (some (h0)))]) (pc := 30) C 3 dX8_row_30 rfl (by decide) rfl ?_
    refine g_sub [3, 2, 1, 0] (lm' := [(0, tR (some (h0))), (1, tI (v3)), (2, tI (0)), (3, tI (0))]) rfl ?_
    obtain ⟨KQ, hKQ, e17, σ16, hle17, h⟩ := zcbK h
    refine w_X8_row_l31 (KE := KQ) hE C hxn ?_ hle17 h
    · intro h7 l18 l29 σ10 h
      have h := (hKQ _ _).mp h
      refine g_aload_n (pc := 82) C 0 0 dX8_row_82 rfl rfl ?_
      refine g_iload_n (pc := 83) C 1 1 dX8_row_83 rfl rfl ?_
      refine g_iconst (v := 2) (pc := 84) C dX8_row_84 (by decide) ?_
      refine g_iadd (pc := 85) C dX8_row_85 ?_
      refine g_iconst (v := 3) (pc := 86) C dX8_row_86 (by decide) ?_
      refine g_idiv (pc := 87) C dX8_row_87 (by decide) ?_
      refine g_iload_n (pc := 88) C 2 2 dX8_row_88 rfl rfl ?_
      refine g_isub (pc := 89) C dX8_row_89 ?_
      obtain ⟨σ11, hvσ11, h⟩ := zbind h
      refine g_putI (N := 19) (pc := 90) C ⟨ck_8, rfl, tyX8_ok⟩ hvσ11 rfl fl_X8_86 rfl rfl dX8_row_90 ?_
      refine g_aload_n (pc := 93) C 0 0 dX8_row_93 rfl rfl ?_
      refine g_iload_n (pc := 94) C 2 2 dX8_row_94 rfl rfl ?_
      obtain ⟨u12, hvu12, h⟩ := zbind h
      obtain ⟨v14, σ13, hvσ13, h⟩ := zcb h
      refine g_callV (pc := 95) (av := [tI (l29)]) C (c_X8_grant hE hvσ13) yv_X8_grant ml_X8_119 ck_8 (zopt hvu12).1 rfl (rf_of (by decide)) rfl (Nat.le_of_ble_eq_true rfl) dX8_row_95 ?_
      obtain ⟨rfl, rfl⟩ := zsome h
      exact g_iret (pc := 98) C rfl hx (by rw [hxn]; rfl) (by rw [hxn]; rfl) dX8_row_98
  · have h := zif_t c21 h
    refine g_aload_n (pc := 20) C 0 1 dX8_row_20 rfl rfl ?_
    refine g_bipush (v := (-6)) (pc := 21) C dX8_row_21 (by decide) ?_
    obtain ⟨u18, hvu18, h⟩ := zbind h
    obtain ⟨v20, σ19, hvσ19, h⟩ := zcb h
    refine g_callV (pc := 23) (av := [tI ((-6))]) C (c_X8_refuse hE hvσ19) yv_X8_refuse ml_X8_99 ck_8 (zopt hvu18).1 rfl (rf_of (by decide)) rfl (Nat.le_of_ble_eq_true rfl) dX8_row_23 ?_
    obtain ⟨rfl, rfl⟩ := zsome h
    exact g_iret (pc := 26) C rfl hx (by rw [hxn]; rfl) (by rw [hxn]; rfl) dX8_row_26
def rm_X8_scratches : Room := { frames := 0, cells := 0, slots := 0, locals := 0 }
noncomputable def s_X8_scratches (h0 : Nat) (σ : Hp) : Option (Int32 × Hp) :=
  (rdI 8 σ h0 16).bind fun v1 =>
  some ((v1), σ)
set_option maxRecDepth 100000 in
theorem c_X8_scratches {E : E0} (hE : EOK E) {h0 : Nat} {σ σ1 : Hp} {r : Int32} (h : s_X8_scratches h0 σ = some (r, σ1)) : CT E yX8_scratches (.code yX8_scratches cX8_scratches 1 (some .int)) rm_X8_scratches [tR (some (h0))] σ (some (tI r)) σ1 := by
  refine CT.mk hE (by decide +kernel) (Nat.le_of_ble_eq_true rfl) [(0, tR (some (h0)))] rfl (fun X C hin hx hxn => ?_)
  have C : XOK E X cX8_scratches RX8 1 (some .int) rm_X8_scratches := C
  unfold s_X8_scratches at h
  refine g_aload_n (pc := 0) C 0 0 dX8_scratches_0 rfl rfl ?_
  obtain ⟨v1, hvv1, h⟩ := zbind h
  refine g_getI (N := 19) (pc := 1) C ck_8 hvv1 rfl rfl fl_X8_86 dX8_scratches_1 ?_
  obtain ⟨rfl, rfl⟩ := zsome h
  exact g_iret (pc := 4) C rfl hx (by rw [hxn]; rfl) (by rw [hxn]; rfl) dX8_scratches_4
def rm_X8_tellOrderWords : Room := { frames := 1, cells := 0, slots := 0, locals := 21 }
noncomputable def s_X8_tellOrderWords_j94 (h0 : Nat) (l1 : Option Nat) (l2 : Int32) (t0 : Option Nat) (t1 : Int32) (t2 : Int32) (σ : Hp) : Option (((Nat × (Option Nat) × Int32) ⊕ ((Nat × (Option Nat)))) × Hp) :=
  (t0).bind fun a1 =>
  (stI σ a1 (t1) (t2)).bind fun σ2 =>
  some (Sum.inl ((h0), (l1), (l2 + 1)), σ2)
set_option maxRecDepth 100000 in
theorem w_X8_tellOrderWords_j94 {E : E0} (hE : EOK E) {X : X0} (C : XOK E X cX8_tellOrderWords RX8 3 none rm_X8_tellOrderWords) (hxn : xn X = (rm_X8_tellOrderWords.cells, rm_X8_tellOrderWords.slots)) {KE : ((Nat × (Option Nat))) → Hp → Prop} (e_101 : ∀ (h0 : Nat) (l1 : Option Nat) (σ : Hp), KE ((h0, l1)) σ → G E X 0 0 101 [(0, tR (some (h0))), (1, tR (l1))] [] σ) (h0 : Nat) (l1 : Option Nat) (l2 : Int32) (t0 : Option Nat) (t1 : Int32) (t2 : Int32) (σ : Hp) (x : (Nat × (Option Nat) × Int32) ⊕ ((Nat × (Option Nat)))) (σ1 : Hp) (h : s_X8_tellOrderWords_j94 h0 l1 l2 t0 t1 t2 σ = some (x, σ1)) (hI : ∀ v, x = Sum.inl v → (fun (v : Nat × (Option Nat) × Int32) (σ : Hp) => G E X 0 0 61 [(0, tR (some ((v.1)))), (1, tR ((v.2.1))), (2, tI ((v.2.2)))] [] σ) v σ1) (hO : ∀ e, x = Sum.inr e → KE e σ1) : G E X 0 0 94 [(0, tR (some (h0))), (1, tR (l1)), (2, tI (l2))] [tI (t2), tI (t1), tR (t0)] σ := by
  unfold s_X8_tellOrderWords_j94 at h
  obtain ⟨a1, hqa1, h9⟩ := zbind h
  clear h
  subst hqa1
  have h := h9
  clear h9
  obtain ⟨σ2, hvσ2, h⟩ := zbind h
  refine g_iast (pc := 94) C hvσ2 dX8_tellOrderWords_94 ?_
  refine g_iinc (lm' := [(2, tI (l2 + 1)), (0, tR (some (h0))), (1, tR (l1))]) (v := l2 + 1) (pc := 95) C 2 dX8_tellOrderWords_95 rfl rfl (by decide) rfl ?_
  refine g_goto (pc := 98) C 61 dX8_tellOrderWords_98 (by decide) ?_
  refine g_sub [1, 2, 0] (lm' := [(0, tR (some (h0))), (1, tR (l1)), (2, tI (l2 + 1))]) rfl ?_
  obtain ⟨rfl, rfl⟩ := zsome h
  exact hI _ rfl
noncomputable def s_X8_tellOrderWords_b61 (h0 : Nat) (l1 : Option Nat) (l2 : Int32) (σ : Hp) : Option (((Nat × (Option Nat) × Int32) ⊕ ((Nat × (Option Nat)))) × Hp) :=
  if 4 ≤ l2 then
    some (Sum.inr ((h0), (l1)), σ)
  else
    (rdR 8 σ h0 0).bind fun r1 =>
    (r1).bind fun a2 =>
    (ck 1 σ a2).bind fun u3 =>
    cb (s_X1_isFolk a2 (l2) σ) fun v5 σ4 =>
    if v5 = 0 then
      s_X8_tellOrderWords_j94 (h0) (l1) (l2) (l1) (5 + l2) ((-1)) σ4
    else
      (rdR 8 σ4 h0 0).bind fun r6 =>
      (r6).bind fun a7 =>
      (rdR 1 σ4 a7 3).bind fun r8 =>
      (r8).bind fun a9 =>
      (ldI 11 σ4 a9 (l2)).bind fun v10 =>
      s_X8_tellOrderWords_j94 (h0) (l1) (l2) (l1) (5 + l2) (v10) σ4
noncomputable def s_X8_tellOrderWords_l61 : (Nat × (Option Nat) × Int32) → Hp → Option (((Nat × (Option Nat))) × Hp) := loopF (fun v => s_X8_tellOrderWords_b61 (v.1) (v.2.1) (v.2.2))
set_option maxRecDepth 100000 in
theorem w_X8_tellOrderWords_b61 {E : E0} (hE : EOK E) {X : X0} (C : XOK E X cX8_tellOrderWords RX8 3 none rm_X8_tellOrderWords) (hxn : xn X = (rm_X8_tellOrderWords.cells, rm_X8_tellOrderWords.slots)) {KE : ((Nat × (Option Nat))) → Hp → Prop} (e_101 : ∀ (h0 : Nat) (l1 : Option Nat) (σ : Hp), KE ((h0, l1)) σ → G E X 0 0 101 [(0, tR (some (h0))), (1, tR (l1))] [] σ) (h0 : Nat) (l1 : Option Nat) (l2 : Int32) (σ : Hp) (x : (Nat × (Option Nat) × Int32) ⊕ ((Nat × (Option Nat)))) (σ1 : Hp) (h : s_X8_tellOrderWords_b61 h0 l1 l2 σ = some (x, σ1)) (hI : ∀ v, x = Sum.inl v → (fun (v : Nat × (Option Nat) × Int32) (σ : Hp) => G E X 0 0 61 [(0, tR (some ((v.1)))), (1, tR ((v.2.1))), (2, tI ((v.2.2)))] [] σ) v σ1) (hO : ∀ e, x = Sum.inr e → KE e σ1) : G E X 0 0 61 [(0, tR (some (h0))), (1, tR (l1)), (2, tI (l2))] [] σ := by
  unfold s_X8_tellOrderWords_b61 at h
  refine g_iload_n (pc := 61) C 2 2 dX8_tellOrderWords_61 rfl rfl ?_
  refine g_iconst (v := 4) (pc := 62) C dX8_tellOrderWords_62 (by decide) ?_
  refine g_icmp_ge (pc := 63) C 101 dX8_tellOrderWords_63 (by decide) (fun c12 => ?_) (fun c12 => ?_)
  · have h := zif_t c12 h
    refine g_sub [0, 1] (lm' := [(0, tR (some (h0))), (1, tR (l1))]) rfl ?_
    obtain ⟨rfl, rfl⟩ := zsome h
    exact e_101 _ _ _ (hO _ rfl)
  · have h := zif_f c12 h
    refine g_aload_n (pc := 66) C 1 1 dX8_tellOrderWords_66 rfl rfl ?_
    refine g_iconst (v := 5) (pc := 67) C dX8_tellOrderWords_67 (by decide) ?_
    refine g_iload_n (pc := 68) C 2 2 dX8_tellOrderWords_68 rfl rfl ?_
    refine g_iadd (pc := 69) C dX8_tellOrderWords_69 ?_
    refine g_aload_n (pc := 70) C 0 0 dX8_tellOrderWords_70 rfl rfl ?_
    obtain ⟨r1, hvr1, h⟩ := zbind h
    refine g_getR (N := 19) (pc := 71) C ck_8 hvr1 rfl rfl fl_X8_12 dX8_tellOrderWords_71 ?_
    refine g_iload_n (pc := 74) C 2 2 dX8_tellOrderWords_74 rfl rfl ?_
    obtain ⟨a2, hqa2, h9⟩ := zbind h
    clear h
    subst hqa2
    have h := h9
    clear h9
    obtain ⟨u3, hvu3, h⟩ := zbind h
    obtain ⟨v5, σ4, hvσ4, h⟩ := zcb h
    refine g_callV (pc := 75) (av := [tI (l2)]) C (c_X1_isFolk hE hvσ4) yv_X1_isFolk ml_X8_151 ck_1 (zopt hvu3).1 rfl (rf_of (by decide)) rfl (Nat.le_of_ble_eq_true rfl) dX8_tellOrderWords_75 ?_
    refine g_if_eq (pc := 78) C 93 dX8_tellOrderWords_78 (by decide) (fun c11 => ?_) (fun c11 => ?_)
    · have h := zif_t c11 h
      refine g_iconst (v := (-1)) (pc := 93) C dX8_tellOrderWords_93 (by decide) ?_
      exact w_X8_tellOrderWords_j94 hE C hxn e_101 _ _ _ _ _ _ _ _ _ h hI hO
    · have h := zif_f c11 h
      refine g_aload_n (pc := 81) C 0 0 dX8_tellOrderWords_81 rfl rfl ?_
      obtain ⟨r6, hvr6, h⟩ := zbind h
      refine g_getR (N := 19) (pc := 82) C ck_8 hvr6 rfl rfl fl_X8_12 dX8_tellOrderWords_82 ?_
      obtain ⟨a7, hqa7, h9⟩ := zbind h
      clear h
      subst hqa7
      have h := h9
      clear h9
      obtain ⟨r8, hvr8, h⟩ := zbind h
      refine g_getR (N := 20) (pc := 85) C ck_1 hvr8 rfl rfl fl_X8_148 dX8_tellOrderWords_85 ?_
      refine g_iload_n (pc := 88) C 2 2 dX8_tellOrderWords_88 rfl rfl ?_
      obtain ⟨a9, hqa9, h9⟩ := zbind h
      clear h
      subst hqa9
      have h := h9
      clear h9
      obtain ⟨v10, hvv10, h⟩ := zbind h
      refine g_iald (pc := 89) C hvv10 dX8_tellOrderWords_89 ?_
      refine g_goto (pc := 90) C 94 dX8_tellOrderWords_90 (by decide) ?_
      exact w_X8_tellOrderWords_j94 hE C hxn e_101 _ _ _ _ _ _ _ _ _ h hI hO
theorem w_X8_tellOrderWords_l61 {E : E0} (hE : EOK E) {X : X0} (C : XOK E X cX8_tellOrderWords RX8 3 none rm_X8_tellOrderWords) (hxn : xn X = (rm_X8_tellOrderWords.cells, rm_X8_tellOrderWords.slots)) {KE : ((Nat × (Option Nat))) → Hp → Prop} (e_101 : ∀ (h0 : Nat) (l1 : Option Nat) (σ : Hp), KE ((h0, l1)) σ → G E X 0 0 101 [(0, tR (some (h0))), (1, tR (l1))] [] σ) {v : Nat × (Option Nat) × Int32} {σ : Hp} {e : (Nat × (Option Nat))} {σ1 : Hp} (h : s_X8_tellOrderWords_l61 v σ = some (e, σ1)) (hO : KE e σ1) : G E X 0 0 61 [(0, tR (some ((v.1)))), (1, tR ((v.2.1))), (2, tI ((v.2.2)))] [] σ := loopF_ind (P := fun (v : Nat × (Option Nat) × Int32) (σ : Hp) => G E X 0 0 61 [(0, tR (some ((v.1)))), (1, tR ((v.2.1))), (2, tI ((v.2.2)))] [] σ) (KE := KE) (fun v σ x σ1 h hI hO => w_X8_tellOrderWords_b61 hE C hxn e_101 (v.1) (v.2.1) (v.2.2) σ x σ1 h hI hO) v σ e σ1 h hO
noncomputable def s_X8_tellOrderWords_j137 (h0 : Nat) (l1 : Option Nat) (l2 : Int32) (t0 : Option Nat) (t1 : Int32) (t2 : Int32) (σ : Hp) : Option (((Nat × (Option Nat) × Int32) ⊕ ((Nat × (Option Nat)))) × Hp) :=
  (t0).bind fun a1 =>
  (stI σ a1 (t1) (t2)).bind fun σ2 =>
  some (Sum.inl ((h0), (l1), (l2 + 1)), σ2)
set_option maxRecDepth 100000 in
theorem w_X8_tellOrderWords_j137 {E : E0} (hE : EOK E) {X : X0} (C : XOK E X cX8_tellOrderWords RX8 3 none rm_X8_tellOrderWords) (hxn : xn X = (rm_X8_tellOrderWords.cells, rm_X8_tellOrderWords.slots)) {KE : ((Nat × (Option Nat))) → Hp → Prop} (e_144 : ∀ (h0 : Nat) (l1 : Option Nat) (σ : Hp), KE ((h0, l1)) σ → G E X 0 0 144 [(0, tR (some (h0))), (1, tR (l1))] [] σ) (h0 : Nat) (l1 : Option Nat) (l2 : Int32) (t0 : Option Nat) (t1 : Int32) (t2 : Int32) (σ : Hp) (x : (Nat × (Option Nat) × Int32) ⊕ ((Nat × (Option Nat)))) (σ1 : Hp) (h : s_X8_tellOrderWords_j137 h0 l1 l2 t0 t1 t2 σ = some (x, σ1)) (hI : ∀ v, x = Sum.inl v → (fun (v : Nat × (Option Nat) × Int32) (σ : Hp) => G E X 0 0 103 [(0, tR (some ((v.1)))), (1, tR ((v.2.1))), (2, tI ((v.2.2)))] [] σ) v σ1) (hO : ∀ e, x = Sum.inr e → KE e σ1) : G E X 0 0 137 [(0, tR (some (h0))), (1, tR (l1)), (2, tI (l2))] [tI (t2), tI (t1), tR (t0)] σ := by
  unfold s_X8_tellOrderWords_j137 at h
  obtain ⟨a1, hqa1, h9⟩ := zbind h
  clear h
  subst hqa1
  have h := h9
  clear h9
  obtain ⟨σ2, hvσ2, h⟩ := zbind h
  refine g_iast (pc := 137) C hvσ2 dX8_tellOrderWords_137 ?_
  refine g_iinc (lm' := [(2, tI (l2 + 1)), (0, tR (some (h0))), (1, tR (l1))]) (v := l2 + 1) (pc := 138) C 2 dX8_tellOrderWords_138 rfl rfl (by decide) rfl ?_
  refine g_goto (pc := 141) C 103 dX8_tellOrderWords_141 (by decide) ?_
  refine g_sub [1, 2, 0] (lm' := [(0, tR (some (h0))), (1, tR (l1)), (2, tI (l2 + 1))]) rfl ?_
  obtain ⟨rfl, rfl⟩ := zsome h
  exact hI _ rfl
noncomputable def s_X8_tellOrderWords_b103 (h0 : Nat) (l1 : Option Nat) (l2 : Int32) (σ : Hp) : Option (((Nat × (Option Nat) × Int32) ⊕ ((Nat × (Option Nat)))) × Hp) :=
  if 3 ≤ l2 then
    some (Sum.inr ((h0), (l1)), σ)
  else
    (rdR 8 σ h0 0).bind fun r1 =>
    (r1).bind fun a2 =>
    (ck 1 σ a2).bind fun u3 =>
    cb (s_X1_isBadger a2 (l2) σ) fun v5 σ4 =>
    if v5 = 0 then
      s_X8_tellOrderWords_j137 (h0) (l1) (l2) (l1) (9 + l2) ((-1)) σ4
    else
      (rdR 8 σ4 h0 0).bind fun r6 =>
      (r6).bind fun a7 =>
      (rdR 1 σ4 a7 4).bind fun r8 =>
      (r8).bind fun a9 =>
      (ldI 11 σ4 a9 (l2)).bind fun v10 =>
      s_X8_tellOrderWords_j137 (h0) (l1) (l2) (l1) (9 + l2) (v10) σ4
noncomputable def s_X8_tellOrderWords_l103 : (Nat × (Option Nat) × Int32) → Hp → Option (((Nat × (Option Nat))) × Hp) := loopF (fun v => s_X8_tellOrderWords_b103 (v.1) (v.2.1) (v.2.2))
set_option maxRecDepth 100000 in
theorem w_X8_tellOrderWords_b103 {E : E0} (hE : EOK E) {X : X0} (C : XOK E X cX8_tellOrderWords RX8 3 none rm_X8_tellOrderWords) (hxn : xn X = (rm_X8_tellOrderWords.cells, rm_X8_tellOrderWords.slots)) {KE : ((Nat × (Option Nat))) → Hp → Prop} (e_144 : ∀ (h0 : Nat) (l1 : Option Nat) (σ : Hp), KE ((h0, l1)) σ → G E X 0 0 144 [(0, tR (some (h0))), (1, tR (l1))] [] σ) (h0 : Nat) (l1 : Option Nat) (l2 : Int32) (σ : Hp) (x : (Nat × (Option Nat) × Int32) ⊕ ((Nat × (Option Nat)))) (σ1 : Hp) (h : s_X8_tellOrderWords_b103 h0 l1 l2 σ = some (x, σ1)) (hI : ∀ v, x = Sum.inl v → (fun (v : Nat × (Option Nat) × Int32) (σ : Hp) => G E X 0 0 103 [(0, tR (some ((v.1)))), (1, tR ((v.2.1))), (2, tI ((v.2.2)))] [] σ) v σ1) (hO : ∀ e, x = Sum.inr e → KE e σ1) : G E X 0 0 103 [(0, tR (some (h0))), (1, tR (l1)), (2, tI (l2))] [] σ := by
  unfold s_X8_tellOrderWords_b103 at h
  refine g_iload_n (pc := 103) C 2 2 dX8_tellOrderWords_103 rfl rfl ?_
  refine g_iconst (v := 3) (pc := 104) C dX8_tellOrderWords_104 (by decide) ?_
  refine g_icmp_ge (pc := 105) C 144 dX8_tellOrderWords_105 (by decide) (fun c12 => ?_) (fun c12 => ?_)
  · have h := zif_t c12 h
    refine g_sub [0, 1] (lm' := [(0, tR (some (h0))), (1, tR (l1))]) rfl ?_
    obtain ⟨rfl, rfl⟩ := zsome h
    exact e_144 _ _ _ (hO _ rfl)
  · have h := zif_f c12 h
    refine g_aload_n (pc := 108) C 1 1 dX8_tellOrderWords_108 rfl rfl ?_
    refine g_bipush (v := 9) (pc := 109) C dX8_tellOrderWords_109 (by decide) ?_
    refine g_iload_n (pc := 111) C 2 2 dX8_tellOrderWords_111 rfl rfl ?_
    refine g_iadd (pc := 112) C dX8_tellOrderWords_112 ?_
    refine g_aload_n (pc := 113) C 0 0 dX8_tellOrderWords_113 rfl rfl ?_
    obtain ⟨r1, hvr1, h⟩ := zbind h
    refine g_getR (N := 19) (pc := 114) C ck_8 hvr1 rfl rfl fl_X8_12 dX8_tellOrderWords_114 ?_
    refine g_iload_n (pc := 117) C 2 2 dX8_tellOrderWords_117 rfl rfl ?_
    obtain ⟨a2, hqa2, h9⟩ := zbind h
    clear h
    subst hqa2
    have h := h9
    clear h9
    obtain ⟨u3, hvu3, h⟩ := zbind h
    obtain ⟨v5, σ4, hvσ4, h⟩ := zcb h
    refine g_callV (pc := 118) (av := [tI (l2)]) C (c_X1_isBadger hE hvσ4) yv_X1_isBadger ml_X8_160 ck_1 (zopt hvu3).1 rfl (rf_of (by decide)) rfl (Nat.le_of_ble_eq_true rfl) dX8_tellOrderWords_118 ?_
    refine g_if_eq (pc := 121) C 136 dX8_tellOrderWords_121 (by decide) (fun c11 => ?_) (fun c11 => ?_)
    · have h := zif_t c11 h
      refine g_iconst (v := (-1)) (pc := 136) C dX8_tellOrderWords_136 (by decide) ?_
      exact w_X8_tellOrderWords_j137 hE C hxn e_144 _ _ _ _ _ _ _ _ _ h hI hO
    · have h := zif_f c11 h
      refine g_aload_n (pc := 124) C 0 0 dX8_tellOrderWords_124 rfl rfl ?_
      obtain ⟨r6, hvr6, h⟩ := zbind h
      refine g_getR (N := 19) (pc := 125) C ck_8 hvr6 rfl rfl fl_X8_12 dX8_tellOrderWords_125 ?_
      obtain ⟨a7, hqa7, h9⟩ := zbind h
      clear h
      subst hqa7
      have h := h9
      clear h9
      obtain ⟨r8, hvr8, h⟩ := zbind h
      refine g_getR (N := 20) (pc := 128) C ck_1 hvr8 rfl rfl fl_X8_157 dX8_tellOrderWords_128 ?_
      refine g_iload_n (pc := 131) C 2 2 dX8_tellOrderWords_131 rfl rfl ?_
      obtain ⟨a9, hqa9, h9⟩ := zbind h
      clear h
      subst hqa9
      have h := h9
      clear h9
      obtain ⟨v10, hvv10, h⟩ := zbind h
      refine g_iald (pc := 132) C hvv10 dX8_tellOrderWords_132 ?_
      refine g_goto (pc := 133) C 137 dX8_tellOrderWords_133 (by decide) ?_
      exact w_X8_tellOrderWords_j137 hE C hxn e_144 _ _ _ _ _ _ _ _ _ h hI hO
theorem w_X8_tellOrderWords_l103 {E : E0} (hE : EOK E) {X : X0} (C : XOK E X cX8_tellOrderWords RX8 3 none rm_X8_tellOrderWords) (hxn : xn X = (rm_X8_tellOrderWords.cells, rm_X8_tellOrderWords.slots)) {KE : ((Nat × (Option Nat))) → Hp → Prop} (e_144 : ∀ (h0 : Nat) (l1 : Option Nat) (σ : Hp), KE ((h0, l1)) σ → G E X 0 0 144 [(0, tR (some (h0))), (1, tR (l1))] [] σ) {v : Nat × (Option Nat) × Int32} {σ : Hp} {e : (Nat × (Option Nat))} {σ1 : Hp} (h : s_X8_tellOrderWords_l103 v σ = some (e, σ1)) (hO : KE e σ1) : G E X 0 0 103 [(0, tR (some ((v.1)))), (1, tR ((v.2.1))), (2, tI ((v.2.2)))] [] σ := loopF_ind (P := fun (v : Nat × (Option Nat) × Int32) (σ : Hp) => G E X 0 0 103 [(0, tR (some ((v.1)))), (1, tR ((v.2.1))), (2, tI ((v.2.2)))] [] σ) (KE := KE) (fun v σ x σ1 h hI hO => w_X8_tellOrderWords_b103 hE C hxn e_144 (v.1) (v.2.1) (v.2.2) σ x σ1 h hI hO) v σ e σ1 h hO
noncomputable def s_X8_tellOrderWords_j181 (h0 : Nat) (l1 : Option Nat) (l2 : Int32) (t0 : Option Nat) (t1 : Int32) (t2 : Int32) (σ : Hp) : Option (((Nat × (Option Nat) × Int32) ⊕ (Unit)) × Hp) :=
  (t0).bind fun a1 =>
  (stI σ a1 (t1) (t2)).bind fun σ2 =>
  some (Sum.inl ((h0), (l1), (l2 + 1)), σ2)
set_option maxRecDepth 100000 in
theorem w_X8_tellOrderWords_j181 {E : E0} (hE : EOK E) {X : X0} (C : XOK E X cX8_tellOrderWords RX8 3 none rm_X8_tellOrderWords) (hxn : xn X = (rm_X8_tellOrderWords.cells, rm_X8_tellOrderWords.slots)) {KE : (Unit) → Hp → Prop} (e_ret : ∀ (r : Unit) (σ : Hp), KE (r) σ → xd X = (none, σ)) (h0 : Nat) (l1 : Option Nat) (l2 : Int32) (t0 : Option Nat) (t1 : Int32) (t2 : Int32) (σ : Hp) (x : (Nat × (Option Nat) × Int32) ⊕ (Unit)) (σ1 : Hp) (h : s_X8_tellOrderWords_j181 h0 l1 l2 t0 t1 t2 σ = some (x, σ1)) (hI : ∀ v, x = Sum.inl v → (fun (v : Nat × (Option Nat) × Int32) (σ : Hp) => G E X 0 0 146 [(0, tR (some ((v.1)))), (1, tR ((v.2.1))), (2, tI ((v.2.2)))] [] σ) v σ1) (hO : ∀ e, x = Sum.inr e → KE e σ1) : G E X 0 0 181 [(0, tR (some (h0))), (1, tR (l1)), (2, tI (l2))] [tI (t2), tI (t1), tR (t0)] σ := by
  unfold s_X8_tellOrderWords_j181 at h
  obtain ⟨a1, hqa1, h9⟩ := zbind h
  clear h
  subst hqa1
  have h := h9
  clear h9
  obtain ⟨σ2, hvσ2, h⟩ := zbind h
  refine g_iast (pc := 181) C hvσ2 dX8_tellOrderWords_181 ?_
  refine g_iinc (lm' := [(2, tI (l2 + 1)), (0, tR (some (h0))), (1, tR (l1))]) (v := l2 + 1) (pc := 182) C 2 dX8_tellOrderWords_182 rfl rfl (by decide) rfl ?_
  refine g_goto (pc := 185) C 146 dX8_tellOrderWords_185 (by decide) ?_
  refine g_sub [1, 2, 0] (lm' := [(0, tR (some (h0))), (1, tR (l1)), (2, tI (l2 + 1))]) rfl ?_
  obtain ⟨rfl, rfl⟩ := zsome h
  exact hI _ rfl
noncomputable def s_X8_tellOrderWords_b146 (h0 : Nat) (l1 : Option Nat) (l2 : Int32) (σ : Hp) : Option (((Nat × (Option Nat) × Int32) ⊕ (Unit)) × Hp) :=
  if 6 ≤ l2 then
    some (Sum.inr (), σ)
  else
    (rdR 8 σ h0 0).bind fun r1 =>
    (r1).bind fun a2 =>
    (ck 1 σ a2).bind fun u3 =>
    cb (s_X1_isThing a2 (l2) σ) fun v5 σ4 =>
    if v5 = 0 then
      s_X8_tellOrderWords_j181 (h0) (l1) (l2) (l1) (12 + l2) ((-1)) σ4
    else
      (rdR 8 σ4 h0 0).bind fun r6 =>
      (r6).bind fun a7 =>
      (rdR 1 σ4 a7 5).bind fun r8 =>
      (r8).bind fun a9 =>
      (ldI 11 σ4 a9 (l2)).bind fun v10 =>
      s_X8_tellOrderWords_j181 (h0) (l1) (l2) (l1) (12 + l2) (v10) σ4
noncomputable def s_X8_tellOrderWords_l146 : (Nat × (Option Nat) × Int32) → Hp → Option ((Unit) × Hp) := loopF (fun v => s_X8_tellOrderWords_b146 (v.1) (v.2.1) (v.2.2))
set_option maxRecDepth 100000 in
theorem w_X8_tellOrderWords_b146 {E : E0} (hE : EOK E) {X : X0} (C : XOK E X cX8_tellOrderWords RX8 3 none rm_X8_tellOrderWords) (hxn : xn X = (rm_X8_tellOrderWords.cells, rm_X8_tellOrderWords.slots)) {KE : (Unit) → Hp → Prop} (e_ret : ∀ (r : Unit) (σ : Hp), KE (r) σ → xd X = (none, σ)) (h0 : Nat) (l1 : Option Nat) (l2 : Int32) (σ : Hp) (x : (Nat × (Option Nat) × Int32) ⊕ (Unit)) (σ1 : Hp) (h : s_X8_tellOrderWords_b146 h0 l1 l2 σ = some (x, σ1)) (hI : ∀ v, x = Sum.inl v → (fun (v : Nat × (Option Nat) × Int32) (σ : Hp) => G E X 0 0 146 [(0, tR (some ((v.1)))), (1, tR ((v.2.1))), (2, tI ((v.2.2)))] [] σ) v σ1) (hO : ∀ e, x = Sum.inr e → KE e σ1) : G E X 0 0 146 [(0, tR (some (h0))), (1, tR (l1)), (2, tI (l2))] [] σ := by
  unfold s_X8_tellOrderWords_b146 at h
  refine g_iload_n (pc := 146) C 2 2 dX8_tellOrderWords_146 rfl rfl ?_
  refine g_bipush (v := 6) (pc := 147) C dX8_tellOrderWords_147 (by decide) ?_
  refine g_icmp_ge (pc := 149) C 188 dX8_tellOrderWords_149 (by decide) (fun c12 => ?_) (fun c12 => ?_)
  · have h := zif_t c12 h
    obtain ⟨rfl, rfl⟩ := zsome h
    exact g_vret (pc := 188) C rfl (e_ret _ _ (hO _ rfl)) (by rw [hxn]; rfl) (by rw [hxn]; rfl) dX8_tellOrderWords_188
  · have h := zif_f c12 h
    refine g_aload_n (pc := 152) C 1 1 dX8_tellOrderWords_152 rfl rfl ?_
    refine g_bipush (v := 12) (pc := 153) C dX8_tellOrderWords_153 (by decide) ?_
    refine g_iload_n (pc := 155) C 2 2 dX8_tellOrderWords_155 rfl rfl ?_
    refine g_iadd (pc := 156) C dX8_tellOrderWords_156 ?_
    refine g_aload_n (pc := 157) C 0 0 dX8_tellOrderWords_157 rfl rfl ?_
    obtain ⟨r1, hvr1, h⟩ := zbind h
    refine g_getR (N := 19) (pc := 158) C ck_8 hvr1 rfl rfl fl_X8_12 dX8_tellOrderWords_158 ?_
    refine g_iload_n (pc := 161) C 2 2 dX8_tellOrderWords_161 rfl rfl ?_
    obtain ⟨a2, hqa2, h9⟩ := zbind h
    clear h
    subst hqa2
    have h := h9
    clear h9
    obtain ⟨u3, hvu3, h⟩ := zbind h
    obtain ⟨v5, σ4, hvσ4, h⟩ := zcb h
    refine g_callV (pc := 162) (av := [tI (l2)]) C (c_X1_isThing hE hvσ4) yv_X1_isThing ml_X8_179 ck_1 (zopt hvu3).1 rfl (rf_of (by decide)) rfl (Nat.le_of_ble_eq_true rfl) dX8_tellOrderWords_162 ?_
    refine g_if_eq (pc := 165) C 180 dX8_tellOrderWords_165 (by decide) (fun c11 => ?_) (fun c11 => ?_)
    · have h := zif_t c11 h
      refine g_iconst (v := (-1)) (pc := 180) C dX8_tellOrderWords_180 (by decide) ?_
      exact w_X8_tellOrderWords_j181 hE C hxn e_ret _ _ _ _ _ _ _ _ _ h hI hO
    · have h := zif_f c11 h
      refine g_aload_n (pc := 168) C 0 0 dX8_tellOrderWords_168 rfl rfl ?_
      obtain ⟨r6, hvr6, h⟩ := zbind h
      refine g_getR (N := 19) (pc := 169) C ck_8 hvr6 rfl rfl fl_X8_12 dX8_tellOrderWords_169 ?_
      obtain ⟨a7, hqa7, h9⟩ := zbind h
      clear h
      subst hqa7
      have h := h9
      clear h9
      obtain ⟨r8, hvr8, h⟩ := zbind h
      refine g_getR (N := 20) (pc := 172) C ck_1 hvr8 rfl rfl fl_X8_170 dX8_tellOrderWords_172 ?_
      refine g_iload_n (pc := 175) C 2 2 dX8_tellOrderWords_175 rfl rfl ?_
      obtain ⟨a9, hqa9, h9⟩ := zbind h
      clear h
      subst hqa9
      have h := h9
      clear h9
      obtain ⟨v10, hvv10, h⟩ := zbind h
      refine g_iald (pc := 176) C hvv10 dX8_tellOrderWords_176 ?_
      refine g_goto (pc := 177) C 181 dX8_tellOrderWords_177 (by decide) ?_
      exact w_X8_tellOrderWords_j181 hE C hxn e_ret _ _ _ _ _ _ _ _ _ h hI hO
theorem w_X8_tellOrderWords_l146 {E : E0} (hE : EOK E) {X : X0} (C : XOK E X cX8_tellOrderWords RX8 3 none rm_X8_tellOrderWords) (hxn : xn X = (rm_X8_tellOrderWords.cells, rm_X8_tellOrderWords.slots)) {KE : (Unit) → Hp → Prop} (e_ret : ∀ (r : Unit) (σ : Hp), KE (r) σ → xd X = (none, σ)) {v : Nat × (Option Nat) × Int32} {σ : Hp} {e : Unit} {σ1 : Hp} (h : s_X8_tellOrderWords_l146 v σ = some (e, σ1)) (hO : KE e σ1) : G E X 0 0 146 [(0, tR (some ((v.1)))), (1, tR ((v.2.1))), (2, tI ((v.2.2)))] [] σ := loopF_ind (P := fun (v : Nat × (Option Nat) × Int32) (σ : Hp) => G E X 0 0 146 [(0, tR (some ((v.1)))), (1, tR ((v.2.1))), (2, tI ((v.2.2)))] [] σ) (KE := KE) (fun v σ x σ1 h hI hO => w_X8_tellOrderWords_b146 hE C hxn e_ret (v.1) (v.2.1) (v.2.2) σ x σ1 h hI hO) v σ e σ1 h hO
noncomputable def s_X8_tellOrderWords (h0 : Nat) (σ : Hp) : Option (Unit × Hp) :=
  (rdR 8 σ h0 7).bind fun r1 =>
  (r1).bind fun a2 =>
  (rdR 5 σ a2 0).bind fun r3 =>
  (rdR 8 σ h0 0).bind fun r4 =>
  (r4).bind fun a5 =>
  (rdR 1 σ a5 10).bind fun r6 =>
  (r6).bind fun a7 =>
  (ldI 11 σ a7 (0)).bind fun v8 =>
  (r3).bind fun a9 =>
  (stI σ a9 (0) (v8)).bind fun σ10 =>
  (rdI 8 σ10 h0 13).bind fun v11 =>
  (stI σ10 a9 (1) (v11)).bind fun σ12 =>
  (rdI 8 σ12 h0 14).bind fun v13 =>
  (stI σ12 a9 (2) (v13)).bind fun σ14 =>
  (rdR 8 σ14 h0 0).bind fun r15 =>
  (r15).bind fun a16 =>
  (rdI 1 σ14 a16 18).bind fun v17 =>
  (stI σ14 a9 (3) (v17)).bind fun σ18 =>
  (rdR 8 σ18 h0 0).bind fun r19 =>
  (r19).bind fun a20 =>
  (rdR 1 σ18 a20 10).bind fun r21 =>
  (r21).bind fun a22 =>
  (ldI 11 σ18 a22 (0)).bind fun v23 =>
  (stI σ18 a9 (4) (v23 - v23 / 24 * 24)).bind fun σ24 =>
  cb (s_X8_tellOrderWords_l61 ((h0), (some (a9)), (0)) σ24) fun e40 σ39 =>
  match e40 with
  | (h25, l126) =>
    cb (s_X8_tellOrderWords_l103 ((h25), (l126), (0)) σ39) fun e37 σ36 =>
    match e37 with
    | (h28, l129) =>
      cb (s_X8_tellOrderWords_l146 ((h28), (l129), (0)) σ36) fun r32 σ33 =>
      some (r32, σ33)
set_option maxRecDepth 100000 in
theorem c_X8_tellOrderWords {E : E0} (hE : EOK E) {h0 : Nat} {σ σ1 : Hp} {r : Unit} (h : s_X8_tellOrderWords h0 σ = some (r, σ1)) : CT E yX8_tellOrderWords (.code yX8_tellOrderWords cX8_tellOrderWords 3 none) rm_X8_tellOrderWords [tR (some (h0))] σ none σ1 := by
  refine CT.mk hE (by decide +kernel) (Nat.le_of_ble_eq_true rfl) [(0, tR (some (h0)))] rfl (fun X C hin hx hxn => ?_)
  have C : XOK E X cX8_tellOrderWords RX8 3 none rm_X8_tellOrderWords := C
  unfold s_X8_tellOrderWords at h
  refine g_aload_n (pc := 0) C 0 0 dX8_tellOrderWords_0 rfl rfl ?_
  obtain ⟨r1, hvr1, h⟩ := zbind h
  refine g_getR (N := 19) (pc := 1) C ck_8 hvr1 rfl rfl fl_X8_47 dX8_tellOrderWords_1 ?_
  obtain ⟨a2, hqa2, h9⟩ := zbind h
  clear h
  subst hqa2
  have h := h9
  clear h9
  obtain ⟨r3, hvr3, h⟩ := zbind h
  refine g_getR (N := 2) (pc := 4) C ck_5 hvr3 rfl rfl fl_X8_284 dX8_tellOrderWords_4 ?_
  refine g_astore_n (lm' := [(1, tR (r3)), (0, tR (some (h0)))]) (pc := 7) C 1 dX8_tellOrderWords_7 rfl (by decide) rfl ?_
  refine g_aload_n (pc := 8) C 1 0 dX8_tellOrderWords_8 rfl rfl ?_
  refine g_iconst (v := 0) (pc := 9) C dX8_tellOrderWords_9 (by decide) ?_
  refine g_aload_n (pc := 10) C 0 1 dX8_tellOrderWords_10 rfl rfl ?_
  obtain ⟨r4, hvr4, h⟩ := zbind h
  refine g_getR (N := 19) (pc := 11) C ck_8 hvr4 rfl rfl fl_X8_12 dX8_tellOrderWords_11 ?_
  obtain ⟨a5, hqa5, h9⟩ := zbind h
  clear h
  subst hqa5
  have h := h9
  clear h9
  obtain ⟨r6, hvr6, h⟩ := zbind h
  refine g_getR (N := 20) (pc := 14) C ck_1 hvr6 rfl rfl fl_X8_132 dX8_tellOrderWords_14 ?_
  refine g_iconst (v := 0) (pc := 17) C dX8_tellOrderWords_17 (by decide) ?_
  obtain ⟨a7, hqa7, h9⟩ := zbind h
  clear h
  subst hqa7
  have h := h9
  clear h9
  obtain ⟨v8, hvv8, h⟩ := zbind h
  refine g_iald (pc := 18) C hvv8 dX8_tellOrderWords_18 ?_
  obtain ⟨a9, hqa9, h9⟩ := zbind h
  clear h
  subst hqa9
  have h := h9
  clear h9
  obtain ⟨σ10, hvσ10, h⟩ := zbind h
  refine g_iast (pc := 19) C hvσ10 dX8_tellOrderWords_19 ?_
  refine g_aload_n (pc := 20) C 1 0 dX8_tellOrderWords_20 rfl rfl ?_
  refine g_iconst (v := 1) (pc := 21) C dX8_tellOrderWords_21 (by decide) ?_
  refine g_aload_n (pc := 22) C 0 1 dX8_tellOrderWords_22 rfl rfl ?_
  obtain ⟨v11, hvv11, h⟩ := zbind h
  refine g_getI (N := 19) (pc := 23) C ck_8 hvv11 rfl rfl fl_X8_76 dX8_tellOrderWords_23 ?_
  obtain ⟨σ12, hvσ12, h⟩ := zbind h
  refine g_iast (pc := 26) C hvσ12 dX8_tellOrderWords_26 ?_
  refine g_aload_n (pc := 27) C 1 0 dX8_tellOrderWords_27 rfl rfl ?_
  refine g_iconst (v := 2) (pc := 28) C dX8_tellOrderWords_28 (by decide) ?_
  refine g_aload_n (pc := 29) C 0 1 dX8_tellOrderWords_29 rfl rfl ?_
  obtain ⟨v13, hvv13, h⟩ := zbind h
  refine g_getI (N := 19) (pc := 30) C ck_8 hvv13 rfl rfl fl_X8_80 dX8_tellOrderWords_30 ?_
  obtain ⟨σ14, hvσ14, h⟩ := zbind h
  refine g_iast (pc := 33) C hvσ14 dX8_tellOrderWords_33 ?_
  refine g_aload_n (pc := 34) C 1 0 dX8_tellOrderWords_34 rfl rfl ?_
  refine g_iconst (v := 3) (pc := 35) C dX8_tellOrderWords_35 (by decide) ?_
  refine g_aload_n (pc := 36) C 0 1 dX8_tellOrderWords_36 rfl rfl ?_
  obtain ⟨r15, hvr15, h⟩ := zbind h
  refine g_getR (N := 19) (pc := 37) C ck_8 hvr15 rfl rfl fl_X8_12 dX8_tellOrderWords_37 ?_
  obtain ⟨a16, hqa16, h9⟩ := zbind h
  clear h
  subst hqa16
  have h := h9
  clear h9
  obtain ⟨v17, hvv17, h⟩ := zbind h
  refine g_getI (N := 20) (pc := 40) C ck_1 hvv17 rfl rfl fl_X8_287 dX8_tellOrderWords_40 ?_
  obtain ⟨σ18, hvσ18, h⟩ := zbind h
  refine g_iast (pc := 43) C hvσ18 dX8_tellOrderWords_43 ?_
  refine g_aload_n (pc := 44) C 1 0 dX8_tellOrderWords_44 rfl rfl ?_
  refine g_iconst (v := 4) (pc := 45) C dX8_tellOrderWords_45 (by decide) ?_
  refine g_aload_n (pc := 46) C 0 1 dX8_tellOrderWords_46 rfl rfl ?_
  obtain ⟨r19, hvr19, h⟩ := zbind h
  refine g_getR (N := 19) (pc := 47) C ck_8 hvr19 rfl rfl fl_X8_12 dX8_tellOrderWords_47 ?_
  obtain ⟨a20, hqa20, h9⟩ := zbind h
  clear h
  subst hqa20
  have h := h9
  clear h9
  obtain ⟨r21, hvr21, h⟩ := zbind h
  refine g_getR (N := 20) (pc := 50) C ck_1 hvr21 rfl rfl fl_X8_132 dX8_tellOrderWords_50 ?_
  refine g_iconst (v := 0) (pc := 53) C dX8_tellOrderWords_53 (by decide) ?_
  obtain ⟨a22, hqa22, h9⟩ := zbind h
  clear h
  subst hqa22
  have h := h9
  clear h9
  obtain ⟨v23, hvv23, h⟩ := zbind h
  refine g_iald (pc := 54) C hvv23 dX8_tellOrderWords_54 ?_
  refine g_bipush (v := 24) (pc := 55) C dX8_tellOrderWords_55 (by decide) ?_
  refine g_irem (pc := 57) C dX8_tellOrderWords_57 (by decide) ?_
  obtain ⟨σ24, hvσ24, h⟩ := zbind h
  refine g_iast (pc := 58) C hvσ24 dX8_tellOrderWords_58 ?_
  refine g_iconst (v := 0) (pc := 59) C dX8_tellOrderWords_59 (by decide) ?_
  refine g_istore_n (lm' := [(2, tI (0)), (1, tR (some (a9))), (0, tR (some (h0)))]) (pc := 60) C 2 dX8_tellOrderWords_60 rfl (by decide) rfl ?_
  refine g_sub [2, 1, 0] (lm' := [(0, tR (some (h0))), (1, tR (some (a9))), (2, tI (0))]) rfl ?_
  obtain ⟨KQ, hKQ, e40, σ39, hle40, h⟩ := zcbK h
  refine w_X8_tellOrderWords_l61 (KE := KQ) hE C hxn ?_ hle40 h
  · intro h25 l126 σ27 h
    have h := (hKQ _ _).mp h
    refine g_iconst (v := 0) (pc := 101) C dX8_tellOrderWords_101 (by decide) ?_
    refine g_istore_n (lm' := [(2, tI (0)), (0, tR (some (h25))), (1, tR (l126))]) (pc := 102) C 2 dX8_tellOrderWords_102 rfl (by decide) rfl ?_
    refine g_sub [1, 2, 0] (lm' := [(0, tR (some (h25))), (1, tR (l126)), (2, tI (0))]) rfl ?_
    obtain ⟨KQ, hKQ, e37, σ36, hle37, h⟩ := zcbK h
    refine w_X8_tellOrderWords_l103 (KE := KQ) hE C hxn ?_ hle37 h
    · intro h28 l129 σ30 h
      have h := (hKQ _ _).mp h
      refine g_iconst (v := 0) (pc := 144) C dX8_tellOrderWords_144 (by decide) ?_
      refine g_istore_n (lm' := [(2, tI (0)), (0, tR (some (h28))), (1, tR (l129))]) (pc := 145) C 2 dX8_tellOrderWords_145 rfl (by decide) rfl ?_
      refine g_sub [1, 2, 0] (lm' := [(0, tR (some (h28))), (1, tR (l129)), (2, tI (0))]) rfl ?_
      obtain ⟨KQ, hKQ, r32, σ33, hlr32, h⟩ := zcbK h
      refine w_X8_tellOrderWords_l146 (KE := KQ) hE C hxn ?_ hlr32 h
      · intro r32 σ31 h
        have h := (hKQ _ _).mp h
        obtain ⟨rfl, rfl⟩ := zsome h
        exact hx
def rm_X8_tryStride : Room := { frames := 5, cells := 0, slots := 0, locals := 128 }
noncomputable def s_X8_tryStride (h0 : Nat) (p1 : Int32) (p2 : Int32) (σ : Hp) : Option (Int32 × Hp) :=
  (rdR 8 σ h0 0).bind fun r1 =>
  (r1).bind fun a2 =>
  (ck 1 σ a2).bind fun u3 =>
  cb (s_X1_isFolk a2 (p1) σ) fun v5 σ4 =>
  if v5 = 0 then
    some (((-2)), σ4)
  else
    (rdR 8 σ4 h0 0).bind fun r6 =>
    (r6).bind fun a7 =>
    (rdR 1 σ4 a7 0).bind fun r8 =>
    (r8).bind fun a9 =>
    (ck 3 σ4 a9).bind fun u10 =>
    cb (s_X3_isOne a9 (p2) σ4) fun v12 σ11 =>
    if v12 = 0 then
      some (((-2)), σ11)
    else
      (rdR 8 σ11 h0 0).bind fun r13 =>
      (r13).bind fun a14 =>
      (ck 1 σ11 a14).bind fun u15 =>
      cb (s_X1_mayStride a14 (p1) (p2) σ11) fun v17 σ16 =>
      if v17 = 0 then
        some (((-3)), σ16)
      else
        (rdR 8 σ16 h0 8).bind fun r18 =>
        (rdR 8 σ16 h0 0).bind fun r19 =>
        (r19).bind fun a20 =>
        (rdR 1 σ16 a20 3).bind fun r21 =>
        (r21).bind fun a22 =>
        (ldI 11 σ16 a22 (p1)).bind fun v23 =>
        (rdR 8 σ16 h0 0).bind fun r24 =>
        (r18).bind fun a25 =>
        (ck 0 σ16 a25).bind fun u26 =>
        cb (s_X0_add a25 (0) (p1) (v23) (r24) σ16) fun v28 σ27 =>
        (rdR 8 σ27 h0 0).bind fun r29 =>
        (r29).bind fun a30 =>
        (rdR 1 σ27 a30 3).bind fun r31 =>
        (r31).bind fun a32 =>
        (stI σ27 a32 (p1) (p2)).bind fun σ33 =>
        (rdR 8 σ33 h0 0).bind fun r34 =>
        (rdR 8 σ33 h0 0).bind fun r35 =>
        (r35).bind fun a36 =>
        (rdR 1 σ33 a36 10).bind fun r37 =>
        (r37).bind fun a38 =>
        (ldI 11 σ33 a38 (0)).bind fun v39 =>
        (r34).bind fun a40 =>
        (ck 1 σ33 a40).bind fun u41 =>
        cb (s_X1_isSafe a40 (p2) (v39) σ33) fun v43 σ42 =>
        if v43 = 0 then
          some ((0), σ42)
        else
          some ((1), σ42)
set_option maxRecDepth 100000 in
theorem c_X8_tryStride {E : E0} (hE : EOK E) {h0 : Nat} {p1 : Int32} {p2 : Int32} {σ σ1 : Hp} {r : Int32} (h : s_X8_tryStride h0 p1 p2 σ = some (r, σ1)) : CT E yX8_tryStride (.code yX8_tryStride cX8_tryStride 3 (some .int)) rm_X8_tryStride [tR (some (h0)), tI (p1), tI (p2)] σ (some (tI r)) σ1 := by
  refine CT.mk hE (by decide +kernel) (Nat.le_of_ble_eq_true rfl) [(0, tR (some (h0))), (1, tI (p1)), (2, tI (p2))] rfl (fun X C hin hx hxn => ?_)
  have C : XOK E X cX8_tryStride RX8 3 (some .int) rm_X8_tryStride := C
  unfold s_X8_tryStride at h
  refine g_aload_n (pc := 0) C 0 0 dX8_tryStride_0 rfl rfl ?_
  obtain ⟨r1, hvr1, h⟩ := zbind h
  refine g_getR (N := 19) (pc := 1) C ck_8 hvr1 rfl rfl fl_X8_12 dX8_tryStride_1 ?_
  refine g_iload_n (pc := 4) C 1 1 dX8_tryStride_4 rfl rfl ?_
  obtain ⟨a2, hqa2, h9⟩ := zbind h
  clear h
  subst hqa2
  have h := h9
  clear h9
  obtain ⟨u3, hvu3, h⟩ := zbind h
  obtain ⟨v5, σ4, hvσ4, h⟩ := zcb h
  refine g_callV (pc := 5) (av := [tI (p1)]) C (c_X1_isFolk hE hvσ4) yv_X1_isFolk ml_X8_151 ck_1 (zopt hvu3).1 rfl (rf_of (by decide)) rfl (Nat.le_of_ble_eq_true rfl) dX8_tryStride_5 ?_
  refine g_if_eq (pc := 8) C 25 dX8_tryStride_8 (by decide) (fun c47 => ?_) (fun c47 => ?_)
  · have h := zif_t c47 h
    refine g_bipush (v := (-2)) (pc := 25) C dX8_tryStride_25 (by decide) ?_
    obtain ⟨rfl, rfl⟩ := zsome h
    exact g_iret (pc := 27) C rfl hx (by rw [hxn]; rfl) (by rw [hxn]; rfl) dX8_tryStride_27
  · have h := zif_f c47 h
    refine g_aload_n (pc := 11) C 0 0 dX8_tryStride_11 rfl rfl ?_
    obtain ⟨r6, hvr6, h⟩ := zbind h
    refine g_getR (N := 19) (pc := 12) C ck_8 hvr6 rfl rfl fl_X8_12 dX8_tryStride_12 ?_
    obtain ⟨a7, hqa7, h9⟩ := zbind h
    clear h
    subst hqa7
    have h := h9
    clear h9
    obtain ⟨r8, hvr8, h⟩ := zbind h
    refine g_getR (N := 20) (pc := 15) C ck_1 hvr8 rfl rfl fl_X8_103 dX8_tryStride_15 ?_
    refine g_iload_n (pc := 18) C 2 2 dX8_tryStride_18 rfl rfl ?_
    obtain ⟨a9, hqa9, h9⟩ := zbind h
    clear h
    subst hqa9
    have h := h9
    clear h9
    obtain ⟨u10, hvu10, h⟩ := zbind h
    obtain ⟨v12, σ11, hvσ11, h⟩ := zcb h
    refine g_callV (pc := 19) (av := [tI (p2)]) C (c_X3_isOne hE hvσ11) yv_X3_isOne ml_X8_122 ck_3 (zopt hvu10).1 rfl (rf_of (by decide)) rfl (Nat.le_of_ble_eq_true rfl) dX8_tryStride_19 ?_
    refine g_if_ne (pc := 22) C 28 dX8_tryStride_22 (by decide) (fun c46 => ?_) (fun c46 => ?_)
    · have h := zif_f c46 h
      refine g_aload_n (pc := 28) C 0 0 dX8_tryStride_28 rfl rfl ?_
      obtain ⟨r13, hvr13, h⟩ := zbind h
      refine g_getR (N := 19) (pc := 29) C ck_8 hvr13 rfl rfl fl_X8_12 dX8_tryStride_29 ?_
      refine g_iload_n (pc := 32) C 1 1 dX8_tryStride_32 rfl rfl ?_
      refine g_iload_n (pc := 33) C 2 2 dX8_tryStride_33 rfl rfl ?_
      obtain ⟨a14, hqa14, h9⟩ := zbind h
      clear h
      subst hqa14
      have h := h9
      clear h9
      obtain ⟨u15, hvu15, h⟩ := zbind h
      obtain ⟨v17, σ16, hvσ16, h⟩ := zcb h
      refine g_callV (pc := 34) (av := [tI (p1), tI (p2)]) C (c_X1_mayStride hE hvσ16) yv_X1_mayStride ml_X8_203 ck_1 (zopt hvu15).1 rfl (rf_of (by decide)) rfl (Nat.le_of_ble_eq_true rfl) dX8_tryStride_34 ?_
      refine g_if_ne (pc := 37) C 43 dX8_tryStride_37 (by decide) (fun c45 => ?_) (fun c45 => ?_)
      · have h := zif_f c45 h
        refine g_aload_n (pc := 43) C 0 0 dX8_tryStride_43 rfl rfl ?_
        obtain ⟨r18, hvr18, h⟩ := zbind h
        refine g_getR (N := 19) (pc := 44) C ck_8 hvr18 rfl rfl fl_X8_54 dX8_tryStride_44 ?_
        refine g_iconst (v := 0) (pc := 47) C dX8_tryStride_47 (by decide) ?_
        refine g_iload_n (pc := 48) C 1 1 dX8_tryStride_48 rfl rfl ?_
        refine g_aload_n (pc := 49) C 0 0 dX8_tryStride_49 rfl rfl ?_
        obtain ⟨r19, hvr19, h⟩ := zbind h
        refine g_getR (N := 19) (pc := 50) C ck_8 hvr19 rfl rfl fl_X8_12 dX8_tryStride_50 ?_
        obtain ⟨a20, hqa20, h9⟩ := zbind h
        clear h
        subst hqa20
        have h := h9
        clear h9
        obtain ⟨r21, hvr21, h⟩ := zbind h
        refine g_getR (N := 20) (pc := 53) C ck_1 hvr21 rfl rfl fl_X8_148 dX8_tryStride_53 ?_
        refine g_iload_n (pc := 56) C 1 1 dX8_tryStride_56 rfl rfl ?_
        obtain ⟨a22, hqa22, h9⟩ := zbind h
        clear h
        subst hqa22
        have h := h9
        clear h9
        obtain ⟨v23, hvv23, h⟩ := zbind h
        refine g_iald (pc := 57) C hvv23 dX8_tryStride_57 ?_
        refine g_aload_n (pc := 58) C 0 0 dX8_tryStride_58 rfl rfl ?_
        obtain ⟨r24, hvr24, h⟩ := zbind h
        refine g_getR (N := 19) (pc := 59) C ck_8 hvr24 rfl rfl fl_X8_12 dX8_tryStride_59 ?_
        obtain ⟨a25, hqa25, h9⟩ := zbind h
        clear h
        subst hqa25
        have h := h9
        clear h9
        obtain ⟨u26, hvu26, h⟩ := zbind h
        obtain ⟨v28, σ27, hvσ27, h⟩ := zcb h
        refine g_callV (pc := 62) (av := [tI (0), tI (p1), tI (v23), tR (r24)]) C (c_X0_add hE hvσ27) yv_X0_add ml_X8_299 ck_0 (zopt hvu26).1 rfl (rf_of (by decide)) rfl (Nat.le_of_ble_eq_true rfl) dX8_tryStride_62 ?_
        refine g_aload_n (pc := 65) C 0 0 dX8_tryStride_65 rfl rfl ?_
        obtain ⟨r29, hvr29, h⟩ := zbind h
        refine g_getR (N := 19) (pc := 66) C ck_8 hvr29 rfl rfl fl_X8_12 dX8_tryStride_66 ?_
        obtain ⟨a30, hqa30, h9⟩ := zbind h
        clear h
        subst hqa30
        have h := h9
        clear h9
        obtain ⟨r31, hvr31, h⟩ := zbind h
        refine g_getR (N := 20) (pc := 69) C ck_1 hvr31 rfl rfl fl_X8_148 dX8_tryStride_69 ?_
        refine g_iload_n (pc := 72) C 1 1 dX8_tryStride_72 rfl rfl ?_
        refine g_iload_n (pc := 73) C 2 2 dX8_tryStride_73 rfl rfl ?_
        obtain ⟨a32, hqa32, h9⟩ := zbind h
        clear h
        subst hqa32
        have h := h9
        clear h9
        obtain ⟨σ33, hvσ33, h⟩ := zbind h
        refine g_iast (pc := 74) C hvσ33 dX8_tryStride_74 ?_
        refine g_aload_n (pc := 75) C 0 0 dX8_tryStride_75 rfl rfl ?_
        obtain ⟨r34, hvr34, h⟩ := zbind h
        refine g_getR (N := 19) (pc := 76) C ck_8 hvr34 rfl rfl fl_X8_12 dX8_tryStride_76 ?_
        refine g_iload_n (pc := 79) C 2 2 dX8_tryStride_79 rfl rfl ?_
        refine g_aload_n (pc := 80) C 0 0 dX8_tryStride_80 rfl rfl ?_
        obtain ⟨r35, hvr35, h⟩ := zbind h
        refine g_getR (N := 19) (pc := 81) C ck_8 hvr35 rfl rfl fl_X8_12 dX8_tryStride_81 ?_
        obtain ⟨a36, hqa36, h9⟩ := zbind h
        clear h
        subst hqa36
        have h := h9
        clear h9
        obtain ⟨r37, hvr37, h⟩ := zbind h
        refine g_getR (N := 20) (pc := 84) C ck_1 hvr37 rfl rfl fl_X8_132 dX8_tryStride_84 ?_
        refine g_iconst (v := 0) (pc := 87) C dX8_tryStride_87 (by decide) ?_
        obtain ⟨a38, hqa38, h9⟩ := zbind h
        clear h
        subst hqa38
        have h := h9
        clear h9
        obtain ⟨v39, hvv39, h⟩ := zbind h
        refine g_iald (pc := 88) C hvv39 dX8_tryStride_88 ?_
        obtain ⟨a40, hqa40, h9⟩ := zbind h
        clear h
        subst hqa40
        have h := h9
        clear h9
        obtain ⟨u41, hvu41, h⟩ := zbind h
        obtain ⟨v43, σ42, hvσ42, h⟩ := zcb h
        refine g_callV (pc := 89) (av := [tI (p2), tI (v39)]) C (c_X1_isSafe hE hvσ42) yv_X1_isSafe ml_X8_135 ck_1 (zopt hvu41).1 rfl (rf_of (by decide)) rfl (Nat.le_of_ble_eq_true rfl) dX8_tryStride_89 ?_
        refine g_if_eq (pc := 92) C 99 dX8_tryStride_92 (by decide) (fun c44 => ?_) (fun c44 => ?_)
        · have h := zif_t c44 h
          refine g_iconst (v := 0) (pc := 99) C dX8_tryStride_99 (by decide) ?_
          obtain ⟨rfl, rfl⟩ := zsome h
          exact g_iret (pc := 100) C rfl hx (by rw [hxn]; rfl) (by rw [hxn]; rfl) dX8_tryStride_100
        · have h := zif_f c44 h
          refine g_iconst (v := 1) (pc := 95) C dX8_tryStride_95 (by decide) ?_
          refine g_goto (pc := 96) C 100 dX8_tryStride_96 (by decide) ?_
          obtain ⟨rfl, rfl⟩ := zsome h
          exact g_iret (pc := 100) C rfl hx (by rw [hxn]; rfl) (by rw [hxn]; rfl) dX8_tryStride_100
      · have h := zif_t c45 h
        refine g_bipush (v := (-3)) (pc := 40) C dX8_tryStride_40 (by decide) ?_
        obtain ⟨rfl, rfl⟩ := zsome h
        exact g_iret (pc := 42) C rfl hx (by rw [hxn]; rfl) (by rw [hxn]; rfl) dX8_tryStride_42
    · have h := zif_t c46 h
      refine g_bipush (v := (-2)) (pc := 25) C dX8_tryStride_25 (by decide) ?_
      obtain ⟨rfl, rfl⟩ := zsome h
      exact g_iret (pc := 27) C rfl hx (by rw [hxn]; rfl) (by rw [hxn]; rfl) dX8_tryStride_27
def rm_X8_tryPut : Room := { frames := 2, cells := 0, slots := 0, locals := 85 }
noncomputable def s_X8_tryPut (h0 : Nat) (p1 : Int32) (p2 : Int32) (σ : Hp) : Option (Int32 × Hp) :=
  (rdR 8 σ h0 0).bind fun r1 =>
  (r1).bind fun a2 =>
  (ck 1 σ a2).bind fun u3 =>
  cb (s_X1_isThing a2 (p1) σ) fun v5 σ4 =>
  if v5 = 0 then
    some (((-2)), σ4)
  else
    (rdR 8 σ4 h0 0).bind fun r6 =>
    (r6).bind fun a7 =>
    (rdR 1 σ4 a7 0).bind fun r8 =>
    (r8).bind fun a9 =>
    (ck 3 σ4 a9).bind fun u10 =>
    cb (s_X3_isOne a9 (p2) σ4) fun v12 σ11 =>
    if v12 = 0 then
      some (((-2)), σ11)
    else
      (rdR 8 σ11 h0 0).bind fun r13 =>
      (r13).bind fun a14 =>
      (rdR 1 σ11 a14 5).bind fun r15 =>
      (r15).bind fun a16 =>
      (ldI 11 σ11 a16 (p1)).bind fun v17 =>
      if v17 = p2 then
        some (((-3)), σ11)
      else
        (rdR 8 σ11 h0 8).bind fun r18 =>
        (rdR 8 σ11 h0 0).bind fun r19 =>
        (r18).bind fun a20 =>
        (ck 0 σ11 a20).bind fun u21 =>
        cb (s_X0_add a20 (1) (p1) (v17) (r19) σ11) fun v23 σ22 =>
        (rdR 8 σ22 h0 0).bind fun r24 =>
        (r24).bind fun a25 =>
        (rdR 1 σ22 a25 5).bind fun r26 =>
        (r26).bind fun a27 =>
        (stI σ22 a27 (p1) (p2)).bind fun σ28 =>
        some ((v17), σ28)
set_option maxRecDepth 100000 in
theorem c_X8_tryPut {E : E0} (hE : EOK E) {h0 : Nat} {p1 : Int32} {p2 : Int32} {σ σ1 : Hp} {r : Int32} (h : s_X8_tryPut h0 p1 p2 σ = some (r, σ1)) : CT E yX8_tryPut (.code yX8_tryPut cX8_tryPut 4 (some .int)) rm_X8_tryPut [tR (some (h0)), tI (p1), tI (p2)] σ (some (tI r)) σ1 := by
  refine CT.mk hE (by decide +kernel) (Nat.le_of_ble_eq_true rfl) [(0, tR (some (h0))), (1, tI (p1)), (2, tI (p2))] rfl (fun X C hin hx hxn => ?_)
  have C : XOK E X cX8_tryPut RX8 4 (some .int) rm_X8_tryPut := C
  unfold s_X8_tryPut at h
  refine g_aload_n (pc := 0) C 0 0 dX8_tryPut_0 rfl rfl ?_
  obtain ⟨r1, hvr1, h⟩ := zbind h
  refine g_getR (N := 19) (pc := 1) C ck_8 hvr1 rfl rfl fl_X8_12 dX8_tryPut_1 ?_
  refine g_iload_n (pc := 4) C 1 1 dX8_tryPut_4 rfl rfl ?_
  obtain ⟨a2, hqa2, h9⟩ := zbind h
  clear h
  subst hqa2
  have h := h9
  clear h9
  obtain ⟨u3, hvu3, h⟩ := zbind h
  obtain ⟨v5, σ4, hvσ4, h⟩ := zcb h
  refine g_callV (pc := 5) (av := [tI (p1)]) C (c_X1_isThing hE hvσ4) yv_X1_isThing ml_X8_179 ck_1 (zopt hvu3).1 rfl (rf_of (by decide)) rfl (Nat.le_of_ble_eq_true rfl) dX8_tryPut_5 ?_
  refine g_if_eq (pc := 8) C 25 dX8_tryPut_8 (by decide) (fun c31 => ?_) (fun c31 => ?_)
  · have h := zif_t c31 h
    refine g_bipush (v := (-2)) (pc := 25) C dX8_tryPut_25 (by decide) ?_
    obtain ⟨rfl, rfl⟩ := zsome h
    exact g_iret (pc := 27) C rfl hx (by rw [hxn]; rfl) (by rw [hxn]; rfl) dX8_tryPut_27
  · have h := zif_f c31 h
    refine g_aload_n (pc := 11) C 0 0 dX8_tryPut_11 rfl rfl ?_
    obtain ⟨r6, hvr6, h⟩ := zbind h
    refine g_getR (N := 19) (pc := 12) C ck_8 hvr6 rfl rfl fl_X8_12 dX8_tryPut_12 ?_
    obtain ⟨a7, hqa7, h9⟩ := zbind h
    clear h
    subst hqa7
    have h := h9
    clear h9
    obtain ⟨r8, hvr8, h⟩ := zbind h
    refine g_getR (N := 20) (pc := 15) C ck_1 hvr8 rfl rfl fl_X8_103 dX8_tryPut_15 ?_
    refine g_iload_n (pc := 18) C 2 2 dX8_tryPut_18 rfl rfl ?_
    obtain ⟨a9, hqa9, h9⟩ := zbind h
    clear h
    subst hqa9
    have h := h9
    clear h9
    obtain ⟨u10, hvu10, h⟩ := zbind h
    obtain ⟨v12, σ11, hvσ11, h⟩ := zcb h
    refine g_callV (pc := 19) (av := [tI (p2)]) C (c_X3_isOne hE hvσ11) yv_X3_isOne ml_X8_122 ck_3 (zopt hvu10).1 rfl (rf_of (by decide)) rfl (Nat.le_of_ble_eq_true rfl) dX8_tryPut_19 ?_
    refine g_if_ne (pc := 22) C 28 dX8_tryPut_22 (by decide) (fun c30 => ?_) (fun c30 => ?_)
    · have h := zif_f c30 h
      refine g_aload_n (pc := 28) C 0 0 dX8_tryPut_28 rfl rfl ?_
      obtain ⟨r13, hvr13, h⟩ := zbind h
      refine g_getR (N := 19) (pc := 29) C ck_8 hvr13 rfl rfl fl_X8_12 dX8_tryPut_29 ?_
      obtain ⟨a14, hqa14, h9⟩ := zbind h
      clear h
      subst hqa14
      have h := h9
      clear h9
      obtain ⟨r15, hvr15, h⟩ := zbind h
      refine g_getR (N := 20) (pc := 32) C ck_1 hvr15 rfl rfl fl_X8_170 dX8_tryPut_32 ?_
      refine g_iload_n (pc := 35) C 1 1 dX8_tryPut_35 rfl rfl ?_
      obtain ⟨a16, hqa16, h9⟩ := zbind h
      clear h
      subst hqa16
      have h := h9
      clear h9
      obtain ⟨v17, hvv17, h⟩ := zbind h
      refine g_iald (pc := 36) C hvv17 dX8_tryPut_36 ?_
      refine g_istore_n (lm' := [(3, tI (v17)), (0, tR (some (h0))), (1, tI (p1)), (2, tI (p2))]) (pc := 37) C 3 dX8_tryPut_37 rfl (by decide) rfl ?_
      refine g_iload_n (pc := 38) C 3 0 dX8_tryPut_38 rfl rfl ?_
      refine g_iload_n (pc := 39) C 2 3 dX8_tryPut_39 rfl rfl ?_
      refine g_icmp_ne (pc := 40) C 46 dX8_tryPut_40 (by decide) (fun c29 => ?_) (fun c29 => ?_)
      · have h := zif_f c29 h
        refine g_aload_n (pc := 46) C 0 1 dX8_tryPut_46 rfl rfl ?_
        obtain ⟨r18, hvr18, h⟩ := zbind h
        refine g_getR (N := 19) (pc := 47) C ck_8 hvr18 rfl rfl fl_X8_54 dX8_tryPut_47 ?_
        refine g_iconst (v := 1) (pc := 50) C dX8_tryPut_50 (by decide) ?_
        refine g_iload_n (pc := 51) C 1 2 dX8_tryPut_51 rfl rfl ?_
        refine g_iload_n (pc := 52) C 3 0 dX8_tryPut_52 rfl rfl ?_
        refine g_aload_n (pc := 53) C 0 1 dX8_tryPut_53 rfl rfl ?_
        obtain ⟨r19, hvr19, h⟩ := zbind h
        refine g_getR (N := 19) (pc := 54) C ck_8 hvr19 rfl rfl fl_X8_12 dX8_tryPut_54 ?_
        obtain ⟨a20, hqa20, h9⟩ := zbind h
        clear h
        subst hqa20
        have h := h9
        clear h9
        obtain ⟨u21, hvu21, h⟩ := zbind h
        obtain ⟨v23, σ22, hvσ22, h⟩ := zcb h
        refine g_callV (pc := 57) (av := [tI (1), tI (p1), tI (v17), tR (r19)]) C (c_X0_add hE hvσ22) yv_X0_add ml_X8_299 ck_0 (zopt hvu21).1 rfl (rf_of (by decide)) rfl (Nat.le_of_ble_eq_true rfl) dX8_tryPut_57 ?_
        refine g_aload_n (pc := 60) C 0 1 dX8_tryPut_60 rfl rfl ?_
        obtain ⟨r24, hvr24, h⟩ := zbind h
        refine g_getR (N := 19) (pc := 61) C ck_8 hvr24 rfl rfl fl_X8_12 dX8_tryPut_61 ?_
        obtain ⟨a25, hqa25, h9⟩ := zbind h
        clear h
        subst hqa25
        have h := h9
        clear h9
        obtain ⟨r26, hvr26, h⟩ := zbind h
        refine g_getR (N := 20) (pc := 64) C ck_1 hvr26 rfl rfl fl_X8_170 dX8_tryPut_64 ?_
        refine g_iload_n (pc := 67) C 1 2 dX8_tryPut_67 rfl rfl ?_
        refine g_iload_n (pc := 68) C 2 3 dX8_tryPut_68 rfl rfl ?_
        obtain ⟨a27, hqa27, h9⟩ := zbind h
        clear h
        subst hqa27
        have h := h9
        clear h9
        obtain ⟨σ28, hvσ28, h⟩ := zbind h
        refine g_iast (pc := 69) C hvσ28 dX8_tryPut_69 ?_
        refine g_iload_n (pc := 70) C 3 0 dX8_tryPut_70 rfl rfl ?_
        obtain ⟨rfl, rfl⟩ := zsome h
        exact g_iret (pc := 71) C rfl hx (by rw [hxn]; rfl) (by rw [hxn]; rfl) dX8_tryPut_71
      · have h := zif_t c29 h
        refine g_bipush (v := (-3)) (pc := 43) C dX8_tryPut_43 (by decide) ?_
        obtain ⟨rfl, rfl⟩ := zsome h
        exact g_iret (pc := 45) C rfl hx (by rw [hxn]; rfl) (by rw [hxn]; rfl) dX8_tryPut_45
    · have h := zif_t c30 h
      refine g_bipush (v := (-2)) (pc := 25) C dX8_tryPut_25 (by decide) ?_
      obtain ⟨rfl, rfl⟩ := zsome h
      exact g_iret (pc := 27) C rfl hx (by rw [hxn]; rfl) (by rw [hxn]; rfl) dX8_tryPut_27
def rm_X8_tryDoor : Room := { frames := 2, cells := 0, slots := 0, locals := 85 }
noncomputable def s_X8_tryDoor (h0 : Nat) (p1 : Int32) (p2 : Int32) (σ : Hp) : Option (Int32 × Hp) :=
  cb (s_X8_isRoom (Int32.toInt64 (p1 : Int32)) σ) fun v2 σ1 =>
  if v2 = 0 then
    some (((-1)), σ1)
  else
    cb (s_X8_isRoom (Int32.toInt64 (p2 : Int32)) σ1) fun v4 σ3 =>
    if v4 = 0 then
      some (((-1)), σ3)
    else
      if p1 = p2 then
        some (((-1)), σ3)
      else
        (rdR 8 σ3 h0 8).bind fun r5 =>
        (rdR 8 σ3 h0 0).bind fun r6 =>
        (r5).bind fun a7 =>
        (ck 0 σ3 a7).bind fun u8 =>
        cb (s_X0_add a7 (2) (p1) (p2) (r6) σ3) fun v10 σ9 =>
        (rdR 8 σ9 h0 0).bind fun r11 =>
        (r11).bind fun a12 =>
        (ck 1 σ9 a12).bind fun u13 =>
        cb (s_X1_turnDoor a12 (p1) (p2) σ9) fun v15 σ14 =>
        (rdR 8 σ14 h0 0).bind fun r16 =>
        (r16).bind fun a17 =>
        (ck 1 σ14 a17).bind fun u18 =>
        cb (s_X1_isOpen a17 (p1) (p2) σ14) fun v20 σ19 =>
        if v20 = 0 then
          some ((0), σ19)
        else
          some ((1), σ19)
set_option maxRecDepth 100000 in
theorem c_X8_tryDoor {E : E0} (hE : EOK E) {h0 : Nat} {p1 : Int32} {p2 : Int32} {σ σ1 : Hp} {r : Int32} (h : s_X8_tryDoor h0 p1 p2 σ = some (r, σ1)) : CT E yX8_tryDoor (.code yX8_tryDoor cX8_tryDoor 3 (some .int)) rm_X8_tryDoor [tR (some (h0)), tI (p1), tI (p2)] σ (some (tI r)) σ1 := by
  refine CT.mk hE (by decide +kernel) (Nat.le_of_ble_eq_true rfl) [(0, tR (some (h0))), (1, tI (p1)), (2, tI (p2))] rfl (fun X C hin hx hxn => ?_)
  have C : XOK E X cX8_tryDoor RX8 3 (some .int) rm_X8_tryDoor := C
  unfold s_X8_tryDoor at h
  refine g_iload_n (pc := 0) C 1 1 dX8_tryDoor_0 rfl rfl ?_
  refine g_i2l (pc := 1) C dX8_tryDoor_1 ?_
  obtain ⟨v2, σ1, hvσ1, h⟩ := zcb h
  refine g_callS (pc := 2) (av := [tJ (Int32.toInt64 (p1 : Int32))]) C (c_X8_isRoom hE hvσ1) ys_X8_isRoom ml_X8_95 rfl (rf_of (by decide)) rfl (Nat.le_of_ble_eq_true rfl) dX8_tryDoor_2 ?_
  refine g_if_eq (pc := 5) C 21 dX8_tryDoor_5 (by decide) (fun c24 => ?_) (fun c24 => ?_)
  · have h := zif_t c24 h
    refine g_iconst (v := (-1)) (pc := 21) C dX8_tryDoor_21 (by decide) ?_
    obtain ⟨rfl, rfl⟩ := zsome h
    exact g_iret (pc := 22) C rfl hx (by rw [hxn]; rfl) (by rw [hxn]; rfl) dX8_tryDoor_22
  · have h := zif_f c24 h
    refine g_iload_n (pc := 8) C 2 2 dX8_tryDoor_8 rfl rfl ?_
    refine g_i2l (pc := 9) C dX8_tryDoor_9 ?_
    obtain ⟨v4, σ3, hvσ3, h⟩ := zcb h
    refine g_callS (pc := 10) (av := [tJ (Int32.toInt64 (p2 : Int32))]) C (c_X8_isRoom hE hvσ3) ys_X8_isRoom ml_X8_95 rfl (rf_of (by decide)) rfl (Nat.le_of_ble_eq_true rfl) dX8_tryDoor_10 ?_
    refine g_if_eq (pc := 13) C 21 dX8_tryDoor_13 (by decide) (fun c23 => ?_) (fun c23 => ?_)
    · have h := zif_t c23 h
      refine g_iconst (v := (-1)) (pc := 21) C dX8_tryDoor_21 (by decide) ?_
      obtain ⟨rfl, rfl⟩ := zsome h
      exact g_iret (pc := 22) C rfl hx (by rw [hxn]; rfl) (by rw [hxn]; rfl) dX8_tryDoor_22
    · have h := zif_f c23 h
      refine g_iload_n (pc := 16) C 1 1 dX8_tryDoor_16 rfl rfl ?_
      refine g_iload_n (pc := 17) C 2 2 dX8_tryDoor_17 rfl rfl ?_
      refine g_icmp_ne (pc := 18) C 23 dX8_tryDoor_18 (by decide) (fun c22 => ?_) (fun c22 => ?_)
      · have h := zif_f c22 h
        refine g_aload_n (pc := 23) C 0 0 dX8_tryDoor_23 rfl rfl ?_
        obtain ⟨r5, hvr5, h⟩ := zbind h
        refine g_getR (N := 19) (pc := 24) C ck_8 hvr5 rfl rfl fl_X8_54 dX8_tryDoor_24 ?_
        refine g_iconst (v := 2) (pc := 27) C dX8_tryDoor_27 (by decide) ?_
        refine g_iload_n (pc := 28) C 1 1 dX8_tryDoor_28 rfl rfl ?_
        refine g_iload_n (pc := 29) C 2 2 dX8_tryDoor_29 rfl rfl ?_
        refine g_aload_n (pc := 30) C 0 0 dX8_tryDoor_30 rfl rfl ?_
        obtain ⟨r6, hvr6, h⟩ := zbind h
        refine g_getR (N := 19) (pc := 31) C ck_8 hvr6 rfl rfl fl_X8_12 dX8_tryDoor_31 ?_
        obtain ⟨a7, hqa7, h9⟩ := zbind h
        clear h
        subst hqa7
        have h := h9
        clear h9
        obtain ⟨u8, hvu8, h⟩ := zbind h
        obtain ⟨v10, σ9, hvσ9, h⟩ := zcb h
        refine g_callV (pc := 34) (av := [tI (2), tI (p1), tI (p2), tR (r6)]) C (c_X0_add hE hvσ9) yv_X0_add ml_X8_299 ck_0 (zopt hvu8).1 rfl (rf_of (by decide)) rfl (Nat.le_of_ble_eq_true rfl) dX8_tryDoor_34 ?_
        refine g_aload_n (pc := 37) C 0 0 dX8_tryDoor_37 rfl rfl ?_
        obtain ⟨r11, hvr11, h⟩ := zbind h
        refine g_getR (N := 19) (pc := 38) C ck_8 hvr11 rfl rfl fl_X8_12 dX8_tryDoor_38 ?_
        refine g_iload_n (pc := 41) C 1 1 dX8_tryDoor_41 rfl rfl ?_
        refine g_iload_n (pc := 42) C 2 2 dX8_tryDoor_42 rfl rfl ?_
        obtain ⟨a12, hqa12, h9⟩ := zbind h
        clear h
        subst hqa12
        have h := h9
        clear h9
        obtain ⟨u13, hvu13, h⟩ := zbind h
        obtain ⟨v15, σ14, hvσ14, h⟩ := zcb h
        refine g_callV (pc := 43) (av := [tI (p1), tI (p2)]) C (c_X1_turnDoor hE hvσ14) yv_X1_turnDoor ml_X8_302 ck_1 (zopt hvu13).1 rfl (rf_of (by decide)) rfl (Nat.le_of_ble_eq_true rfl) dX8_tryDoor_43 ?_
        refine g_aload_n (pc := 46) C 0 0 dX8_tryDoor_46 rfl rfl ?_
        obtain ⟨r16, hvr16, h⟩ := zbind h
        refine g_getR (N := 19) (pc := 47) C ck_8 hvr16 rfl rfl fl_X8_12 dX8_tryDoor_47 ?_
        refine g_iload_n (pc := 50) C 1 1 dX8_tryDoor_50 rfl rfl ?_
        refine g_iload_n (pc := 51) C 2 2 dX8_tryDoor_51 rfl rfl ?_
        obtain ⟨a17, hqa17, h9⟩ := zbind h
        clear h
        subst hqa17
        have h := h9
        clear h9
        obtain ⟨u18, hvu18, h⟩ := zbind h
        obtain ⟨v20, σ19, hvσ19, h⟩ := zcb h
        refine g_callV (pc := 52) (av := [tI (p1), tI (p2)]) C (c_X1_isOpen hE hvσ19) yv_X1_isOpen ml_X8_306 ck_1 (zopt hvu18).1 rfl (rf_of (by decide)) rfl (Nat.le_of_ble_eq_true rfl) dX8_tryDoor_52 ?_
        refine g_if_eq (pc := 55) C 62 dX8_tryDoor_55 (by decide) (fun c21 => ?_) (fun c21 => ?_)
        · have h := zif_t c21 h
          refine g_iconst (v := 0) (pc := 62) C dX8_tryDoor_62 (by decide) ?_
          obtain ⟨rfl, rfl⟩ := zsome h
          exact g_iret (pc := 63) C rfl hx (by rw [hxn]; rfl) (by rw [hxn]; rfl) dX8_tryDoor_63
        · have h := zif_f c21 h
          refine g_iconst (v := 1) (pc := 58) C dX8_tryDoor_58 (by decide) ?_
          refine g_goto (pc := 59) C 63 dX8_tryDoor_59 (by decide) ?_
          obtain ⟨rfl, rfl⟩ := zsome h
          exact g_iret (pc := 63) C rfl hx (by rw [hxn]; rfl) (by rw [hxn]; rfl) dX8_tryDoor_63
      · have h := zif_t c22 h
        refine g_iconst (v := (-1)) (pc := 21) C dX8_tryDoor_21 (by decide) ?_
        obtain ⟨rfl, rfl⟩ := zsome h
        exact g_iret (pc := 22) C rfl hx (by rw [hxn]; rfl) (by rw [hxn]; rfl) dX8_tryDoor_22
def rm_X8_tryPass : Room := { frames := 5, cells := 0, slots := 0, locals := 134 }
noncomputable def s_X8_tryPass (h0 : Nat) (σ : Hp) : Option (Int32 × Hp) :=
  (rdR 8 σ h0 0).bind fun r1 =>
  (r1).bind fun a2 =>
  (rdR 1 σ a2 10).bind fun r3 =>
  (r3).bind fun a4 =>
  (ldI 11 σ a4 (0)).bind fun v5 =>
  if v5 < 999 then
    (rdR 8 σ h0 8).bind fun r6 =>
    (rdR 8 σ h0 0).bind fun r7 =>
    (r6).bind fun a8 =>
    (ck 0 σ a8).bind fun u9 =>
    cb (s_X0_add a8 (3) (0) (0) (r7) σ) fun v11 σ10 =>
    (rdR 8 σ10 h0 0).bind fun r12 =>
    (r12).bind fun a13 =>
    (ck 1 σ10 a13).bind fun u14 =>
    cb (s_X1_passHour a13 σ10) fun v16 σ15 =>
    some ((v16), σ15)
  else
    some (((-3)), σ)
set_option maxRecDepth 100000 in
theorem c_X8_tryPass {E : E0} (hE : EOK E) {h0 : Nat} {σ σ1 : Hp} {r : Int32} (h : s_X8_tryPass h0 σ = some (r, σ1)) : CT E yX8_tryPass (.code yX8_tryPass cX8_tryPass 1 (some .int)) rm_X8_tryPass [tR (some (h0))] σ (some (tI r)) σ1 := by
  refine CT.mk hE (by decide +kernel) (Nat.le_of_ble_eq_true rfl) [(0, tR (some (h0)))] rfl (fun X C hin hx hxn => ?_)
  have C : XOK E X cX8_tryPass RX8 1 (some .int) rm_X8_tryPass := C
  unfold s_X8_tryPass at h
  refine g_aload_n (pc := 0) C 0 0 dX8_tryPass_0 rfl rfl ?_
  obtain ⟨r1, hvr1, h⟩ := zbind h
  refine g_getR (N := 19) (pc := 1) C ck_8 hvr1 rfl rfl fl_X8_12 dX8_tryPass_1 ?_
  obtain ⟨a2, hqa2, h9⟩ := zbind h
  clear h
  subst hqa2
  have h := h9
  clear h9
  obtain ⟨r3, hvr3, h⟩ := zbind h
  refine g_getR (N := 20) (pc := 4) C ck_1 hvr3 rfl rfl fl_X8_132 dX8_tryPass_4 ?_
  refine g_iconst (v := 0) (pc := 7) C dX8_tryPass_7 (by decide) ?_
  obtain ⟨a4, hqa4, h9⟩ := zbind h
  clear h
  subst hqa4
  have h := h9
  clear h9
  obtain ⟨v5, hvv5, h⟩ := zbind h
  refine g_iald (pc := 8) C hvv5 dX8_tryPass_8 ?_
  refine g_sipush (v := 999) (pc := 9) C dX8_tryPass_9 (by decide) ?_
  refine g_icmp_lt (pc := 12) C 18 dX8_tryPass_12 (by decide) (fun c17 => ?_) (fun c17 => ?_)
  · have h := zif_t c17 h
    refine g_aload_n (pc := 18) C 0 0 dX8_tryPass_18 rfl rfl ?_
    obtain ⟨r6, hvr6, h⟩ := zbind h
    refine g_getR (N := 19) (pc := 19) C ck_8 hvr6 rfl rfl fl_X8_54 dX8_tryPass_19 ?_
    refine g_iconst (v := 3) (pc := 22) C dX8_tryPass_22 (by decide) ?_
    refine g_iconst (v := 0) (pc := 23) C dX8_tryPass_23 (by decide) ?_
    refine g_iconst (v := 0) (pc := 24) C dX8_tryPass_24 (by decide) ?_
    refine g_aload_n (pc := 25) C 0 0 dX8_tryPass_25 rfl rfl ?_
    obtain ⟨r7, hvr7, h⟩ := zbind h
    refine g_getR (N := 19) (pc := 26) C ck_8 hvr7 rfl rfl fl_X8_12 dX8_tryPass_26 ?_
    obtain ⟨a8, hqa8, h9⟩ := zbind h
    clear h
    subst hqa8
    have h := h9
    clear h9
    obtain ⟨u9, hvu9, h⟩ := zbind h
    obtain ⟨v11, σ10, hvσ10, h⟩ := zcb h
    refine g_callV (pc := 29) (av := [tI (3), tI (0), tI (0), tR (r7)]) C (c_X0_add hE hvσ10) yv_X0_add ml_X8_299 ck_0 (zopt hvu9).1 rfl (rf_of (by decide)) rfl (Nat.le_of_ble_eq_true rfl) dX8_tryPass_29 ?_
    refine g_aload_n (pc := 32) C 0 0 dX8_tryPass_32 rfl rfl ?_
    obtain ⟨r12, hvr12, h⟩ := zbind h
    refine g_getR (N := 19) (pc := 33) C ck_8 hvr12 rfl rfl fl_X8_12 dX8_tryPass_33 ?_
    obtain ⟨a13, hqa13, h9⟩ := zbind h
    clear h
    subst hqa13
    have h := h9
    clear h9
    obtain ⟨u14, hvu14, h⟩ := zbind h
    obtain ⟨v16, σ15, hvσ15, h⟩ := zcb h
    refine g_callV (pc := 36) (av := []) C (c_X1_passHour hE hvσ15) yv_X1_passHour ml_X8_309 ck_1 (zopt hvu14).1 rfl (rf_of (by decide)) rfl (Nat.le_of_ble_eq_true rfl) dX8_tryPass_36 ?_
    obtain ⟨rfl, rfl⟩ := zsome h
    exact g_iret (pc := 39) C rfl hx (by rw [hxn]; rfl) (by rw [hxn]; rfl) dX8_tryPass_39
  · have h := zif_f c17 h
    refine g_bipush (v := (-3)) (pc := 15) C dX8_tryPass_15 (by decide) ?_
    obtain ⟨rfl, rfl⟩ := zsome h
    exact g_iret (pc := 17) C rfl hx (by rw [hxn]; rfl) (by rw [hxn]; rfl) dX8_tryPass_17
def rm_X8_runOnce : Room := { frames := 6, cells := 0, slots := 0, locals := 154 }
noncomputable def s_X8_runOnce_j237 (h0 : Nat) (l11 : Int32) (σ : Hp) : Option (Int32 × Hp) :=
  if 0 ≤ l11 then
    (rdI 8 σ h0 13).bind fun v1 =>
    (wrI 8 σ h0 13 (v1 + 1)).bind fun σ2 =>
    some ((1), σ2)
  else
    some ((0), σ)
set_option maxRecDepth 100000 in
theorem w_X8_runOnce_j237 {E : E0} (hE : EOK E) {X : X0} (C : XOK E X cX8_runOnce RX8 12 (some .boolean) rm_X8_runOnce) (hxn : xn X = (rm_X8_runOnce.cells, rm_X8_runOnce.slots)) (h0 : Nat) (l11 : Int32) (σ : Hp) (r : Int32) (σ1 : Hp) (h : s_X8_runOnce_j237 h0 l11 σ = some (r, σ1)) (hx : xd X = (some (tI r), σ1)) : G E X 0 0 237 [(0, tR (some (h0))), (11, tI (l11))] [] σ := by
  unfold s_X8_runOnce_j237 at h
  refine g_iload (pc := 237) C 1 dX8_runOnce_237 rfl ?_
  refine g_if_ge (pc := 239) C 244 dX8_runOnce_239 (by decide) (fun c3 => ?_) (fun c3 => ?_)
  · have h := zif_t c3 h
    refine g_aload_n (pc := 244) C 0 0 dX8_runOnce_244 rfl rfl ?_
    refine g_dup (pc := 245) C dX8_runOnce_245 rfl ?_
    obtain ⟨v1, hvv1, h⟩ := zbind h
    refine g_getI (N := 19) (pc := 246) C ck_8 hvv1 rfl rfl fl_X8_76 dX8_runOnce_246 ?_
    refine g_iconst (v := 1) (pc := 249) C dX8_runOnce_249 (by decide) ?_
    refine g_iadd (pc := 250) C dX8_runOnce_250 ?_
    obtain ⟨σ2, hvσ2, h⟩ := zbind h
    refine g_putI (N := 19) (pc := 251) C ⟨ck_8, rfl, tyX8_ok⟩ hvσ2 rfl fl_X8_76 rfl rfl dX8_runOnce_251 ?_
    refine g_iconst (v := 1) (pc := 254) C dX8_runOnce_254 (by decide) ?_
    obtain ⟨rfl, rfl⟩ := zsome h
    exact g_zret (pc := 255) C rfl hx (by decide) (by rw [hxn]; rfl) (by rw [hxn]; rfl) dX8_runOnce_255
  · have h := zif_f c3 h
    refine g_iconst (v := 0) (pc := 242) C dX8_runOnce_242 (by decide) ?_
    obtain ⟨rfl, rfl⟩ := zsome h
    exact g_zret (pc := 243) C rfl hx (by decide) (by rw [hxn]; rfl) (by rw [hxn]; rfl) dX8_runOnce_243
noncomputable def s_X8_runOnce_j225 (h0 : Nat) (σ : Hp) : Option (Int32 × Hp) :=
  (ck 8 σ h0).bind fun u1 =>
  cb (s_X8_tryPass h0 σ) fun v3 σ2 =>
  (wrI 8 σ2 h0 14 (v3)).bind fun σ4 =>
  s_X8_runOnce_j237 (h0) (v3) σ4
set_option maxRecDepth 100000 in
theorem w_X8_runOnce_j225 {E : E0} (hE : EOK E) {X : X0} (C : XOK E X cX8_runOnce RX8 12 (some .boolean) rm_X8_runOnce) (hxn : xn X = (rm_X8_runOnce.cells, rm_X8_runOnce.slots)) (h0 : Nat) (σ : Hp) (r : Int32) (σ1 : Hp) (h : s_X8_runOnce_j225 h0 σ = some (r, σ1)) (hx : xd X = (some (tI r), σ1)) : G E X 0 0 225 [(0, tR (some (h0)))] [] σ := by
  unfold s_X8_runOnce_j225 at h
  refine g_aload_n (pc := 225) C 0 0 dX8_runOnce_225 rfl rfl ?_
  obtain ⟨u1, hvu1, h⟩ := zbind h
  obtain ⟨v3, σ2, hvσ2, h⟩ := zcb h
  refine g_callV (pc := 226) (av := []) C (c_X8_tryPass hE hvσ2) yv_X8_tryPass ml_X8_280 ck_8 (zopt hvu1).1 rfl (rf_of (by decide)) rfl (Nat.le_of_ble_eq_true rfl) dX8_runOnce_226 ?_
  refine g_istore (lm' := [(11, tI (v3)), (0, tR (some (h0)))]) (pc := 229) C dX8_runOnce_229 (by decide) rfl ?_
  refine g_aload_n (pc := 231) C 0 1 dX8_runOnce_231 rfl rfl ?_
  refine g_iload (pc := 232) C 0 dX8_runOnce_232 rfl ?_
  obtain ⟨σ4, hvσ4, h⟩ := zbind h
  refine g_putI (N := 19) (pc := 234) C ⟨ck_8, rfl, tyX8_ok⟩ hvσ4 rfl fl_X8_80 rfl rfl dX8_runOnce_234 ?_
  refine g_sub [1, 0] (lm' := [(0, tR (some (h0))), (11, tI (v3))]) rfl ?_
  exact w_X8_runOnce_j237 hE C hxn _ _ _ _ _ h hx
noncomputable def s_X8_runOnce_j116 (h0 : Nat) (l1 : Option Nat) (l2 : Int32) (l7 : Int64) (t0 : Int64) (σ : Hp) : Option (Int32 × Hp) :=
  if (lg_cmp (l7 : Int64) (9000000000 : Int64)) = 0 then
    some ((0), σ)
  else
    if (lg_cmp (t0 : Int64) (9000000000 : Int64)) = 0 then
      some ((0), σ)
    else
      (l1).bind fun a1 =>
      (ck 7 σ a1).bind fun u2 =>
      cb (s_X7_field a1 (l2) (0) σ) fun v4 σ3 =>
      if v4 = 316 then
        (ck 8 σ3 h0).bind fun u5 =>
        cb (s_X8_tryStride h0 (Int64.toInt32 (l7 : Int64)) (Int64.toInt32 (t0 : Int64)) σ3) fun v7 σ6 =>
        s_X8_runOnce_j237 (h0) (v7) σ6
      else
        if v4 = 317 then
          s_X8_runOnce_j225 (h0) σ3
        else
          if v4 = 318 then
            (ck 8 σ3 h0).bind fun u10 =>
            cb (s_X8_tryPut h0 (Int64.toInt32 (l7 : Int64)) (Int64.toInt32 (t0 : Int64)) σ3) fun v12 σ11 =>
            s_X8_runOnce_j237 (h0) (v12) σ11
          else
            if v4 = 319 then
              s_X8_runOnce_j225 (h0) σ3
            else
              if v4 = 320 then
                (ck 8 σ3 h0).bind fun u15 =>
                cb (s_X8_tryDoor h0 (Int64.toInt32 (l7 : Int64)) (Int64.toInt32 (t0 : Int64)) σ3) fun v17 σ16 =>
                s_X8_runOnce_j237 (h0) (v17) σ16
              else
                s_X8_runOnce_j225 (h0) σ3
set_option maxRecDepth 100000 in
theorem w_X8_runOnce_j116 {E : E0} (hE : EOK E) {X : X0} (C : XOK E X cX8_runOnce RX8 12 (some .boolean) rm_X8_runOnce) (hxn : xn X = (rm_X8_runOnce.cells, rm_X8_runOnce.slots)) (h0 : Nat) (l1 : Option Nat) (l2 : Int32) (l7 : Int64) (t0 : Int64) (σ : Hp) (r : Int32) (σ1 : Hp) (h : s_X8_runOnce_j116 h0 l1 l2 l7 t0 σ = some (r, σ1)) (hx : xd X = (some (tI r), σ1)) : G E X 0 0 116 [(0, tR (some (h0))), (1, tR (l1)), (2, tI (l2)), (7, tJ (l7))] [tJ (t0)] σ := by
  unfold s_X8_runOnce_j116 at h
  refine g_lstore (lm' := [(9, tJ (t0)), (0, tR (some (h0))), (1, tR (l1)), (2, tI (l2)), (7, tJ (l7))]) (pc := 116) C dX8_runOnce_116 (by decide) rfl ?_
  refine g_lload (pc := 118) C 4 dX8_runOnce_118 rfl ?_
  refine g_ldc2 (v := 9000000000) (pc := 120) C dX8_runOnce_120 kl_X8_269 ?_
  refine g_lcmp (pc := 123) C dX8_runOnce_123 ?_
  refine g_if_eq (pc := 124) C 136 dX8_runOnce_124 (by decide) (fun c20 => ?_) (fun c20 => ?_)
  · have h := zif_t c20 h
    refine g_iconst (v := 0) (pc := 136) C dX8_runOnce_136 (by decide) ?_
    obtain ⟨rfl, rfl⟩ := zsome h
    exact g_zret (pc := 137) C rfl hx (by decide) (by rw [hxn]; rfl) (by rw [hxn]; rfl) dX8_runOnce_137
  · have h := zif_f c20 h
    refine g_lload (pc := 127) C 0 dX8_runOnce_127 rfl ?_
    refine g_ldc2 (v := 9000000000) (pc := 129) C dX8_runOnce_129 kl_X8_269 ?_
    refine g_lcmp (pc := 132) C dX8_runOnce_132 ?_
    refine g_if_ne (pc := 133) C 138 dX8_runOnce_133 (by decide) (fun c19 => ?_) (fun c19 => ?_)
    · have h := zif_f c19 h
      refine g_aload_n (pc := 138) C 1 2 dX8_runOnce_138 rfl rfl ?_
      refine g_iload_n (pc := 139) C 2 3 dX8_runOnce_139 rfl rfl ?_
      refine g_iconst (v := 0) (pc := 140) C dX8_runOnce_140 (by decide) ?_
      obtain ⟨a1, hqa1, h9⟩ := zbind h
      clear h
      subst hqa1
      have h := h9
      clear h9
      obtain ⟨u2, hvu2, h⟩ := zbind h
      obtain ⟨v4, σ3, hvσ3, h⟩ := zcb h
      refine g_callV (pc := 141) (av := [tI (l2), tI (0)]) C (c_X7_field hE hvσ3) yv_X7_field ml_X8_252 ck_7 (zopt hvu2).1 rfl (rf_of (by decide)) rfl (Nat.le_of_ble_eq_true rfl) dX8_runOnce_141 ?_
      by_cases c8 : v4 = 316
      · refine g_tswIn (pc := 144) C 180 dX8_runOnce_144 (by rw [c8] <;> decide) (by rw [c8] <;> decide) (by rw [c8] <;> rfl) (by decide) ?_
        have h := zif_t c8 h
        refine g_aload_n (pc := 180) C 0 1 dX8_runOnce_180 rfl rfl ?_
        refine g_lload (pc := 181) C 4 dX8_runOnce_181 rfl ?_
        refine g_l2i (pc := 183) C dX8_runOnce_183 ?_
        refine g_lload (pc := 184) C 0 dX8_runOnce_184 rfl ?_
        refine g_l2i (pc := 186) C dX8_runOnce_186 ?_
        obtain ⟨u5, hvu5, h⟩ := zbind h
        obtain ⟨v7, σ6, hvσ6, h⟩ := zcb h
        refine g_callV (pc := 187) (av := [tI (Int64.toInt32 (l7 : Int64)), tI (Int64.toInt32 (t0 : Int64))]) C (c_X8_tryStride hE hvσ6) yv_X8_tryStride ml_X8_271 ck_8 (zopt hvu5).1 rfl (rf_of (by decide)) rfl (Nat.le_of_ble_eq_true rfl) dX8_runOnce_187 ?_
        refine g_istore (lm' := [(11, tI (v7)), (9, tJ (t0)), (0, tR (some (h0))), (1, tR (some (a1))), (2, tI (l2)), (7, tJ (l7))]) (pc := 190) C dX8_runOnce_190 (by decide) rfl ?_
        refine g_goto (pc := 192) C 237 dX8_runOnce_192 (by decide) ?_
        refine g_sub [2, 0] (lm' := [(0, tR (some (h0))), (11, tI (v7))]) rfl ?_
        exact w_X8_runOnce_j237 hE C hxn _ _ _ _ _ h hx
      · have h := zif_f c8 h
        by_cases c9 : v4 = 317
        · refine g_tswIn (pc := 144) C 225 dX8_runOnce_144 (by rw [c9] <;> decide) (by rw [c9] <;> decide) (by rw [c9] <;> rfl) (by decide) ?_
          have h := zif_t c9 h
          refine g_sub [1] (lm' := [(0, tR (some (h0)))]) rfl ?_
          exact w_X8_runOnce_j225 hE C hxn _ _ _ _ h hx
        · have h := zif_f c9 h
          by_cases c13 : v4 = 318
          · refine g_tswIn (pc := 144) C 195 dX8_runOnce_144 (by rw [c13] <;> decide) (by rw [c13] <;> decide) (by rw [c13] <;> rfl) (by decide) ?_
            have h := zif_t c13 h
            refine g_aload_n (pc := 195) C 0 1 dX8_runOnce_195 rfl rfl ?_
            refine g_lload (pc := 196) C 4 dX8_runOnce_196 rfl ?_
            refine g_l2i (pc := 198) C dX8_runOnce_198 ?_
            refine g_lload (pc := 199) C 0 dX8_runOnce_199 rfl ?_
            refine g_l2i (pc := 201) C dX8_runOnce_201 ?_
            obtain ⟨u10, hvu10, h⟩ := zbind h
            obtain ⟨v12, σ11, hvσ11, h⟩ := zcb h
            refine g_callV (pc := 202) (av := [tI (Int64.toInt32 (l7 : Int64)), tI (Int64.toInt32 (t0 : Int64))]) C (c_X8_tryPut hE hvσ11) yv_X8_tryPut ml_X8_274 ck_8 (zopt hvu10).1 rfl (rf_of (by decide)) rfl (Nat.le_of_ble_eq_true rfl) dX8_runOnce_202 ?_
            refine g_istore (lm' := [(11, tI (v12)), (9, tJ (t0)), (0, tR (some (h0))), (1, tR (some (a1))), (2, tI (l2)), (7, tJ (l7))]) (pc := 205) C dX8_runOnce_205 (by decide) rfl ?_
            refine g_goto (pc := 207) C 237 dX8_runOnce_207 (by decide) ?_
            refine g_sub [2, 0] (lm' := [(0, tR (some (h0))), (11, tI (v12))]) rfl ?_
            exact w_X8_runOnce_j237 hE C hxn _ _ _ _ _ h hx
          · have h := zif_f c13 h
            by_cases c14 : v4 = 319
            · refine g_tswIn (pc := 144) C 225 dX8_runOnce_144 (by rw [c14] <;> decide) (by rw [c14] <;> decide) (by rw [c14] <;> rfl) (by decide) ?_
              have h := zif_t c14 h
              refine g_sub [1] (lm' := [(0, tR (some (h0)))]) rfl ?_
              exact w_X8_runOnce_j225 hE C hxn _ _ _ _ h hx
            · have h := zif_f c14 h
              by_cases c18 : v4 = 320
              · refine g_tswIn (pc := 144) C 210 dX8_runOnce_144 (by rw [c18] <;> decide) (by rw [c18] <;> decide) (by rw [c18] <;> rfl) (by decide) ?_
                have h := zif_t c18 h
                refine g_aload_n (pc := 210) C 0 1 dX8_runOnce_210 rfl rfl ?_
                refine g_lload (pc := 211) C 4 dX8_runOnce_211 rfl ?_
                refine g_l2i (pc := 213) C dX8_runOnce_213 ?_
                refine g_lload (pc := 214) C 0 dX8_runOnce_214 rfl ?_
                refine g_l2i (pc := 216) C dX8_runOnce_216 ?_
                obtain ⟨u15, hvu15, h⟩ := zbind h
                obtain ⟨v17, σ16, hvσ16, h⟩ := zcb h
                refine g_callV (pc := 217) (av := [tI (Int64.toInt32 (l7 : Int64)), tI (Int64.toInt32 (t0 : Int64))]) C (c_X8_tryDoor hE hvσ16) yv_X8_tryDoor ml_X8_277 ck_8 (zopt hvu15).1 rfl (rf_of (by decide)) rfl (Nat.le_of_ble_eq_true rfl) dX8_runOnce_217 ?_
                refine g_istore (lm' := [(11, tI (v17)), (9, tJ (t0)), (0, tR (some (h0))), (1, tR (some (a1))), (2, tI (l2)), (7, tJ (l7))]) (pc := 220) C dX8_runOnce_220 (by decide) rfl ?_
                refine g_goto (pc := 222) C 237 dX8_runOnce_222 (by decide) ?_
                refine g_sub [2, 0] (lm' := [(0, tR (some (h0))), (11, tI (v17))]) rfl ?_
                exact w_X8_runOnce_j237 hE C hxn _ _ _ _ _ h hx
              · have h := zif_f c18 h
                refine g_tswOut (pc := 144) C 225 dX8_runOnce_144 (by have ec8 := n32 (k := 316) (n := 316) (by decide) c8; have ec9 := n32 (k := 317) (n := 317) (by decide) c9; have ec13 := n32 (k := 318) (n := 318) (by decide) c13; have ec14 := n32 (k := 319) (n := 319) (by decide) c14; have ec18 := n32 (k := 320) (n := 320) (by decide) c18; omega) (by decide) ?_
                refine g_sub [1] (lm' := [(0, tR (some (h0)))]) rfl ?_
                exact w_X8_runOnce_j225 hE C hxn _ _ _ _ h hx
    · have h := zif_t c19 h
      refine g_iconst (v := 0) (pc := 136) C dX8_runOnce_136 (by decide) ?_
      obtain ⟨rfl, rfl⟩ := zsome h
      exact g_zret (pc := 137) C rfl hx (by decide) (by rw [hxn]; rfl) (by rw [hxn]; rfl) dX8_runOnce_137
noncomputable def s_X8_runOnce_j88 (h0 : Nat) (l1 : Option Nat) (l2 : Int32) (l4 : Int32) (l5 : Int32) (t0 : Int64) (σ : Hp) : Option (Int32 × Hp) :=
  if l5 ≤ l4 then
    s_X8_runOnce_j116 (h0) (l1) (l2) (t0) (0) σ
  else
    (rdR 8 σ h0 7).bind fun r1 =>
    (l1).bind fun a2 =>
    (rdR 7 σ a2 0).bind fun r3 =>
    (r1).bind fun a4 =>
    (ck 5 σ a4).bind fun u5 =>
    cb (s_X5_value a4 (r3) (l4) (l5) σ) fun v7 σ6 =>
    s_X8_runOnce_j116 (h0) (some (a2)) (l2) (t0) (v7) σ6
set_option maxRecDepth 100000 in
theorem w_X8_runOnce_j88 {E : E0} (hE : EOK E) {X : X0} (C : XOK E X cX8_runOnce RX8 12 (some .boolean) rm_X8_runOnce) (hxn : xn X = (rm_X8_runOnce.cells, rm_X8_runOnce.slots)) (h0 : Nat) (l1 : Option Nat) (l2 : Int32) (l4 : Int32) (l5 : Int32) (t0 : Int64) (σ : Hp) (r : Int32) (σ1 : Hp) (h : s_X8_runOnce_j88 h0 l1 l2 l4 l5 t0 σ = some (r, σ1)) (hx : xd X = (some (tI r), σ1)) : G E X 0 0 88 [(0, tR (some (h0))), (1, tR (l1)), (2, tI (l2)), (4, tI (l4)), (5, tI (l5))] [tJ (t0)] σ := by
  unfold s_X8_runOnce_j88 at h
  refine g_lstore (lm' := [(7, tJ (t0)), (0, tR (some (h0))), (1, tR (l1)), (2, tI (l2)), (4, tI (l4)), (5, tI (l5))]) (pc := 88) C dX8_runOnce_88 (by decide) rfl ?_
  refine g_iload (pc := 90) C 4 dX8_runOnce_90 rfl ?_
  refine g_iload (pc := 92) C 5 dX8_runOnce_92 rfl ?_
  refine g_icmp_ge (pc := 94) C 115 dX8_runOnce_94 (by decide) (fun c8 => ?_) (fun c8 => ?_)
  · have h := zif_t c8 h
    refine g_lconst (v := 0) (pc := 115) C dX8_runOnce_115 (by decide) ?_
    refine g_sub [1, 2, 3, 0] (lm' := [(0, tR (some (h0))), (1, tR (l1)), (2, tI (l2)), (7, tJ (t0))]) rfl ?_
    exact w_X8_runOnce_j116 hE C hxn _ _ _ _ _ _ _ _ h hx
  · have h := zif_f c8 h
    refine g_aload_n (pc := 97) C 0 1 dX8_runOnce_97 rfl rfl ?_
    obtain ⟨r1, hvr1, h⟩ := zbind h
    refine g_getR (N := 19) (pc := 98) C ck_8 hvr1 rfl rfl fl_X8_47 dX8_runOnce_98 ?_
    refine g_aload_n (pc := 101) C 1 2 dX8_runOnce_101 rfl rfl ?_
    obtain ⟨a2, hqa2, h9⟩ := zbind h
    clear h
    subst hqa2
    have h := h9
    clear h9
    obtain ⟨r3, hvr3, h⟩ := zbind h
    refine g_getR (N := 3) (pc := 102) C ck_7 hvr3 rfl rfl fl_X8_262 dX8_runOnce_102 ?_
    refine g_iload (pc := 105) C 4 dX8_runOnce_105 rfl ?_
    refine g_iload (pc := 107) C 5 dX8_runOnce_107 rfl ?_
    obtain ⟨a4, hqa4, h9⟩ := zbind h
    clear h
    subst hqa4
    have h := h9
    clear h9
    obtain ⟨u5, hvu5, h⟩ := zbind h
    obtain ⟨v7, σ6, hvσ6, h⟩ := zcb h
    refine g_callV (pc := 109) (av := [tR (r3), tI (l4), tI (l5)]) C (c_X5_value hE hvσ6) yv_X5_value ml_X8_265 ck_5 (zopt hvu5).1 rfl (rf_of (by decide)) rfl (Nat.le_of_ble_eq_true rfl) dX8_runOnce_109 ?_
    refine g_goto (pc := 112) C 116 dX8_runOnce_112 (by decide) ?_
    refine g_sub [1, 2, 3, 0] (lm' := [(0, tR (some (h0))), (1, tR (some (a2))), (2, tI (l2)), (7, tJ (t0))]) rfl ?_
    exact w_X8_runOnce_j116 hE C hxn _ _ _ _ _ _ _ _ h hx
noncomputable def s_X8_runOnce_j64 (h0 : Nat) (l1 : Option Nat) (l2 : Int32) (l3 : Int32) (l4 : Int32) (l5 : Int32) (σ : Hp) : Option (Int32 × Hp) :=
  if l4 ≤ l3 then
    s_X8_runOnce_j88 (h0) (l1) (l2) (l4) (l5) (0) σ
  else
    (rdR 8 σ h0 7).bind fun r1 =>
    (l1).bind fun a2 =>
    (rdR 7 σ a2 0).bind fun r3 =>
    (r1).bind fun a4 =>
    (ck 5 σ a4).bind fun u5 =>
    cb (s_X5_value a4 (r3) (l3) (l4) σ) fun v7 σ6 =>
    s_X8_runOnce_j88 (h0) (some (a2)) (l2) (l4) (l5) (v7) σ6
set_option maxRecDepth 100000 in
theorem w_X8_runOnce_j64 {E : E0} (hE : EOK E) {X : X0} (C : XOK E X cX8_runOnce RX8 12 (some .boolean) rm_X8_runOnce) (hxn : xn X = (rm_X8_runOnce.cells, rm_X8_runOnce.slots)) (h0 : Nat) (l1 : Option Nat) (l2 : Int32) (l3 : Int32) (l4 : Int32) (l5 : Int32) (σ : Hp) (r : Int32) (σ1 : Hp) (h : s_X8_runOnce_j64 h0 l1 l2 l3 l4 l5 σ = some (r, σ1)) (hx : xd X = (some (tI r), σ1)) : G E X 0 0 64 [(0, tR (some (h0))), (1, tR (l1)), (2, tI (l2)), (3, tI (l3)), (4, tI (l4)), (5, tI (l5))] [] σ := by
  unfold s_X8_runOnce_j64 at h
  refine g_iload_n (pc := 64) C 3 3 dX8_runOnce_64 rfl rfl ?_
  refine g_iload (pc := 65) C 4 dX8_runOnce_65 rfl ?_
  refine g_icmp_ge (pc := 67) C 87 dX8_runOnce_67 (by decide) (fun c8 => ?_) (fun c8 => ?_)
  · have h := zif_t c8 h
    refine g_lconst (v := 0) (pc := 87) C dX8_runOnce_87 (by decide) ?_
    refine g_sub [0, 1, 2, 4, 5] (lm' := [(0, tR (some (h0))), (1, tR (l1)), (2, tI (l2)), (4, tI (l4)), (5, tI (l5))]) rfl ?_
    exact w_X8_runOnce_j88 hE C hxn _ _ _ _ _ _ _ _ _ h hx
  · have h := zif_f c8 h
    refine g_aload_n (pc := 70) C 0 0 dX8_runOnce_70 rfl rfl ?_
    obtain ⟨r1, hvr1, h⟩ := zbind h
    refine g_getR (N := 19) (pc := 71) C ck_8 hvr1 rfl rfl fl_X8_47 dX8_runOnce_71 ?_
    refine g_aload_n (pc := 74) C 1 1 dX8_runOnce_74 rfl rfl ?_
    obtain ⟨a2, hqa2, h9⟩ := zbind h
    clear h
    subst hqa2
    have h := h9
    clear h9
    obtain ⟨r3, hvr3, h⟩ := zbind h
    refine g_getR (N := 3) (pc := 75) C ck_7 hvr3 rfl rfl fl_X8_262 dX8_runOnce_75 ?_
    refine g_iload_n (pc := 78) C 3 3 dX8_runOnce_78 rfl rfl ?_
    refine g_iload (pc := 79) C 4 dX8_runOnce_79 rfl ?_
    obtain ⟨a4, hqa4, h9⟩ := zbind h
    clear h
    subst hqa4
    have h := h9
    clear h9
    obtain ⟨u5, hvu5, h⟩ := zbind h
    obtain ⟨v7, σ6, hvσ6, h⟩ := zcb h
    refine g_callV (pc := 81) (av := [tR (r3), tI (l3), tI (l4)]) C (c_X5_value hE hvσ6) yv_X5_value ml_X8_265 ck_5 (zopt hvu5).1 rfl (rf_of (by decide)) rfl (Nat.le_of_ble_eq_true rfl) dX8_runOnce_81 ?_
    refine g_goto (pc := 84) C 88 dX8_runOnce_84 (by decide) ?_
    refine g_sub [0, 1, 2, 4, 5] (lm' := [(0, tR (some (h0))), (1, tR (some (a2))), (2, tI (l2)), (4, tI (l4)), (5, tI (l5))]) rfl ?_
    exact w_X8_runOnce_j88 hE C hxn _ _ _ _ _ _ _ _ _ h hx
noncomputable def s_X8_runOnce (h0 : Nat) (p1 : Option Nat) (p2 : Int32) (σ : Hp) : Option (Int32 × Hp) :=
  (ck 8 σ h0).bind fun u1 =>
  cb (s_X8_tellOrderWords h0 σ) fun v3 σ2 =>
  (p1).bind fun a4 =>
  (ck 7 σ2 a4).bind fun u5 =>
  cb (s_X7_field a4 (p2) (1) σ2) fun v7 σ6 =>
  (ck 7 σ6 a4).bind fun u8 =>
  cb (s_X7_field a4 (p2) (2) σ6) fun v10 σ9 =>
  (ck 7 σ9 a4).bind fun u11 =>
  cb (s_X7_field a4 (p2) (3) σ9) fun v13 σ12 =>
  (ck 7 σ12 a4).bind fun u14 =>
  cb (s_X7_field a4 (p2) (4) σ12) fun v16 σ15 =>
  if v16 ≤ v13 then
    s_X8_runOnce_j64 (h0) (some (a4)) (p2) (v7) (v10) (v13) σ15
  else
    (rdR 8 σ15 h0 7).bind fun r17 =>
    (rdR 7 σ15 a4 0).bind fun r18 =>
    (r17).bind fun a19 =>
    (ck 5 σ15 a19).bind fun u20 =>
    cb (s_X5_value a19 (r18) (v13) (v16) σ15) fun v22 σ21 =>
    if (lg_cmp (v22 : Int64) (1 : Int64)) = 0 then
      s_X8_runOnce_j64 (h0) (some (a4)) (p2) (v7) (v10) (v13) σ21
    else
      some ((1), σ21)
set_option maxRecDepth 100000 in
theorem c_X8_runOnce {E : E0} (hE : EOK E) {h0 : Nat} {p1 : Option Nat} {p2 : Int32} {σ σ1 : Hp} {r : Int32} (h : s_X8_runOnce h0 p1 p2 σ = some (r, σ1)) : CT E yX8_runOnce (.code yX8_runOnce cX8_runOnce 12 (some .boolean)) rm_X8_runOnce [tR (some (h0)), tR (p1), tI (p2)] σ (some (tI r)) σ1 := by
  refine CT.mk hE (by decide +kernel) (Nat.le_of_ble_eq_true rfl) [(0, tR (some (h0))), (1, tR (p1)), (2, tI (p2))] rfl (fun X C hin hx hxn => ?_)
  have C : XOK E X cX8_runOnce RX8 12 (some .boolean) rm_X8_runOnce := C
  unfold s_X8_runOnce at h
  refine g_aload_n (pc := 0) C 0 0 dX8_runOnce_0 rfl rfl ?_
  obtain ⟨u1, hvu1, h⟩ := zbind h
  obtain ⟨v3, σ2, hvσ2, h⟩ := zcb h
  refine g_callV (pc := 1) (av := []) C (c_X8_tellOrderWords hE hvσ2) yv_X8_tellOrderWords ml_X8_259 ck_8 (zopt hvu1).1 rfl (rf_of (by decide)) rfl (Nat.le_of_ble_eq_true rfl) dX8_runOnce_1 ?_
  refine g_aload_n (pc := 4) C 1 1 dX8_runOnce_4 rfl rfl ?_
  refine g_iload_n (pc := 5) C 2 2 dX8_runOnce_5 rfl rfl ?_
  refine g_iconst (v := 1) (pc := 6) C dX8_runOnce_6 (by decide) ?_
  obtain ⟨a4, hqa4, h9⟩ := zbind h
  clear h
  subst hqa4
  have h := h9
  clear h9
  obtain ⟨u5, hvu5, h⟩ := zbind h
  obtain ⟨v7, σ6, hvσ6, h⟩ := zcb h
  refine g_callV (pc := 7) (av := [tI (p2), tI (1)]) C (c_X7_field hE hvσ6) yv_X7_field ml_X8_252 ck_7 (zopt hvu5).1 rfl (rf_of (by decide)) rfl (Nat.le_of_ble_eq_true rfl) dX8_runOnce_7 ?_
  refine g_istore_n (lm' := [(3, tI (v7)), (0, tR (some (h0))), (1, tR (some (a4))), (2, tI (p2))]) (pc := 10) C 3 dX8_runOnce_10 rfl (by decide) rfl ?_
  refine g_aload_n (pc := 11) C 1 2 dX8_runOnce_11 rfl rfl ?_
  refine g_iload_n (pc := 12) C 2 3 dX8_runOnce_12 rfl rfl ?_
  refine g_iconst (v := 2) (pc := 13) C dX8_runOnce_13 (by decide) ?_
  obtain ⟨u8, hvu8, h⟩ := zbind h
  obtain ⟨v10, σ9, hvσ9, h⟩ := zcb h
  refine g_callV (pc := 14) (av := [tI (p2), tI (2)]) C (c_X7_field hE hvσ9) yv_X7_field ml_X8_252 ck_7 (zopt hvu8).1 rfl (rf_of (by decide)) rfl (Nat.le_of_ble_eq_true rfl) dX8_runOnce_14 ?_
  refine g_istore (lm' := [(4, tI (v10)), (3, tI (v7)), (0, tR (some (h0))), (1, tR (some (a4))), (2, tI (p2))]) (pc := 17) C dX8_runOnce_17 (by decide) rfl ?_
  refine g_aload_n (pc := 19) C 1 3 dX8_runOnce_19 rfl rfl ?_
  refine g_iload_n (pc := 20) C 2 4 dX8_runOnce_20 rfl rfl ?_
  refine g_iconst (v := 3) (pc := 21) C dX8_runOnce_21 (by decide) ?_
  obtain ⟨u11, hvu11, h⟩ := zbind h
  obtain ⟨v13, σ12, hvσ12, h⟩ := zcb h
  refine g_callV (pc := 22) (av := [tI (p2), tI (3)]) C (c_X7_field hE hvσ12) yv_X7_field ml_X8_252 ck_7 (zopt hvu11).1 rfl (rf_of (by decide)) rfl (Nat.le_of_ble_eq_true rfl) dX8_runOnce_22 ?_
  refine g_istore (lm' := [(5, tI (v13)), (4, tI (v10)), (3, tI (v7)), (0, tR (some (h0))), (1, tR (some (a4))), (2, tI (p2))]) (pc := 25) C dX8_runOnce_25 (by decide) rfl ?_
  refine g_aload_n (pc := 27) C 1 4 dX8_runOnce_27 rfl rfl ?_
  refine g_iload_n (pc := 28) C 2 5 dX8_runOnce_28 rfl rfl ?_
  refine g_iconst (v := 4) (pc := 29) C dX8_runOnce_29 (by decide) ?_
  obtain ⟨u14, hvu14, h⟩ := zbind h
  obtain ⟨v16, σ15, hvσ15, h⟩ := zcb h
  refine g_callV (pc := 30) (av := [tI (p2), tI (4)]) C (c_X7_field hE hvσ15) yv_X7_field ml_X8_252 ck_7 (zopt hvu14).1 rfl (rf_of (by decide)) rfl (Nat.le_of_ble_eq_true rfl) dX8_runOnce_30 ?_
  refine g_istore (lm' := [(6, tI (v16)), (5, tI (v13)), (4, tI (v10)), (3, tI (v7)), (0, tR (some (h0))), (1, tR (some (a4))), (2, tI (p2))]) (pc := 33) C dX8_runOnce_33 (by decide) rfl ?_
  refine g_iload (pc := 35) C 1 dX8_runOnce_35 rfl ?_
  refine g_iload (pc := 37) C 0 dX8_runOnce_37 rfl ?_
  refine g_icmp_ge (pc := 39) C 64 dX8_runOnce_39 (by decide) (fun c24 => ?_) (fun c24 => ?_)
  · have h := zif_t c24 h
    refine g_sub [4, 5, 6, 3, 2, 1] (lm' := [(0, tR (some (h0))), (1, tR (some (a4))), (2, tI (p2)), (3, tI (v7)), (4, tI (v10)), (5, tI (v13))]) rfl ?_
    exact w_X8_runOnce_j64 hE C hxn _ _ _ _ _ _ _ _ _ h hx
  · have h := zif_f c24 h
    refine g_aload_n (pc := 42) C 0 4 dX8_runOnce_42 rfl rfl ?_
    obtain ⟨r17, hvr17, h⟩ := zbind h
    refine g_getR (N := 19) (pc := 43) C ck_8 hvr17 rfl rfl fl_X8_47 dX8_runOnce_43 ?_
    refine g_aload_n (pc := 46) C 1 5 dX8_runOnce_46 rfl rfl ?_
    obtain ⟨r18, hvr18, h⟩ := zbind h
    refine g_getR (N := 3) (pc := 47) C ck_7 hvr18 rfl rfl fl_X8_262 dX8_runOnce_47 ?_
    refine g_iload (pc := 50) C 1 dX8_runOnce_50 rfl ?_
    refine g_iload (pc := 52) C 0 dX8_runOnce_52 rfl ?_
    obtain ⟨a19, hqa19, h9⟩ := zbind h
    clear h
    subst hqa19
    have h := h9
    clear h9
    obtain ⟨u20, hvu20, h⟩ := zbind h
    obtain ⟨v22, σ21, hvσ21, h⟩ := zcb h
    refine g_callV (pc := 54) (av := [tR (r18), tI (v13), tI (v16)]) C (c_X5_value hE hvσ21) yv_X5_value ml_X8_265 ck_5 (zopt hvu20).1 rfl (rf_of (by decide)) rfl (Nat.le_of_ble_eq_true rfl) dX8_runOnce_54 ?_
    refine g_lconst (v := 1) (pc := 57) C dX8_runOnce_57 (by decide) ?_
    refine g_lcmp (pc := 58) C dX8_runOnce_58 ?_
    refine g_if_eq (pc := 59) C 64 dX8_runOnce_59 (by decide) (fun c23 => ?_) (fun c23 => ?_)
    · have h := zif_t c23 h
      refine g_sub [4, 5, 6, 3, 2, 1] (lm' := [(0, tR (some (h0))), (1, tR (some (a4))), (2, tI (p2)), (3, tI (v7)), (4, tI (v10)), (5, tI (v13))]) rfl ?_
      exact w_X8_runOnce_j64 hE C hxn _ _ _ _ _ _ _ _ _ h hx
    · have h := zif_f c23 h
      refine g_iconst (v := 1) (pc := 62) C dX8_runOnce_62 (by decide) ?_
      obtain ⟨rfl, rfl⟩ := zsome h
      exact g_zret (pc := 63) C rfl hx (by decide) (by rw [hxn]; rfl) (by rw [hxn]; rfl) dX8_runOnce_63
def rm_X8_fault : Room := { frames := 0, cells := 0, slots := 0, locals := 0 }
noncomputable def s_X8_fault (h0 : Nat) (σ : Hp) : Option (Int32 × Hp) :=
  (rdI 8 σ h0 15).bind fun v1 =>
  some ((v1), σ)
set_option maxRecDepth 100000 in
theorem c_X8_fault {E : E0} (hE : EOK E) {h0 : Nat} {σ σ1 : Hp} {r : Int32} (h : s_X8_fault h0 σ = some (r, σ1)) : CT E yX8_fault (.code yX8_fault cX8_fault 1 (some .int)) rm_X8_fault [tR (some (h0))] σ (some (tI r)) σ1 := by
  refine CT.mk hE (by decide +kernel) (Nat.le_of_ble_eq_true rfl) [(0, tR (some (h0)))] rfl (fun X C hin hx hxn => ?_)
  have C : XOK E X cX8_fault RX8 1 (some .int) rm_X8_fault := C
  unfold s_X8_fault at h
  refine g_aload_n (pc := 0) C 0 0 dX8_fault_0 rfl rfl ?_
  obtain ⟨v1, hvv1, h⟩ := zbind h
  refine g_getI (N := 19) (pc := 1) C ck_8 hvv1 rfl rfl fl_X8_83 dX8_fault_1 ?_
  obtain ⟨rfl, rfl⟩ := zsome h
  exact g_iret (pc := 4) C rfl hx (by rw [hxn]; rfl) (by rw [hxn]; rfl) dX8_fault_4
def rm_X8_stopped : Room := { frames := 0, cells := 0, slots := 0, locals := 0 }
noncomputable def s_X8_stopped (h0 : Nat) (σ : Hp) : Option (Int32 × Hp) :=
  (rdI 8 σ h0 17).bind fun v1 =>
  some ((v1), σ)
set_option maxRecDepth 100000 in
theorem c_X8_stopped {E : E0} (hE : EOK E) {h0 : Nat} {σ σ1 : Hp} {r : Int32} (h : s_X8_stopped h0 σ = some (r, σ1)) : CT E yX8_stopped (.code yX8_stopped cX8_stopped 1 (some .int)) rm_X8_stopped [tR (some (h0))] σ (some (tI r)) σ1 := by
  refine CT.mk hE (by decide +kernel) (Nat.le_of_ble_eq_true rfl) [(0, tR (some (h0)))] rfl (fun X C hin hx hxn => ?_)
  have C : XOK E X cX8_stopped RX8 1 (some .int) rm_X8_stopped := C
  unfold s_X8_stopped at h
  refine g_aload_n (pc := 0) C 0 0 dX8_stopped_0 rfl rfl ?_
  obtain ⟨v1, hvv1, h⟩ := zbind h
  refine g_getI (N := 19) (pc := 1) C ck_8 hvv1 rfl rfl fl_X8_89 dX8_stopped_1 ?_
  obtain ⟨rfl, rfl⟩ := zsome h
  exact g_iret (pc := 4) C rfl hx (by rw [hxn]; rfl) (by rw [hxn]; rfl) dX8_stopped_4
def rm_X8_force : Room := { frames := 2, cells := 0, slots := 0, locals := 42 }
noncomputable def s_X8_force_j23 (h0 : Nat) (l1 : Int32) (σ : Hp) : Option (Int32 × Hp) :=
  (rdR 8 σ h0 0).bind fun r1 =>
  (r1).bind fun a2 =>
  (rdI 1 σ a2 19).bind fun v3 =>
  (rdR 8 σ h0 0).bind fun r4 =>
  (r4).bind fun a5 =>
  (wrI 1 σ a5 19 (l1)).bind fun σ6 =>
  (ck 8 σ6 h0).bind fun u7 =>
  cb (s_X8_grant h0 (v3) σ6) fun v9 σ8 =>
  some ((v9), σ8)
set_option maxRecDepth 100000 in
theorem w_X8_force_j23 {E : E0} (hE : EOK E) {X : X0} (C : XOK E X cX8_force RX8 3 (some .int) rm_X8_force) (hxn : xn X = (rm_X8_force.cells, rm_X8_force.slots)) (h0 : Nat) (l1 : Int32) (σ : Hp) (r : Int32) (σ1 : Hp) (h : s_X8_force_j23 h0 l1 σ = some (r, σ1)) (hx : xd X = (some (tI r), σ1)) : G E X 0 0 23 [(0, tR (some (h0))), (1, tI (l1))] [] σ := by
  unfold s_X8_force_j23 at h
  refine g_aload_n (pc := 23) C 0 0 dX8_force_23 rfl rfl ?_
  obtain ⟨r1, hvr1, h⟩ := zbind h
  refine g_getR (N := 19) (pc := 24) C ck_8 hvr1 rfl rfl fl_X8_12 dX8_force_24 ?_
  obtain ⟨a2, hqa2, h9⟩ := zbind h
  clear h
  subst hqa2
  have h := h9
  clear h9
  obtain ⟨v3, hvv3, h⟩ := zbind h
  refine g_getI (N := 20) (pc := 27) C ck_1 hvv3 rfl rfl fl_X8_293 dX8_force_27 ?_
  refine g_istore_n (lm' := [(2, tI (v3)), (0, tR (some (h0))), (1, tI (l1))]) (pc := 30) C 2 dX8_force_30 rfl (by decide) rfl ?_
  refine g_aload_n (pc := 31) C 0 1 dX8_force_31 rfl rfl ?_
  obtain ⟨r4, hvr4, h⟩ := zbind h
  refine g_getR (N := 19) (pc := 32) C ck_8 hvr4 rfl rfl fl_X8_12 dX8_force_32 ?_
  refine g_iload_n (pc := 35) C 1 2 dX8_force_35 rfl rfl ?_
  obtain ⟨a5, hqa5, h9⟩ := zbind h
  clear h
  subst hqa5
  have h := h9
  clear h9
  obtain ⟨σ6, hvσ6, h⟩ := zbind h
  refine g_putI (N := 20) (pc := 36) C ⟨ck_1, rfl, tyX1_ok⟩ hvσ6 rfl fl_X8_293 rfl rfl dX8_force_36 ?_
  refine g_aload_n (pc := 39) C 0 1 dX8_force_39 rfl rfl ?_
  refine g_iload_n (pc := 40) C 2 0 dX8_force_40 rfl rfl ?_
  obtain ⟨u7, hvu7, h⟩ := zbind h
  obtain ⟨v9, σ8, hvσ8, h⟩ := zcb h
  refine g_callV (pc := 41) (av := [tI (v3)]) C (c_X8_grant hE hvσ8) yv_X8_grant ml_X8_119 ck_8 (zopt hvu7).1 rfl (rf_of (by decide)) rfl (Nat.le_of_ble_eq_true rfl) dX8_force_41 ?_
  obtain ⟨rfl, rfl⟩ := zsome h
  exact g_iret (pc := 44) C rfl hx (by rw [hxn]; rfl) (by rw [hxn]; rfl) dX8_force_44
noncomputable def s_X8_force (h0 : Nat) (p1 : Int32) (σ : Hp) : Option (Int32 × Hp) :=
  if p1 = (-1) then
    s_X8_force_j23 (h0) (p1) σ
  else
    (rdR 8 σ h0 0).bind fun r1 =>
    (r1).bind fun a2 =>
    (ck 1 σ a2).bind fun u3 =>
    cb (s_X1_isLaw a2 (p1) σ) fun v5 σ4 =>
    if v5 = 0 then
      (ck 8 σ4 h0).bind fun u6 =>
      cb (s_X8_refuse h0 ((-2)) σ4) fun v8 σ7 =>
      some ((v8), σ7)
    else
      s_X8_force_j23 (h0) (p1) σ4
set_option maxRecDepth 100000 in
theorem c_X8_force {E : E0} (hE : EOK E) {h0 : Nat} {p1 : Int32} {σ σ1 : Hp} {r : Int32} (h : s_X8_force h0 p1 σ = some (r, σ1)) : CT E yX8_force (.code yX8_force cX8_force 3 (some .int)) rm_X8_force [tR (some (h0)), tI (p1)] σ (some (tI r)) σ1 := by
  refine CT.mk hE (by decide +kernel) (Nat.le_of_ble_eq_true rfl) [(0, tR (some (h0))), (1, tI (p1))] rfl (fun X C hin hx hxn => ?_)
  have C : XOK E X cX8_force RX8 3 (some .int) rm_X8_force := C
  unfold s_X8_force at h
  refine g_iload_n (pc := 0) C 1 1 dX8_force_0 rfl rfl ?_
  refine g_iconst (v := (-1)) (pc := 1) C dX8_force_1 (by decide) ?_
  refine g_icmp_eq (pc := 2) C 23 dX8_force_2 (by decide) (fun c10 => ?_) (fun c10 => ?_)
  · have h := zif_t c10 h
    exact w_X8_force_j23 hE C hxn _ _ _ _ _ h hx
  · have h := zif_f c10 h
    refine g_aload_n (pc := 5) C 0 0 dX8_force_5 rfl rfl ?_
    obtain ⟨r1, hvr1, h⟩ := zbind h
    refine g_getR (N := 19) (pc := 6) C ck_8 hvr1 rfl rfl fl_X8_12 dX8_force_6 ?_
    refine g_iload_n (pc := 9) C 1 1 dX8_force_9 rfl rfl ?_
    obtain ⟨a2, hqa2, h9⟩ := zbind h
    clear h
    subst hqa2
    have h := h9
    clear h9
    obtain ⟨u3, hvu3, h⟩ := zbind h
    obtain ⟨v5, σ4, hvσ4, h⟩ := zcb h
    refine g_callV (pc := 10) (av := [tI (p1)]) C (c_X1_isLaw hE hvσ4) yv_X1_isLaw ml_X8_290 ck_1 (zopt hvu3).1 rfl (rf_of (by decide)) rfl (Nat.le_of_ble_eq_true rfl) dX8_force_10 ?_
    refine g_if_ne (pc := 13) C 23 dX8_force_13 (by decide) (fun c9 => ?_) (fun c9 => ?_)
    · have h := zif_f c9 h
      exact w_X8_force_j23 hE C hxn _ _ _ _ _ h hx
    · have h := zif_t c9 h
      refine g_aload_n (pc := 16) C 0 0 dX8_force_16 rfl rfl ?_
      refine g_bipush (v := (-2)) (pc := 17) C dX8_force_17 (by decide) ?_
      obtain ⟨u6, hvu6, h⟩ := zbind h
      obtain ⟨v8, σ7, hvσ7, h⟩ := zcb h
      refine g_callV (pc := 19) (av := [tI ((-2))]) C (c_X8_refuse hE hvσ7) yv_X8_refuse ml_X8_99 ck_8 (zopt hvu6).1 rfl (rf_of (by decide)) rfl (Nat.le_of_ble_eq_true rfl) dX8_force_19 ?_
      obtain ⟨rfl, rfl⟩ := zsome h
      exact g_iret (pc := 22) C rfl hx (by rw [hxn]; rfl) (by rw [hxn]; rfl) dX8_force_22
def rm_X8_settle : Room := { frames := 2, cells := 0, slots := 0, locals := 42 }
noncomputable def s_X8_settle (h0 : Nat) (p1 : Int32) (σ : Hp) : Option (Int32 × Hp) :=
  if 0 ≤ p1 then
    (ck 8 σ h0).bind fun u1 =>
    cb (s_X8_grant h0 (p1) σ) fun v3 σ2 =>
    some ((v3), σ2)
  else
    (ck 8 σ h0).bind fun u4 =>
    cb (s_X8_refuse h0 (p1) σ) fun v6 σ5 =>
    some ((v6), σ5)
set_option maxRecDepth 100000 in
theorem c_X8_settle {E : E0} (hE : EOK E) {h0 : Nat} {p1 : Int32} {σ σ1 : Hp} {r : Int32} (h : s_X8_settle h0 p1 σ = some (r, σ1)) : CT E yX8_settle (.code yX8_settle cX8_settle 2 (some .int)) rm_X8_settle [tR (some (h0)), tI (p1)] σ (some (tI r)) σ1 := by
  refine CT.mk hE (by decide +kernel) (Nat.le_of_ble_eq_true rfl) [(0, tR (some (h0))), (1, tI (p1))] rfl (fun X C hin hx hxn => ?_)
  have C : XOK E X cX8_settle RX8 2 (some .int) rm_X8_settle := C
  unfold s_X8_settle at h
  refine g_iload_n (pc := 0) C 1 1 dX8_settle_0 rfl rfl ?_
  refine g_if_ge (pc := 1) C 12 dX8_settle_1 (by decide) (fun c7 => ?_) (fun c7 => ?_)
  · have h := zif_t c7 h
    refine g_aload_n (pc := 12) C 0 0 dX8_settle_12 rfl rfl ?_
    refine g_iload_n (pc := 13) C 1 1 dX8_settle_13 rfl rfl ?_
    obtain ⟨u1, hvu1, h⟩ := zbind h
    obtain ⟨v3, σ2, hvσ2, h⟩ := zcb h
    refine g_callV (pc := 14) (av := [tI (p1)]) C (c_X8_grant hE hvσ2) yv_X8_grant ml_X8_119 ck_8 (zopt hvu1).1 rfl (rf_of (by decide)) rfl (Nat.le_of_ble_eq_true rfl) dX8_settle_14 ?_
    obtain ⟨rfl, rfl⟩ := zsome h
    exact g_iret (pc := 17) C rfl hx (by rw [hxn]; rfl) (by rw [hxn]; rfl) dX8_settle_17
  · have h := zif_f c7 h
    refine g_aload_n (pc := 4) C 0 0 dX8_settle_4 rfl rfl ?_
    refine g_iload_n (pc := 5) C 1 1 dX8_settle_5 rfl rfl ?_
    obtain ⟨u4, hvu4, h⟩ := zbind h
    obtain ⟨v6, σ5, hvσ5, h⟩ := zcb h
    refine g_callV (pc := 6) (av := [tI (p1)]) C (c_X8_refuse hE hvσ5) yv_X8_refuse ml_X8_99 ck_8 (zopt hvu4).1 rfl (rf_of (by decide)) rfl (Nat.le_of_ble_eq_true rfl) dX8_settle_6 ?_
    refine g_goto (pc := 9) C 17 dX8_settle_9 (by decide) ?_
    obtain ⟨rfl, rfl⟩ := zsome h
    exact g_iret (pc := 17) C rfl hx (by rw [hxn]; rfl) (by rw [hxn]; rfl) dX8_settle_17
def rm_X8_stride : Room := { frames := 6, cells := 0, slots := 0, locals := 150 }
noncomputable def s_X8_stride (h0 : Nat) (p1 : Int32) (p2 : Int32) (σ : Hp) : Option (Int32 × Hp) :=
  (ck 8 σ h0).bind fun u1 =>
  cb (s_X8_tryStride h0 (p1) (p2) σ) fun v3 σ2 =>
  (ck 8 σ2 h0).bind fun u4 =>
  cb (s_X8_settle h0 (v3) σ2) fun v6 σ5 =>
  some ((v6), σ5)
set_option maxRecDepth 100000 in
theorem c_X8_stride {E : E0} (hE : EOK E) {h0 : Nat} {p1 : Int32} {p2 : Int32} {σ σ1 : Hp} {r : Int32} (h : s_X8_stride h0 p1 p2 σ = some (r, σ1)) : CT E yX8_stride (.code yX8_stride cX8_stride 3 (some .int)) rm_X8_stride [tR (some (h0)), tI (p1), tI (p2)] σ (some (tI r)) σ1 := by
  refine CT.mk hE (by decide +kernel) (Nat.le_of_ble_eq_true rfl) [(0, tR (some (h0))), (1, tI (p1)), (2, tI (p2))] rfl (fun X C hin hx hxn => ?_)
  have C : XOK E X cX8_stride RX8 3 (some .int) rm_X8_stride := C
  unfold s_X8_stride at h
  refine g_aload_n (pc := 0) C 0 0 dX8_stride_0 rfl rfl ?_
  refine g_aload_n (pc := 1) C 0 0 dX8_stride_1 rfl rfl ?_
  refine g_iload_n (pc := 2) C 1 1 dX8_stride_2 rfl rfl ?_
  refine g_iload_n (pc := 3) C 2 2 dX8_stride_3 rfl rfl ?_
  obtain ⟨u1, hvu1, h⟩ := zbind h
  obtain ⟨v3, σ2, hvσ2, h⟩ := zcb h
  refine g_callV (pc := 4) (av := [tI (p1), tI (p2)]) C (c_X8_tryStride hE hvσ2) yv_X8_tryStride ml_X8_271 ck_8 (zopt hvu1).1 rfl (rf_of (by decide)) rfl (Nat.le_of_ble_eq_true rfl) dX8_stride_4 ?_
  obtain ⟨u4, hvu4, h⟩ := zbind h
  obtain ⟨v6, σ5, hvσ5, h⟩ := zcb h
  refine g_callV (pc := 7) (av := [tI (v3)]) C (c_X8_settle hE hvσ5) yv_X8_settle ml_X8_296 ck_8 (zopt hvu4).1 rfl (rf_of (by decide)) rfl (Nat.le_of_ble_eq_true rfl) dX8_stride_7 ?_
  obtain ⟨rfl, rfl⟩ := zsome h
  exact g_iret (pc := 10) C rfl hx (by rw [hxn]; rfl) (by rw [hxn]; rfl) dX8_stride_10
def rm_X8_put : Room := { frames := 3, cells := 0, slots := 0, locals := 108 }
noncomputable def s_X8_put (h0 : Nat) (p1 : Int32) (p2 : Int32) (σ : Hp) : Option (Int32 × Hp) :=
  (ck 8 σ h0).bind fun u1 =>
  cb (s_X8_tryPut h0 (p1) (p2) σ) fun v3 σ2 =>
  (ck 8 σ2 h0).bind fun u4 =>
  cb (s_X8_settle h0 (v3) σ2) fun v6 σ5 =>
  some ((v6), σ5)
set_option maxRecDepth 100000 in
theorem c_X8_put {E : E0} (hE : EOK E) {h0 : Nat} {p1 : Int32} {p2 : Int32} {σ σ1 : Hp} {r : Int32} (h : s_X8_put h0 p1 p2 σ = some (r, σ1)) : CT E yX8_put (.code yX8_put cX8_put 3 (some .int)) rm_X8_put [tR (some (h0)), tI (p1), tI (p2)] σ (some (tI r)) σ1 := by
  refine CT.mk hE (by decide +kernel) (Nat.le_of_ble_eq_true rfl) [(0, tR (some (h0))), (1, tI (p1)), (2, tI (p2))] rfl (fun X C hin hx hxn => ?_)
  have C : XOK E X cX8_put RX8 3 (some .int) rm_X8_put := C
  unfold s_X8_put at h
  refine g_aload_n (pc := 0) C 0 0 dX8_put_0 rfl rfl ?_
  refine g_aload_n (pc := 1) C 0 0 dX8_put_1 rfl rfl ?_
  refine g_iload_n (pc := 2) C 1 1 dX8_put_2 rfl rfl ?_
  refine g_iload_n (pc := 3) C 2 2 dX8_put_3 rfl rfl ?_
  obtain ⟨u1, hvu1, h⟩ := zbind h
  obtain ⟨v3, σ2, hvσ2, h⟩ := zcb h
  refine g_callV (pc := 4) (av := [tI (p1), tI (p2)]) C (c_X8_tryPut hE hvσ2) yv_X8_tryPut ml_X8_274 ck_8 (zopt hvu1).1 rfl (rf_of (by decide)) rfl (Nat.le_of_ble_eq_true rfl) dX8_put_4 ?_
  obtain ⟨u4, hvu4, h⟩ := zbind h
  obtain ⟨v6, σ5, hvσ5, h⟩ := zcb h
  refine g_callV (pc := 7) (av := [tI (v3)]) C (c_X8_settle hE hvσ5) yv_X8_settle ml_X8_296 ck_8 (zopt hvu4).1 rfl (rf_of (by decide)) rfl (Nat.le_of_ble_eq_true rfl) dX8_put_7 ?_
  obtain ⟨rfl, rfl⟩ := zsome h
  exact g_iret (pc := 10) C rfl hx (by rw [hxn]; rfl) (by rw [hxn]; rfl) dX8_put_10
def rm_X8_door : Room := { frames := 3, cells := 0, slots := 0, locals := 107 }
noncomputable def s_X8_door (h0 : Nat) (p1 : Int32) (p2 : Int32) (σ : Hp) : Option (Int32 × Hp) :=
  (ck 8 σ h0).bind fun u1 =>
  cb (s_X8_tryDoor h0 (p1) (p2) σ) fun v3 σ2 =>
  (ck 8 σ2 h0).bind fun u4 =>
  cb (s_X8_settle h0 (v3) σ2) fun v6 σ5 =>
  some ((v6), σ5)
set_option maxRecDepth 100000 in
theorem c_X8_door {E : E0} (hE : EOK E) {h0 : Nat} {p1 : Int32} {p2 : Int32} {σ σ1 : Hp} {r : Int32} (h : s_X8_door h0 p1 p2 σ = some (r, σ1)) : CT E yX8_door (.code yX8_door cX8_door 3 (some .int)) rm_X8_door [tR (some (h0)), tI (p1), tI (p2)] σ (some (tI r)) σ1 := by
  refine CT.mk hE (by decide +kernel) (Nat.le_of_ble_eq_true rfl) [(0, tR (some (h0))), (1, tI (p1)), (2, tI (p2))] rfl (fun X C hin hx hxn => ?_)
  have C : XOK E X cX8_door RX8 3 (some .int) rm_X8_door := C
  unfold s_X8_door at h
  refine g_aload_n (pc := 0) C 0 0 dX8_door_0 rfl rfl ?_
  refine g_aload_n (pc := 1) C 0 0 dX8_door_1 rfl rfl ?_
  refine g_iload_n (pc := 2) C 1 1 dX8_door_2 rfl rfl ?_
  refine g_iload_n (pc := 3) C 2 2 dX8_door_3 rfl rfl ?_
  obtain ⟨u1, hvu1, h⟩ := zbind h
  obtain ⟨v3, σ2, hvσ2, h⟩ := zcb h
  refine g_callV (pc := 4) (av := [tI (p1), tI (p2)]) C (c_X8_tryDoor hE hvσ2) yv_X8_tryDoor ml_X8_277 ck_8 (zopt hvu1).1 rfl (rf_of (by decide)) rfl (Nat.le_of_ble_eq_true rfl) dX8_door_4 ?_
  obtain ⟨u4, hvu4, h⟩ := zbind h
  obtain ⟨v6, σ5, hvσ5, h⟩ := zcb h
  refine g_callV (pc := 7) (av := [tI (v3)]) C (c_X8_settle hE hvσ5) yv_X8_settle ml_X8_296 ck_8 (zopt hvu4).1 rfl (rf_of (by decide)) rfl (Nat.le_of_ble_eq_true rfl) dX8_door_7 ?_
  obtain ⟨rfl, rfl⟩ := zsome h
  exact g_iret (pc := 10) C rfl hx (by rw [hxn]; rfl) (by rw [hxn]; rfl) dX8_door_10
def rm_X8_pass : Room := { frames := 6, cells := 0, slots := 0, locals := 154 }
noncomputable def s_X8_pass (h0 : Nat) (σ : Hp) : Option (Int32 × Hp) :=
  (ck 8 σ h0).bind fun u1 =>
  cb (s_X8_tryPass h0 σ) fun v3 σ2 =>
  (ck 8 σ2 h0).bind fun u4 =>
  cb (s_X8_settle h0 (v3) σ2) fun v6 σ5 =>
  some ((v6), σ5)
set_option maxRecDepth 100000 in
theorem c_X8_pass {E : E0} (hE : EOK E) {h0 : Nat} {σ σ1 : Hp} {r : Int32} (h : s_X8_pass h0 σ = some (r, σ1)) : CT E yX8_pass (.code yX8_pass cX8_pass 1 (some .int)) rm_X8_pass [tR (some (h0))] σ (some (tI r)) σ1 := by
  refine CT.mk hE (by decide +kernel) (Nat.le_of_ble_eq_true rfl) [(0, tR (some (h0)))] rfl (fun X C hin hx hxn => ?_)
  have C : XOK E X cX8_pass RX8 1 (some .int) rm_X8_pass := C
  unfold s_X8_pass at h
  refine g_aload_n (pc := 0) C 0 0 dX8_pass_0 rfl rfl ?_
  refine g_aload_n (pc := 1) C 0 0 dX8_pass_1 rfl rfl ?_
  obtain ⟨u1, hvu1, h⟩ := zbind h
  obtain ⟨v3, σ2, hvσ2, h⟩ := zcb h
  refine g_callV (pc := 2) (av := []) C (c_X8_tryPass hE hvσ2) yv_X8_tryPass ml_X8_280 ck_8 (zopt hvu1).1 rfl (rf_of (by decide)) rfl (Nat.le_of_ble_eq_true rfl) dX8_pass_2 ?_
  obtain ⟨u4, hvu4, h⟩ := zbind h
  obtain ⟨v6, σ5, hvσ5, h⟩ := zcb h
  refine g_callV (pc := 5) (av := [tI (v3)]) C (c_X8_settle hE hvσ5) yv_X8_settle ml_X8_296 ck_8 (zopt hvu4).1 rfl (rf_of (by decide)) rfl (Nat.le_of_ble_eq_true rfl) dX8_pass_5 ?_
  obtain ⟨rfl, rfl⟩ := zsome h
  exact g_iret (pc := 8) C rfl hx (by rw [hxn]; rfl) (by rw [hxn]; rfl) dX8_pass_8
def rm_X8_undo : Room := { frames := 3, cells := 0, slots := 0, locals := 85 }
noncomputable def s_X8_undo_j27 (t0 : Option Nat) (t1 : Int32) (σ : Hp) : Option (Int32 × Hp) :=
  (t0).bind fun a1 =>
  (ck 8 σ a1).bind fun u2 =>
  cb (s_X8_settle a1 (t1) σ) fun v4 σ3 =>
  some ((v4), σ3)
set_option maxRecDepth 100000 in
theorem w_X8_undo_j27 {E : E0} (hE : EOK E) {X : X0} (C : XOK E X cX8_undo RX8 1 (some .int) rm_X8_undo) (hxn : xn X = (rm_X8_undo.cells, rm_X8_undo.slots)) (t0 : Option Nat) (t1 : Int32) (σ : Hp) (r : Int32) (σ1 : Hp) (h : s_X8_undo_j27 t0 t1 σ = some (r, σ1)) (hx : xd X = (some (tI r), σ1)) : G E X 0 0 27 [] [tI (t1), tR (t0)] σ := by
  unfold s_X8_undo_j27 at h
  obtain ⟨a1, hqa1, h9⟩ := zbind h
  clear h
  subst hqa1
  have h := h9
  clear h9
  obtain ⟨u2, hvu2, h⟩ := zbind h
  obtain ⟨v4, σ3, hvσ3, h⟩ := zcb h
  refine g_callV (pc := 27) (av := [tI (t1)]) C (c_X8_settle hE hvσ3) yv_X8_settle ml_X8_296 ck_8 (zopt hvu2).1 rfl (rf_of (by decide)) rfl (Nat.le_of_ble_eq_true rfl) dX8_undo_27 ?_
  obtain ⟨rfl, rfl⟩ := zsome h
  exact g_iret (pc := 30) C rfl hx (by rw [hxn]; rfl) (by rw [hxn]; rfl) dX8_undo_30
noncomputable def s_X8_undo (h0 : Nat) (σ : Hp) : Option (Int32 × Hp) :=
  (rdR 8 σ h0 8).bind fun r1 =>
  (r1).bind fun a2 =>
  (ck 0 σ a2).bind fun u3 =>
  cb (s_X0_isEmpty a2 σ) fun v5 σ4 =>
  if v5 = 0 then
    (rdR 8 σ4 h0 8).bind fun r6 =>
    (rdR 8 σ4 h0 0).bind fun r7 =>
    (r6).bind fun a8 =>
    (ck 0 σ4 a8).bind fun u9 =>
    cb (s_X0_takeBack a8 (r7) σ4) fun v11 σ10 =>
    s_X8_undo_j27 (some (h0)) (v11) σ10
  else
    s_X8_undo_j27 (some (h0)) ((-3)) σ4
set_option maxRecDepth 100000 in
theorem c_X8_undo {E : E0} (hE : EOK E) {h0 : Nat} {σ σ1 : Hp} {r : Int32} (h : s_X8_undo h0 σ = some (r, σ1)) : CT E yX8_undo (.code yX8_undo cX8_undo 1 (some .int)) rm_X8_undo [tR (some (h0))] σ (some (tI r)) σ1 := by
  refine CT.mk hE (by decide +kernel) (Nat.le_of_ble_eq_true rfl) [(0, tR (some (h0)))] rfl (fun X C hin hx hxn => ?_)
  have C : XOK E X cX8_undo RX8 1 (some .int) rm_X8_undo := C
  unfold s_X8_undo at h
  refine g_aload_n (pc := 0) C 0 0 dX8_undo_0 rfl rfl ?_
  refine g_aload_n (pc := 1) C 0 0 dX8_undo_1 rfl rfl ?_
  obtain ⟨r1, hvr1, h⟩ := zbind h
  refine g_getR (N := 19) (pc := 2) C ck_8 hvr1 rfl rfl fl_X8_54 dX8_undo_2 ?_
  obtain ⟨a2, hqa2, h9⟩ := zbind h
  clear h
  subst hqa2
  have h := h9
  clear h9
  obtain ⟨u3, hvu3, h⟩ := zbind h
  obtain ⟨v5, σ4, hvσ4, h⟩ := zcb h
  refine g_callV (pc := 5) (av := []) C (c_X0_isEmpty hE hvσ4) yv_X0_isEmpty ml_X8_312 ck_0 (zopt hvu3).1 rfl (rf_of (by decide)) rfl (Nat.le_of_ble_eq_true rfl) dX8_undo_5 ?_
  refine g_if_eq (pc := 8) C 16 dX8_undo_8 (by decide) (fun c12 => ?_) (fun c12 => ?_)
  · have h := zif_t c12 h
    refine g_aload_n (pc := 16) C 0 0 dX8_undo_16 rfl rfl ?_
    obtain ⟨r6, hvr6, h⟩ := zbind h
    refine g_getR (N := 19) (pc := 17) C ck_8 hvr6 rfl rfl fl_X8_54 dX8_undo_17 ?_
    refine g_aload_n (pc := 20) C 0 0 dX8_undo_20 rfl rfl ?_
    obtain ⟨r7, hvr7, h⟩ := zbind h
    refine g_getR (N := 19) (pc := 21) C ck_8 hvr7 rfl rfl fl_X8_12 dX8_undo_21 ?_
    obtain ⟨a8, hqa8, h9⟩ := zbind h
    clear h
    subst hqa8
    have h := h9
    clear h9
    obtain ⟨u9, hvu9, h⟩ := zbind h
    obtain ⟨v11, σ10, hvσ10, h⟩ := zcb h
    refine g_callV (pc := 24) (av := [tR (r7)]) C (c_X0_takeBack hE hvσ10) yv_X0_takeBack ml_X8_316 ck_0 (zopt hvu9).1 rfl (rf_of (by decide)) rfl (Nat.le_of_ble_eq_true rfl) dX8_undo_24 ?_
    refine g_sub [] (lm' := []) rfl ?_
    exact w_X8_undo_j27 hE C hxn _ _ _ _ _ h hx
  · have h := zif_f c12 h
    refine g_bipush (v := (-3)) (pc := 11) C dX8_undo_11 (by decide) ?_
    refine g_goto (pc := 13) C 27 dX8_undo_13 (by decide) ?_
    refine g_sub [] (lm' := []) rfl ?_
    exact w_X8_undo_j27 hE C hxn _ _ _ _ _ h hx
def rm_X8_soonest : Room := { frames := 6, cells := 0, slots := 0, locals := 158 }
noncomputable def s_X8_soonest (h0 : Nat) (p1 : Int32) (p2 : Int32) (p3 : Int32) (σ : Hp) : Option (Int32 × Hp) :=
  (rdR 8 σ h0 0).bind fun r1 =>
  (r1).bind fun a2 =>
  (ck 1 σ a2).bind fun u3 =>
  cb (s_X1_isFolk a2 (p1) σ) fun v5 σ4 =>
  if v5 = 0 then
    some (((-1)), σ4)
  else
    (rdR 8 σ4 h0 0).bind fun r6 =>
    (r6).bind fun a7 =>
    (rdR 1 σ4 a7 0).bind fun r8 =>
    (r8).bind fun a9 =>
    (ck 3 σ4 a9).bind fun u10 =>
    cb (s_X3_isOne a9 (p2) σ4) fun v12 σ11 =>
    if v12 = 0 then
      some (((-1)), σ11)
    else
      (rdR 8 σ11 h0 10).bind fun r13 =>
      (rdR 8 σ11 h0 0).bind fun r14 =>
      (r13).bind fun a15 =>
      (ck 2 σ11 a15).bind fun u16 =>
      cb (s_X2_hoursTo a15 (r14) (p1) (p2) σ11) fun v18 σ17 =>
      if p3 = (-1) then
        some ((v18), σ17)
      else
        if p3 < 0 then
          some (((-1)), σ17)
        else
          if v18 ≤ p3 then
            some (((-1)), σ17)
          else
            (rdR 8 σ17 h0 10).bind fun r19 =>
            (r19).bind fun a20 =>
            (rdR 2 σ17 a20 0).bind fun r21 =>
            (r21).bind fun a22 =>
            (lnA 11 σ17 a22).bind fun v23 =>
            if v23 ≤ p3 then
              some (((-1)), σ17)
            else
              (rdR 8 σ17 h0 10).bind fun r24 =>
              (r24).bind fun a25 =>
              (rdR 2 σ17 a25 0).bind fun r26 =>
              (r26).bind fun a27 =>
              (ldI 11 σ17 a27 (p3)).bind fun v28 =>
              some ((v28), σ17)
set_option maxRecDepth 100000 in
theorem c_X8_soonest {E : E0} (hE : EOK E) {h0 : Nat} {p1 : Int32} {p2 : Int32} {p3 : Int32} {σ σ1 : Hp} {r : Int32} (h : s_X8_soonest h0 p1 p2 p3 σ = some (r, σ1)) : CT E yX8_soonest (.code yX8_soonest cX8_soonest 5 (some .int)) rm_X8_soonest [tR (some (h0)), tI (p1), tI (p2), tI (p3)] σ (some (tI r)) σ1 := by
  refine CT.mk hE (by decide +kernel) (Nat.le_of_ble_eq_true rfl) [(0, tR (some (h0))), (1, tI (p1)), (2, tI (p2)), (3, tI (p3))] rfl (fun X C hin hx hxn => ?_)
  have C : XOK E X cX8_soonest RX8 5 (some .int) rm_X8_soonest := C
  unfold s_X8_soonest at h
  refine g_aload_n (pc := 0) C 0 0 dX8_soonest_0 rfl rfl ?_
  obtain ⟨r1, hvr1, h⟩ := zbind h
  refine g_getR (N := 19) (pc := 1) C ck_8 hvr1 rfl rfl fl_X8_12 dX8_soonest_1 ?_
  refine g_iload_n (pc := 4) C 1 1 dX8_soonest_4 rfl rfl ?_
  obtain ⟨a2, hqa2, h9⟩ := zbind h
  clear h
  subst hqa2
  have h := h9
  clear h9
  obtain ⟨u3, hvu3, h⟩ := zbind h
  obtain ⟨v5, σ4, hvσ4, h⟩ := zcb h
  refine g_callV (pc := 5) (av := [tI (p1)]) C (c_X1_isFolk hE hvσ4) yv_X1_isFolk ml_X8_151 ck_1 (zopt hvu3).1 rfl (rf_of (by decide)) rfl (Nat.le_of_ble_eq_true rfl) dX8_soonest_5 ?_
  refine g_if_eq (pc := 8) C 25 dX8_soonest_8 (by decide) (fun c34 => ?_) (fun c34 => ?_)
  · have h := zif_t c34 h
    refine g_iconst (v := (-1)) (pc := 25) C dX8_soonest_25 (by decide) ?_
    obtain ⟨rfl, rfl⟩ := zsome h
    exact g_iret (pc := 26) C rfl hx (by rw [hxn]; rfl) (by rw [hxn]; rfl) dX8_soonest_26
  · have h := zif_f c34 h
    refine g_aload_n (pc := 11) C 0 0 dX8_soonest_11 rfl rfl ?_
    obtain ⟨r6, hvr6, h⟩ := zbind h
    refine g_getR (N := 19) (pc := 12) C ck_8 hvr6 rfl rfl fl_X8_12 dX8_soonest_12 ?_
    obtain ⟨a7, hqa7, h9⟩ := zbind h
    clear h
    subst hqa7
    have h := h9
    clear h9
    obtain ⟨r8, hvr8, h⟩ := zbind h
    refine g_getR (N := 20) (pc := 15) C ck_1 hvr8 rfl rfl fl_X8_103 dX8_soonest_15 ?_
    refine g_iload_n (pc := 18) C 2 2 dX8_soonest_18 rfl rfl ?_
    obtain ⟨a9, hqa9, h9⟩ := zbind h
    clear h
    subst hqa9
    have h := h9
    clear h9
    obtain ⟨u10, hvu10, h⟩ := zbind h
    obtain ⟨v12, σ11, hvσ11, h⟩ := zcb h
    refine g_callV (pc := 19) (av := [tI (p2)]) C (c_X3_isOne hE hvσ11) yv_X3_isOne ml_X8_122 ck_3 (zopt hvu10).1 rfl (rf_of (by decide)) rfl (Nat.le_of_ble_eq_true rfl) dX8_soonest_19 ?_
    refine g_if_ne (pc := 22) C 27 dX8_soonest_22 (by decide) (fun c33 => ?_) (fun c33 => ?_)
    · have h := zif_f c33 h
      refine g_aload_n (pc := 27) C 0 0 dX8_soonest_27 rfl rfl ?_
      obtain ⟨r13, hvr13, h⟩ := zbind h
      refine g_getR (N := 19) (pc := 28) C ck_8 hvr13 rfl rfl fl_X8_64 dX8_soonest_28 ?_
      refine g_aload_n (pc := 31) C 0 0 dX8_soonest_31 rfl rfl ?_
      obtain ⟨r14, hvr14, h⟩ := zbind h
      refine g_getR (N := 19) (pc := 32) C ck_8 hvr14 rfl rfl fl_X8_12 dX8_soonest_32 ?_
      refine g_iload_n (pc := 35) C 1 1 dX8_soonest_35 rfl rfl ?_
      refine g_iload_n (pc := 36) C 2 2 dX8_soonest_36 rfl rfl ?_
      obtain ⟨a15, hqa15, h9⟩ := zbind h
      clear h
      subst hqa15
      have h := h9
      clear h9
      obtain ⟨u16, hvu16, h⟩ := zbind h
      obtain ⟨v18, σ17, hvσ17, h⟩ := zcb h
      refine g_callV (pc := 37) (av := [tR (r14), tI (p1), tI (p2)]) C (c_X2_hoursTo hE hvσ17) yv_X2_hoursTo ml_X8_320 ck_2 (zopt hvu16).1 rfl (rf_of (by decide)) rfl (Nat.le_of_ble_eq_true rfl) dX8_soonest_37 ?_
      refine g_istore (lm' := [(4, tI (v18)), (0, tR (some (h0))), (1, tI (p1)), (2, tI (p2)), (3, tI (p3))]) (pc := 40) C dX8_soonest_40 (by decide) rfl ?_
      refine g_iload_n (pc := 42) C 3 4 dX8_soonest_42 rfl rfl ?_
      refine g_iconst (v := (-1)) (pc := 43) C dX8_soonest_43 (by decide) ?_
      refine g_icmp_ne (pc := 44) C 50 dX8_soonest_44 (by decide) (fun c32 => ?_) (fun c32 => ?_)
      · have h := zif_f c32 h
        refine g_iload_n (pc := 50) C 3 4 dX8_soonest_50 rfl rfl ?_
        refine g_if_lt (pc := 51) C 84 dX8_soonest_51 (by decide) (fun c31 => ?_) (fun c31 => ?_)
        · have h := zif_t c31 h
          refine g_iconst (v := (-1)) (pc := 84) C dX8_soonest_84 (by decide) ?_
          obtain ⟨rfl, rfl⟩ := zsome h
          exact g_iret (pc := 85) C rfl hx (by rw [hxn]; rfl) (by rw [hxn]; rfl) dX8_soonest_85
        · have h := zif_f c31 h
          refine g_iload_n (pc := 54) C 3 4 dX8_soonest_54 rfl rfl ?_
          refine g_iload (pc := 55) C 0 dX8_soonest_55 rfl ?_
          refine g_icmp_ge (pc := 57) C 84 dX8_soonest_57 (by decide) (fun c30 => ?_) (fun c30 => ?_)
          · have h := zif_t c30 h
            refine g_iconst (v := (-1)) (pc := 84) C dX8_soonest_84 (by decide) ?_
            obtain ⟨rfl, rfl⟩ := zsome h
            exact g_iret (pc := 85) C rfl hx (by rw [hxn]; rfl) (by rw [hxn]; rfl) dX8_soonest_85
          · have h := zif_f c30 h
            refine g_iload_n (pc := 60) C 3 4 dX8_soonest_60 rfl rfl ?_
            refine g_aload_n (pc := 61) C 0 1 dX8_soonest_61 rfl rfl ?_
            obtain ⟨r19, hvr19, h⟩ := zbind h
            refine g_getR (N := 19) (pc := 62) C ck_8 hvr19 rfl rfl fl_X8_64 dX8_soonest_62 ?_
            obtain ⟨a20, hqa20, h9⟩ := zbind h
            clear h
            subst hqa20
            have h := h9
            clear h9
            obtain ⟨r21, hvr21, h⟩ := zbind h
            refine g_getR (N := 7) (pc := 65) C ck_2 hvr21 rfl rfl fl_X8_324 dX8_soonest_65 ?_
            obtain ⟨a22, hqa22, h9⟩ := zbind h
            clear h
            subst hqa22
            have h := h9
            clear h9
            obtain ⟨v23, hvv23, h⟩ := zbind h
            refine g_alen (c := 11) (pc := 68) C (by decide) hvv23 dX8_soonest_68 ?_
            refine g_icmp_ge (pc := 69) C 84 dX8_soonest_69 (by decide) (fun c29 => ?_) (fun c29 => ?_)
            · have h := zif_t c29 h
              refine g_iconst (v := (-1)) (pc := 84) C dX8_soonest_84 (by decide) ?_
              obtain ⟨rfl, rfl⟩ := zsome h
              exact g_iret (pc := 85) C rfl hx (by rw [hxn]; rfl) (by rw [hxn]; rfl) dX8_soonest_85
            · have h := zif_f c29 h
              refine g_aload_n (pc := 72) C 0 1 dX8_soonest_72 rfl rfl ?_
              obtain ⟨r24, hvr24, h⟩ := zbind h
              refine g_getR (N := 19) (pc := 73) C ck_8 hvr24 rfl rfl fl_X8_64 dX8_soonest_73 ?_
              obtain ⟨a25, hqa25, h9⟩ := zbind h
              clear h
              subst hqa25
              have h := h9
              clear h9
              obtain ⟨r26, hvr26, h⟩ := zbind h
              refine g_getR (N := 7) (pc := 76) C ck_2 hvr26 rfl rfl fl_X8_324 dX8_soonest_76 ?_
              refine g_iload_n (pc := 79) C 3 4 dX8_soonest_79 rfl rfl ?_
              obtain ⟨a27, hqa27, h9⟩ := zbind h
              clear h
              subst hqa27
              have h := h9
              clear h9
              obtain ⟨v28, hvv28, h⟩ := zbind h
              refine g_iald (pc := 80) C hvv28 dX8_soonest_80 ?_
              refine g_goto (pc := 81) C 85 dX8_soonest_81 (by decide) ?_
              obtain ⟨rfl, rfl⟩ := zsome h
              exact g_iret (pc := 85) C rfl hx (by rw [hxn]; rfl) (by rw [hxn]; rfl) dX8_soonest_85
      · have h := zif_t c32 h
        refine g_iload (pc := 47) C 0 dX8_soonest_47 rfl ?_
        obtain ⟨rfl, rfl⟩ := zsome h
        exact g_iret (pc := 49) C rfl hx (by rw [hxn]; rfl) (by rw [hxn]; rfl) dX8_soonest_49
    · have h := zif_t c33 h
      refine g_iconst (v := (-1)) (pc := 25) C dX8_soonest_25 (by decide) ?_
      obtain ⟨rfl, rfl⟩ := zsome h
      exact g_iret (pc := 26) C rfl hx (by rw [hxn]; rfl) (by rw [hxn]; rfl) dX8_soonest_26
def rm_X8_near : Room := { frames := 5, cells := 0, slots := 0, locals := 130 }
noncomputable def s_X8_near (h0 : Nat) (p1 : Int32) (p2 : Int32) (σ : Hp) : Option (Int32 × Hp) :=
  (rdR 8 σ h0 0).bind fun r1 =>
  (r1).bind fun a2 =>
  (ck 1 σ a2).bind fun u3 =>
  cb (s_X1_isFolk a2 (p1) σ) fun v5 σ4 =>
  if v5 = 0 then
    some (((-1)), σ4)
  else
    if p2 < 0 then
      some (((-1)), σ4)
    else
      if p2 ≤ 10 then
        (rdR 8 σ4 h0 10).bind fun r6 =>
        (rdR 8 σ4 h0 0).bind fun r7 =>
        (r6).bind fun a8 =>
        (ck 2 σ4 a8).bind fun u9 =>
        cb (s_X2_drawSteps a8 (r7) (p1) σ4) fun v11 σ10 =>
        (rdR 8 σ10 h0 0).bind fun r12 =>
        (rdR 8 σ10 h0 0).bind fun r13 =>
        (r13).bind fun a14 =>
        (rdR 1 σ10 a14 0).bind fun r15 =>
        (r15).bind fun a16 =>
        (ck 3 σ10 a16).bind fun u17 =>
        cb (s_X3_all a16 σ10) fun v19 σ18 =>
        (rdR 8 σ18 h0 0).bind fun r20 =>
        (r20).bind fun a21 =>
        (rdR 1 σ18 a21 10).bind fun r22 =>
        (r22).bind fun a23 =>
        (ldI 11 σ18 a23 (0)).bind fun v24 =>
        (r12).bind fun a25 =>
        (ck 1 σ18 a25).bind fun u26 =>
        cb (s_X1_unbarred a25 (p1) (v19) (v24) σ18) fun v28 σ27 =>
        (rdR 8 σ27 h0 10).bind fun r29 =>
        (rdR 8 σ27 h0 0).bind fun r30 =>
        (r30).bind fun a31 =>
        (rdR 1 σ27 a31 3).bind fun r32 =>
        (r32).bind fun a33 =>
        (ldI 11 σ27 a33 (p1)).bind fun v34 =>
        (r29).bind fun a35 =>
        (ck 2 σ27 a35).bind fun u36 =>
        cb (s_X2_reached a35 ((1 : Int32) <<< (v34 &&& 31)) (p2) (v28) σ27) fun v38 σ37 =>
        some ((v38), σ37)
      else
        some (((-1)), σ4)
set_option maxRecDepth 100000 in
theorem c_X8_near {E : E0} (hE : EOK E) {h0 : Nat} {p1 : Int32} {p2 : Int32} {σ σ1 : Hp} {r : Int32} (h : s_X8_near h0 p1 p2 σ = some (r, σ1)) : CT E yX8_near (.code yX8_near cX8_near 4 (some .int)) rm_X8_near [tR (some (h0)), tI (p1), tI (p2)] σ (some (tI r)) σ1 := by
  refine CT.mk hE (by decide +kernel) (Nat.le_of_ble_eq_true rfl) [(0, tR (some (h0))), (1, tI (p1)), (2, tI (p2))] rfl (fun X C hin hx hxn => ?_)
  have C : XOK E X cX8_near RX8 4 (some .int) rm_X8_near := C
  unfold s_X8_near at h
  refine g_aload_n (pc := 0) C 0 0 dX8_near_0 rfl rfl ?_
  obtain ⟨r1, hvr1, h⟩ := zbind h
  refine g_getR (N := 19) (pc := 1) C ck_8 hvr1 rfl rfl fl_X8_12 dX8_near_1 ?_
  refine g_iload_n (pc := 4) C 1 1 dX8_near_4 rfl rfl ?_
  obtain ⟨a2, hqa2, h9⟩ := zbind h
  clear h
  subst hqa2
  have h := h9
  clear h9
  obtain ⟨u3, hvu3, h⟩ := zbind h
  obtain ⟨v5, σ4, hvσ4, h⟩ := zcb h
  refine g_callV (pc := 5) (av := [tI (p1)]) C (c_X1_isFolk hE hvσ4) yv_X1_isFolk ml_X8_151 ck_1 (zopt hvu3).1 rfl (rf_of (by decide)) rfl (Nat.le_of_ble_eq_true rfl) dX8_near_5 ?_
  refine g_if_eq (pc := 8) C 21 dX8_near_8 (by decide) (fun c41 => ?_) (fun c41 => ?_)
  · have h := zif_t c41 h
    refine g_iconst (v := (-1)) (pc := 21) C dX8_near_21 (by decide) ?_
    obtain ⟨rfl, rfl⟩ := zsome h
    exact g_iret (pc := 22) C rfl hx (by rw [hxn]; rfl) (by rw [hxn]; rfl) dX8_near_22
  · have h := zif_f c41 h
    refine g_iload_n (pc := 11) C 2 2 dX8_near_11 rfl rfl ?_
    refine g_if_lt (pc := 12) C 21 dX8_near_12 (by decide) (fun c40 => ?_) (fun c40 => ?_)
    · have h := zif_t c40 h
      refine g_iconst (v := (-1)) (pc := 21) C dX8_near_21 (by decide) ?_
      obtain ⟨rfl, rfl⟩ := zsome h
      exact g_iret (pc := 22) C rfl hx (by rw [hxn]; rfl) (by rw [hxn]; rfl) dX8_near_22
    · have h := zif_f c40 h
      refine g_iload_n (pc := 15) C 2 2 dX8_near_15 rfl rfl ?_
      refine g_bipush (v := 10) (pc := 16) C dX8_near_16 (by decide) ?_
      refine g_icmp_le (pc := 18) C 23 dX8_near_18 (by decide) (fun c39 => ?_) (fun c39 => ?_)
      · have h := zif_t c39 h
        refine g_aload_n (pc := 23) C 0 0 dX8_near_23 rfl rfl ?_
        obtain ⟨r6, hvr6, h⟩ := zbind h
        refine g_getR (N := 19) (pc := 24) C ck_8 hvr6 rfl rfl fl_X8_64 dX8_near_24 ?_
        refine g_aload_n (pc := 27) C 0 0 dX8_near_27 rfl rfl ?_
        obtain ⟨r7, hvr7, h⟩ := zbind h
        refine g_getR (N := 19) (pc := 28) C ck_8 hvr7 rfl rfl fl_X8_12 dX8_near_28 ?_
        refine g_iload_n (pc := 31) C 1 1 dX8_near_31 rfl rfl ?_
        obtain ⟨a8, hqa8, h9⟩ := zbind h
        clear h
        subst hqa8
        have h := h9
        clear h9
        obtain ⟨u9, hvu9, h⟩ := zbind h
        obtain ⟨v11, σ10, hvσ10, h⟩ := zcb h
        refine g_callV (pc := 32) (av := [tR (r7), tI (p1)]) C (c_X2_drawSteps hE hvσ10) yv_X2_drawSteps ml_X8_327 ck_2 (zopt hvu9).1 rfl (rf_of (by decide)) rfl (Nat.le_of_ble_eq_true rfl) dX8_near_32 ?_
        refine g_aload_n (pc := 35) C 0 0 dX8_near_35 rfl rfl ?_
        obtain ⟨r12, hvr12, h⟩ := zbind h
        refine g_getR (N := 19) (pc := 36) C ck_8 hvr12 rfl rfl fl_X8_12 dX8_near_36 ?_
        refine g_iload_n (pc := 39) C 1 1 dX8_near_39 rfl rfl ?_
        refine g_aload_n (pc := 40) C 0 0 dX8_near_40 rfl rfl ?_
        obtain ⟨r13, hvr13, h⟩ := zbind h
        refine g_getR (N := 19) (pc := 41) C ck_8 hvr13 rfl rfl fl_X8_12 dX8_near_41 ?_
        obtain ⟨a14, hqa14, h9⟩ := zbind h
        clear h
        subst hqa14
        have h := h9
        clear h9
        obtain ⟨r15, hvr15, h⟩ := zbind h
        refine g_getR (N := 20) (pc := 44) C ck_1 hvr15 rfl rfl fl_X8_103 dX8_near_44 ?_
        obtain ⟨a16, hqa16, h9⟩ := zbind h
        clear h
        subst hqa16
        have h := h9
        clear h9
        obtain ⟨u17, hvu17, h⟩ := zbind h
        obtain ⟨v19, σ18, hvσ18, h⟩ := zcb h
        refine g_callV (pc := 47) (av := []) C (c_X3_all hE hvσ18) yv_X3_all ml_X8_331 ck_3 (zopt hvu17).1 rfl (rf_of (by decide)) rfl (Nat.le_of_ble_eq_true rfl) dX8_near_47 ?_
        refine g_aload_n (pc := 50) C 0 0 dX8_near_50 rfl rfl ?_
        obtain ⟨r20, hvr20, h⟩ := zbind h
        refine g_getR (N := 19) (pc := 51) C ck_8 hvr20 rfl rfl fl_X8_12 dX8_near_51 ?_
        obtain ⟨a21, hqa21, h9⟩ := zbind h
        clear h
        subst hqa21
        have h := h9
        clear h9
        obtain ⟨r22, hvr22, h⟩ := zbind h
        refine g_getR (N := 20) (pc := 54) C ck_1 hvr22 rfl rfl fl_X8_132 dX8_near_54 ?_
        refine g_iconst (v := 0) (pc := 57) C dX8_near_57 (by decide) ?_
        obtain ⟨a23, hqa23, h9⟩ := zbind h
        clear h
        subst hqa23
        have h := h9
        clear h9
        obtain ⟨v24, hvv24, h⟩ := zbind h
        refine g_iald (pc := 58) C hvv24 dX8_near_58 ?_
        obtain ⟨a25, hqa25, h9⟩ := zbind h
        clear h
        subst hqa25
        have h := h9
        clear h9
        obtain ⟨u26, hvu26, h⟩ := zbind h
        obtain ⟨v28, σ27, hvσ27, h⟩ := zcb h
        refine g_callV (pc := 59) (av := [tI (p1), tI (v19), tI (v24)]) C (c_X1_unbarred hE hvσ27) yv_X1_unbarred ml_X8_334 ck_1 (zopt hvu26).1 rfl (rf_of (by decide)) rfl (Nat.le_of_ble_eq_true rfl) dX8_near_59 ?_
        refine g_istore_n (lm' := [(3, tI (v28)), (0, tR (some (h0))), (1, tI (p1)), (2, tI (p2))]) (pc := 62) C 3 dX8_near_62 rfl (by decide) rfl ?_
        refine g_aload_n (pc := 63) C 0 1 dX8_near_63 rfl rfl ?_
        obtain ⟨r29, hvr29, h⟩ := zbind h
        refine g_getR (N := 19) (pc := 64) C ck_8 hvr29 rfl rfl fl_X8_64 dX8_near_64 ?_
        refine g_iconst (v := 1) (pc := 67) C dX8_near_67 (by decide) ?_
        refine g_aload_n (pc := 68) C 0 1 dX8_near_68 rfl rfl ?_
        obtain ⟨r30, hvr30, h⟩ := zbind h
        refine g_getR (N := 19) (pc := 69) C ck_8 hvr30 rfl rfl fl_X8_12 dX8_near_69 ?_
        obtain ⟨a31, hqa31, h9⟩ := zbind h
        clear h
        subst hqa31
        have h := h9
        clear h9
        obtain ⟨r32, hvr32, h⟩ := zbind h
        refine g_getR (N := 20) (pc := 72) C ck_1 hvr32 rfl rfl fl_X8_148 dX8_near_72 ?_
        refine g_iload_n (pc := 75) C 1 2 dX8_near_75 rfl rfl ?_
        obtain ⟨a33, hqa33, h9⟩ := zbind h
        clear h
        subst hqa33
        have h := h9
        clear h9
        obtain ⟨v34, hvv34, h⟩ := zbind h
        refine g_iald (pc := 76) C hvv34 dX8_near_76 ?_
        refine g_ishl (pc := 77) C dX8_near_77 ?_
        refine g_iload_n (pc := 78) C 2 3 dX8_near_78 rfl rfl ?_
        refine g_iload_n (pc := 79) C 3 0 dX8_near_79 rfl rfl ?_
        obtain ⟨a35, hqa35, h9⟩ := zbind h
        clear h
        subst hqa35
        have h := h9
        clear h9
        obtain ⟨u36, hvu36, h⟩ := zbind h
        obtain ⟨v38, σ37, hvσ37, h⟩ := zcb h
        refine g_callV (pc := 80) (av := [tI ((1 : Int32) <<< (v34 &&& 31)), tI (p2), tI (v28)]) C (c_X2_reached hE hvσ37) yv_X2_reached ml_X8_337 ck_2 (zopt hvu36).1 rfl (rf_of (by decide)) rfl (Nat.le_of_ble_eq_true rfl) dX8_near_80 ?_
        obtain ⟨rfl, rfl⟩ := zsome h
        exact g_iret (pc := 83) C rfl hx (by rw [hxn]; rfl) (by rw [hxn]; rfl) dX8_near_83
      · have h := zif_f c39 h
        refine g_iconst (v := (-1)) (pc := 21) C dX8_near_21 (by decide) ?_
        obtain ⟨rfl, rfl⟩ := zsome h
        exact g_iret (pc := 22) C rfl hx (by rw [hxn]; rfl) (by rw [hxn]; rfl) dX8_near_22
def rm_X8_cut : Room := { frames := 6, cells := 0, slots := 0, locals := 159 }
noncomputable def s_X8_cut (h0 : Nat) (p1 : Int32) (p2 : Int32) (p3 : Int32) (σ : Hp) : Option (Int32 × Hp) :=
  (rdR 8 σ h0 0).bind fun r1 =>
  (r1).bind fun a2 =>
  (ck 1 σ a2).bind fun u3 =>
  cb (s_X1_isFolk a2 (p1) σ) fun v5 σ4 =>
  if v5 = 0 then
    some (((-1)), σ4)
  else
    (rdR 8 σ4 h0 0).bind fun r6 =>
    (r6).bind fun a7 =>
    (rdR 1 σ4 a7 0).bind fun r8 =>
    (r8).bind fun a9 =>
    (ck 3 σ4 a9).bind fun u10 =>
    cb (s_X3_isOne a9 (p2) σ4) fun v12 σ11 =>
    if v12 = 0 then
      some (((-1)), σ11)
    else
      if p3 < 0 then
        some (((-1)), σ11)
      else
        if p3 ≤ 1 then
          (rdR 8 σ11 h0 0).bind fun r13 =>
          (r13).bind fun a14 =>
          (rdR 1 σ11 a14 3).bind fun r15 =>
          (r15).bind fun a16 =>
          (ldI 11 σ11 a16 (p1)).bind fun v17 =>
          if v17 = p2 then
            some (((-1)), σ11)
          else
            (rdR 8 σ11 h0 0).bind fun r18 =>
            (r18).bind fun a19 =>
            (ck 1 σ11 a19).bind fun u20 =>
            cb (s_X1_mayStride a19 (p1) (p2) σ11) fun v22 σ21 =>
            if v22 = 0 then
              (rdR 8 σ21 h0 10).bind fun r23 =>
              (rdR 8 σ21 h0 0).bind fun r24 =>
              (r23).bind fun a25 =>
              (ck 2 σ21 a25).bind fun u26 =>
              cb (s_X2_fewestBetween a25 (r24) (p1) (p2) σ21) fun v28 σ27 =>
              if p3 = 0 then
                cb (s_J6_bitCount_0f7a4 (v28) σ27) fun v30 σ29 =>
                some ((v30), σ29)
              else
                some ((v28), σ27)
            else
              some (((-1)), σ21)
        else
          some (((-1)), σ11)
set_option maxRecDepth 100000 in
theorem c_X8_cut {E : E0} (hE : EOK E) {h0 : Nat} {p1 : Int32} {p2 : Int32} {p3 : Int32} {σ σ1 : Hp} {r : Int32} (h : s_X8_cut h0 p1 p2 p3 σ = some (r, σ1)) : CT E yX8_cut (.code yX8_cut cX8_cut 5 (some .int)) rm_X8_cut [tR (some (h0)), tI (p1), tI (p2), tI (p3)] σ (some (tI r)) σ1 := by
  refine CT.mk hE (by decide +kernel) (Nat.le_of_ble_eq_true rfl) [(0, tR (some (h0))), (1, tI (p1)), (2, tI (p2)), (3, tI (p3))] rfl (fun X C hin hx hxn => ?_)
  have C : XOK E X cX8_cut RX8 5 (some .int) rm_X8_cut := C
  unfold s_X8_cut at h
  refine g_aload_n (pc := 0) C 0 0 dX8_cut_0 rfl rfl ?_
  obtain ⟨r1, hvr1, h⟩ := zbind h
  refine g_getR (N := 19) (pc := 1) C ck_8 hvr1 rfl rfl fl_X8_12 dX8_cut_1 ?_
  refine g_iload_n (pc := 4) C 1 1 dX8_cut_4 rfl rfl ?_
  obtain ⟨a2, hqa2, h9⟩ := zbind h
  clear h
  subst hqa2
  have h := h9
  clear h9
  obtain ⟨u3, hvu3, h⟩ := zbind h
  obtain ⟨v5, σ4, hvσ4, h⟩ := zcb h
  refine g_callV (pc := 5) (av := [tI (p1)]) C (c_X1_isFolk hE hvσ4) yv_X1_isFolk ml_X8_151 ck_1 (zopt hvu3).1 rfl (rf_of (by decide)) rfl (Nat.le_of_ble_eq_true rfl) dX8_cut_5 ?_
  refine g_if_eq (pc := 8) C 34 dX8_cut_8 (by decide) (fun c37 => ?_) (fun c37 => ?_)
  · have h := zif_t c37 h
    refine g_iconst (v := (-1)) (pc := 34) C dX8_cut_34 (by decide) ?_
    obtain ⟨rfl, rfl⟩ := zsome h
    exact g_iret (pc := 35) C rfl hx (by rw [hxn]; rfl) (by rw [hxn]; rfl) dX8_cut_35
  · have h := zif_f c37 h
    refine g_aload_n (pc := 11) C 0 0 dX8_cut_11 rfl rfl ?_
    obtain ⟨r6, hvr6, h⟩ := zbind h
    refine g_getR (N := 19) (pc := 12) C ck_8 hvr6 rfl rfl fl_X8_12 dX8_cut_12 ?_
    obtain ⟨a7, hqa7, h9⟩ := zbind h
    clear h
    subst hqa7
    have h := h9
    clear h9
    obtain ⟨r8, hvr8, h⟩ := zbind h
    refine g_getR (N := 20) (pc := 15) C ck_1 hvr8 rfl rfl fl_X8_103 dX8_cut_15 ?_
    refine g_iload_n (pc := 18) C 2 2 dX8_cut_18 rfl rfl ?_
    obtain ⟨a9, hqa9, h9⟩ := zbind h
    clear h
    subst hqa9
    have h := h9
    clear h9
    obtain ⟨u10, hvu10, h⟩ := zbind h
    obtain ⟨v12, σ11, hvσ11, h⟩ := zcb h
    refine g_callV (pc := 19) (av := [tI (p2)]) C (c_X3_isOne hE hvσ11) yv_X3_isOne ml_X8_122 ck_3 (zopt hvu10).1 rfl (rf_of (by decide)) rfl (Nat.le_of_ble_eq_true rfl) dX8_cut_19 ?_
    refine g_if_eq (pc := 22) C 34 dX8_cut_22 (by decide) (fun c36 => ?_) (fun c36 => ?_)
    · have h := zif_t c36 h
      refine g_iconst (v := (-1)) (pc := 34) C dX8_cut_34 (by decide) ?_
      obtain ⟨rfl, rfl⟩ := zsome h
      exact g_iret (pc := 35) C rfl hx (by rw [hxn]; rfl) (by rw [hxn]; rfl) dX8_cut_35
    · have h := zif_f c36 h
      refine g_iload_n (pc := 25) C 3 3 dX8_cut_25 rfl rfl ?_
      refine g_if_lt (pc := 26) C 34 dX8_cut_26 (by decide) (fun c35 => ?_) (fun c35 => ?_)
      · have h := zif_t c35 h
        refine g_iconst (v := (-1)) (pc := 34) C dX8_cut_34 (by decide) ?_
        obtain ⟨rfl, rfl⟩ := zsome h
        exact g_iret (pc := 35) C rfl hx (by rw [hxn]; rfl) (by rw [hxn]; rfl) dX8_cut_35
      · have h := zif_f c35 h
        refine g_iload_n (pc := 29) C 3 3 dX8_cut_29 rfl rfl ?_
        refine g_iconst (v := 1) (pc := 30) C dX8_cut_30 (by decide) ?_
        refine g_icmp_le (pc := 31) C 36 dX8_cut_31 (by decide) (fun c34 => ?_) (fun c34 => ?_)
        · have h := zif_t c34 h
          refine g_aload_n (pc := 36) C 0 0 dX8_cut_36 rfl rfl ?_
          obtain ⟨r13, hvr13, h⟩ := zbind h
          refine g_getR (N := 19) (pc := 37) C ck_8 hvr13 rfl rfl fl_X8_12 dX8_cut_37 ?_
          obtain ⟨a14, hqa14, h9⟩ := zbind h
          clear h
          subst hqa14
          have h := h9
          clear h9
          obtain ⟨r15, hvr15, h⟩ := zbind h
          refine g_getR (N := 20) (pc := 40) C ck_1 hvr15 rfl rfl fl_X8_148 dX8_cut_40 ?_
          refine g_iload_n (pc := 43) C 1 1 dX8_cut_43 rfl rfl ?_
          obtain ⟨a16, hqa16, h9⟩ := zbind h
          clear h
          subst hqa16
          have h := h9
          clear h9
          obtain ⟨v17, hvv17, h⟩ := zbind h
          refine g_iald (pc := 44) C hvv17 dX8_cut_44 ?_
          refine g_iload_n (pc := 45) C 2 2 dX8_cut_45 rfl rfl ?_
          refine g_icmp_eq (pc := 46) C 61 dX8_cut_46 (by decide) (fun c33 => ?_) (fun c33 => ?_)
          · have h := zif_t c33 h
            refine g_iconst (v := (-1)) (pc := 61) C dX8_cut_61 (by decide) ?_
            obtain ⟨rfl, rfl⟩ := zsome h
            exact g_iret (pc := 62) C rfl hx (by rw [hxn]; rfl) (by rw [hxn]; rfl) dX8_cut_62
          · have h := zif_f c33 h
            refine g_aload_n (pc := 49) C 0 0 dX8_cut_49 rfl rfl ?_
            obtain ⟨r18, hvr18, h⟩ := zbind h
            refine g_getR (N := 19) (pc := 50) C ck_8 hvr18 rfl rfl fl_X8_12 dX8_cut_50 ?_
            refine g_iload_n (pc := 53) C 1 1 dX8_cut_53 rfl rfl ?_
            refine g_iload_n (pc := 54) C 2 2 dX8_cut_54 rfl rfl ?_
            obtain ⟨a19, hqa19, h9⟩ := zbind h
            clear h
            subst hqa19
            have h := h9
            clear h9
            obtain ⟨u20, hvu20, h⟩ := zbind h
            obtain ⟨v22, σ21, hvσ21, h⟩ := zcb h
            refine g_callV (pc := 55) (av := [tI (p1), tI (p2)]) C (c_X1_mayStride hE hvσ21) yv_X1_mayStride ml_X8_203 ck_1 (zopt hvu20).1 rfl (rf_of (by decide)) rfl (Nat.le_of_ble_eq_true rfl) dX8_cut_55 ?_
            refine g_if_eq (pc := 58) C 63 dX8_cut_58 (by decide) (fun c32 => ?_) (fun c32 => ?_)
            · have h := zif_t c32 h
              refine g_aload_n (pc := 63) C 0 0 dX8_cut_63 rfl rfl ?_
              obtain ⟨r23, hvr23, h⟩ := zbind h
              refine g_getR (N := 19) (pc := 64) C ck_8 hvr23 rfl rfl fl_X8_64 dX8_cut_64 ?_
              refine g_aload_n (pc := 67) C 0 0 dX8_cut_67 rfl rfl ?_
              obtain ⟨r24, hvr24, h⟩ := zbind h
              refine g_getR (N := 19) (pc := 68) C ck_8 hvr24 rfl rfl fl_X8_12 dX8_cut_68 ?_
              refine g_iload_n (pc := 71) C 1 1 dX8_cut_71 rfl rfl ?_
              refine g_iload_n (pc := 72) C 2 2 dX8_cut_72 rfl rfl ?_
              obtain ⟨a25, hqa25, h9⟩ := zbind h
              clear h
              subst hqa25
              have h := h9
              clear h9
              obtain ⟨u26, hvu26, h⟩ := zbind h
              obtain ⟨v28, σ27, hvσ27, h⟩ := zcb h
              refine g_callV (pc := 73) (av := [tR (r24), tI (p1), tI (p2)]) C (c_X2_fewestBetween hE hvσ27) yv_X2_fewestBetween ml_X8_340 ck_2 (zopt hvu26).1 rfl (rf_of (by decide)) rfl (Nat.le_of_ble_eq_true rfl) dX8_cut_73 ?_
              refine g_istore (lm' := [(4, tI (v28)), (0, tR (some (h0))), (1, tI (p1)), (2, tI (p2)), (3, tI (p3))]) (pc := 76) C dX8_cut_76 (by decide) rfl ?_
              refine g_iload_n (pc := 78) C 3 4 dX8_cut_78 rfl rfl ?_
              refine g_if_ne (pc := 79) C 90 dX8_cut_79 (by decide) (fun c31 => ?_) (fun c31 => ?_)
              · have h := zif_f c31 h
                refine g_iload (pc := 90) C 0 dX8_cut_90 rfl ?_
                obtain ⟨rfl, rfl⟩ := zsome h
                exact g_iret (pc := 92) C rfl hx (by rw [hxn]; rfl) (by rw [hxn]; rfl) dX8_cut_92
              · have h := zif_t c31 h
                refine g_iload (pc := 82) C 0 dX8_cut_82 rfl ?_
                obtain ⟨v30, σ29, hvσ29, h⟩ := zcb h
                refine g_callS (pc := 84) (av := [tI (v28)]) C (c_J6_bitCount_0f7a4 hE hvσ29) ys_J6_bitCount_0f7a4 ml_X8_343 rfl (rf_of (by decide)) rfl (Nat.le_of_ble_eq_true rfl) dX8_cut_84 ?_
                refine g_goto (pc := 87) C 92 dX8_cut_87 (by decide) ?_
                obtain ⟨rfl, rfl⟩ := zsome h
                exact g_iret (pc := 92) C rfl hx (by rw [hxn]; rfl) (by rw [hxn]; rfl) dX8_cut_92
            · have h := zif_f c32 h
              refine g_iconst (v := (-1)) (pc := 61) C dX8_cut_61 (by decide) ?_
              obtain ⟨rfl, rfl⟩ := zsome h
              exact g_iret (pc := 62) C rfl hx (by rw [hxn]; rfl) (by rw [hxn]; rfl) dX8_cut_62
        · have h := zif_f c34 h
          refine g_iconst (v := (-1)) (pc := 34) C dX8_cut_34 (by decide) ?_
          obtain ⟨rfl, rfl⟩ := zsome h
          exact g_iret (pc := 35) C rfl hx (by rw [hxn]; rfl) (by rw [hxn]; rfl) dX8_cut_35
def rm_X8_roost : Room := { frames := 6, cells := 0, slots := 0, locals := 158 }
noncomputable def s_X8_roost (h0 : Nat) (p1 : Int32) (σ : Hp) : Option (Int32 × Hp) :=
  (rdR 8 σ h0 0).bind fun r1 =>
  (r1).bind fun a2 =>
  (ck 1 σ a2).bind fun u3 =>
  cb (s_X1_isFolk a2 (p1) σ) fun v5 σ4 =>
  if v5 = 0 then
    some (((-1)), σ4)
  else
    (rdR 8 σ4 h0 10).bind fun r6 =>
    (rdR 8 σ4 h0 0).bind fun r7 =>
    (r6).bind fun a8 =>
    (ck 2 σ4 a8).bind fun u9 =>
    cb (s_X2_nearestRoost a8 (r7) (p1) σ4) fun v11 σ10 =>
    some ((v11), σ10)
set_option maxRecDepth 100000 in
theorem c_X8_roost {E : E0} (hE : EOK E) {h0 : Nat} {p1 : Int32} {σ σ1 : Hp} {r : Int32} (h : s_X8_roost h0 p1 σ = some (r, σ1)) : CT E yX8_roost (.code yX8_roost cX8_roost 2 (some .int)) rm_X8_roost [tR (some (h0)), tI (p1)] σ (some (tI r)) σ1 := by
  refine CT.mk hE (by decide +kernel) (Nat.le_of_ble_eq_true rfl) [(0, tR (some (h0))), (1, tI (p1))] rfl (fun X C hin hx hxn => ?_)
  have C : XOK E X cX8_roost RX8 2 (some .int) rm_X8_roost := C
  unfold s_X8_roost at h
  refine g_aload_n (pc := 0) C 0 0 dX8_roost_0 rfl rfl ?_
  obtain ⟨r1, hvr1, h⟩ := zbind h
  refine g_getR (N := 19) (pc := 1) C ck_8 hvr1 rfl rfl fl_X8_12 dX8_roost_1 ?_
  refine g_iload_n (pc := 4) C 1 1 dX8_roost_4 rfl rfl ?_
  obtain ⟨a2, hqa2, h9⟩ := zbind h
  clear h
  subst hqa2
  have h := h9
  clear h9
  obtain ⟨u3, hvu3, h⟩ := zbind h
  obtain ⟨v5, σ4, hvσ4, h⟩ := zcb h
  refine g_callV (pc := 5) (av := [tI (p1)]) C (c_X1_isFolk hE hvσ4) yv_X1_isFolk ml_X8_151 ck_1 (zopt hvu3).1 rfl (rf_of (by decide)) rfl (Nat.le_of_ble_eq_true rfl) dX8_roost_5 ?_
  refine g_if_eq (pc := 8) C 26 dX8_roost_8 (by decide) (fun c12 => ?_) (fun c12 => ?_)
  · have h := zif_t c12 h
    refine g_iconst (v := (-1)) (pc := 26) C dX8_roost_26 (by decide) ?_
    obtain ⟨rfl, rfl⟩ := zsome h
    exact g_iret (pc := 27) C rfl hx (by rw [hxn]; rfl) (by rw [hxn]; rfl) dX8_roost_27
  · have h := zif_f c12 h
    refine g_aload_n (pc := 11) C 0 0 dX8_roost_11 rfl rfl ?_
    obtain ⟨r6, hvr6, h⟩ := zbind h
    refine g_getR (N := 19) (pc := 12) C ck_8 hvr6 rfl rfl fl_X8_64 dX8_roost_12 ?_
    refine g_aload_n (pc := 15) C 0 0 dX8_roost_15 rfl rfl ?_
    obtain ⟨r7, hvr7, h⟩ := zbind h
    refine g_getR (N := 19) (pc := 16) C ck_8 hvr7 rfl rfl fl_X8_12 dX8_roost_16 ?_
    refine g_iload_n (pc := 19) C 1 1 dX8_roost_19 rfl rfl ?_
    obtain ⟨a8, hqa8, h9⟩ := zbind h
    clear h
    subst hqa8
    have h := h9
    clear h9
    obtain ⟨u9, hvu9, h⟩ := zbind h
    obtain ⟨v11, σ10, hvσ10, h⟩ := zcb h
    refine g_callV (pc := 20) (av := [tR (r7), tI (p1)]) C (c_X2_nearestRoost hE hvσ10) yv_X2_nearestRoost ml_X8_348 ck_2 (zopt hvu9).1 rfl (rf_of (by decide)) rfl (Nat.le_of_ble_eq_true rfl) dX8_roost_20 ?_
    refine g_goto (pc := 23) C 27 dX8_roost_23 (by decide) ?_
    obtain ⟨rfl, rfl⟩ := zsome h
    exact g_iret (pc := 27) C rfl hx (by rw [hxn]; rfl) (by rw [hxn]; rfl) dX8_roost_27
def rm_X8_where : Room := { frames := 5, cells := 0, slots := 0, locals := 134 }
noncomputable def s_X8_where (h0 : Nat) (p1 : Int32) (p2 : Int32) (σ : Hp) : Option (Int32 × Hp) :=
  (rdR 8 σ h0 0).bind fun r1 =>
  (r1).bind fun a2 =>
  (ck 1 σ a2).bind fun u3 =>
  cb (s_X1_isBadger a2 (p1) σ) fun v5 σ4 =>
  if v5 = 0 then
    some (((-1)), σ4)
  else
    if p2 < 0 then
      some (((-1)), σ4)
    else
      if p2 ≤ 60 then
        (rdR 8 σ4 h0 10).bind fun r6 =>
        (rdR 8 σ4 h0 0).bind fun r7 =>
        (r6).bind fun a8 =>
        (ck 2 σ4 a8).bind fun u9 =>
        cb (s_X2_drawTrack a8 (r7) (p1) σ4) fun v11 σ10 =>
        (rdR 8 σ10 h0 10).bind fun r12 =>
        (r12).bind fun a13 =>
        (rdR 2 σ10 a13 1).bind fun r14 =>
        (r14).bind fun a15 =>
        (ldR 16 σ10 a15 (p1)).bind fun r16 =>
        (r16).bind fun a17 =>
        (ldI 11 σ10 a17 (p2)).bind fun v18 =>
        some ((v18), σ10)
      else
        some (((-1)), σ4)
set_option maxRecDepth 100000 in
theorem c_X8_where {E : E0} (hE : EOK E) {h0 : Nat} {p1 : Int32} {p2 : Int32} {σ σ1 : Hp} {r : Int32} (h : s_X8_where h0 p1 p2 σ = some (r, σ1)) : CT E yX8_where (.code yX8_where cX8_where 3 (some .int)) rm_X8_where [tR (some (h0)), tI (p1), tI (p2)] σ (some (tI r)) σ1 := by
  refine CT.mk hE (by decide +kernel) (Nat.le_of_ble_eq_true rfl) [(0, tR (some (h0))), (1, tI (p1)), (2, tI (p2))] rfl (fun X C hin hx hxn => ?_)
  have C : XOK E X cX8_where RX8 3 (some .int) rm_X8_where := C
  unfold s_X8_where at h
  refine g_aload_n (pc := 0) C 0 0 dX8_where_0 rfl rfl ?_
  obtain ⟨r1, hvr1, h⟩ := zbind h
  refine g_getR (N := 19) (pc := 1) C ck_8 hvr1 rfl rfl fl_X8_12 dX8_where_1 ?_
  refine g_iload_n (pc := 4) C 1 1 dX8_where_4 rfl rfl ?_
  obtain ⟨a2, hqa2, h9⟩ := zbind h
  clear h
  subst hqa2
  have h := h9
  clear h9
  obtain ⟨u3, hvu3, h⟩ := zbind h
  obtain ⟨v5, σ4, hvσ4, h⟩ := zcb h
  refine g_callV (pc := 5) (av := [tI (p1)]) C (c_X1_isBadger hE hvσ4) yv_X1_isBadger ml_X8_160 ck_1 (zopt hvu3).1 rfl (rf_of (by decide)) rfl (Nat.le_of_ble_eq_true rfl) dX8_where_5 ?_
  refine g_if_eq (pc := 8) C 21 dX8_where_8 (by decide) (fun c21 => ?_) (fun c21 => ?_)
  · have h := zif_t c21 h
    refine g_iconst (v := (-1)) (pc := 21) C dX8_where_21 (by decide) ?_
    obtain ⟨rfl, rfl⟩ := zsome h
    exact g_iret (pc := 22) C rfl hx (by rw [hxn]; rfl) (by rw [hxn]; rfl) dX8_where_22
  · have h := zif_f c21 h
    refine g_iload_n (pc := 11) C 2 2 dX8_where_11 rfl rfl ?_
    refine g_if_lt (pc := 12) C 21 dX8_where_12 (by decide) (fun c20 => ?_) (fun c20 => ?_)
    · have h := zif_t c20 h
      refine g_iconst (v := (-1)) (pc := 21) C dX8_where_21 (by decide) ?_
      obtain ⟨rfl, rfl⟩ := zsome h
      exact g_iret (pc := 22) C rfl hx (by rw [hxn]; rfl) (by rw [hxn]; rfl) dX8_where_22
    · have h := zif_f c20 h
      refine g_iload_n (pc := 15) C 2 2 dX8_where_15 rfl rfl ?_
      refine g_bipush (v := 60) (pc := 16) C dX8_where_16 (by decide) ?_
      refine g_icmp_le (pc := 18) C 23 dX8_where_18 (by decide) (fun c19 => ?_) (fun c19 => ?_)
      · have h := zif_t c19 h
        refine g_aload_n (pc := 23) C 0 0 dX8_where_23 rfl rfl ?_
        obtain ⟨r6, hvr6, h⟩ := zbind h
        refine g_getR (N := 19) (pc := 24) C ck_8 hvr6 rfl rfl fl_X8_64 dX8_where_24 ?_
        refine g_aload_n (pc := 27) C 0 0 dX8_where_27 rfl rfl ?_
        obtain ⟨r7, hvr7, h⟩ := zbind h
        refine g_getR (N := 19) (pc := 28) C ck_8 hvr7 rfl rfl fl_X8_12 dX8_where_28 ?_
        refine g_iload_n (pc := 31) C 1 1 dX8_where_31 rfl rfl ?_
        obtain ⟨a8, hqa8, h9⟩ := zbind h
        clear h
        subst hqa8
        have h := h9
        clear h9
        obtain ⟨u9, hvu9, h⟩ := zbind h
        obtain ⟨v11, σ10, hvσ10, h⟩ := zcb h
        refine g_callV (pc := 32) (av := [tR (r7), tI (p1)]) C (c_X2_drawTrack hE hvσ10) yv_X2_drawTrack ml_X8_352 ck_2 (zopt hvu9).1 rfl (rf_of (by decide)) rfl (Nat.le_of_ble_eq_true rfl) dX8_where_32 ?_
        refine g_aload_n (pc := 35) C 0 0 dX8_where_35 rfl rfl ?_
        obtain ⟨r12, hvr12, h⟩ := zbind h
        refine g_getR (N := 19) (pc := 36) C ck_8 hvr12 rfl rfl fl_X8_64 dX8_where_36 ?_
        obtain ⟨a13, hqa13, h9⟩ := zbind h
        clear h
        subst hqa13
        have h := h9
        clear h9
        obtain ⟨r14, hvr14, h⟩ := zbind h
        refine g_getR (N := 7) (pc := 39) C ck_2 hvr14 rfl rfl fl_X8_355 dX8_where_39 ?_
        refine g_iload_n (pc := 42) C 1 1 dX8_where_42 rfl rfl ?_
        obtain ⟨a15, hqa15, h9⟩ := zbind h
        clear h
        subst hqa15
        have h := h9
        clear h9
        obtain ⟨r16, hvr16, h⟩ := zbind h
        refine g_aald16 (pc := 43) C hvr16 dX8_where_43 ?_
        refine g_iload_n (pc := 44) C 2 2 dX8_where_44 rfl rfl ?_
        obtain ⟨a17, hqa17, h9⟩ := zbind h
        clear h
        subst hqa17
        have h := h9
        clear h9
        obtain ⟨v18, hvv18, h⟩ := zbind h
        refine g_iald (pc := 45) C hvv18 dX8_where_45 ?_
        obtain ⟨rfl, rfl⟩ := zsome h
        exact g_iret (pc := 46) C rfl hx (by rw [hxn]; rfl) (by rw [hxn]; rfl) dX8_where_46
      · have h := zif_f c19 h
        refine g_iconst (v := (-1)) (pc := 21) C dX8_where_21 (by decide) ?_
        obtain ⟨rfl, rfl⟩ := zsome h
        exact g_iret (pc := 22) C rfl hx (by rw [hxn]; rfl) (by rw [hxn]; rfl) dX8_where_22
def rm_X8_meeting : Room := { frames := 5, cells := 0, slots := 0, locals := 134 }
noncomputable def s_X8_meeting_b59 (h0 : Nat) (l2 : Int32) (l3 : Int32) (l4 : Int32) (σ : Hp) : Option (((Nat × Int32 × Int32 × Int32) ⊕ (Int32)) × Hp) :=
  if 60 < l4 then
    some (Sum.inr ((-1)), σ)
  else
    (rdR 8 σ h0 10).bind fun r1 =>
    (r1).bind fun a2 =>
    (rdR 2 σ a2 1).bind fun r3 =>
    (r3).bind fun a4 =>
    (ldR 16 σ a4 (l2)).bind fun r5 =>
    (r5).bind fun a6 =>
    (ldI 11 σ a6 (l4)).bind fun v7 =>
    if v7 = l3 then
      some (Sum.inr (l4), σ)
    else
      some (Sum.inl ((h0), (l2), (l3), (l4 + 1)), σ)
noncomputable def s_X8_meeting_l59 : (Nat × Int32 × Int32 × Int32) → Hp → Option ((Int32) × Hp) := loopF (fun v => s_X8_meeting_b59 (v.1) (v.2.1) (v.2.2.1) (v.2.2.2))
set_option maxRecDepth 100000 in
theorem w_X8_meeting_b59 {E : E0} (hE : EOK E) {X : X0} (C : XOK E X cX8_meeting RX8 5 (some .int) rm_X8_meeting) (hxn : xn X = (rm_X8_meeting.cells, rm_X8_meeting.slots)) {KE : (Int32) → Hp → Prop} (e_ret : ∀ (r : Int32) (σ : Hp), KE (r) σ → xd X = (some (tI r), σ)) (h0 : Nat) (l2 : Int32) (l3 : Int32) (l4 : Int32) (σ : Hp) (x : (Nat × Int32 × Int32 × Int32) ⊕ (Int32)) (σ1 : Hp) (h : s_X8_meeting_b59 h0 l2 l3 l4 σ = some (x, σ1)) (hI : ∀ v, x = Sum.inl v → (fun (v : Nat × Int32 × Int32 × Int32) (σ : Hp) => G E X 0 0 59 [(0, tR (some ((v.1)))), (2, tI ((v.2.1))), (3, tI ((v.2.2.1))), (4, tI ((v.2.2.2)))] [] σ) v σ1) (hO : ∀ e, x = Sum.inr e → KE e σ1) : G E X 0 0 59 [(0, tR (some (h0))), (2, tI (l2)), (3, tI (l3)), (4, tI (l4))] [] σ := by
  unfold s_X8_meeting_b59 at h
  refine g_iload (pc := 59) C 3 dX8_meeting_59 rfl ?_
  refine g_bipush (v := 60) (pc := 61) C dX8_meeting_61 (by decide) ?_
  refine g_icmp_gt (pc := 63) C 91 dX8_meeting_63 (by decide) (fun c9 => ?_) (fun c9 => ?_)
  · have h := zif_t c9 h
    refine g_iconst (v := (-1)) (pc := 91) C dX8_meeting_91 (by decide) ?_
    obtain ⟨rfl, rfl⟩ := zsome h
    exact g_iret (pc := 92) C rfl (e_ret _ _ (hO _ rfl)) (by rw [hxn]; rfl) (by rw [hxn]; rfl) dX8_meeting_92
  · have h := zif_f c9 h
    refine g_aload_n (pc := 66) C 0 0 dX8_meeting_66 rfl rfl ?_
    obtain ⟨r1, hvr1, h⟩ := zbind h
    refine g_getR (N := 19) (pc := 67) C ck_8 hvr1 rfl rfl fl_X8_64 dX8_meeting_67 ?_
    obtain ⟨a2, hqa2, h9⟩ := zbind h
    clear h
    subst hqa2
    have h := h9
    clear h9
    obtain ⟨r3, hvr3, h⟩ := zbind h
    refine g_getR (N := 7) (pc := 70) C ck_2 hvr3 rfl rfl fl_X8_355 dX8_meeting_70 ?_
    refine g_iload_n (pc := 73) C 2 1 dX8_meeting_73 rfl rfl ?_
    obtain ⟨a4, hqa4, h9⟩ := zbind h
    clear h
    subst hqa4
    have h := h9
    clear h9
    obtain ⟨r5, hvr5, h⟩ := zbind h
    refine g_aald16 (pc := 74) C hvr5 dX8_meeting_74 ?_
    refine g_iload (pc := 75) C 3 dX8_meeting_75 rfl ?_
    obtain ⟨a6, hqa6, h9⟩ := zbind h
    clear h
    subst hqa6
    have h := h9
    clear h9
    obtain ⟨v7, hvv7, h⟩ := zbind h
    refine g_iald (pc := 77) C hvv7 dX8_meeting_77 ?_
    refine g_iload_n (pc := 78) C 3 2 dX8_meeting_78 rfl rfl ?_
    refine g_icmp_ne (pc := 79) C 85 dX8_meeting_79 (by decide) (fun c8 => ?_) (fun c8 => ?_)
    · have h := zif_f c8 h
      refine g_iinc (lm' := [(4, tI (l4 + 1)), (0, tR (some (h0))), (2, tI (l2)), (3, tI (l3))]) (v := l4 + 1) (pc := 85) C 3 dX8_meeting_85 rfl rfl (by decide) rfl ?_
      refine g_goto (pc := 88) C 59 dX8_meeting_88 (by decide) ?_
      refine g_sub [1, 2, 3, 0] (lm' := [(0, tR (some (h0))), (2, tI (l2)), (3, tI (l3)), (4, tI (l4 + 1))]) rfl ?_
      obtain ⟨rfl, rfl⟩ := zsome h
      exact hI _ rfl
    · have h := zif_t c8 h
      refine g_iload (pc := 82) C 3 dX8_meeting_82 rfl ?_
      obtain ⟨rfl, rfl⟩ := zsome h
      exact g_iret (pc := 84) C rfl (e_ret _ _ (hO _ rfl)) (by rw [hxn]; rfl) (by rw [hxn]; rfl) dX8_meeting_84
theorem w_X8_meeting_l59 {E : E0} (hE : EOK E) {X : X0} (C : XOK E X cX8_meeting RX8 5 (some .int) rm_X8_meeting) (hxn : xn X = (rm_X8_meeting.cells, rm_X8_meeting.slots)) {KE : (Int32) → Hp → Prop} (e_ret : ∀ (r : Int32) (σ : Hp), KE (r) σ → xd X = (some (tI r), σ)) {v : Nat × Int32 × Int32 × Int32} {σ : Hp} {e : Int32} {σ1 : Hp} (h : s_X8_meeting_l59 v σ = some (e, σ1)) (hO : KE e σ1) : G E X 0 0 59 [(0, tR (some ((v.1)))), (2, tI ((v.2.1))), (3, tI ((v.2.2.1))), (4, tI ((v.2.2.2)))] [] σ := loopF_ind (P := fun (v : Nat × Int32 × Int32 × Int32) (σ : Hp) => G E X 0 0 59 [(0, tR (some ((v.1)))), (2, tI ((v.2.1))), (3, tI ((v.2.2.1))), (4, tI ((v.2.2.2)))] [] σ) (KE := KE) (fun v σ x σ1 h hI hO => w_X8_meeting_b59 hE C hxn e_ret (v.1) (v.2.1) (v.2.2.1) (v.2.2.2) σ x σ1 h hI hO) v σ e σ1 h hO
noncomputable def s_X8_meeting (h0 : Nat) (p1 : Int32) (p2 : Int32) (σ : Hp) : Option (Int32 × Hp) :=
  (rdR 8 σ h0 0).bind fun r1 =>
  (r1).bind fun a2 =>
  (ck 1 σ a2).bind fun u3 =>
  cb (s_X1_isFolk a2 (p1) σ) fun v5 σ4 =>
  if v5 = 0 then
    some (((-1)), σ4)
  else
    (rdR 8 σ4 h0 0).bind fun r6 =>
    (r6).bind fun a7 =>
    (ck 1 σ4 a7).bind fun u8 =>
    cb (s_X1_isBadger a7 (p2) σ4) fun v10 σ9 =>
    if v10 = 0 then
      some (((-1)), σ9)
    else
      (rdR 8 σ9 h0 10).bind fun r11 =>
      (rdR 8 σ9 h0 0).bind fun r12 =>
      (r11).bind fun a13 =>
      (ck 2 σ9 a13).bind fun u14 =>
      cb (s_X2_drawTrack a13 (r12) (p2) σ9) fun v16 σ15 =>
      (rdR 8 σ15 h0 0).bind fun r17 =>
      (r17).bind fun a18 =>
      (rdR 1 σ15 a18 0).bind fun r19 =>
      (rdR 8 σ15 h0 0).bind fun r20 =>
      (r20).bind fun a21 =>
      (rdR 1 σ15 a21 3).bind fun r22 =>
      (r22).bind fun a23 =>
      (ldI 11 σ15 a23 (p1)).bind fun v24 =>
      (r19).bind fun a25 =>
      (ck 3 σ15 a25).bind fun u26 =>
      cb (s_X3_roomOf a25 (v24) σ15) fun v28 σ27 =>
      cb (s_X8_meeting_l59 ((h0), (p2), (v28), (0)) σ27) fun r30 σ31 =>
      some (r30, σ31)
set_option maxRecDepth 100000 in
theorem c_X8_meeting {E : E0} (hE : EOK E) {h0 : Nat} {p1 : Int32} {p2 : Int32} {σ σ1 : Hp} {r : Int32} (h : s_X8_meeting h0 p1 p2 σ = some (r, σ1)) : CT E yX8_meeting (.code yX8_meeting cX8_meeting 5 (some .int)) rm_X8_meeting [tR (some (h0)), tI (p1), tI (p2)] σ (some (tI r)) σ1 := by
  refine CT.mk hE (by decide +kernel) (Nat.le_of_ble_eq_true rfl) [(0, tR (some (h0))), (1, tI (p1)), (2, tI (p2))] rfl (fun X C hin hx hxn => ?_)
  have C : XOK E X cX8_meeting RX8 5 (some .int) rm_X8_meeting := C
  unfold s_X8_meeting at h
  refine g_aload_n (pc := 0) C 0 0 dX8_meeting_0 rfl rfl ?_
  obtain ⟨r1, hvr1, h⟩ := zbind h
  refine g_getR (N := 19) (pc := 1) C ck_8 hvr1 rfl rfl fl_X8_12 dX8_meeting_1 ?_
  refine g_iload_n (pc := 4) C 1 1 dX8_meeting_4 rfl rfl ?_
  obtain ⟨a2, hqa2, h9⟩ := zbind h
  clear h
  subst hqa2
  have h := h9
  clear h9
  obtain ⟨u3, hvu3, h⟩ := zbind h
  obtain ⟨v5, σ4, hvσ4, h⟩ := zcb h
  refine g_callV (pc := 5) (av := [tI (p1)]) C (c_X1_isFolk hE hvσ4) yv_X1_isFolk ml_X8_151 ck_1 (zopt hvu3).1 rfl (rf_of (by decide)) rfl (Nat.le_of_ble_eq_true rfl) dX8_meeting_5 ?_
  refine g_if_eq (pc := 8) C 22 dX8_meeting_8 (by decide) (fun c34 => ?_) (fun c34 => ?_)
  · have h := zif_t c34 h
    refine g_iconst (v := (-1)) (pc := 22) C dX8_meeting_22 (by decide) ?_
    obtain ⟨rfl, rfl⟩ := zsome h
    exact g_iret (pc := 23) C rfl hx (by rw [hxn]; rfl) (by rw [hxn]; rfl) dX8_meeting_23
  · have h := zif_f c34 h
    refine g_aload_n (pc := 11) C 0 0 dX8_meeting_11 rfl rfl ?_
    obtain ⟨r6, hvr6, h⟩ := zbind h
    refine g_getR (N := 19) (pc := 12) C ck_8 hvr6 rfl rfl fl_X8_12 dX8_meeting_12 ?_
    refine g_iload_n (pc := 15) C 2 2 dX8_meeting_15 rfl rfl ?_
    obtain ⟨a7, hqa7, h9⟩ := zbind h
    clear h
    subst hqa7
    have h := h9
    clear h9
    obtain ⟨u8, hvu8, h⟩ := zbind h
    obtain ⟨v10, σ9, hvσ9, h⟩ := zcb h
    refine g_callV (pc := 16) (av := [tI (p2)]) C (c_X1_isBadger hE hvσ9) yv_X1_isBadger ml_X8_160 ck_1 (zopt hvu8).1 rfl (rf_of (by decide)) rfl (Nat.le_of_ble_eq_true rfl) dX8_meeting_16 ?_
    refine g_if_ne (pc := 19) C 24 dX8_meeting_19 (by decide) (fun c33 => ?_) (fun c33 => ?_)
    · have h := zif_f c33 h
      refine g_aload_n (pc := 24) C 0 0 dX8_meeting_24 rfl rfl ?_
      obtain ⟨r11, hvr11, h⟩ := zbind h
      refine g_getR (N := 19) (pc := 25) C ck_8 hvr11 rfl rfl fl_X8_64 dX8_meeting_25 ?_
      refine g_aload_n (pc := 28) C 0 0 dX8_meeting_28 rfl rfl ?_
      obtain ⟨r12, hvr12, h⟩ := zbind h
      refine g_getR (N := 19) (pc := 29) C ck_8 hvr12 rfl rfl fl_X8_12 dX8_meeting_29 ?_
      refine g_iload_n (pc := 32) C 2 2 dX8_meeting_32 rfl rfl ?_
      obtain ⟨a13, hqa13, h9⟩ := zbind h
      clear h
      subst hqa13
      have h := h9
      clear h9
      obtain ⟨u14, hvu14, h⟩ := zbind h
      obtain ⟨v16, σ15, hvσ15, h⟩ := zcb h
      refine g_callV (pc := 33) (av := [tR (r12), tI (p2)]) C (c_X2_drawTrack hE hvσ15) yv_X2_drawTrack ml_X8_352 ck_2 (zopt hvu14).1 rfl (rf_of (by decide)) rfl (Nat.le_of_ble_eq_true rfl) dX8_meeting_33 ?_
      refine g_aload_n (pc := 36) C 0 0 dX8_meeting_36 rfl rfl ?_
      obtain ⟨r17, hvr17, h⟩ := zbind h
      refine g_getR (N := 19) (pc := 37) C ck_8 hvr17 rfl rfl fl_X8_12 dX8_meeting_37 ?_
      obtain ⟨a18, hqa18, h9⟩ := zbind h
      clear h
      subst hqa18
      have h := h9
      clear h9
      obtain ⟨r19, hvr19, h⟩ := zbind h
      refine g_getR (N := 20) (pc := 40) C ck_1 hvr19 rfl rfl fl_X8_103 dX8_meeting_40 ?_
      refine g_aload_n (pc := 43) C 0 0 dX8_meeting_43 rfl rfl ?_
      obtain ⟨r20, hvr20, h⟩ := zbind h
      refine g_getR (N := 19) (pc := 44) C ck_8 hvr20 rfl rfl fl_X8_12 dX8_meeting_44 ?_
      obtain ⟨a21, hqa21, h9⟩ := zbind h
      clear h
      subst hqa21
      have h := h9
      clear h9
      obtain ⟨r22, hvr22, h⟩ := zbind h
      refine g_getR (N := 20) (pc := 47) C ck_1 hvr22 rfl rfl fl_X8_148 dX8_meeting_47 ?_
      refine g_iload_n (pc := 50) C 1 1 dX8_meeting_50 rfl rfl ?_
      obtain ⟨a23, hqa23, h9⟩ := zbind h
      clear h
      subst hqa23
      have h := h9
      clear h9
      obtain ⟨v24, hvv24, h⟩ := zbind h
      refine g_iald (pc := 51) C hvv24 dX8_meeting_51 ?_
      obtain ⟨a25, hqa25, h9⟩ := zbind h
      clear h
      subst hqa25
      have h := h9
      clear h9
      obtain ⟨u26, hvu26, h⟩ := zbind h
      obtain ⟨v28, σ27, hvσ27, h⟩ := zcb h
      refine g_callV (pc := 52) (av := [tI (v24)]) C (c_X3_roomOf hE hvσ27) yv_X3_roomOf ml_X8_126 ck_3 (zopt hvu26).1 rfl (rf_of (by decide)) rfl (Nat.le_of_ble_eq_true rfl) dX8_meeting_52 ?_
      refine g_istore_n (lm' := [(3, tI (v28)), (0, tR (some (h0))), (1, tI (p1)), (2, tI (p2))]) (pc := 55) C 3 dX8_meeting_55 rfl (by decide) rfl ?_
      refine g_iconst (v := 0) (pc := 56) C dX8_meeting_56 (by decide) ?_
      refine g_istore (lm' := [(4, tI (0)), (3, tI (v28)), (0, tR (some (h0))), (1, tI (p1)), (2, tI (p2))]) (pc := 57) C dX8_meeting_57 (by decide) rfl ?_
      refine g_sub [2, 4, 1, 0] (lm' := [(0, tR (some (h0))), (2, tI (p2)), (3, tI (v28)), (4, tI (0))]) rfl ?_
      obtain ⟨KQ, hKQ, r30, σ31, hlr30, h⟩ := zcbK h
      refine w_X8_meeting_l59 (KE := KQ) hE C hxn ?_ hlr30 h
      · intro r30 σ29 h
        have h := (hKQ _ _).mp h
        obtain ⟨rfl, rfl⟩ := zsome h
        exact hx
    · have h := zif_t c33 h
      refine g_iconst (v := (-1)) (pc := 22) C dX8_meeting_22 (by decide) ?_
      obtain ⟨rfl, rfl⟩ := zsome h
      exact g_iret (pc := 23) C rfl hx (by rw [hxn]; rfl) (by rw [hxn]; rfl) dX8_meeting_23
def rm_X8_free : Room := { frames := 4, cells := 0, slots := 0, locals := 106 }
noncomputable def s_X8_free_b12 (h0 : Nat) (l1 : Int32) (l2 : Int32) (σ : Hp) : Option (((Nat × Int32 × Int32) ⊕ (Int32)) × Hp) :=
  if 48 < l2 then
    some (Sum.inr ((-1)), σ)
  else
    (rdR 8 σ h0 0).bind fun r1 =>
    (rdR 8 σ h0 0).bind fun r2 =>
    (r2).bind fun a3 =>
    (ck 1 σ a3).bind fun u4 =>
    cb (s_X1_lawInForce a3 σ) fun r6 σ5 =>
    (rdR 8 σ5 h0 0).bind fun r7 =>
    (r7).bind fun a8 =>
    (rdR 1 σ5 a8 10).bind fun r9 =>
    (r9).bind fun a10 =>
    (ldI 11 σ5 a10 (0)).bind fun v11 =>
    (r1).bind fun a12 =>
    (ck 1 σ5 a12).bind fun u13 =>
    cb (s_X1_theirsBy a12 (r6) (l1) (v11 + l2) σ5) fun v15 σ14 =>
    if v15 = 0 then
      some (Sum.inr (l2), σ14)
    else
      some (Sum.inl ((h0), (l1), (l2 + 1)), σ14)
noncomputable def s_X8_free_l12 : (Nat × Int32 × Int32) → Hp → Option ((Int32) × Hp) := loopF (fun v => s_X8_free_b12 (v.1) (v.2.1) (v.2.2))
set_option maxRecDepth 100000 in
theorem w_X8_free_b12 {E : E0} (hE : EOK E) {X : X0} (C : XOK E X cX8_free RX8 3 (some .int) rm_X8_free) (hxn : xn X = (rm_X8_free.cells, rm_X8_free.slots)) {KE : (Int32) → Hp → Prop} (e_ret : ∀ (r : Int32) (σ : Hp), KE (r) σ → xd X = (some (tI r), σ)) (h0 : Nat) (l1 : Int32) (l2 : Int32) (σ : Hp) (x : (Nat × Int32 × Int32) ⊕ (Int32)) (σ1 : Hp) (h : s_X8_free_b12 h0 l1 l2 σ = some (x, σ1)) (hI : ∀ v, x = Sum.inl v → (fun (v : Nat × Int32 × Int32) (σ : Hp) => G E X 0 0 12 [(0, tR (some ((v.1)))), (1, tI ((v.2.1))), (2, tI ((v.2.2)))] [] σ) v σ1) (hO : ∀ e, x = Sum.inr e → KE e σ1) : G E X 0 0 12 [(0, tR (some (h0))), (1, tI (l1)), (2, tI (l2))] [] σ := by
  unfold s_X8_free_b12 at h
  refine g_iload_n (pc := 12) C 2 2 dX8_free_12 rfl rfl ?_
  refine g_bipush (v := 48) (pc := 13) C dX8_free_13 (by decide) ?_
  refine g_icmp_gt (pc := 15) C 55 dX8_free_15 (by decide) (fun c17 => ?_) (fun c17 => ?_)
  · have h := zif_t c17 h
    refine g_iconst (v := (-1)) (pc := 55) C dX8_free_55 (by decide) ?_
    obtain ⟨rfl, rfl⟩ := zsome h
    exact g_iret (pc := 56) C rfl (e_ret _ _ (hO _ rfl)) (by rw [hxn]; rfl) (by rw [hxn]; rfl) dX8_free_56
  · have h := zif_f c17 h
    refine g_aload_n (pc := 18) C 0 0 dX8_free_18 rfl rfl ?_
    obtain ⟨r1, hvr1, h⟩ := zbind h
    refine g_getR (N := 19) (pc := 19) C ck_8 hvr1 rfl rfl fl_X8_12 dX8_free_19 ?_
    refine g_aload_n (pc := 22) C 0 0 dX8_free_22 rfl rfl ?_
    obtain ⟨r2, hvr2, h⟩ := zbind h
    refine g_getR (N := 19) (pc := 23) C ck_8 hvr2 rfl rfl fl_X8_12 dX8_free_23 ?_
    obtain ⟨a3, hqa3, h9⟩ := zbind h
    clear h
    subst hqa3
    have h := h9
    clear h9
    obtain ⟨u4, hvu4, h⟩ := zbind h
    obtain ⟨r6, σ5, hvσ5, h⟩ := zcb h
    refine g_callV (pc := 26) (av := []) C (c_X1_lawInForce hE hvσ5) yv_X1_lawInForce ml_X8_189 ck_1 (zopt hvu4).1 rfl (rf_of (by decide)) rfl (Nat.le_of_ble_eq_true rfl) dX8_free_26 ?_
    refine g_iload_n (pc := 29) C 1 1 dX8_free_29 rfl rfl ?_
    refine g_aload_n (pc := 30) C 0 0 dX8_free_30 rfl rfl ?_
    obtain ⟨r7, hvr7, h⟩ := zbind h
    refine g_getR (N := 19) (pc := 31) C ck_8 hvr7 rfl rfl fl_X8_12 dX8_free_31 ?_
    obtain ⟨a8, hqa8, h9⟩ := zbind h
    clear h
    subst hqa8
    have h := h9
    clear h9
    obtain ⟨r9, hvr9, h⟩ := zbind h
    refine g_getR (N := 20) (pc := 34) C ck_1 hvr9 rfl rfl fl_X8_132 dX8_free_34 ?_
    refine g_iconst (v := 0) (pc := 37) C dX8_free_37 (by decide) ?_
    obtain ⟨a10, hqa10, h9⟩ := zbind h
    clear h
    subst hqa10
    have h := h9
    clear h9
    obtain ⟨v11, hvv11, h⟩ := zbind h
    refine g_iald (pc := 38) C hvv11 dX8_free_38 ?_
    refine g_iload_n (pc := 39) C 2 2 dX8_free_39 rfl rfl ?_
    refine g_iadd (pc := 40) C dX8_free_40 ?_
    obtain ⟨a12, hqa12, h9⟩ := zbind h
    clear h
    subst hqa12
    have h := h9
    clear h9
    obtain ⟨u13, hvu13, h⟩ := zbind h
    obtain ⟨v15, σ14, hvσ14, h⟩ := zcb h
    refine g_callV (pc := 41) (av := [tR (r6), tI (l1), tI (v11 + l2)]) C (c_X1_theirsBy hE hvσ14) yv_X1_theirsBy ml_X8_193 ck_1 (zopt hvu13).1 rfl (rf_of (by decide)) rfl (Nat.le_of_ble_eq_true rfl) dX8_free_41 ?_
    refine g_if_ne (pc := 44) C 49 dX8_free_44 (by decide) (fun c16 => ?_) (fun c16 => ?_)
    · have h := zif_f c16 h
      refine g_iinc (lm' := [(2, tI (l2 + 1)), (0, tR (some (h0))), (1, tI (l1))]) (v := l2 + 1) (pc := 49) C 2 dX8_free_49 rfl rfl (by decide) rfl ?_
      refine g_goto (pc := 52) C 12 dX8_free_52 (by decide) ?_
      refine g_sub [1, 2, 0] (lm' := [(0, tR (some (h0))), (1, tI (l1)), (2, tI (l2 + 1))]) rfl ?_
      obtain ⟨rfl, rfl⟩ := zsome h
      exact hI _ rfl
    · have h := zif_t c16 h
      refine g_iload_n (pc := 47) C 2 2 dX8_free_47 rfl rfl ?_
      obtain ⟨rfl, rfl⟩ := zsome h
      exact g_iret (pc := 48) C rfl (e_ret _ _ (hO _ rfl)) (by rw [hxn]; rfl) (by rw [hxn]; rfl) dX8_free_48
theorem w_X8_free_l12 {E : E0} (hE : EOK E) {X : X0} (C : XOK E X cX8_free RX8 3 (some .int) rm_X8_free) (hxn : xn X = (rm_X8_free.cells, rm_X8_free.slots)) {KE : (Int32) → Hp → Prop} (e_ret : ∀ (r : Int32) (σ : Hp), KE (r) σ → xd X = (some (tI r), σ)) {v : Nat × Int32 × Int32} {σ : Hp} {e : Int32} {σ1 : Hp} (h : s_X8_free_l12 v σ = some (e, σ1)) (hO : KE e σ1) : G E X 0 0 12 [(0, tR (some ((v.1)))), (1, tI ((v.2.1))), (2, tI ((v.2.2)))] [] σ := loopF_ind (P := fun (v : Nat × Int32 × Int32) (σ : Hp) => G E X 0 0 12 [(0, tR (some ((v.1)))), (1, tI ((v.2.1))), (2, tI ((v.2.2)))] [] σ) (KE := KE) (fun v σ x σ1 h hI hO => w_X8_free_b12 hE C hxn e_ret (v.1) (v.2.1) (v.2.2) σ x σ1 h hI hO) v σ e σ1 h hO
noncomputable def s_X8_free (h0 : Nat) (p1 : Int32) (σ : Hp) : Option (Int32 × Hp) :=
  cb (s_X8_isRoom (Int32.toInt64 (p1 : Int32)) σ) fun v2 σ1 =>
  if v2 = 0 then
    some (((-1)), σ1)
  else
    cb (s_X8_free_l12 ((h0), (p1), (0)) σ1) fun r4 σ5 =>
    some (r4, σ5)
set_option maxRecDepth 100000 in
theorem c_X8_free {E : E0} (hE : EOK E) {h0 : Nat} {p1 : Int32} {σ σ1 : Hp} {r : Int32} (h : s_X8_free h0 p1 σ = some (r, σ1)) : CT E yX8_free (.code yX8_free cX8_free 3 (some .int)) rm_X8_free [tR (some (h0)), tI (p1)] σ (some (tI r)) σ1 := by
  refine CT.mk hE (by decide +kernel) (Nat.le_of_ble_eq_true rfl) [(0, tR (some (h0))), (1, tI (p1))] rfl (fun X C hin hx hxn => ?_)
  have C : XOK E X cX8_free RX8 3 (some .int) rm_X8_free := C
  unfold s_X8_free at h
  refine g_iload_n (pc := 0) C 1 1 dX8_free_0 rfl rfl ?_
  refine g_i2l (pc := 1) C dX8_free_1 ?_
  obtain ⟨v2, σ1, hvσ1, h⟩ := zcb h
  refine g_callS (pc := 2) (av := [tJ (Int32.toInt64 (p1 : Int32))]) C (c_X8_isRoom hE hvσ1) ys_X8_isRoom ml_X8_95 rfl (rf_of (by decide)) rfl (Nat.le_of_ble_eq_true rfl) dX8_free_2 ?_
  refine g_if_ne (pc := 5) C 10 dX8_free_5 (by decide) (fun c7 => ?_) (fun c7 => ?_)
  · have h := zif_f c7 h
    refine g_iconst (v := 0) (pc := 10) C dX8_free_10 (by decide) ?_
    refine g_istore_n (lm' := [(2, tI (0)), (0, tR (some (h0))), (1, tI (p1))]) (pc := 11) C 2 dX8_free_11 rfl (by decide) rfl ?_
    refine g_sub [1, 2, 0] (lm' := [(0, tR (some (h0))), (1, tI (p1)), (2, tI (0))]) rfl ?_
    obtain ⟨KQ, hKQ, r4, σ5, hlr4, h⟩ := zcbK h
    refine w_X8_free_l12 (KE := KQ) hE C hxn ?_ hlr4 h
    · intro r4 σ3 h
      have h := (hKQ _ _).mp h
      obtain ⟨rfl, rfl⟩ := zsome h
      exact hx
  · have h := zif_t c7 h
    refine g_iconst (v := (-1)) (pc := 8) C dX8_free_8 (by decide) ?_
    obtain ⟨rfl, rfl⟩ := zsome h
    exact g_iret (pc := 9) C rfl hx (by rw [hxn]; rfl) (by rw [hxn]; rfl) dX8_free_9
def rm_X8_shares : Room := { frames := 2, cells := 0, slots := 0, locals := 47 }
noncomputable def s_X8_shares_j62 (h0 : Nat) (l1 : Int32) (l2 : Int32) (l3 : Int32) (l4 : Int32) (σ : Hp) : Option (((Nat × Int32 × Int32 × Int32 × Int32) ⊕ ((Int32 × Int32 × Int32))) × Hp) :=
  some (Sum.inl ((h0), (l1), (l2), (l3), (l4 + 1)), σ)
set_option maxRecDepth 100000 in
theorem w_X8_shares_j62 {E : E0} (hE : EOK E) {X : X0} (C : XOK E X cX8_shares RX8 6 (some .int) rm_X8_shares) (hxn : xn X = (rm_X8_shares.cells, rm_X8_shares.slots)) {KE : ((Int32 × Int32 × Int32)) → Hp → Prop} (e_68 : ∀ (l1 : Int32) (l2 : Int32) (l3 : Int32) (σ : Hp), KE ((l1, l2, l3)) σ → G E X 0 0 68 [(1, tI (l1)), (2, tI (l2)), (3, tI (l3))] [] σ) (h0 : Nat) (l1 : Int32) (l2 : Int32) (l3 : Int32) (l4 : Int32) (σ : Hp) (x : (Nat × Int32 × Int32 × Int32 × Int32) ⊕ ((Int32 × Int32 × Int32))) (σ1 : Hp) (h : s_X8_shares_j62 h0 l1 l2 l3 l4 σ = some (x, σ1)) (hI : ∀ v, x = Sum.inl v → (fun (v : Nat × Int32 × Int32 × Int32 × Int32) (σ : Hp) => G E X 0 0 25 [(0, tR (some ((v.1)))), (1, tI ((v.2.1))), (2, tI ((v.2.2.1))), (3, tI ((v.2.2.2.1))), (4, tI ((v.2.2.2.2)))] [] σ) v σ1) (hO : ∀ e, x = Sum.inr e → KE e σ1) : G E X 0 0 62 [(0, tR (some (h0))), (1, tI (l1)), (2, tI (l2)), (3, tI (l3)), (4, tI (l4))] [] σ := by
  unfold s_X8_shares_j62 at h
  refine g_iinc (lm' := [(4, tI (l4 + 1)), (0, tR (some (h0))), (1, tI (l1)), (2, tI (l2)), (3, tI (l3))]) (v := l4 + 1) (pc := 62) C 4 dX8_shares_62 rfl rfl (by decide) rfl ?_
  refine g_goto (pc := 65) C 25 dX8_shares_65 (by decide) ?_
  refine g_sub [1, 2, 3, 4, 0] (lm' := [(0, tR (some (h0))), (1, tI (l1)), (2, tI (l2)), (3, tI (l3)), (4, tI (l4 + 1))]) rfl ?_
  obtain ⟨rfl, rfl⟩ := zsome h
  exact hI _ rfl
noncomputable def s_X8_shares_b25 (h0 : Nat) (l1 : Int32) (l2 : Int32) (l3 : Int32) (l4 : Int32) (σ : Hp) : Option (((Nat × Int32 × Int32 × Int32 × Int32) ⊕ ((Int32 × Int32 × Int32))) × Hp) :=
  (rdR 8 σ h0 0).bind fun r1 =>
  (r1).bind fun a2 =>
  (rdI 1 σ a2 15).bind fun v3 =>
  if ((1 : Int32) <<< (v3 &&& 31)) ≤ l4 then
    some (Sum.inr ((l1), (l2), (l3)), σ)
  else
    (rdR 8 σ h0 0).bind fun r4 =>
    (r4).bind fun a5 =>
    (ck 1 σ a5).bind fun u6 =>
    cb (s_X1_lesserShare a5 (l4) σ) fun v8 σ7 =>
    if v8 ≤ l3 then
      s_X8_shares_j62 (h0) (l1) (l2) (l3) (l4) σ7
    else
      s_X8_shares_j62 (h0) (l1) (l4) (v8) (l4) σ7
noncomputable def s_X8_shares_l25 : (Nat × Int32 × Int32 × Int32 × Int32) → Hp → Option (((Int32 × Int32 × Int32)) × Hp) := loopF (fun v => s_X8_shares_b25 (v.1) (v.2.1) (v.2.2.1) (v.2.2.2.1) (v.2.2.2.2))
set_option maxRecDepth 100000 in
theorem w_X8_shares_b25 {E : E0} (hE : EOK E) {X : X0} (C : XOK E X cX8_shares RX8 6 (some .int) rm_X8_shares) (hxn : xn X = (rm_X8_shares.cells, rm_X8_shares.slots)) {KE : ((Int32 × Int32 × Int32)) → Hp → Prop} (e_68 : ∀ (l1 : Int32) (l2 : Int32) (l3 : Int32) (σ : Hp), KE ((l1, l2, l3)) σ → G E X 0 0 68 [(1, tI (l1)), (2, tI (l2)), (3, tI (l3))] [] σ) (h0 : Nat) (l1 : Int32) (l2 : Int32) (l3 : Int32) (l4 : Int32) (σ : Hp) (x : (Nat × Int32 × Int32 × Int32 × Int32) ⊕ ((Int32 × Int32 × Int32))) (σ1 : Hp) (h : s_X8_shares_b25 h0 l1 l2 l3 l4 σ = some (x, σ1)) (hI : ∀ v, x = Sum.inl v → (fun (v : Nat × Int32 × Int32 × Int32 × Int32) (σ : Hp) => G E X 0 0 25 [(0, tR (some ((v.1)))), (1, tI ((v.2.1))), (2, tI ((v.2.2.1))), (3, tI ((v.2.2.2.1))), (4, tI ((v.2.2.2.2)))] [] σ) v σ1) (hO : ∀ e, x = Sum.inr e → KE e σ1) : G E X 0 0 25 [(0, tR (some (h0))), (1, tI (l1)), (2, tI (l2)), (3, tI (l3)), (4, tI (l4))] [] σ := by
  unfold s_X8_shares_b25 at h
  refine g_iload (pc := 25) C 4 dX8_shares_25 rfl ?_
  refine g_iconst (v := 1) (pc := 27) C dX8_shares_27 (by decide) ?_
  refine g_aload_n (pc := 28) C 0 0 dX8_shares_28 rfl rfl ?_
  obtain ⟨r1, hvr1, h⟩ := zbind h
  refine g_getR (N := 19) (pc := 29) C ck_8 hvr1 rfl rfl fl_X8_12 dX8_shares_29 ?_
  obtain ⟨a2, hqa2, h9⟩ := zbind h
  clear h
  subst hqa2
  have h := h9
  clear h9
  obtain ⟨v3, hvv3, h⟩ := zbind h
  refine g_getI (N := 20) (pc := 32) C ck_1 hvv3 rfl rfl fl_X8_167 dX8_shares_32 ?_
  refine g_ishl (pc := 35) C dX8_shares_35 ?_
  refine g_icmp_ge (pc := 36) C 68 dX8_shares_36 (by decide) (fun c10 => ?_) (fun c10 => ?_)
  · have h := zif_t c10 h
    refine g_sub [1, 2, 3] (lm' := [(1, tI (l1)), (2, tI (l2)), (3, tI (l3))]) rfl ?_
    obtain ⟨rfl, rfl⟩ := zsome h
    exact e_68 _ _ _ _ (hO _ rfl)
  · have h := zif_f c10 h
    refine g_aload_n (pc := 39) C 0 0 dX8_shares_39 rfl rfl ?_
    obtain ⟨r4, hvr4, h⟩ := zbind h
    refine g_getR (N := 19) (pc := 40) C ck_8 hvr4 rfl rfl fl_X8_12 dX8_shares_40 ?_
    refine g_iload (pc := 43) C 4 dX8_shares_43 rfl ?_
    obtain ⟨a5, hqa5, h9⟩ := zbind h
    clear h
    subst hqa5
    have h := h9
    clear h9
    obtain ⟨u6, hvu6, h⟩ := zbind h
    obtain ⟨v8, σ7, hvσ7, h⟩ := zcb h
    refine g_callV (pc := 45) (av := [tI (l4)]) C (c_X1_lesserShare hE hvσ7) yv_X1_lesserShare ml_X8_359 ck_1 (zopt hvu6).1 rfl (rf_of (by decide)) rfl (Nat.le_of_ble_eq_true rfl) dX8_shares_45 ?_
    refine g_istore (lm' := [(5, tI (v8)), (0, tR (some (h0))), (1, tI (l1)), (2, tI (l2)), (3, tI (l3)), (4, tI (l4))]) (pc := 48) C dX8_shares_48 (by decide) rfl ?_
    refine g_iload (pc := 50) C 0 dX8_shares_50 rfl ?_
    refine g_iload_n (pc := 52) C 3 4 dX8_shares_52 rfl rfl ?_
    refine g_icmp_le (pc := 53) C 62 dX8_shares_53 (by decide) (fun c9 => ?_) (fun c9 => ?_)
    · have h := zif_t c9 h
      refine g_sub [1, 2, 3, 4, 5] (lm' := [(0, tR (some (h0))), (1, tI (l1)), (2, tI (l2)), (3, tI (l3)), (4, tI (l4))]) rfl ?_
      exact w_X8_shares_j62 hE C hxn e_68 _ _ _ _ _ _ _ _ h hI hO
    · have h := zif_f c9 h
      refine g_iload (pc := 56) C 0 dX8_shares_56 rfl ?_
      refine g_istore_n (lm' := [(3, tI (v8)), (5, tI (v8)), (0, tR (some (h0))), (1, tI (l1)), (2, tI (l2)), (4, tI (l4))]) (pc := 58) C 3 dX8_shares_58 rfl (by decide) rfl ?_
      refine g_iload (pc := 59) C 5 dX8_shares_59 rfl ?_
      refine g_istore_n (lm' := [(2, tI (l4)), (3, tI (v8)), (5, tI (v8)), (0, tR (some (h0))), (1, tI (l1)), (4, tI (l4))]) (pc := 61) C 2 dX8_shares_61 rfl (by decide) rfl ?_
      refine g_sub [3, 4, 0, 1, 5] (lm' := [(0, tR (some (h0))), (1, tI (l1)), (2, tI (l4)), (3, tI (v8)), (4, tI (l4))]) rfl ?_
      exact w_X8_shares_j62 hE C hxn e_68 _ _ _ _ _ _ _ _ h hI hO
theorem w_X8_shares_l25 {E : E0} (hE : EOK E) {X : X0} (C : XOK E X cX8_shares RX8 6 (some .int) rm_X8_shares) (hxn : xn X = (rm_X8_shares.cells, rm_X8_shares.slots)) {KE : ((Int32 × Int32 × Int32)) → Hp → Prop} (e_68 : ∀ (l1 : Int32) (l2 : Int32) (l3 : Int32) (σ : Hp), KE ((l1, l2, l3)) σ → G E X 0 0 68 [(1, tI (l1)), (2, tI (l2)), (3, tI (l3))] [] σ) {v : Nat × Int32 × Int32 × Int32 × Int32} {σ : Hp} {e : (Int32 × Int32 × Int32)} {σ1 : Hp} (h : s_X8_shares_l25 v σ = some (e, σ1)) (hO : KE e σ1) : G E X 0 0 25 [(0, tR (some ((v.1)))), (1, tI ((v.2.1))), (2, tI ((v.2.2.1))), (3, tI ((v.2.2.2.1))), (4, tI ((v.2.2.2.2)))] [] σ := loopF_ind (P := fun (v : Nat × Int32 × Int32 × Int32 × Int32) (σ : Hp) => G E X 0 0 25 [(0, tR (some ((v.1)))), (1, tI ((v.2.1))), (2, tI ((v.2.2.1))), (3, tI ((v.2.2.2.1))), (4, tI ((v.2.2.2.2)))] [] σ) (KE := KE) (fun v σ x σ1 h hI hO => w_X8_shares_b25 hE C hxn e_68 (v.1) (v.2.1) (v.2.2.1) (v.2.2.2.1) (v.2.2.2.2) σ x σ1 h hI hO) v σ e σ1 h hO
noncomputable def s_X8_shares (h0 : Nat) (p1 : Int32) (σ : Hp) : Option (Int32 × Hp) :=
  if p1 < 0 then
    some (((-1)), σ)
  else
    if p1 ≤ 1 then
      (rdR 8 σ h0 0).bind fun r1 =>
      (r1).bind fun a2 =>
      (ck 1 σ a2).bind fun u3 =>
      cb (s_X1_lesserShare a2 (0) σ) fun v5 σ4 =>
      cb (s_X8_shares_l25 ((h0), (p1), (0), (v5), (1)) σ4) fun e13 σ12 =>
      match e13 with
      | (l16, l27, l38) =>
        if l16 = 0 then
          some ((l38), σ12)
        else
          some ((l27), σ12)
    else
      some (((-1)), σ)
set_option maxRecDepth 100000 in
theorem c_X8_shares {E : E0} (hE : EOK E) {h0 : Nat} {p1 : Int32} {σ σ1 : Hp} {r : Int32} (h : s_X8_shares h0 p1 σ = some (r, σ1)) : CT E yX8_shares (.code yX8_shares cX8_shares 6 (some .int)) rm_X8_shares [tR (some (h0)), tI (p1)] σ (some (tI r)) σ1 := by
  refine CT.mk hE (by decide +kernel) (Nat.le_of_ble_eq_true rfl) [(0, tR (some (h0))), (1, tI (p1))] rfl (fun X C hin hx hxn => ?_)
  have C : XOK E X cX8_shares RX8 6 (some .int) rm_X8_shares := C
  unfold s_X8_shares at h
  refine g_iload_n (pc := 0) C 1 1 dX8_shares_0 rfl rfl ?_
  refine g_if_lt (pc := 1) C 9 dX8_shares_1 (by decide) (fun c15 => ?_) (fun c15 => ?_)
  · have h := zif_t c15 h
    refine g_iconst (v := (-1)) (pc := 9) C dX8_shares_9 (by decide) ?_
    obtain ⟨rfl, rfl⟩ := zsome h
    exact g_iret (pc := 10) C rfl hx (by rw [hxn]; rfl) (by rw [hxn]; rfl) dX8_shares_10
  · have h := zif_f c15 h
    refine g_iload_n (pc := 4) C 1 1 dX8_shares_4 rfl rfl ?_
    refine g_iconst (v := 1) (pc := 5) C dX8_shares_5 (by decide) ?_
    refine g_icmp_le (pc := 6) C 11 dX8_shares_6 (by decide) (fun c14 => ?_) (fun c14 => ?_)
    · have h := zif_t c14 h
      refine g_iconst (v := 0) (pc := 11) C dX8_shares_11 (by decide) ?_
      refine g_istore_n (lm' := [(2, tI (0)), (0, tR (some (h0))), (1, tI (p1))]) (pc := 12) C 2 dX8_shares_12 rfl (by decide) rfl ?_
      refine g_aload_n (pc := 13) C 0 1 dX8_shares_13 rfl rfl ?_
      obtain ⟨r1, hvr1, h⟩ := zbind h
      refine g_getR (N := 19) (pc := 14) C ck_8 hvr1 rfl rfl fl_X8_12 dX8_shares_14 ?_
      refine g_iconst (v := 0) (pc := 17) C dX8_shares_17 (by decide) ?_
      obtain ⟨a2, hqa2, h9⟩ := zbind h
      clear h
      subst hqa2
      have h := h9
      clear h9
      obtain ⟨u3, hvu3, h⟩ := zbind h
      obtain ⟨v5, σ4, hvσ4, h⟩ := zcb h
      refine g_callV (pc := 18) (av := [tI (0)]) C (c_X1_lesserShare hE hvσ4) yv_X1_lesserShare ml_X8_359 ck_1 (zopt hvu3).1 rfl (rf_of (by decide)) rfl (Nat.le_of_ble_eq_true rfl) dX8_shares_18 ?_
      refine g_istore_n (lm' := [(3, tI (v5)), (2, tI (0)), (0, tR (some (h0))), (1, tI (p1))]) (pc := 21) C 3 dX8_shares_21 rfl (by decide) rfl ?_
      refine g_iconst (v := 1) (pc := 22) C dX8_shares_22 (by decide) ?_
      refine g_istore (lm' := [(4, tI (1)), (3, tI (v5)), (2, tI (0)), (0, tR (some (h0))), (1, tI (p1))]) (pc := 23) C dX8_shares_23 (by decide) rfl ?_
      refine g_sub [3, 4, 2, 1, 0] (lm' := [(0, tR (some (h0))), (1, tI (p1)), (2, tI (0)), (3, tI (v5)), (4, tI (1))]) rfl ?_
      obtain ⟨KQ, hKQ, e13, σ12, hle13, h⟩ := zcbK h
      refine w_X8_shares_l25 (KE := KQ) hE C hxn ?_ hle13 h
      · intro l16 l27 l38 σ9 h
        have h := (hKQ _ _).mp h
        refine g_iload_n (pc := 68) C 1 0 dX8_shares_68 rfl rfl ?_
        refine g_if_ne (pc := 69) C 76 dX8_shares_69 (by decide) (fun c10 => ?_) (fun c10 => ?_)
        · have h := zif_f c10 h
          refine g_iload_n (pc := 76) C 2 1 dX8_shares_76 rfl rfl ?_
          obtain ⟨rfl, rfl⟩ := zsome h
          exact g_iret (pc := 77) C rfl hx (by rw [hxn]; rfl) (by rw [hxn]; rfl) dX8_shares_77
        · have h := zif_t c10 h
          refine g_iload_n (pc := 72) C 3 2 dX8_shares_72 rfl rfl ?_
          refine g_goto (pc := 73) C 77 dX8_shares_73 (by decide) ?_
          obtain ⟨rfl, rfl⟩ := zsome h
          exact g_iret (pc := 77) C rfl hx (by rw [hxn]; rfl) (by rw [hxn]; rfl) dX8_shares_77
    · have h := zif_f c14 h
      refine g_iconst (v := (-1)) (pc := 9) C dX8_shares_9 (by decide) ?_
      obtain ⟨rfl, rfl⟩ := zsome h
      exact g_iret (pc := 10) C rfl hx (by rw [hxn]; rfl) (by rw [hxn]; rfl) dX8_shares_10
def rm_X8_low : Room := { frames := 4, cells := 0, slots := 0, locals := 106 }
noncomputable def s_X8_low_j110 (h0 : Nat) (l1 : Int32) (l2 : Int32) (l3 : Int32) (l4 : Int32) (σ : Hp) : Option (((Nat × Int32 × Int32 × Int32 × Int32) ⊕ (Int32)) × Hp) :=
  some (Sum.inl ((h0), (l1), (l2), (l3), (l4 + 1)), σ)
set_option maxRecDepth 100000 in
theorem w_X8_low_j110 {E : E0} (hE : EOK E) {X : X0} (C : XOK E X cX8_low RX8 6 (some .int) rm_X8_low) (hxn : xn X = (rm_X8_low.cells, rm_X8_low.slots)) {KE : (Int32) → Hp → Prop} (e_ret : ∀ (r : Int32) (σ : Hp), KE (r) σ → xd X = (some (tI r), σ)) (h0 : Nat) (l1 : Int32) (l2 : Int32) (l3 : Int32) (l4 : Int32) (σ : Hp) (x : (Nat × Int32 × Int32 × Int32 × Int32) ⊕ (Int32)) (σ1 : Hp) (h : s_X8_low_j110 h0 l1 l2 l3 l4 σ = some (x, σ1)) (hI : ∀ v, x = Sum.inl v → (fun (v : Nat × Int32 × Int32 × Int32 × Int32) (σ : Hp) => G E X 0 0 40 [(0, tR (some ((v.1)))), (1, tI ((v.2.1))), (2, tI ((v.2.2.1))), (3, tI ((v.2.2.2.1))), (4, tI ((v.2.2.2.2)))] [] σ) v σ1) (hO : ∀ e, x = Sum.inr e → KE e σ1) : G E X 0 0 110 [(0, tR (some (h0))), (1, tI (l1)), (2, tI (l2)), (3, tI (l3)), (4, tI (l4))] [] σ := by
  unfold s_X8_low_j110 at h
  refine g_iinc (lm' := [(4, tI (l4 + 1)), (0, tR (some (h0))), (1, tI (l1)), (2, tI (l2)), (3, tI (l3))]) (v := l4 + 1) (pc := 110) C 4 dX8_low_110 rfl rfl (by decide) rfl ?_
  refine g_goto (pc := 113) C 40 dX8_low_113 (by decide) ?_
  refine g_sub [1, 2, 3, 4, 0] (lm' := [(0, tR (some (h0))), (1, tI (l1)), (2, tI (l2)), (3, tI (l3)), (4, tI (l4 + 1))]) rfl ?_
  obtain ⟨rfl, rfl⟩ := zsome h
  exact hI _ rfl
noncomputable def s_X8_low_b40 (h0 : Nat) (l1 : Int32) (l2 : Int32) (l3 : Int32) (l4 : Int32) (σ : Hp) : Option (((Nat × Int32 × Int32 × Int32 × Int32) ⊕ (Int32)) × Hp) :=
  (rdR 8 σ h0 0).bind fun r1 =>
  (r1).bind fun a2 =>
  (rdI 1 σ a2 15).bind fun v3 =>
  if v3 ≤ l4 then
    some (Sum.inr (l3), σ)
  else
    if 6 ≤ l4 then
      some (Sum.inr (l3), σ)
    else
      (rdR 8 σ h0 0).bind fun r4 =>
      (r4).bind fun a5 =>
      (rdR 1 σ a5 5).bind fun r6 =>
      (r6).bind fun a7 =>
      (ldI 11 σ a7 (l4)).bind fun v8 =>
      (rdR 8 σ h0 0).bind fun r9 =>
      (r9).bind fun a10 =>
      (rdR 1 σ a10 0).bind fun r11 =>
      (r11).bind fun a12 =>
      (ck 3 σ a12).bind fun u13 =>
      cb (s_X3_roomOf a12 (v8) σ) fun v15 σ14 =>
      if v15 = l1 then
        (rdR 8 σ14 h0 0).bind fun r16 =>
        (r16).bind fun a17 =>
        (rdR 1 σ14 a17 0).bind fun r18 =>
        (r18).bind fun a19 =>
        (ck 3 σ14 a19).bind fun u20 =>
        cb (s_X3_highOf a19 (v8) σ14) fun v22 σ21 =>
        if l2 ≤ v22 then
          s_X8_low_j110 (h0) (l1) (l2) (l3) (l4) σ21
        else
          s_X8_low_j110 (h0) (l1) (l2) (l3 ||| ((1 : Int32) <<< (l4 &&& 31))) (l4) σ21
      else
        s_X8_low_j110 (h0) (l1) (l2) (l3) (l4) σ14
noncomputable def s_X8_low_l40 : (Nat × Int32 × Int32 × Int32 × Int32) → Hp → Option ((Int32) × Hp) := loopF (fun v => s_X8_low_b40 (v.1) (v.2.1) (v.2.2.1) (v.2.2.2.1) (v.2.2.2.2))
set_option maxRecDepth 100000 in
theorem w_X8_low_b40 {E : E0} (hE : EOK E) {X : X0} (C : XOK E X cX8_low RX8 6 (some .int) rm_X8_low) (hxn : xn X = (rm_X8_low.cells, rm_X8_low.slots)) {KE : (Int32) → Hp → Prop} (e_ret : ∀ (r : Int32) (σ : Hp), KE (r) σ → xd X = (some (tI r), σ)) (h0 : Nat) (l1 : Int32) (l2 : Int32) (l3 : Int32) (l4 : Int32) (σ : Hp) (x : (Nat × Int32 × Int32 × Int32 × Int32) ⊕ (Int32)) (σ1 : Hp) (h : s_X8_low_b40 h0 l1 l2 l3 l4 σ = some (x, σ1)) (hI : ∀ v, x = Sum.inl v → (fun (v : Nat × Int32 × Int32 × Int32 × Int32) (σ : Hp) => G E X 0 0 40 [(0, tR (some ((v.1)))), (1, tI ((v.2.1))), (2, tI ((v.2.2.1))), (3, tI ((v.2.2.2.1))), (4, tI ((v.2.2.2.2)))] [] σ) v σ1) (hO : ∀ e, x = Sum.inr e → KE e σ1) : G E X 0 0 40 [(0, tR (some (h0))), (1, tI (l1)), (2, tI (l2)), (3, tI (l3)), (4, tI (l4))] [] σ := by
  unfold s_X8_low_b40 at h
  refine g_iload (pc := 40) C 4 dX8_low_40 rfl ?_
  refine g_aload_n (pc := 42) C 0 0 dX8_low_42 rfl rfl ?_
  obtain ⟨r1, hvr1, h⟩ := zbind h
  refine g_getR (N := 19) (pc := 43) C ck_8 hvr1 rfl rfl fl_X8_12 dX8_low_43 ?_
  obtain ⟨a2, hqa2, h9⟩ := zbind h
  clear h
  subst hqa2
  have h := h9
  clear h9
  obtain ⟨v3, hvv3, h⟩ := zbind h
  refine g_getI (N := 20) (pc := 46) C ck_1 hvv3 rfl rfl fl_X8_167 dX8_low_46 ?_
  refine g_icmp_ge (pc := 49) C 116 dX8_low_49 (by decide) (fun c26 => ?_) (fun c26 => ?_)
  · have h := zif_t c26 h
    refine g_iload_n (pc := 116) C 3 3 dX8_low_116 rfl rfl ?_
    obtain ⟨rfl, rfl⟩ := zsome h
    exact g_iret (pc := 117) C rfl (e_ret _ _ (hO _ rfl)) (by rw [hxn]; rfl) (by rw [hxn]; rfl) dX8_low_117
  · have h := zif_f c26 h
    refine g_iload (pc := 52) C 4 dX8_low_52 rfl ?_
    refine g_bipush (v := 6) (pc := 54) C dX8_low_54 (by decide) ?_
    refine g_icmp_ge (pc := 56) C 116 dX8_low_56 (by decide) (fun c25 => ?_) (fun c25 => ?_)
    · have h := zif_t c25 h
      refine g_iload_n (pc := 116) C 3 3 dX8_low_116 rfl rfl ?_
      obtain ⟨rfl, rfl⟩ := zsome h
      exact g_iret (pc := 117) C rfl (e_ret _ _ (hO _ rfl)) (by rw [hxn]; rfl) (by rw [hxn]; rfl) dX8_low_117
    · have h := zif_f c25 h
      refine g_aload_n (pc := 59) C 0 0 dX8_low_59 rfl rfl ?_
      obtain ⟨r4, hvr4, h⟩ := zbind h
      refine g_getR (N := 19) (pc := 60) C ck_8 hvr4 rfl rfl fl_X8_12 dX8_low_60 ?_
      obtain ⟨a5, hqa5, h9⟩ := zbind h
      clear h
      subst hqa5
      have h := h9
      clear h9
      obtain ⟨r6, hvr6, h⟩ := zbind h
      refine g_getR (N := 20) (pc := 63) C ck_1 hvr6 rfl rfl fl_X8_170 dX8_low_63 ?_
      refine g_iload (pc := 66) C 4 dX8_low_66 rfl ?_
      obtain ⟨a7, hqa7, h9⟩ := zbind h
      clear h
      subst hqa7
      have h := h9
      clear h9
      obtain ⟨v8, hvv8, h⟩ := zbind h
      refine g_iald (pc := 68) C hvv8 dX8_low_68 ?_
      refine g_istore (lm' := [(5, tI (v8)), (0, tR (some (h0))), (1, tI (l1)), (2, tI (l2)), (3, tI (l3)), (4, tI (l4))]) (pc := 69) C dX8_low_69 (by decide) rfl ?_
      refine g_aload_n (pc := 71) C 0 1 dX8_low_71 rfl rfl ?_
      obtain ⟨r9, hvr9, h⟩ := zbind h
      refine g_getR (N := 19) (pc := 72) C ck_8 hvr9 rfl rfl fl_X8_12 dX8_low_72 ?_
      obtain ⟨a10, hqa10, h9⟩ := zbind h
      clear h
      subst hqa10
      have h := h9
      clear h9
      obtain ⟨r11, hvr11, h⟩ := zbind h
      refine g_getR (N := 20) (pc := 75) C ck_1 hvr11 rfl rfl fl_X8_103 dX8_low_75 ?_
      refine g_iload (pc := 78) C 0 dX8_low_78 rfl ?_
      obtain ⟨a12, hqa12, h9⟩ := zbind h
      clear h
      subst hqa12
      have h := h9
      clear h9
      obtain ⟨u13, hvu13, h⟩ := zbind h
      obtain ⟨v15, σ14, hvσ14, h⟩ := zcb h
      refine g_callV (pc := 80) (av := [tI (v8)]) C (c_X3_roomOf hE hvσ14) yv_X3_roomOf ml_X8_126 ck_3 (zopt hvu13).1 rfl (rf_of (by decide)) rfl (Nat.le_of_ble_eq_true rfl) dX8_low_80 ?_
      refine g_iload_n (pc := 83) C 1 2 dX8_low_83 rfl rfl ?_
      refine g_icmp_ne (pc := 84) C 110 dX8_low_84 (by decide) (fun c24 => ?_) (fun c24 => ?_)
      · have h := zif_f c24 h
        refine g_sub [1, 2, 3, 4, 5] (lm' := [(0, tR (some (h0))), (1, tI (l1)), (2, tI (l2)), (3, tI (l3)), (4, tI (l4))]) rfl ?_
        exact w_X8_low_j110 hE C hxn e_ret _ _ _ _ _ _ _ _ h hI hO
      · have h := zif_t c24 h
        refine g_aload_n (pc := 87) C 0 1 dX8_low_87 rfl rfl ?_
        obtain ⟨r16, hvr16, h⟩ := zbind h
        refine g_getR (N := 19) (pc := 88) C ck_8 hvr16 rfl rfl fl_X8_12 dX8_low_88 ?_
        obtain ⟨a17, hqa17, h9⟩ := zbind h
        clear h
        subst hqa17
        have h := h9
        clear h9
        obtain ⟨r18, hvr18, h⟩ := zbind h
        refine g_getR (N := 20) (pc := 91) C ck_1 hvr18 rfl rfl fl_X8_103 dX8_low_91 ?_
        refine g_iload (pc := 94) C 0 dX8_low_94 rfl ?_
        obtain ⟨a19, hqa19, h9⟩ := zbind h
        clear h
        subst hqa19
        have h := h9
        clear h9
        obtain ⟨u20, hvu20, h⟩ := zbind h
        obtain ⟨v22, σ21, hvσ21, h⟩ := zcb h
        refine g_callV (pc := 96) (av := [tI (v8)]) C (c_X3_highOf hE hvσ21) yv_X3_highOf ml_X8_129 ck_3 (zopt hvu20).1 rfl (rf_of (by decide)) rfl (Nat.le_of_ble_eq_true rfl) dX8_low_96 ?_
        refine g_iload_n (pc := 99) C 2 3 dX8_low_99 rfl rfl ?_
        refine g_icmp_ge (pc := 100) C 110 dX8_low_100 (by decide) (fun c23 => ?_) (fun c23 => ?_)
        · have h := zif_t c23 h
          refine g_sub [1, 2, 3, 4, 5] (lm' := [(0, tR (some (h0))), (1, tI (l1)), (2, tI (l2)), (3, tI (l3)), (4, tI (l4))]) rfl ?_
          exact w_X8_low_j110 hE C hxn e_ret _ _ _ _ _ _ _ _ h hI hO
        · have h := zif_f c23 h
          refine g_iload_n (pc := 103) C 3 4 dX8_low_103 rfl rfl ?_
          refine g_iconst (v := 1) (pc := 104) C dX8_low_104 (by decide) ?_
          refine g_iload (pc := 105) C 5 dX8_low_105 rfl ?_
          refine g_ishl (pc := 107) C dX8_low_107 ?_
          refine g_ior (pc := 108) C dX8_low_108 ?_
          refine g_istore_n (lm' := [(3, tI (l3 ||| ((1 : Int32) <<< (l4 &&& 31)))), (5, tI (v8)), (0, tR (some (h0))), (1, tI (l1)), (2, tI (l2)), (4, tI (l4))]) (pc := 109) C 3 dX8_low_109 rfl (by decide) rfl ?_
          refine g_sub [2, 3, 4, 0, 5] (lm' := [(0, tR (some (h0))), (1, tI (l1)), (2, tI (l2)), (3, tI (l3 ||| ((1 : Int32) <<< (l4 &&& 31)))), (4, tI (l4))]) rfl ?_
          exact w_X8_low_j110 hE C hxn e_ret _ _ _ _ _ _ _ _ h hI hO
theorem w_X8_low_l40 {E : E0} (hE : EOK E) {X : X0} (C : XOK E X cX8_low RX8 6 (some .int) rm_X8_low) (hxn : xn X = (rm_X8_low.cells, rm_X8_low.slots)) {KE : (Int32) → Hp → Prop} (e_ret : ∀ (r : Int32) (σ : Hp), KE (r) σ → xd X = (some (tI r), σ)) {v : Nat × Int32 × Int32 × Int32 × Int32} {σ : Hp} {e : Int32} {σ1 : Hp} (h : s_X8_low_l40 v σ = some (e, σ1)) (hO : KE e σ1) : G E X 0 0 40 [(0, tR (some ((v.1)))), (1, tI ((v.2.1))), (2, tI ((v.2.2.1))), (3, tI ((v.2.2.2.1))), (4, tI ((v.2.2.2.2)))] [] σ := loopF_ind (P := fun (v : Nat × Int32 × Int32 × Int32 × Int32) (σ : Hp) => G E X 0 0 40 [(0, tR (some ((v.1)))), (1, tI ((v.2.1))), (2, tI ((v.2.2.1))), (3, tI ((v.2.2.2.1))), (4, tI ((v.2.2.2.2)))] [] σ) (KE := KE) (fun v σ x σ1 h hI hO => w_X8_low_b40 hE C hxn e_ret (v.1) (v.2.1) (v.2.2.1) (v.2.2.2.1) (v.2.2.2.2) σ x σ1 h hI hO) v σ e σ1 h hO
noncomputable def s_X8_low (h0 : Nat) (p1 : Int32) (σ : Hp) : Option (Int32 × Hp) :=
  cb (s_X8_isRoom (Int32.toInt64 (p1 : Int32)) σ) fun v2 σ1 =>
  if v2 = 0 then
    some (((-1)), σ1)
  else
    (rdR 8 σ1 h0 0).bind fun r3 =>
    (rdR 8 σ1 h0 0).bind fun r4 =>
    (r4).bind fun a5 =>
    (ck 1 σ1 a5).bind fun u6 =>
    cb (s_X1_lawInForce a5 σ1) fun r8 σ7 =>
    (rdR 8 σ7 h0 0).bind fun r9 =>
    (r9).bind fun a10 =>
    (rdR 1 σ7 a10 10).bind fun r11 =>
    (r11).bind fun a12 =>
    (ldI 11 σ7 a12 (0)).bind fun v13 =>
    (r3).bind fun a14 =>
    (ck 1 σ7 a14).bind fun u15 =>
    cb (s_X1_theirsBy a14 (r8) (p1) (v13) σ7) fun v17 σ16 =>
    cb (s_X8_low_l40 ((h0), (p1), (v17), (0), (0)) σ16) fun r19 σ20 =>
    some (r19, σ20)
set_option maxRecDepth 100000 in
theorem c_X8_low {E : E0} (hE : EOK E) {h0 : Nat} {p1 : Int32} {σ σ1 : Hp} {r : Int32} (h : s_X8_low h0 p1 σ = some (r, σ1)) : CT E yX8_low (.code yX8_low cX8_low 6 (some .int)) rm_X8_low [tR (some (h0)), tI (p1)] σ (some (tI r)) σ1 := by
  refine CT.mk hE (by decide +kernel) (Nat.le_of_ble_eq_true rfl) [(0, tR (some (h0))), (1, tI (p1))] rfl (fun X C hin hx hxn => ?_)
  have C : XOK E X cX8_low RX8 6 (some .int) rm_X8_low := C
  unfold s_X8_low at h
  refine g_iload_n (pc := 0) C 1 1 dX8_low_0 rfl rfl ?_
  refine g_i2l (pc := 1) C dX8_low_1 ?_
  obtain ⟨v2, σ1, hvσ1, h⟩ := zcb h
  refine g_callS (pc := 2) (av := [tJ (Int32.toInt64 (p1 : Int32))]) C (c_X8_isRoom hE hvσ1) ys_X8_isRoom ml_X8_95 rfl (rf_of (by decide)) rfl (Nat.le_of_ble_eq_true rfl) dX8_low_2 ?_
  refine g_if_ne (pc := 5) C 10 dX8_low_5 (by decide) (fun c22 => ?_) (fun c22 => ?_)
  · have h := zif_f c22 h
    refine g_aload_n (pc := 10) C 0 0 dX8_low_10 rfl rfl ?_
    obtain ⟨r3, hvr3, h⟩ := zbind h
    refine g_getR (N := 19) (pc := 11) C ck_8 hvr3 rfl rfl fl_X8_12 dX8_low_11 ?_
    refine g_aload_n (pc := 14) C 0 0 dX8_low_14 rfl rfl ?_
    obtain ⟨r4, hvr4, h⟩ := zbind h
    refine g_getR (N := 19) (pc := 15) C ck_8 hvr4 rfl rfl fl_X8_12 dX8_low_15 ?_
    obtain ⟨a5, hqa5, h9⟩ := zbind h
    clear h
    subst hqa5
    have h := h9
    clear h9
    obtain ⟨u6, hvu6, h⟩ := zbind h
    obtain ⟨r8, σ7, hvσ7, h⟩ := zcb h
    refine g_callV (pc := 18) (av := []) C (c_X1_lawInForce hE hvσ7) yv_X1_lawInForce ml_X8_189 ck_1 (zopt hvu6).1 rfl (rf_of (by decide)) rfl (Nat.le_of_ble_eq_true rfl) dX8_low_18 ?_
    refine g_iload_n (pc := 21) C 1 1 dX8_low_21 rfl rfl ?_
    refine g_aload_n (pc := 22) C 0 0 dX8_low_22 rfl rfl ?_
    obtain ⟨r9, hvr9, h⟩ := zbind h
    refine g_getR (N := 19) (pc := 23) C ck_8 hvr9 rfl rfl fl_X8_12 dX8_low_23 ?_
    obtain ⟨a10, hqa10, h9⟩ := zbind h
    clear h
    subst hqa10
    have h := h9
    clear h9
    obtain ⟨r11, hvr11, h⟩ := zbind h
    refine g_getR (N := 20) (pc := 26) C ck_1 hvr11 rfl rfl fl_X8_132 dX8_low_26 ?_
    refine g_iconst (v := 0) (pc := 29) C dX8_low_29 (by decide) ?_
    obtain ⟨a12, hqa12, h9⟩ := zbind h
    clear h
    subst hqa12
    have h := h9
    clear h9
    obtain ⟨v13, hvv13, h⟩ := zbind h
    refine g_iald (pc := 30) C hvv13 dX8_low_30 ?_
    obtain ⟨a14, hqa14, h9⟩ := zbind h
    clear h
    subst hqa14
    have h := h9
    clear h9
    obtain ⟨u15, hvu15, h⟩ := zbind h
    obtain ⟨v17, σ16, hvσ16, h⟩ := zcb h
    refine g_callV (pc := 31) (av := [tR (r8), tI (p1), tI (v13)]) C (c_X1_theirsBy hE hvσ16) yv_X1_theirsBy ml_X8_193 ck_1 (zopt hvu15).1 rfl (rf_of (by decide)) rfl (Nat.le_of_ble_eq_true rfl) dX8_low_31 ?_
    refine g_istore_n (lm' := [(2, tI (v17)), (0, tR (some (h0))), (1, tI (p1))]) (pc := 34) C 2 dX8_low_34 rfl (by decide) rfl ?_
    refine g_iconst (v := 0) (pc := 35) C dX8_low_35 (by decide) ?_
    refine g_istore_n (lm' := [(3, tI (0)), (2, tI (v17)), (0, tR (some (h0))), (1, tI (p1))]) (pc := 36) C 3 dX8_low_36 rfl (by decide) rfl ?_
    refine g_iconst (v := 0) (pc := 37) C dX8_low_37 (by decide) ?_
    refine g_istore (lm' := [(4, tI (0)), (3, tI (0)), (2, tI (v17)), (0, tR (some (h0))), (1, tI (p1))]) (pc := 38) C dX8_low_38 (by decide) rfl ?_
    refine g_sub [3, 4, 2, 1, 0] (lm' := [(0, tR (some (h0))), (1, tI (p1)), (2, tI (v17)), (3, tI (0)), (4, tI (0))]) rfl ?_
    obtain ⟨KQ, hKQ, r19, σ20, hlr19, h⟩ := zcbK h
    refine w_X8_low_l40 (KE := KQ) hE C hxn ?_ hlr19 h
    · intro r19 σ18 h
      have h := (hKQ _ _).mp h
      obtain ⟨rfl, rfl⟩ := zsome h
      exact hx
  · have h := zif_t c22 h
    refine g_iconst (v := (-1)) (pc := 8) C dX8_low_8 (by decide) ?_
    obtain ⟨rfl, rfl⟩ := zsome h
    exact g_iret (pc := 9) C rfl hx (by rw [hxn]; rfl) (by rw [hxn]; rfl) dX8_low_9
def rm_X8_seen : Room := { frames := 2, cells := 0, slots := 0, locals := 42 }
noncomputable def s_X8_seen_j18 (h0 : Nat) (σ : Hp) : Option (Int32 × Hp) :=
  (ck 8 σ h0).bind fun u1 =>
  cb (s_X8_refuse h0 ((-1)) σ) fun v3 σ2 =>
  some ((v3), σ2)
set_option maxRecDepth 100000 in
theorem w_X8_seen_j18 {E : E0} (hE : EOK E) {X : X0} (C : XOK E X cX8_seen RX8 4 (some .int) rm_X8_seen) (hxn : xn X = (rm_X8_seen.cells, rm_X8_seen.slots)) (h0 : Nat) (σ : Hp) (r : Int32) (σ1 : Hp) (h : s_X8_seen_j18 h0 σ = some (r, σ1)) (hx : xd X = (some (tI r), σ1)) : G E X 0 0 18 [(0, tR (some (h0)))] [] σ := by
  unfold s_X8_seen_j18 at h
  refine g_aload_n (pc := 18) C 0 0 dX8_seen_18 rfl rfl ?_
  refine g_iconst (v := (-1)) (pc := 19) C dX8_seen_19 (by decide) ?_
  obtain ⟨u1, hvu1, h⟩ := zbind h
  obtain ⟨v3, σ2, hvσ2, h⟩ := zcb h
  refine g_callV (pc := 20) (av := [tI ((-1))]) C (c_X8_refuse hE hvσ2) yv_X8_refuse ml_X8_99 ck_8 (zopt hvu1).1 rfl (rf_of (by decide)) rfl (Nat.le_of_ble_eq_true rfl) dX8_seen_20 ?_
  obtain ⟨rfl, rfl⟩ := zsome h
  exact g_iret (pc := 23) C rfl hx (by rw [hxn]; rfl) (by rw [hxn]; rfl) dX8_seen_23
noncomputable def s_X8_seen_j42 (h0 : Nat) (σ : Hp) : Option (Int32 × Hp) :=
  (ck 8 σ h0).bind fun u1 =>
  cb (s_X8_refuse h0 ((-5)) σ) fun v3 σ2 =>
  some ((v3), σ2)
set_option maxRecDepth 100000 in
theorem w_X8_seen_j42 {E : E0} (hE : EOK E) {X : X0} (C : XOK E X cX8_seen RX8 4 (some .int) rm_X8_seen) (hxn : xn X = (rm_X8_seen.cells, rm_X8_seen.slots)) (h0 : Nat) (σ : Hp) (r : Int32) (σ1 : Hp) (h : s_X8_seen_j42 h0 σ = some (r, σ1)) (hx : xd X = (some (tI r), σ1)) : G E X 0 0 42 [(0, tR (some (h0)))] [] σ := by
  unfold s_X8_seen_j42 at h
  refine g_aload_n (pc := 42) C 0 0 dX8_seen_42 rfl rfl ?_
  refine g_bipush (v := (-5)) (pc := 43) C dX8_seen_43 (by decide) ?_
  obtain ⟨u1, hvu1, h⟩ := zbind h
  obtain ⟨v3, σ2, hvσ2, h⟩ := zcb h
  refine g_callV (pc := 45) (av := [tI ((-5))]) C (c_X8_refuse hE hvσ2) yv_X8_refuse ml_X8_99 ck_8 (zopt hvu1).1 rfl (rf_of (by decide)) rfl (Nat.le_of_ble_eq_true rfl) dX8_seen_45 ?_
  obtain ⟨rfl, rfl⟩ := zsome h
  exact g_iret (pc := 48) C rfl hx (by rw [hxn]; rfl) (by rw [hxn]; rfl) dX8_seen_48
noncomputable def s_X8_seen (h0 : Nat) (p1 : Int32) (p2 : Int32) (σ : Hp) : Option (Int32 × Hp) :=
  if p1 < 0 then
    s_X8_seen_j18 (h0) σ
  else
    if 60 < p1 then
      s_X8_seen_j18 (h0) σ
    else
      cb (s_X8_isRoom (Int32.toInt64 (p2 : Int32)) σ) fun v2 σ1 =>
      if v2 = 0 then
        s_X8_seen_j18 (h0) σ1
      else
        (rdR 8 σ1 h0 0).bind fun r3 =>
        (r3).bind fun a4 =>
        (rdI 1 σ1 a4 16).bind fun v5 =>
        if v5 < 0 then
          s_X8_seen_j42 (h0) σ1
        else
          if v5 < 6 then
            (rdR 8 σ1 h0 0).bind fun r6 =>
            (r6).bind fun a7 =>
            (rdR 1 σ1 a7 8).bind fun r8 =>
            (r8).bind fun a9 =>
            (stI σ1 a9 (v5) (p1)).bind fun σ10 =>
            (rdR 8 σ10 h0 0).bind fun r11 =>
            (r11).bind fun a12 =>
            (rdR 1 σ10 a12 9).bind fun r13 =>
            (r13).bind fun a14 =>
            (stI σ10 a14 (v5) (p2)).bind fun σ15 =>
            (rdR 8 σ15 h0 0).bind fun r16 =>
            (r16).bind fun a17 =>
            (wrI 1 σ15 a17 16 (v5 + 1)).bind fun σ18 =>
            (ck 8 σ18 h0).bind fun u19 =>
            cb (s_X8_grant h0 (v5 + 1) σ18) fun v21 σ20 =>
            some ((v21), σ20)
          else
            s_X8_seen_j42 (h0) σ1
set_option maxRecDepth 100000 in
theorem c_X8_seen {E : E0} (hE : EOK E) {h0 : Nat} {p1 : Int32} {p2 : Int32} {σ σ1 : Hp} {r : Int32} (h : s_X8_seen h0 p1 p2 σ = some (r, σ1)) : CT E yX8_seen (.code yX8_seen cX8_seen 4 (some .int)) rm_X8_seen [tR (some (h0)), tI (p1), tI (p2)] σ (some (tI r)) σ1 := by
  refine CT.mk hE (by decide +kernel) (Nat.le_of_ble_eq_true rfl) [(0, tR (some (h0))), (1, tI (p1)), (2, tI (p2))] rfl (fun X C hin hx hxn => ?_)
  have C : XOK E X cX8_seen RX8 4 (some .int) rm_X8_seen := C
  unfold s_X8_seen at h
  refine g_iload_n (pc := 0) C 1 1 dX8_seen_0 rfl rfl ?_
  refine g_if_lt (pc := 1) C 18 dX8_seen_1 (by decide) (fun c26 => ?_) (fun c26 => ?_)
  · have h := zif_t c26 h
    refine g_sub [0] (lm' := [(0, tR (some (h0)))]) rfl ?_
    exact w_X8_seen_j18 hE C hxn _ _ _ _ h hx
  · have h := zif_f c26 h
    refine g_iload_n (pc := 4) C 1 1 dX8_seen_4 rfl rfl ?_
    refine g_bipush (v := 60) (pc := 5) C dX8_seen_5 (by decide) ?_
    refine g_icmp_gt (pc := 7) C 18 dX8_seen_7 (by decide) (fun c25 => ?_) (fun c25 => ?_)
    · have h := zif_t c25 h
      refine g_sub [0] (lm' := [(0, tR (some (h0)))]) rfl ?_
      exact w_X8_seen_j18 hE C hxn _ _ _ _ h hx
    · have h := zif_f c25 h
      refine g_iload_n (pc := 10) C 2 2 dX8_seen_10 rfl rfl ?_
      refine g_i2l (pc := 11) C dX8_seen_11 ?_
      obtain ⟨v2, σ1, hvσ1, h⟩ := zcb h
      refine g_callS (pc := 12) (av := [tJ (Int32.toInt64 (p2 : Int32))]) C (c_X8_isRoom hE hvσ1) ys_X8_isRoom ml_X8_95 rfl (rf_of (by decide)) rfl (Nat.le_of_ble_eq_true rfl) dX8_seen_12 ?_
      refine g_if_ne (pc := 15) C 24 dX8_seen_15 (by decide) (fun c24 => ?_) (fun c24 => ?_)
      · have h := zif_f c24 h
        refine g_aload_n (pc := 24) C 0 0 dX8_seen_24 rfl rfl ?_
        obtain ⟨r3, hvr3, h⟩ := zbind h
        refine g_getR (N := 19) (pc := 25) C ck_8 hvr3 rfl rfl fl_X8_12 dX8_seen_25 ?_
        obtain ⟨a4, hqa4, h9⟩ := zbind h
        clear h
        subst hqa4
        have h := h9
        clear h9
        obtain ⟨v5, hvv5, h⟩ := zbind h
        refine g_getI (N := 20) (pc := 28) C ck_1 hvv5 rfl rfl fl_X8_362 dX8_seen_28 ?_
        refine g_istore_n (lm' := [(3, tI (v5)), (0, tR (some (h0))), (1, tI (p1)), (2, tI (p2))]) (pc := 31) C 3 dX8_seen_31 rfl (by decide) rfl ?_
        refine g_iload_n (pc := 32) C 3 0 dX8_seen_32 rfl rfl ?_
        refine g_if_lt (pc := 33) C 42 dX8_seen_33 (by decide) (fun c23 => ?_) (fun c23 => ?_)
        · have h := zif_t c23 h
          refine g_sub [1] (lm' := [(0, tR (some (h0)))]) rfl ?_
          exact w_X8_seen_j42 hE C hxn _ _ _ _ h hx
        · have h := zif_f c23 h
          refine g_iload_n (pc := 36) C 3 0 dX8_seen_36 rfl rfl ?_
          refine g_bipush (v := 6) (pc := 37) C dX8_seen_37 (by decide) ?_
          refine g_icmp_lt (pc := 39) C 49 dX8_seen_39 (by decide) (fun c22 => ?_) (fun c22 => ?_)
          · have h := zif_t c22 h
            refine g_aload_n (pc := 49) C 0 1 dX8_seen_49 rfl rfl ?_
            obtain ⟨r6, hvr6, h⟩ := zbind h
            refine g_getR (N := 19) (pc := 50) C ck_8 hvr6 rfl rfl fl_X8_12 dX8_seen_50 ?_
            obtain ⟨a7, hqa7, h9⟩ := zbind h
            clear h
            subst hqa7
            have h := h9
            clear h9
            obtain ⟨r8, hvr8, h⟩ := zbind h
            refine g_getR (N := 20) (pc := 53) C ck_1 hvr8 rfl rfl fl_X8_365 dX8_seen_53 ?_
            refine g_iload_n (pc := 56) C 3 0 dX8_seen_56 rfl rfl ?_
            refine g_iload_n (pc := 57) C 1 2 dX8_seen_57 rfl rfl ?_
            obtain ⟨a9, hqa9, h9⟩ := zbind h
            clear h
            subst hqa9
            have h := h9
            clear h9
            obtain ⟨σ10, hvσ10, h⟩ := zbind h
            refine g_iast (pc := 58) C hvσ10 dX8_seen_58 ?_
            refine g_aload_n (pc := 59) C 0 1 dX8_seen_59 rfl rfl ?_
            obtain ⟨r11, hvr11, h⟩ := zbind h
            refine g_getR (N := 19) (pc := 60) C ck_8 hvr11 rfl rfl fl_X8_12 dX8_seen_60 ?_
            obtain ⟨a12, hqa12, h9⟩ := zbind h
            clear h
            subst hqa12
            have h := h9
            clear h9
            obtain ⟨r13, hvr13, h⟩ := zbind h
            refine g_getR (N := 20) (pc := 63) C ck_1 hvr13 rfl rfl fl_X8_368 dX8_seen_63 ?_
            refine g_iload_n (pc := 66) C 3 0 dX8_seen_66 rfl rfl ?_
            refine g_iload_n (pc := 67) C 2 3 dX8_seen_67 rfl rfl ?_
            obtain ⟨a14, hqa14, h9⟩ := zbind h
            clear h
            subst hqa14
            have h := h9
            clear h9
            obtain ⟨σ15, hvσ15, h⟩ := zbind h
            refine g_iast (pc := 68) C hvσ15 dX8_seen_68 ?_
            refine g_aload_n (pc := 69) C 0 1 dX8_seen_69 rfl rfl ?_
            obtain ⟨r16, hvr16, h⟩ := zbind h
            refine g_getR (N := 19) (pc := 70) C ck_8 hvr16 rfl rfl fl_X8_12 dX8_seen_70 ?_
            refine g_iload_n (pc := 73) C 3 0 dX8_seen_73 rfl rfl ?_
            refine g_iconst (v := 1) (pc := 74) C dX8_seen_74 (by decide) ?_
            refine g_iadd (pc := 75) C dX8_seen_75 ?_
            obtain ⟨a17, hqa17, h9⟩ := zbind h
            clear h
            subst hqa17
            have h := h9
            clear h9
            obtain ⟨σ18, hvσ18, h⟩ := zbind h
            refine g_putI (N := 20) (pc := 76) C ⟨ck_1, rfl, tyX1_ok⟩ hvσ18 rfl fl_X8_362 rfl rfl dX8_seen_76 ?_
            refine g_aload_n (pc := 79) C 0 1 dX8_seen_79 rfl rfl ?_
            refine g_iload_n (pc := 80) C 3 0 dX8_seen_80 rfl rfl ?_
            refine g_iconst (v := 1) (pc := 81) C dX8_seen_81 (by decide) ?_
            refine g_iadd (pc := 82) C dX8_seen_82 ?_
            obtain ⟨u19, hvu19, h⟩ := zbind h
            obtain ⟨v21, σ20, hvσ20, h⟩ := zcb h
            refine g_callV (pc := 83) (av := [tI (v5 + 1)]) C (c_X8_grant hE hvσ20) yv_X8_grant ml_X8_119 ck_8 (zopt hvu19).1 rfl (rf_of (by decide)) rfl (Nat.le_of_ble_eq_true rfl) dX8_seen_83 ?_
            obtain ⟨rfl, rfl⟩ := zsome h
            exact g_iret (pc := 86) C rfl hx (by rw [hxn]; rfl) (by rw [hxn]; rfl) dX8_seen_86
          · have h := zif_f c22 h
            refine g_sub [1] (lm' := [(0, tR (some (h0)))]) rfl ?_
            exact w_X8_seen_j42 hE C hxn _ _ _ _ h hx
      · have h := zif_t c24 h
        refine g_sub [0] (lm' := [(0, tR (some (h0)))]) rfl ?_
        exact w_X8_seen_j18 hE C hxn _ _ _ _ h hx
def rm_X8_forget : Room := { frames := 0, cells := 0, slots := 0, locals := 0 }
noncomputable def s_X8_forget (h0 : Nat) (σ : Hp) : Option (Int32 × Hp) :=
  (rdR 8 σ h0 0).bind fun r1 =>
  (r1).bind fun a2 =>
  (rdI 1 σ a2 16).bind fun v3 =>
  (rdR 8 σ h0 0).bind fun r4 =>
  (r4).bind fun a5 =>
  (wrI 1 σ a5 16 (0)).bind fun σ6 =>
  some ((v3), σ6)
set_option maxRecDepth 100000 in
theorem c_X8_forget {E : E0} (hE : EOK E) {h0 : Nat} {σ σ1 : Hp} {r : Int32} (h : s_X8_forget h0 σ = some (r, σ1)) : CT E yX8_forget (.code yX8_forget cX8_forget 2 (some .int)) rm_X8_forget [tR (some (h0))] σ (some (tI r)) σ1 := by
  refine CT.mk hE (by decide +kernel) (Nat.le_of_ble_eq_true rfl) [(0, tR (some (h0)))] rfl (fun X C hin hx hxn => ?_)
  have C : XOK E X cX8_forget RX8 2 (some .int) rm_X8_forget := C
  unfold s_X8_forget at h
  refine g_aload_n (pc := 0) C 0 0 dX8_forget_0 rfl rfl ?_
  obtain ⟨r1, hvr1, h⟩ := zbind h
  refine g_getR (N := 19) (pc := 1) C ck_8 hvr1 rfl rfl fl_X8_12 dX8_forget_1 ?_
  obtain ⟨a2, hqa2, h9⟩ := zbind h
  clear h
  subst hqa2
  have h := h9
  clear h9
  obtain ⟨v3, hvv3, h⟩ := zbind h
  refine g_getI (N := 20) (pc := 4) C ck_1 hvv3 rfl rfl fl_X8_362 dX8_forget_4 ?_
  refine g_istore_n (lm' := [(1, tI (v3)), (0, tR (some (h0)))]) (pc := 7) C 1 dX8_forget_7 rfl (by decide) rfl ?_
  refine g_aload_n (pc := 8) C 0 1 dX8_forget_8 rfl rfl ?_
  obtain ⟨r4, hvr4, h⟩ := zbind h
  refine g_getR (N := 19) (pc := 9) C ck_8 hvr4 rfl rfl fl_X8_12 dX8_forget_9 ?_
  refine g_iconst (v := 0) (pc := 12) C dX8_forget_12 (by decide) ?_
  obtain ⟨a5, hqa5, h9⟩ := zbind h
  clear h
  subst hqa5
  have h := h9
  clear h9
  obtain ⟨σ6, hvσ6, h⟩ := zbind h
  refine g_putI (N := 20) (pc := 13) C ⟨ck_1, rfl, tyX1_ok⟩ hvσ6 rfl fl_X8_362 rfl rfl dX8_forget_13 ?_
  refine g_iload_n (pc := 16) C 1 0 dX8_forget_16 rfl rfl ?_
  obtain ⟨rfl, rfl⟩ := zsome h
  exact g_iret (pc := 17) C rfl hx (by rw [hxn]; rfl) (by rw [hxn]; rfl) dX8_forget_17
def rm_X8_canBe : Room := { frames := 6, cells := 0, slots := 0, locals := 160 }
noncomputable def s_X8_canBe (h0 : Nat) (σ : Hp) : Option (Int32 × Hp) :=
  (rdR 8 σ h0 10).bind fun r1 =>
  (rdR 8 σ h0 0).bind fun r2 =>
  (r1).bind fun a3 =>
  (ck 2 σ a3).bind fun u4 =>
  cb (s_X2_whoCanBe a3 (r2) σ) fun v6 σ5 =>
  some ((v6), σ5)
set_option maxRecDepth 100000 in
theorem c_X8_canBe {E : E0} (hE : EOK E) {h0 : Nat} {σ σ1 : Hp} {r : Int32} (h : s_X8_canBe h0 σ = some (r, σ1)) : CT E yX8_canBe (.code yX8_canBe cX8_canBe 1 (some .int)) rm_X8_canBe [tR (some (h0))] σ (some (tI r)) σ1 := by
  refine CT.mk hE (by decide +kernel) (Nat.le_of_ble_eq_true rfl) [(0, tR (some (h0)))] rfl (fun X C hin hx hxn => ?_)
  have C : XOK E X cX8_canBe RX8 1 (some .int) rm_X8_canBe := C
  unfold s_X8_canBe at h
  refine g_aload_n (pc := 0) C 0 0 dX8_canBe_0 rfl rfl ?_
  obtain ⟨r1, hvr1, h⟩ := zbind h
  refine g_getR (N := 19) (pc := 1) C ck_8 hvr1 rfl rfl fl_X8_64 dX8_canBe_1 ?_
  refine g_aload_n (pc := 4) C 0 0 dX8_canBe_4 rfl rfl ?_
  obtain ⟨r2, hvr2, h⟩ := zbind h
  refine g_getR (N := 19) (pc := 5) C ck_8 hvr2 rfl rfl fl_X8_12 dX8_canBe_5 ?_
  obtain ⟨a3, hqa3, h9⟩ := zbind h
  clear h
  subst hqa3
  have h := h9
  clear h9
  obtain ⟨u4, hvu4, h⟩ := zbind h
  obtain ⟨v6, σ5, hvσ5, h⟩ := zcb h
  refine g_callV (pc := 8) (av := [tR (r2)]) C (c_X2_whoCanBe hE hvσ5) yv_X2_whoCanBe ml_X8_371 ck_2 (zopt hvu4).1 rfl (rf_of (by decide)) rfl (Nat.le_of_ble_eq_true rfl) dX8_canBe_8 ?_
  obtain ⟨rfl, rfl⟩ := zsome h
  exact g_iret (pc := 11) C rfl hx (by rw [hxn]; rfl) (by rw [hxn]; rfl) dX8_canBe_11
def rm_X8_look : Room := { frames := 6, cells := 0, slots := 0, locals := 160 }
noncomputable def s_X8_look_j78 (h0 : Nat) (l1 : Int32) (l2 : Int32) (l3 : Int32) (l4 : Int32) (l5 : Int32) (σ : Hp) : Option (((Nat × Int32 × Int32 × Int32 × Int32 × Int32) ⊕ ((Int32 × Int32 × Int32))) × Hp) :=
  some (Sum.inl ((h0), (l1), (l2), (l3), (l4), (l5 + 1)), σ)
set_option maxRecDepth 100000 in
theorem w_X8_look_j78 {E : E0} (hE : EOK E) {X : X0} (C : XOK E X cX8_look RX8 7 (some .int) rm_X8_look) (hxn : xn X = (rm_X8_look.cells, rm_X8_look.slots)) {KE : ((Int32 × Int32 × Int32)) → Hp → Prop} (e_84 : ∀ (l1 : Int32) (l3 : Int32) (l4 : Int32) (σ : Hp), KE ((l1, l3, l4)) σ → G E X 0 0 84 [(1, tI (l1)), (3, tI (l3)), (4, tI (l4))] [] σ) (h0 : Nat) (l1 : Int32) (l2 : Int32) (l3 : Int32) (l4 : Int32) (l5 : Int32) (σ : Hp) (x : (Nat × Int32 × Int32 × Int32 × Int32 × Int32) ⊕ ((Int32 × Int32 × Int32))) (σ1 : Hp) (h : s_X8_look_j78 h0 l1 l2 l3 l4 l5 σ = some (x, σ1)) (hI : ∀ v, x = Sum.inl v → (fun (v : Nat × Int32 × Int32 × Int32 × Int32 × Int32) (σ : Hp) => G E X 0 0 45 [(0, tR (some ((v.1)))), (1, tI ((v.2.1))), (2, tI ((v.2.2.1))), (3, tI ((v.2.2.2.1))), (4, tI ((v.2.2.2.2.1))), (5, tI ((v.2.2.2.2.2)))] [] σ) v σ1) (hO : ∀ e, x = Sum.inr e → KE e σ1) : G E X 0 0 78 [(0, tR (some (h0))), (1, tI (l1)), (2, tI (l2)), (3, tI (l3)), (4, tI (l4)), (5, tI (l5))] [] σ := by
  unfold s_X8_look_j78 at h
  refine g_iinc (lm' := [(5, tI (l5 + 1)), (0, tR (some (h0))), (1, tI (l1)), (2, tI (l2)), (3, tI (l3)), (4, tI (l4))]) (v := l5 + 1) (pc := 78) C 5 dX8_look_78 rfl rfl (by decide) rfl ?_
  refine g_goto (pc := 81) C 45 dX8_look_81 (by decide) ?_
  refine g_sub [1, 2, 3, 4, 5, 0] (lm' := [(0, tR (some (h0))), (1, tI (l1)), (2, tI (l2)), (3, tI (l3)), (4, tI (l4)), (5, tI (l5 + 1))]) rfl ?_
  obtain ⟨rfl, rfl⟩ := zsome h
  exact hI _ rfl
noncomputable def s_X8_look_b45 (h0 : Nat) (l1 : Int32) (l2 : Int32) (l3 : Int32) (l4 : Int32) (l5 : Int32) (σ : Hp) : Option (((Nat × Int32 × Int32 × Int32 × Int32 × Int32) ⊕ ((Int32 × Int32 × Int32))) × Hp) :=
  if 60 < l5 then
    some (Sum.inr ((l1), (l3), (l4)), σ)
  else
    (rdR 8 σ h0 10).bind fun r1 =>
    (r1).bind fun a2 =>
    (ck 2 σ a2).bind fun u3 =>
    cb (s_X2_mostTogether a2 (l2) (l5) σ) fun v5 σ4 =>
    if l4 ≤ v5 then
      s_X8_look_j78 (h0) (l1) (l2) (l3) (l4) (l5) σ4
    else
      s_X8_look_j78 (h0) (l1) (l2) (l5) (v5) (l5) σ4
noncomputable def s_X8_look_l45 : (Nat × Int32 × Int32 × Int32 × Int32 × Int32) → Hp → Option (((Int32 × Int32 × Int32)) × Hp) := loopF (fun v => s_X8_look_b45 (v.1) (v.2.1) (v.2.2.1) (v.2.2.2.1) (v.2.2.2.2.1) (v.2.2.2.2.2))
set_option maxRecDepth 100000 in
theorem w_X8_look_b45 {E : E0} (hE : EOK E) {X : X0} (C : XOK E X cX8_look RX8 7 (some .int) rm_X8_look) (hxn : xn X = (rm_X8_look.cells, rm_X8_look.slots)) {KE : ((Int32 × Int32 × Int32)) → Hp → Prop} (e_84 : ∀ (l1 : Int32) (l3 : Int32) (l4 : Int32) (σ : Hp), KE ((l1, l3, l4)) σ → G E X 0 0 84 [(1, tI (l1)), (3, tI (l3)), (4, tI (l4))] [] σ) (h0 : Nat) (l1 : Int32) (l2 : Int32) (l3 : Int32) (l4 : Int32) (l5 : Int32) (σ : Hp) (x : (Nat × Int32 × Int32 × Int32 × Int32 × Int32) ⊕ ((Int32 × Int32 × Int32))) (σ1 : Hp) (h : s_X8_look_b45 h0 l1 l2 l3 l4 l5 σ = some (x, σ1)) (hI : ∀ v, x = Sum.inl v → (fun (v : Nat × Int32 × Int32 × Int32 × Int32 × Int32) (σ : Hp) => G E X 0 0 45 [(0, tR (some ((v.1)))), (1, tI ((v.2.1))), (2, tI ((v.2.2.1))), (3, tI ((v.2.2.2.1))), (4, tI ((v.2.2.2.2.1))), (5, tI ((v.2.2.2.2.2)))] [] σ) v σ1) (hO : ∀ e, x = Sum.inr e → KE e σ1) : G E X 0 0 45 [(0, tR (some (h0))), (1, tI (l1)), (2, tI (l2)), (3, tI (l3)), (4, tI (l4)), (5, tI (l5))] [] σ := by
  unfold s_X8_look_b45 at h
  refine g_iload (pc := 45) C 5 dX8_look_45 rfl ?_
  refine g_bipush (v := 60) (pc := 47) C dX8_look_47 (by decide) ?_
  refine g_icmp_gt (pc := 49) C 84 dX8_look_49 (by decide) (fun c7 => ?_) (fun c7 => ?_)
  · have h := zif_t c7 h
    refine g_sub [1, 3, 4] (lm' := [(1, tI (l1)), (3, tI (l3)), (4, tI (l4))]) rfl ?_
    obtain ⟨rfl, rfl⟩ := zsome h
    exact e_84 _ _ _ _ (hO _ rfl)
  · have h := zif_f c7 h
    refine g_aload_n (pc := 52) C 0 0 dX8_look_52 rfl rfl ?_
    obtain ⟨r1, hvr1, h⟩ := zbind h
    refine g_getR (N := 19) (pc := 53) C ck_8 hvr1 rfl rfl fl_X8_64 dX8_look_53 ?_
    refine g_iload_n (pc := 56) C 2 2 dX8_look_56 rfl rfl ?_
    refine g_iload (pc := 57) C 5 dX8_look_57 rfl ?_
    obtain ⟨a2, hqa2, h9⟩ := zbind h
    clear h
    subst hqa2
    have h := h9
    clear h9
    obtain ⟨u3, hvu3, h⟩ := zbind h
    obtain ⟨v5, σ4, hvσ4, h⟩ := zcb h
    refine g_callV (pc := 59) (av := [tI (l2), tI (l5)]) C (c_X2_mostTogether hE hvσ4) yv_X2_mostTogether ml_X8_374 ck_2 (zopt hvu3).1 rfl (rf_of (by decide)) rfl (Nat.le_of_ble_eq_true rfl) dX8_look_59 ?_
    refine g_istore (lm' := [(6, tI (v5)), (0, tR (some (h0))), (1, tI (l1)), (2, tI (l2)), (3, tI (l3)), (4, tI (l4)), (5, tI (l5))]) (pc := 62) C dX8_look_62 (by decide) rfl ?_
    refine g_iload (pc := 64) C 0 dX8_look_64 rfl ?_
    refine g_iload (pc := 66) C 5 dX8_look_66 rfl ?_
    refine g_icmp_ge (pc := 68) C 78 dX8_look_68 (by decide) (fun c6 => ?_) (fun c6 => ?_)
    · have h := zif_t c6 h
      refine g_sub [1, 2, 3, 4, 5, 6] (lm' := [(0, tR (some (h0))), (1, tI (l1)), (2, tI (l2)), (3, tI (l3)), (4, tI (l4)), (5, tI (l5))]) rfl ?_
      exact w_X8_look_j78 hE C hxn e_84 _ _ _ _ _ _ _ _ _ h hI hO
    · have h := zif_f c6 h
      refine g_iload (pc := 71) C 0 dX8_look_71 rfl ?_
      refine g_istore (lm' := [(4, tI (v5)), (6, tI (v5)), (0, tR (some (h0))), (1, tI (l1)), (2, tI (l2)), (3, tI (l3)), (5, tI (l5))]) (pc := 73) C dX8_look_73 (by decide) rfl ?_
      refine g_iload (pc := 75) C 6 dX8_look_75 rfl ?_
      refine g_istore_n (lm' := [(3, tI (l5)), (4, tI (v5)), (6, tI (v5)), (0, tR (some (h0))), (1, tI (l1)), (2, tI (l2)), (5, tI (l5))]) (pc := 77) C 3 dX8_look_77 rfl (by decide) rfl ?_
      refine g_sub [3, 4, 5, 0, 1, 6] (lm' := [(0, tR (some (h0))), (1, tI (l1)), (2, tI (l2)), (3, tI (l5)), (4, tI (v5)), (5, tI (l5))]) rfl ?_
      exact w_X8_look_j78 hE C hxn e_84 _ _ _ _ _ _ _ _ _ h hI hO
theorem w_X8_look_l45 {E : E0} (hE : EOK E) {X : X0} (C : XOK E X cX8_look RX8 7 (some .int) rm_X8_look) (hxn : xn X = (rm_X8_look.cells, rm_X8_look.slots)) {KE : ((Int32 × Int32 × Int32)) → Hp → Prop} (e_84 : ∀ (l1 : Int32) (l3 : Int32) (l4 : Int32) (σ : Hp), KE ((l1, l3, l4)) σ → G E X 0 0 84 [(1, tI (l1)), (3, tI (l3)), (4, tI (l4))] [] σ) {v : Nat × Int32 × Int32 × Int32 × Int32 × Int32} {σ : Hp} {e : (Int32 × Int32 × Int32)} {σ1 : Hp} (h : s_X8_look_l45 v σ = some (e, σ1)) (hO : KE e σ1) : G E X 0 0 45 [(0, tR (some ((v.1)))), (1, tI ((v.2.1))), (2, tI ((v.2.2.1))), (3, tI ((v.2.2.2.1))), (4, tI ((v.2.2.2.2.1))), (5, tI ((v.2.2.2.2.2)))] [] σ := loopF_ind (P := fun (v : Nat × Int32 × Int32 × Int32 × Int32 × Int32) (σ : Hp) => G E X 0 0 45 [(0, tR (some ((v.1)))), (1, tI ((v.2.1))), (2, tI ((v.2.2.1))), (3, tI ((v.2.2.2.1))), (4, tI ((v.2.2.2.2.1))), (5, tI ((v.2.2.2.2.2)))] [] σ) (KE := KE) (fun v σ x σ1 h hI hO => w_X8_look_b45 hE C hxn e_84 (v.1) (v.2.1) (v.2.2.1) (v.2.2.2.1) (v.2.2.2.2.1) (v.2.2.2.2.2) σ x σ1 h hI hO) v σ e σ1 h hO
noncomputable def s_X8_look (h0 : Nat) (p1 : Int32) (σ : Hp) : Option (Int32 × Hp) :=
  if p1 < 0 then
    some (((-1)), σ)
  else
    if p1 ≤ 1 then
      (rdR 8 σ h0 10).bind fun r1 =>
      (rdR 8 σ h0 0).bind fun r2 =>
      (r1).bind fun a3 =>
      (ck 2 σ a3).bind fun u4 =>
      cb (s_X2_whoCanBe a3 (r2) σ) fun v6 σ5 =>
      if v6 = 0 then
        some (((-1)), σ5)
      else
        (rdR 8 σ5 h0 10).bind fun r7 =>
        (r7).bind fun a8 =>
        (ck 2 σ5 a8).bind fun u9 =>
        cb (s_X2_mostTogether a8 (v6) (0) σ5) fun v11 σ10 =>
        cb (s_X8_look_l45 ((h0), (p1), (v6), (0), (v11), (1)) σ10) fun e19 σ18 =>
        match e19 with
        | (l112, l313, l414) =>
          if l112 = 0 then
            some ((l313), σ18)
          else
            some ((l414), σ18)
    else
      some (((-1)), σ)
set_option maxRecDepth 100000 in
theorem c_X8_look {E : E0} (hE : EOK E) {h0 : Nat} {p1 : Int32} {σ σ1 : Hp} {r : Int32} (h : s_X8_look h0 p1 σ = some (r, σ1)) : CT E yX8_look (.code yX8_look cX8_look 7 (some .int)) rm_X8_look [tR (some (h0)), tI (p1)] σ (some (tI r)) σ1 := by
  refine CT.mk hE (by decide +kernel) (Nat.le_of_ble_eq_true rfl) [(0, tR (some (h0))), (1, tI (p1))] rfl (fun X C hin hx hxn => ?_)
  have C : XOK E X cX8_look RX8 7 (some .int) rm_X8_look := C
  unfold s_X8_look at h
  refine g_iload_n (pc := 0) C 1 1 dX8_look_0 rfl rfl ?_
  refine g_if_lt (pc := 1) C 9 dX8_look_1 (by decide) (fun c22 => ?_) (fun c22 => ?_)
  · have h := zif_t c22 h
    refine g_iconst (v := (-1)) (pc := 9) C dX8_look_9 (by decide) ?_
    obtain ⟨rfl, rfl⟩ := zsome h
    exact g_iret (pc := 10) C rfl hx (by rw [hxn]; rfl) (by rw [hxn]; rfl) dX8_look_10
  · have h := zif_f c22 h
    refine g_iload_n (pc := 4) C 1 1 dX8_look_4 rfl rfl ?_
    refine g_iconst (v := 1) (pc := 5) C dX8_look_5 (by decide) ?_
    refine g_icmp_le (pc := 6) C 11 dX8_look_6 (by decide) (fun c21 => ?_) (fun c21 => ?_)
    · have h := zif_t c21 h
      refine g_aload_n (pc := 11) C 0 0 dX8_look_11 rfl rfl ?_
      obtain ⟨r1, hvr1, h⟩ := zbind h
      refine g_getR (N := 19) (pc := 12) C ck_8 hvr1 rfl rfl fl_X8_64 dX8_look_12 ?_
      refine g_aload_n (pc := 15) C 0 0 dX8_look_15 rfl rfl ?_
      obtain ⟨r2, hvr2, h⟩ := zbind h
      refine g_getR (N := 19) (pc := 16) C ck_8 hvr2 rfl rfl fl_X8_12 dX8_look_16 ?_
      obtain ⟨a3, hqa3, h9⟩ := zbind h
      clear h
      subst hqa3
      have h := h9
      clear h9
      obtain ⟨u4, hvu4, h⟩ := zbind h
      obtain ⟨v6, σ5, hvσ5, h⟩ := zcb h
      refine g_callV (pc := 19) (av := [tR (r2)]) C (c_X2_whoCanBe hE hvσ5) yv_X2_whoCanBe ml_X8_371 ck_2 (zopt hvu4).1 rfl (rf_of (by decide)) rfl (Nat.le_of_ble_eq_true rfl) dX8_look_19 ?_
      refine g_istore_n (lm' := [(2, tI (v6)), (0, tR (some (h0))), (1, tI (p1))]) (pc := 22) C 2 dX8_look_22 rfl (by decide) rfl ?_
      refine g_iload_n (pc := 23) C 2 0 dX8_look_23 rfl rfl ?_
      refine g_if_ne (pc := 24) C 29 dX8_look_24 (by decide) (fun c20 => ?_) (fun c20 => ?_)
      · have h := zif_f c20 h
        refine g_iconst (v := 0) (pc := 29) C dX8_look_29 (by decide) ?_
        refine g_istore_n (lm' := [(3, tI (0)), (2, tI (v6)), (0, tR (some (h0))), (1, tI (p1))]) (pc := 30) C 3 dX8_look_30 rfl (by decide) rfl ?_
        refine g_aload_n (pc := 31) C 0 2 dX8_look_31 rfl rfl ?_
        obtain ⟨r7, hvr7, h⟩ := zbind h
        refine g_getR (N := 19) (pc := 32) C ck_8 hvr7 rfl rfl fl_X8_64 dX8_look_32 ?_
        refine g_iload_n (pc := 35) C 2 1 dX8_look_35 rfl rfl ?_
        refine g_iconst (v := 0) (pc := 36) C dX8_look_36 (by decide) ?_
        obtain ⟨a8, hqa8, h9⟩ := zbind h
        clear h
        subst hqa8
        have h := h9
        clear h9
        obtain ⟨u9, hvu9, h⟩ := zbind h
        obtain ⟨v11, σ10, hvσ10, h⟩ := zcb h
        refine g_callV (pc := 37) (av := [tI (v6), tI (0)]) C (c_X2_mostTogether hE hvσ10) yv_X2_mostTogether ml_X8_374 ck_2 (zopt hvu9).1 rfl (rf_of (by decide)) rfl (Nat.le_of_ble_eq_true rfl) dX8_look_37 ?_
        refine g_istore (lm' := [(4, tI (v11)), (3, tI (0)), (2, tI (v6)), (0, tR (some (h0))), (1, tI (p1))]) (pc := 40) C dX8_look_40 (by decide) rfl ?_
        refine g_iconst (v := 1) (pc := 42) C dX8_look_42 (by decide) ?_
        refine g_istore (lm' := [(5, tI (1)), (4, tI (v11)), (3, tI (0)), (2, tI (v6)), (0, tR (some (h0))), (1, tI (p1))]) (pc := 43) C dX8_look_43 (by decide) rfl ?_
        refine g_sub [4, 5, 3, 2, 1, 0] (lm' := [(0, tR (some (h0))), (1, tI (p1)), (2, tI (v6)), (3, tI (0)), (4, tI (v11)), (5, tI (1))]) rfl ?_
        obtain ⟨KQ, hKQ, e19, σ18, hle19, h⟩ := zcbK h
        refine w_X8_look_l45 (KE := KQ) hE C hxn ?_ hle19 h
        · intro l112 l313 l414 σ15 h
          have h := (hKQ _ _).mp h
          refine g_iload_n (pc := 84) C 1 0 dX8_look_84 rfl rfl ?_
          refine g_if_ne (pc := 85) C 92 dX8_look_85 (by decide) (fun c16 => ?_) (fun c16 => ?_)
          · have h := zif_f c16 h
            refine g_iload (pc := 92) C 2 dX8_look_92 rfl ?_
            obtain ⟨rfl, rfl⟩ := zsome h
            exact g_iret (pc := 94) C rfl hx (by rw [hxn]; rfl) (by rw [hxn]; rfl) dX8_look_94
          · have h := zif_t c16 h
            refine g_iload_n (pc := 88) C 3 1 dX8_look_88 rfl rfl ?_
            refine g_goto (pc := 89) C 94 dX8_look_89 (by decide) ?_
            obtain ⟨rfl, rfl⟩ := zsome h
            exact g_iret (pc := 94) C rfl hx (by rw [hxn]; rfl) (by rw [hxn]; rfl) dX8_look_94
      · have h := zif_t c20 h
        refine g_iconst (v := (-1)) (pc := 27) C dX8_look_27 (by decide) ?_
        obtain ⟨rfl, rfl⟩ := zsome h
        exact g_iret (pc := 28) C rfl hx (by rw [hxn]; rfl) (by rw [hxn]; rfl) dX8_look_28
    · have h := zif_f c21 h
      refine g_iconst (v := (-1)) (pc := 9) C dX8_look_9 (by decide) ?_
      obtain ⟨rfl, rfl⟩ := zsome h
      exact g_iret (pc := 10) C rfl hx (by rw [hxn]; rfl) (by rw [hxn]; rfl) dX8_look_10
def rm_X8_few : Room := { frames := 2, cells := 0, slots := 0, locals := 52 }
noncomputable def s_X8_few (h0 : Nat) (p1 : Int32) (p2 : Int32) (σ : Hp) : Option (Int64 × Hp) :=
  if p1 < 1 then
    some (((-1)), σ)
  else
    if 20 < p1 then
      some (((-1)), σ)
    else
      if p2 < 0 then
        some (((-1)), σ)
      else
        if p2 ≤ 99 then
          (rdR 8 σ h0 10).bind fun r1 =>
          (rdR 8 σ h0 0).bind fun r2 =>
          (r2).bind fun a3 =>
          (rdR 1 σ a3 10).bind fun r4 =>
          (r4).bind fun a5 =>
          (ldI 11 σ a5 (1)).bind fun v6 =>
          (r1).bind fun a7 =>
          (ck 2 σ a7).bind fun u8 =>
          cb (s_X2_chanceOfFew a7 (p1) (p2) (v6) σ) fun v10 σ9 =>
          some ((v10), σ9)
        else
          some (((-1)), σ)
set_option maxRecDepth 100000 in
theorem c_X8_few {E : E0} (hE : EOK E) {h0 : Nat} {p1 : Int32} {p2 : Int32} {σ σ1 : Hp} {r : Int64} (h : s_X8_few h0 p1 p2 σ = some (r, σ1)) : CT E yX8_few (.code yX8_few cX8_few 3 (some .long)) rm_X8_few [tR (some (h0)), tI (p1), tI (p2)] σ (some (tJ r)) σ1 := by
  refine CT.mk hE (by decide +kernel) (Nat.le_of_ble_eq_true rfl) [(0, tR (some (h0))), (1, tI (p1)), (2, tI (p2))] rfl (fun X C hin hx hxn => ?_)
  have C : XOK E X cX8_few RX8 3 (some .long) rm_X8_few := C
  unfold s_X8_few at h
  refine g_iload_n (pc := 0) C 1 1 dX8_few_0 rfl rfl ?_
  refine g_iconst (v := 1) (pc := 1) C dX8_few_1 (by decide) ?_
  refine g_icmp_lt (pc := 2) C 21 dX8_few_2 (by decide) (fun c14 => ?_) (fun c14 => ?_)
  · have h := zif_t c14 h
    refine g_ldc2 (v := (-1)) (pc := 21) C dX8_few_21 kl_X8_377 ?_
    obtain ⟨rfl, rfl⟩ := zsome h
    exact g_lret (pc := 24) C rfl hx (by rw [hxn]; rfl) (by rw [hxn]; rfl) dX8_few_24
  · have h := zif_f c14 h
    refine g_iload_n (pc := 5) C 1 1 dX8_few_5 rfl rfl ?_
    refine g_bipush (v := 20) (pc := 6) C dX8_few_6 (by decide) ?_
    refine g_icmp_gt (pc := 8) C 21 dX8_few_8 (by decide) (fun c13 => ?_) (fun c13 => ?_)
    · have h := zif_t c13 h
      refine g_ldc2 (v := (-1)) (pc := 21) C dX8_few_21 kl_X8_377 ?_
      obtain ⟨rfl, rfl⟩ := zsome h
      exact g_lret (pc := 24) C rfl hx (by rw [hxn]; rfl) (by rw [hxn]; rfl) dX8_few_24
    · have h := zif_f c13 h
      refine g_iload_n (pc := 11) C 2 2 dX8_few_11 rfl rfl ?_
      refine g_if_lt (pc := 12) C 21 dX8_few_12 (by decide) (fun c12 => ?_) (fun c12 => ?_)
      · have h := zif_t c12 h
        refine g_ldc2 (v := (-1)) (pc := 21) C dX8_few_21 kl_X8_377 ?_
        obtain ⟨rfl, rfl⟩ := zsome h
        exact g_lret (pc := 24) C rfl hx (by rw [hxn]; rfl) (by rw [hxn]; rfl) dX8_few_24
      · have h := zif_f c12 h
        refine g_iload_n (pc := 15) C 2 2 dX8_few_15 rfl rfl ?_
        refine g_bipush (v := 99) (pc := 16) C dX8_few_16 (by decide) ?_
        refine g_icmp_le (pc := 18) C 25 dX8_few_18 (by decide) (fun c11 => ?_) (fun c11 => ?_)
        · have h := zif_t c11 h
          refine g_aload_n (pc := 25) C 0 0 dX8_few_25 rfl rfl ?_
          obtain ⟨r1, hvr1, h⟩ := zbind h
          refine g_getR (N := 19) (pc := 26) C ck_8 hvr1 rfl rfl fl_X8_64 dX8_few_26 ?_
          refine g_iload_n (pc := 29) C 1 1 dX8_few_29 rfl rfl ?_
          refine g_iload_n (pc := 30) C 2 2 dX8_few_30 rfl rfl ?_
          refine g_aload_n (pc := 31) C 0 0 dX8_few_31 rfl rfl ?_
          obtain ⟨r2, hvr2, h⟩ := zbind h
          refine g_getR (N := 19) (pc := 32) C ck_8 hvr2 rfl rfl fl_X8_12 dX8_few_32 ?_
          obtain ⟨a3, hqa3, h9⟩ := zbind h
          clear h
          subst hqa3
          have h := h9
          clear h9
          obtain ⟨r4, hvr4, h⟩ := zbind h
          refine g_getR (N := 20) (pc := 35) C ck_1 hvr4 rfl rfl fl_X8_132 dX8_few_35 ?_
          refine g_iconst (v := 1) (pc := 38) C dX8_few_38 (by decide) ?_
          obtain ⟨a5, hqa5, h9⟩ := zbind h
          clear h
          subst hqa5
          have h := h9
          clear h9
          obtain ⟨v6, hvv6, h⟩ := zbind h
          refine g_iald (pc := 39) C hvv6 dX8_few_39 ?_
          obtain ⟨a7, hqa7, h9⟩ := zbind h
          clear h
          subst hqa7
          have h := h9
          clear h9
          obtain ⟨u8, hvu8, h⟩ := zbind h
          obtain ⟨v10, σ9, hvσ9, h⟩ := zcb h
          refine g_callV (pc := 40) (av := [tI (p1), tI (p2), tI (v6)]) C (c_X2_chanceOfFew hE hvσ9) yv_X2_chanceOfFew ml_X8_379 ck_2 (zopt hvu8).1 rfl (rf_of (by decide)) rfl (Nat.le_of_ble_eq_true rfl) dX8_few_40 ?_
          obtain ⟨rfl, rfl⟩ := zsome h
          exact g_lret (pc := 43) C rfl hx (by rw [hxn]; rfl) (by rw [hxn]; rfl) dX8_few_43
        · have h := zif_f c11 h
          refine g_ldc2 (v := (-1)) (pc := 21) C dX8_few_21 kl_X8_377 ?_
          obtain ⟨rfl, rfl⟩ := zsome h
          exact g_lret (pc := 24) C rfl hx (by rw [hxn]; rfl) (by rw [hxn]; rfl) dX8_few_24
def rm_X8_compare : Room := { frames := 4, cells := 0, slots := 0, locals := 106 }
noncomputable def s_X8_compare_j44 (h0 : Nat) (l2 : Int32) (t0 : Option Nat) (σ : Hp) : Option (Int32 × Hp) :=
  (rdR 8 σ h0 0).bind fun r1 =>
  (rdR 8 σ h0 0).bind fun r2 =>
  (r2).bind fun a3 =>
  (rdR 1 σ a3 10).bind fun r4 =>
  (r4).bind fun a5 =>
  (ldI 11 σ a5 (0)).bind fun v6 =>
  (r1).bind fun a7 =>
  (ck 1 σ a7).bind fun u8 =>
  cb (s_X1_theirsBy a7 (t0) (l2) (v6) σ) fun v10 σ9 =>
  some ((v10), σ9)
set_option maxRecDepth 100000 in
theorem w_X8_compare_j44 {E : E0} (hE : EOK E) {X : X0} (C : XOK E X cX8_compare RX8 4 (some .int) rm_X8_compare) (hxn : xn X = (rm_X8_compare.cells, rm_X8_compare.slots)) (h0 : Nat) (l2 : Int32) (t0 : Option Nat) (σ : Hp) (r : Int32) (σ1 : Hp) (h : s_X8_compare_j44 h0 l2 t0 σ = some (r, σ1)) (hx : xd X = (some (tI r), σ1)) : G E X 0 0 44 [(0, tR (some (h0))), (2, tI (l2))] [tR (t0)] σ := by
  unfold s_X8_compare_j44 at h
  refine g_astore_n (lm' := [(3, tR (t0)), (0, tR (some (h0))), (2, tI (l2))]) (pc := 44) C 3 dX8_compare_44 rfl (by decide) rfl ?_
  refine g_aload_n (pc := 45) C 0 1 dX8_compare_45 rfl rfl ?_
  obtain ⟨r1, hvr1, h⟩ := zbind h
  refine g_getR (N := 19) (pc := 46) C ck_8 hvr1 rfl rfl fl_X8_12 dX8_compare_46 ?_
  refine g_aload_n (pc := 49) C 3 0 dX8_compare_49 rfl rfl ?_
  refine g_iload_n (pc := 50) C 2 2 dX8_compare_50 rfl rfl ?_
  refine g_aload_n (pc := 51) C 0 1 dX8_compare_51 rfl rfl ?_
  obtain ⟨r2, hvr2, h⟩ := zbind h
  refine g_getR (N := 19) (pc := 52) C ck_8 hvr2 rfl rfl fl_X8_12 dX8_compare_52 ?_
  obtain ⟨a3, hqa3, h9⟩ := zbind h
  clear h
  subst hqa3
  have h := h9
  clear h9
  obtain ⟨r4, hvr4, h⟩ := zbind h
  refine g_getR (N := 20) (pc := 55) C ck_1 hvr4 rfl rfl fl_X8_132 dX8_compare_55 ?_
  refine g_iconst (v := 0) (pc := 58) C dX8_compare_58 (by decide) ?_
  obtain ⟨a5, hqa5, h9⟩ := zbind h
  clear h
  subst hqa5
  have h := h9
  clear h9
  obtain ⟨v6, hvv6, h⟩ := zbind h
  refine g_iald (pc := 59) C hvv6 dX8_compare_59 ?_
  obtain ⟨a7, hqa7, h9⟩ := zbind h
  clear h
  subst hqa7
  have h := h9
  clear h9
  obtain ⟨u8, hvu8, h⟩ := zbind h
  obtain ⟨v10, σ9, hvσ9, h⟩ := zcb h
  refine g_callV (pc := 60) (av := [tR (t0), tI (l2), tI (v6)]) C (c_X1_theirsBy hE hvσ9) yv_X1_theirsBy ml_X8_193 ck_1 (zopt hvu8).1 rfl (rf_of (by decide)) rfl (Nat.le_of_ble_eq_true rfl) dX8_compare_60 ?_
  obtain ⟨rfl, rfl⟩ := zsome h
  exact g_iret (pc := 63) C rfl hx (by rw [hxn]; rfl) (by rw [hxn]; rfl) dX8_compare_63
noncomputable def s_X8_compare_j26 (h0 : Nat) (l1 : Int32) (l2 : Int32) (σ : Hp) : Option (Int32 × Hp) :=
  if l1 = (-1) then
    s_X8_compare_j44 (h0) (l2) (none) σ
  else
    (rdR 8 σ h0 0).bind fun r1 =>
    (r1).bind fun a2 =>
    (rdR 1 σ a2 11).bind fun r3 =>
    (r3).bind fun a4 =>
    (ldR 15 σ a4 (l1)).bind fun r5 =>
    s_X8_compare_j44 (h0) (l2) (r5) σ
set_option maxRecDepth 100000 in
theorem w_X8_compare_j26 {E : E0} (hE : EOK E) {X : X0} (C : XOK E X cX8_compare RX8 4 (some .int) rm_X8_compare) (hxn : xn X = (rm_X8_compare.cells, rm_X8_compare.slots)) (h0 : Nat) (l1 : Int32) (l2 : Int32) (σ : Hp) (r : Int32) (σ1 : Hp) (h : s_X8_compare_j26 h0 l1 l2 σ = some (r, σ1)) (hx : xd X = (some (tI r), σ1)) : G E X 0 0 26 [(0, tR (some (h0))), (1, tI (l1)), (2, tI (l2))] [] σ := by
  unfold s_X8_compare_j26 at h
  refine g_iload_n (pc := 26) C 1 1 dX8_compare_26 rfl rfl ?_
  refine g_iconst (v := (-1)) (pc := 27) C dX8_compare_27 (by decide) ?_
  refine g_icmp_ne (pc := 28) C 35 dX8_compare_28 (by decide) (fun c6 => ?_) (fun c6 => ?_)
  · have h := zif_f c6 h
    refine g_aload_n (pc := 35) C 0 0 dX8_compare_35 rfl rfl ?_
    obtain ⟨r1, hvr1, h⟩ := zbind h
    refine g_getR (N := 19) (pc := 36) C ck_8 hvr1 rfl rfl fl_X8_12 dX8_compare_36 ?_
    obtain ⟨a2, hqa2, h9⟩ := zbind h
    clear h
    subst hqa2
    have h := h9
    clear h9
    obtain ⟨r3, hvr3, h⟩ := zbind h
    refine g_getR (N := 20) (pc := 39) C ck_1 hvr3 rfl rfl fl_X8_236 dX8_compare_39 ?_
    refine g_iload_n (pc := 42) C 1 1 dX8_compare_42 rfl rfl ?_
    obtain ⟨a4, hqa4, h9⟩ := zbind h
    clear h
    subst hqa4
    have h := h9
    clear h9
    obtain ⟨r5, hvr5, h⟩ := zbind h
    refine g_aald15 (pc := 43) C hvr5 dX8_compare_43 ?_
    refine g_sub [0, 2] (lm' := [(0, tR (some (h0))), (2, tI (l2))]) rfl ?_
    exact w_X8_compare_j44 hE C hxn _ _ _ _ _ _ h hx
  · have h := zif_t c6 h
    refine g_null (pc := 31) C dX8_compare_31 ?_
    refine g_goto (pc := 32) C 44 dX8_compare_32 (by decide) ?_
    refine g_sub [0, 2] (lm' := [(0, tR (some (h0))), (2, tI (l2))]) rfl ?_
    exact w_X8_compare_j44 hE C hxn _ _ _ _ _ _ h hx
noncomputable def s_X8_compare (h0 : Nat) (p1 : Int32) (p2 : Int32) (σ : Hp) : Option (Int32 × Hp) :=
  cb (s_X8_isRoom (Int32.toInt64 (p2 : Int32)) σ) fun v2 σ1 =>
  if v2 = 0 then
    some (((-1)), σ1)
  else
    if p1 = (-1) then
      s_X8_compare_j26 (h0) (p1) (p2) σ1
    else
      (rdR 8 σ1 h0 0).bind fun r3 =>
      (r3).bind fun a4 =>
      (ck 1 σ1 a4).bind fun u5 =>
      cb (s_X1_isLaw a4 (p1) σ1) fun v7 σ6 =>
      if v7 = 0 then
        some (((-1)), σ6)
      else
        s_X8_compare_j26 (h0) (p1) (p2) σ6
set_option maxRecDepth 100000 in
theorem c_X8_compare {E : E0} (hE : EOK E) {h0 : Nat} {p1 : Int32} {p2 : Int32} {σ σ1 : Hp} {r : Int32} (h : s_X8_compare h0 p1 p2 σ = some (r, σ1)) : CT E yX8_compare (.code yX8_compare cX8_compare 4 (some .int)) rm_X8_compare [tR (some (h0)), tI (p1), tI (p2)] σ (some (tI r)) σ1 := by
  refine CT.mk hE (by decide +kernel) (Nat.le_of_ble_eq_true rfl) [(0, tR (some (h0))), (1, tI (p1)), (2, tI (p2))] rfl (fun X C hin hx hxn => ?_)
  have C : XOK E X cX8_compare RX8 4 (some .int) rm_X8_compare := C
  unfold s_X8_compare at h
  refine g_iload_n (pc := 0) C 2 2 dX8_compare_0 rfl rfl ?_
  refine g_i2l (pc := 1) C dX8_compare_1 ?_
  obtain ⟨v2, σ1, hvσ1, h⟩ := zcb h
  refine g_callS (pc := 2) (av := [tJ (Int32.toInt64 (p2 : Int32))]) C (c_X8_isRoom hE hvσ1) ys_X8_isRoom ml_X8_95 rfl (rf_of (by decide)) rfl (Nat.le_of_ble_eq_true rfl) dX8_compare_2 ?_
  refine g_if_eq (pc := 5) C 24 dX8_compare_5 (by decide) (fun c10 => ?_) (fun c10 => ?_)
  · have h := zif_t c10 h
    refine g_iconst (v := (-1)) (pc := 24) C dX8_compare_24 (by decide) ?_
    obtain ⟨rfl, rfl⟩ := zsome h
    exact g_iret (pc := 25) C rfl hx (by rw [hxn]; rfl) (by rw [hxn]; rfl) dX8_compare_25
  · have h := zif_f c10 h
    refine g_iload_n (pc := 8) C 1 1 dX8_compare_8 rfl rfl ?_
    refine g_iconst (v := (-1)) (pc := 9) C dX8_compare_9 (by decide) ?_
    refine g_icmp_eq (pc := 10) C 26 dX8_compare_10 (by decide) (fun c9 => ?_) (fun c9 => ?_)
    · have h := zif_t c9 h
      exact w_X8_compare_j26 hE C hxn _ _ _ _ _ _ h hx
    · have h := zif_f c9 h
      refine g_aload_n (pc := 13) C 0 0 dX8_compare_13 rfl rfl ?_
      obtain ⟨r3, hvr3, h⟩ := zbind h
      refine g_getR (N := 19) (pc := 14) C ck_8 hvr3 rfl rfl fl_X8_12 dX8_compare_14 ?_
      refine g_iload_n (pc := 17) C 1 1 dX8_compare_17 rfl rfl ?_
      obtain ⟨a4, hqa4, h9⟩ := zbind h
      clear h
      subst hqa4
      have h := h9
      clear h9
      obtain ⟨u5, hvu5, h⟩ := zbind h
      obtain ⟨v7, σ6, hvσ6, h⟩ := zcb h
      refine g_callV (pc := 18) (av := [tI (p1)]) C (c_X1_isLaw hE hvσ6) yv_X1_isLaw ml_X8_290 ck_1 (zopt hvu5).1 rfl (rf_of (by decide)) rfl (Nat.le_of_ble_eq_true rfl) dX8_compare_18 ?_
      refine g_if_ne (pc := 21) C 26 dX8_compare_21 (by decide) (fun c8 => ?_) (fun c8 => ?_)
      · have h := zif_f c8 h
        exact w_X8_compare_j26 hE C hxn _ _ _ _ _ _ h hx
      · have h := zif_t c8 h
        refine g_iconst (v := (-1)) (pc := 24) C dX8_compare_24 (by decide) ?_
        obtain ⟨rfl, rfl⟩ := zsome h
        exact g_iret (pc := 25) C rfl hx (by rw [hxn]; rfl) (by rw [hxn]; rfl) dX8_compare_25
def rm_X8_drawnFrom : Room := { frames := 0, cells := 0, slots := 0, locals := 0 }
noncomputable def s_X8_drawnFrom (p0 : Int32) (σ : Hp) : Option (Int32 × Hp) :=
  some ((Int64.toInt32 ((((Int32.toInt64 (p0 : Int32)) * 1103) + 12345) - (((Int32.toInt64 (p0 : Int32)) * 1103) + 12345) / 1000003 * 1000003 : Int64)), σ)
set_option maxRecDepth 100000 in
theorem c_X8_drawnFrom {E : E0} (hE : EOK E) {p0 : Int32} {σ σ1 : Hp} {r : Int32} (h : s_X8_drawnFrom p0 σ = some (r, σ1)) : CT E yX8_drawnFrom (.code yX8_drawnFrom cX8_drawnFrom 1 (some .int)) rm_X8_drawnFrom [tI (p0)] σ (some (tI r)) σ1 := by
  refine CT.mk hE (by decide +kernel) (Nat.le_of_ble_eq_true rfl) [(0, tI (p0))] rfl (fun X C hin hx hxn => ?_)
  have C : XOK E X cX8_drawnFrom RX8 1 (some .int) rm_X8_drawnFrom := C
  unfold s_X8_drawnFrom at h
  refine g_iload_n (pc := 0) C 0 0 dX8_drawnFrom_0 rfl rfl ?_
  refine g_i2l (pc := 1) C dX8_drawnFrom_1 ?_
  refine g_ldc2 (v := 1103) (pc := 2) C dX8_drawnFrom_2 kl_X8_387 ?_
  refine g_lmul (pc := 5) C dX8_drawnFrom_5 ?_
  refine g_ldc2 (v := 12345) (pc := 6) C dX8_drawnFrom_6 kl_X8_389 ?_
  refine g_ladd (pc := 9) C dX8_drawnFrom_9 ?_
  refine g_ldc2 (v := 1000003) (pc := 10) C dX8_drawnFrom_10 kl_X8_391 ?_
  refine g_lrem (pc := 13) C dX8_drawnFrom_13 (by decide) ?_
  refine g_l2i (pc := 14) C dX8_drawnFrom_14 ?_
  obtain ⟨rfl, rfl⟩ := zsome h
  exact g_iret (pc := 15) C rfl hx (by rw [hxn]; rfl) (by rw [hxn]; rfl) dX8_drawnFrom_15
def rm_X8_dusks : Room := { frames := 5, cells := 0, slots := 0, locals := 134 }
noncomputable def s_X8_dusks_j22 (h0 : Nat) (σ : Hp) : Option (Int32 × Hp) :=
  (ck 8 σ h0).bind fun u1 =>
  cb (s_X8_refuse h0 ((-1)) σ) fun v3 σ2 =>
  some ((v3), σ2)
set_option maxRecDepth 100000 in
theorem w_X8_dusks_j22 {E : E0} (hE : EOK E) {X : X0} (C : XOK E X cX8_dusks RX8 7 (some .int) rm_X8_dusks) (hxn : xn X = (rm_X8_dusks.cells, rm_X8_dusks.slots)) (h0 : Nat) (σ : Hp) (r : Int32) (σ1 : Hp) (h : s_X8_dusks_j22 h0 σ = some (r, σ1)) (hx : xd X = (some (tI r), σ1)) : G E X 0 0 22 [(0, tR (some (h0)))] [] σ := by
  unfold s_X8_dusks_j22 at h
  refine g_aload_n (pc := 22) C 0 0 dX8_dusks_22 rfl rfl ?_
  refine g_iconst (v := (-1)) (pc := 23) C dX8_dusks_23 (by decide) ?_
  obtain ⟨u1, hvu1, h⟩ := zbind h
  obtain ⟨v3, σ2, hvσ2, h⟩ := zcb h
  refine g_callV (pc := 24) (av := [tI ((-1))]) C (c_X8_refuse hE hvσ2) yv_X8_refuse ml_X8_99 ck_8 (zopt hvu1).1 rfl (rf_of (by decide)) rfl (Nat.le_of_ble_eq_true rfl) dX8_dusks_24 ?_
  obtain ⟨rfl, rfl⟩ := zsome h
  exact g_iret (pc := 27) C rfl hx (by rw [hxn]; rfl) (by rw [hxn]; rfl) dX8_dusks_27
noncomputable def s_X8_dusks_j53 (h0 : Nat) (σ : Hp) : Option (Int32 × Hp) :=
  (ck 8 σ h0).bind fun u1 =>
  cb (s_X8_refuse h0 ((-3)) σ) fun v3 σ2 =>
  some ((v3), σ2)
set_option maxRecDepth 100000 in
theorem w_X8_dusks_j53 {E : E0} (hE : EOK E) {X : X0} (C : XOK E X cX8_dusks RX8 7 (some .int) rm_X8_dusks) (hxn : xn X = (rm_X8_dusks.cells, rm_X8_dusks.slots)) (h0 : Nat) (σ : Hp) (r : Int32) (σ1 : Hp) (h : s_X8_dusks_j53 h0 σ = some (r, σ1)) (hx : xd X = (some (tI r), σ1)) : G E X 0 0 53 [(0, tR (some (h0)))] [] σ := by
  unfold s_X8_dusks_j53 at h
  refine g_aload_n (pc := 53) C 0 0 dX8_dusks_53 rfl rfl ?_
  refine g_bipush (v := (-3)) (pc := 54) C dX8_dusks_54 (by decide) ?_
  obtain ⟨u1, hvu1, h⟩ := zbind h
  obtain ⟨v3, σ2, hvσ2, h⟩ := zcb h
  refine g_callV (pc := 56) (av := [tI ((-3))]) C (c_X8_refuse hE hvσ2) yv_X8_refuse ml_X8_99 ck_8 (zopt hvu1).1 rfl (rf_of (by decide)) rfl (Nat.le_of_ble_eq_true rfl) dX8_dusks_56 ?_
  obtain ⟨rfl, rfl⟩ := zsome h
  exact g_iret (pc := 59) C rfl hx (by rw [hxn]; rfl) (by rw [hxn]; rfl) dX8_dusks_59
noncomputable def s_X8_dusks_j175 (h0 : Nat) (l2 : Int32) (l3 : Int32) (l4 : Int32) (σ : Hp) : Option (((Nat × Int32 × Int32 × Int32) ⊕ (Nat)) × Hp) :=
  (rdR 8 σ h0 2).bind fun r1 =>
  (r1).bind fun a2 =>
  (ck 1 σ a2).bind fun u3 =>
  cb (s_X1_passHour a2 σ) fun v5 σ4 =>
  some (Sum.inl ((h0), (l2), (l3), (l4 + 1)), σ4)
set_option maxRecDepth 100000 in
theorem w_X8_dusks_j175 {E : E0} (hE : EOK E) {X : X0} (C : XOK E X cX8_dusks RX8 7 (some .int) rm_X8_dusks) (hxn : xn X = (rm_X8_dusks.cells, rm_X8_dusks.slots)) {KE : (Nat) → Hp → Prop} (e_189 : ∀ (h0 : Nat) (σ : Hp), KE (h0) σ → G E X 0 0 189 [(0, tR (some (h0)))] [] σ) (h0 : Nat) (l2 : Int32) (l3 : Int32) (l4 : Int32) (σ : Hp) (x : (Nat × Int32 × Int32 × Int32) ⊕ (Nat)) (σ1 : Hp) (h : s_X8_dusks_j175 h0 l2 l3 l4 σ = some (x, σ1)) (hI : ∀ v, x = Sum.inl v → (fun (v : Nat × Int32 × Int32 × Int32) (σ : Hp) => G E X 0 0 81 [(0, tR (some ((v.1)))), (2, tI ((v.2.1))), (3, tI ((v.2.2.1))), (4, tI ((v.2.2.2)))] [] σ) v σ1) (hO : ∀ e, x = Sum.inr e → KE e σ1) : G E X 0 0 175 [(0, tR (some (h0))), (2, tI (l2)), (3, tI (l3)), (4, tI (l4))] [] σ := by
  unfold s_X8_dusks_j175 at h
  refine g_aload_n (pc := 175) C 0 0 dX8_dusks_175 rfl rfl ?_
  obtain ⟨r1, hvr1, h⟩ := zbind h
  refine g_getR (N := 19) (pc := 176) C ck_8 hvr1 rfl rfl fl_X8_19 dX8_dusks_176 ?_
  obtain ⟨a2, hqa2, h9⟩ := zbind h
  clear h
  subst hqa2
  have h := h9
  clear h9
  obtain ⟨u3, hvu3, h⟩ := zbind h
  obtain ⟨v5, σ4, hvσ4, h⟩ := zcb h
  refine g_callV (pc := 179) (av := []) C (c_X1_passHour hE hvσ4) yv_X1_passHour ml_X8_309 ck_1 (zopt hvu3).1 rfl (rf_of (by decide)) rfl (Nat.le_of_ble_eq_true rfl) dX8_dusks_179 ?_
  refine g_pop (pc := 182) C dX8_dusks_182 rfl ?_
  refine g_iinc (lm' := [(4, tI (l4 + 1)), (0, tR (some (h0))), (2, tI (l2)), (3, tI (l3))]) (v := l4 + 1) (pc := 183) C 3 dX8_dusks_183 rfl rfl (by decide) rfl ?_
  refine g_goto (pc := 186) C 81 dX8_dusks_186 (by decide) ?_
  refine g_sub [1, 2, 3, 0] (lm' := [(0, tR (some (h0))), (2, tI (l2)), (3, tI (l3)), (4, tI (l4 + 1))]) rfl ?_
  obtain ⟨rfl, rfl⟩ := zsome h
  exact hI _ rfl
noncomputable def s_X8_dusks_b81 (h0 : Nat) (l2 : Int32) (l3 : Int32) (l4 : Int32) (σ : Hp) : Option (((Nat × Int32 × Int32 × Int32) ⊕ (Nat)) × Hp) :=
  if l2 ≤ l4 then
    some (Sum.inr (h0), σ)
  else
    (rdR 8 σ h0 2).bind fun r1 =>
    (r1).bind fun a2 =>
    (rdR 1 σ a2 10).bind fun r3 =>
    (r3).bind fun a4 =>
    (ldI 11 σ a4 (0)).bind fun v5 =>
    if 999 ≤ v5 then
      some (Sum.inr (h0), σ)
    else
      cb (s_X8_drawnFrom (l3) σ) fun v7 σ6 =>
      (rdR 8 σ6 h0 0).bind fun r8 =>
      (r8).bind fun a9 =>
      (rdI 1 σ6 a9 13).bind fun v10 =>
      (zne (v10 = 0)).bind fun u11 =>
      cb (s_X8_drawnFrom (v7) σ6) fun v13 σ12 =>
      (rdR 8 σ12 h0 0).bind fun r14 =>
      (r14).bind fun a15 =>
      (rdR 1 σ12 a15 0).bind fun r16 =>
      (r16).bind fun a17 =>
      (rdI 3 σ12 a17 3).bind fun v18 =>
      (zne (v18 = 0)).bind fun u19 =>
      cb (s_X8_drawnFrom (v13) σ12) fun v21 σ20 =>
      if (v21 - v21 / 4 * 4) = 3 then
        s_X8_dusks_j175 (h0) (l2) (v21) (l4) σ20
      else
        (rdR 8 σ20 h0 2).bind fun r22 =>
        (r22).bind fun a23 =>
        (ck 1 σ20 a23).bind fun u24 =>
        cb (s_X1_mayStride a23 (v7 - v7 / v10 * v10) (v13 - v13 / v18 * v18) σ20) fun v26 σ25 =>
        if v26 = 0 then
          s_X8_dusks_j175 (h0) (l2) (v21) (l4) σ25
        else
          (rdR 8 σ25 h0 2).bind fun r27 =>
          (r27).bind fun a28 =>
          (rdR 1 σ25 a28 3).bind fun r29 =>
          (r29).bind fun a30 =>
          (stI σ25 a30 (v7 - v7 / v10 * v10) (v13 - v13 / v18 * v18)).bind fun σ31 =>
          s_X8_dusks_j175 (h0) (l2) (v21) (l4) σ31
noncomputable def s_X8_dusks_l81 : (Nat × Int32 × Int32 × Int32) → Hp → Option ((Nat) × Hp) := loopF (fun v => s_X8_dusks_b81 (v.1) (v.2.1) (v.2.2.1) (v.2.2.2))
set_option maxRecDepth 100000 in
theorem w_X8_dusks_b81 {E : E0} (hE : EOK E) {X : X0} (C : XOK E X cX8_dusks RX8 7 (some .int) rm_X8_dusks) (hxn : xn X = (rm_X8_dusks.cells, rm_X8_dusks.slots)) {KE : (Nat) → Hp → Prop} (e_189 : ∀ (h0 : Nat) (σ : Hp), KE (h0) σ → G E X 0 0 189 [(0, tR (some (h0)))] [] σ) (h0 : Nat) (l2 : Int32) (l3 : Int32) (l4 : Int32) (σ : Hp) (x : (Nat × Int32 × Int32 × Int32) ⊕ (Nat)) (σ1 : Hp) (h : s_X8_dusks_b81 h0 l2 l3 l4 σ = some (x, σ1)) (hI : ∀ v, x = Sum.inl v → (fun (v : Nat × Int32 × Int32 × Int32) (σ : Hp) => G E X 0 0 81 [(0, tR (some ((v.1)))), (2, tI ((v.2.1))), (3, tI ((v.2.2.1))), (4, tI ((v.2.2.2)))] [] σ) v σ1) (hO : ∀ e, x = Sum.inr e → KE e σ1) : G E X 0 0 81 [(0, tR (some (h0))), (2, tI (l2)), (3, tI (l3)), (4, tI (l4))] [] σ := by
  unfold s_X8_dusks_b81 at h
  refine g_iload (pc := 81) C 3 dX8_dusks_81 rfl ?_
  refine g_iload_n (pc := 83) C 2 1 dX8_dusks_83 rfl rfl ?_
  refine g_icmp_ge (pc := 84) C 189 dX8_dusks_84 (by decide) (fun c35 => ?_) (fun c35 => ?_)
  · have h := zif_t c35 h
    refine g_sub [0] (lm' := [(0, tR (some (h0)))]) rfl ?_
    obtain ⟨rfl, rfl⟩ := zsome h
    exact e_189 _ _ (hO _ rfl)
  · have h := zif_f c35 h
    refine g_aload_n (pc := 87) C 0 0 dX8_dusks_87 rfl rfl ?_
    obtain ⟨r1, hvr1, h⟩ := zbind h
    refine g_getR (N := 19) (pc := 88) C ck_8 hvr1 rfl rfl fl_X8_19 dX8_dusks_88 ?_
    obtain ⟨a2, hqa2, h9⟩ := zbind h
    clear h
    subst hqa2
    have h := h9
    clear h9
    obtain ⟨r3, hvr3, h⟩ := zbind h
    refine g_getR (N := 20) (pc := 91) C ck_1 hvr3 rfl rfl fl_X8_132 dX8_dusks_91 ?_
    refine g_iconst (v := 0) (pc := 94) C dX8_dusks_94 (by decide) ?_
    obtain ⟨a4, hqa4, h9⟩ := zbind h
    clear h
    subst hqa4
    have h := h9
    clear h9
    obtain ⟨v5, hvv5, h⟩ := zbind h
    refine g_iald (pc := 95) C hvv5 dX8_dusks_95 ?_
    refine g_sipush (v := 999) (pc := 96) C dX8_dusks_96 (by decide) ?_
    refine g_icmp_ge (pc := 99) C 189 dX8_dusks_99 (by decide) (fun c34 => ?_) (fun c34 => ?_)
    · have h := zif_t c34 h
      refine g_sub [0] (lm' := [(0, tR (some (h0)))]) rfl ?_
      obtain ⟨rfl, rfl⟩ := zsome h
      exact e_189 _ _ (hO _ rfl)
    · have h := zif_f c34 h
      refine g_iload_n (pc := 102) C 3 2 dX8_dusks_102 rfl rfl ?_
      obtain ⟨v7, σ6, hvσ6, h⟩ := zcb h
      refine g_callS (pc := 103) (av := [tI (l3)]) C (c_X8_drawnFrom hE hvσ6) ys_X8_drawnFrom ml_X8_384 rfl (rf_of (by decide)) rfl (Nat.le_of_ble_eq_true rfl) dX8_dusks_103 ?_
      refine g_istore_n (lm' := [(3, tI (v7)), (0, tR (some (h0))), (2, tI (l2)), (4, tI (l4))]) (pc := 106) C 3 dX8_dusks_106 rfl (by decide) rfl ?_
      refine g_iload_n (pc := 107) C 3 0 dX8_dusks_107 rfl rfl ?_
      refine g_aload_n (pc := 108) C 0 1 dX8_dusks_108 rfl rfl ?_
      obtain ⟨r8, hvr8, h⟩ := zbind h
      refine g_getR (N := 19) (pc := 109) C ck_8 hvr8 rfl rfl fl_X8_12 dX8_dusks_109 ?_
      obtain ⟨a9, hqa9, h9⟩ := zbind h
      clear h
      subst hqa9
      have h := h9
      clear h9
      obtain ⟨v10, hvv10, h⟩ := zbind h
      refine g_getI (N := 20) (pc := 112) C ck_1 hvv10 rfl rfl fl_X8_142 dX8_dusks_112 ?_
      obtain ⟨u11, hvu11, h⟩ := zbind h
      refine g_irem (pc := 115) C dX8_dusks_115 (zne_h hvu11) ?_
      refine g_istore (lm' := [(5, tI (v7 - v7 / v10 * v10)), (3, tI (v7)), (0, tR (some (h0))), (2, tI (l2)), (4, tI (l4))]) (pc := 116) C dX8_dusks_116 (by decide) rfl ?_
      refine g_iload_n (pc := 118) C 3 1 dX8_dusks_118 rfl rfl ?_
      obtain ⟨v13, σ12, hvσ12, h⟩ := zcb h
      refine g_callS (pc := 119) (av := [tI (v7)]) C (c_X8_drawnFrom hE hvσ12) ys_X8_drawnFrom ml_X8_384 rfl (rf_of (by decide)) rfl (Nat.le_of_ble_eq_true rfl) dX8_dusks_119 ?_
      refine g_istore_n (lm' := [(3, tI (v13)), (5, tI (v7 - v7 / v10 * v10)), (0, tR (some (h0))), (2, tI (l2)), (4, tI (l4))]) (pc := 122) C 3 dX8_dusks_122 rfl (by decide) rfl ?_
      refine g_iload_n (pc := 123) C 3 0 dX8_dusks_123 rfl rfl ?_
      refine g_aload_n (pc := 124) C 0 2 dX8_dusks_124 rfl rfl ?_
      obtain ⟨r14, hvr14, h⟩ := zbind h
      refine g_getR (N := 19) (pc := 125) C ck_8 hvr14 rfl rfl fl_X8_12 dX8_dusks_125 ?_
      obtain ⟨a15, hqa15, h9⟩ := zbind h
      clear h
      subst hqa15
      have h := h9
      clear h9
      obtain ⟨r16, hvr16, h⟩ := zbind h
      refine g_getR (N := 20) (pc := 128) C ck_1 hvr16 rfl rfl fl_X8_103 dX8_dusks_128 ?_
      obtain ⟨a17, hqa17, h9⟩ := zbind h
      clear h
      subst hqa17
      have h := h9
      clear h9
      obtain ⟨v18, hvv18, h⟩ := zbind h
      refine g_getI (N := 4) (pc := 131) C ck_3 hvv18 rfl rfl fl_X8_107 dX8_dusks_131 ?_
      obtain ⟨u19, hvu19, h⟩ := zbind h
      refine g_irem (pc := 134) C dX8_dusks_134 (zne_h hvu19) ?_
      refine g_istore (lm' := [(6, tI (v13 - v13 / v18 * v18)), (3, tI (v13)), (5, tI (v7 - v7 / v10 * v10)), (0, tR (some (h0))), (2, tI (l2)), (4, tI (l4))]) (pc := 135) C dX8_dusks_135 (by decide) rfl ?_
      refine g_iload_n (pc := 137) C 3 1 dX8_dusks_137 rfl rfl ?_
      obtain ⟨v21, σ20, hvσ20, h⟩ := zcb h
      refine g_callS (pc := 138) (av := [tI (v13)]) C (c_X8_drawnFrom hE hvσ20) ys_X8_drawnFrom ml_X8_384 rfl (rf_of (by decide)) rfl (Nat.le_of_ble_eq_true rfl) dX8_dusks_138 ?_
      refine g_istore_n (lm' := [(3, tI (v21)), (6, tI (v13 - v13 / v18 * v18)), (5, tI (v7 - v7 / v10 * v10)), (0, tR (some (h0))), (2, tI (l2)), (4, tI (l4))]) (pc := 141) C 3 dX8_dusks_141 rfl (by decide) rfl ?_
      refine g_iload_n (pc := 142) C 3 0 dX8_dusks_142 rfl rfl ?_
      refine g_iconst (v := 4) (pc := 143) C dX8_dusks_143 (by decide) ?_
      refine g_irem (pc := 144) C dX8_dusks_144 (by decide) ?_
      refine g_iconst (v := 3) (pc := 145) C dX8_dusks_145 (by decide) ?_
      refine g_icmp_eq (pc := 146) C 175 dX8_dusks_146 (by decide) (fun c33 => ?_) (fun c33 => ?_)
      · have h := zif_t c33 h
        refine g_sub [3, 4, 0, 5] (lm' := [(0, tR (some (h0))), (2, tI (l2)), (3, tI (v21)), (4, tI (l4))]) rfl ?_
        exact w_X8_dusks_j175 hE C hxn e_189 _ _ _ _ _ _ _ h hI hO
      · have h := zif_f c33 h
        refine g_aload_n (pc := 149) C 0 3 dX8_dusks_149 rfl rfl ?_
        obtain ⟨r22, hvr22, h⟩ := zbind h
        refine g_getR (N := 19) (pc := 150) C ck_8 hvr22 rfl rfl fl_X8_19 dX8_dusks_150 ?_
        refine g_iload (pc := 153) C 2 dX8_dusks_153 rfl ?_
        refine g_iload (pc := 155) C 1 dX8_dusks_155 rfl ?_
        obtain ⟨a23, hqa23, h9⟩ := zbind h
        clear h
        subst hqa23
        have h := h9
        clear h9
        obtain ⟨u24, hvu24, h⟩ := zbind h
        obtain ⟨v26, σ25, hvσ25, h⟩ := zcb h
        refine g_callV (pc := 157) (av := [tI (v7 - v7 / v10 * v10), tI (v13 - v13 / v18 * v18)]) C (c_X1_mayStride hE hvσ25) yv_X1_mayStride ml_X8_203 ck_1 (zopt hvu24).1 rfl (rf_of (by decide)) rfl (Nat.le_of_ble_eq_true rfl) dX8_dusks_157 ?_
        refine g_if_eq (pc := 160) C 175 dX8_dusks_160 (by decide) (fun c32 => ?_) (fun c32 => ?_)
        · have h := zif_t c32 h
          refine g_sub [3, 4, 0, 5] (lm' := [(0, tR (some (h0))), (2, tI (l2)), (3, tI (v21)), (4, tI (l4))]) rfl ?_
          exact w_X8_dusks_j175 hE C hxn e_189 _ _ _ _ _ _ _ h hI hO
        · have h := zif_f c32 h
          refine g_aload_n (pc := 163) C 0 3 dX8_dusks_163 rfl rfl ?_
          obtain ⟨r27, hvr27, h⟩ := zbind h
          refine g_getR (N := 19) (pc := 164) C ck_8 hvr27 rfl rfl fl_X8_19 dX8_dusks_164 ?_
          obtain ⟨a28, hqa28, h9⟩ := zbind h
          clear h
          subst hqa28
          have h := h9
          clear h9
          obtain ⟨r29, hvr29, h⟩ := zbind h
          refine g_getR (N := 20) (pc := 167) C ck_1 hvr29 rfl rfl fl_X8_148 dX8_dusks_167 ?_
          refine g_iload (pc := 170) C 2 dX8_dusks_170 rfl ?_
          refine g_iload (pc := 172) C 1 dX8_dusks_172 rfl ?_
          obtain ⟨a30, hqa30, h9⟩ := zbind h
          clear h
          subst hqa30
          have h := h9
          clear h9
          obtain ⟨σ31, hvσ31, h⟩ := zbind h
          refine g_iast (pc := 174) C hvσ31 dX8_dusks_174 ?_
          refine g_sub [3, 4, 0, 5] (lm' := [(0, tR (some (h0))), (2, tI (l2)), (3, tI (v21)), (4, tI (l4))]) rfl ?_
          exact w_X8_dusks_j175 hE C hxn e_189 _ _ _ _ _ _ _ h hI hO
theorem w_X8_dusks_l81 {E : E0} (hE : EOK E) {X : X0} (C : XOK E X cX8_dusks RX8 7 (some .int) rm_X8_dusks) (hxn : xn X = (rm_X8_dusks.cells, rm_X8_dusks.slots)) {KE : (Nat) → Hp → Prop} (e_189 : ∀ (h0 : Nat) (σ : Hp), KE (h0) σ → G E X 0 0 189 [(0, tR (some (h0)))] [] σ) {v : Nat × Int32 × Int32 × Int32} {σ : Hp} {e : Nat} {σ1 : Hp} (h : s_X8_dusks_l81 v σ = some (e, σ1)) (hO : KE e σ1) : G E X 0 0 81 [(0, tR (some ((v.1)))), (2, tI ((v.2.1))), (3, tI ((v.2.2.1))), (4, tI ((v.2.2.2)))] [] σ := loopF_ind (P := fun (v : Nat × Int32 × Int32 × Int32) (σ : Hp) => G E X 0 0 81 [(0, tR (some ((v.1)))), (2, tI ((v.2.1))), (3, tI ((v.2.2.1))), (4, tI ((v.2.2.2)))] [] σ) (KE := KE) (fun v σ x σ1 h hI hO => w_X8_dusks_b81 hE C hxn e_189 (v.1) (v.2.1) (v.2.2.1) (v.2.2.2) σ x σ1 h hI hO) v σ e σ1 h hO
noncomputable def s_X8_dusks_j189 (h0 : Nat) (σ : Hp) : Option (Int32 × Hp) :=
  (rdR 8 σ h0 2).bind fun r1 =>
  (r1).bind fun a2 =>
  (rdI 1 σ a2 18).bind fun v3 =>
  (rdR 8 σ h0 0).bind fun r4 =>
  (r4).bind fun a5 =>
  (rdI 1 σ a5 18).bind fun v6 =>
  (ck 8 σ h0).bind fun u7 =>
  cb (s_X8_grant h0 (v3 - v6) σ) fun v9 σ8 =>
  some ((v9), σ8)
set_option maxRecDepth 100000 in
theorem w_X8_dusks_j189 {E : E0} (hE : EOK E) {X : X0} (C : XOK E X cX8_dusks RX8 7 (some .int) rm_X8_dusks) (hxn : xn X = (rm_X8_dusks.cells, rm_X8_dusks.slots)) (h0 : Nat) (σ : Hp) (r : Int32) (σ1 : Hp) (h : s_X8_dusks_j189 h0 σ = some (r, σ1)) (hx : xd X = (some (tI r), σ1)) : G E X 0 0 189 [(0, tR (some (h0)))] [] σ := by
  unfold s_X8_dusks_j189 at h
  refine g_aload_n (pc := 189) C 0 0 dX8_dusks_189 rfl rfl ?_
  refine g_aload_n (pc := 190) C 0 0 dX8_dusks_190 rfl rfl ?_
  obtain ⟨r1, hvr1, h⟩ := zbind h
  refine g_getR (N := 19) (pc := 191) C ck_8 hvr1 rfl rfl fl_X8_19 dX8_dusks_191 ?_
  obtain ⟨a2, hqa2, h9⟩ := zbind h
  clear h
  subst hqa2
  have h := h9
  clear h9
  obtain ⟨v3, hvv3, h⟩ := zbind h
  refine g_getI (N := 20) (pc := 194) C ck_1 hvv3 rfl rfl fl_X8_287 dX8_dusks_194 ?_
  refine g_aload_n (pc := 197) C 0 0 dX8_dusks_197 rfl rfl ?_
  obtain ⟨r4, hvr4, h⟩ := zbind h
  refine g_getR (N := 19) (pc := 198) C ck_8 hvr4 rfl rfl fl_X8_12 dX8_dusks_198 ?_
  obtain ⟨a5, hqa5, h9⟩ := zbind h
  clear h
  subst hqa5
  have h := h9
  clear h9
  obtain ⟨v6, hvv6, h⟩ := zbind h
  refine g_getI (N := 20) (pc := 201) C ck_1 hvv6 rfl rfl fl_X8_287 dX8_dusks_201 ?_
  refine g_isub (pc := 204) C dX8_dusks_204 ?_
  obtain ⟨u7, hvu7, h⟩ := zbind h
  obtain ⟨v9, σ8, hvσ8, h⟩ := zcb h
  refine g_callV (pc := 205) (av := [tI (v3 - v6)]) C (c_X8_grant hE hvσ8) yv_X8_grant ml_X8_119 ck_8 (zopt hvu7).1 rfl (rf_of (by decide)) rfl (Nat.le_of_ble_eq_true rfl) dX8_dusks_205 ?_
  obtain ⟨rfl, rfl⟩ := zsome h
  exact g_iret (pc := 208) C rfl hx (by rw [hxn]; rfl) (by rw [hxn]; rfl) dX8_dusks_208
noncomputable def s_X8_dusks (h0 : Nat) (p1 : Int32) (p2 : Int32) (σ : Hp) : Option (Int32 × Hp) :=
  if p1 < 0 then
    s_X8_dusks_j22 (h0) σ
  else
    if 1000000 < p1 then
      s_X8_dusks_j22 (h0) σ
    else
      if p2 < 1 then
        s_X8_dusks_j22 (h0) σ
      else
        if p2 ≤ 60 then
          (rdR 8 σ h0 0).bind fun r1 =>
          (r1).bind fun a2 =>
          (rdI 1 σ a2 13).bind fun v3 =>
          if v3 < 1 then
            s_X8_dusks_j53 (h0) σ
          else
            (rdR 8 σ h0 0).bind fun r4 =>
            (r4).bind fun a5 =>
            (rdR 1 σ a5 0).bind fun r6 =>
            (r6).bind fun a7 =>
            (rdI 3 σ a7 3).bind fun v8 =>
            if 1 ≤ v8 then
              (rdR 8 σ h0 2).bind fun r9 =>
              (rdR 8 σ h0 0).bind fun r10 =>
              (r9).bind fun a11 =>
              (ck 1 σ a11).bind fun u12 =>
              cb (s_X1_copyFrom a11 (r10) σ) fun v14 σ13 =>
              (wrZ 8 σ13 h0 12 (1)).bind fun σ15 =>
              cb (s_X8_dusks_l81 ((h0), (p2), (p1), (0)) σ15) fun h16 σ19 =>
              s_X8_dusks_j189 (h16) σ19
            else
              s_X8_dusks_j53 (h0) σ
        else
          s_X8_dusks_j22 (h0) σ
set_option maxRecDepth 100000 in
theorem c_X8_dusks {E : E0} (hE : EOK E) {h0 : Nat} {p1 : Int32} {p2 : Int32} {σ σ1 : Hp} {r : Int32} (h : s_X8_dusks h0 p1 p2 σ = some (r, σ1)) : CT E yX8_dusks (.code yX8_dusks cX8_dusks 7 (some .int)) rm_X8_dusks [tR (some (h0)), tI (p1), tI (p2)] σ (some (tI r)) σ1 := by
  refine CT.mk hE (by decide +kernel) (Nat.le_of_ble_eq_true rfl) [(0, tR (some (h0))), (1, tI (p1)), (2, tI (p2))] rfl (fun X C hin hx hxn => ?_)
  have C : XOK E X cX8_dusks RX8 7 (some .int) rm_X8_dusks := C
  unfold s_X8_dusks at h
  refine g_iload_n (pc := 0) C 1 1 dX8_dusks_0 rfl rfl ?_
  refine g_if_lt (pc := 1) C 22 dX8_dusks_1 (by decide) (fun c26 => ?_) (fun c26 => ?_)
  · have h := zif_t c26 h
    refine g_sub [0] (lm' := [(0, tR (some (h0)))]) rfl ?_
    exact w_X8_dusks_j22 hE C hxn _ _ _ _ h hx
  · have h := zif_f c26 h
    refine g_iload_n (pc := 4) C 1 1 dX8_dusks_4 rfl rfl ?_
    refine g_ldcw (v := 1000000) (pc := 5) C dX8_dusks_5 kc_X8_383 ?_
    refine g_icmp_gt (pc := 8) C 22 dX8_dusks_8 (by decide) (fun c25 => ?_) (fun c25 => ?_)
    · have h := zif_t c25 h
      refine g_sub [0] (lm' := [(0, tR (some (h0)))]) rfl ?_
      exact w_X8_dusks_j22 hE C hxn _ _ _ _ h hx
    · have h := zif_f c25 h
      refine g_iload_n (pc := 11) C 2 2 dX8_dusks_11 rfl rfl ?_
      refine g_iconst (v := 1) (pc := 12) C dX8_dusks_12 (by decide) ?_
      refine g_icmp_lt (pc := 13) C 22 dX8_dusks_13 (by decide) (fun c24 => ?_) (fun c24 => ?_)
      · have h := zif_t c24 h
        refine g_sub [0] (lm' := [(0, tR (some (h0)))]) rfl ?_
        exact w_X8_dusks_j22 hE C hxn _ _ _ _ h hx
      · have h := zif_f c24 h
        refine g_iload_n (pc := 16) C 2 2 dX8_dusks_16 rfl rfl ?_
        refine g_bipush (v := 60) (pc := 17) C dX8_dusks_17 (by decide) ?_
        refine g_icmp_le (pc := 19) C 28 dX8_dusks_19 (by decide) (fun c23 => ?_) (fun c23 => ?_)
        · have h := zif_t c23 h
          refine g_aload_n (pc := 28) C 0 0 dX8_dusks_28 rfl rfl ?_
          obtain ⟨r1, hvr1, h⟩ := zbind h
          refine g_getR (N := 19) (pc := 29) C ck_8 hvr1 rfl rfl fl_X8_12 dX8_dusks_29 ?_
          obtain ⟨a2, hqa2, h9⟩ := zbind h
          clear h
          subst hqa2
          have h := h9
          clear h9
          obtain ⟨v3, hvv3, h⟩ := zbind h
          refine g_getI (N := 20) (pc := 32) C ck_1 hvv3 rfl rfl fl_X8_142 dX8_dusks_32 ?_
          refine g_iconst (v := 1) (pc := 35) C dX8_dusks_35 (by decide) ?_
          refine g_icmp_lt (pc := 36) C 53 dX8_dusks_36 (by decide) (fun c22 => ?_) (fun c22 => ?_)
          · have h := zif_t c22 h
            refine g_sub [0] (lm' := [(0, tR (some (h0)))]) rfl ?_
            exact w_X8_dusks_j53 hE C hxn _ _ _ _ h hx
          · have h := zif_f c22 h
            refine g_aload_n (pc := 39) C 0 0 dX8_dusks_39 rfl rfl ?_
            obtain ⟨r4, hvr4, h⟩ := zbind h
            refine g_getR (N := 19) (pc := 40) C ck_8 hvr4 rfl rfl fl_X8_12 dX8_dusks_40 ?_
            obtain ⟨a5, hqa5, h9⟩ := zbind h
            clear h
            subst hqa5
            have h := h9
            clear h9
            obtain ⟨r6, hvr6, h⟩ := zbind h
            refine g_getR (N := 20) (pc := 43) C ck_1 hvr6 rfl rfl fl_X8_103 dX8_dusks_43 ?_
            obtain ⟨a7, hqa7, h9⟩ := zbind h
            clear h
            subst hqa7
            have h := h9
            clear h9
            obtain ⟨v8, hvv8, h⟩ := zbind h
            refine g_getI (N := 4) (pc := 46) C ck_3 hvv8 rfl rfl fl_X8_107 dX8_dusks_46 ?_
            refine g_iconst (v := 1) (pc := 49) C dX8_dusks_49 (by decide) ?_
            refine g_icmp_ge (pc := 50) C 60 dX8_dusks_50 (by decide) (fun c21 => ?_) (fun c21 => ?_)
            · have h := zif_t c21 h
              refine g_aload_n (pc := 60) C 0 0 dX8_dusks_60 rfl rfl ?_
              obtain ⟨r9, hvr9, h⟩ := zbind h
              refine g_getR (N := 19) (pc := 61) C ck_8 hvr9 rfl rfl fl_X8_19 dX8_dusks_61 ?_
              refine g_aload_n (pc := 64) C 0 0 dX8_dusks_64 rfl rfl ?_
              obtain ⟨r10, hvr10, h⟩ := zbind h
              refine g_getR (N := 19) (pc := 65) C ck_8 hvr10 rfl rfl fl_X8_12 dX8_dusks_65 ?_
              obtain ⟨a11, hqa11, h9⟩ := zbind h
              clear h
              subst hqa11
              have h := h9
              clear h9
              obtain ⟨u12, hvu12, h⟩ := zbind h
              obtain ⟨v14, σ13, hvσ13, h⟩ := zcb h
              refine g_callV (pc := 68) (av := [tR (r10)]) C (c_X1_copyFrom hE hvσ13) yv_X1_copyFrom ml_X8_240 ck_1 (zopt hvu12).1 rfl (rf_of (by decide)) rfl (Nat.le_of_ble_eq_true rfl) dX8_dusks_68 ?_
              refine g_aload_n (pc := 71) C 0 0 dX8_dusks_71 rfl rfl ?_
              refine g_iconst (v := 1) (pc := 72) C dX8_dusks_72 (by decide) ?_
              obtain ⟨σ15, hvσ15, h⟩ := zbind h
              refine g_putZ (N := 19) (pc := 73) C ⟨ck_8, rfl, tyX8_ok⟩ hvσ15 rfl fl_X8_72 rfl rfl dX8_dusks_73 ?_
              refine g_iload_n (pc := 76) C 1 1 dX8_dusks_76 rfl rfl ?_
              refine g_istore_n (lm' := [(3, tI (p1)), (0, tR (some (h0))), (1, tI (p1)), (2, tI (p2))]) (pc := 77) C 3 dX8_dusks_77 rfl (by decide) rfl ?_
              refine g_iconst (v := 0) (pc := 78) C dX8_dusks_78 (by decide) ?_
              refine g_istore (lm' := [(4, tI (0)), (3, tI (p1)), (0, tR (some (h0))), (1, tI (p1)), (2, tI (p2))]) (pc := 79) C dX8_dusks_79 (by decide) rfl ?_
              refine g_sub [2, 4, 1, 0] (lm' := [(0, tR (some (h0))), (2, tI (p2)), (3, tI (p1)), (4, tI (0))]) rfl ?_
              obtain ⟨KQ, hKQ, h16, σ19, hlh16, h⟩ := zcbK h
              refine w_X8_dusks_l81 (KE := KQ) hE C hxn ?_ hlh16 h
              · intro h16 σ17 h
                have h := (hKQ _ _).mp h
                exact w_X8_dusks_j189 hE C hxn _ _ _ _ h hx
            · have h := zif_f c21 h
              refine g_sub [0] (lm' := [(0, tR (some (h0)))]) rfl ?_
              exact w_X8_dusks_j53 hE C hxn _ _ _ _ h hx
        · have h := zif_f c23 h
          refine g_sub [0] (lm' := [(0, tR (some (h0)))]) rfl ?_
          exact w_X8_dusks_j22 hE C hxn _ _ _ _ h hx
def rm_X8_drawn : Room := { frames := 1, cells := 0, slots := 0, locals := 21 }
noncomputable def s_X8_drawn (h0 : Nat) (p1 : Int32) (p2 : Int32) (σ : Hp) : Option (Int32 × Hp) :=
  (rdI 8 σ h0 12).bind fun v1 =>
  if v1 = 0 then
    some (((-1)), σ)
  else
    if p2 = 0 then
      (rdR 8 σ h0 2).bind fun r2 =>
      (r2).bind fun a3 =>
      (ck 1 σ a3).bind fun u4 =>
      cb (s_X1_isFolk a3 (p1) σ) fun v6 σ5 =>
      if v6 = 0 then
        some (((-1)), σ5)
      else
        (rdR 8 σ5 h0 2).bind fun r7 =>
        (r7).bind fun a8 =>
        (rdR 1 σ5 a8 3).bind fun r9 =>
        (r9).bind fun a10 =>
        (ldI 11 σ5 a10 (p1)).bind fun v11 =>
        some ((v11), σ5)
    else
      if p2 = 1 then
        (rdR 8 σ h0 2).bind fun r14 =>
        (r14).bind fun a15 =>
        (ck 1 σ a15).bind fun u16 =>
        cb (s_X1_isBadger a15 (p1) σ) fun v18 σ17 =>
        if v18 = 0 then
          some (((-1)), σ17)
        else
          (rdR 8 σ17 h0 2).bind fun r19 =>
          (r19).bind fun a20 =>
          (rdR 1 σ17 a20 4).bind fun r21 =>
          (r21).bind fun a22 =>
          (ldI 11 σ17 a22 (p1)).bind fun v23 =>
          some ((v23), σ17)
      else
        some (((-1)), σ)
set_option maxRecDepth 100000 in
theorem c_X8_drawn {E : E0} (hE : EOK E) {h0 : Nat} {p1 : Int32} {p2 : Int32} {σ σ1 : Hp} {r : Int32} (h : s_X8_drawn h0 p1 p2 σ = some (r, σ1)) : CT E yX8_drawn (.code yX8_drawn cX8_drawn 3 (some .int)) rm_X8_drawn [tR (some (h0)), tI (p1), tI (p2)] σ (some (tI r)) σ1 := by
  refine CT.mk hE (by decide +kernel) (Nat.le_of_ble_eq_true rfl) [(0, tR (some (h0))), (1, tI (p1)), (2, tI (p2))] rfl (fun X C hin hx hxn => ?_)
  have C : XOK E X cX8_drawn RX8 3 (some .int) rm_X8_drawn := C
  unfold s_X8_drawn at h
  refine g_aload_n (pc := 0) C 0 0 dX8_drawn_0 rfl rfl ?_
  obtain ⟨v1, hvv1, h⟩ := zbind h
  refine g_getI (N := 19) (pc := 1) C ck_8 hvv1 rfl rfl fl_X8_72 dX8_drawn_1 ?_
  refine g_if_ne (pc := 4) C 9 dX8_drawn_4 (by decide) (fun c26 => ?_) (fun c26 => ?_)
  · have h := zif_f c26 h
    refine g_iload_n (pc := 9) C 2 2 dX8_drawn_9 rfl rfl ?_
    by_cases c13 : p2 = 0
    · refine g_lsw (pc := 10) C 36 dX8_drawn_10 (by decide) (by rw [c13] <;> rfl) (by decide) ?_
      have h := zif_t c13 h
      refine g_aload_n (pc := 36) C 0 0 dX8_drawn_36 rfl rfl ?_
      obtain ⟨r2, hvr2, h⟩ := zbind h
      refine g_getR (N := 19) (pc := 37) C ck_8 hvr2 rfl rfl fl_X8_19 dX8_drawn_37 ?_
      refine g_iload_n (pc := 40) C 1 1 dX8_drawn_40 rfl rfl ?_
      obtain ⟨a3, hqa3, h9⟩ := zbind h
      clear h
      subst hqa3
      have h := h9
      clear h9
      obtain ⟨u4, hvu4, h⟩ := zbind h
      obtain ⟨v6, σ5, hvσ5, h⟩ := zcb h
      refine g_callV (pc := 41) (av := [tI (p1)]) C (c_X1_isFolk hE hvσ5) yv_X1_isFolk ml_X8_151 ck_1 (zopt hvu4).1 rfl (rf_of (by decide)) rfl (Nat.le_of_ble_eq_true rfl) dX8_drawn_41 ?_
      refine g_if_eq (pc := 44) C 59 dX8_drawn_44 (by decide) (fun c12 => ?_) (fun c12 => ?_)
      · have h := zif_t c12 h
        refine g_iconst (v := (-1)) (pc := 59) C dX8_drawn_59 (by decide) ?_
        obtain ⟨rfl, rfl⟩ := zsome h
        exact g_iret (pc := 60) C rfl hx (by rw [hxn]; rfl) (by rw [hxn]; rfl) dX8_drawn_60
      · have h := zif_f c12 h
        refine g_aload_n (pc := 47) C 0 0 dX8_drawn_47 rfl rfl ?_
        obtain ⟨r7, hvr7, h⟩ := zbind h
        refine g_getR (N := 19) (pc := 48) C ck_8 hvr7 rfl rfl fl_X8_19 dX8_drawn_48 ?_
        obtain ⟨a8, hqa8, h9⟩ := zbind h
        clear h
        subst hqa8
        have h := h9
        clear h9
        obtain ⟨r9, hvr9, h⟩ := zbind h
        refine g_getR (N := 20) (pc := 51) C ck_1 hvr9 rfl rfl fl_X8_148 dX8_drawn_51 ?_
        refine g_iload_n (pc := 54) C 1 1 dX8_drawn_54 rfl rfl ?_
        obtain ⟨a10, hqa10, h9⟩ := zbind h
        clear h
        subst hqa10
        have h := h9
        clear h9
        obtain ⟨v11, hvv11, h⟩ := zbind h
        refine g_iald (pc := 55) C hvv11 dX8_drawn_55 ?_
        refine g_goto (pc := 56) C 60 dX8_drawn_56 (by decide) ?_
        obtain ⟨rfl, rfl⟩ := zsome h
        exact g_iret (pc := 60) C rfl hx (by rw [hxn]; rfl) (by rw [hxn]; rfl) dX8_drawn_60
    · have h := zif_f c13 h
      by_cases c25 : p2 = 1
      · refine g_lsw (pc := 10) C 61 dX8_drawn_10 (by decide) (by rw [c25] <;> rfl) (by decide) ?_
        have h := zif_t c25 h
        refine g_aload_n (pc := 61) C 0 0 dX8_drawn_61 rfl rfl ?_
        obtain ⟨r14, hvr14, h⟩ := zbind h
        refine g_getR (N := 19) (pc := 62) C ck_8 hvr14 rfl rfl fl_X8_19 dX8_drawn_62 ?_
        refine g_iload_n (pc := 65) C 1 1 dX8_drawn_65 rfl rfl ?_
        obtain ⟨a15, hqa15, h9⟩ := zbind h
        clear h
        subst hqa15
        have h := h9
        clear h9
        obtain ⟨u16, hvu16, h⟩ := zbind h
        obtain ⟨v18, σ17, hvσ17, h⟩ := zcb h
        refine g_callV (pc := 66) (av := [tI (p1)]) C (c_X1_isBadger hE hvσ17) yv_X1_isBadger ml_X8_160 ck_1 (zopt hvu16).1 rfl (rf_of (by decide)) rfl (Nat.le_of_ble_eq_true rfl) dX8_drawn_66 ?_
        refine g_if_eq (pc := 69) C 84 dX8_drawn_69 (by decide) (fun c24 => ?_) (fun c24 => ?_)
        · have h := zif_t c24 h
          refine g_iconst (v := (-1)) (pc := 84) C dX8_drawn_84 (by decide) ?_
          obtain ⟨rfl, rfl⟩ := zsome h
          exact g_iret (pc := 85) C rfl hx (by rw [hxn]; rfl) (by rw [hxn]; rfl) dX8_drawn_85
        · have h := zif_f c24 h
          refine g_aload_n (pc := 72) C 0 0 dX8_drawn_72 rfl rfl ?_
          obtain ⟨r19, hvr19, h⟩ := zbind h
          refine g_getR (N := 19) (pc := 73) C ck_8 hvr19 rfl rfl fl_X8_19 dX8_drawn_73 ?_
          obtain ⟨a20, hqa20, h9⟩ := zbind h
          clear h
          subst hqa20
          have h := h9
          clear h9
          obtain ⟨r21, hvr21, h⟩ := zbind h
          refine g_getR (N := 20) (pc := 76) C ck_1 hvr21 rfl rfl fl_X8_157 dX8_drawn_76 ?_
          refine g_iload_n (pc := 79) C 1 1 dX8_drawn_79 rfl rfl ?_
          obtain ⟨a22, hqa22, h9⟩ := zbind h
          clear h
          subst hqa22
          have h := h9
          clear h9
          obtain ⟨v23, hvv23, h⟩ := zbind h
          refine g_iald (pc := 80) C hvv23 dX8_drawn_80 ?_
          refine g_goto (pc := 81) C 85 dX8_drawn_81 (by decide) ?_
          obtain ⟨rfl, rfl⟩ := zsome h
          exact g_iret (pc := 85) C rfl hx (by rw [hxn]; rfl) (by rw [hxn]; rfl) dX8_drawn_85
      · have h := zif_f c25 h
        refine g_lsw (pc := 10) C 86 dX8_drawn_10 (by decide) (lsw_def (by have ec13 := n32 (k := 0) (n := 0) (by decide) c13; have ec25 := n32 (k := 1) (n := 1) (by decide) c25; simp only [List.mem_cons, List.not_mem_nil, or_false, forall_eq_or_imp, forall_eq]; omega)) (by decide) ?_
        refine g_iconst (v := (-1)) (pc := 86) C dX8_drawn_86 (by decide) ?_
        obtain ⟨rfl, rfl⟩ := zsome h
        exact g_iret (pc := 87) C rfl hx (by rw [hxn]; rfl) (by rw [hxn]; rfl) dX8_drawn_87
  · have h := zif_t c26 h
    refine g_iconst (v := (-1)) (pc := 7) C dX8_drawn_7 (by decide) ?_
    obtain ⟨rfl, rfl⟩ := zsome h
    exact g_iret (pc := 8) C rfl hx (by rw [hxn]; rfl) (by rw [hxn]; rfl) dX8_drawn_8
def rm_X8_image : Room := { frames := 4, cells := 0, slots := 0, locals := 124 }
noncomputable def s_X8_image_j9 (h0 : Nat) (σ : Hp) : Option (Int32 × Hp) :=
  (ck 8 σ h0).bind fun u1 =>
  cb (s_X8_refuse h0 ((-1)) σ) fun v3 σ2 =>
  some ((v3), σ2)
set_option maxRecDepth 100000 in
theorem w_X8_image_j9 {E : E0} (hE : EOK E) {X : X0} (C : XOK E X cX8_image RX8 2 (some .int) rm_X8_image) (hxn : xn X = (rm_X8_image.cells, rm_X8_image.slots)) (h0 : Nat) (σ : Hp) (r : Int32) (σ1 : Hp) (h : s_X8_image_j9 h0 σ = some (r, σ1)) (hx : xd X = (some (tI r), σ1)) : G E X 0 0 9 [(0, tR (some (h0)))] [] σ := by
  unfold s_X8_image_j9 at h
  refine g_aload_n (pc := 9) C 0 0 dX8_image_9 rfl rfl ?_
  refine g_iconst (v := (-1)) (pc := 10) C dX8_image_10 (by decide) ?_
  obtain ⟨u1, hvu1, h⟩ := zbind h
  obtain ⟨v3, σ2, hvσ2, h⟩ := zcb h
  refine g_callV (pc := 11) (av := [tI ((-1))]) C (c_X8_refuse hE hvσ2) yv_X8_refuse ml_X8_99 ck_8 (zopt hvu1).1 rfl (rf_of (by decide)) rfl (Nat.le_of_ble_eq_true rfl) dX8_image_11 ?_
  obtain ⟨rfl, rfl⟩ := zsome h
  exact g_iret (pc := 14) C rfl hx (by rw [hxn]; rfl) (by rw [hxn]; rfl) dX8_image_14
noncomputable def s_X8_image (h0 : Nat) (p1 : Int32) (σ : Hp) : Option (Int32 × Hp) :=
  if p1 < 0 then
    s_X8_image_j9 (h0) σ
  else
    if p1 < 2 then
      (rdR 8 σ h0 3).bind fun r1 =>
      (r1).bind fun a2 =>
      (ldR 14 σ a2 (p1)).bind fun r3 =>
      (rdR 8 σ h0 0).bind fun r4 =>
      (r3).bind fun a5 =>
      (ck 1 σ a5).bind fun u6 =>
      cb (s_X1_copyFrom a5 (r4) σ) fun v8 σ7 =>
      (rdR 8 σ7 h0 4).bind fun r9 =>
      (r9).bind fun a10 =>
      (stZ σ7 a10 (p1) (1)).bind fun σ11 =>
      (ck 8 σ11 h0).bind fun u12 =>
      cb (s_X8_grant h0 (0) σ11) fun v14 σ13 =>
      some ((v14), σ13)
    else
      s_X8_image_j9 (h0) σ
set_option maxRecDepth 100000 in
theorem c_X8_image {E : E0} (hE : EOK E) {h0 : Nat} {p1 : Int32} {σ σ1 : Hp} {r : Int32} (h : s_X8_image h0 p1 σ = some (r, σ1)) : CT E yX8_image (.code yX8_image cX8_image 2 (some .int)) rm_X8_image [tR (some (h0)), tI (p1)] σ (some (tI r)) σ1 := by
  refine CT.mk hE (by decide +kernel) (Nat.le_of_ble_eq_true rfl) [(0, tR (some (h0))), (1, tI (p1))] rfl (fun X C hin hx hxn => ?_)
  have C : XOK E X cX8_image RX8 2 (some .int) rm_X8_image := C
  unfold s_X8_image at h
  refine g_iload_n (pc := 0) C 1 1 dX8_image_0 rfl rfl ?_
  refine g_if_lt (pc := 1) C 9 dX8_image_1 (by decide) (fun c16 => ?_) (fun c16 => ?_)
  · have h := zif_t c16 h
    refine g_sub [0] (lm' := [(0, tR (some (h0)))]) rfl ?_
    exact w_X8_image_j9 hE C hxn _ _ _ _ h hx
  · have h := zif_f c16 h
    refine g_iload_n (pc := 4) C 1 1 dX8_image_4 rfl rfl ?_
    refine g_iconst (v := 2) (pc := 5) C dX8_image_5 (by decide) ?_
    refine g_icmp_lt (pc := 6) C 15 dX8_image_6 (by decide) (fun c15 => ?_) (fun c15 => ?_)
    · have h := zif_t c15 h
      refine g_aload_n (pc := 15) C 0 0 dX8_image_15 rfl rfl ?_
      obtain ⟨r1, hvr1, h⟩ := zbind h
      refine g_getR (N := 19) (pc := 16) C ck_8 hvr1 rfl rfl fl_X8_22 dX8_image_16 ?_
      refine g_iload_n (pc := 19) C 1 1 dX8_image_19 rfl rfl ?_
      obtain ⟨a2, hqa2, h9⟩ := zbind h
      clear h
      subst hqa2
      have h := h9
      clear h9
      obtain ⟨r3, hvr3, h⟩ := zbind h
      refine g_aald14 (pc := 20) C hvr3 dX8_image_20 ?_
      refine g_aload_n (pc := 21) C 0 0 dX8_image_21 rfl rfl ?_
      obtain ⟨r4, hvr4, h⟩ := zbind h
      refine g_getR (N := 19) (pc := 22) C ck_8 hvr4 rfl rfl fl_X8_12 dX8_image_22 ?_
      obtain ⟨a5, hqa5, h9⟩ := zbind h
      clear h
      subst hqa5
      have h := h9
      clear h9
      obtain ⟨u6, hvu6, h⟩ := zbind h
      obtain ⟨v8, σ7, hvσ7, h⟩ := zcb h
      refine g_callV (pc := 25) (av := [tR (r4)]) C (c_X1_copyFrom hE hvσ7) yv_X1_copyFrom ml_X8_240 ck_1 (zopt hvu6).1 rfl (rf_of (by decide)) rfl (Nat.le_of_ble_eq_true rfl) dX8_image_25 ?_
      refine g_aload_n (pc := 28) C 0 0 dX8_image_28 rfl rfl ?_
      obtain ⟨r9, hvr9, h⟩ := zbind h
      refine g_getR (N := 19) (pc := 29) C ck_8 hvr9 rfl rfl fl_X8_26 dX8_image_29 ?_
      refine g_iload_n (pc := 32) C 1 1 dX8_image_32 rfl rfl ?_
      refine g_iconst (v := 1) (pc := 33) C dX8_image_33 (by decide) ?_
      obtain ⟨a10, hqa10, h9⟩ := zbind h
      clear h
      subst hqa10
      have h := h9
      clear h9
      obtain ⟨σ11, hvσ11, h⟩ := zbind h
      refine g_zast (pc := 34) C hvσ11 dX8_image_34 ?_
      refine g_aload_n (pc := 35) C 0 0 dX8_image_35 rfl rfl ?_
      refine g_iconst (v := 0) (pc := 36) C dX8_image_36 (by decide) ?_
      obtain ⟨u12, hvu12, h⟩ := zbind h
      obtain ⟨v14, σ13, hvσ13, h⟩ := zcb h
      refine g_callV (pc := 37) (av := [tI (0)]) C (c_X8_grant hE hvσ13) yv_X8_grant ml_X8_119 ck_8 (zopt hvu12).1 rfl (rf_of (by decide)) rfl (Nat.le_of_ble_eq_true rfl) dX8_image_37 ?_
      obtain ⟨rfl, rfl⟩ := zsome h
      exact g_iret (pc := 40) C rfl hx (by rw [hxn]; rfl) (by rw [hxn]; rfl) dX8_image_40
    · have h := zif_f c15 h
      refine g_sub [0] (lm' := [(0, tR (some (h0)))]) rfl ?_
      exact w_X8_image_j9 hE C hxn _ _ _ _ h hx
def rm_X8_back : Room := { frames := 4, cells := 0, slots := 0, locals := 124 }
noncomputable def s_X8_back_j9 (h0 : Nat) (σ : Hp) : Option (Int32 × Hp) :=
  (ck 8 σ h0).bind fun u1 =>
  cb (s_X8_refuse h0 ((-1)) σ) fun v3 σ2 =>
  some ((v3), σ2)
set_option maxRecDepth 100000 in
theorem w_X8_back_j9 {E : E0} (hE : EOK E) {X : X0} (C : XOK E X cX8_back RX8 2 (some .int) rm_X8_back) (hxn : xn X = (rm_X8_back.cells, rm_X8_back.slots)) (h0 : Nat) (σ : Hp) (r : Int32) (σ1 : Hp) (h : s_X8_back_j9 h0 σ = some (r, σ1)) (hx : xd X = (some (tI r), σ1)) : G E X 0 0 9 [(0, tR (some (h0)))] [] σ := by
  unfold s_X8_back_j9 at h
  refine g_aload_n (pc := 9) C 0 0 dX8_back_9 rfl rfl ?_
  refine g_iconst (v := (-1)) (pc := 10) C dX8_back_10 (by decide) ?_
  obtain ⟨u1, hvu1, h⟩ := zbind h
  obtain ⟨v3, σ2, hvσ2, h⟩ := zcb h
  refine g_callV (pc := 11) (av := [tI ((-1))]) C (c_X8_refuse hE hvσ2) yv_X8_refuse ml_X8_99 ck_8 (zopt hvu1).1 rfl (rf_of (by decide)) rfl (Nat.le_of_ble_eq_true rfl) dX8_back_11 ?_
  obtain ⟨rfl, rfl⟩ := zsome h
  exact g_iret (pc := 14) C rfl hx (by rw [hxn]; rfl) (by rw [hxn]; rfl) dX8_back_14
noncomputable def s_X8_back (h0 : Nat) (p1 : Int32) (σ : Hp) : Option (Int32 × Hp) :=
  if p1 < 0 then
    s_X8_back_j9 (h0) σ
  else
    if p1 < 2 then
      (rdR 8 σ h0 4).bind fun r1 =>
      (r1).bind fun a2 =>
      (ldI 13 σ a2 (p1)).bind fun v3 =>
      if v3 = 0 then
        (ck 8 σ h0).bind fun u20 =>
        cb (s_X8_refuse h0 ((-2)) σ) fun v22 σ21 =>
        some ((v22), σ21)
      else
        (rdR 8 σ h0 0).bind fun r4 =>
        (rdR 8 σ h0 3).bind fun r5 =>
        (r5).bind fun a6 =>
        (ldR 14 σ a6 (p1)).bind fun r7 =>
        (r4).bind fun a8 =>
        (ck 1 σ a8).bind fun u9 =>
        cb (s_X1_copyFrom a8 (r7) σ) fun v11 σ10 =>
        (rdR 8 σ10 h0 8).bind fun r12 =>
        (r12).bind fun a13 =>
        (ck 0 σ10 a13).bind fun u14 =>
        cb (s_X0_clear a13 σ10) fun v16 σ15 =>
        (ck 8 σ15 h0).bind fun u17 =>
        cb (s_X8_grant h0 (0) σ15) fun v19 σ18 =>
        some ((v19), σ18)
    else
      s_X8_back_j9 (h0) σ
set_option maxRecDepth 100000 in
theorem c_X8_back {E : E0} (hE : EOK E) {h0 : Nat} {p1 : Int32} {σ σ1 : Hp} {r : Int32} (h : s_X8_back h0 p1 σ = some (r, σ1)) : CT E yX8_back (.code yX8_back cX8_back 2 (some .int)) rm_X8_back [tR (some (h0)), tI (p1)] σ (some (tI r)) σ1 := by
  refine CT.mk hE (by decide +kernel) (Nat.le_of_ble_eq_true rfl) [(0, tR (some (h0))), (1, tI (p1))] rfl (fun X C hin hx hxn => ?_)
  have C : XOK E X cX8_back RX8 2 (some .int) rm_X8_back := C
  unfold s_X8_back at h
  refine g_iload_n (pc := 0) C 1 1 dX8_back_0 rfl rfl ?_
  refine g_if_lt (pc := 1) C 9 dX8_back_1 (by decide) (fun c25 => ?_) (fun c25 => ?_)
  · have h := zif_t c25 h
    refine g_sub [0] (lm' := [(0, tR (some (h0)))]) rfl ?_
    exact w_X8_back_j9 hE C hxn _ _ _ _ h hx
  · have h := zif_f c25 h
    refine g_iload_n (pc := 4) C 1 1 dX8_back_4 rfl rfl ?_
    refine g_iconst (v := 2) (pc := 5) C dX8_back_5 (by decide) ?_
    refine g_icmp_lt (pc := 6) C 15 dX8_back_6 (by decide) (fun c24 => ?_) (fun c24 => ?_)
    · have h := zif_t c24 h
      refine g_aload_n (pc := 15) C 0 0 dX8_back_15 rfl rfl ?_
      obtain ⟨r1, hvr1, h⟩ := zbind h
      refine g_getR (N := 19) (pc := 16) C ck_8 hvr1 rfl rfl fl_X8_26 dX8_back_16 ?_
      refine g_iload_n (pc := 19) C 1 1 dX8_back_19 rfl rfl ?_
      obtain ⟨a2, hqa2, h9⟩ := zbind h
      clear h
      subst hqa2
      have h := h9
      clear h9
      obtain ⟨v3, hvv3, h⟩ := zbind h
      refine g_zald (pc := 20) C hvv3 dX8_back_20 ?_
      refine g_if_ne (pc := 21) C 31 dX8_back_21 (by decide) (fun c23 => ?_) (fun c23 => ?_)
      · have h := zif_f c23 h
        refine g_aload_n (pc := 31) C 0 0 dX8_back_31 rfl rfl ?_
        obtain ⟨r4, hvr4, h⟩ := zbind h
        refine g_getR (N := 19) (pc := 32) C ck_8 hvr4 rfl rfl fl_X8_12 dX8_back_32 ?_
        refine g_aload_n (pc := 35) C 0 0 dX8_back_35 rfl rfl ?_
        obtain ⟨r5, hvr5, h⟩ := zbind h
        refine g_getR (N := 19) (pc := 36) C ck_8 hvr5 rfl rfl fl_X8_22 dX8_back_36 ?_
        refine g_iload_n (pc := 39) C 1 1 dX8_back_39 rfl rfl ?_
        obtain ⟨a6, hqa6, h9⟩ := zbind h
        clear h
        subst hqa6
        have h := h9
        clear h9
        obtain ⟨r7, hvr7, h⟩ := zbind h
        refine g_aald14 (pc := 40) C hvr7 dX8_back_40 ?_
        obtain ⟨a8, hqa8, h9⟩ := zbind h
        clear h
        subst hqa8
        have h := h9
        clear h9
        obtain ⟨u9, hvu9, h⟩ := zbind h
        obtain ⟨v11, σ10, hvσ10, h⟩ := zcb h
        refine g_callV (pc := 41) (av := [tR (r7)]) C (c_X1_copyFrom hE hvσ10) yv_X1_copyFrom ml_X8_240 ck_1 (zopt hvu9).1 rfl (rf_of (by decide)) rfl (Nat.le_of_ble_eq_true rfl) dX8_back_41 ?_
        refine g_aload_n (pc := 44) C 0 0 dX8_back_44 rfl rfl ?_
        obtain ⟨r12, hvr12, h⟩ := zbind h
        refine g_getR (N := 19) (pc := 45) C ck_8 hvr12 rfl rfl fl_X8_54 dX8_back_45 ?_
        obtain ⟨a13, hqa13, h9⟩ := zbind h
        clear h
        subst hqa13
        have h := h9
        clear h9
        obtain ⟨u14, hvu14, h⟩ := zbind h
        obtain ⟨v16, σ15, hvσ15, h⟩ := zcb h
        refine g_callV (pc := 48) (av := []) C (c_X0_clear hE hvσ15) yv_X0_clear ml_X8_112 ck_0 (zopt hvu14).1 rfl (rf_of (by decide)) rfl (Nat.le_of_ble_eq_true rfl) dX8_back_48 ?_
        refine g_aload_n (pc := 51) C 0 0 dX8_back_51 rfl rfl ?_
        refine g_iconst (v := 0) (pc := 52) C dX8_back_52 (by decide) ?_
        obtain ⟨u17, hvu17, h⟩ := zbind h
        obtain ⟨v19, σ18, hvσ18, h⟩ := zcb h
        refine g_callV (pc := 53) (av := [tI (0)]) C (c_X8_grant hE hvσ18) yv_X8_grant ml_X8_119 ck_8 (zopt hvu17).1 rfl (rf_of (by decide)) rfl (Nat.le_of_ble_eq_true rfl) dX8_back_53 ?_
        obtain ⟨rfl, rfl⟩ := zsome h
        exact g_iret (pc := 56) C rfl hx (by rw [hxn]; rfl) (by rw [hxn]; rfl) dX8_back_56
      · have h := zif_t c23 h
        refine g_aload_n (pc := 24) C 0 0 dX8_back_24 rfl rfl ?_
        refine g_bipush (v := (-2)) (pc := 25) C dX8_back_25 (by decide) ?_
        obtain ⟨u20, hvu20, h⟩ := zbind h
        obtain ⟨v22, σ21, hvσ21, h⟩ := zcb h
        refine g_callV (pc := 27) (av := [tI ((-2))]) C (c_X8_refuse hE hvσ21) yv_X8_refuse ml_X8_99 ck_8 (zopt hvu20).1 rfl (rf_of (by decide)) rfl (Nat.le_of_ble_eq_true rfl) dX8_back_27 ?_
        obtain ⟨rfl, rfl⟩ := zsome h
        exact g_iret (pc := 30) C rfl hx (by rw [hxn]; rfl) (by rw [hxn]; rfl) dX8_back_30
    · have h := zif_f c24 h
      refine g_sub [0] (lm' := [(0, tR (some (h0)))]) rfl ?_
      exact w_X8_back_j9 hE C hxn _ _ _ _ h hx
def rm_X8_countFurther : Room := { frames := 0, cells := 0, slots := 0, locals := 0 }
noncomputable def s_X8_countFurther_j22 (h0 : Nat) (l1 : Int32) (σ : Hp) : Option (Int32 × Hp) :=
  if l1 < 15 then
    some (((-1)), σ)
  else
    if 18 ≤ l1 then
      some (((-1)), σ)
    else
      (rdR 8 σ h0 0).bind fun r1 =>
      (r1).bind fun a2 =>
      (rdR 1 σ a2 10).bind fun r3 =>
      (r3).bind fun a4 =>
      (ldI 11 σ a4 (l1 - 15)).bind fun v5 =>
      some ((v5), σ)
set_option maxRecDepth 100000 in
theorem w_X8_countFurther_j22 {E : E0} (hE : EOK E) {X : X0} (C : XOK E X cX8_countFurther RX8 2 (some .int) rm_X8_countFurther) (hxn : xn X = (rm_X8_countFurther.cells, rm_X8_countFurther.slots)) (h0 : Nat) (l1 : Int32) (σ : Hp) (r : Int32) (σ1 : Hp) (h : s_X8_countFurther_j22 h0 l1 σ = some (r, σ1)) (hx : xd X = (some (tI r), σ1)) : G E X 0 0 22 [(0, tR (some (h0))), (1, tI (l1))] [] σ := by
  unfold s_X8_countFurther_j22 at h
  refine g_iload_n (pc := 22) C 1 1 dX8_countFurther_22 rfl rfl ?_
  refine g_bipush (v := 15) (pc := 23) C dX8_countFurther_23 (by decide) ?_
  refine g_icmp_lt (pc := 25) C 49 dX8_countFurther_25 (by decide) (fun c7 => ?_) (fun c7 => ?_)
  · have h := zif_t c7 h
    refine g_iconst (v := (-1)) (pc := 49) C dX8_countFurther_49 (by decide) ?_
    obtain ⟨rfl, rfl⟩ := zsome h
    exact g_iret (pc := 50) C rfl hx (by rw [hxn]; rfl) (by rw [hxn]; rfl) dX8_countFurther_50
  · have h := zif_f c7 h
    refine g_iload_n (pc := 28) C 1 1 dX8_countFurther_28 rfl rfl ?_
    refine g_bipush (v := 18) (pc := 29) C dX8_countFurther_29 (by decide) ?_
    refine g_icmp_ge (pc := 31) C 49 dX8_countFurther_31 (by decide) (fun c6 => ?_) (fun c6 => ?_)
    · have h := zif_t c6 h
      refine g_iconst (v := (-1)) (pc := 49) C dX8_countFurther_49 (by decide) ?_
      obtain ⟨rfl, rfl⟩ := zsome h
      exact g_iret (pc := 50) C rfl hx (by rw [hxn]; rfl) (by rw [hxn]; rfl) dX8_countFurther_50
    · have h := zif_f c6 h
      refine g_aload_n (pc := 34) C 0 0 dX8_countFurther_34 rfl rfl ?_
      obtain ⟨r1, hvr1, h⟩ := zbind h
      refine g_getR (N := 19) (pc := 35) C ck_8 hvr1 rfl rfl fl_X8_12 dX8_countFurther_35 ?_
      obtain ⟨a2, hqa2, h9⟩ := zbind h
      clear h
      subst hqa2
      have h := h9
      clear h9
      obtain ⟨r3, hvr3, h⟩ := zbind h
      refine g_getR (N := 20) (pc := 38) C ck_1 hvr3 rfl rfl fl_X8_132 dX8_countFurther_38 ?_
      refine g_iload_n (pc := 41) C 1 1 dX8_countFurther_41 rfl rfl ?_
      refine g_bipush (v := 15) (pc := 42) C dX8_countFurther_42 (by decide) ?_
      refine g_isub (pc := 44) C dX8_countFurther_44 ?_
      obtain ⟨a4, hqa4, h9⟩ := zbind h
      clear h
      subst hqa4
      have h := h9
      clear h9
      obtain ⟨v5, hvv5, h⟩ := zbind h
      refine g_iald (pc := 45) C hvv5 dX8_countFurther_45 ?_
      refine g_goto (pc := 46) C 50 dX8_countFurther_46 (by decide) ?_
      obtain ⟨rfl, rfl⟩ := zsome h
      exact g_iret (pc := 50) C rfl hx (by rw [hxn]; rfl) (by rw [hxn]; rfl) dX8_countFurther_50
noncomputable def s_X8_countFurther (h0 : Nat) (p1 : Int32) (σ : Hp) : Option (Int32 × Hp) :=
  if p1 < 9 then
    s_X8_countFurther_j22 (h0) (p1) σ
  else
    if 14 ≤ p1 then
      s_X8_countFurther_j22 (h0) (p1) σ
    else
      (rdR 8 σ h0 11).bind fun r1 =>
      (r1).bind fun a2 =>
      (ldI 11 σ a2 (p1 - 9)).bind fun v3 =>
      some ((v3), σ)
set_option maxRecDepth 100000 in
theorem c_X8_countFurther {E : E0} (hE : EOK E) {h0 : Nat} {p1 : Int32} {σ σ1 : Hp} {r : Int32} (h : s_X8_countFurther h0 p1 σ = some (r, σ1)) : CT E yX8_countFurther (.code yX8_countFurther cX8_countFurther 2 (some .int)) rm_X8_countFurther [tR (some (h0)), tI (p1)] σ (some (tI r)) σ1 := by
  refine CT.mk hE (by decide +kernel) (Nat.le_of_ble_eq_true rfl) [(0, tR (some (h0))), (1, tI (p1))] rfl (fun X C hin hx hxn => ?_)
  have C : XOK E X cX8_countFurther RX8 2 (some .int) rm_X8_countFurther := C
  unfold s_X8_countFurther at h
  refine g_iload_n (pc := 0) C 1 1 dX8_countFurther_0 rfl rfl ?_
  refine g_bipush (v := 9) (pc := 1) C dX8_countFurther_1 (by decide) ?_
  refine g_icmp_lt (pc := 3) C 22 dX8_countFurther_3 (by decide) (fun c5 => ?_) (fun c5 => ?_)
  · have h := zif_t c5 h
    exact w_X8_countFurther_j22 hE C hxn _ _ _ _ _ h hx
  · have h := zif_f c5 h
    refine g_iload_n (pc := 6) C 1 1 dX8_countFurther_6 rfl rfl ?_
    refine g_bipush (v := 14) (pc := 7) C dX8_countFurther_7 (by decide) ?_
    refine g_icmp_ge (pc := 9) C 22 dX8_countFurther_9 (by decide) (fun c4 => ?_) (fun c4 => ?_)
    · have h := zif_t c4 h
      exact w_X8_countFurther_j22 hE C hxn _ _ _ _ _ h hx
    · have h := zif_f c4 h
      refine g_aload_n (pc := 12) C 0 0 dX8_countFurther_12 rfl rfl ?_
      obtain ⟨r1, hvr1, h⟩ := zbind h
      refine g_getR (N := 19) (pc := 13) C ck_8 hvr1 rfl rfl fl_X8_68 dX8_countFurther_13 ?_
      refine g_iload_n (pc := 16) C 1 1 dX8_countFurther_16 rfl rfl ?_
      refine g_bipush (v := 9) (pc := 17) C dX8_countFurther_17 (by decide) ?_
      refine g_isub (pc := 19) C dX8_countFurther_19 ?_
      obtain ⟨a2, hqa2, h9⟩ := zbind h
      clear h
      subst hqa2
      have h := h9
      clear h9
      obtain ⟨v3, hvv3, h⟩ := zbind h
      refine g_iald (pc := 20) C hvv3 dX8_countFurther_20 ?_
      obtain ⟨rfl, rfl⟩ := zsome h
      exact g_iret (pc := 21) C rfl hx (by rw [hxn]; rfl) (by rw [hxn]; rfl) dX8_countFurther_21
def rm_X8_count : Room := { frames := 1, cells := 0, slots := 0, locals := 21 }
noncomputable def s_X8_count_j159 (h0 : Nat) (l1 : Int32) (σ : Hp) : Option (Int32 × Hp) :=
  (ck 8 σ h0).bind fun u1 =>
  cb (s_X8_countFurther h0 (l1) σ) fun v3 σ2 =>
  some ((v3), σ2)
set_option maxRecDepth 100000 in
theorem w_X8_count_j159 {E : E0} (hE : EOK E) {X : X0} (C : XOK E X cX8_count RX8 2 (some .int) rm_X8_count) (hxn : xn X = (rm_X8_count.cells, rm_X8_count.slots)) (h0 : Nat) (l1 : Int32) (σ : Hp) (r : Int32) (σ1 : Hp) (h : s_X8_count_j159 h0 l1 σ = some (r, σ1)) (hx : xd X = (some (tI r), σ1)) : G E X 0 0 159 [(0, tR (some (h0))), (1, tI (l1))] [] σ := by
  unfold s_X8_count_j159 at h
  refine g_aload_n (pc := 159) C 0 0 dX8_count_159 rfl rfl ?_
  refine g_iload_n (pc := 160) C 1 1 dX8_count_160 rfl rfl ?_
  obtain ⟨u1, hvu1, h⟩ := zbind h
  obtain ⟨v3, σ2, hvσ2, h⟩ := zcb h
  refine g_callV (pc := 161) (av := [tI (l1)]) C (c_X8_countFurther hE hvσ2) yv_X8_countFurther ml_X8_396 ck_8 (zopt hvu1).1 rfl (rf_of (by decide)) rfl (Nat.le_of_ble_eq_true rfl) dX8_count_161 ?_
  obtain ⟨rfl, rfl⟩ := zsome h
  exact g_iret (pc := 164) C rfl hx (by rw [hxn]; rfl) (by rw [hxn]; rfl) dX8_count_164
noncomputable def s_X8_count (h0 : Nat) (p1 : Int32) (σ : Hp) : Option (Int32 × Hp) :=
  if p1 = 0 then
    (rdR 8 σ h0 0).bind fun r1 =>
    (r1).bind fun a2 =>
    (rdR 1 σ a2 0).bind fun r3 =>
    (r3).bind fun a4 =>
    (rdI 3 σ a4 3).bind fun v5 =>
    some ((v5), σ)
  else
    if p1 = 1 then
      (rdR 8 σ h0 0).bind fun r7 =>
      (r7).bind fun a8 =>
      (rdI 1 σ a8 13).bind fun v9 =>
      some ((v9), σ)
    else
      if p1 = 2 then
        (rdR 8 σ h0 0).bind fun r11 =>
        (r11).bind fun a12 =>
        (rdI 1 σ a12 14).bind fun v13 =>
        some ((v13), σ)
      else
        if p1 = 3 then
          (rdR 8 σ h0 0).bind fun r15 =>
          (r15).bind fun a16 =>
          (rdI 1 σ a16 15).bind fun v17 =>
          some ((v17), σ)
        else
          if p1 = 4 then
            (rdR 8 σ h0 0).bind fun r19 =>
            (r19).bind fun a20 =>
            (rdI 1 σ a20 18).bind fun v21 =>
            some ((v21), σ)
          else
            if p1 = 5 then
              (rdR 8 σ h0 0).bind fun r23 =>
              (r23).bind fun a24 =>
              (rdI 1 σ a24 16).bind fun v25 =>
              some ((v25), σ)
            else
              if p1 = 6 then
                (rdR 8 σ h0 0).bind fun r27 =>
                (r27).bind fun a28 =>
                (rdI 1 σ a28 17).bind fun v29 =>
                some ((v29), σ)
              else
                if p1 = 7 then
                  (rdR 8 σ h0 8).bind fun r31 =>
                  (r31).bind fun a32 =>
                  (rdI 0 σ a32 1).bind fun v33 =>
                  some ((v33), σ)
                else
                  if p1 = 8 then
                    (rdR 8 σ h0 5).bind fun r35 =>
                    (r35).bind fun a36 =>
                    (rdI 6 σ a36 1).bind fun v37 =>
                    some ((v37), σ)
                  else
                    if p1 = 9 then
                      s_X8_count_j159 (h0) (p1) σ
                    else
                      if p1 = 10 then
                        s_X8_count_j159 (h0) (p1) σ
                      else
                        if p1 = 11 then
                          s_X8_count_j159 (h0) (p1) σ
                        else
                          if p1 = 12 then
                            s_X8_count_j159 (h0) (p1) σ
                          else
                            if p1 = 13 then
                              s_X8_count_j159 (h0) (p1) σ
                            else
                              if p1 = 14 then
                                (rdR 8 σ h0 0).bind fun r44 =>
                                (r44).bind fun a45 =>
                                (rdI 1 σ a45 19).bind fun v46 =>
                                some ((v46), σ)
                              else
                                s_X8_count_j159 (h0) (p1) σ
set_option maxRecDepth 100000 in
theorem c_X8_count {E : E0} (hE : EOK E) {h0 : Nat} {p1 : Int32} {σ σ1 : Hp} {r : Int32} (h : s_X8_count h0 p1 σ = some (r, σ1)) : CT E yX8_count (.code yX8_count cX8_count 2 (some .int)) rm_X8_count [tR (some (h0)), tI (p1)] σ (some (tI r)) σ1 := by
  refine CT.mk hE (by decide +kernel) (Nat.le_of_ble_eq_true rfl) [(0, tR (some (h0))), (1, tI (p1))] rfl (fun X C hin hx hxn => ?_)
  have C : XOK E X cX8_count RX8 2 (some .int) rm_X8_count := C
  unfold s_X8_count at h
  refine g_iload_n (pc := 0) C 1 1 dX8_count_0 rfl rfl ?_
  by_cases c6 : p1 = 0
  · refine g_tswIn (pc := 1) C 76 dX8_count_1 (by rw [c6] <;> decide) (by rw [c6] <;> decide) (by rw [c6] <;> rfl) (by decide) ?_
    have h := zif_t c6 h
    refine g_aload_n (pc := 76) C 0 0 dX8_count_76 rfl rfl ?_
    obtain ⟨r1, hvr1, h⟩ := zbind h
    refine g_getR (N := 19) (pc := 77) C ck_8 hvr1 rfl rfl fl_X8_12 dX8_count_77 ?_
    obtain ⟨a2, hqa2, h9⟩ := zbind h
    clear h
    subst hqa2
    have h := h9
    clear h9
    obtain ⟨r3, hvr3, h⟩ := zbind h
    refine g_getR (N := 20) (pc := 80) C ck_1 hvr3 rfl rfl fl_X8_103 dX8_count_80 ?_
    obtain ⟨a4, hqa4, h9⟩ := zbind h
    clear h
    subst hqa4
    have h := h9
    clear h9
    obtain ⟨v5, hvv5, h⟩ := zbind h
    refine g_getI (N := 4) (pc := 83) C ck_3 hvv5 rfl rfl fl_X8_107 dX8_count_83 ?_
    obtain ⟨rfl, rfl⟩ := zsome h
    exact g_iret (pc := 86) C rfl hx (by rw [hxn]; rfl) (by rw [hxn]; rfl) dX8_count_86
  · have h := zif_f c6 h
    by_cases c10 : p1 = 1
    · refine g_tswIn (pc := 1) C 87 dX8_count_1 (by rw [c10] <;> decide) (by rw [c10] <;> decide) (by rw [c10] <;> rfl) (by decide) ?_
      have h := zif_t c10 h
      refine g_aload_n (pc := 87) C 0 0 dX8_count_87 rfl rfl ?_
      obtain ⟨r7, hvr7, h⟩ := zbind h
      refine g_getR (N := 19) (pc := 88) C ck_8 hvr7 rfl rfl fl_X8_12 dX8_count_88 ?_
      obtain ⟨a8, hqa8, h9⟩ := zbind h
      clear h
      subst hqa8
      have h := h9
      clear h9
      obtain ⟨v9, hvv9, h⟩ := zbind h
      refine g_getI (N := 20) (pc := 91) C ck_1 hvv9 rfl rfl fl_X8_142 dX8_count_91 ?_
      obtain ⟨rfl, rfl⟩ := zsome h
      exact g_iret (pc := 94) C rfl hx (by rw [hxn]; rfl) (by rw [hxn]; rfl) dX8_count_94
    · have h := zif_f c10 h
      by_cases c14 : p1 = 2
      · refine g_tswIn (pc := 1) C 95 dX8_count_1 (by rw [c14] <;> decide) (by rw [c14] <;> decide) (by rw [c14] <;> rfl) (by decide) ?_
        have h := zif_t c14 h
        refine g_aload_n (pc := 95) C 0 0 dX8_count_95 rfl rfl ?_
        obtain ⟨r11, hvr11, h⟩ := zbind h
        refine g_getR (N := 19) (pc := 96) C ck_8 hvr11 rfl rfl fl_X8_12 dX8_count_96 ?_
        obtain ⟨a12, hqa12, h9⟩ := zbind h
        clear h
        subst hqa12
        have h := h9
        clear h9
        obtain ⟨v13, hvv13, h⟩ := zbind h
        refine g_getI (N := 20) (pc := 99) C ck_1 hvv13 rfl rfl fl_X8_154 dX8_count_99 ?_
        obtain ⟨rfl, rfl⟩ := zsome h
        exact g_iret (pc := 102) C rfl hx (by rw [hxn]; rfl) (by rw [hxn]; rfl) dX8_count_102
      · have h := zif_f c14 h
        by_cases c18 : p1 = 3
        · refine g_tswIn (pc := 1) C 103 dX8_count_1 (by rw [c18] <;> decide) (by rw [c18] <;> decide) (by rw [c18] <;> rfl) (by decide) ?_
          have h := zif_t c18 h
          refine g_aload_n (pc := 103) C 0 0 dX8_count_103 rfl rfl ?_
          obtain ⟨r15, hvr15, h⟩ := zbind h
          refine g_getR (N := 19) (pc := 104) C ck_8 hvr15 rfl rfl fl_X8_12 dX8_count_104 ?_
          obtain ⟨a16, hqa16, h9⟩ := zbind h
          clear h
          subst hqa16
          have h := h9
          clear h9
          obtain ⟨v17, hvv17, h⟩ := zbind h
          refine g_getI (N := 20) (pc := 107) C ck_1 hvv17 rfl rfl fl_X8_167 dX8_count_107 ?_
          obtain ⟨rfl, rfl⟩ := zsome h
          exact g_iret (pc := 110) C rfl hx (by rw [hxn]; rfl) (by rw [hxn]; rfl) dX8_count_110
        · have h := zif_f c18 h
          by_cases c22 : p1 = 4
          · refine g_tswIn (pc := 1) C 111 dX8_count_1 (by rw [c22] <;> decide) (by rw [c22] <;> decide) (by rw [c22] <;> rfl) (by decide) ?_
            have h := zif_t c22 h
            refine g_aload_n (pc := 111) C 0 0 dX8_count_111 rfl rfl ?_
            obtain ⟨r19, hvr19, h⟩ := zbind h
            refine g_getR (N := 19) (pc := 112) C ck_8 hvr19 rfl rfl fl_X8_12 dX8_count_112 ?_
            obtain ⟨a20, hqa20, h9⟩ := zbind h
            clear h
            subst hqa20
            have h := h9
            clear h9
            obtain ⟨v21, hvv21, h⟩ := zbind h
            refine g_getI (N := 20) (pc := 115) C ck_1 hvv21 rfl rfl fl_X8_287 dX8_count_115 ?_
            obtain ⟨rfl, rfl⟩ := zsome h
            exact g_iret (pc := 118) C rfl hx (by rw [hxn]; rfl) (by rw [hxn]; rfl) dX8_count_118
          · have h := zif_f c22 h
            by_cases c26 : p1 = 5
            · refine g_tswIn (pc := 1) C 119 dX8_count_1 (by rw [c26] <;> decide) (by rw [c26] <;> decide) (by rw [c26] <;> rfl) (by decide) ?_
              have h := zif_t c26 h
              refine g_aload_n (pc := 119) C 0 0 dX8_count_119 rfl rfl ?_
              obtain ⟨r23, hvr23, h⟩ := zbind h
              refine g_getR (N := 19) (pc := 120) C ck_8 hvr23 rfl rfl fl_X8_12 dX8_count_120 ?_
              obtain ⟨a24, hqa24, h9⟩ := zbind h
              clear h
              subst hqa24
              have h := h9
              clear h9
              obtain ⟨v25, hvv25, h⟩ := zbind h
              refine g_getI (N := 20) (pc := 123) C ck_1 hvv25 rfl rfl fl_X8_362 dX8_count_123 ?_
              obtain ⟨rfl, rfl⟩ := zsome h
              exact g_iret (pc := 126) C rfl hx (by rw [hxn]; rfl) (by rw [hxn]; rfl) dX8_count_126
            · have h := zif_f c26 h
              by_cases c30 : p1 = 6
              · refine g_tswIn (pc := 1) C 127 dX8_count_1 (by rw [c30] <;> decide) (by rw [c30] <;> decide) (by rw [c30] <;> rfl) (by decide) ?_
                have h := zif_t c30 h
                refine g_aload_n (pc := 127) C 0 0 dX8_count_127 rfl rfl ?_
                obtain ⟨r27, hvr27, h⟩ := zbind h
                refine g_getR (N := 19) (pc := 128) C ck_8 hvr27 rfl rfl fl_X8_12 dX8_count_128 ?_
                obtain ⟨a28, hqa28, h9⟩ := zbind h
                clear h
                subst hqa28
                have h := h9
                clear h9
                obtain ⟨v29, hvv29, h⟩ := zbind h
                refine g_getI (N := 20) (pc := 131) C ck_1 hvv29 rfl rfl fl_X8_226 dX8_count_131 ?_
                obtain ⟨rfl, rfl⟩ := zsome h
                exact g_iret (pc := 134) C rfl hx (by rw [hxn]; rfl) (by rw [hxn]; rfl) dX8_count_134
              · have h := zif_f c30 h
                by_cases c34 : p1 = 7
                · refine g_tswIn (pc := 1) C 135 dX8_count_1 (by rw [c34] <;> decide) (by rw [c34] <;> decide) (by rw [c34] <;> rfl) (by decide) ?_
                  have h := zif_t c34 h
                  refine g_aload_n (pc := 135) C 0 0 dX8_count_135 rfl rfl ?_
                  obtain ⟨r31, hvr31, h⟩ := zbind h
                  refine g_getR (N := 19) (pc := 136) C ck_8 hvr31 rfl rfl fl_X8_54 dX8_count_136 ?_
                  obtain ⟨a32, hqa32, h9⟩ := zbind h
                  clear h
                  subst hqa32
                  have h := h9
                  clear h9
                  obtain ⟨v33, hvv33, h⟩ := zbind h
                  refine g_getI (N := 2) (pc := 139) C ck_0 hvv33 rfl rfl fl_X8_393 dX8_count_139 ?_
                  obtain ⟨rfl, rfl⟩ := zsome h
                  exact g_iret (pc := 142) C rfl hx (by rw [hxn]; rfl) (by rw [hxn]; rfl) dX8_count_142
                · have h := zif_f c34 h
                  by_cases c38 : p1 = 8
                  · refine g_tswIn (pc := 1) C 143 dX8_count_1 (by rw [c38] <;> decide) (by rw [c38] <;> decide) (by rw [c38] <;> rfl) (by decide) ?_
                    have h := zif_t c38 h
                    refine g_aload_n (pc := 143) C 0 0 dX8_count_143 rfl rfl ?_
                    obtain ⟨r35, hvr35, h⟩ := zbind h
                    refine g_getR (N := 19) (pc := 144) C ck_8 hvr35 rfl rfl fl_X8_33 dX8_count_144 ?_
                    obtain ⟨a36, hqa36, h9⟩ := zbind h
                    clear h
                    subst hqa36
                    have h := h9
                    clear h9
                    obtain ⟨v37, hvv37, h⟩ := zbind h
                    refine g_getI (N := 2) (pc := 147) C ck_6 hvv37 rfl rfl fl_X8_216 dX8_count_147 ?_
                    obtain ⟨rfl, rfl⟩ := zsome h
                    exact g_iret (pc := 150) C rfl hx (by rw [hxn]; rfl) (by rw [hxn]; rfl) dX8_count_150
                  · have h := zif_f c38 h
                    by_cases c39 : p1 = 9
                    · refine g_tswIn (pc := 1) C 159 dX8_count_1 (by rw [c39] <;> decide) (by rw [c39] <;> decide) (by rw [c39] <;> rfl) (by decide) ?_
                      have h := zif_t c39 h
                      exact w_X8_count_j159 hE C hxn _ _ _ _ _ h hx
                    · have h := zif_f c39 h
                      by_cases c40 : p1 = 10
                      · refine g_tswIn (pc := 1) C 159 dX8_count_1 (by rw [c40] <;> decide) (by rw [c40] <;> decide) (by rw [c40] <;> rfl) (by decide) ?_
                        have h := zif_t c40 h
                        exact w_X8_count_j159 hE C hxn _ _ _ _ _ h hx
                      · have h := zif_f c40 h
                        by_cases c41 : p1 = 11
                        · refine g_tswIn (pc := 1) C 159 dX8_count_1 (by rw [c41] <;> decide) (by rw [c41] <;> decide) (by rw [c41] <;> rfl) (by decide) ?_
                          have h := zif_t c41 h
                          exact w_X8_count_j159 hE C hxn _ _ _ _ _ h hx
                        · have h := zif_f c41 h
                          by_cases c42 : p1 = 12
                          · refine g_tswIn (pc := 1) C 159 dX8_count_1 (by rw [c42] <;> decide) (by rw [c42] <;> decide) (by rw [c42] <;> rfl) (by decide) ?_
                            have h := zif_t c42 h
                            exact w_X8_count_j159 hE C hxn _ _ _ _ _ h hx
                          · have h := zif_f c42 h
                            by_cases c43 : p1 = 13
                            · refine g_tswIn (pc := 1) C 159 dX8_count_1 (by rw [c43] <;> decide) (by rw [c43] <;> decide) (by rw [c43] <;> rfl) (by decide) ?_
                              have h := zif_t c43 h
                              exact w_X8_count_j159 hE C hxn _ _ _ _ _ h hx
                            · have h := zif_f c43 h
                              by_cases c47 : p1 = 14
                              · refine g_tswIn (pc := 1) C 151 dX8_count_1 (by rw [c47] <;> decide) (by rw [c47] <;> decide) (by rw [c47] <;> rfl) (by decide) ?_
                                have h := zif_t c47 h
                                refine g_aload_n (pc := 151) C 0 0 dX8_count_151 rfl rfl ?_
                                obtain ⟨r44, hvr44, h⟩ := zbind h
                                refine g_getR (N := 19) (pc := 152) C ck_8 hvr44 rfl rfl fl_X8_12 dX8_count_152 ?_
                                obtain ⟨a45, hqa45, h9⟩ := zbind h
                                clear h
                                subst hqa45
                                have h := h9
                                clear h9
                                obtain ⟨v46, hvv46, h⟩ := zbind h
                                refine g_getI (N := 20) (pc := 155) C ck_1 hvv46 rfl rfl fl_X8_293 dX8_count_155 ?_
                                obtain ⟨rfl, rfl⟩ := zsome h
                                exact g_iret (pc := 158) C rfl hx (by rw [hxn]; rfl) (by rw [hxn]; rfl) dX8_count_158
                              · have h := zif_f c47 h
                                refine g_tswOut (pc := 1) C 159 dX8_count_1 (by have ec6 := n32 (k := 0) (n := 0) (by decide) c6; have ec10 := n32 (k := 1) (n := 1) (by decide) c10; have ec14 := n32 (k := 2) (n := 2) (by decide) c14; have ec18 := n32 (k := 3) (n := 3) (by decide) c18; have ec22 := n32 (k := 4) (n := 4) (by decide) c22; have ec26 := n32 (k := 5) (n := 5) (by decide) c26; have ec30 := n32 (k := 6) (n := 6) (by decide) c30; have ec34 := n32 (k := 7) (n := 7) (by decide) c34; have ec38 := n32 (k := 8) (n := 8) (by decide) c38; have ec39 := n32 (k := 9) (n := 9) (by decide) c39; have ec40 := n32 (k := 10) (n := 10) (by decide) c40; have ec41 := n32 (k := 11) (n := 11) (by decide) c41; have ec42 := n32 (k := 12) (n := 12) (by decide) c42; have ec43 := n32 (k := 13) (n := 13) (by decide) c43; have ec47 := n32 (k := 14) (n := 14) (by decide) c47; omega) (by decide) ?_
                                exact w_X8_count_j159 hE C hxn _ _ _ _ _ h hx
def rm_X8_status : Room := { frames := 0, cells := 0, slots := 0, locals := 0 }
noncomputable def s_X8_status (h0 : Nat) (σ : Hp) : Option (Int32 × Hp) :=
  (rdI 8 σ h0 18).bind fun v1 =>
  some ((v1), σ)
set_option maxRecDepth 100000 in
theorem c_X8_status {E : E0} (hE : EOK E) {h0 : Nat} {σ σ1 : Hp} {r : Int32} (h : s_X8_status h0 σ = some (r, σ1)) : CT E yX8_status (.code yX8_status cX8_status 1 (some .int)) rm_X8_status [tR (some (h0))] σ (some (tI r)) σ1 := by
  refine CT.mk hE (by decide +kernel) (Nat.le_of_ble_eq_true rfl) [(0, tR (some (h0)))] rfl (fun X C hin hx hxn => ?_)
  have C : XOK E X cX8_status RX8 1 (some .int) rm_X8_status := C
  unfold s_X8_status at h
  refine g_aload_n (pc := 0) C 0 0 dX8_status_0 rfl rfl ?_
  obtain ⟨v1, hvv1, h⟩ := zbind h
  refine g_getI (N := 19) (pc := 1) C ck_8 hvv1 rfl rfl fl_X8_92 dX8_status_1 ?_
  obtain ⟨rfl, rfl⟩ := zsome h
  exact g_iret (pc := 4) C rfl hx (by rw [hxn]; rfl) (by rw [hxn]; rfl) dX8_status_4
