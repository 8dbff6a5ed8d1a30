def rm_X9_feed : Room := { frames := 1, cells := 0, slots := 0, locals := 22 }
noncomputable def s_X9_feed (h0 : Nat) (p1 : Int32) (p2 : Int32) (p3 : Int32) (p4 : Int32) (p5 : Int32) (σ : Hp) : Option (Int32 × Hp) :=
  (wrI 9 σ h0 0 (0)).bind fun σ1 =>
  (rdI 9 σ1 h0 13).bind fun v2 =>
  if (v2 + 20) ≤ 400 then
    (ck 9 σ1 h0).bind fun u3 =>
    cb (s_X9_four h0 (p1) σ1) fun v5 σ4 =>
    (ck 9 σ4 h0).bind fun u6 =>
    cb (s_X9_four h0 (p2) σ4) fun v8 σ7 =>
    (ck 9 σ7 h0).bind fun u9 =>
    cb (s_X9_four h0 (p3) σ7) fun v11 σ10 =>
    (ck 9 σ10 h0).bind fun u12 =>
    cb (s_X9_four h0 (p4) σ10) fun v14 σ13 =>
    (ck 9 σ13 h0).bind fun u15 =>
    cb (s_X9_four h0 (p5) σ13) fun v17 σ16 =>
    (rdI 9 σ16 h0 13).bind fun v18 =>
    some ((v18), σ16)
  else
    some (((-1)), σ1)
set_option maxRecDepth 100000 in
theorem c_X9_feed {E : E0} (hE : EOK E) {h0 : Nat} {p1 : Int32} {p2 : Int32} {p3 : Int32} {p4 : Int32} {p5 : Int32} {σ σ1 : Hp} {r : Int32} (h : s_X9_feed h0 p1 p2 p3 p4 p5 σ = some (r, σ1)) : CT E yX9_feed (.code yX9_feed cX9_feed 6 (some .int)) rm_X9_feed [tR (some (h0)), tI (p1), tI (p2), tI (p3), tI (p4), tI (p5)] σ (some (tI r)) σ1 := by
  refine CT.mk hE (by decide +kernel) (Nat.le_of_ble_eq_true rfl) [(0, tR (some (h0))), (1, tI (p1)), (2, tI (p2)), (3, tI (p3)), (4, tI (p4)), (5, tI (p5))] rfl (fun X C hin hx hxn => ?_)
  have C : XOK E X cX9_feed RX9 6 (some .int) rm_X9_feed := C
  unfold s_X9_feed at h
  refine g_aload_n (pc := 0) C 0 0 dX9_feed_0 rfl rfl ?_
  refine g_iconst (v := 0) (pc := 1) C dX9_feed_1 (by decide) ?_
  obtain ⟨σ1, hvσ1, h⟩ := zbind h
  refine g_putI (N := 58) (pc := 2) C ⟨ck_9, rfl, tyX9_ok⟩ hvσ1 rfl fl_X9_161 rfl rfl dX9_feed_2 ?_
  refine g_aload_n (pc := 5) C 0 0 dX9_feed_5 rfl rfl ?_
  obtain ⟨v2, hvv2, h⟩ := zbind h
  refine g_getI (N := 58) (pc := 6) C ck_9 hvv2 rfl rfl fl_X9_242 dX9_feed_6 ?_
  refine g_bipush (v := 20) (pc := 9) C dX9_feed_9 (by decide) ?_
  refine g_iadd (pc := 11) C dX9_feed_11 ?_
  refine g_sipush (v := 400) (pc := 12) C dX9_feed_12 (by decide) ?_
  refine g_icmp_le (pc := 15) C 20 dX9_feed_15 (by decide) (fun c19 => ?_) (fun c19 => ?_)
  · have h := zif_t c19 h
    refine g_aload_n (pc := 20) C 0 0 dX9_feed_20 rfl rfl ?_
    refine g_iload_n (pc := 21) C 1 1 dX9_feed_21 rfl rfl ?_
    obtain ⟨u3, hvu3, h⟩ := zbind h
    obtain ⟨v5, σ4, hvσ4, h⟩ := zcb h
    refine g_callV (pc := 22) (av := [tI (p1)]) C (c_X9_four hE hvσ4) yv_X9_four ml_X9_248 ck_9 (zopt hvu3).1 rfl (rf_of (by decide)) rfl (Nat.le_of_ble_eq_true rfl) dX9_feed_22 ?_
    refine g_aload_n (pc := 25) C 0 0 dX9_feed_25 rfl rfl ?_
    refine g_iload_n (pc := 26) C 2 2 dX9_feed_26 rfl rfl ?_
    obtain ⟨u6, hvu6, h⟩ := zbind h
    obtain ⟨v8, σ7, hvσ7, h⟩ := zcb h
    refine g_callV (pc := 27) (av := [tI (p2)]) C (c_X9_four hE hvσ7) yv_X9_four ml_X9_248 ck_9 (zopt hvu6).1 rfl (rf_of (by decide)) rfl (Nat.le_of_ble_eq_true rfl) dX9_feed_27 ?_
    refine g_aload_n (pc := 30) C 0 0 dX9_feed_30 rfl rfl ?_
    refine g_iload_n (pc := 31) C 3 3 dX9_feed_31 rfl rfl ?_
    obtain ⟨u9, hvu9, h⟩ := zbind h
    obtain ⟨v11, σ10, hvσ10, h⟩ := zcb h
    refine g_callV (pc := 32) (av := [tI (p3)]) C (c_X9_four hE hvσ10) yv_X9_four ml_X9_248 ck_9 (zopt hvu9).1 rfl (rf_of (by decide)) rfl (Nat.le_of_ble_eq_true rfl) dX9_feed_32 ?_
    refine g_aload_n (pc := 35) C 0 0 dX9_feed_35 rfl rfl ?_
    refine g_iload (pc := 36) C 4 dX9_feed_36 rfl ?_
    obtain ⟨u12, hvu12, h⟩ := zbind h
    obtain ⟨v14, σ13, hvσ13, h⟩ := zcb h
    refine g_callV (pc := 38) (av := [tI (p4)]) C (c_X9_four hE hvσ13) yv_X9_four ml_X9_248 ck_9 (zopt hvu12).1 rfl (rf_of (by decide)) rfl (Nat.le_of_ble_eq_true rfl) dX9_feed_38 ?_
    refine g_aload_n (pc := 41) C 0 0 dX9_feed_41 rfl rfl ?_
    refine g_iload (pc := 42) C 5 dX9_feed_42 rfl ?_
    obtain ⟨u15, hvu15, h⟩ := zbind h
    obtain ⟨v17, σ16, hvσ16, h⟩ := zcb h
    refine g_callV (pc := 44) (av := [tI (p5)]) C (c_X9_four hE hvσ16) yv_X9_four ml_X9_248 ck_9 (zopt hvu15).1 rfl (rf_of (by decide)) rfl (Nat.le_of_ble_eq_true rfl) dX9_feed_44 ?_
    refine g_aload_n (pc := 47) C 0 0 dX9_feed_47 rfl rfl ?_
    obtain ⟨v18, hvv18, h⟩ := zbind h
    refine g_getI (N := 58) (pc := 48) C ck_9 hvv18 rfl rfl fl_X9_242 dX9_feed_48 ?_
    obtain ⟨rfl, rfl⟩ := zsome h
    exact g_iret (pc := 51) C rfl hx (by rw [hxn]; rfl) (by rw [hxn]; rfl) dX9_feed_51
  · have h := zif_f c19 h
    refine g_iconst (v := (-1)) (pc := 18) C dX9_feed_18 (by decide) ?_
    obtain ⟨rfl, rfl⟩ := zsome h
    exact g_iret (pc := 19) C rfl hx (by rw [hxn]; rfl) (by rw [hxn]; rfl) dX9_feed_19
def rm_X9_end : Room := { frames := 0, cells := 0, slots := 0, locals := 0 }
noncomputable def s_X9_end (h0 : Nat) (p1 : Int32) (σ : Hp) : Option (Int32 × Hp) :=
  (wrI 9 σ h0 0 (0)).bind fun σ1 =>
  if p1 < 0 then
    some (((-1)), σ1)
  else
    (rdI 9 σ1 h0 13).bind fun v2 =>
    if p1 ≤ v2 then
      (wrI 9 σ1 h0 13 (p1)).bind fun σ3 =>
      some ((p1), σ3)
    else
      some (((-1)), σ1)
set_option maxRecDepth 100000 in
theorem c_X9_end {E : E0} (hE : EOK E) {h0 : Nat} {p1 : Int32} {σ σ1 : Hp} {r : Int32} (h : s_X9_end h0 p1 σ = some (r, σ1)) : CT E yX9_end (.code yX9_end cX9_end 2 (some .int)) rm_X9_end [tR (some (h0)), tI (p1)] σ (some (tI r)) σ1 := by
  refine CT.mk hE (by decide +kernel) (Nat.le_of_ble_eq_true rfl) [(0, tR (some (h0))), (1, tI (p1))] rfl (fun X C hin hx hxn => ?_)
  have C : XOK E X cX9_end RX9 2 (some .int) rm_X9_end := C
  unfold s_X9_end at h
  refine g_aload_n (pc := 0) C 0 0 dX9_end_0 rfl rfl ?_
  refine g_iconst (v := 0) (pc := 1) C dX9_end_1 (by decide) ?_
  obtain ⟨σ1, hvσ1, h⟩ := zbind h
  refine g_putI (N := 58) (pc := 2) C ⟨ck_9, rfl, tyX9_ok⟩ hvσ1 rfl fl_X9_161 rfl rfl dX9_end_2 ?_
  refine g_iload_n (pc := 5) C 1 1 dX9_end_5 rfl rfl ?_
  refine g_if_lt (pc := 6) C 17 dX9_end_6 (by decide) (fun c5 => ?_) (fun c5 => ?_)
  · have h := zif_t c5 h
    refine g_iconst (v := (-1)) (pc := 17) C dX9_end_17 (by decide) ?_
    obtain ⟨rfl, rfl⟩ := zsome h
    exact g_iret (pc := 18) C rfl hx (by rw [hxn]; rfl) (by rw [hxn]; rfl) dX9_end_18
  · have h := zif_f c5 h
    refine g_iload_n (pc := 9) C 1 1 dX9_end_9 rfl rfl ?_
    refine g_aload_n (pc := 10) C 0 0 dX9_end_10 rfl rfl ?_
    obtain ⟨v2, hvv2, h⟩ := zbind h
    refine g_getI (N := 58) (pc := 11) C ck_9 hvv2 rfl rfl fl_X9_242 dX9_end_11 ?_
    refine g_icmp_le (pc := 14) C 19 dX9_end_14 (by decide) (fun c4 => ?_) (fun c4 => ?_)
    · have h := zif_t c4 h
      refine g_aload_n (pc := 19) C 0 0 dX9_end_19 rfl rfl ?_
      refine g_iload_n (pc := 20) C 1 1 dX9_end_20 rfl rfl ?_
      obtain ⟨σ3, hvσ3, h⟩ := zbind h
      refine g_putI (N := 58) (pc := 21) C ⟨ck_9, rfl, tyX9_ok⟩ hvσ3 rfl fl_X9_242 rfl rfl dX9_end_21 ?_
      refine g_iload_n (pc := 24) C 1 1 dX9_end_24 rfl rfl ?_
      obtain ⟨rfl, rfl⟩ := zsome h
      exact g_iret (pc := 25) C rfl hx (by rw [hxn]; rfl) (by rw [hxn]; rfl) dX9_end_25
    · have h := zif_f c4 h
      refine g_iconst (v := (-1)) (pc := 17) C dX9_end_17 (by decide) ?_
      obtain ⟨rfl, rfl⟩ := zsome h
      exact g_iret (pc := 18) C rfl hx (by rw [hxn]; rfl) (by rw [hxn]; rfl) dX9_end_18
def rm_X9_isSmall : Room := { frames := 0, cells := 0, slots := 0, locals := 0 }
noncomputable def s_X9_isSmall (p0 : Int32) (σ : Hp) : Option (Int32 × Hp) :=
  if p0 < 97 then
    some ((0), σ)
  else
    if 122 < p0 then
      some ((0), σ)
    else
      some ((1), σ)
set_option maxRecDepth 100000 in
theorem c_X9_isSmall {E : E0} (hE : EOK E) {p0 : Int32} {σ σ1 : Hp} {r : Int32} (h : s_X9_isSmall p0 σ = some (r, σ1)) : CT E yX9_isSmall (.code yX9_isSmall cX9_isSmall 1 (some .boolean)) rm_X9_isSmall [tI (p0)] σ (some (tI r)) σ1 := by
  refine CT.mk hE (by decide +kernel) (Nat.le_of_ble_eq_true rfl) [(0, tI (p0))] rfl (fun X C hin hx hxn => ?_)
  have C : XOK E X cX9_isSmall RX9 1 (some .boolean) rm_X9_isSmall := C
  unfold s_X9_isSmall at h
  refine g_iload_n (pc := 0) C 0 0 dX9_isSmall_0 rfl rfl ?_
  refine g_bipush (v := 97) (pc := 1) C dX9_isSmall_1 (by decide) ?_
  refine g_icmp_lt (pc := 3) C 16 dX9_isSmall_3 (by decide) (fun c2 => ?_) (fun c2 => ?_)
  · have h := zif_t c2 h
    refine g_iconst (v := 0) (pc := 16) C dX9_isSmall_16 (by decide) ?_
    obtain ⟨rfl, rfl⟩ := zsome h
    exact g_zret (pc := 17) C rfl hx (by decide) (by rw [hxn]; rfl) (by rw [hxn]; rfl) dX9_isSmall_17
  · have h := zif_f c2 h
    refine g_iload_n (pc := 6) C 0 0 dX9_isSmall_6 rfl rfl ?_
    refine g_bipush (v := 122) (pc := 7) C dX9_isSmall_7 (by decide) ?_
    refine g_icmp_gt (pc := 9) C 16 dX9_isSmall_9 (by decide) (fun c1 => ?_) (fun c1 => ?_)
    · have h := zif_t c1 h
      refine g_iconst (v := 0) (pc := 16) C dX9_isSmall_16 (by decide) ?_
      obtain ⟨rfl, rfl⟩ := zsome h
      exact g_zret (pc := 17) C rfl hx (by decide) (by rw [hxn]; rfl) (by rw [hxn]; rfl) dX9_isSmall_17
    · have h := zif_f c1 h
      refine g_iconst (v := 1) (pc := 12) C dX9_isSmall_12 (by decide) ?_
      refine g_goto (pc := 13) C 17 dX9_isSmall_13 (by decide) ?_
      obtain ⟨rfl, rfl⟩ := zsome h
      exact g_zret (pc := 17) C rfl hx (by decide) (by rw [hxn]; rfl) (by rw [hxn]; rfl) dX9_isSmall_17
def rm_X9_isDigit : Room := { frames := 0, cells := 0, slots := 0, locals := 0 }
noncomputable def s_X9_isDigit (p0 : Int32) (σ : Hp) : Option (Int32 × Hp) :=
  if p0 < 48 then
    some ((0), σ)
  else
    if 57 < p0 then
      some ((0), σ)
    else
      some ((1), σ)
set_option maxRecDepth 100000 in
theorem c_X9_isDigit {E : E0} (hE : EOK E) {p0 : Int32} {σ σ1 : Hp} {r : Int32} (h : s_X9_isDigit p0 σ = some (r, σ1)) : CT E yX9_isDigit (.code yX9_isDigit cX9_isDigit 1 (some .boolean)) rm_X9_isDigit [tI (p0)] σ (some (tI r)) σ1 := by
  refine CT.mk hE (by decide +kernel) (Nat.le_of_ble_eq_true rfl) [(0, tI (p0))] rfl (fun X C hin hx hxn => ?_)
  have C : XOK E X cX9_isDigit RX9 1 (some .boolean) rm_X9_isDigit := C
  unfold s_X9_isDigit at h
  refine g_iload_n (pc := 0) C 0 0 dX9_isDigit_0 rfl rfl ?_
  refine g_bipush (v := 48) (pc := 1) C dX9_isDigit_1 (by decide) ?_
  refine g_icmp_lt (pc := 3) C 16 dX9_isDigit_3 (by decide) (fun c2 => ?_) (fun c2 => ?_)
  · have h := zif_t c2 h
    refine g_iconst (v := 0) (pc := 16) C dX9_isDigit_16 (by decide) ?_
    obtain ⟨rfl, rfl⟩ := zsome h
    exact g_zret (pc := 17) C rfl hx (by decide) (by rw [hxn]; rfl) (by rw [hxn]; rfl) dX9_isDigit_17
  · have h := zif_f c2 h
    refine g_iload_n (pc := 6) C 0 0 dX9_isDigit_6 rfl rfl ?_
    refine g_bipush (v := 57) (pc := 7) C dX9_isDigit_7 (by decide) ?_
    refine g_icmp_gt (pc := 9) C 16 dX9_isDigit_9 (by decide) (fun c1 => ?_) (fun c1 => ?_)
    · have h := zif_t c1 h
      refine g_iconst (v := 0) (pc := 16) C dX9_isDigit_16 (by decide) ?_
      obtain ⟨rfl, rfl⟩ := zsome h
      exact g_zret (pc := 17) C rfl hx (by decide) (by rw [hxn]; rfl) (by rw [hxn]; rfl) dX9_isDigit_17
    · have h := zif_f c1 h
      refine g_iconst (v := 1) (pc := 12) C dX9_isDigit_12 (by decide) ?_
      refine g_goto (pc := 13) C 17 dX9_isDigit_13 (by decide) ?_
      obtain ⟨rfl, rfl⟩ := zsome h
      exact g_zret (pc := 17) C rfl hx (by decide) (by rw [hxn]; rfl) (by rw [hxn]; rfl) dX9_isDigit_17
def rm_X9_next : Room := { frames := 1, cells := 0, slots := 0, locals := 20 }
noncomputable def s_X9_next_b8 (h0 : Nat) (σ : Hp) : Option (((Nat) ⊕ (Nat)) × Hp) :=
  (rdI 9 σ h0 14).bind fun v1 =>
  (rdI 9 σ h0 13).bind fun v2 =>
  if v2 ≤ v1 then
    some (Sum.inr (h0), σ)
  else
    (rdR 9 σ h0 12).bind fun r3 =>
    (rdI 9 σ h0 14).bind fun v4 =>
    (r3).bind fun a5 =>
    (ldI 11 σ a5 (v4)).bind fun v6 =>
    if v6 = 32 then
      (rdI 9 σ h0 14).bind fun v7 =>
      (wrI 9 σ h0 14 (v7 + 1)).bind fun σ8 =>
      some (Sum.inl (h0), σ8)
    else
      some (Sum.inr (h0), σ)
noncomputable def s_X9_next_l8 : (Nat) → Hp → Option ((Nat) × Hp) := loopF (fun v => s_X9_next_b8 v)
set_option maxRecDepth 100000 in
theorem w_X9_next_b8 {E : E0} (hE : EOK E) {X : X0} (C : XOK E X cX9_next RX9 1 none rm_X9_next) (hxn : xn X = (rm_X9_next.cells, rm_X9_next.slots)) {KE : (Nat) → Hp → Prop} (e_46 : ∀ (h0 : Nat) (σ : Hp), KE (h0) σ → G E X 0 0 46 [(0, tR (some (h0)))] [] σ) (h0 : Nat) (σ : Hp) (x : (Nat) ⊕ (Nat)) (σ1 : Hp) (h : s_X9_next_b8 h0 σ = some (x, σ1)) (hI : ∀ v, x = Sum.inl v → (fun (v : Nat) (σ : Hp) => G E X 0 0 8 [(0, tR (some (v)))] [] σ) v σ1) (hO : ∀ e, x = Sum.inr e → KE e σ1) : G E X 0 0 8 [(0, tR (some (h0)))] [] σ := by
  unfold s_X9_next_b8 at h
  refine g_aload_n (pc := 8) C 0 0 dX9_next_8 rfl rfl ?_
  obtain ⟨v1, hvv1, h⟩ := zbind h
  refine g_getI (N := 58) (pc := 9) C ck_9 hvv1 rfl rfl fl_X9_261 dX9_next_9 ?_
  refine g_aload_n (pc := 12) C 0 0 dX9_next_12 rfl rfl ?_
  obtain ⟨v2, hvv2, h⟩ := zbind h
  refine g_getI (N := 58) (pc := 13) C ck_9 hvv2 rfl rfl fl_X9_242 dX9_next_13 ?_
  refine g_icmp_ge (pc := 16) C 46 dX9_next_16 (by decide) (fun c10 => ?_) (fun c10 => ?_)
  · have h := zif_t c10 h
    obtain ⟨rfl, rfl⟩ := zsome h
    exact e_46 _ _ (hO _ rfl)
  · have h := zif_f c10 h
    refine g_aload_n (pc := 19) C 0 0 dX9_next_19 rfl rfl ?_
    obtain ⟨r3, hvr3, h⟩ := zbind h
    refine g_getR (N := 58) (pc := 20) C ck_9 hvr3 rfl rfl fl_X9_35 dX9_next_20 ?_
    refine g_aload_n (pc := 23) C 0 0 dX9_next_23 rfl rfl ?_
    obtain ⟨v4, hvv4, h⟩ := zbind h
    refine g_getI (N := 58) (pc := 24) C ck_9 hvv4 rfl rfl fl_X9_261 dX9_next_24 ?_
    obtain ⟨a5, hqa5, h9⟩ := zbind h
    clear h
    subst hqa5
    have h := h9
    clear h9
    obtain ⟨v6, hvv6, h⟩ := zbind h
    refine g_iald (pc := 27) C hvv6 dX9_next_27 ?_
    refine g_bipush (v := 32) (pc := 28) C dX9_next_28 (by decide) ?_
    refine g_icmp_ne (pc := 30) C 46 dX9_next_30 (by decide) (fun c9 => ?_) (fun c9 => ?_)
    · have h := zif_f c9 h
      obtain ⟨rfl, rfl⟩ := zsome h
      exact e_46 _ _ (hO _ rfl)
    · have h := zif_t c9 h
      refine g_aload_n (pc := 33) C 0 0 dX9_next_33 rfl rfl ?_
      refine g_dup (pc := 34) C dX9_next_34 rfl ?_
      obtain ⟨v7, hvv7, h⟩ := zbind h
      refine g_getI (N := 58) (pc := 35) C ck_9 hvv7 rfl rfl fl_X9_261 dX9_next_35 ?_
      refine g_iconst (v := 1) (pc := 38) C dX9_next_38 (by decide) ?_
      refine g_iadd (pc := 39) C dX9_next_39 ?_
      obtain ⟨σ8, hvσ8, h⟩ := zbind h
      refine g_putI (N := 58) (pc := 40) C ⟨ck_9, rfl, tyX9_ok⟩ hvσ8 rfl fl_X9_261 rfl rfl dX9_next_40 ?_
      refine g_goto (pc := 43) C 8 dX9_next_43 (by decide) ?_
      obtain ⟨rfl, rfl⟩ := zsome h
      exact hI _ rfl
theorem w_X9_next_l8 {E : E0} (hE : EOK E) {X : X0} (C : XOK E X cX9_next RX9 1 none rm_X9_next) (hxn : xn X = (rm_X9_next.cells, rm_X9_next.slots)) {KE : (Nat) → Hp → Prop} (e_46 : ∀ (h0 : Nat) (σ : Hp), KE (h0) σ → G E X 0 0 46 [(0, tR (some (h0)))] [] σ) {v : Nat} {σ : Hp} {e : Nat} {σ1 : Hp} (h : s_X9_next_l8 v σ = some (e, σ1)) (hO : KE e σ1) : G E X 0 0 8 [(0, tR (some (v)))] [] σ := loopF_ind (P := fun (v : Nat) (σ : Hp) => G E X 0 0 8 [(0, tR (some (v)))] [] σ) (KE := KE) (fun v σ x σ1 h hI hO => w_X9_next_b8 hE C hxn e_46 v σ x σ1 h hI hO) v σ e σ1 h hO
noncomputable def s_X9_next_j227 (h0 : Nat) (t0 : Option Nat) (t1 : Int64) (σ : Hp) : Option (((Nat) ⊕ (Nat)) × Hp) :=
  (t0).bind fun a1 =>
  (wrJ 9 σ a1 17 (t1)).bind fun σ2 =>
  (rdI 9 σ2 h0 15).bind fun v3 =>
  (wrI 9 σ2 h0 15 (v3 + 1)).bind fun σ4 =>
  some (Sum.inl (h0), σ4)
set_option maxRecDepth 100000 in
theorem w_X9_next_j227 {E : E0} (hE : EOK E) {X : X0} (C : XOK E X cX9_next RX9 1 none rm_X9_next) (hxn : xn X = (rm_X9_next.cells, rm_X9_next.slots)) {KE : (Nat) → Hp → Prop} (e_243 : ∀ (h0 : Nat) (σ : Hp), KE (h0) σ → G E X 0 0 243 [(0, tR (some (h0)))] [] σ) (h0 : Nat) (t0 : Option Nat) (t1 : Int64) (σ : Hp) (x : (Nat) ⊕ (Nat)) (σ1 : Hp) (h : s_X9_next_j227 h0 t0 t1 σ = some (x, σ1)) (hI : ∀ v, x = Sum.inl v → (fun (v : Nat) (σ : Hp) => G E X 0 0 149 [(0, tR (some (v)))] [] σ) v σ1) (hO : ∀ e, x = Sum.inr e → KE e σ1) : G E X 0 0 227 [(0, tR (some (h0)))] [tJ (t1), tR (t0)] σ := by
  unfold s_X9_next_j227 at h
  obtain ⟨a1, hqa1, h9⟩ := zbind h
  clear h
  subst hqa1
  have h := h9
  clear h9
  obtain ⟨σ2, hvσ2, h⟩ := zbind h
  refine g_putJ (N := 58) (pc := 227) C ⟨ck_9, rfl, tyX9_ok⟩ hvσ2 rfl fl_X9_264 rfl rfl dX9_next_227 ?_
  refine g_aload_n (pc := 230) C 0 0 dX9_next_230 rfl rfl ?_
  refine g_dup (pc := 231) C dX9_next_231 rfl ?_
  obtain ⟨v3, hvv3, h⟩ := zbind h
  refine g_getI (N := 58) (pc := 232) C ck_9 hvv3 rfl rfl fl_X9_251 dX9_next_232 ?_
  refine g_iconst (v := 1) (pc := 235) C dX9_next_235 (by decide) ?_
  refine g_iadd (pc := 236) C dX9_next_236 ?_
  obtain ⟨σ4, hvσ4, h⟩ := zbind h
  refine g_putI (N := 58) (pc := 237) C ⟨ck_9, rfl, tyX9_ok⟩ hvσ4 rfl fl_X9_251 rfl rfl dX9_next_237 ?_
  refine g_goto (pc := 240) C 149 dX9_next_240 (by decide) ?_
  obtain ⟨rfl, rfl⟩ := zsome h
  exact hI _ rfl
noncomputable def s_X9_next_b149 (h0 : Nat) (σ : Hp) : Option (((Nat) ⊕ (Nat)) × Hp) :=
  (rdI 9 σ h0 16).bind fun v1 =>
  if v1 = 1 then
    (rdI 9 σ h0 15).bind fun v2 =>
    (rdI 9 σ h0 13).bind fun v3 =>
    if v3 ≤ v2 then
      some (Sum.inr (h0), σ)
    else
      (rdR 9 σ h0 12).bind fun r4 =>
      (rdI 9 σ h0 15).bind fun v5 =>
      (r4).bind fun a6 =>
      (ldI 11 σ a6 (v5)).bind fun v7 =>
      cb (s_X9_isSmall (v7) σ) fun v9 σ8 =>
      if v9 = 0 then
        some (Sum.inr (h0), σ8)
      else
        (rdI 9 σ8 h0 15).bind fun v10 =>
        (rdI 9 σ8 h0 14).bind fun v11 =>
        if 10 ≤ (v10 - v11) then
          s_X9_next_j227 (h0) (some (h0)) ((-1)) σ8
        else
          (rdJ 9 σ8 h0 17).bind fun v12 =>
          (rdR 9 σ8 h0 12).bind fun r13 =>
          (rdI 9 σ8 h0 15).bind fun v14 =>
          (r13).bind fun a15 =>
          (ldI 11 σ8 a15 (v14)).bind fun v16 =>
          s_X9_next_j227 (h0) (some (h0)) (((v12 * 32) + (Int32.toInt64 (v16 : Int32))) - 96) σ8
  else
    some (Sum.inr (h0), σ)
noncomputable def s_X9_next_l149 : (Nat) → Hp → Option ((Nat) × Hp) := loopF (fun v => s_X9_next_b149 v)
set_option maxRecDepth 100000 in
theorem w_X9_next_b149 {E : E0} (hE : EOK E) {X : X0} (C : XOK E X cX9_next RX9 1 none rm_X9_next) (hxn : xn X = (rm_X9_next.cells, rm_X9_next.slots)) {KE : (Nat) → Hp → Prop} (e_243 : ∀ (h0 : Nat) (σ : Hp), KE (h0) σ → G E X 0 0 243 [(0, tR (some (h0)))] [] σ) (h0 : Nat) (σ : Hp) (x : (Nat) ⊕ (Nat)) (σ1 : Hp) (h : s_X9_next_b149 h0 σ = some (x, σ1)) (hI : ∀ v, x = Sum.inl v → (fun (v : Nat) (σ : Hp) => G E X 0 0 149 [(0, tR (some (v)))] [] σ) v σ1) (hO : ∀ e, x = Sum.inr e → KE e σ1) : G E X 0 0 149 [(0, tR (some (h0)))] [] σ := by
  unfold s_X9_next_b149 at h
  refine g_aload_n (pc := 149) C 0 0 dX9_next_149 rfl rfl ?_
  obtain ⟨v1, hvv1, h⟩ := zbind h
  refine g_getI (N := 58) (pc := 150) C ck_9 hvv1 rfl rfl fl_X9_274 dX9_next_150 ?_
  refine g_iconst (v := 1) (pc := 153) C dX9_next_153 (by decide) ?_
  refine g_icmp_ne (pc := 154) C 243 dX9_next_154 (by decide) (fun c20 => ?_) (fun c20 => ?_)
  · have h := zif_f c20 h
    obtain ⟨rfl, rfl⟩ := zsome h
    exact e_243 _ _ (hO _ rfl)
  · have h := zif_t c20 h
    refine g_aload_n (pc := 157) C 0 0 dX9_next_157 rfl rfl ?_
    obtain ⟨v2, hvv2, h⟩ := zbind h
    refine g_getI (N := 58) (pc := 158) C ck_9 hvv2 rfl rfl fl_X9_251 dX9_next_158 ?_
    refine g_aload_n (pc := 161) C 0 0 dX9_next_161 rfl rfl ?_
    obtain ⟨v3, hvv3, h⟩ := zbind h
    refine g_getI (N := 58) (pc := 162) C ck_9 hvv3 rfl rfl fl_X9_242 dX9_next_162 ?_
    refine g_icmp_ge (pc := 165) C 243 dX9_next_165 (by decide) (fun c19 => ?_) (fun c19 => ?_)
    · have h := zif_t c19 h
      obtain ⟨rfl, rfl⟩ := zsome h
      exact e_243 _ _ (hO _ rfl)
    · have h := zif_f c19 h
      refine g_aload_n (pc := 168) C 0 0 dX9_next_168 rfl rfl ?_
      obtain ⟨r4, hvr4, h⟩ := zbind h
      refine g_getR (N := 58) (pc := 169) C ck_9 hvr4 rfl rfl fl_X9_35 dX9_next_169 ?_
      refine g_aload_n (pc := 172) C 0 0 dX9_next_172 rfl rfl ?_
      obtain ⟨v5, hvv5, h⟩ := zbind h
      refine g_getI (N := 58) (pc := 173) C ck_9 hvv5 rfl rfl fl_X9_251 dX9_next_173 ?_
      obtain ⟨a6, hqa6, h9⟩ := zbind h
      clear h
      subst hqa6
      have h := h9
      clear h9
      obtain ⟨v7, hvv7, h⟩ := zbind h
      refine g_iald (pc := 176) C hvv7 dX9_next_176 ?_
      obtain ⟨v9, σ8, hvσ8, h⟩ := zcb h
      refine g_callS (pc := 177) (av := [tI (v7)]) C (c_X9_isSmall hE hvσ8) ys_X9_isSmall ml_X9_268 rfl (rf_of (by decide)) rfl (Nat.le_of_ble_eq_true rfl) dX9_next_177 ?_
      refine g_if_eq (pc := 180) C 243 dX9_next_180 (by decide) (fun c18 => ?_) (fun c18 => ?_)
      · have h := zif_t c18 h
        obtain ⟨rfl, rfl⟩ := zsome h
        exact e_243 _ _ (hO _ rfl)
      · have h := zif_f c18 h
        refine g_aload_n (pc := 183) C 0 0 dX9_next_183 rfl rfl ?_
        refine g_aload_n (pc := 184) C 0 0 dX9_next_184 rfl rfl ?_
        obtain ⟨v10, hvv10, h⟩ := zbind h
        refine g_getI (N := 58) (pc := 185) C ck_9 hvv10 rfl rfl fl_X9_251 dX9_next_185 ?_
        refine g_aload_n (pc := 188) C 0 0 dX9_next_188 rfl rfl ?_
        obtain ⟨v11, hvv11, h⟩ := zbind h
        refine g_getI (N := 58) (pc := 189) C ck_9 hvv11 rfl rfl fl_X9_261 dX9_next_189 ?_
        refine g_isub (pc := 192) C dX9_next_192 ?_
        refine g_bipush (v := 10) (pc := 193) C dX9_next_193 (by decide) ?_
        refine g_icmp_ge (pc := 195) C 224 dX9_next_195 (by decide) (fun c17 => ?_) (fun c17 => ?_)
        · have h := zif_t c17 h
          refine g_ldc2 (v := (-1)) (pc := 224) C dX9_next_224 kl_X9_281 ?_
          exact w_X9_next_j227 hE C hxn e_243 _ _ _ _ _ _ h hI hO
        · have h := zif_f c17 h
          refine g_aload_n (pc := 198) C 0 0 dX9_next_198 rfl rfl ?_
          obtain ⟨v12, hvv12, h⟩ := zbind h
          refine g_getJ (N := 58) (pc := 199) C ck_9 hvv12 rfl rfl fl_X9_264 dX9_next_199 ?_
          refine g_ldc2 (v := 32) (pc := 202) C dX9_next_202 kl_X9_277 ?_
          refine g_lmul (pc := 205) C dX9_next_205 ?_
          refine g_aload_n (pc := 206) C 0 0 dX9_next_206 rfl rfl ?_
          obtain ⟨r13, hvr13, h⟩ := zbind h
          refine g_getR (N := 58) (pc := 207) C ck_9 hvr13 rfl rfl fl_X9_35 dX9_next_207 ?_
          refine g_aload_n (pc := 210) C 0 0 dX9_next_210 rfl rfl ?_
          obtain ⟨v14, hvv14, h⟩ := zbind h
          refine g_getI (N := 58) (pc := 211) C ck_9 hvv14 rfl rfl fl_X9_251 dX9_next_211 ?_
          obtain ⟨a15, hqa15, h9⟩ := zbind h
          clear h
          subst hqa15
          have h := h9
          clear h9
          obtain ⟨v16, hvv16, h⟩ := zbind h
          refine g_iald (pc := 214) C hvv16 dX9_next_214 ?_
          refine g_i2l (pc := 215) C dX9_next_215 ?_
          refine g_ladd (pc := 216) C dX9_next_216 ?_
          refine g_ldc2 (v := 96) (pc := 217) C dX9_next_217 kl_X9_279 ?_
          refine g_lsub (pc := 220) C dX9_next_220 ?_
          refine g_goto (pc := 221) C 227 dX9_next_221 (by decide) ?_
          exact w_X9_next_j227 hE C hxn e_243 _ _ _ _ _ _ h hI hO
theorem w_X9_next_l149 {E : E0} (hE : EOK E) {X : X0} (C : XOK E X cX9_next RX9 1 none rm_X9_next) (hxn : xn X = (rm_X9_next.cells, rm_X9_next.slots)) {KE : (Nat) → Hp → Prop} (e_243 : ∀ (h0 : Nat) (σ : Hp), KE (h0) σ → G E X 0 0 243 [(0, tR (some (h0)))] [] σ) {v : Nat} {σ : Hp} {e : Nat} {σ1 : Hp} (h : s_X9_next_l149 v σ = some (e, σ1)) (hO : KE e σ1) : G E X 0 0 149 [(0, tR (some (v)))] [] σ := loopF_ind (P := fun (v : Nat) (σ : Hp) => G E X 0 0 149 [(0, tR (some (v)))] [] σ) (KE := KE) (fun v σ x σ1 h hI hO => w_X9_next_b149 hE C hxn e_243 v σ x σ1 h hI hO) v σ e σ1 h hO
noncomputable def s_X9_next_j319 (h0 : Nat) (t0 : Option Nat) (t1 : Int64) (σ : Hp) : Option (((Nat) ⊕ (Unit)) × Hp) :=
  (t0).bind fun a1 =>
  (wrJ 9 σ a1 17 (t1)).bind fun σ2 =>
  (rdI 9 σ2 h0 15).bind fun v3 =>
  (wrI 9 σ2 h0 15 (v3 + 1)).bind fun σ4 =>
  some (Sum.inl (h0), σ4)
set_option maxRecDepth 100000 in
theorem w_X9_next_j319 {E : E0} (hE : EOK E) {X : X0} (C : XOK E X cX9_next RX9 1 none rm_X9_next) (hxn : xn X = (rm_X9_next.cells, rm_X9_next.slots)) {KE : (Unit) → Hp → Prop} (e_ret : ∀ (r : Unit) (σ : Hp), KE (r) σ → xd X = (none, σ)) (h0 : Nat) (t0 : Option Nat) (t1 : Int64) (σ : Hp) (x : (Nat) ⊕ (Unit)) (σ1 : Hp) (h : s_X9_next_j319 h0 t0 t1 σ = some (x, σ1)) (hI : ∀ v, x = Sum.inl v → (fun (v : Nat) (σ : Hp) => G E X 0 0 243 [(0, tR (some (v)))] [] σ) v σ1) (hO : ∀ e, x = Sum.inr e → KE e σ1) : G E X 0 0 319 [(0, tR (some (h0)))] [tJ (t1), tR (t0)] σ := by
  unfold s_X9_next_j319 at h
  obtain ⟨a1, hqa1, h9⟩ := zbind h
  clear h
  subst hqa1
  have h := h9
  clear h9
  obtain ⟨σ2, hvσ2, h⟩ := zbind h
  refine g_putJ (N := 58) (pc := 319) C ⟨ck_9, rfl, tyX9_ok⟩ hvσ2 rfl fl_X9_264 rfl rfl dX9_next_319 ?_
  refine g_aload_n (pc := 322) C 0 0 dX9_next_322 rfl rfl ?_
  refine g_dup (pc := 323) C dX9_next_323 rfl ?_
  obtain ⟨v3, hvv3, h⟩ := zbind h
  refine g_getI (N := 58) (pc := 324) C ck_9 hvv3 rfl rfl fl_X9_251 dX9_next_324 ?_
  refine g_iconst (v := 1) (pc := 327) C dX9_next_327 (by decide) ?_
  refine g_iadd (pc := 328) C dX9_next_328 ?_
  obtain ⟨σ4, hvσ4, h⟩ := zbind h
  refine g_putI (N := 58) (pc := 329) C ⟨ck_9, rfl, tyX9_ok⟩ hvσ4 rfl fl_X9_251 rfl rfl dX9_next_329 ?_
  refine g_goto (pc := 332) C 243 dX9_next_332 (by decide) ?_
  obtain ⟨rfl, rfl⟩ := zsome h
  exact hI _ rfl
noncomputable def s_X9_next_b243 (h0 : Nat) (σ : Hp) : Option (((Nat) ⊕ (Unit)) × Hp) :=
  (rdI 9 σ h0 16).bind fun v1 =>
  if v1 = 2 then
    (rdI 9 σ h0 15).bind fun v2 =>
    (rdI 9 σ h0 13).bind fun v3 =>
    if v3 ≤ v2 then
      some (Sum.inr (), σ)
    else
      (rdR 9 σ h0 12).bind fun r4 =>
      (rdI 9 σ h0 15).bind fun v5 =>
      (r4).bind fun a6 =>
      (ldI 11 σ a6 (v5)).bind fun v7 =>
      cb (s_X9_isDigit (v7) σ) fun v9 σ8 =>
      if v9 = 0 then
        some (Sum.inr (), σ8)
      else
        (rdJ 9 σ8 h0 17).bind fun v10 =>
        if (lg_cmp (v10 : Int64) (1000000 : Int64)) ≤ 0 then
          (rdJ 9 σ8 h0 17).bind fun v11 =>
          (rdR 9 σ8 h0 12).bind fun r12 =>
          (rdI 9 σ8 h0 15).bind fun v13 =>
          (r12).bind fun a14 =>
          (ldI 11 σ8 a14 (v13)).bind fun v15 =>
          s_X9_next_j319 (h0) (some (h0)) (((v11 * 10) + (Int32.toInt64 (v15 : Int32))) - 48) σ8
        else
          (rdJ 9 σ8 h0 17).bind fun v16 =>
          s_X9_next_j319 (h0) (some (h0)) (v16) σ8
  else
    some (Sum.inr (), σ)
noncomputable def s_X9_next_l243 : (Nat) → Hp → Option ((Unit) × Hp) := loopF (fun v => s_X9_next_b243 v)
set_option maxRecDepth 100000 in
theorem w_X9_next_b243 {E : E0} (hE : EOK E) {X : X0} (C : XOK E X cX9_next RX9 1 none rm_X9_next) (hxn : xn X = (rm_X9_next.cells, rm_X9_next.slots)) {KE : (Unit) → Hp → Prop} (e_ret : ∀ (r : Unit) (σ : Hp), KE (r) σ → xd X = (none, σ)) (h0 : Nat) (σ : Hp) (x : (Nat) ⊕ (Unit)) (σ1 : Hp) (h : s_X9_next_b243 h0 σ = some (x, σ1)) (hI : ∀ v, x = Sum.inl v → (fun (v : Nat) (σ : Hp) => G E X 0 0 243 [(0, tR (some (v)))] [] σ) v σ1) (hO : ∀ e, x = Sum.inr e → KE e σ1) : G E X 0 0 243 [(0, tR (some (h0)))] [] σ := by
  unfold s_X9_next_b243 at h
  refine g_aload_n (pc := 243) C 0 0 dX9_next_243 rfl rfl ?_
  obtain ⟨v1, hvv1, h⟩ := zbind h
  refine g_getI (N := 58) (pc := 244) C ck_9 hvv1 rfl rfl fl_X9_274 dX9_next_244 ?_
  refine g_iconst (v := 2) (pc := 247) C dX9_next_247 (by decide) ?_
  refine g_icmp_ne (pc := 248) C 335 dX9_next_248 (by decide) (fun c20 => ?_) (fun c20 => ?_)
  · have h := zif_f c20 h
    obtain ⟨rfl, rfl⟩ := zsome h
    exact g_vret (pc := 335) C rfl (e_ret _ _ (hO _ rfl)) (by rw [hxn]; rfl) (by rw [hxn]; rfl) dX9_next_335
  · have h := zif_t c20 h
    refine g_aload_n (pc := 251) C 0 0 dX9_next_251 rfl rfl ?_
    obtain ⟨v2, hvv2, h⟩ := zbind h
    refine g_getI (N := 58) (pc := 252) C ck_9 hvv2 rfl rfl fl_X9_251 dX9_next_252 ?_
    refine g_aload_n (pc := 255) C 0 0 dX9_next_255 rfl rfl ?_
    obtain ⟨v3, hvv3, h⟩ := zbind h
    refine g_getI (N := 58) (pc := 256) C ck_9 hvv3 rfl rfl fl_X9_242 dX9_next_256 ?_
    refine g_icmp_ge (pc := 259) C 335 dX9_next_259 (by decide) (fun c19 => ?_) (fun c19 => ?_)
    · have h := zif_t c19 h
      obtain ⟨rfl, rfl⟩ := zsome h
      exact g_vret (pc := 335) C rfl (e_ret _ _ (hO _ rfl)) (by rw [hxn]; rfl) (by rw [hxn]; rfl) dX9_next_335
    · have h := zif_f c19 h
      refine g_aload_n (pc := 262) C 0 0 dX9_next_262 rfl rfl ?_
      obtain ⟨r4, hvr4, h⟩ := zbind h
      refine g_getR (N := 58) (pc := 263) C ck_9 hvr4 rfl rfl fl_X9_35 dX9_next_263 ?_
      refine g_aload_n (pc := 266) C 0 0 dX9_next_266 rfl rfl ?_
      obtain ⟨v5, hvv5, h⟩ := zbind h
      refine g_getI (N := 58) (pc := 267) C ck_9 hvv5 rfl rfl fl_X9_251 dX9_next_267 ?_
      obtain ⟨a6, hqa6, h9⟩ := zbind h
      clear h
      subst hqa6
      have h := h9
      clear h9
      obtain ⟨v7, hvv7, h⟩ := zbind h
      refine g_iald (pc := 270) C hvv7 dX9_next_270 ?_
      obtain ⟨v9, σ8, hvσ8, h⟩ := zcb h
      refine g_callS (pc := 271) (av := [tI (v7)]) C (c_X9_isDigit hE hvσ8) ys_X9_isDigit ml_X9_271 rfl (rf_of (by decide)) rfl (Nat.le_of_ble_eq_true rfl) dX9_next_271 ?_
      refine g_if_eq (pc := 274) C 335 dX9_next_274 (by decide) (fun c18 => ?_) (fun c18 => ?_)
      · have h := zif_t c18 h
        obtain ⟨rfl, rfl⟩ := zsome h
        exact g_vret (pc := 335) C rfl (e_ret _ _ (hO _ rfl)) (by rw [hxn]; rfl) (by rw [hxn]; rfl) dX9_next_335
      · have h := zif_f c18 h
        refine g_aload_n (pc := 277) C 0 0 dX9_next_277 rfl rfl ?_
        refine g_aload_n (pc := 278) C 0 0 dX9_next_278 rfl rfl ?_
        obtain ⟨v10, hvv10, h⟩ := zbind h
        refine g_getJ (N := 58) (pc := 279) C ck_9 hvv10 rfl rfl fl_X9_264 dX9_next_279 ?_
        refine g_ldc2 (v := 1000000) (pc := 282) C dX9_next_282 kl_X9_283 ?_
        refine g_lcmp (pc := 285) C dX9_next_285 ?_
        refine g_if_le (pc := 286) C 296 dX9_next_286 (by decide) (fun c17 => ?_) (fun c17 => ?_)
        · have h := zif_t c17 h
          refine g_aload_n (pc := 296) C 0 0 dX9_next_296 rfl rfl ?_
          obtain ⟨v11, hvv11, h⟩ := zbind h
          refine g_getJ (N := 58) (pc := 297) C ck_9 hvv11 rfl rfl fl_X9_264 dX9_next_297 ?_
          refine g_ldc2 (v := 10) (pc := 300) C dX9_next_300 kl_X9_237 ?_
          refine g_lmul (pc := 303) C dX9_next_303 ?_
          refine g_aload_n (pc := 304) C 0 0 dX9_next_304 rfl rfl ?_
          obtain ⟨r12, hvr12, h⟩ := zbind h
          refine g_getR (N := 58) (pc := 305) C ck_9 hvr12 rfl rfl fl_X9_35 dX9_next_305 ?_
          refine g_aload_n (pc := 308) C 0 0 dX9_next_308 rfl rfl ?_
          obtain ⟨v13, hvv13, h⟩ := zbind h
          refine g_getI (N := 58) (pc := 309) C ck_9 hvv13 rfl rfl fl_X9_251 dX9_next_309 ?_
          obtain ⟨a14, hqa14, h9⟩ := zbind h
          clear h
          subst hqa14
          have h := h9
          clear h9
          obtain ⟨v15, hvv15, h⟩ := zbind h
          refine g_iald (pc := 312) C hvv15 dX9_next_312 ?_
          refine g_i2l (pc := 313) C dX9_next_313 ?_
          refine g_ladd (pc := 314) C dX9_next_314 ?_
          refine g_ldc2 (v := 48) (pc := 315) C dX9_next_315 kl_X9_285 ?_
          refine g_lsub (pc := 318) C dX9_next_318 ?_
          exact w_X9_next_j319 hE C hxn e_ret _ _ _ _ _ _ h hI hO
        · have h := zif_f c17 h
          refine g_aload_n (pc := 289) C 0 0 dX9_next_289 rfl rfl ?_
          obtain ⟨v16, hvv16, h⟩ := zbind h
          refine g_getJ (N := 58) (pc := 290) C ck_9 hvv16 rfl rfl fl_X9_264 dX9_next_290 ?_
          refine g_goto (pc := 293) C 319 dX9_next_293 (by decide) ?_
          exact w_X9_next_j319 hE C hxn e_ret _ _ _ _ _ _ h hI hO
theorem w_X9_next_l243 {E : E0} (hE : EOK E) {X : X0} (C : XOK E X cX9_next RX9 1 none rm_X9_next) (hxn : xn X = (rm_X9_next.cells, rm_X9_next.slots)) {KE : (Unit) → Hp → Prop} (e_ret : ∀ (r : Unit) (σ : Hp), KE (r) σ → xd X = (none, σ)) {v : Nat} {σ : Hp} {e : Unit} {σ1 : Hp} (h : s_X9_next_l243 v σ = some (e, σ1)) (hO : KE e σ1) : G E X 0 0 243 [(0, tR (some (v)))] [] σ := loopF_ind (P := fun (v : Nat) (σ : Hp) => G E X 0 0 243 [(0, tR (some (v)))] [] σ) (KE := KE) (fun v σ x σ1 h hI hO => w_X9_next_b243 hE C hxn e_ret v σ x σ1 h hI hO) v σ e σ1 h hO
noncomputable def s_X9_next_j243 (h0 : Nat) (σ : Hp) : Option (Unit × Hp) :=
  cb (s_X9_next_l243 (h0) σ) fun r2 σ3 =>
  some (r2, σ3)
set_option maxRecDepth 100000 in
theorem w_X9_next_j243 {E : E0} (hE : EOK E) {X : X0} (C : XOK E X cX9_next RX9 1 none rm_X9_next) (hxn : xn X = (rm_X9_next.cells, rm_X9_next.slots)) (h0 : Nat) (σ : Hp) (r : Unit) (σ1 : Hp) (h : s_X9_next_j243 h0 σ = some (r, σ1)) (hx : xd X = (none, σ1)) : G E X 0 0 243 [(0, tR (some (h0)))] [] σ := by
  unfold s_X9_next_j243 at h
  obtain ⟨KQ, hKQ, r2, σ3, hlr2, h⟩ := zcbK h
  refine w_X9_next_l243 (KE := KQ) hE C hxn ?_ hlr2 h
  · intro r2 σ1 h
    have h := (hKQ _ _).mp h
    obtain ⟨rfl, rfl⟩ := zsome h
    exact hx
noncomputable def s_X9_next_j149 (h0 : Nat) (σ : Hp) : Option (Unit × Hp) :=
  cb (s_X9_next_l149 (h0) σ) fun h1 σ4 =>
  s_X9_next_j243 (h1) σ4
set_option maxRecDepth 100000 in
theorem w_X9_next_j149 {E : E0} (hE : EOK E) {X : X0} (C : XOK E X cX9_next RX9 1 none rm_X9_next) (hxn : xn X = (rm_X9_next.cells, rm_X9_next.slots)) (h0 : Nat) (σ : Hp) (r : Unit) (σ1 : Hp) (h : s_X9_next_j149 h0 σ = some (r, σ1)) (hx : xd X = (none, σ1)) : G E X 0 0 149 [(0, tR (some (h0)))] [] σ := by
  unfold s_X9_next_j149 at h
  obtain ⟨KQ, hKQ, h1, σ4, hlh1, h⟩ := zcbK h
  refine w_X9_next_l149 (KE := KQ) hE C hxn ?_ hlh1 h
  · intro h1 σ2 h
    have h := (hKQ _ _).mp h
    exact w_X9_next_j243 hE C hxn _ _ _ _ h hx
noncomputable def s_X9_next_j114 (h0 : Nat) (t0 : Option Nat) (t1 : Int32) (σ : Hp) : Option (Unit × Hp) :=
  (t0).bind fun a1 =>
  (wrI 9 σ a1 16 (t1)).bind fun σ2 =>
  (rdI 9 σ2 h0 16).bind fun v3 =>
  if v3 = 3 then
    (rdR 9 σ2 h0 12).bind fun r4 =>
    (rdI 9 σ2 h0 14).bind fun v5 =>
    (r4).bind fun a6 =>
    (ldI 11 σ2 a6 (v5)).bind fun v7 =>
    (wrJ 9 σ2 h0 17 (Int32.toInt64 (v7 : Int32))).bind fun σ8 =>
    (rdI 9 σ8 h0 15).bind fun v9 =>
    (wrI 9 σ8 h0 15 (v9 + 1)).bind fun σ10 =>
    s_X9_next_j149 (h0) σ10
  else
    s_X9_next_j149 (h0) σ2
set_option maxRecDepth 100000 in
theorem w_X9_next_j114 {E : E0} (hE : EOK E) {X : X0} (C : XOK E X cX9_next RX9 1 none rm_X9_next) (hxn : xn X = (rm_X9_next.cells, rm_X9_next.slots)) (h0 : Nat) (t0 : Option Nat) (t1 : Int32) (σ : Hp) (r : Unit) (σ1 : Hp) (h : s_X9_next_j114 h0 t0 t1 σ = some (r, σ1)) (hx : xd X = (none, σ1)) : G E X 0 0 114 [(0, tR (some (h0)))] [tI (t1), tR (t0)] σ := by
  unfold s_X9_next_j114 at h
  obtain ⟨a1, hqa1, h9⟩ := zbind h
  clear h
  subst hqa1
  have h := h9
  clear h9
  obtain ⟨σ2, hvσ2, h⟩ := zbind h
  refine g_putI (N := 58) (pc := 114) C ⟨ck_9, rfl, tyX9_ok⟩ hvσ2 rfl fl_X9_274 rfl rfl dX9_next_114 ?_
  refine g_aload_n (pc := 117) C 0 0 dX9_next_117 rfl rfl ?_
  obtain ⟨v3, hvv3, h⟩ := zbind h
  refine g_getI (N := 58) (pc := 118) C ck_9 hvv3 rfl rfl fl_X9_274 dX9_next_118 ?_
  refine g_iconst (v := 3) (pc := 121) C dX9_next_121 (by decide) ?_
  refine g_icmp_ne (pc := 122) C 149 dX9_next_122 (by decide) (fun c11 => ?_) (fun c11 => ?_)
  · have h := zif_f c11 h
    exact w_X9_next_j149 hE C hxn _ _ _ _ h hx
  · have h := zif_t c11 h
    refine g_aload_n (pc := 125) C 0 0 dX9_next_125 rfl rfl ?_
    refine g_aload_n (pc := 126) C 0 0 dX9_next_126 rfl rfl ?_
    obtain ⟨r4, hvr4, h⟩ := zbind h
    refine g_getR (N := 58) (pc := 127) C ck_9 hvr4 rfl rfl fl_X9_35 dX9_next_127 ?_
    refine g_aload_n (pc := 130) C 0 0 dX9_next_130 rfl rfl ?_
    obtain ⟨v5, hvv5, h⟩ := zbind h
    refine g_getI (N := 58) (pc := 131) C ck_9 hvv5 rfl rfl fl_X9_261 dX9_next_131 ?_
    obtain ⟨a6, hqa6, h9⟩ := zbind h
    clear h
    subst hqa6
    have h := h9
    clear h9
    obtain ⟨v7, hvv7, h⟩ := zbind h
    refine g_iald (pc := 134) C hvv7 dX9_next_134 ?_
    refine g_i2l (pc := 135) C dX9_next_135 ?_
    obtain ⟨σ8, hvσ8, h⟩ := zbind h
    refine g_putJ (N := 58) (pc := 136) C ⟨ck_9, rfl, tyX9_ok⟩ hvσ8 rfl fl_X9_264 rfl rfl dX9_next_136 ?_
    refine g_aload_n (pc := 139) C 0 0 dX9_next_139 rfl rfl ?_
    refine g_dup (pc := 140) C dX9_next_140 rfl ?_
    obtain ⟨v9, hvv9, h⟩ := zbind h
    refine g_getI (N := 58) (pc := 141) C ck_9 hvv9 rfl rfl fl_X9_251 dX9_next_141 ?_
    refine g_iconst (v := 1) (pc := 144) C dX9_next_144 (by decide) ?_
    refine g_iadd (pc := 145) C dX9_next_145 ?_
    obtain ⟨σ10, hvσ10, h⟩ := zbind h
    refine g_putI (N := 58) (pc := 146) C ⟨ck_9, rfl, tyX9_ok⟩ hvσ10 rfl fl_X9_251 rfl rfl dX9_next_146 ?_
    exact w_X9_next_j149 hE C hxn _ _ _ _ h hx
noncomputable def s_X9_next_j46 (h0 : Nat) (σ : Hp) : Option (Unit × Hp) :=
  (rdI 9 σ h0 14).bind fun v1 =>
  (wrI 9 σ h0 15 (v1)).bind fun σ2 =>
  (wrJ 9 σ2 h0 17 (0)).bind fun σ3 =>
  (rdI 9 σ3 h0 14).bind fun v4 =>
  (rdI 9 σ3 h0 13).bind fun v5 =>
  if v4 = v5 then
    s_X9_next_j114 (h0) (some (h0)) (0) σ3
  else
    (rdR 9 σ3 h0 12).bind fun r6 =>
    (rdI 9 σ3 h0 14).bind fun v7 =>
    (r6).bind fun a8 =>
    (ldI 11 σ3 a8 (v7)).bind fun v9 =>
    cb (s_X9_isSmall (v9) σ3) fun v11 σ10 =>
    if v11 = 0 then
      (rdR 9 σ10 h0 12).bind fun r12 =>
      (rdI 9 σ10 h0 14).bind fun v13 =>
      (r12).bind fun a14 =>
      (ldI 11 σ10 a14 (v13)).bind fun v15 =>
      cb (s_X9_isDigit (v15) σ10) fun v17 σ16 =>
      if v17 = 0 then
        s_X9_next_j114 (h0) (some (h0)) (3) σ16
      else
        s_X9_next_j114 (h0) (some (h0)) (2) σ16
    else
      s_X9_next_j114 (h0) (some (h0)) (1) σ10
set_option maxRecDepth 100000 in
theorem w_X9_next_j46 {E : E0} (hE : EOK E) {X : X0} (C : XOK E X cX9_next RX9 1 none rm_X9_next) (hxn : xn X = (rm_X9_next.cells, rm_X9_next.slots)) (h0 : Nat) (σ : Hp) (r : Unit) (σ1 : Hp) (h : s_X9_next_j46 h0 σ = some (r, σ1)) (hx : xd X = (none, σ1)) : G E X 0 0 46 [(0, tR (some (h0)))] [] σ := by
  unfold s_X9_next_j46 at h
  refine g_aload_n (pc := 46) C 0 0 dX9_next_46 rfl rfl ?_
  refine g_aload_n (pc := 47) C 0 0 dX9_next_47 rfl rfl ?_
  obtain ⟨v1, hvv1, h⟩ := zbind h
  refine g_getI (N := 58) (pc := 48) C ck_9 hvv1 rfl rfl fl_X9_261 dX9_next_48 ?_
  obtain ⟨σ2, hvσ2, h⟩ := zbind h
  refine g_putI (N := 58) (pc := 51) C ⟨ck_9, rfl, tyX9_ok⟩ hvσ2 rfl fl_X9_251 rfl rfl dX9_next_51 ?_
  refine g_aload_n (pc := 54) C 0 0 dX9_next_54 rfl rfl ?_
  refine g_lconst (v := 0) (pc := 55) C dX9_next_55 (by decide) ?_
  obtain ⟨σ3, hvσ3, h⟩ := zbind h
  refine g_putJ (N := 58) (pc := 56) C ⟨ck_9, rfl, tyX9_ok⟩ hvσ3 rfl fl_X9_264 rfl rfl dX9_next_56 ?_
  refine g_aload_n (pc := 59) C 0 0 dX9_next_59 rfl rfl ?_
  refine g_aload_n (pc := 60) C 0 0 dX9_next_60 rfl rfl ?_
  obtain ⟨v4, hvv4, h⟩ := zbind h
  refine g_getI (N := 58) (pc := 61) C ck_9 hvv4 rfl rfl fl_X9_261 dX9_next_61 ?_
  refine g_aload_n (pc := 64) C 0 0 dX9_next_64 rfl rfl ?_
  obtain ⟨v5, hvv5, h⟩ := zbind h
  refine g_getI (N := 58) (pc := 65) C ck_9 hvv5 rfl rfl fl_X9_242 dX9_next_65 ?_
  refine g_icmp_ne (pc := 68) C 75 dX9_next_68 (by decide) (fun c20 => ?_) (fun c20 => ?_)
  · have h := zif_f c20 h
    refine g_aload_n (pc := 75) C 0 0 dX9_next_75 rfl rfl ?_
    obtain ⟨r6, hvr6, h⟩ := zbind h
    refine g_getR (N := 58) (pc := 76) C ck_9 hvr6 rfl rfl fl_X9_35 dX9_next_76 ?_
    refine g_aload_n (pc := 79) C 0 0 dX9_next_79 rfl rfl ?_
    obtain ⟨v7, hvv7, h⟩ := zbind h
    refine g_getI (N := 58) (pc := 80) C ck_9 hvv7 rfl rfl fl_X9_261 dX9_next_80 ?_
    obtain ⟨a8, hqa8, h9⟩ := zbind h
    clear h
    subst hqa8
    have h := h9
    clear h9
    obtain ⟨v9, hvv9, h⟩ := zbind h
    refine g_iald (pc := 83) C hvv9 dX9_next_83 ?_
    obtain ⟨v11, σ10, hvσ10, h⟩ := zcb h
    refine g_callS (pc := 84) (av := [tI (v9)]) C (c_X9_isSmall hE hvσ10) ys_X9_isSmall ml_X9_268 rfl (rf_of (by decide)) rfl (Nat.le_of_ble_eq_true rfl) dX9_next_84 ?_
    refine g_if_eq (pc := 87) C 94 dX9_next_87 (by decide) (fun c19 => ?_) (fun c19 => ?_)
    · have h := zif_t c19 h
      refine g_aload_n (pc := 94) C 0 0 dX9_next_94 rfl rfl ?_
      obtain ⟨r12, hvr12, h⟩ := zbind h
      refine g_getR (N := 58) (pc := 95) C ck_9 hvr12 rfl rfl fl_X9_35 dX9_next_95 ?_
      refine g_aload_n (pc := 98) C 0 0 dX9_next_98 rfl rfl ?_
      obtain ⟨v13, hvv13, h⟩ := zbind h
      refine g_getI (N := 58) (pc := 99) C ck_9 hvv13 rfl rfl fl_X9_261 dX9_next_99 ?_
      obtain ⟨a14, hqa14, h9⟩ := zbind h
      clear h
      subst hqa14
      have h := h9
      clear h9
      obtain ⟨v15, hvv15, h⟩ := zbind h
      refine g_iald (pc := 102) C hvv15 dX9_next_102 ?_
      obtain ⟨v17, σ16, hvσ16, h⟩ := zcb h
      refine g_callS (pc := 103) (av := [tI (v15)]) C (c_X9_isDigit hE hvσ16) ys_X9_isDigit ml_X9_271 rfl (rf_of (by decide)) rfl (Nat.le_of_ble_eq_true rfl) dX9_next_103 ?_
      refine g_if_eq (pc := 106) C 113 dX9_next_106 (by decide) (fun c18 => ?_) (fun c18 => ?_)
      · have h := zif_t c18 h
        refine g_iconst (v := 3) (pc := 113) C dX9_next_113 (by decide) ?_
        exact w_X9_next_j114 hE C hxn _ _ _ _ _ _ h hx
      · have h := zif_f c18 h
        refine g_iconst (v := 2) (pc := 109) C dX9_next_109 (by decide) ?_
        refine g_goto (pc := 110) C 114 dX9_next_110 (by decide) ?_
        exact w_X9_next_j114 hE C hxn _ _ _ _ _ _ h hx
    · have h := zif_f c19 h
      refine g_iconst (v := 1) (pc := 90) C dX9_next_90 (by decide) ?_
      refine g_goto (pc := 91) C 114 dX9_next_91 (by decide) ?_
      exact w_X9_next_j114 hE C hxn _ _ _ _ _ _ h hx
  · have h := zif_t c20 h
    refine g_iconst (v := 0) (pc := 71) C dX9_next_71 (by decide) ?_
    refine g_goto (pc := 72) C 114 dX9_next_72 (by decide) ?_
    exact w_X9_next_j114 hE C hxn _ _ _ _ _ _ h hx
noncomputable def s_X9_next (h0 : Nat) (σ : Hp) : Option (Unit × Hp) :=
  (rdI 9 σ h0 15).bind fun v1 =>
  (wrI 9 σ h0 14 (v1)).bind fun σ2 =>
  cb (s_X9_next_l8 (h0) σ2) fun h3 σ6 =>
  s_X9_next_j46 (h3) σ6
set_option maxRecDepth 100000 in
theorem c_X9_next {E : E0} (hE : EOK E) {h0 : Nat} {σ σ1 : Hp} {r : Unit} (h : s_X9_next h0 σ = some (r, σ1)) : CT E yX9_next (.code yX9_next cX9_next 1 none) rm_X9_next [tR (some (h0))] σ none σ1 := by
  refine CT.mk hE (by decide +kernel) (Nat.le_of_ble_eq_true rfl) [(0, tR (some (h0)))] rfl (fun X C hin hx hxn => ?_)
  have C : XOK E X cX9_next RX9 1 none rm_X9_next := C
  unfold s_X9_next at h
  refine g_aload_n (pc := 0) C 0 0 dX9_next_0 rfl rfl ?_
  refine g_aload_n (pc := 1) C 0 0 dX9_next_1 rfl rfl ?_
  obtain ⟨v1, hvv1, h⟩ := zbind h
  refine g_getI (N := 58) (pc := 2) C ck_9 hvv1 rfl rfl fl_X9_251 dX9_next_2 ?_
  obtain ⟨σ2, hvσ2, h⟩ := zbind h
  refine g_putI (N := 58) (pc := 5) C ⟨ck_9, rfl, tyX9_ok⟩ hvσ2 rfl fl_X9_261 rfl rfl dX9_next_5 ?_
  obtain ⟨KQ, hKQ, h3, σ6, hlh3, h⟩ := zcbK h
  refine w_X9_next_l8 (KE := KQ) hE C hxn ?_ hlh3 h
  · intro h3 σ4 h
    have h := (hKQ _ _).mp h
    exact w_X9_next_j46 hE C hxn _ _ _ _ h hx
def rm_X9_begin : Room := { frames := 2, cells := 0, slots := 0, locals := 40 }
noncomputable def s_X9_begin (h0 : Nat) (σ : Hp) : Option (Unit × Hp) :=
  (wrI 9 σ h0 15 (0)).bind fun σ1 =>
  (wrZ 9 σ1 h0 19 (0)).bind fun σ2 =>
  (wrI 9 σ2 h0 18 ((-1))).bind fun σ3 =>
  (ck 9 σ3 h0).bind fun u4 =>
  cb (s_X9_next h0 σ3) fun v6 σ5 =>
  some ((), σ5)
set_option maxRecDepth 100000 in
theorem c_X9_begin {E : E0} (hE : EOK E) {h0 : Nat} {σ σ1 : Hp} {r : Unit} (h : s_X9_begin h0 σ = some (r, σ1)) : CT E yX9_begin (.code yX9_begin cX9_begin 1 none) rm_X9_begin [tR (some (h0))] σ none σ1 := by
  refine CT.mk hE (by decide +kernel) (Nat.le_of_ble_eq_true rfl) [(0, tR (some (h0)))] rfl (fun X C hin hx hxn => ?_)
  have C : XOK E X cX9_begin RX9 1 none rm_X9_begin := C
  unfold s_X9_begin at h
  refine g_aload_n (pc := 0) C 0 0 dX9_begin_0 rfl rfl ?_
  refine g_iconst (v := 0) (pc := 1) C dX9_begin_1 (by decide) ?_
  obtain ⟨σ1, hvσ1, h⟩ := zbind h
  refine g_putI (N := 58) (pc := 2) C ⟨ck_9, rfl, tyX9_ok⟩ hvσ1 rfl fl_X9_251 rfl rfl dX9_begin_2 ?_
  refine g_aload_n (pc := 5) C 0 0 dX9_begin_5 rfl rfl ?_
  refine g_iconst (v := 0) (pc := 6) C dX9_begin_6 (by decide) ?_
  obtain ⟨σ2, hvσ2, h⟩ := zbind h
  refine g_putZ (N := 58) (pc := 7) C ⟨ck_9, rfl, tyX9_ok⟩ hvσ2 rfl fl_X9_254 rfl rfl dX9_begin_7 ?_
  refine g_aload_n (pc := 10) C 0 0 dX9_begin_10 rfl rfl ?_
  refine g_iconst (v := (-1)) (pc := 11) C dX9_begin_11 (by decide) ?_
  obtain ⟨σ3, hvσ3, h⟩ := zbind h
  refine g_putI (N := 58) (pc := 12) C ⟨ck_9, rfl, tyX9_ok⟩ hvσ3 rfl fl_X9_38 rfl rfl dX9_begin_12 ?_
  refine g_aload_n (pc := 15) C 0 0 dX9_begin_15 rfl rfl ?_
  obtain ⟨u4, hvu4, h⟩ := zbind h
  obtain ⟨v6, σ5, hvσ5, h⟩ := zcb h
  refine g_callV (pc := 16) (av := []) C (c_X9_next hE hvσ5) yv_X9_next ml_X9_258 ck_9 (zopt hvu4).1 rfl (rf_of (by decide)) rfl (Nat.le_of_ble_eq_true rfl) dX9_begin_16 ?_
  obtain ⟨rfl, rfl⟩ := zsome h
  exact g_vret (pc := 19) C rfl hx (by rw [hxn]; rfl) (by rw [hxn]; rfl) dX9_begin_19
def rm_X9_isWord : Room := { frames := 0, cells := 0, slots := 0, locals := 0 }
noncomputable def s_X9_isWord (h0 : Nat) (p1 : Int64) (σ : Hp) : Option (Int32 × Hp) :=
  (rdI 9 σ h0 16).bind fun v1 =>
  if v1 = 1 then
    (rdJ 9 σ h0 17).bind fun v2 =>
    if (lg_cmp (v2 : Int64) (p1 : Int64)) = 0 then
      some ((1), σ)
    else
      some ((0), σ)
  else
    some ((0), σ)
set_option maxRecDepth 100000 in
theorem c_X9_isWord {E : E0} (hE : EOK E) {h0 : Nat} {p1 : Int64} {σ σ1 : Hp} {r : Int32} (h : s_X9_isWord h0 p1 σ = some (r, σ1)) : CT E yX9_isWord (.code yX9_isWord cX9_isWord 3 (some .boolean)) rm_X9_isWord [tR (some (h0)), tJ (p1)] σ (some (tI r)) σ1 := by
  refine CT.mk hE (by decide +kernel) (Nat.le_of_ble_eq_true rfl) [(0, tR (some (h0))), (1, tJ (p1))] rfl (fun X C hin hx hxn => ?_)
  have C : XOK E X cX9_isWord RX9 3 (some .boolean) rm_X9_isWord := C
  unfold s_X9_isWord at h
  refine g_aload_n (pc := 0) C 0 0 dX9_isWord_0 rfl rfl ?_
  obtain ⟨v1, hvv1, h⟩ := zbind h
  refine g_getI (N := 58) (pc := 1) C ck_9 hvv1 rfl rfl fl_X9_274 dX9_isWord_1 ?_
  refine g_iconst (v := 1) (pc := 4) C dX9_isWord_4 (by decide) ?_
  refine g_icmp_ne (pc := 5) C 21 dX9_isWord_5 (by decide) (fun c4 => ?_) (fun c4 => ?_)
  · have h := zif_f c4 h
    refine g_iconst (v := 0) (pc := 21) C dX9_isWord_21 (by decide) ?_
    obtain ⟨rfl, rfl⟩ := zsome h
    exact g_zret (pc := 22) C rfl hx (by decide) (by rw [hxn]; rfl) (by rw [hxn]; rfl) dX9_isWord_22
  · have h := zif_t c4 h
    refine g_aload_n (pc := 8) C 0 0 dX9_isWord_8 rfl rfl ?_
    obtain ⟨v2, hvv2, h⟩ := zbind h
    refine g_getJ (N := 58) (pc := 9) C ck_9 hvv2 rfl rfl fl_X9_264 dX9_isWord_9 ?_
    refine g_lload_n (pc := 12) C 1 1 dX9_isWord_12 rfl rfl ?_
    refine g_lcmp (pc := 13) C dX9_isWord_13 ?_
    refine g_if_ne (pc := 14) C 21 dX9_isWord_14 (by decide) (fun c3 => ?_) (fun c3 => ?_)
    · have h := zif_f c3 h
      refine g_iconst (v := 0) (pc := 21) C dX9_isWord_21 (by decide) ?_
      obtain ⟨rfl, rfl⟩ := zsome h
      exact g_zret (pc := 22) C rfl hx (by decide) (by rw [hxn]; rfl) (by rw [hxn]; rfl) dX9_isWord_22
    · have h := zif_t c3 h
      refine g_iconst (v := 1) (pc := 17) C dX9_isWord_17 (by decide) ?_
      refine g_goto (pc := 18) C 22 dX9_isWord_18 (by decide) ?_
      obtain ⟨rfl, rfl⟩ := zsome h
      exact g_zret (pc := 22) C rfl hx (by decide) (by rw [hxn]; rfl) (by rw [hxn]; rfl) dX9_isWord_22
def rm_X9_isSign : Room := { frames := 0, cells := 0, slots := 0, locals := 0 }
noncomputable def s_X9_isSign (h0 : Nat) (p1 : Int32) (σ : Hp) : Option (Int32 × Hp) :=
  (rdI 9 σ h0 16).bind fun v1 =>
  if v1 = 3 then
    (rdJ 9 σ h0 17).bind fun v2 =>
    if (lg_cmp (v2 : Int64) (Int32.toInt64 (p1 : Int32) : Int64)) = 0 then
      some ((1), σ)
    else
      some ((0), σ)
  else
    some ((0), σ)
set_option maxRecDepth 100000 in
theorem c_X9_isSign {E : E0} (hE : EOK E) {h0 : Nat} {p1 : Int32} {σ σ1 : Hp} {r : Int32} (h : s_X9_isSign h0 p1 σ = some (r, σ1)) : CT E yX9_isSign (.code yX9_isSign cX9_isSign 2 (some .boolean)) rm_X9_isSign [tR (some (h0)), tI (p1)] σ (some (tI r)) σ1 := by
  refine CT.mk hE (by decide +kernel) (Nat.le_of_ble_eq_true rfl) [(0, tR (some (h0))), (1, tI (p1))] rfl (fun X C hin hx hxn => ?_)
  have C : XOK E X cX9_isSign RX9 2 (some .boolean) rm_X9_isSign := C
  unfold s_X9_isSign at h
  refine g_aload_n (pc := 0) C 0 0 dX9_isSign_0 rfl rfl ?_
  obtain ⟨v1, hvv1, h⟩ := zbind h
  refine g_getI (N := 58) (pc := 1) C ck_9 hvv1 rfl rfl fl_X9_274 dX9_isSign_1 ?_
  refine g_iconst (v := 3) (pc := 4) C dX9_isSign_4 (by decide) ?_
  refine g_icmp_ne (pc := 5) C 22 dX9_isSign_5 (by decide) (fun c4 => ?_) (fun c4 => ?_)
  · have h := zif_f c4 h
    refine g_iconst (v := 0) (pc := 22) C dX9_isSign_22 (by decide) ?_
    obtain ⟨rfl, rfl⟩ := zsome h
    exact g_zret (pc := 23) C rfl hx (by decide) (by rw [hxn]; rfl) (by rw [hxn]; rfl) dX9_isSign_23
  · have h := zif_t c4 h
    refine g_aload_n (pc := 8) C 0 0 dX9_isSign_8 rfl rfl ?_
    obtain ⟨v2, hvv2, h⟩ := zbind h
    refine g_getJ (N := 58) (pc := 9) C ck_9 hvv2 rfl rfl fl_X9_264 dX9_isSign_9 ?_
    refine g_iload_n (pc := 12) C 1 1 dX9_isSign_12 rfl rfl ?_
    refine g_i2l (pc := 13) C dX9_isSign_13 ?_
    refine g_lcmp (pc := 14) C dX9_isSign_14 ?_
    refine g_if_ne (pc := 15) C 22 dX9_isSign_15 (by decide) (fun c3 => ?_) (fun c3 => ?_)
    · have h := zif_f c3 h
      refine g_iconst (v := 0) (pc := 22) C dX9_isSign_22 (by decide) ?_
      obtain ⟨rfl, rfl⟩ := zsome h
      exact g_zret (pc := 23) C rfl hx (by decide) (by rw [hxn]; rfl) (by rw [hxn]; rfl) dX9_isSign_23
    · have h := zif_t c3 h
      refine g_iconst (v := 1) (pc := 18) C dX9_isSign_18 (by decide) ?_
      refine g_goto (pc := 19) C 23 dX9_isSign_19 (by decide) ?_
      obtain ⟨rfl, rfl⟩ := zsome h
      exact g_zret (pc := 23) C rfl hx (by decide) (by rw [hxn]; rfl) (by rw [hxn]; rfl) dX9_isSign_23
def rm_X9_must : Room := { frames := 2, cells := 0, slots := 0, locals := 40 }
noncomputable def s_X9_must_j24 (h0 : Nat) (σ : Hp) : Option (Unit × Hp) :=
  (rdI 9 σ h0 19).bind fun v1 =>
  if v1 = 0 then
    (ck 9 σ h0).bind fun u2 =>
    cb (s_X9_next h0 σ) fun v4 σ3 =>
    some ((), σ3)
  else
    some ((), σ)
set_option maxRecDepth 100000 in
theorem w_X9_must_j24 {E : E0} (hE : EOK E) {X : X0} (C : XOK E X cX9_must RX9 2 none rm_X9_must) (hxn : xn X = (rm_X9_must.cells, rm_X9_must.slots)) (h0 : Nat) (σ : Hp) (r : Unit) (σ1 : Hp) (h : s_X9_must_j24 h0 σ = some (r, σ1)) (hx : xd X = (none, σ1)) : G E X 0 0 24 [(0, tR (some (h0)))] [] σ := by
  unfold s_X9_must_j24 at h
  refine g_aload_n (pc := 24) C 0 0 dX9_must_24 rfl rfl ?_
  obtain ⟨v1, hvv1, h⟩ := zbind h
  refine g_getI (N := 58) (pc := 25) C ck_9 hvv1 rfl rfl fl_X9_254 dX9_must_25 ?_
  refine g_if_ne (pc := 28) C 35 dX9_must_28 (by decide) (fun c5 => ?_) (fun c5 => ?_)
  · have h := zif_f c5 h
    obtain ⟨rfl, rfl⟩ := zsome h
    exact g_vret (pc := 35) C rfl hx (by rw [hxn]; rfl) (by rw [hxn]; rfl) dX9_must_35
  · have h := zif_t c5 h
    refine g_aload_n (pc := 31) C 0 0 dX9_must_31 rfl rfl ?_
    obtain ⟨u2, hvu2, h⟩ := zbind h
    obtain ⟨v4, σ3, hvσ3, h⟩ := zcb h
    refine g_callV (pc := 32) (av := []) C (c_X9_next hE hvσ3) yv_X9_next ml_X9_258 ck_9 (zopt hvu2).1 rfl (rf_of (by decide)) rfl (Nat.le_of_ble_eq_true rfl) dX9_must_32 ?_
    obtain ⟨rfl, rfl⟩ := zsome h
    exact g_vret (pc := 35) C rfl hx (by rw [hxn]; rfl) (by rw [hxn]; rfl) dX9_must_35
noncomputable def s_X9_must (h0 : Nat) (p1 : Int32) (σ : Hp) : Option (Unit × Hp) :=
  (rdI 9 σ h0 19).bind fun v1 =>
  if v1 = 0 then
    if p1 = 0 then
      (wrZ 9 σ h0 19 (1)).bind fun σ2 =>
      (rdI 9 σ2 h0 14).bind fun v3 =>
      (wrI 9 σ2 h0 18 (v3)).bind fun σ4 =>
      s_X9_must_j24 (h0) σ4
    else
      s_X9_must_j24 (h0) σ
  else
    s_X9_must_j24 (h0) σ
set_option maxRecDepth 100000 in
theorem c_X9_must {E : E0} (hE : EOK E) {h0 : Nat} {p1 : Int32} {σ σ1 : Hp} {r : Unit} (h : s_X9_must h0 p1 σ = some (r, σ1)) : CT E yX9_must (.code yX9_must cX9_must 2 none) rm_X9_must [tR (some (h0)), tI (p1)] σ none σ1 := by
  refine CT.mk hE (by decide +kernel) (Nat.le_of_ble_eq_true rfl) [(0, tR (some (h0))), (1, tI (p1))] rfl (fun X C hin hx hxn => ?_)
  have C : XOK E X cX9_must RX9 2 none rm_X9_must := C
  unfold s_X9_must at h
  refine g_aload_n (pc := 0) C 0 0 dX9_must_0 rfl rfl ?_
  obtain ⟨v1, hvv1, h⟩ := zbind h
  refine g_getI (N := 58) (pc := 1) C ck_9 hvv1 rfl rfl fl_X9_254 dX9_must_1 ?_
  refine g_if_ne (pc := 4) C 24 dX9_must_4 (by decide) (fun c6 => ?_) (fun c6 => ?_)
  · have h := zif_f c6 h
    refine g_sub [0] (lm' := [(0, tR (some (h0)))]) rfl ?_
    exact w_X9_must_j24 hE C hxn _ _ _ _ h hx
  · have h := zif_t c6 h
    refine g_iload_n (pc := 7) C 1 1 dX9_must_7 rfl rfl ?_
    refine g_if_ne (pc := 8) C 24 dX9_must_8 (by decide) (fun c5 => ?_) (fun c5 => ?_)
    · have h := zif_f c5 h
      refine g_sub [0] (lm' := [(0, tR (some (h0)))]) rfl ?_
      exact w_X9_must_j24 hE C hxn _ _ _ _ h hx
    · have h := zif_t c5 h
      refine g_aload_n (pc := 11) C 0 0 dX9_must_11 rfl rfl ?_
      refine g_iconst (v := 1) (pc := 12) C dX9_must_12 (by decide) ?_
      obtain ⟨σ2, hvσ2, h⟩ := zbind h
      refine g_putZ (N := 58) (pc := 13) C ⟨ck_9, rfl, tyX9_ok⟩ hvσ2 rfl fl_X9_254 rfl rfl dX9_must_13 ?_
      refine g_aload_n (pc := 16) C 0 0 dX9_must_16 rfl rfl ?_
      refine g_aload_n (pc := 17) C 0 0 dX9_must_17 rfl rfl ?_
      obtain ⟨v3, hvv3, h⟩ := zbind h
      refine g_getI (N := 58) (pc := 18) C ck_9 hvv3 rfl rfl fl_X9_261 dX9_must_18 ?_
      obtain ⟨σ4, hvσ4, h⟩ := zbind h
      refine g_putI (N := 58) (pc := 21) C ⟨ck_9, rfl, tyX9_ok⟩ hvσ4 rfl fl_X9_38 rfl rfl dX9_must_21 ?_
      refine g_sub [0] (lm' := [(0, tR (some (h0)))]) rfl ?_
      exact w_X9_must_j24 hE C hxn _ _ _ _ h hx
def rm_X9_number : Room := { frames := 3, cells := 0, slots := 0, locals := 61 }
noncomputable def s_X9_number_j33 (l5 : Int32) (t0 : Option Nat) (t1 : Int32) (σ : Hp) : Option (Int32 × Hp) :=
  (t0).bind fun a1 =>
  (ck 9 σ a1).bind fun u2 =>
  cb (s_X9_must a1 (t1) σ) fun v4 σ3 =>
  some ((l5), σ3)
set_option maxRecDepth 100000 in
theorem w_X9_number_j33 {E : E0} (hE : EOK E) {X : X0} (C : XOK E X cX9_number RX9 6 (some .int) rm_X9_number) (hxn : xn X = (rm_X9_number.cells, rm_X9_number.slots)) (l5 : Int32) (t0 : Option Nat) (t1 : Int32) (σ : Hp) (r : Int32) (σ1 : Hp) (h : s_X9_number_j33 l5 t0 t1 σ = some (r, σ1)) (hx : xd X = (some (tI r), σ1)) : G E X 0 0 33 [(5, tI (l5))] [tI (t1), tR (t0)] σ := by
  unfold s_X9_number_j33 at h
  obtain ⟨a1, hqa1, h9⟩ := zbind h
  clear h
  subst hqa1
  have h := h9
  clear h9
  obtain ⟨u2, hvu2, h⟩ := zbind h
  obtain ⟨v4, σ3, hvσ3, h⟩ := zcb h
  refine g_callV (pc := 33) (av := [tI (t1)]) C (c_X9_must hE hvσ3) yv_X9_must ml_X9_287 ck_9 (zopt hvu2).1 rfl (rf_of (by decide)) rfl (Nat.le_of_ble_eq_true rfl) dX9_number_33 ?_
  refine g_iload (pc := 36) C 0 dX9_number_36 rfl ?_
  obtain ⟨rfl, rfl⟩ := zsome h
  exact g_iret (pc := 38) C rfl hx (by rw [hxn]; rfl) (by rw [hxn]; rfl) dX9_number_38
noncomputable def s_X9_number_j32 (l5 : Int32) (t0 : Option Nat) (σ : Hp) : Option (Int32 × Hp) :=
  s_X9_number_j33 (l5) (t0) (0) σ
set_option maxRecDepth 100000 in
theorem w_X9_number_j32 {E : E0} (hE : EOK E) {X : X0} (C : XOK E X cX9_number RX9 6 (some .int) rm_X9_number) (hxn : xn X = (rm_X9_number.cells, rm_X9_number.slots)) (l5 : Int32) (t0 : Option Nat) (σ : Hp) (r : Int32) (σ1 : Hp) (h : s_X9_number_j32 l5 t0 σ = some (r, σ1)) (hx : xd X = (some (tI r), σ1)) : G E X 0 0 32 [(5, tI (l5))] [tR (t0)] σ := by
  unfold s_X9_number_j32 at h
  refine g_iconst (v := 0) (pc := 32) C dX9_number_32 (by decide) ?_
  exact w_X9_number_j33 hE C hxn _ _ _ _ _ _ h hx
noncomputable def s_X9_number (h0 : Nat) (p1 : Int64) (p3 : Int64) (σ : Hp) : Option (Int32 × Hp) :=
  (rdJ 9 σ h0 17).bind fun v1 =>
  (rdI 9 σ h0 16).bind fun v2 =>
  if v2 = 2 then
    (rdJ 9 σ h0 17).bind fun v3 =>
    cb (s_X9_in (v3) (p1) (p3) σ) fun v5 σ4 =>
    if v5 = 0 then
      s_X9_number_j32 (Int64.toInt32 (v1 : Int64)) (some (h0)) σ4
    else
      s_X9_number_j33 (Int64.toInt32 (v1 : Int64)) (some (h0)) (1) σ4
  else
    s_X9_number_j32 (Int64.toInt32 (v1 : Int64)) (some (h0)) σ
set_option maxRecDepth 100000 in
theorem c_X9_number {E : E0} (hE : EOK E) {h0 : Nat} {p1 : Int64} {p3 : Int64} {σ σ1 : Hp} {r : Int32} (h : s_X9_number h0 p1 p3 σ = some (r, σ1)) : CT E yX9_number (.code yX9_number cX9_number 6 (some .int)) rm_X9_number [tR (some (h0)), tJ (p1), tJ (p3)] σ (some (tI r)) σ1 := by
  refine CT.mk hE (by decide +kernel) (Nat.le_of_ble_eq_true rfl) [(0, tR (some (h0))), (1, tJ (p1)), (3, tJ (p3))] rfl (fun X C hin hx hxn => ?_)
  have C : XOK E X cX9_number RX9 6 (some .int) rm_X9_number := C
  unfold s_X9_number at h
  refine g_aload_n (pc := 0) C 0 0 dX9_number_0 rfl rfl ?_
  obtain ⟨v1, hvv1, h⟩ := zbind h
  refine g_getJ (N := 58) (pc := 1) C ck_9 hvv1 rfl rfl fl_X9_264 dX9_number_1 ?_
  refine g_l2i (pc := 4) C dX9_number_4 ?_
  refine g_istore (lm' := [(5, tI (Int64.toInt32 (v1 : Int64))), (0, tR (some (h0))), (1, tJ (p1)), (3, tJ (p3))]) (pc := 5) C dX9_number_5 (by decide) rfl ?_
  refine g_aload_n (pc := 7) C 0 1 dX9_number_7 rfl rfl ?_
  refine g_aload_n (pc := 8) C 0 1 dX9_number_8 rfl rfl ?_
  obtain ⟨v2, hvv2, h⟩ := zbind h
  refine g_getI (N := 58) (pc := 9) C ck_9 hvv2 rfl rfl fl_X9_274 dX9_number_9 ?_
  refine g_iconst (v := 2) (pc := 12) C dX9_number_12 (by decide) ?_
  refine g_icmp_ne (pc := 13) C 32 dX9_number_13 (by decide) (fun c7 => ?_) (fun c7 => ?_)
  · have h := zif_f c7 h
    refine g_sub [0] (lm' := [(5, tI (Int64.toInt32 (v1 : Int64)))]) rfl ?_
    exact w_X9_number_j32 hE C hxn _ _ _ _ _ h hx
  · have h := zif_t c7 h
    refine g_aload_n (pc := 16) C 0 1 dX9_number_16 rfl rfl ?_
    obtain ⟨v3, hvv3, h⟩ := zbind h
    refine g_getJ (N := 58) (pc := 17) C ck_9 hvv3 rfl rfl fl_X9_264 dX9_number_17 ?_
    refine g_lload_n (pc := 20) C 1 2 dX9_number_20 rfl rfl ?_
    refine g_lload_n (pc := 21) C 3 3 dX9_number_21 rfl rfl ?_
    obtain ⟨v5, σ4, hvσ4, h⟩ := zcb h
    refine g_callS (pc := 22) (av := [tJ (v3), tJ (p1), tJ (p3)]) C (c_X9_in hE hvσ4) ys_X9_in ml_X9_181 rfl (rf_of (by decide)) rfl (Nat.le_of_ble_eq_true rfl) dX9_number_22 ?_
    refine g_if_eq (pc := 25) C 32 dX9_number_25 (by decide) (fun c6 => ?_) (fun c6 => ?_)
    · have h := zif_t c6 h
      refine g_sub [0] (lm' := [(5, tI (Int64.toInt32 (v1 : Int64)))]) rfl ?_
      exact w_X9_number_j32 hE C hxn _ _ _ _ _ h hx
    · have h := zif_f c6 h
      refine g_iconst (v := 1) (pc := 28) C dX9_number_28 (by decide) ?_
      refine g_goto (pc := 29) C 33 dX9_number_29 (by decide) ?_
      refine g_sub [0] (lm' := [(5, tI (Int64.toInt32 (v1 : Int64)))]) rfl ?_
      exact w_X9_number_j33 hE C hxn _ _ _ _ _ _ h hx
def rm_X9_fault : Room := { frames := 0, cells := 0, slots := 0, locals := 0 }
noncomputable def s_X9_fault (h0 : Nat) (σ : Hp) : Option (Int32 × Hp) :=
  (wrI 9 σ h0 0 (0)).bind fun σ1 =>
  (rdI 9 σ1 h0 18).bind fun v2 =>
  some ((v2), σ1)
set_option maxRecDepth 100000 in
theorem c_X9_fault {E : E0} (hE : EOK E) {h0 : Nat} {σ σ1 : Hp} {r : Int32} (h : s_X9_fault h0 σ = some (r, σ1)) : CT E yX9_fault (.code yX9_fault cX9_fault 1 (some .int)) rm_X9_fault [tR (some (h0))] σ (some (tI r)) σ1 := by
  refine CT.mk hE (by decide +kernel) (Nat.le_of_ble_eq_true rfl) [(0, tR (some (h0)))] rfl (fun X C hin hx hxn => ?_)
  have C : XOK E X cX9_fault RX9 1 (some .int) rm_X9_fault := C
  unfold s_X9_fault at h
  refine g_aload_n (pc := 0) C 0 0 dX9_fault_0 rfl rfl ?_
  refine g_iconst (v := 0) (pc := 1) C dX9_fault_1 (by decide) ?_
  obtain ⟨σ1, hvσ1, h⟩ := zbind h
  refine g_putI (N := 58) (pc := 2) C ⟨ck_9, rfl, tyX9_ok⟩ hvσ1 rfl fl_X9_161 rfl rfl dX9_fault_2 ?_
  refine g_aload_n (pc := 5) C 0 0 dX9_fault_5 rfl rfl ?_
  obtain ⟨v2, hvv2, h⟩ := zbind h
  refine g_getI (N := 58) (pc := 6) C ck_9 hvv2 rfl rfl fl_X9_38 dX9_fault_6 ?_
  obtain ⟨rfl, rfl⟩ := zsome h
  exact g_iret (pc := 9) C rfl hx (by rw [hxn]; rfl) (by rw [hxn]; rfl) dX9_fault_9
def rm_X9_emit : Room := { frames := 0, cells := 0, slots := 0, locals := 0 }
noncomputable def s_X9_emit (h0 : Nat) (p1 : Int32) (p2 : Int32) (σ : Hp) : Option (Unit × Hp) :=
  (rdR 9 σ h0 24).bind fun r1 =>
  (rdI 9 σ h0 23).bind fun v2 =>
  (r1).bind fun a3 =>
  (stI σ a3 (v2) (p1)).bind fun σ4 =>
  (rdR 9 σ4 h0 25).bind fun r5 =>
  (rdI 9 σ4 h0 23).bind fun v6 =>
  (r5).bind fun a7 =>
  (stI σ4 a7 (v6) (p2)).bind fun σ8 =>
  (rdI 9 σ8 h0 23).bind fun v9 =>
  (wrI 9 σ8 h0 23 (v9 + 1)).bind fun σ10 =>
  some ((), σ10)
set_option maxRecDepth 100000 in
theorem c_X9_emit {E : E0} (hE : EOK E) {h0 : Nat} {p1 : Int32} {p2 : Int32} {σ σ1 : Hp} {r : Unit} (h : s_X9_emit h0 p1 p2 σ = some (r, σ1)) : CT E yX9_emit (.code yX9_emit cX9_emit 3 none) rm_X9_emit [tR (some (h0)), tI (p1), tI (p2)] σ none σ1 := by
  refine CT.mk hE (by decide +kernel) (Nat.le_of_ble_eq_true rfl) [(0, tR (some (h0))), (1, tI (p1)), (2, tI (p2))] rfl (fun X C hin hx hxn => ?_)
  have C : XOK E X cX9_emit RX9 3 none rm_X9_emit := C
  unfold s_X9_emit at h
  refine g_aload_n (pc := 0) C 0 0 dX9_emit_0 rfl rfl ?_
  obtain ⟨r1, hvr1, h⟩ := zbind h
  refine g_getR (N := 58) (pc := 1) C ck_9 hvr1 rfl rfl fl_X9_45 dX9_emit_1 ?_
  refine g_aload_n (pc := 4) C 0 0 dX9_emit_4 rfl rfl ?_
  obtain ⟨v2, hvv2, h⟩ := zbind h
  refine g_getI (N := 58) (pc := 5) C ck_9 hvv2 rfl rfl fl_X9_291 dX9_emit_5 ?_
  refine g_iload_n (pc := 8) C 1 1 dX9_emit_8 rfl rfl ?_
  obtain ⟨a3, hqa3, h9⟩ := zbind h
  clear h
  subst hqa3
  have h := h9
  clear h9
  obtain ⟨σ4, hvσ4, h⟩ := zbind h
  refine g_iast (pc := 9) C hvσ4 dX9_emit_9 ?_
  refine g_aload_n (pc := 10) C 0 0 dX9_emit_10 rfl rfl ?_
  obtain ⟨r5, hvr5, h⟩ := zbind h
  refine g_getR (N := 58) (pc := 11) C ck_9 hvr5 rfl rfl fl_X9_48 dX9_emit_11 ?_
  refine g_aload_n (pc := 14) C 0 0 dX9_emit_14 rfl rfl ?_
  obtain ⟨v6, hvv6, h⟩ := zbind h
  refine g_getI (N := 58) (pc := 15) C ck_9 hvv6 rfl rfl fl_X9_291 dX9_emit_15 ?_
  refine g_iload_n (pc := 18) C 2 2 dX9_emit_18 rfl rfl ?_
  obtain ⟨a7, hqa7, h9⟩ := zbind h
  clear h
  subst hqa7
  have h := h9
  clear h9
  obtain ⟨σ8, hvσ8, h⟩ := zbind h
  refine g_iast (pc := 19) C hvσ8 dX9_emit_19 ?_
  refine g_aload_n (pc := 20) C 0 0 dX9_emit_20 rfl rfl ?_
  refine g_dup (pc := 21) C dX9_emit_21 rfl ?_
  obtain ⟨v9, hvv9, h⟩ := zbind h
  refine g_getI (N := 58) (pc := 22) C ck_9 hvv9 rfl rfl fl_X9_291 dX9_emit_22 ?_
  refine g_iconst (v := 1) (pc := 25) C dX9_emit_25 (by decide) ?_
  refine g_iadd (pc := 26) C dX9_emit_26 ?_
  obtain ⟨σ10, hvσ10, h⟩ := zbind h
  refine g_putI (N := 58) (pc := 27) C ⟨ck_9, rfl, tyX9_ok⟩ hvσ10 rfl fl_X9_291 rfl rfl dX9_emit_27 ?_
  obtain ⟨rfl, rfl⟩ := zsome h
  exact g_vret (pc := 30) C rfl hx (by rw [hxn]; rfl) (by rw [hxn]; rfl) dX9_emit_30
def rm_X9_push : Room := { frames := 0, cells := 0, slots := 0, locals := 0 }
noncomputable def s_X9_push (h0 : Nat) (p1 : Int32) (p2 : Int32) (σ : Hp) : Option (Unit × Hp) :=
  (rdR 9 σ h0 27).bind fun r1 =>
  (rdI 9 σ h0 29).bind fun v2 =>
  (r1).bind fun a3 =>
  (stI σ a3 (v2) (p1)).bind fun σ4 =>
  (rdR 9 σ4 h0 28).bind fun r5 =>
  (rdI 9 σ4 h0 29).bind fun v6 =>
  (r5).bind fun a7 =>
  (stI σ4 a7 (v6) (p2)).bind fun σ8 =>
  (rdI 9 σ8 h0 29).bind fun v9 =>
  (wrI 9 σ8 h0 29 (v9 + 1)).bind fun σ10 =>
  some ((), σ10)
set_option maxRecDepth 100000 in
theorem c_X9_push {E : E0} (hE : EOK E) {h0 : Nat} {p1 : Int32} {p2 : Int32} {σ σ1 : Hp} {r : Unit} (h : s_X9_push h0 p1 p2 σ = some (r, σ1)) : CT E yX9_push (.code yX9_push cX9_push 3 none) rm_X9_push [tR (some (h0)), tI (p1), tI (p2)] σ none σ1 := by
  refine CT.mk hE (by decide +kernel) (Nat.le_of_ble_eq_true rfl) [(0, tR (some (h0))), (1, tI (p1)), (2, tI (p2))] rfl (fun X C hin hx hxn => ?_)
  have C : XOK E X cX9_push RX9 3 none rm_X9_push := C
  unfold s_X9_push at h
  refine g_aload_n (pc := 0) C 0 0 dX9_push_0 rfl rfl ?_
  obtain ⟨r1, hvr1, h⟩ := zbind h
  refine g_getR (N := 58) (pc := 1) C ck_9 hvr1 rfl rfl fl_X9_51 dX9_push_1 ?_
  refine g_aload_n (pc := 4) C 0 0 dX9_push_4 rfl rfl ?_
  obtain ⟨v2, hvv2, h⟩ := zbind h
  refine g_getI (N := 58) (pc := 5) C ck_9 hvv2 rfl rfl fl_X9_294 dX9_push_5 ?_
  refine g_iload_n (pc := 8) C 1 1 dX9_push_8 rfl rfl ?_
  obtain ⟨a3, hqa3, h9⟩ := zbind h
  clear h
  subst hqa3
  have h := h9
  clear h9
  obtain ⟨σ4, hvσ4, h⟩ := zbind h
  refine g_iast (pc := 9) C hvσ4 dX9_push_9 ?_
  refine g_aload_n (pc := 10) C 0 0 dX9_push_10 rfl rfl ?_
  obtain ⟨r5, hvr5, h⟩ := zbind h
  refine g_getR (N := 58) (pc := 11) C ck_9 hvr5 rfl rfl fl_X9_54 dX9_push_11 ?_
  refine g_aload_n (pc := 14) C 0 0 dX9_push_14 rfl rfl ?_
  obtain ⟨v6, hvv6, h⟩ := zbind h
  refine g_getI (N := 58) (pc := 15) C ck_9 hvv6 rfl rfl fl_X9_294 dX9_push_15 ?_
  refine g_iload_n (pc := 18) C 2 2 dX9_push_18 rfl rfl ?_
  obtain ⟨a7, hqa7, h9⟩ := zbind h
  clear h
  subst hqa7
  have h := h9
  clear h9
  obtain ⟨σ8, hvσ8, h⟩ := zbind h
  refine g_iast (pc := 19) C hvσ8 dX9_push_19 ?_
  refine g_aload_n (pc := 20) C 0 0 dX9_push_20 rfl rfl ?_
  refine g_dup (pc := 21) C dX9_push_21 rfl ?_
  obtain ⟨v9, hvv9, h⟩ := zbind h
  refine g_getI (N := 58) (pc := 22) C ck_9 hvv9 rfl rfl fl_X9_294 dX9_push_22 ?_
  refine g_iconst (v := 1) (pc := 25) C dX9_push_25 (by decide) ?_
  refine g_iadd (pc := 26) C dX9_push_26 ?_
  obtain ⟨σ10, hvσ10, h⟩ := zbind h
  refine g_putI (N := 58) (pc := 27) C ⟨ck_9, rfl, tyX9_ok⟩ hvσ10 rfl fl_X9_294 rfl rfl dX9_push_27 ?_
  obtain ⟨rfl, rfl⟩ := zsome h
  exact g_vret (pc := 30) C rfl hx (by rw [hxn]; rfl) (by rw [hxn]; rfl) dX9_push_30
def rm_X9_binds : Room := { frames := 0, cells := 0, slots := 0, locals := 0 }
noncomputable def s_X9_binds (p0 : Int32) (σ : Hp) : Option (Int32 × Hp) :=
  if p0 < 31 then
    if p0 = 30 then
      some ((1), σ)
    else
      if p0 = 29 then
        some ((2), σ)
      else
        if p0 = 28 then
          some ((3), σ)
        else
          if p0 < 25 then
            if p0 < 22 then
              some ((5), σ)
            else
              some ((6), σ)
          else
            some ((4), σ)
  else
    some ((0), σ)
set_option maxRecDepth 100000 in
theorem c_X9_binds {E : E0} (hE : EOK E) {p0 : Int32} {σ σ1 : Hp} {r : Int32} (h : s_X9_binds p0 σ = some (r, σ1)) : CT E yX9_binds (.code yX9_binds cX9_binds 1 (some .int)) rm_X9_binds [tI (p0)] σ (some (tI r)) σ1 := by
  refine CT.mk hE (by decide +kernel) (Nat.le_of_ble_eq_true rfl) [(0, tI (p0))] rfl (fun X C hin hx hxn => ?_)
  have C : XOK E X cX9_binds RX9 1 (some .int) rm_X9_binds := C
  unfold s_X9_binds at h
  refine g_iload_n (pc := 0) C 0 0 dX9_binds_0 rfl rfl ?_
  refine g_bipush (v := 31) (pc := 1) C dX9_binds_1 (by decide) ?_
  refine g_icmp_lt (pc := 3) C 10 dX9_binds_3 (by decide) (fun c6 => ?_) (fun c6 => ?_)
  · have h := zif_t c6 h
    refine g_iload_n (pc := 10) C 0 0 dX9_binds_10 rfl rfl ?_
    refine g_bipush (v := 30) (pc := 11) C dX9_binds_11 (by decide) ?_
    refine g_icmp_ne (pc := 13) C 20 dX9_binds_13 (by decide) (fun c5 => ?_) (fun c5 => ?_)
    · have h := zif_f c5 h
      refine g_iload_n (pc := 20) C 0 0 dX9_binds_20 rfl rfl ?_
      refine g_bipush (v := 29) (pc := 21) C dX9_binds_21 (by decide) ?_
      refine g_icmp_ne (pc := 23) C 30 dX9_binds_23 (by decide) (fun c4 => ?_) (fun c4 => ?_)
      · have h := zif_f c4 h
        refine g_iload_n (pc := 30) C 0 0 dX9_binds_30 rfl rfl ?_
        refine g_bipush (v := 28) (pc := 31) C dX9_binds_31 (by decide) ?_
        refine g_icmp_ne (pc := 33) C 40 dX9_binds_33 (by decide) (fun c3 => ?_) (fun c3 => ?_)
        · have h := zif_f c3 h
          refine g_iload_n (pc := 40) C 0 0 dX9_binds_40 rfl rfl ?_
          refine g_bipush (v := 25) (pc := 41) C dX9_binds_41 (by decide) ?_
          refine g_icmp_lt (pc := 43) C 50 dX9_binds_43 (by decide) (fun c2 => ?_) (fun c2 => ?_)
          · have h := zif_t c2 h
            refine g_iload_n (pc := 50) C 0 0 dX9_binds_50 rfl rfl ?_
            refine g_bipush (v := 22) (pc := 51) C dX9_binds_51 (by decide) ?_
            refine g_icmp_lt (pc := 53) C 61 dX9_binds_53 (by decide) (fun c1 => ?_) (fun c1 => ?_)
            · have h := zif_t c1 h
              refine g_iconst (v := 5) (pc := 61) C dX9_binds_61 (by decide) ?_
              obtain ⟨rfl, rfl⟩ := zsome h
              exact g_iret (pc := 62) C rfl hx (by rw [hxn]; rfl) (by rw [hxn]; rfl) dX9_binds_62
            · have h := zif_f c1 h
              refine g_bipush (v := 6) (pc := 56) C dX9_binds_56 (by decide) ?_
              refine g_goto (pc := 58) C 62 dX9_binds_58 (by decide) ?_
              obtain ⟨rfl, rfl⟩ := zsome h
              exact g_iret (pc := 62) C rfl hx (by rw [hxn]; rfl) (by rw [hxn]; rfl) dX9_binds_62
          · have h := zif_f c2 h
            refine g_iconst (v := 4) (pc := 46) C dX9_binds_46 (by decide) ?_
            refine g_goto (pc := 47) C 62 dX9_binds_47 (by decide) ?_
            obtain ⟨rfl, rfl⟩ := zsome h
            exact g_iret (pc := 62) C rfl hx (by rw [hxn]; rfl) (by rw [hxn]; rfl) dX9_binds_62
        · have h := zif_t c3 h
          refine g_iconst (v := 3) (pc := 36) C dX9_binds_36 (by decide) ?_
          refine g_goto (pc := 37) C 62 dX9_binds_37 (by decide) ?_
          obtain ⟨rfl, rfl⟩ := zsome h
          exact g_iret (pc := 62) C rfl hx (by rw [hxn]; rfl) (by rw [hxn]; rfl) dX9_binds_62
      · have h := zif_t c4 h
        refine g_iconst (v := 2) (pc := 26) C dX9_binds_26 (by decide) ?_
        refine g_goto (pc := 27) C 62 dX9_binds_27 (by decide) ?_
        obtain ⟨rfl, rfl⟩ := zsome h
        exact g_iret (pc := 62) C rfl hx (by rw [hxn]; rfl) (by rw [hxn]; rfl) dX9_binds_62
    · have h := zif_t c5 h
      refine g_iconst (v := 1) (pc := 16) C dX9_binds_16 (by decide) ?_
      refine g_goto (pc := 17) C 62 dX9_binds_17 (by decide) ?_
      obtain ⟨rfl, rfl⟩ := zsome h
      exact g_iret (pc := 62) C rfl hx (by rw [hxn]; rfl) (by rw [hxn]; rfl) dX9_binds_62
  · have h := zif_f c6 h
    refine g_iconst (v := 0) (pc := 6) C dX9_binds_6 (by decide) ?_
    refine g_goto (pc := 7) C 62 dX9_binds_7 (by decide) ?_
    obtain ⟨rfl, rfl⟩ := zsome h
    exact g_iret (pc := 62) C rfl hx (by rw [hxn]; rfl) (by rw [hxn]; rfl) dX9_binds_62
def rm_X9_settle : Room := { frames := 1, cells := 0, slots := 0, locals := 22 }
noncomputable def s_X9_settle_j63 (h0 : Nat) (l1 : Int32) (σ : Hp) : Option (((Nat × Int32) ⊕ (Unit)) × Hp) :=
  (rdR 9 σ h0 25).bind fun r1 =>
  (rdR 9 σ h0 28).bind fun r2 =>
  (rdI 9 σ h0 29).bind fun v3 =>
  (r2).bind fun a4 =>
  (ldI 11 σ a4 (v3)).bind fun v5 =>
  (rdI 9 σ h0 23).bind fun v6 =>
  (r1).bind fun a7 =>
  (stI σ a7 (v5) (v6)).bind fun σ8 =>
  some (Sum.inl ((h0), (l1)), σ8)
set_option maxRecDepth 100000 in
theorem w_X9_settle_j63 {E : E0} (hE : EOK E) {X : X0} (C : XOK E X cX9_settle RX9 2 none rm_X9_settle) (hxn : xn X = (rm_X9_settle.cells, rm_X9_settle.slots)) {KE : (Unit) → Hp → Prop} (e_ret : ∀ (r : Unit) (σ : Hp), KE (r) σ → xd X = (none, σ)) (h0 : Nat) (l1 : Int32) (σ : Hp) (x : (Nat × Int32) ⊕ (Unit)) (σ1 : Hp) (h : s_X9_settle_j63 h0 l1 σ = some (x, σ1)) (hI : ∀ v, x = Sum.inl v → (fun (v : Nat × Int32) (σ : Hp) => G E X 0 0 0 [(0, tR (some ((v.1)))), (1, tI ((v.2)))] [] σ) v σ1) (hO : ∀ e, x = Sum.inr e → KE e σ1) : G E X 0 0 63 [(0, tR (some (h0))), (1, tI (l1))] [] σ := by
  unfold s_X9_settle_j63 at h
  refine g_aload_n (pc := 63) C 0 0 dX9_settle_63 rfl rfl ?_
  obtain ⟨r1, hvr1, h⟩ := zbind h
  refine g_getR (N := 58) (pc := 64) C ck_9 hvr1 rfl rfl fl_X9_48 dX9_settle_64 ?_
  refine g_aload_n (pc := 67) C 0 0 dX9_settle_67 rfl rfl ?_
  obtain ⟨r2, hvr2, h⟩ := zbind h
  refine g_getR (N := 58) (pc := 68) C ck_9 hvr2 rfl rfl fl_X9_54 dX9_settle_68 ?_
  refine g_aload_n (pc := 71) C 0 0 dX9_settle_71 rfl rfl ?_
  obtain ⟨v3, hvv3, h⟩ := zbind h
  refine g_getI (N := 58) (pc := 72) C ck_9 hvv3 rfl rfl fl_X9_294 dX9_settle_72 ?_
  obtain ⟨a4, hqa4, h9⟩ := zbind h
  clear h
  subst hqa4
  have h := h9
  clear h9
  obtain ⟨v5, hvv5, h⟩ := zbind h
  refine g_iald (pc := 75) C hvv5 dX9_settle_75 ?_
  refine g_aload_n (pc := 76) C 0 0 dX9_settle_76 rfl rfl ?_
  obtain ⟨v6, hvv6, h⟩ := zbind h
  refine g_getI (N := 58) (pc := 77) C ck_9 hvv6 rfl rfl fl_X9_291 dX9_settle_77 ?_
  obtain ⟨a7, hqa7, h9⟩ := zbind h
  clear h
  subst hqa7
  have h := h9
  clear h9
  obtain ⟨σ8, hvσ8, h⟩ := zbind h
  refine g_iast (pc := 80) C hvσ8 dX9_settle_80 ?_
  refine g_goto (pc := 81) C 0 dX9_settle_81 (by decide) ?_
  obtain ⟨rfl, rfl⟩ := zsome h
  exact hI _ rfl
noncomputable def s_X9_settle_b0 (h0 : Nat) (l1 : Int32) (σ : Hp) : Option (((Nat × Int32) ⊕ (Unit)) × Hp) :=
  (rdI 9 σ h0 29).bind fun v1 =>
  if v1 ≤ 0 then
    some (Sum.inr (), σ)
  else
    (rdR 9 σ h0 27).bind fun r2 =>
    (rdI 9 σ h0 29).bind fun v3 =>
    (r2).bind fun a4 =>
    (ldI 11 σ a4 (v3 - 1)).bind fun v5 =>
    cb (s_X9_binds (v5) σ) fun v7 σ6 =>
    if v7 < l1 then
      some (Sum.inr (), σ6)
    else
      (rdI 9 σ6 h0 29).bind fun v8 =>
      (wrI 9 σ6 h0 29 (v8 - 1)).bind fun σ9 =>
      (rdR 9 σ9 h0 27).bind fun r10 =>
      (rdI 9 σ9 h0 29).bind fun v11 =>
      (r10).bind fun a12 =>
      (ldI 11 σ9 a12 (v11)).bind fun v13 =>
      if v13 = 29 then
        s_X9_settle_j63 (h0) (l1) σ9
      else
        (rdR 9 σ9 h0 27).bind fun r14 =>
        (rdI 9 σ9 h0 29).bind fun v15 =>
        (r14).bind fun a16 =>
        (ldI 11 σ9 a16 (v15)).bind fun v17 =>
        if v17 = 30 then
          s_X9_settle_j63 (h0) (l1) σ9
        else
          (rdR 9 σ9 h0 27).bind fun r18 =>
          (rdI 9 σ9 h0 29).bind fun v19 =>
          (r18).bind fun a20 =>
          (ldI 11 σ9 a20 (v19)).bind fun v21 =>
          (ck 9 σ9 h0).bind fun u22 =>
          cb (s_X9_emit h0 (v21) (0) σ9) fun v24 σ23 =>
          some (Sum.inl ((h0), (l1)), σ23)
noncomputable def s_X9_settle_l0 : (Nat × Int32) → Hp → Option ((Unit) × Hp) := loopF (fun v => s_X9_settle_b0 (v.1) (v.2))
set_option maxRecDepth 100000 in
theorem w_X9_settle_b0 {E : E0} (hE : EOK E) {X : X0} (C : XOK E X cX9_settle RX9 2 none rm_X9_settle) (hxn : xn X = (rm_X9_settle.cells, rm_X9_settle.slots)) {KE : (Unit) → Hp → Prop} (e_ret : ∀ (r : Unit) (σ : Hp), KE (r) σ → xd X = (none, σ)) (h0 : Nat) (l1 : Int32) (σ : Hp) (x : (Nat × Int32) ⊕ (Unit)) (σ1 : Hp) (h : s_X9_settle_b0 h0 l1 σ = some (x, σ1)) (hI : ∀ v, x = Sum.inl v → (fun (v : Nat × Int32) (σ : Hp) => G E X 0 0 0 [(0, tR (some ((v.1)))), (1, tI ((v.2)))] [] σ) v σ1) (hO : ∀ e, x = Sum.inr e → KE e σ1) : G E X 0 0 0 [(0, tR (some (h0))), (1, tI (l1))] [] σ := by
  unfold s_X9_settle_b0 at h
  refine g_aload_n (pc := 0) C 0 0 dX9_settle_0 rfl rfl ?_
  obtain ⟨v1, hvv1, h⟩ := zbind h
  refine g_getI (N := 58) (pc := 1) C ck_9 hvv1 rfl rfl fl_X9_294 dX9_settle_1 ?_
  refine g_if_le (pc := 4) C 101 dX9_settle_4 (by decide) (fun c28 => ?_) (fun c28 => ?_)
  · have h := zif_t c28 h
    obtain ⟨rfl, rfl⟩ := zsome h
    exact g_vret (pc := 101) C rfl (e_ret _ _ (hO _ rfl)) (by rw [hxn]; rfl) (by rw [hxn]; rfl) dX9_settle_101
  · have h := zif_f c28 h
    refine g_aload_n (pc := 7) C 0 0 dX9_settle_7 rfl rfl ?_
    obtain ⟨r2, hvr2, h⟩ := zbind h
    refine g_getR (N := 58) (pc := 8) C ck_9 hvr2 rfl rfl fl_X9_51 dX9_settle_8 ?_
    refine g_aload_n (pc := 11) C 0 0 dX9_settle_11 rfl rfl ?_
    obtain ⟨v3, hvv3, h⟩ := zbind h
    refine g_getI (N := 58) (pc := 12) C ck_9 hvv3 rfl rfl fl_X9_294 dX9_settle_12 ?_
    refine g_iconst (v := 1) (pc := 15) C dX9_settle_15 (by decide) ?_
    refine g_isub (pc := 16) C dX9_settle_16 ?_
    obtain ⟨a4, hqa4, h9⟩ := zbind h
    clear h
    subst hqa4
    have h := h9
    clear h9
    obtain ⟨v5, hvv5, h⟩ := zbind h
    refine g_iald (pc := 17) C hvv5 dX9_settle_17 ?_
    obtain ⟨v7, σ6, hvσ6, h⟩ := zcb h
    refine g_callS (pc := 18) (av := [tI (v5)]) C (c_X9_binds hE hvσ6) ys_X9_binds ml_X9_297 rfl (rf_of (by decide)) rfl (Nat.le_of_ble_eq_true rfl) dX9_settle_18 ?_
    refine g_iload_n (pc := 21) C 1 1 dX9_settle_21 rfl rfl ?_
    refine g_icmp_lt (pc := 22) C 101 dX9_settle_22 (by decide) (fun c27 => ?_) (fun c27 => ?_)
    · have h := zif_t c27 h
      obtain ⟨rfl, rfl⟩ := zsome h
      exact g_vret (pc := 101) C rfl (e_ret _ _ (hO _ rfl)) (by rw [hxn]; rfl) (by rw [hxn]; rfl) dX9_settle_101
    · have h := zif_f c27 h
      refine g_aload_n (pc := 25) C 0 0 dX9_settle_25 rfl rfl ?_
      refine g_dup (pc := 26) C dX9_settle_26 rfl ?_
      obtain ⟨v8, hvv8, h⟩ := zbind h
      refine g_getI (N := 58) (pc := 27) C ck_9 hvv8 rfl rfl fl_X9_294 dX9_settle_27 ?_
      refine g_iconst (v := 1) (pc := 30) C dX9_settle_30 (by decide) ?_
      refine g_isub (pc := 31) C dX9_settle_31 ?_
      obtain ⟨σ9, hvσ9, h⟩ := zbind h
      refine g_putI (N := 58) (pc := 32) C ⟨ck_9, rfl, tyX9_ok⟩ hvσ9 rfl fl_X9_294 rfl rfl dX9_settle_32 ?_
      refine g_aload_n (pc := 35) C 0 0 dX9_settle_35 rfl rfl ?_
      obtain ⟨r10, hvr10, h⟩ := zbind h
      refine g_getR (N := 58) (pc := 36) C ck_9 hvr10 rfl rfl fl_X9_51 dX9_settle_36 ?_
      refine g_aload_n (pc := 39) C 0 0 dX9_settle_39 rfl rfl ?_
      obtain ⟨v11, hvv11, h⟩ := zbind h
      refine g_getI (N := 58) (pc := 40) C ck_9 hvv11 rfl rfl fl_X9_294 dX9_settle_40 ?_
      obtain ⟨a12, hqa12, h9⟩ := zbind h
      clear h
      subst hqa12
      have h := h9
      clear h9
      obtain ⟨v13, hvv13, h⟩ := zbind h
      refine g_iald (pc := 43) C hvv13 dX9_settle_43 ?_
      refine g_bipush (v := 29) (pc := 44) C dX9_settle_44 (by decide) ?_
      refine g_icmp_eq (pc := 46) C 63 dX9_settle_46 (by decide) (fun c26 => ?_) (fun c26 => ?_)
      · have h := zif_t c26 h
        exact w_X9_settle_j63 hE C hxn e_ret _ _ _ _ _ h hI hO
      · have h := zif_f c26 h
        refine g_aload_n (pc := 49) C 0 0 dX9_settle_49 rfl rfl ?_
        obtain ⟨r14, hvr14, h⟩ := zbind h
        refine g_getR (N := 58) (pc := 50) C ck_9 hvr14 rfl rfl fl_X9_51 dX9_settle_50 ?_
        refine g_aload_n (pc := 53) C 0 0 dX9_settle_53 rfl rfl ?_
        obtain ⟨v15, hvv15, h⟩ := zbind h
        refine g_getI (N := 58) (pc := 54) C ck_9 hvv15 rfl rfl fl_X9_294 dX9_settle_54 ?_
        obtain ⟨a16, hqa16, h9⟩ := zbind h
        clear h
        subst hqa16
        have h := h9
        clear h9
        obtain ⟨v17, hvv17, h⟩ := zbind h
        refine g_iald (pc := 57) C hvv17 dX9_settle_57 ?_
        refine g_bipush (v := 30) (pc := 58) C dX9_settle_58 (by decide) ?_
        refine g_icmp_ne (pc := 60) C 84 dX9_settle_60 (by decide) (fun c25 => ?_) (fun c25 => ?_)
        · have h := zif_f c25 h
          refine g_aload_n (pc := 84) C 0 0 dX9_settle_84 rfl rfl ?_
          refine g_aload_n (pc := 85) C 0 0 dX9_settle_85 rfl rfl ?_
          obtain ⟨r18, hvr18, h⟩ := zbind h
          refine g_getR (N := 58) (pc := 86) C ck_9 hvr18 rfl rfl fl_X9_51 dX9_settle_86 ?_
          refine g_aload_n (pc := 89) C 0 0 dX9_settle_89 rfl rfl ?_
          obtain ⟨v19, hvv19, h⟩ := zbind h
          refine g_getI (N := 58) (pc := 90) C ck_9 hvv19 rfl rfl fl_X9_294 dX9_settle_90 ?_
          obtain ⟨a20, hqa20, h9⟩ := zbind h
          clear h
          subst hqa20
          have h := h9
          clear h9
          obtain ⟨v21, hvv21, h⟩ := zbind h
          refine g_iald (pc := 93) C hvv21 dX9_settle_93 ?_
          refine g_iconst (v := 0) (pc := 94) C dX9_settle_94 (by decide) ?_
          obtain ⟨u22, hvu22, h⟩ := zbind h
          obtain ⟨v24, σ23, hvσ23, h⟩ := zcb h
          refine g_callV (pc := 95) (av := [tI (v21), tI (0)]) C (c_X9_emit hE hvσ23) yv_X9_emit ml_X9_300 ck_9 (zopt hvu22).1 rfl (rf_of (by decide)) rfl (Nat.le_of_ble_eq_true rfl) dX9_settle_95 ?_
          refine g_goto (pc := 98) C 0 dX9_settle_98 (by decide) ?_
          obtain ⟨rfl, rfl⟩ := zsome h
          exact hI _ rfl
        · have h := zif_t c25 h
          exact w_X9_settle_j63 hE C hxn e_ret _ _ _ _ _ h hI hO
theorem w_X9_settle_l0 {E : E0} (hE : EOK E) {X : X0} (C : XOK E X cX9_settle RX9 2 none rm_X9_settle) (hxn : xn X = (rm_X9_settle.cells, rm_X9_settle.slots)) {KE : (Unit) → Hp → Prop} (e_ret : ∀ (r : Unit) (σ : Hp), KE (r) σ → xd X = (none, σ)) {v : Nat × Int32} {σ : Hp} {e : Unit} {σ1 : Hp} (h : s_X9_settle_l0 v σ = some (e, σ1)) (hO : KE e σ1) : G E X 0 0 0 [(0, tR (some ((v.1)))), (1, tI ((v.2)))] [] σ := loopF_ind (P := fun (v : Nat × Int32) (σ : Hp) => G E X 0 0 0 [(0, tR (some ((v.1)))), (1, tI ((v.2)))] [] σ) (KE := KE) (fun v σ x σ1 h hI hO => w_X9_settle_b0 hE C hxn e_ret (v.1) (v.2) σ x σ1 h hI hO) v σ e σ1 h hO
noncomputable def s_X9_settle (h0 : Nat) (p1 : Int32) (σ : Hp) : Option (Unit × Hp) :=
  cb (s_X9_settle_l0 ((h0), (p1)) σ) fun r2 σ3 =>
  some (r2, σ3)
set_option maxRecDepth 100000 in
theorem c_X9_settle {E : E0} (hE : EOK E) {h0 : Nat} {p1 : Int32} {σ σ1 : Hp} {r : Unit} (h : s_X9_settle h0 p1 σ = some (r, σ1)) : CT E yX9_settle (.code yX9_settle cX9_settle 2 none) rm_X9_settle [tR (some (h0)), tI (p1)] σ none σ1 := by
  refine CT.mk hE (by decide +kernel) (Nat.le_of_ble_eq_true rfl) [(0, tR (some (h0))), (1, tI (p1))] rfl (fun X C hin hx hxn => ?_)
  have C : XOK E X cX9_settle RX9 2 none rm_X9_settle := C
  unfold s_X9_settle at h
  obtain ⟨KQ, hKQ, r2, σ3, hlr2, h⟩ := zcbK h
  refine w_X9_settle_l0 (KE := KQ) hE C hxn ?_ hlr2 h
  · intro r2 σ1 h
    have h := (hKQ _ _).mp h
    obtain ⟨rfl, rfl⟩ := zsome h
    exact hx
def rm_X9_inner : Room := { frames := 0, cells := 0, slots := 0, locals := 0 }
noncomputable def s_X9_inner_j33 (h0 : Nat) (l2 : Int32) (t0 : Int32) (σ : Hp) : Option (((Nat × Int32 × Int32) ⊕ (Int32)) × Hp) :=
  some (Sum.inl ((h0), (t0), (l2 + 1)), σ)
set_option maxRecDepth 100000 in
theorem w_X9_inner_j33 {E : E0} (hE : EOK E) {X : X0} (C : XOK E X cX9_inner RX9 3 (some .int) rm_X9_inner) (hxn : xn X = (rm_X9_inner.cells, rm_X9_inner.slots)) {KE : (Int32) → Hp → Prop} (e_ret : ∀ (r : Int32) (σ : Hp), KE (r) σ → xd X = (some (tI r), σ)) (h0 : Nat) (l2 : Int32) (t0 : Int32) (σ : Hp) (x : (Nat × Int32 × Int32) ⊕ (Int32)) (σ1 : Hp) (h : s_X9_inner_j33 h0 l2 t0 σ = some (x, σ1)) (hI : ∀ v, x = Sum.inl v → (fun (v : Nat × Int32 × Int32) (σ : Hp) => G E X 0 0 4 [(0, tR (some ((v.1)))), (1, tI ((v.2.1))), (2, tI ((v.2.2)))] [] σ) v σ1) (hO : ∀ e, x = Sum.inr e → KE e σ1) : G E X 0 0 33 [(0, tR (some (h0))), (2, tI (l2))] [tI (t0)] σ := by
  unfold s_X9_inner_j33 at h
  refine g_istore_n (lm' := [(1, tI (t0)), (0, tR (some (h0))), (2, tI (l2))]) (pc := 33) C 1 dX9_inner_33 rfl (by decide) rfl ?_
  refine g_iinc (lm' := [(2, tI (l2 + 1)), (1, tI (t0)), (0, tR (some (h0)))]) (v := l2 + 1) (pc := 34) C 2 dX9_inner_34 rfl rfl (by decide) rfl ?_
  refine g_goto (pc := 37) C 4 dX9_inner_37 (by decide) ?_
  refine g_sub [2, 1, 0] (lm' := [(0, tR (some (h0))), (1, tI (t0)), (2, tI (l2 + 1))]) rfl ?_
  obtain ⟨rfl, rfl⟩ := zsome h
  exact hI _ rfl
noncomputable def s_X9_inner_b4 (h0 : Nat) (l1 : Int32) (l2 : Int32) (σ : Hp) : Option (((Nat × Int32 × Int32) ⊕ (Int32)) × Hp) :=
  (rdI 9 σ h0 29).bind fun v1 =>
  if v1 ≤ l2 then
    some (Sum.inr (l1), σ)
  else
    (rdR 9 σ h0 27).bind fun r2 =>
    (r2).bind fun a3 =>
    (ldI 11 σ a3 (l2)).bind fun v4 =>
    if v4 < 31 then
      s_X9_inner_j33 (h0) (l2) (l1) σ
    else
      (rdR 9 σ h0 27).bind fun r5 =>
      (r5).bind fun a6 =>
      (ldI 11 σ a6 (l2)).bind fun v7 =>
      s_X9_inner_j33 (h0) (l2) (v7) σ
noncomputable def s_X9_inner_l4 : (Nat × Int32 × Int32) → Hp → Option ((Int32) × Hp) := loopF (fun v => s_X9_inner_b4 (v.1) (v.2.1) (v.2.2))
set_option maxRecDepth 100000 in
theorem w_X9_inner_b4 {E : E0} (hE : EOK E) {X : X0} (C : XOK E X cX9_inner RX9 3 (some .int) rm_X9_inner) (hxn : xn X = (rm_X9_inner.cells, rm_X9_inner.slots)) {KE : (Int32) → Hp → Prop} (e_ret : ∀ (r : Int32) (σ : Hp), KE (r) σ → xd X = (some (tI r), σ)) (h0 : Nat) (l1 : Int32) (l2 : Int32) (σ : Hp) (x : (Nat × Int32 × Int32) ⊕ (Int32)) (σ1 : Hp) (h : s_X9_inner_b4 h0 l1 l2 σ = some (x, σ1)) (hI : ∀ v, x = Sum.inl v → (fun (v : Nat × Int32 × Int32) (σ : Hp) => G E X 0 0 4 [(0, tR (some ((v.1)))), (1, tI ((v.2.1))), (2, tI ((v.2.2)))] [] σ) v σ1) (hO : ∀ e, x = Sum.inr e → KE e σ1) : G E X 0 0 4 [(0, tR (some (h0))), (1, tI (l1)), (2, tI (l2))] [] σ := by
  unfold s_X9_inner_b4 at h
  refine g_iload_n (pc := 4) C 2 2 dX9_inner_4 rfl rfl ?_
  refine g_aload_n (pc := 5) C 0 0 dX9_inner_5 rfl rfl ?_
  obtain ⟨v1, hvv1, h⟩ := zbind h
  refine g_getI (N := 58) (pc := 6) C ck_9 hvv1 rfl rfl fl_X9_294 dX9_inner_6 ?_
  refine g_icmp_ge (pc := 9) C 40 dX9_inner_9 (by decide) (fun c9 => ?_) (fun c9 => ?_)
  · have h := zif_t c9 h
    refine g_iload_n (pc := 40) C 1 1 dX9_inner_40 rfl rfl ?_
    obtain ⟨rfl, rfl⟩ := zsome h
    exact g_iret (pc := 41) C rfl (e_ret _ _ (hO _ rfl)) (by rw [hxn]; rfl) (by rw [hxn]; rfl) dX9_inner_41
  · have h := zif_f c9 h
    refine g_aload_n (pc := 12) C 0 0 dX9_inner_12 rfl rfl ?_
    obtain ⟨r2, hvr2, h⟩ := zbind h
    refine g_getR (N := 58) (pc := 13) C ck_9 hvr2 rfl rfl fl_X9_51 dX9_inner_13 ?_
    refine g_iload_n (pc := 16) C 2 2 dX9_inner_16 rfl rfl ?_
    obtain ⟨a3, hqa3, h9⟩ := zbind h
    clear h
    subst hqa3
    have h := h9
    clear h9
    obtain ⟨v4, hvv4, h⟩ := zbind h
    refine g_iald (pc := 17) C hvv4 dX9_inner_17 ?_
    refine g_bipush (v := 31) (pc := 18) C dX9_inner_18 (by decide) ?_
    refine g_icmp_lt (pc := 20) C 32 dX9_inner_20 (by decide) (fun c8 => ?_) (fun c8 => ?_)
    · have h := zif_t c8 h
      refine g_iload_n (pc := 32) C 1 1 dX9_inner_32 rfl rfl ?_
      refine g_sub [0, 2] (lm' := [(0, tR (some (h0))), (2, tI (l2))]) rfl ?_
      exact w_X9_inner_j33 hE C hxn e_ret _ _ _ _ _ _ h hI hO
    · have h := zif_f c8 h
      refine g_aload_n (pc := 23) C 0 0 dX9_inner_23 rfl rfl ?_
      obtain ⟨r5, hvr5, h⟩ := zbind h
      refine g_getR (N := 58) (pc := 24) C ck_9 hvr5 rfl rfl fl_X9_51 dX9_inner_24 ?_
      refine g_iload_n (pc := 27) C 2 2 dX9_inner_27 rfl rfl ?_
      obtain ⟨a6, hqa6, h9⟩ := zbind h
      clear h
      subst hqa6
      have h := h9
      clear h9
      obtain ⟨v7, hvv7, h⟩ := zbind h
      refine g_iald (pc := 28) C hvv7 dX9_inner_28 ?_
      refine g_goto (pc := 29) C 33 dX9_inner_29 (by decide) ?_
      refine g_sub [0, 2] (lm' := [(0, tR (some (h0))), (2, tI (l2))]) rfl ?_
      exact w_X9_inner_j33 hE C hxn e_ret _ _ _ _ _ _ h hI hO
theorem w_X9_inner_l4 {E : E0} (hE : EOK E) {X : X0} (C : XOK E X cX9_inner RX9 3 (some .int) rm_X9_inner) (hxn : xn X = (rm_X9_inner.cells, rm_X9_inner.slots)) {KE : (Int32) → Hp → Prop} (e_ret : ∀ (r : Int32) (σ : Hp), KE (r) σ → xd X = (some (tI r), σ)) {v : Nat × Int32 × Int32} {σ : Hp} {e : Int32} {σ1 : Hp} (h : s_X9_inner_l4 v σ = some (e, σ1)) (hO : KE e σ1) : G E X 0 0 4 [(0, tR (some ((v.1)))), (1, tI ((v.2.1))), (2, tI ((v.2.2)))] [] σ := loopF_ind (P := fun (v : Nat × Int32 × Int32) (σ : Hp) => G E X 0 0 4 [(0, tR (some ((v.1)))), (1, tI ((v.2.1))), (2, tI ((v.2.2)))] [] σ) (KE := KE) (fun v σ x σ1 h hI hO => w_X9_inner_b4 hE C hxn e_ret (v.1) (v.2.1) (v.2.2) σ x σ1 h hI hO) v σ e σ1 h hO
noncomputable def s_X9_inner (h0 : Nat) (σ : Hp) : Option (Int32 × Hp) :=
  cb (s_X9_inner_l4 ((h0), ((-1)), (0)) σ) fun r2 σ3 =>
  some (r2, σ3)
set_option maxRecDepth 100000 in
theorem c_X9_inner {E : E0} (hE : EOK E) {h0 : Nat} {σ σ1 : Hp} {r : Int32} (h : s_X9_inner h0 σ = some (r, σ1)) : CT E yX9_inner (.code yX9_inner cX9_inner 3 (some .int)) rm_X9_inner [tR (some (h0))] σ (some (tI r)) σ1 := by
  refine CT.mk hE (by decide +kernel) (Nat.le_of_ble_eq_true rfl) [(0, tR (some (h0)))] rfl (fun X C hin hx hxn => ?_)
  have C : XOK E X cX9_inner RX9 3 (some .int) rm_X9_inner := C
  unfold s_X9_inner at h
  refine g_iconst (v := (-1)) (pc := 0) C dX9_inner_0 (by decide) ?_
  refine g_istore_n (lm' := [(1, tI ((-1))), (0, tR (some (h0)))]) (pc := 1) C 1 dX9_inner_1 rfl (by decide) rfl ?_
  refine g_iconst (v := 0) (pc := 2) C dX9_inner_2 (by decide) ?_
  refine g_istore_n (lm' := [(2, tI (0)), (1, tI ((-1))), (0, tR (some (h0)))]) (pc := 3) C 2 dX9_inner_3 rfl (by decide) rfl ?_
  refine g_sub [2, 1, 0] (lm' := [(0, tR (some (h0))), (1, tI ((-1))), (2, tI (0))]) rfl ?_
  obtain ⟨KQ, hKQ, r2, σ3, hlr2, h⟩ := zcbK h
  refine w_X9_inner_l4 (KE := KQ) hE C hxn ?_ hlr2 h
  · intro r2 σ1 h
    have h := (hKQ _ _).mp h
    obtain ⟨rfl, rfl⟩ := zsome h
    exact hx
def rm_X9_isCompared : Room := { frames := 1, cells := 0, slots := 0, locals := 25 }
noncomputable def s_X9_isCompared_b7 (h0 : Nat) (l1 : Int32) (σ : Hp) : Option (((Nat × Int32) ⊕ ((Nat × Int32))) × Hp) :=
  if l1 < 0 then
    some (Sum.inr ((h0), (l1)), σ)
  else
    (rdR 9 σ h0 27).bind fun r1 =>
    (r1).bind fun a2 =>
    (ldI 11 σ a2 (l1)).bind fun v3 =>
    cb (s_X9_in (Int32.toInt64 (v3 : Int32)) (20) (24) σ) fun v5 σ4 =>
    if v5 = 0 then
      some (Sum.inr ((h0), (l1)), σ4)
    else
      some (Sum.inl ((h0), (l1 + (-1))), σ4)
noncomputable def s_X9_isCompared_l7 : (Nat × Int32) → Hp → Option (((Nat × Int32)) × Hp) := loopF (fun v => s_X9_isCompared_b7 (v.1) (v.2))
set_option maxRecDepth 100000 in
theorem w_X9_isCompared_b7 {E : E0} (hE : EOK E) {X : X0} (C : XOK E X cX9_isCompared RX9 2 (some .boolean) rm_X9_isCompared) (hxn : xn X = (rm_X9_isCompared.cells, rm_X9_isCompared.slots)) {KE : ((Nat × Int32)) → Hp → Prop} (e_36 : ∀ (h0 : Nat) (l1 : Int32) (σ : Hp), KE ((h0, l1)) σ → G E X 0 0 36 [(0, tR (some (h0))), (1, tI (l1))] [] σ) (h0 : Nat) (l1 : Int32) (σ : Hp) (x : (Nat × Int32) ⊕ ((Nat × Int32))) (σ1 : Hp) (h : s_X9_isCompared_b7 h0 l1 σ = some (x, σ1)) (hI : ∀ v, x = Sum.inl v → (fun (v : Nat × Int32) (σ : Hp) => G E X 0 0 7 [(0, tR (some ((v.1)))), (1, tI ((v.2)))] [] σ) v σ1) (hO : ∀ e, x = Sum.inr e → KE e σ1) : G E X 0 0 7 [(0, tR (some (h0))), (1, tI (l1))] [] σ := by
  unfold s_X9_isCompared_b7 at h
  refine g_iload_n (pc := 7) C 1 1 dX9_isCompared_7 rfl rfl ?_
  refine g_if_lt (pc := 8) C 36 dX9_isCompared_8 (by decide) (fun c7 => ?_) (fun c7 => ?_)
  · have h := zif_t c7 h
    obtain ⟨rfl, rfl⟩ := zsome h
    exact e_36 _ _ _ (hO _ rfl)
  · have h := zif_f c7 h
    refine g_aload_n (pc := 11) C 0 0 dX9_isCompared_11 rfl rfl ?_
    obtain ⟨r1, hvr1, h⟩ := zbind h
    refine g_getR (N := 58) (pc := 12) C ck_9 hvr1 rfl rfl fl_X9_51 dX9_isCompared_12 ?_
    refine g_iload_n (pc := 15) C 1 1 dX9_isCompared_15 rfl rfl ?_
    obtain ⟨a2, hqa2, h9⟩ := zbind h
    clear h
    subst hqa2
    have h := h9
    clear h9
    obtain ⟨v3, hvv3, h⟩ := zbind h
    refine g_iald (pc := 16) C hvv3 dX9_isCompared_16 ?_
    refine g_i2l (pc := 17) C dX9_isCompared_17 ?_
    refine g_ldc2 (v := 20) (pc := 18) C dX9_isCompared_18 kl_X9_304 ?_
    refine g_ldc2 (v := 24) (pc := 21) C dX9_isCompared_21 kl_X9_306 ?_
    obtain ⟨v5, σ4, hvσ4, h⟩ := zcb h
    refine g_callS (pc := 24) (av := [tJ (Int32.toInt64 (v3 : Int32)), tJ (20), tJ (24)]) C (c_X9_in hE hvσ4) ys_X9_in ml_X9_181 rfl (rf_of (by decide)) rfl (Nat.le_of_ble_eq_true rfl) dX9_isCompared_24 ?_
    refine g_if_eq (pc := 27) C 36 dX9_isCompared_27 (by decide) (fun c6 => ?_) (fun c6 => ?_)
    · have h := zif_t c6 h
      obtain ⟨rfl, rfl⟩ := zsome h
      exact e_36 _ _ _ (hO _ rfl)
    · have h := zif_f c6 h
      refine g_iinc (lm' := [(1, tI (l1 + (-1))), (0, tR (some (h0)))]) (v := l1 + (-1)) (pc := 30) C 1 dX9_isCompared_30 rfl rfl (by decide) rfl ?_
      refine g_goto (pc := 33) C 7 dX9_isCompared_33 (by decide) ?_
      refine g_sub [1, 0] (lm' := [(0, tR (some (h0))), (1, tI (l1 + (-1)))]) rfl ?_
      obtain ⟨rfl, rfl⟩ := zsome h
      exact hI _ rfl
theorem w_X9_isCompared_l7 {E : E0} (hE : EOK E) {X : X0} (C : XOK E X cX9_isCompared RX9 2 (some .boolean) rm_X9_isCompared) (hxn : xn X = (rm_X9_isCompared.cells, rm_X9_isCompared.slots)) {KE : ((Nat × Int32)) → Hp → Prop} (e_36 : ∀ (h0 : Nat) (l1 : Int32) (σ : Hp), KE ((h0, l1)) σ → G E X 0 0 36 [(0, tR (some (h0))), (1, tI (l1))] [] σ) {v : Nat × Int32} {σ : Hp} {e : (Nat × Int32)} {σ1 : Hp} (h : s_X9_isCompared_l7 v σ = some (e, σ1)) (hO : KE e σ1) : G E X 0 0 7 [(0, tR (some ((v.1)))), (1, tI ((v.2)))] [] σ := loopF_ind (P := fun (v : Nat × Int32) (σ : Hp) => G E X 0 0 7 [(0, tR (some ((v.1)))), (1, tI ((v.2)))] [] σ) (KE := KE) (fun v σ x σ1 h hI hO => w_X9_isCompared_b7 hE C hxn e_36 (v.1) (v.2) σ x σ1 h hI hO) v σ e σ1 h hO
noncomputable def s_X9_isCompared_j36 (h0 : Nat) (l1 : Int32) (σ : Hp) : Option (Int32 × Hp) :=
  if l1 < 0 then
    some ((0), σ)
  else
    (rdR 9 σ h0 27).bind fun r1 =>
    (r1).bind fun a2 =>
    (ldI 11 σ a2 (l1)).bind fun v3 =>
    cb (s_X9_in (Int32.toInt64 (v3 : Int32)) (25) (27) σ) fun v5 σ4 =>
    if v5 = 0 then
      some ((0), σ4)
    else
      some ((1), σ4)
set_option maxRecDepth 100000 in
theorem w_X9_isCompared_j36 {E : E0} (hE : EOK E) {X : X0} (C : XOK E X cX9_isCompared RX9 2 (some .boolean) rm_X9_isCompared) (hxn : xn X = (rm_X9_isCompared.cells, rm_X9_isCompared.slots)) (h0 : Nat) (l1 : Int32) (σ : Hp) (r : Int32) (σ1 : Hp) (h : s_X9_isCompared_j36 h0 l1 σ = some (r, σ1)) (hx : xd X = (some (tI r), σ1)) : G E X 0 0 36 [(0, tR (some (h0))), (1, tI (l1))] [] σ := by
  unfold s_X9_isCompared_j36 at h
  refine g_iload_n (pc := 36) C 1 1 dX9_isCompared_36 rfl rfl ?_
  refine g_if_lt (pc := 37) C 63 dX9_isCompared_37 (by decide) (fun c7 => ?_) (fun c7 => ?_)
  · have h := zif_t c7 h
    refine g_iconst (v := 0) (pc := 63) C dX9_isCompared_63 (by decide) ?_
    obtain ⟨rfl, rfl⟩ := zsome h
    exact g_zret (pc := 64) C rfl hx (by decide) (by rw [hxn]; rfl) (by rw [hxn]; rfl) dX9_isCompared_64
  · have h := zif_f c7 h
    refine g_aload_n (pc := 40) C 0 0 dX9_isCompared_40 rfl rfl ?_
    obtain ⟨r1, hvr1, h⟩ := zbind h
    refine g_getR (N := 58) (pc := 41) C ck_9 hvr1 rfl rfl fl_X9_51 dX9_isCompared_41 ?_
    refine g_iload_n (pc := 44) C 1 1 dX9_isCompared_44 rfl rfl ?_
    obtain ⟨a2, hqa2, h9⟩ := zbind h
    clear h
    subst hqa2
    have h := h9
    clear h9
    obtain ⟨v3, hvv3, h⟩ := zbind h
    refine g_iald (pc := 45) C hvv3 dX9_isCompared_45 ?_
    refine g_i2l (pc := 46) C dX9_isCompared_46 ?_
    refine g_ldc2 (v := 25) (pc := 47) C dX9_isCompared_47 kl_X9_308 ?_
    refine g_ldc2 (v := 27) (pc := 50) C dX9_isCompared_50 kl_X9_310 ?_
    obtain ⟨v5, σ4, hvσ4, h⟩ := zcb h
    refine g_callS (pc := 53) (av := [tJ (Int32.toInt64 (v3 : Int32)), tJ (25), tJ (27)]) C (c_X9_in hE hvσ4) ys_X9_in ml_X9_181 rfl (rf_of (by decide)) rfl (Nat.le_of_ble_eq_true rfl) dX9_isCompared_53 ?_
    refine g_if_eq (pc := 56) C 63 dX9_isCompared_56 (by decide) (fun c6 => ?_) (fun c6 => ?_)
    · have h := zif_t c6 h
      refine g_iconst (v := 0) (pc := 63) C dX9_isCompared_63 (by decide) ?_
      obtain ⟨rfl, rfl⟩ := zsome h
      exact g_zret (pc := 64) C rfl hx (by decide) (by rw [hxn]; rfl) (by rw [hxn]; rfl) dX9_isCompared_64
    · have h := zif_f c6 h
      refine g_iconst (v := 1) (pc := 59) C dX9_isCompared_59 (by decide) ?_
      refine g_goto (pc := 60) C 64 dX9_isCompared_60 (by decide) ?_
      obtain ⟨rfl, rfl⟩ := zsome h
      exact g_zret (pc := 64) C rfl hx (by decide) (by rw [hxn]; rfl) (by rw [hxn]; rfl) dX9_isCompared_64
noncomputable def s_X9_isCompared (h0 : Nat) (σ : Hp) : Option (Int32 × Hp) :=
  (rdI 9 σ h0 29).bind fun v1 =>
  cb (s_X9_isCompared_l7 ((h0), (v1 - 1)) σ) fun e7 σ6 =>
  match e7 with
  | (h2, l13) =>
    s_X9_isCompared_j36 (h2) (l13) σ6
set_option maxRecDepth 100000 in
theorem c_X9_isCompared {E : E0} (hE : EOK E) {h0 : Nat} {σ σ1 : Hp} {r : Int32} (h : s_X9_isCompared h0 σ = some (r, σ1)) : CT E yX9_isCompared (.code yX9_isCompared cX9_isCompared 2 (some .boolean)) rm_X9_isCompared [tR (some (h0))] σ (some (tI r)) σ1 := by
  refine CT.mk hE (by decide +kernel) (Nat.le_of_ble_eq_true rfl) [(0, tR (some (h0)))] rfl (fun X C hin hx hxn => ?_)
  have C : XOK E X cX9_isCompared RX9 2 (some .boolean) rm_X9_isCompared := C
  unfold s_X9_isCompared at h
  refine g_aload_n (pc := 0) C 0 0 dX9_isCompared_0 rfl rfl ?_
  obtain ⟨v1, hvv1, h⟩ := zbind h
  refine g_getI (N := 58) (pc := 1) C ck_9 hvv1 rfl rfl fl_X9_294 dX9_isCompared_1 ?_
  refine g_iconst (v := 1) (pc := 4) C dX9_isCompared_4 (by decide) ?_
  refine g_isub (pc := 5) C dX9_isCompared_5 ?_
  refine g_istore_n (lm' := [(1, tI (v1 - 1)), (0, tR (some (h0)))]) (pc := 6) C 1 dX9_isCompared_6 rfl (by decide) rfl ?_
  refine g_sub [1, 0] (lm' := [(0, tR (some (h0))), (1, tI (v1 - 1))]) rfl ?_
  obtain ⟨KQ, hKQ, e7, σ6, hle7, h⟩ := zcbK h
  refine w_X9_isCompared_l7 (KE := KQ) hE C hxn ?_ hle7 h
  · intro h2 l13 σ4 h
    have h := (hKQ _ _).mp h
    exact w_X9_isCompared_j36 hE C hxn _ _ _ _ _ h hx
def rm_X9_partAt : Room := { frames := 1, cells := 0, slots := 0, locals := 22 }
noncomputable def s_X9_partAt_j30 (h0 : Nat) (l2 : Int32) (t0 : Int32) (σ : Hp) : Option (((Nat × Int32 × Int32) ⊕ (Int32)) × Hp) :=
  some (Sum.inl ((h0), (t0), (l2 + 1)), σ)
set_option maxRecDepth 100000 in
theorem w_X9_partAt_j30 {E : E0} (hE : EOK E) {X : X0} (C : XOK E X cX9_partAt RX9 3 (some .int) rm_X9_partAt) (hxn : xn X = (rm_X9_partAt.cells, rm_X9_partAt.slots)) {KE : (Int32) → Hp → Prop} (e_ret : ∀ (r : Int32) (σ : Hp), KE (r) σ → xd X = (some (tI r), σ)) (h0 : Nat) (l2 : Int32) (t0 : Int32) (σ : Hp) (x : (Nat × Int32 × Int32) ⊕ (Int32)) (σ1 : Hp) (h : s_X9_partAt_j30 h0 l2 t0 σ = some (x, σ1)) (hI : ∀ v, x = Sum.inl v → (fun (v : Nat × Int32 × Int32) (σ : Hp) => G E X 0 0 4 [(0, tR (some ((v.1)))), (1, tI ((v.2.1))), (2, tI ((v.2.2)))] [] σ) v σ1) (hO : ∀ e, x = Sum.inr e → KE e σ1) : G E X 0 0 30 [(0, tR (some (h0))), (2, tI (l2))] [tI (t0)] σ := by
  unfold s_X9_partAt_j30 at h
  refine g_istore_n (lm' := [(1, tI (t0)), (0, tR (some (h0))), (2, tI (l2))]) (pc := 30) C 1 dX9_partAt_30 rfl (by decide) rfl ?_
  refine g_iinc (lm' := [(2, tI (l2 + 1)), (1, tI (t0)), (0, tR (some (h0)))]) (v := l2 + 1) (pc := 31) C 2 dX9_partAt_31 rfl rfl (by decide) rfl ?_
  refine g_goto (pc := 34) C 4 dX9_partAt_34 (by decide) ?_
  refine g_sub [2, 1, 0] (lm' := [(0, tR (some (h0))), (1, tI (t0)), (2, tI (l2 + 1))]) rfl ?_
  obtain ⟨rfl, rfl⟩ := zsome h
  exact hI _ rfl
noncomputable def s_X9_partAt_b4 (h0 : Nat) (l1 : Int32) (l2 : Int32) (σ : Hp) : Option (((Nat × Int32 × Int32) ⊕ (Int32)) × Hp) :=
  if 9 ≤ l2 then
    some (Sum.inr (l1), σ)
  else
    (rdR 9 σ h0 31).bind fun r1 =>
    (r1).bind fun a2 =>
    (ldJ σ a2 (l2)).bind fun v3 =>
    (ck 9 σ h0).bind fun u4 =>
    cb (s_X9_isWord h0 (v3) σ) fun v6 σ5 =>
    if v6 = 0 then
      s_X9_partAt_j30 (h0) (l2) (l1) σ5
    else
      s_X9_partAt_j30 (h0) (l2) (l2 + 1) σ5
noncomputable def s_X9_partAt_l4 : (Nat × Int32 × Int32) → Hp → Option ((Int32) × Hp) := loopF (fun v => s_X9_partAt_b4 (v.1) (v.2.1) (v.2.2))
set_option maxRecDepth 100000 in
theorem w_X9_partAt_b4 {E : E0} (hE : EOK E) {X : X0} (C : XOK E X cX9_partAt RX9 3 (some .int) rm_X9_partAt) (hxn : xn X = (rm_X9_partAt.cells, rm_X9_partAt.slots)) {KE : (Int32) → Hp → Prop} (e_ret : ∀ (r : Int32) (σ : Hp), KE (r) σ → xd X = (some (tI r), σ)) (h0 : Nat) (l1 : Int32) (l2 : Int32) (σ : Hp) (x : (Nat × Int32 × Int32) ⊕ (Int32)) (σ1 : Hp) (h : s_X9_partAt_b4 h0 l1 l2 σ = some (x, σ1)) (hI : ∀ v, x = Sum.inl v → (fun (v : Nat × Int32 × Int32) (σ : Hp) => G E X 0 0 4 [(0, tR (some ((v.1)))), (1, tI ((v.2.1))), (2, tI ((v.2.2)))] [] σ) v σ1) (hO : ∀ e, x = Sum.inr e → KE e σ1) : G E X 0 0 4 [(0, tR (some (h0))), (1, tI (l1)), (2, tI (l2))] [] σ := by
  unfold s_X9_partAt_b4 at h
  refine g_iload_n (pc := 4) C 2 2 dX9_partAt_4 rfl rfl ?_
  refine g_bipush (v := 9) (pc := 5) C dX9_partAt_5 (by decide) ?_
  refine g_icmp_ge (pc := 7) C 37 dX9_partAt_7 (by decide) (fun c8 => ?_) (fun c8 => ?_)
  · have h := zif_t c8 h
    refine g_iload_n (pc := 37) C 1 1 dX9_partAt_37 rfl rfl ?_
    obtain ⟨rfl, rfl⟩ := zsome h
    exact g_iret (pc := 38) C rfl (e_ret _ _ (hO _ rfl)) (by rw [hxn]; rfl) (by rw [hxn]; rfl) dX9_partAt_38
  · have h := zif_f c8 h
    refine g_aload_n (pc := 10) C 0 0 dX9_partAt_10 rfl rfl ?_
    refine g_aload_n (pc := 11) C 0 0 dX9_partAt_11 rfl rfl ?_
    obtain ⟨r1, hvr1, h⟩ := zbind h
    refine g_getR (N := 58) (pc := 12) C ck_9 hvr1 rfl rfl fl_X9_75 dX9_partAt_12 ?_
    refine g_iload_n (pc := 15) C 2 2 dX9_partAt_15 rfl rfl ?_
    obtain ⟨a2, hqa2, h9⟩ := zbind h
    clear h
    subst hqa2
    have h := h9
    clear h9
    obtain ⟨v3, hvv3, h⟩ := zbind h
    refine g_lald (pc := 16) C hvv3 dX9_partAt_16 ?_
    obtain ⟨u4, hvu4, h⟩ := zbind h
    obtain ⟨v6, σ5, hvσ5, h⟩ := zcb h
    refine g_callV (pc := 17) (av := [tJ (v3)]) C (c_X9_isWord hE hvσ5) yv_X9_isWord ml_X9_312 ck_9 (zopt hvu4).1 rfl (rf_of (by decide)) rfl (Nat.le_of_ble_eq_true rfl) dX9_partAt_17 ?_
    refine g_if_eq (pc := 20) C 29 dX9_partAt_20 (by decide) (fun c7 => ?_) (fun c7 => ?_)
    · have h := zif_t c7 h
      refine g_iload_n (pc := 29) C 1 1 dX9_partAt_29 rfl rfl ?_
      refine g_sub [0, 2] (lm' := [(0, tR (some (h0))), (2, tI (l2))]) rfl ?_
      exact w_X9_partAt_j30 hE C hxn e_ret _ _ _ _ _ _ h hI hO
    · have h := zif_f c7 h
      refine g_iload_n (pc := 23) C 2 2 dX9_partAt_23 rfl rfl ?_
      refine g_iconst (v := 1) (pc := 24) C dX9_partAt_24 (by decide) ?_
      refine g_iadd (pc := 25) C dX9_partAt_25 ?_
      refine g_goto (pc := 26) C 30 dX9_partAt_26 (by decide) ?_
      refine g_sub [0, 2] (lm' := [(0, tR (some (h0))), (2, tI (l2))]) rfl ?_
      exact w_X9_partAt_j30 hE C hxn e_ret _ _ _ _ _ _ h hI hO
theorem w_X9_partAt_l4 {E : E0} (hE : EOK E) {X : X0} (C : XOK E X cX9_partAt RX9 3 (some .int) rm_X9_partAt) (hxn : xn X = (rm_X9_partAt.cells, rm_X9_partAt.slots)) {KE : (Int32) → Hp → Prop} (e_ret : ∀ (r : Int32) (σ : Hp), KE (r) σ → xd X = (some (tI r), σ)) {v : Nat × Int32 × Int32} {σ : Hp} {e : Int32} {σ1 : Hp} (h : s_X9_partAt_l4 v σ = some (e, σ1)) (hO : KE e σ1) : G E X 0 0 4 [(0, tR (some ((v.1)))), (1, tI ((v.2.1))), (2, tI ((v.2.2)))] [] σ := loopF_ind (P := fun (v : Nat × Int32 × Int32) (σ : Hp) => G E X 0 0 4 [(0, tR (some ((v.1)))), (1, tI ((v.2.1))), (2, tI ((v.2.2)))] [] σ) (KE := KE) (fun v σ x σ1 h hI hO => w_X9_partAt_b4 hE C hxn e_ret (v.1) (v.2.1) (v.2.2) σ x σ1 h hI hO) v σ e σ1 h hO
noncomputable def s_X9_partAt (h0 : Nat) (σ : Hp) : Option (Int32 × Hp) :=
  cb (s_X9_partAt_l4 ((h0), ((-1)), (0)) σ) fun r2 σ3 =>
  some (r2, σ3)
set_option maxRecDepth 100000 in
theorem c_X9_partAt {E : E0} (hE : EOK E) {h0 : Nat} {σ σ1 : Hp} {r : Int32} (h : s_X9_partAt h0 σ = some (r, σ1)) : CT E yX9_partAt (.code yX9_partAt cX9_partAt 3 (some .int)) rm_X9_partAt [tR (some (h0))] σ (some (tI r)) σ1 := by
  refine CT.mk hE (by decide +kernel) (Nat.le_of_ble_eq_true rfl) [(0, tR (some (h0)))] rfl (fun X C hin hx hxn => ?_)
  have C : XOK E X cX9_partAt RX9 3 (some .int) rm_X9_partAt := C
  unfold s_X9_partAt at h
  refine g_iconst (v := (-1)) (pc := 0) C dX9_partAt_0 (by decide) ?_
  refine g_istore_n (lm' := [(1, tI ((-1))), (0, tR (some (h0)))]) (pc := 1) C 1 dX9_partAt_1 rfl (by decide) rfl ?_
  refine g_iconst (v := 0) (pc := 2) C dX9_partAt_2 (by decide) ?_
  refine g_istore_n (lm' := [(2, tI (0)), (1, tI ((-1))), (0, tR (some (h0)))]) (pc := 3) C 2 dX9_partAt_3 rfl (by decide) rfl ?_
  refine g_sub [2, 1, 0] (lm' := [(0, tR (some (h0))), (1, tI ((-1))), (2, tI (0))]) rfl ?_
  obtain ⟨KQ, hKQ, r2, σ3, hlr2, h⟩ := zcbK h
  refine w_X9_partAt_l4 (KE := KQ) hE C hxn ?_ hlr2 h
  · intro r2 σ1 h
    have h := (hKQ _ _).mp h
    obtain ⟨rfl, rfl⟩ := zsome h
    exact hx
def rm_X9_orderPartAt : Room := { frames := 1, cells := 0, slots := 0, locals := 22 }
noncomputable def s_X9_orderPartAt_j30 (h0 : Nat) (l2 : Int32) (t0 : Int32) (σ : Hp) : Option (((Nat × Int32 × Int32) ⊕ (Int32)) × Hp) :=
  some (Sum.inl ((h0), (t0), (l2 + 1)), σ)
set_option maxRecDepth 100000 in
theorem w_X9_orderPartAt_j30 {E : E0} (hE : EOK E) {X : X0} (C : XOK E X cX9_orderPartAt RX9 3 (some .int) rm_X9_orderPartAt) (hxn : xn X = (rm_X9_orderPartAt.cells, rm_X9_orderPartAt.slots)) {KE : (Int32) → Hp → Prop} (e_ret : ∀ (r : Int32) (σ : Hp), KE (r) σ → xd X = (some (tI r), σ)) (h0 : Nat) (l2 : Int32) (t0 : Int32) (σ : Hp) (x : (Nat × Int32 × Int32) ⊕ (Int32)) (σ1 : Hp) (h : s_X9_orderPartAt_j30 h0 l2 t0 σ = some (x, σ1)) (hI : ∀ v, x = Sum.inl v → (fun (v : Nat × Int32 × Int32) (σ : Hp) => G E X 0 0 4 [(0, tR (some ((v.1)))), (1, tI ((v.2.1))), (2, tI ((v.2.2)))] [] σ) v σ1) (hO : ∀ e, x = Sum.inr e → KE e σ1) : G E X 0 0 30 [(0, tR (some (h0))), (2, tI (l2))] [tI (t0)] σ := by
  unfold s_X9_orderPartAt_j30 at h
  refine g_istore_n (lm' := [(1, tI (t0)), (0, tR (some (h0))), (2, tI (l2))]) (pc := 30) C 1 dX9_orderPartAt_30 rfl (by decide) rfl ?_
  refine g_iinc (lm' := [(2, tI (l2 + 1)), (1, tI (t0)), (0, tR (some (h0)))]) (v := l2 + 1) (pc := 31) C 2 dX9_orderPartAt_31 rfl rfl (by decide) rfl ?_
  refine g_goto (pc := 34) C 4 dX9_orderPartAt_34 (by decide) ?_
  refine g_sub [2, 1, 0] (lm' := [(0, tR (some (h0))), (1, tI (t0)), (2, tI (l2 + 1))]) rfl ?_
  obtain ⟨rfl, rfl⟩ := zsome h
  exact hI _ rfl
noncomputable def s_X9_orderPartAt_b4 (h0 : Nat) (l1 : Int32) (l2 : Int32) (σ : Hp) : Option (((Nat × Int32 × Int32) ⊕ (Int32)) × Hp) :=
  if 8 ≤ l2 then
    some (Sum.inr (l1), σ)
  else
    (rdR 9 σ h0 32).bind fun r1 =>
    (r1).bind fun a2 =>
    (ldJ σ a2 (l2)).bind fun v3 =>
    (ck 9 σ h0).bind fun u4 =>
    cb (s_X9_isWord h0 (v3) σ) fun v6 σ5 =>
    if v6 = 0 then
      s_X9_orderPartAt_j30 (h0) (l2) (l1) σ5
    else
      s_X9_orderPartAt_j30 (h0) (l2) (l2 + 1) σ5
noncomputable def s_X9_orderPartAt_l4 : (Nat × Int32 × Int32) → Hp → Option ((Int32) × Hp) := loopF (fun v => s_X9_orderPartAt_b4 (v.1) (v.2.1) (v.2.2))
set_option maxRecDepth 100000 in
theorem w_X9_orderPartAt_b4 {E : E0} (hE : EOK E) {X : X0} (C : XOK E X cX9_orderPartAt RX9 3 (some .int) rm_X9_orderPartAt) (hxn : xn X = (rm_X9_orderPartAt.cells, rm_X9_orderPartAt.slots)) {KE : (Int32) → Hp → Prop} (e_ret : ∀ (r : Int32) (σ : Hp), KE (r) σ → xd X = (some (tI r), σ)) (h0 : Nat) (l1 : Int32) (l2 : Int32) (σ : Hp) (x : (Nat × Int32 × Int32) ⊕ (Int32)) (σ1 : Hp) (h : s_X9_orderPartAt_b4 h0 l1 l2 σ = some (x, σ1)) (hI : ∀ v, x = Sum.inl v → (fun (v : Nat × Int32 × Int32) (σ : Hp) => G E X 0 0 4 [(0, tR (some ((v.1)))), (1, tI ((v.2.1))), (2, tI ((v.2.2)))] [] σ) v σ1) (hO : ∀ e, x = Sum.inr e → KE e σ1) : G E X 0 0 4 [(0, tR (some (h0))), (1, tI (l1)), (2, tI (l2))] [] σ := by
  unfold s_X9_orderPartAt_b4 at h
  refine g_iload_n (pc := 4) C 2 2 dX9_orderPartAt_4 rfl rfl ?_
  refine g_bipush (v := 8) (pc := 5) C dX9_orderPartAt_5 (by decide) ?_
  refine g_icmp_ge (pc := 7) C 37 dX9_orderPartAt_7 (by decide) (fun c8 => ?_) (fun c8 => ?_)
  · have h := zif_t c8 h
    refine g_iload_n (pc := 37) C 1 1 dX9_orderPartAt_37 rfl rfl ?_
    obtain ⟨rfl, rfl⟩ := zsome h
    exact g_iret (pc := 38) C rfl (e_ret _ _ (hO _ rfl)) (by rw [hxn]; rfl) (by rw [hxn]; rfl) dX9_orderPartAt_38
  · have h := zif_f c8 h
    refine g_aload_n (pc := 10) C 0 0 dX9_orderPartAt_10 rfl rfl ?_
    refine g_aload_n (pc := 11) C 0 0 dX9_orderPartAt_11 rfl rfl ?_
    obtain ⟨r1, hvr1, h⟩ := zbind h
    refine g_getR (N := 58) (pc := 12) C ck_9 hvr1 rfl rfl fl_X9_89 dX9_orderPartAt_12 ?_
    refine g_iload_n (pc := 15) C 2 2 dX9_orderPartAt_15 rfl rfl ?_
    obtain ⟨a2, hqa2, h9⟩ := zbind h
    clear h
    subst hqa2
    have h := h9
    clear h9
    obtain ⟨v3, hvv3, h⟩ := zbind h
    refine g_lald (pc := 16) C hvv3 dX9_orderPartAt_16 ?_
    obtain ⟨u4, hvu4, h⟩ := zbind h
    obtain ⟨v6, σ5, hvσ5, h⟩ := zcb h
    refine g_callV (pc := 17) (av := [tJ (v3)]) C (c_X9_isWord hE hvσ5) yv_X9_isWord ml_X9_312 ck_9 (zopt hvu4).1 rfl (rf_of (by decide)) rfl (Nat.le_of_ble_eq_true rfl) dX9_orderPartAt_17 ?_
    refine g_if_eq (pc := 20) C 29 dX9_orderPartAt_20 (by decide) (fun c7 => ?_) (fun c7 => ?_)
    · have h := zif_t c7 h
      refine g_iload_n (pc := 29) C 1 1 dX9_orderPartAt_29 rfl rfl ?_
      refine g_sub [0, 2] (lm' := [(0, tR (some (h0))), (2, tI (l2))]) rfl ?_
      exact w_X9_orderPartAt_j30 hE C hxn e_ret _ _ _ _ _ _ h hI hO
    · have h := zif_f c7 h
      refine g_iload_n (pc := 23) C 2 2 dX9_orderPartAt_23 rfl rfl ?_
      refine g_iconst (v := 1) (pc := 24) C dX9_orderPartAt_24 (by decide) ?_
      refine g_iadd (pc := 25) C dX9_orderPartAt_25 ?_
      refine g_goto (pc := 26) C 30 dX9_orderPartAt_26 (by decide) ?_
      refine g_sub [0, 2] (lm' := [(0, tR (some (h0))), (2, tI (l2))]) rfl ?_
      exact w_X9_orderPartAt_j30 hE C hxn e_ret _ _ _ _ _ _ h hI hO
theorem w_X9_orderPartAt_l4 {E : E0} (hE : EOK E) {X : X0} (C : XOK E X cX9_orderPartAt RX9 3 (some .int) rm_X9_orderPartAt) (hxn : xn X = (rm_X9_orderPartAt.cells, rm_X9_orderPartAt.slots)) {KE : (Int32) → Hp → Prop} (e_ret : ∀ (r : Int32) (σ : Hp), KE (r) σ → xd X = (some (tI r), σ)) {v : Nat × Int32 × Int32} {σ : Hp} {e : Int32} {σ1 : Hp} (h : s_X9_orderPartAt_l4 v σ = some (e, σ1)) (hO : KE e σ1) : G E X 0 0 4 [(0, tR (some ((v.1)))), (1, tI ((v.2.1))), (2, tI ((v.2.2)))] [] σ := loopF_ind (P := fun (v : Nat × Int32 × Int32) (σ : Hp) => G E X 0 0 4 [(0, tR (some ((v.1)))), (1, tI ((v.2.1))), (2, tI ((v.2.2)))] [] σ) (KE := KE) (fun v σ x σ1 h hI hO => w_X9_orderPartAt_b4 hE C hxn e_ret (v.1) (v.2.1) (v.2.2) σ x σ1 h hI hO) v σ e σ1 h hO
noncomputable def s_X9_orderPartAt (h0 : Nat) (σ : Hp) : Option (Int32 × Hp) :=
  cb (s_X9_orderPartAt_l4 ((h0), ((-1)), (0)) σ) fun r2 σ3 =>
  some (r2, σ3)
set_option maxRecDepth 100000 in
theorem c_X9_orderPartAt {E : E0} (hE : EOK E) {h0 : Nat} {σ σ1 : Hp} {r : Int32} (h : s_X9_orderPartAt h0 σ = some (r, σ1)) : CT E yX9_orderPartAt (.code yX9_orderPartAt cX9_orderPartAt 3 (some .int)) rm_X9_orderPartAt [tR (some (h0))] σ (some (tI r)) σ1 := by
  refine CT.mk hE (by decide +kernel) (Nat.le_of_ble_eq_true rfl) [(0, tR (some (h0)))] rfl (fun X C hin hx hxn => ?_)
  have C : XOK E X cX9_orderPartAt RX9 3 (some .int) rm_X9_orderPartAt := C
  unfold s_X9_orderPartAt at h
  refine g_iconst (v := (-1)) (pc := 0) C dX9_orderPartAt_0 (by decide) ?_
  refine g_istore_n (lm' := [(1, tI ((-1))), (0, tR (some (h0)))]) (pc := 1) C 1 dX9_orderPartAt_1 rfl (by decide) rfl ?_
  refine g_iconst (v := 0) (pc := 2) C dX9_orderPartAt_2 (by decide) ?_
  refine g_istore_n (lm' := [(2, tI (0)), (1, tI ((-1))), (0, tR (some (h0)))]) (pc := 3) C 2 dX9_orderPartAt_3 rfl (by decide) rfl ?_
  refine g_sub [2, 1, 0] (lm' := [(0, tR (some (h0))), (1, tI ((-1))), (2, tI (0))]) rfl ?_
  obtain ⟨KQ, hKQ, r2, σ3, hlr2, h⟩ := zcbK h
  refine w_X9_orderPartAt_l4 (KE := KQ) hE C hxn ?_ hlr2 h
  · intro r2 σ1 h
    have h := (hKQ _ _).mp h
    obtain ⟨rfl, rfl⟩ := zsome h
    exact hx
def rm_X9_openBracket : Room := { frames := 3, cells := 0, slots := 0, locals := 61 }
noncomputable def s_X9_openBracket_j15 (h0 : Nat) (l1 : Int32) (t0 : Option Nat) (t1 : Int32) (σ : Hp) : Option (Unit × Hp) :=
  (t0).bind fun a1 =>
  (ck 9 σ a1).bind fun u2 =>
  cb (s_X9_must a1 (t1) σ) fun v4 σ3 =>
  (rdI 9 σ3 h0 19).bind fun v5 =>
  if v5 = 0 then
    (rdI 9 σ3 h0 30).bind fun v6 =>
    (wrI 9 σ3 h0 30 (v6 + 1)).bind fun σ7 =>
    (ck 9 σ7 h0).bind fun u8 =>
    cb (s_X9_push h0 (l1) (0) σ7) fun v10 σ9 =>
    some ((), σ9)
  else
    some ((), σ3)
set_option maxRecDepth 100000 in
theorem w_X9_openBracket_j15 {E : E0} (hE : EOK E) {X : X0} (C : XOK E X cX9_openBracket RX9 2 none rm_X9_openBracket) (hxn : xn X = (rm_X9_openBracket.cells, rm_X9_openBracket.slots)) (h0 : Nat) (l1 : Int32) (t0 : Option Nat) (t1 : Int32) (σ : Hp) (r : Unit) (σ1 : Hp) (h : s_X9_openBracket_j15 h0 l1 t0 t1 σ = some (r, σ1)) (hx : xd X = (none, σ1)) : G E X 0 0 15 [(0, tR (some (h0))), (1, tI (l1))] [tI (t1), tR (t0)] σ := by
  unfold s_X9_openBracket_j15 at h
  obtain ⟨a1, hqa1, h9⟩ := zbind h
  clear h
  subst hqa1
  have h := h9
  clear h9
  obtain ⟨u2, hvu2, h⟩ := zbind h
  obtain ⟨v4, σ3, hvσ3, h⟩ := zcb h
  refine g_callV (pc := 15) (av := [tI (t1)]) C (c_X9_must hE hvσ3) yv_X9_must ml_X9_287 ck_9 (zopt hvu2).1 rfl (rf_of (by decide)) rfl (Nat.le_of_ble_eq_true rfl) dX9_openBracket_15 ?_
  refine g_aload_n (pc := 18) C 0 0 dX9_openBracket_18 rfl rfl ?_
  obtain ⟨v5, hvv5, h⟩ := zbind h
  refine g_getI (N := 58) (pc := 19) C ck_9 hvv5 rfl rfl fl_X9_254 dX9_openBracket_19 ?_
  refine g_if_ne (pc := 22) C 41 dX9_openBracket_22 (by decide) (fun c11 => ?_) (fun c11 => ?_)
  · have h := zif_f c11 h
    obtain ⟨rfl, rfl⟩ := zsome h
    exact g_vret (pc := 41) C rfl hx (by rw [hxn]; rfl) (by rw [hxn]; rfl) dX9_openBracket_41
  · have h := zif_t c11 h
    refine g_aload_n (pc := 25) C 0 0 dX9_openBracket_25 rfl rfl ?_
    refine g_dup (pc := 26) C dX9_openBracket_26 rfl ?_
    obtain ⟨v6, hvv6, h⟩ := zbind h
    refine g_getI (N := 58) (pc := 27) C ck_9 hvv6 rfl rfl fl_X9_315 dX9_openBracket_27 ?_
    refine g_iconst (v := 1) (pc := 30) C dX9_openBracket_30 (by decide) ?_
    refine g_iadd (pc := 31) C dX9_openBracket_31 ?_
    obtain ⟨σ7, hvσ7, h⟩ := zbind h
    refine g_putI (N := 58) (pc := 32) C ⟨ck_9, rfl, tyX9_ok⟩ hvσ7 rfl fl_X9_315 rfl rfl dX9_openBracket_32 ?_
    refine g_aload_n (pc := 35) C 0 0 dX9_openBracket_35 rfl rfl ?_
    refine g_iload_n (pc := 36) C 1 1 dX9_openBracket_36 rfl rfl ?_
    refine g_iconst (v := 0) (pc := 37) C dX9_openBracket_37 (by decide) ?_
    obtain ⟨u8, hvu8, h⟩ := zbind h
    obtain ⟨v10, σ9, hvσ9, h⟩ := zcb h
    refine g_callV (pc := 38) (av := [tI (l1), tI (0)]) C (c_X9_push hE hvσ9) yv_X9_push ml_X9_318 ck_9 (zopt hvu8).1 rfl (rf_of (by decide)) rfl (Nat.le_of_ble_eq_true rfl) dX9_openBracket_38 ?_
    obtain ⟨rfl, rfl⟩ := zsome h
    exact g_vret (pc := 41) C rfl hx (by rw [hxn]; rfl) (by rw [hxn]; rfl) dX9_openBracket_41
noncomputable def s_X9_openBracket (h0 : Nat) (p1 : Int32) (σ : Hp) : Option (Unit × Hp) :=
  (rdI 9 σ h0 30).bind fun v1 =>
  if 8 ≤ v1 then
    s_X9_openBracket_j15 (h0) (p1) (some (h0)) (0) σ
  else
    s_X9_openBracket_j15 (h0) (p1) (some (h0)) (1) σ
set_option maxRecDepth 100000 in
theorem c_X9_openBracket {E : E0} (hE : EOK E) {h0 : Nat} {p1 : Int32} {σ σ1 : Hp} {r : Unit} (h : s_X9_openBracket h0 p1 σ = some (r, σ1)) : CT E yX9_openBracket (.code yX9_openBracket cX9_openBracket 2 none) rm_X9_openBracket [tR (some (h0)), tI (p1)] σ none σ1 := by
  refine CT.mk hE (by decide +kernel) (Nat.le_of_ble_eq_true rfl) [(0, tR (some (h0))), (1, tI (p1))] rfl (fun X C hin hx hxn => ?_)
  have C : XOK E X cX9_openBracket RX9 2 none rm_X9_openBracket := C
  unfold s_X9_openBracket at h
  refine g_aload_n (pc := 0) C 0 0 dX9_openBracket_0 rfl rfl ?_
  refine g_aload_n (pc := 1) C 0 0 dX9_openBracket_1 rfl rfl ?_
  obtain ⟨v1, hvv1, h⟩ := zbind h
  refine g_getI (N := 58) (pc := 2) C ck_9 hvv1 rfl rfl fl_X9_315 dX9_openBracket_2 ?_
  refine g_bipush (v := 8) (pc := 5) C dX9_openBracket_5 (by decide) ?_
  refine g_icmp_ge (pc := 7) C 14 dX9_openBracket_7 (by decide) (fun c2 => ?_) (fun c2 => ?_)
  · have h := zif_t c2 h
    refine g_iconst (v := 0) (pc := 14) C dX9_openBracket_14 (by decide) ?_
    exact w_X9_openBracket_j15 hE C hxn _ _ _ _ _ _ _ h hx
  · have h := zif_f c2 h
    refine g_iconst (v := 1) (pc := 10) C dX9_openBracket_10 (by decide) ?_
    refine g_goto (pc := 11) C 15 dX9_openBracket_11 (by decide) ?_
    exact w_X9_openBracket_j15 hE C hxn _ _ _ _ _ _ _ h hx
def rm_X9_leaf : Room := { frames := 3, cells := 0, slots := 0, locals := 61 }
noncomputable def s_X9_leaf_j19 (h0 : Nat) (l2 : Int32) (l3 : Int32) (t0 : Option Nat) (t1 : Int32) (σ : Hp) : Option (Unit × Hp) :=
  (t0).bind fun a1 =>
  (ck 9 σ a1).bind fun u2 =>
  cb (s_X9_must a1 (t1) σ) fun v4 σ3 =>
  (rdI 9 σ3 h0 19).bind fun v5 =>
  if v5 = 0 then
    (ck 9 σ3 h0).bind fun u6 =>
    cb (s_X9_emit h0 (l2) (l3) σ3) fun v8 σ7 =>
    (rdI 9 σ7 h0 26).bind fun v9 =>
    (wrI 9 σ7 h0 26 (v9 + 1)).bind fun σ10 =>
    some ((), σ10)
  else
    some ((), σ3)
set_option maxRecDepth 100000 in
theorem w_X9_leaf_j19 {E : E0} (hE : EOK E) {X : X0} (C : XOK E X cX9_leaf RX9 4 none rm_X9_leaf) (hxn : xn X = (rm_X9_leaf.cells, rm_X9_leaf.slots)) (h0 : Nat) (l2 : Int32) (l3 : Int32) (t0 : Option Nat) (t1 : Int32) (σ : Hp) (r : Unit) (σ1 : Hp) (h : s_X9_leaf_j19 h0 l2 l3 t0 t1 σ = some (r, σ1)) (hx : xd X = (none, σ1)) : G E X 0 0 19 [(0, tR (some (h0))), (2, tI (l2)), (3, tI (l3))] [tI (t1), tR (t0)] σ := by
  unfold s_X9_leaf_j19 at h
  obtain ⟨a1, hqa1, h9⟩ := zbind h
  clear h
  subst hqa1
  have h := h9
  clear h9
  obtain ⟨u2, hvu2, h⟩ := zbind h
  obtain ⟨v4, σ3, hvσ3, h⟩ := zcb h
  refine g_callV (pc := 19) (av := [tI (t1)]) C (c_X9_must hE hvσ3) yv_X9_must ml_X9_287 ck_9 (zopt hvu2).1 rfl (rf_of (by decide)) rfl (Nat.le_of_ble_eq_true rfl) dX9_leaf_19 ?_
  refine g_aload_n (pc := 22) C 0 0 dX9_leaf_22 rfl rfl ?_
  obtain ⟨v5, hvv5, h⟩ := zbind h
  refine g_getI (N := 58) (pc := 23) C ck_9 hvv5 rfl rfl fl_X9_254 dX9_leaf_23 ?_
  refine g_if_ne (pc := 26) C 45 dX9_leaf_26 (by decide) (fun c11 => ?_) (fun c11 => ?_)
  · have h := zif_f c11 h
    obtain ⟨rfl, rfl⟩ := zsome h
    exact g_vret (pc := 45) C rfl hx (by rw [hxn]; rfl) (by rw [hxn]; rfl) dX9_leaf_45
  · have h := zif_t c11 h
    refine g_aload_n (pc := 29) C 0 0 dX9_leaf_29 rfl rfl ?_
    refine g_iload_n (pc := 30) C 2 1 dX9_leaf_30 rfl rfl ?_
    refine g_iload_n (pc := 31) C 3 2 dX9_leaf_31 rfl rfl ?_
    obtain ⟨u6, hvu6, h⟩ := zbind h
    obtain ⟨v8, σ7, hvσ7, h⟩ := zcb h
    refine g_callV (pc := 32) (av := [tI (l2), tI (l3)]) C (c_X9_emit hE hvσ7) yv_X9_emit ml_X9_300 ck_9 (zopt hvu6).1 rfl (rf_of (by decide)) rfl (Nat.le_of_ble_eq_true rfl) dX9_leaf_32 ?_
    refine g_aload_n (pc := 35) C 0 0 dX9_leaf_35 rfl rfl ?_
    refine g_dup (pc := 36) C dX9_leaf_36 rfl ?_
    obtain ⟨v9, hvv9, h⟩ := zbind h
    refine g_getI (N := 58) (pc := 37) C ck_9 hvv9 rfl rfl fl_X9_321 dX9_leaf_37 ?_
    refine g_iconst (v := 1) (pc := 40) C dX9_leaf_40 (by decide) ?_
    refine g_iadd (pc := 41) C dX9_leaf_41 ?_
    obtain ⟨σ10, hvσ10, h⟩ := zbind h
    refine g_putI (N := 58) (pc := 42) C ⟨ck_9, rfl, tyX9_ok⟩ hvσ10 rfl fl_X9_321 rfl rfl dX9_leaf_42 ?_
    obtain ⟨rfl, rfl⟩ := zsome h
    exact g_vret (pc := 45) C rfl hx (by rw [hxn]; rfl) (by rw [hxn]; rfl) dX9_leaf_45
noncomputable def s_X9_leaf_j18 (h0 : Nat) (l2 : Int32) (l3 : Int32) (t0 : Option Nat) (σ : Hp) : Option (Unit × Hp) :=
  s_X9_leaf_j19 (h0) (l2) (l3) (t0) (0) σ
set_option maxRecDepth 100000 in
theorem w_X9_leaf_j18 {E : E0} (hE : EOK E) {X : X0} (C : XOK E X cX9_leaf RX9 4 none rm_X9_leaf) (hxn : xn X = (rm_X9_leaf.cells, rm_X9_leaf.slots)) (h0 : Nat) (l2 : Int32) (l3 : Int32) (t0 : Option Nat) (σ : Hp) (r : Unit) (σ1 : Hp) (h : s_X9_leaf_j18 h0 l2 l3 t0 σ = some (r, σ1)) (hx : xd X = (none, σ1)) : G E X 0 0 18 [(0, tR (some (h0))), (2, tI (l2)), (3, tI (l3))] [tR (t0)] σ := by
  unfold s_X9_leaf_j18 at h
  refine g_iconst (v := 0) (pc := 18) C dX9_leaf_18 (by decide) ?_
  exact w_X9_leaf_j19 hE C hxn _ _ _ _ _ _ _ _ h hx
noncomputable def s_X9_leaf (h0 : Nat) (p1 : Int32) (p2 : Int32) (p3 : Int32) (σ : Hp) : Option (Unit × Hp) :=
  if p1 = 0 then
    s_X9_leaf_j18 (h0) (p2) (p3) (some (h0)) σ
  else
    (rdI 9 σ h0 26).bind fun v1 =>
    if 50 ≤ v1 then
      s_X9_leaf_j18 (h0) (p2) (p3) (some (h0)) σ
    else
      s_X9_leaf_j19 (h0) (p2) (p3) (some (h0)) (1) σ
set_option maxRecDepth 100000 in
theorem c_X9_leaf {E : E0} (hE : EOK E) {h0 : Nat} {p1 : Int32} {p2 : Int32} {p3 : Int32} {σ σ1 : Hp} {r : Unit} (h : s_X9_leaf h0 p1 p2 p3 σ = some (r, σ1)) : CT E yX9_leaf (.code yX9_leaf cX9_leaf 4 none) rm_X9_leaf [tR (some (h0)), tI (p1), tI (p2), tI (p3)] σ none σ1 := by
  refine CT.mk hE (by decide +kernel) (Nat.le_of_ble_eq_true rfl) [(0, tR (some (h0))), (1, tI (p1)), (2, tI (p2)), (3, tI (p3))] rfl (fun X C hin hx hxn => ?_)
  have C : XOK E X cX9_leaf RX9 4 none rm_X9_leaf := C
  unfold s_X9_leaf at h
  refine g_aload_n (pc := 0) C 0 0 dX9_leaf_0 rfl rfl ?_
  refine g_iload_n (pc := 1) C 1 1 dX9_leaf_1 rfl rfl ?_
  refine g_if_eq (pc := 2) C 18 dX9_leaf_2 (by decide) (fun c3 => ?_) (fun c3 => ?_)
  · have h := zif_t c3 h
    refine g_sub [0, 2, 3] (lm' := [(0, tR (some (h0))), (2, tI (p2)), (3, tI (p3))]) rfl ?_
    exact w_X9_leaf_j18 hE C hxn _ _ _ _ _ _ _ h hx
  · have h := zif_f c3 h
    refine g_aload_n (pc := 5) C 0 0 dX9_leaf_5 rfl rfl ?_
    obtain ⟨v1, hvv1, h⟩ := zbind h
    refine g_getI (N := 58) (pc := 6) C ck_9 hvv1 rfl rfl fl_X9_321 dX9_leaf_6 ?_
    refine g_bipush (v := 50) (pc := 9) C dX9_leaf_9 (by decide) ?_
    refine g_icmp_ge (pc := 11) C 18 dX9_leaf_11 (by decide) (fun c2 => ?_) (fun c2 => ?_)
    · have h := zif_t c2 h
      refine g_sub [0, 2, 3] (lm' := [(0, tR (some (h0))), (2, tI (p2)), (3, tI (p3))]) rfl ?_
      exact w_X9_leaf_j18 hE C hxn _ _ _ _ _ _ _ h hx
    · have h := zif_f c2 h
      refine g_iconst (v := 1) (pc := 14) C dX9_leaf_14 (by decide) ?_
      refine g_goto (pc := 15) C 19 dX9_leaf_15 (by decide) ?_
      refine g_sub [0, 2, 3] (lm' := [(0, tR (some (h0))), (2, tI (p2)), (3, tI (p3))]) rfl ?_
      exact w_X9_leaf_j19 hE C hxn _ _ _ _ _ _ _ _ h hx
def rm_X9_readPart : Room := { frames := 4, cells := 0, slots := 0, locals := 86 }
noncomputable def s_X9_readPart_j163 (t0 : Option Nat) (t1 : Int32) (t2 : Option Nat) (t3 : Int64) (t4 : Int64) (σ : Hp) : Option (Int32 × Hp) :=
  (t2).bind fun a1 =>
  (ck 9 σ a1).bind fun u2 =>
  cb (s_X9_number a1 (t3) (t4) σ) fun v4 σ3 =>
  (t0).bind fun a5 =>
  (stI σ3 a5 (t1) (v4)).bind fun σ6 =>
  some ((3), σ6)
set_option maxRecDepth 100000 in
theorem w_X9_readPart_j163 {E : E0} (hE : EOK E) {X : X0} (C : XOK E X cX9_readPart RX9 4 (some .int) rm_X9_readPart) (hxn : xn X = (rm_X9_readPart.cells, rm_X9_readPart.slots)) (t0 : Option Nat) (t1 : Int32) (t2 : Option Nat) (t3 : Int64) (t4 : Int64) (σ : Hp) (r : Int32) (σ1 : Hp) (h : s_X9_readPart_j163 t0 t1 t2 t3 t4 σ = some (r, σ1)) (hx : xd X = (some (tI r), σ1)) : G E X 0 0 163 [] [tJ (t4), tJ (t3), tR (t2), tI (t1), tR (t0)] σ := by
  unfold s_X9_readPart_j163 at h
  obtain ⟨a1, hqa1, h9⟩ := zbind h
  clear h
  subst hqa1
  have h := h9
  clear h9
  obtain ⟨u2, hvu2, h⟩ := zbind h
  obtain ⟨v4, σ3, hvσ3, h⟩ := zcb h
  refine g_callV (pc := 163) (av := [tJ (t3), tJ (t4)]) C (c_X9_number hE hvσ3) yv_X9_number ml_X9_348 ck_9 (zopt hvu2).1 rfl (rf_of (by decide)) rfl (Nat.le_of_ble_eq_true rfl) dX9_readPart_163 ?_
  obtain ⟨a5, hqa5, h9⟩ := zbind h
  clear h
  subst hqa5
  have h := h9
  clear h9
  obtain ⟨σ6, hvσ6, h⟩ := zbind h
  refine g_iast (pc := 166) C hvσ6 dX9_readPart_166 ?_
  refine g_iconst (v := 3) (pc := 167) C dX9_readPart_167 (by decide) ?_
  obtain ⟨rfl, rfl⟩ := zsome h
  exact g_iret (pc := 168) C rfl hx (by rw [hxn]; rfl) (by rw [hxn]; rfl) dX9_readPart_168
noncomputable def s_X9_readPart_j99 (h0 : Nat) (l1 : Int32) (t0 : Option Nat) (t1 : Int32) (t2 : Int32) (t3 : Int32) (σ : Hp) : Option (Int32 × Hp) :=
  (t0).bind fun a1 =>
  (ck 9 σ a1).bind fun u2 =>
  cb (s_X9_leaf a1 (t1) (t2) (t3) σ) fun v4 σ3 =>
  (rdI 9 σ3 h0 20).bind fun v5 =>
  if v5 = 0 then
    some ((3), σ3)
  else
    if l1 < 6 then
      some ((3), σ3)
    else
      (rdI 9 σ3 h0 19).bind fun v6 =>
      if v6 = 0 then
        (rdI 9 σ3 h0 23).bind fun v7 =>
        (rdR 9 σ3 h0 25).bind fun r8 =>
        if l1 = 6 then
          s_X9_readPart_j163 (r8) (v7 - 1) (some (h0)) (0) (3) σ3
        else
          if l1 = 7 then
            s_X9_readPart_j163 (r8) (v7 - 1) (some (h0)) (0) (2) σ3
          else
            s_X9_readPart_j163 (r8) (v7 - 1) (some (h0)) (0) (5) σ3
      else
        some ((3), σ3)
set_option maxRecDepth 100000 in
theorem w_X9_readPart_j99 {E : E0} (hE : EOK E) {X : X0} (C : XOK E X cX9_readPart RX9 4 (some .int) rm_X9_readPart) (hxn : xn X = (rm_X9_readPart.cells, rm_X9_readPart.slots)) (h0 : Nat) (l1 : Int32) (t0 : Option Nat) (t1 : Int32) (t2 : Int32) (t3 : Int32) (σ : Hp) (r : Int32) (σ1 : Hp) (h : s_X9_readPart_j99 h0 l1 t0 t1 t2 t3 σ = some (r, σ1)) (hx : xd X = (some (tI r), σ1)) : G E X 0 0 99 [(0, tR (some (h0))), (1, tI (l1))] [tI (t3), tI (t2), tI (t1), tR (t0)] σ := by
  unfold s_X9_readPart_j99 at h
  obtain ⟨a1, hqa1, h9⟩ := zbind h
  clear h
  subst hqa1
  have h := h9
  clear h9
  obtain ⟨u2, hvu2, h⟩ := zbind h
  obtain ⟨v4, σ3, hvσ3, h⟩ := zcb h
  refine g_callV (pc := 99) (av := [tI (t1), tI (t2), tI (t3)]) C (c_X9_leaf hE hvσ3) yv_X9_leaf ml_X9_342 ck_9 (zopt hvu2).1 rfl (rf_of (by decide)) rfl (Nat.le_of_ble_eq_true rfl) dX9_readPart_99 ?_
  refine g_aload_n (pc := 102) C 0 0 dX9_readPart_102 rfl rfl ?_
  obtain ⟨v5, hvv5, h⟩ := zbind h
  refine g_getI (N := 58) (pc := 103) C ck_9 hvv5 rfl rfl fl_X9_330 dX9_readPart_103 ?_
  refine g_if_eq (pc := 106) C 167 dX9_readPart_106 (by decide) (fun c13 => ?_) (fun c13 => ?_)
  · have h := zif_t c13 h
    refine g_iconst (v := 3) (pc := 167) C dX9_readPart_167 (by decide) ?_
    obtain ⟨rfl, rfl⟩ := zsome h
    exact g_iret (pc := 168) C rfl hx (by rw [hxn]; rfl) (by rw [hxn]; rfl) dX9_readPart_168
  · have h := zif_f c13 h
    refine g_iload_n (pc := 109) C 1 1 dX9_readPart_109 rfl rfl ?_
    refine g_bipush (v := 6) (pc := 110) C dX9_readPart_110 (by decide) ?_
    refine g_icmp_lt (pc := 112) C 167 dX9_readPart_112 (by decide) (fun c12 => ?_) (fun c12 => ?_)
    · have h := zif_t c12 h
      refine g_iconst (v := 3) (pc := 167) C dX9_readPart_167 (by decide) ?_
      obtain ⟨rfl, rfl⟩ := zsome h
      exact g_iret (pc := 168) C rfl hx (by rw [hxn]; rfl) (by rw [hxn]; rfl) dX9_readPart_168
    · have h := zif_f c12 h
      refine g_aload_n (pc := 115) C 0 0 dX9_readPart_115 rfl rfl ?_
      obtain ⟨v6, hvv6, h⟩ := zbind h
      refine g_getI (N := 58) (pc := 116) C ck_9 hvv6 rfl rfl fl_X9_254 dX9_readPart_116 ?_
      refine g_if_ne (pc := 119) C 167 dX9_readPart_119 (by decide) (fun c11 => ?_) (fun c11 => ?_)
      · have h := zif_f c11 h
        refine g_iconst (v := 3) (pc := 167) C dX9_readPart_167 (by decide) ?_
        obtain ⟨rfl, rfl⟩ := zsome h
        exact g_iret (pc := 168) C rfl hx (by rw [hxn]; rfl) (by rw [hxn]; rfl) dX9_readPart_168
      · have h := zif_t c11 h
        refine g_aload_n (pc := 122) C 0 0 dX9_readPart_122 rfl rfl ?_
        obtain ⟨v7, hvv7, h⟩ := zbind h
        refine g_getI (N := 58) (pc := 123) C ck_9 hvv7 rfl rfl fl_X9_291 dX9_readPart_123 ?_
        refine g_iconst (v := 1) (pc := 126) C dX9_readPart_126 (by decide) ?_
        refine g_isub (pc := 127) C dX9_readPart_127 ?_
        refine g_istore_n (lm' := [(3, tI (v7 - 1)), (0, tR (some (h0))), (1, tI (l1))]) (pc := 128) C 3 dX9_readPart_128 rfl (by decide) rfl ?_
        refine g_aload_n (pc := 129) C 0 1 dX9_readPart_129 rfl rfl ?_
        obtain ⟨r8, hvr8, h⟩ := zbind h
        refine g_getR (N := 58) (pc := 130) C ck_9 hvr8 rfl rfl fl_X9_48 dX9_readPart_130 ?_
        refine g_iload_n (pc := 133) C 3 0 dX9_readPart_133 rfl rfl ?_
        refine g_aload_n (pc := 134) C 0 1 dX9_readPart_134 rfl rfl ?_
        refine g_lconst (v := 0) (pc := 135) C dX9_readPart_135 (by decide) ?_
        refine g_iload_n (pc := 136) C 1 2 dX9_readPart_136 rfl rfl ?_
        refine g_bipush (v := 6) (pc := 137) C dX9_readPart_137 (by decide) ?_
        refine g_icmp_ne (pc := 139) C 148 dX9_readPart_139 (by decide) (fun c10 => ?_) (fun c10 => ?_)
        · have h := zif_f c10 h
          refine g_iload_n (pc := 148) C 1 2 dX9_readPart_148 rfl rfl ?_
          refine g_bipush (v := 7) (pc := 149) C dX9_readPart_149 (by decide) ?_
          refine g_icmp_ne (pc := 151) C 160 dX9_readPart_151 (by decide) (fun c9 => ?_) (fun c9 => ?_)
          · have h := zif_f c9 h
            refine g_ldc2 (v := 5) (pc := 160) C dX9_readPart_160 kl_X9_188 ?_
            refine g_sub [] (lm' := []) rfl ?_
            exact w_X9_readPart_j163 hE C hxn _ _ _ _ _ _ _ _ h hx
          · have h := zif_t c9 h
            refine g_ldc2 (v := 2) (pc := 154) C dX9_readPart_154 kl_X9_346 ?_
            refine g_goto (pc := 157) C 163 dX9_readPart_157 (by decide) ?_
            refine g_sub [] (lm' := []) rfl ?_
            exact w_X9_readPart_j163 hE C hxn _ _ _ _ _ _ _ _ h hx
        · have h := zif_t c10 h
          refine g_ldc2 (v := 3) (pc := 142) C dX9_readPart_142 kl_X9_203 ?_
          refine g_goto (pc := 145) C 163 dX9_readPart_145 (by decide) ?_
          refine g_sub [] (lm' := []) rfl ?_
          exact w_X9_readPart_j163 hE C hxn _ _ _ _ _ _ _ _ h hx
noncomputable def s_X9_readPart_j86 (h0 : Nat) (l1 : Int32) (l2 : Int32) (t0 : Option Nat) (t1 : Int32) (t2 : Int32) (σ : Hp) : Option (Int32 × Hp) :=
  if l2 = 0 then
    s_X9_readPart_j99 (h0) (l1) (t0) (t1) (t2) (0) σ
  else
    (rdJ 9 σ h0 17).bind fun v1 =>
    s_X9_readPart_j99 (h0) (l1) (t0) (t1) (t2) (Int64.toInt32 (v1 : Int64)) σ
set_option maxRecDepth 100000 in
theorem w_X9_readPart_j86 {E : E0} (hE : EOK E) {X : X0} (C : XOK E X cX9_readPart RX9 4 (some .int) rm_X9_readPart) (hxn : xn X = (rm_X9_readPart.cells, rm_X9_readPart.slots)) (h0 : Nat) (l1 : Int32) (l2 : Int32) (t0 : Option Nat) (t1 : Int32) (t2 : Int32) (σ : Hp) (r : Int32) (σ1 : Hp) (h : s_X9_readPart_j86 h0 l1 l2 t0 t1 t2 σ = some (r, σ1)) (hx : xd X = (some (tI r), σ1)) : G E X 0 0 86 [(0, tR (some (h0))), (1, tI (l1)), (2, tI (l2))] [tI (t2), tI (t1), tR (t0)] σ := by
  unfold s_X9_readPart_j86 at h
  refine g_iload_n (pc := 86) C 2 2 dX9_readPart_86 rfl rfl ?_
  refine g_if_eq (pc := 87) C 98 dX9_readPart_87 (by decide) (fun c2 => ?_) (fun c2 => ?_)
  · have h := zif_t c2 h
    refine g_iconst (v := 0) (pc := 98) C dX9_readPart_98 (by decide) ?_
    refine g_sub [0, 1] (lm' := [(0, tR (some (h0))), (1, tI (l1))]) rfl ?_
    exact w_X9_readPart_j99 hE C hxn _ _ _ _ _ _ _ _ _ h hx
  · have h := zif_f c2 h
    refine g_aload_n (pc := 90) C 0 0 dX9_readPart_90 rfl rfl ?_
    obtain ⟨v1, hvv1, h⟩ := zbind h
    refine g_getJ (N := 58) (pc := 91) C ck_9 hvv1 rfl rfl fl_X9_264 dX9_readPart_91 ?_
    refine g_l2i (pc := 94) C dX9_readPart_94 ?_
    refine g_goto (pc := 95) C 99 dX9_readPart_95 (by decide) ?_
    refine g_sub [0, 1] (lm' := [(0, tR (some (h0))), (1, tI (l1))]) rfl ?_
    exact w_X9_readPart_j99 hE C hxn _ _ _ _ _ _ _ _ _ h hx
noncomputable def s_X9_readPart_j76 (h0 : Nat) (l1 : Int32) (l2 : Int32) (t0 : Option Nat) (t1 : Int32) (σ : Hp) : Option (Int32 × Hp) :=
  if l1 = (-1) then
    s_X9_readPart_j86 (h0) (l1) (l2) (t0) (t1) (0) σ
  else
    s_X9_readPart_j86 (h0) (l1) (l2) (t0) (t1) (l1) σ
set_option maxRecDepth 100000 in
theorem w_X9_readPart_j76 {E : E0} (hE : EOK E) {X : X0} (C : XOK E X cX9_readPart RX9 4 (some .int) rm_X9_readPart) (hxn : xn X = (rm_X9_readPart.cells, rm_X9_readPart.slots)) (h0 : Nat) (l1 : Int32) (l2 : Int32) (t0 : Option Nat) (t1 : Int32) (σ : Hp) (r : Int32) (σ1 : Hp) (h : s_X9_readPart_j76 h0 l1 l2 t0 t1 σ = some (r, σ1)) (hx : xd X = (some (tI r), σ1)) : G E X 0 0 76 [(0, tR (some (h0))), (1, tI (l1)), (2, tI (l2))] [tI (t1), tR (t0)] σ := by
  unfold s_X9_readPart_j76 at h
  refine g_iload_n (pc := 76) C 1 1 dX9_readPart_76 rfl rfl ?_
  refine g_iconst (v := (-1)) (pc := 77) C dX9_readPart_77 (by decide) ?_
  refine g_icmp_ne (pc := 78) C 85 dX9_readPart_78 (by decide) (fun c1 => ?_) (fun c1 => ?_)
  · have h := zif_f c1 h
    refine g_iload_n (pc := 85) C 1 1 dX9_readPart_85 rfl rfl ?_
    exact w_X9_readPart_j86 hE C hxn _ _ _ _ _ _ _ _ _ h hx
  · have h := zif_t c1 h
    refine g_iconst (v := 0) (pc := 81) C dX9_readPart_81 (by decide) ?_
    refine g_goto (pc := 82) C 86 dX9_readPart_82 (by decide) ?_
    exact w_X9_readPart_j86 hE C hxn _ _ _ _ _ _ _ _ _ h hx
noncomputable def s_X9_readPart_j71 (h0 : Nat) (l1 : Int32) (l2 : Int32) (t0 : Option Nat) (σ : Hp) : Option (Int32 × Hp) :=
  s_X9_readPart_j76 (h0) (l1) (l2) (t0) (1) σ
set_option maxRecDepth 100000 in
theorem w_X9_readPart_j71 {E : E0} (hE : EOK E) {X : X0} (C : XOK E X cX9_readPart RX9 4 (some .int) rm_X9_readPart) (hxn : xn X = (rm_X9_readPart.cells, rm_X9_readPart.slots)) (h0 : Nat) (l1 : Int32) (l2 : Int32) (t0 : Option Nat) (σ : Hp) (r : Int32) (σ1 : Hp) (h : s_X9_readPart_j71 h0 l1 l2 t0 σ = some (r, σ1)) (hx : xd X = (some (tI r), σ1)) : G E X 0 0 71 [(0, tR (some (h0))), (1, tI (l1)), (2, tI (l2))] [tR (t0)] σ := by
  unfold s_X9_readPart_j71 at h
  refine g_iconst (v := 1) (pc := 71) C dX9_readPart_71 (by decide) ?_
  refine g_goto (pc := 72) C 76 dX9_readPart_72 (by decide) ?_
  exact w_X9_readPart_j76 hE C hxn _ _ _ _ _ _ _ _ h hx
noncomputable def s_X9_readPart_j60 (h0 : Nat) (l1 : Int32) (t0 : Int32) (σ : Hp) : Option (Int32 × Hp) :=
  if l1 = (-1) then
    if t0 = 0 then
      s_X9_readPart_j76 (h0) (l1) (t0) (some (h0)) (0) σ
    else
      s_X9_readPart_j71 (h0) (l1) (t0) (some (h0)) σ
  else
    s_X9_readPart_j71 (h0) (l1) (t0) (some (h0)) σ
set_option maxRecDepth 100000 in
theorem w_X9_readPart_j60 {E : E0} (hE : EOK E) {X : X0} (C : XOK E X cX9_readPart RX9 4 (some .int) rm_X9_readPart) (hxn : xn X = (rm_X9_readPart.cells, rm_X9_readPart.slots)) (h0 : Nat) (l1 : Int32) (t0 : Int32) (σ : Hp) (r : Int32) (σ1 : Hp) (h : s_X9_readPart_j60 h0 l1 t0 σ = some (r, σ1)) (hx : xd X = (some (tI r), σ1)) : G E X 0 0 60 [(0, tR (some (h0))), (1, tI (l1))] [tI (t0)] σ := by
  unfold s_X9_readPart_j60 at h
  refine g_istore_n (lm' := [(2, tI (t0)), (0, tR (some (h0))), (1, tI (l1))]) (pc := 60) C 2 dX9_readPart_60 rfl (by decide) rfl ?_
  refine g_aload_n (pc := 61) C 0 1 dX9_readPart_61 rfl rfl ?_
  refine g_iload_n (pc := 62) C 1 2 dX9_readPart_62 rfl rfl ?_
  refine g_iconst (v := (-1)) (pc := 63) C dX9_readPart_63 (by decide) ?_
  refine g_icmp_ne (pc := 64) C 71 dX9_readPart_64 (by decide) (fun c2 => ?_) (fun c2 => ?_)
  · have h := zif_f c2 h
    refine g_sub [1, 2, 0] (lm' := [(0, tR (some (h0))), (1, tI (l1)), (2, tI (t0))]) rfl ?_
    exact w_X9_readPart_j71 hE C hxn _ _ _ _ _ _ _ h hx
  · have h := zif_t c2 h
    refine g_iload_n (pc := 67) C 2 0 dX9_readPart_67 rfl rfl ?_
    refine g_if_eq (pc := 68) C 75 dX9_readPart_68 (by decide) (fun c1 => ?_) (fun c1 => ?_)
    · have h := zif_t c1 h
      refine g_iconst (v := 0) (pc := 75) C dX9_readPart_75 (by decide) ?_
      refine g_sub [1, 2, 0] (lm' := [(0, tR (some (h0))), (1, tI (l1)), (2, tI (t0))]) rfl ?_
      exact w_X9_readPart_j76 hE C hxn _ _ _ _ _ _ _ _ h hx
    · have h := zif_f c1 h
      refine g_sub [1, 2, 0] (lm' := [(0, tR (some (h0))), (1, tI (l1)), (2, tI (t0))]) rfl ?_
      exact w_X9_readPart_j71 hE C hxn _ _ _ _ _ _ _ h hx
noncomputable def s_X9_readPart_j59 (h0 : Nat) (l1 : Int32) (σ : Hp) : Option (Int32 × Hp) :=
  s_X9_readPart_j60 (h0) (l1) (0) σ
set_option maxRecDepth 100000 in
theorem w_X9_readPart_j59 {E : E0} (hE : EOK E) {X : X0} (C : XOK E X cX9_readPart RX9 4 (some .int) rm_X9_readPart) (hxn : xn X = (rm_X9_readPart.cells, rm_X9_readPart.slots)) (h0 : Nat) (l1 : Int32) (σ : Hp) (r : Int32) (σ1 : Hp) (h : s_X9_readPart_j59 h0 l1 σ = some (r, σ1)) (hx : xd X = (some (tI r), σ1)) : G E X 0 0 59 [(0, tR (some (h0))), (1, tI (l1))] [] σ := by
  unfold s_X9_readPart_j59 at h
  refine g_iconst (v := 0) (pc := 59) C dX9_readPart_59 (by decide) ?_
  exact w_X9_readPart_j60 hE C hxn _ _ _ _ _ _ h hx
noncomputable def s_X9_readPart_j35 (h0 : Nat) (t0 : Int32) (σ : Hp) : Option (Int32 × Hp) :=
  (rdI 9 σ h0 16).bind fun v1 =>
  if v1 = 2 then
    (rdJ 9 σ h0 17).bind fun v2 =>
    if 0 < (lg_cmp (v2 : Int64) (1000 : Int64)) then
      s_X9_readPart_j59 (h0) (t0) σ
    else
      s_X9_readPart_j60 (h0) (t0) (1) σ
  else
    s_X9_readPart_j59 (h0) (t0) σ
set_option maxRecDepth 100000 in
theorem w_X9_readPart_j35 {E : E0} (hE : EOK E) {X : X0} (C : XOK E X cX9_readPart RX9 4 (some .int) rm_X9_readPart) (hxn : xn X = (rm_X9_readPart.cells, rm_X9_readPart.slots)) (h0 : Nat) (t0 : Int32) (σ : Hp) (r : Int32) (σ1 : Hp) (h : s_X9_readPart_j35 h0 t0 σ = some (r, σ1)) (hx : xd X = (some (tI r), σ1)) : G E X 0 0 35 [(0, tR (some (h0)))] [tI (t0)] σ := by
  unfold s_X9_readPart_j35 at h
  refine g_istore_n (lm' := [(1, tI (t0)), (0, tR (some (h0)))]) (pc := 35) C 1 dX9_readPart_35 rfl (by decide) rfl ?_
  refine g_aload_n (pc := 36) C 0 1 dX9_readPart_36 rfl rfl ?_
  obtain ⟨v1, hvv1, h⟩ := zbind h
  refine g_getI (N := 58) (pc := 37) C ck_9 hvv1 rfl rfl fl_X9_274 dX9_readPart_37 ?_
  refine g_iconst (v := 2) (pc := 40) C dX9_readPart_40 (by decide) ?_
  refine g_icmp_ne (pc := 41) C 59 dX9_readPart_41 (by decide) (fun c4 => ?_) (fun c4 => ?_)
  · have h := zif_f c4 h
    refine g_sub [1, 0] (lm' := [(0, tR (some (h0))), (1, tI (t0))]) rfl ?_
    exact w_X9_readPart_j59 hE C hxn _ _ _ _ _ h hx
  · have h := zif_t c4 h
    refine g_aload_n (pc := 44) C 0 1 dX9_readPart_44 rfl rfl ?_
    obtain ⟨v2, hvv2, h⟩ := zbind h
    refine g_getJ (N := 58) (pc := 45) C ck_9 hvv2 rfl rfl fl_X9_264 dX9_readPart_45 ?_
    refine g_ldc2 (v := 1000) (pc := 48) C dX9_readPart_48 kl_X9_340 ?_
    refine g_lcmp (pc := 51) C dX9_readPart_51 ?_
    refine g_if_gt (pc := 52) C 59 dX9_readPart_52 (by decide) (fun c3 => ?_) (fun c3 => ?_)
    · have h := zif_t c3 h
      refine g_sub [1, 0] (lm' := [(0, tR (some (h0))), (1, tI (t0))]) rfl ?_
      exact w_X9_readPart_j59 hE C hxn _ _ _ _ _ h hx
    · have h := zif_f c3 h
      refine g_iconst (v := 1) (pc := 55) C dX9_readPart_55 (by decide) ?_
      refine g_goto (pc := 56) C 60 dX9_readPart_56 (by decide) ?_
      refine g_sub [1, 0] (lm' := [(0, tR (some (h0))), (1, tI (t0))]) rfl ?_
      exact w_X9_readPart_j60 hE C hxn _ _ _ _ _ _ h hx
noncomputable def s_X9_readPart (h0 : Nat) (σ : Hp) : Option (Int32 × Hp) :=
  (ck 9 σ h0).bind fun u1 =>
  cb (s_X9_isSign h0 (91) σ) fun v3 σ2 =>
  if v3 = 0 then
    (rdI 9 σ2 h0 20).bind fun v4 =>
    if v4 = 0 then
      (ck 9 σ2 h0).bind fun u5 =>
      cb (s_X9_partAt h0 σ2) fun v7 σ6 =>
      s_X9_readPart_j35 (h0) (v7) σ6
    else
      (ck 9 σ2 h0).bind fun u8 =>
      cb (s_X9_orderPartAt h0 σ2) fun v10 σ9 =>
      s_X9_readPart_j35 (h0) (v10) σ9
  else
    (ck 9 σ2 h0).bind fun u12 =>
    cb (s_X9_openBracket h0 (32) σ2) fun v14 σ13 =>
    some ((1), σ13)
set_option maxRecDepth 100000 in
theorem c_X9_readPart {E : E0} (hE : EOK E) {h0 : Nat} {σ σ1 : Hp} {r : Int32} (h : s_X9_readPart h0 σ = some (r, σ1)) : CT E yX9_readPart (.code yX9_readPart cX9_readPart 4 (some .int)) rm_X9_readPart [tR (some (h0))] σ (some (tI r)) σ1 := by
  refine CT.mk hE (by decide +kernel) (Nat.le_of_ble_eq_true rfl) [(0, tR (some (h0)))] rfl (fun X C hin hx hxn => ?_)
  have C : XOK E X cX9_readPart RX9 4 (some .int) rm_X9_readPart := C
  unfold s_X9_readPart at h
  refine g_aload_n (pc := 0) C 0 0 dX9_readPart_0 rfl rfl ?_
  refine g_bipush (v := 91) (pc := 1) C dX9_readPart_1 (by decide) ?_
  obtain ⟨u1, hvu1, h⟩ := zbind h
  obtain ⟨v3, σ2, hvσ2, h⟩ := zcb h
  refine g_callV (pc := 3) (av := [tI (91)]) C (c_X9_isSign hE hvσ2) yv_X9_isSign ml_X9_324 ck_9 (zopt hvu1).1 rfl (rf_of (by decide)) rfl (Nat.le_of_ble_eq_true rfl) dX9_readPart_3 ?_
  refine g_if_eq (pc := 6) C 17 dX9_readPart_6 (by decide) (fun c15 => ?_) (fun c15 => ?_)
  · have h := zif_t c15 h
    refine g_aload_n (pc := 17) C 0 0 dX9_readPart_17 rfl rfl ?_
    obtain ⟨v4, hvv4, h⟩ := zbind h
    refine g_getI (N := 58) (pc := 18) C ck_9 hvv4 rfl rfl fl_X9_330 dX9_readPart_18 ?_
    refine g_if_eq (pc := 21) C 31 dX9_readPart_21 (by decide) (fun c11 => ?_) (fun c11 => ?_)
    · have h := zif_t c11 h
      refine g_aload_n (pc := 31) C 0 0 dX9_readPart_31 rfl rfl ?_
      obtain ⟨u5, hvu5, h⟩ := zbind h
      obtain ⟨v7, σ6, hvσ6, h⟩ := zcb h
      refine g_callV (pc := 32) (av := []) C (c_X9_partAt hE hvσ6) yv_X9_partAt ml_X9_337 ck_9 (zopt hvu5).1 rfl (rf_of (by decide)) rfl (Nat.le_of_ble_eq_true rfl) dX9_readPart_32 ?_
      exact w_X9_readPart_j35 hE C hxn _ _ _ _ _ h hx
    · have h := zif_f c11 h
      refine g_aload_n (pc := 24) C 0 0 dX9_readPart_24 rfl rfl ?_
      obtain ⟨u8, hvu8, h⟩ := zbind h
      obtain ⟨v10, σ9, hvσ9, h⟩ := zcb h
      refine g_callV (pc := 25) (av := []) C (c_X9_orderPartAt hE hvσ9) yv_X9_orderPartAt ml_X9_333 ck_9 (zopt hvu8).1 rfl (rf_of (by decide)) rfl (Nat.le_of_ble_eq_true rfl) dX9_readPart_25 ?_
      refine g_goto (pc := 28) C 35 dX9_readPart_28 (by decide) ?_
      exact w_X9_readPart_j35 hE C hxn _ _ _ _ _ h hx
  · have h := zif_f c15 h
    refine g_aload_n (pc := 9) C 0 0 dX9_readPart_9 rfl rfl ?_
    refine g_bipush (v := 32) (pc := 10) C dX9_readPart_10 (by decide) ?_
    obtain ⟨u12, hvu12, h⟩ := zbind h
    obtain ⟨v14, σ13, hvσ13, h⟩ := zcb h
    refine g_callV (pc := 12) (av := [tI (32)]) C (c_X9_openBracket hE hvσ13) yv_X9_openBracket ml_X9_327 ck_9 (zopt hvu12).1 rfl (rf_of (by decide)) rfl (Nat.le_of_ble_eq_true rfl) dX9_readPart_12 ?_
    refine g_iconst (v := 1) (pc := 15) C dX9_readPart_15 (by decide) ?_
    obtain ⟨rfl, rfl⟩ := zsome h
    exact g_iret (pc := 16) C rfl hx (by rw [hxn]; rfl) (by rw [hxn]; rfl) dX9_readPart_16
def rm_X9_readPlain : Room := { frames := 5, cells := 0, slots := 0, locals := 109 }
noncomputable def s_X9_readPlain (h0 : Nat) (σ : Hp) : Option (Int32 × Hp) :=
  (ck 9 σ h0).bind fun u1 =>
  cb (s_X9_isWord h0 (14836) σ) fun v3 σ2 =>
  if v3 = 0 then
    (ck 9 σ2 h0).bind fun u4 =>
    cb (s_X9_isSign h0 (40) σ2) fun v6 σ5 =>
    if v6 = 0 then
      (ck 9 σ5 h0).bind fun u7 =>
      cb (s_X9_readPart h0 σ5) fun v9 σ8 =>
      some ((v9), σ8)
    else
      (ck 9 σ5 h0).bind fun u10 =>
      cb (s_X9_openBracket h0 (31) σ5) fun v12 σ11 =>
      some ((0), σ11)
  else
    (ck 9 σ2 h0).bind fun u14 =>
    cb (s_X9_push h0 (28) (0) σ2) fun v16 σ15 =>
    (ck 9 σ15 h0).bind fun u17 =>
    cb (s_X9_next h0 σ15) fun v19 σ18 =>
    some ((0), σ18)
set_option maxRecDepth 100000 in
theorem c_X9_readPlain {E : E0} (hE : EOK E) {h0 : Nat} {σ σ1 : Hp} {r : Int32} (h : s_X9_readPlain h0 σ = some (r, σ1)) : CT E yX9_readPlain (.code yX9_readPlain cX9_readPlain 1 (some .int)) rm_X9_readPlain [tR (some (h0))] σ (some (tI r)) σ1 := by
  refine CT.mk hE (by decide +kernel) (Nat.le_of_ble_eq_true rfl) [(0, tR (some (h0)))] rfl (fun X C hin hx hxn => ?_)
  have C : XOK E X cX9_readPlain RX9 1 (some .int) rm_X9_readPlain := C
  unfold s_X9_readPlain at h
  refine g_aload_n (pc := 0) C 0 0 dX9_readPlain_0 rfl rfl ?_
  refine g_ldc2 (v := 14836) (pc := 1) C dX9_readPlain_1 kl_X9_352 ?_
  obtain ⟨u1, hvu1, h⟩ := zbind h
  obtain ⟨v3, σ2, hvσ2, h⟩ := zcb h
  refine g_callV (pc := 4) (av := [tJ (14836)]) C (c_X9_isWord hE hvσ2) yv_X9_isWord ml_X9_312 ck_9 (zopt hvu1).1 rfl (rf_of (by decide)) rfl (Nat.le_of_ble_eq_true rfl) dX9_readPlain_4 ?_
  refine g_if_eq (pc := 7) C 23 dX9_readPlain_7 (by decide) (fun c20 => ?_) (fun c20 => ?_)
  · have h := zif_t c20 h
    refine g_aload_n (pc := 23) C 0 0 dX9_readPlain_23 rfl rfl ?_
    refine g_bipush (v := 40) (pc := 24) C dX9_readPlain_24 (by decide) ?_
    obtain ⟨u4, hvu4, h⟩ := zbind h
    obtain ⟨v6, σ5, hvσ5, h⟩ := zcb h
    refine g_callV (pc := 26) (av := [tI (40)]) C (c_X9_isSign hE hvσ5) yv_X9_isSign ml_X9_324 ck_9 (zopt hvu4).1 rfl (rf_of (by decide)) rfl (Nat.le_of_ble_eq_true rfl) dX9_readPlain_26 ?_
    refine g_if_eq (pc := 29) C 40 dX9_readPlain_29 (by decide) (fun c13 => ?_) (fun c13 => ?_)
    · have h := zif_t c13 h
      refine g_aload_n (pc := 40) C 0 0 dX9_readPlain_40 rfl rfl ?_
      obtain ⟨u7, hvu7, h⟩ := zbind h
      obtain ⟨v9, σ8, hvσ8, h⟩ := zcb h
      refine g_callV (pc := 41) (av := []) C (c_X9_readPart hE hvσ8) yv_X9_readPart ml_X9_354 ck_9 (zopt hvu7).1 rfl (rf_of (by decide)) rfl (Nat.le_of_ble_eq_true rfl) dX9_readPlain_41 ?_
      obtain ⟨rfl, rfl⟩ := zsome h
      exact g_iret (pc := 44) C rfl hx (by rw [hxn]; rfl) (by rw [hxn]; rfl) dX9_readPlain_44
    · have h := zif_f c13 h
      refine g_aload_n (pc := 32) C 0 0 dX9_readPlain_32 rfl rfl ?_
      refine g_bipush (v := 31) (pc := 33) C dX9_readPlain_33 (by decide) ?_
      obtain ⟨u10, hvu10, h⟩ := zbind h
      obtain ⟨v12, σ11, hvσ11, h⟩ := zcb h
      refine g_callV (pc := 35) (av := [tI (31)]) C (c_X9_openBracket hE hvσ11) yv_X9_openBracket ml_X9_327 ck_9 (zopt hvu10).1 rfl (rf_of (by decide)) rfl (Nat.le_of_ble_eq_true rfl) dX9_readPlain_35 ?_
      refine g_iconst (v := 0) (pc := 38) C dX9_readPlain_38 (by decide) ?_
      obtain ⟨rfl, rfl⟩ := zsome h
      exact g_iret (pc := 39) C rfl hx (by rw [hxn]; rfl) (by rw [hxn]; rfl) dX9_readPlain_39
  · have h := zif_f c20 h
    refine g_aload_n (pc := 10) C 0 0 dX9_readPlain_10 rfl rfl ?_
    refine g_bipush (v := 28) (pc := 11) C dX9_readPlain_11 (by decide) ?_
    refine g_iconst (v := 0) (pc := 13) C dX9_readPlain_13 (by decide) ?_
    obtain ⟨u14, hvu14, h⟩ := zbind h
    obtain ⟨v16, σ15, hvσ15, h⟩ := zcb h
    refine g_callV (pc := 14) (av := [tI (28), tI (0)]) C (c_X9_push hE hvσ15) yv_X9_push ml_X9_318 ck_9 (zopt hvu14).1 rfl (rf_of (by decide)) rfl (Nat.le_of_ble_eq_true rfl) dX9_readPlain_14 ?_
    refine g_aload_n (pc := 17) C 0 0 dX9_readPlain_17 rfl rfl ?_
    obtain ⟨u17, hvu17, h⟩ := zbind h
    obtain ⟨v19, σ18, hvσ18, h⟩ := zcb h
    refine g_callV (pc := 18) (av := []) C (c_X9_next hE hvσ18) yv_X9_next ml_X9_258 ck_9 (zopt hvu17).1 rfl (rf_of (by decide)) rfl (Nat.le_of_ble_eq_true rfl) dX9_readPlain_18 ?_
    refine g_iconst (v := 0) (pc := 21) C dX9_readPlain_21 (by decide) ?_
    obtain ⟨rfl, rfl⟩ := zsome h
    exact g_iret (pc := 22) C rfl hx (by rw [hxn]; rfl) (by rw [hxn]; rfl) dX9_readPlain_22
def rm_X9_behindSum : Room := { frames := 3, cells := 0, slots := 0, locals := 61 }
noncomputable def s_X9_behindSum_j224 (h0 : Nat) (l2 : Int32) (t0 : Option Nat) (t1 : Int32) (σ : Hp) : Option (Int32 × Hp) :=
  (t0).bind fun a1 =>
  (ck 9 σ a1).bind fun u2 =>
  cb (s_X9_must a1 (t1) σ) fun v4 σ3 =>
  (rdI 9 σ3 h0 19).bind fun v5 =>
  if v5 = 0 then
    (ck 9 σ3 h0).bind fun u6 =>
    cb (s_X9_settle h0 (5) σ3) fun v8 σ7 =>
    (ck 9 σ7 h0).bind fun u9 =>
    cb (s_X9_push h0 (l2) (0) σ7) fun v11 σ10 =>
    some ((1), σ10)
  else
    some ((1), σ3)
set_option maxRecDepth 100000 in
theorem w_X9_behindSum_j224 {E : E0} (hE : EOK E) {X : X0} (C : XOK E X cX9_behindSum RX9 4 (some .int) rm_X9_behindSum) (hxn : xn X = (rm_X9_behindSum.cells, rm_X9_behindSum.slots)) (h0 : Nat) (l2 : Int32) (t0 : Option Nat) (t1 : Int32) (σ : Hp) (r : Int32) (σ1 : Hp) (h : s_X9_behindSum_j224 h0 l2 t0 t1 σ = some (r, σ1)) (hx : xd X = (some (tI r), σ1)) : G E X 0 0 224 [(0, tR (some (h0))), (2, tI (l2))] [tI (t1), tR (t0)] σ := by
  unfold s_X9_behindSum_j224 at h
  obtain ⟨a1, hqa1, h9⟩ := zbind h
  clear h
  subst hqa1
  have h := h9
  clear h9
  obtain ⟨u2, hvu2, h⟩ := zbind h
  obtain ⟨v4, σ3, hvσ3, h⟩ := zcb h
  refine g_callV (pc := 224) (av := [tI (t1)]) C (c_X9_must hE hvσ3) yv_X9_must ml_X9_287 ck_9 (zopt hvu2).1 rfl (rf_of (by decide)) rfl (Nat.le_of_ble_eq_true rfl) dX9_behindSum_224 ?_
  refine g_aload_n (pc := 227) C 0 0 dX9_behindSum_227 rfl rfl ?_
  obtain ⟨v5, hvv5, h⟩ := zbind h
  refine g_getI (N := 58) (pc := 228) C ck_9 hvv5 rfl rfl fl_X9_254 dX9_behindSum_228 ?_
  refine g_if_ne (pc := 231) C 245 dX9_behindSum_231 (by decide) (fun c12 => ?_) (fun c12 => ?_)
  · have h := zif_f c12 h
    refine g_iconst (v := 1) (pc := 245) C dX9_behindSum_245 (by decide) ?_
    obtain ⟨rfl, rfl⟩ := zsome h
    exact g_iret (pc := 246) C rfl hx (by rw [hxn]; rfl) (by rw [hxn]; rfl) dX9_behindSum_246
  · have h := zif_t c12 h
    refine g_aload_n (pc := 234) C 0 0 dX9_behindSum_234 rfl rfl ?_
    refine g_iconst (v := 5) (pc := 235) C dX9_behindSum_235 (by decide) ?_
    obtain ⟨u6, hvu6, h⟩ := zbind h
    obtain ⟨v8, σ7, hvσ7, h⟩ := zcb h
    refine g_callV (pc := 236) (av := [tI (5)]) C (c_X9_settle hE hvσ7) yv_X9_settle ml_X9_357 ck_9 (zopt hvu6).1 rfl (rf_of (by decide)) rfl (Nat.le_of_ble_eq_true rfl) dX9_behindSum_236 ?_
    refine g_aload_n (pc := 239) C 0 0 dX9_behindSum_239 rfl rfl ?_
    refine g_iload_n (pc := 240) C 2 1 dX9_behindSum_240 rfl rfl ?_
    refine g_iconst (v := 0) (pc := 241) C dX9_behindSum_241 (by decide) ?_
    obtain ⟨u9, hvu9, h⟩ := zbind h
    obtain ⟨v11, σ10, hvσ10, h⟩ := zcb h
    refine g_callV (pc := 242) (av := [tI (l2), tI (0)]) C (c_X9_push hE hvσ10) yv_X9_push ml_X9_318 ck_9 (zopt hvu9).1 rfl (rf_of (by decide)) rfl (Nat.le_of_ble_eq_true rfl) dX9_behindSum_242 ?_
    refine g_iconst (v := 1) (pc := 245) C dX9_behindSum_245 (by decide) ?_
    obtain ⟨rfl, rfl⟩ := zsome h
    exact g_iret (pc := 246) C rfl hx (by rw [hxn]; rfl) (by rw [hxn]; rfl) dX9_behindSum_246
noncomputable def s_X9_behindSum_j219 (h0 : Nat) (l2 : Int32) (t0 : Option Nat) (σ : Hp) : Option (Int32 × Hp) :=
  s_X9_behindSum_j224 (h0) (l2) (t0) (1) σ
set_option maxRecDepth 100000 in
theorem w_X9_behindSum_j219 {E : E0} (hE : EOK E) {X : X0} (C : XOK E X cX9_behindSum RX9 4 (some .int) rm_X9_behindSum) (hxn : xn X = (rm_X9_behindSum.cells, rm_X9_behindSum.slots)) (h0 : Nat) (l2 : Int32) (t0 : Option Nat) (σ : Hp) (r : Int32) (σ1 : Hp) (h : s_X9_behindSum_j219 h0 l2 t0 σ = some (r, σ1)) (hx : xd X = (some (tI r), σ1)) : G E X 0 0 219 [(0, tR (some (h0))), (2, tI (l2))] [tR (t0)] σ := by
  unfold s_X9_behindSum_j219 at h
  refine g_iconst (v := 1) (pc := 219) C dX9_behindSum_219 (by decide) ?_
  refine g_goto (pc := 220) C 224 dX9_behindSum_220 (by decide) ?_
  exact w_X9_behindSum_j224 hE C hxn _ _ _ _ _ _ _ h hx
noncomputable def s_X9_behindSum_j202 (h0 : Nat) (t0 : Int32) (σ : Hp) : Option (Int32 × Hp) :=
  if t0 = 27 then
    (ck 9 σ h0).bind fun u1 =>
    cb (s_X9_isSign h0 (61) σ) fun v3 σ2 =>
    if v3 = 0 then
      s_X9_behindSum_j224 (h0) (t0) (some (h0)) (0) σ2
    else
      s_X9_behindSum_j219 (h0) (t0) (some (h0)) σ2
  else
    s_X9_behindSum_j219 (h0) (t0) (some (h0)) σ
set_option maxRecDepth 100000 in
theorem w_X9_behindSum_j202 {E : E0} (hE : EOK E) {X : X0} (C : XOK E X cX9_behindSum RX9 4 (some .int) rm_X9_behindSum) (hxn : xn X = (rm_X9_behindSum.cells, rm_X9_behindSum.slots)) (h0 : Nat) (t0 : Int32) (σ : Hp) (r : Int32) (σ1 : Hp) (h : s_X9_behindSum_j202 h0 t0 σ = some (r, σ1)) (hx : xd X = (some (tI r), σ1)) : G E X 0 0 202 [(0, tR (some (h0)))] [tI (t0)] σ := by
  unfold s_X9_behindSum_j202 at h
  refine g_istore_n (lm' := [(2, tI (t0)), (0, tR (some (h0)))]) (pc := 202) C 2 dX9_behindSum_202 rfl (by decide) rfl ?_
  refine g_aload_n (pc := 203) C 0 1 dX9_behindSum_203 rfl rfl ?_
  refine g_iload_n (pc := 204) C 2 0 dX9_behindSum_204 rfl rfl ?_
  refine g_bipush (v := 27) (pc := 205) C dX9_behindSum_205 (by decide) ?_
  refine g_icmp_ne (pc := 207) C 219 dX9_behindSum_207 (by decide) (fun c5 => ?_) (fun c5 => ?_)
  · have h := zif_f c5 h
    refine g_sub [1, 0] (lm' := [(0, tR (some (h0))), (2, tI (t0))]) rfl ?_
    exact w_X9_behindSum_j219 hE C hxn _ _ _ _ _ _ h hx
  · have h := zif_t c5 h
    refine g_aload_n (pc := 210) C 0 1 dX9_behindSum_210 rfl rfl ?_
    refine g_bipush (v := 61) (pc := 211) C dX9_behindSum_211 (by decide) ?_
    obtain ⟨u1, hvu1, h⟩ := zbind h
    obtain ⟨v3, σ2, hvσ2, h⟩ := zcb h
    refine g_callV (pc := 213) (av := [tI (61)]) C (c_X9_isSign hE hvσ2) yv_X9_isSign ml_X9_324 ck_9 (zopt hvu1).1 rfl (rf_of (by decide)) rfl (Nat.le_of_ble_eq_true rfl) dX9_behindSum_213 ?_
    refine g_if_eq (pc := 216) C 223 dX9_behindSum_216 (by decide) (fun c4 => ?_) (fun c4 => ?_)
    · have h := zif_t c4 h
      refine g_iconst (v := 0) (pc := 223) C dX9_behindSum_223 (by decide) ?_
      refine g_sub [1, 0] (lm' := [(0, tR (some (h0))), (2, tI (t0))]) rfl ?_
      exact w_X9_behindSum_j224 hE C hxn _ _ _ _ _ _ _ h hx
    · have h := zif_f c4 h
      refine g_sub [1, 0] (lm' := [(0, tR (some (h0))), (2, tI (t0))]) rfl ?_
      exact w_X9_behindSum_j219 hE C hxn _ _ _ _ _ _ h hx
noncomputable def s_X9_behindSum_j163 (h0 : Nat) (σ : Hp) : Option (Int32 × Hp) :=
  (ck 9 σ h0).bind fun u1 =>
  cb (s_X9_isCompared h0 σ) fun v3 σ2 =>
  if v3 = 0 then
    (ck 9 σ2 h0).bind fun u4 =>
    cb (s_X9_isSign h0 (60) σ2) fun v6 σ5 =>
    if v6 = 0 then
      (ck 9 σ5 h0).bind fun u7 =>
      cb (s_X9_isSign h0 (62) σ5) fun v9 σ8 =>
      if v9 = 0 then
        s_X9_behindSum_j202 (h0) (27) σ8
      else
        s_X9_behindSum_j202 (h0) (26) σ8
    else
      s_X9_behindSum_j202 (h0) (25) σ5
  else
    some ((2), σ2)
set_option maxRecDepth 100000 in
theorem w_X9_behindSum_j163 {E : E0} (hE : EOK E) {X : X0} (C : XOK E X cX9_behindSum RX9 4 (some .int) rm_X9_behindSum) (hxn : xn X = (rm_X9_behindSum.cells, rm_X9_behindSum.slots)) (h0 : Nat) (σ : Hp) (r : Int32) (σ1 : Hp) (h : s_X9_behindSum_j163 h0 σ = some (r, σ1)) (hx : xd X = (some (tI r), σ1)) : G E X 0 0 163 [(0, tR (some (h0)))] [] σ := by
  unfold s_X9_behindSum_j163 at h
  refine g_aload_n (pc := 163) C 0 0 dX9_behindSum_163 rfl rfl ?_
  obtain ⟨u1, hvu1, h⟩ := zbind h
  obtain ⟨v3, σ2, hvσ2, h⟩ := zcb h
  refine g_callV (pc := 164) (av := []) C (c_X9_isCompared hE hvσ2) yv_X9_isCompared ml_X9_363 ck_9 (zopt hvu1).1 rfl (rf_of (by decide)) rfl (Nat.le_of_ble_eq_true rfl) dX9_behindSum_164 ?_
  refine g_if_eq (pc := 167) C 172 dX9_behindSum_167 (by decide) (fun c12 => ?_) (fun c12 => ?_)
  · have h := zif_t c12 h
    refine g_aload_n (pc := 172) C 0 0 dX9_behindSum_172 rfl rfl ?_
    refine g_bipush (v := 60) (pc := 173) C dX9_behindSum_173 (by decide) ?_
    obtain ⟨u4, hvu4, h⟩ := zbind h
    obtain ⟨v6, σ5, hvσ5, h⟩ := zcb h
    refine g_callV (pc := 175) (av := [tI (60)]) C (c_X9_isSign hE hvσ5) yv_X9_isSign ml_X9_324 ck_9 (zopt hvu4).1 rfl (rf_of (by decide)) rfl (Nat.le_of_ble_eq_true rfl) dX9_behindSum_175 ?_
    refine g_if_eq (pc := 178) C 186 dX9_behindSum_178 (by decide) (fun c11 => ?_) (fun c11 => ?_)
    · have h := zif_t c11 h
      refine g_aload_n (pc := 186) C 0 0 dX9_behindSum_186 rfl rfl ?_
      refine g_bipush (v := 62) (pc := 187) C dX9_behindSum_187 (by decide) ?_
      obtain ⟨u7, hvu7, h⟩ := zbind h
      obtain ⟨v9, σ8, hvσ8, h⟩ := zcb h
      refine g_callV (pc := 189) (av := [tI (62)]) C (c_X9_isSign hE hvσ8) yv_X9_isSign ml_X9_324 ck_9 (zopt hvu7).1 rfl (rf_of (by decide)) rfl (Nat.le_of_ble_eq_true rfl) dX9_behindSum_189 ?_
      refine g_if_eq (pc := 192) C 200 dX9_behindSum_192 (by decide) (fun c10 => ?_) (fun c10 => ?_)
      · have h := zif_t c10 h
        refine g_bipush (v := 27) (pc := 200) C dX9_behindSum_200 (by decide) ?_
        exact w_X9_behindSum_j202 hE C hxn _ _ _ _ _ h hx
      · have h := zif_f c10 h
        refine g_bipush (v := 26) (pc := 195) C dX9_behindSum_195 (by decide) ?_
        refine g_goto (pc := 197) C 202 dX9_behindSum_197 (by decide) ?_
        exact w_X9_behindSum_j202 hE C hxn _ _ _ _ _ h hx
    · have h := zif_f c11 h
      refine g_bipush (v := 25) (pc := 181) C dX9_behindSum_181 (by decide) ?_
      refine g_goto (pc := 183) C 202 dX9_behindSum_183 (by decide) ?_
      exact w_X9_behindSum_j202 hE C hxn _ _ _ _ _ h hx
  · have h := zif_f c12 h
    refine g_iconst (v := 2) (pc := 170) C dX9_behindSum_170 (by decide) ?_
    obtain ⟨rfl, rfl⟩ := zsome h
    exact g_iret (pc := 171) C rfl hx (by rw [hxn]; rfl) (by rw [hxn]; rfl) dX9_behindSum_171
noncomputable def s_X9_behindSum_j71 (h0 : Nat) (l1 : Int32) (t0 : Int32) (σ : Hp) : Option (Int32 × Hp) :=
  if t0 = (-1) then
    (ck 9 σ h0).bind fun u1 =>
    cb (s_X9_inner h0 σ) fun v3 σ2 =>
    if v3 = 32 then
      (ck 9 σ2 h0).bind fun u6 =>
      cb (s_X9_isSign h0 (93) σ2) fun v8 σ7 =>
      (ck 9 σ7 h0).bind fun u9 =>
      cb (s_X9_must h0 (v8) σ7) fun v11 σ10 =>
      (rdI 9 σ10 h0 19).bind fun v12 =>
      if v12 = 0 then
        (ck 9 σ10 h0).bind fun u13 =>
        cb (s_X9_settle h0 (5) σ10) fun v15 σ14 =>
        (rdI 9 σ14 h0 29).bind fun v16 =>
        (wrI 9 σ14 h0 29 (v16 - 1)).bind fun σ17 =>
        (rdI 9 σ17 h0 30).bind fun v18 =>
        (wrI 9 σ17 h0 30 (v18 - 1)).bind fun σ19 =>
        some ((3), σ19)
      else
        some ((3), σ10)
    else
      if v3 = (-1) then
        if l1 = 0 then
          some ((4), σ2)
        else
          s_X9_behindSum_j163 (h0) σ2
      else
        s_X9_behindSum_j163 (h0) σ2
  else
    cb (s_X9_binds (t0) σ) fun v23 σ22 =>
    (ck 9 σ22 h0).bind fun u24 =>
    cb (s_X9_settle h0 (v23) σ22) fun v26 σ25 =>
    (ck 9 σ25 h0).bind fun u27 =>
    cb (s_X9_push h0 (t0) (0) σ25) fun v29 σ28 =>
    (ck 9 σ28 h0).bind fun u30 =>
    cb (s_X9_next h0 σ28) fun v32 σ31 =>
    some ((1), σ31)
set_option maxRecDepth 100000 in
theorem w_X9_behindSum_j71 {E : E0} (hE : EOK E) {X : X0} (C : XOK E X cX9_behindSum RX9 4 (some .int) rm_X9_behindSum) (hxn : xn X = (rm_X9_behindSum.cells, rm_X9_behindSum.slots)) (h0 : Nat) (l1 : Int32) (t0 : Int32) (σ : Hp) (r : Int32) (σ1 : Hp) (h : s_X9_behindSum_j71 h0 l1 t0 σ = some (r, σ1)) (hx : xd X = (some (tI r), σ1)) : G E X 0 0 71 [(0, tR (some (h0))), (1, tI (l1))] [tI (t0)] σ := by
  unfold s_X9_behindSum_j71 at h
  refine g_istore_n (lm' := [(2, tI (t0)), (0, tR (some (h0))), (1, tI (l1))]) (pc := 71) C 2 dX9_behindSum_71 rfl (by decide) rfl ?_
  refine g_iload_n (pc := 72) C 2 0 dX9_behindSum_72 rfl rfl ?_
  refine g_iconst (v := (-1)) (pc := 73) C dX9_behindSum_73 (by decide) ?_
  refine g_icmp_eq (pc := 74) C 97 dX9_behindSum_74 (by decide) (fun c33 => ?_) (fun c33 => ?_)
  · have h := zif_t c33 h
    refine g_aload_n (pc := 97) C 0 1 dX9_behindSum_97 rfl rfl ?_
    obtain ⟨u1, hvu1, h⟩ := zbind h
    obtain ⟨v3, σ2, hvσ2, h⟩ := zcb h
    refine g_callV (pc := 98) (av := []) C (c_X9_inner hE hvσ2) yv_X9_inner ml_X9_360 ck_9 (zopt hvu1).1 rfl (rf_of (by decide)) rfl (Nat.le_of_ble_eq_true rfl) dX9_behindSum_98 ?_
    refine g_istore_n (lm' := [(3, tI (v3)), (2, tI (t0)), (0, tR (some (h0))), (1, tI (l1))]) (pc := 101) C 3 dX9_behindSum_101 rfl (by decide) rfl ?_
    refine g_iload_n (pc := 102) C 3 0 dX9_behindSum_102 rfl rfl ?_
    refine g_bipush (v := 32) (pc := 103) C dX9_behindSum_103 (by decide) ?_
    refine g_icmp_ne (pc := 105) C 152 dX9_behindSum_105 (by decide) (fun c21 => ?_) (fun c21 => ?_)
    · have h := zif_f c21 h
      refine g_iload_n (pc := 152) C 3 0 dX9_behindSum_152 rfl rfl ?_
      refine g_iconst (v := (-1)) (pc := 153) C dX9_behindSum_153 (by decide) ?_
      refine g_icmp_ne (pc := 154) C 163 dX9_behindSum_154 (by decide) (fun c5 => ?_) (fun c5 => ?_)
      · have h := zif_f c5 h
        refine g_sub [2] (lm' := [(0, tR (some (h0)))]) rfl ?_
        exact w_X9_behindSum_j163 hE C hxn _ _ _ _ h hx
      · have h := zif_t c5 h
        refine g_iload_n (pc := 157) C 1 3 dX9_behindSum_157 rfl rfl ?_
        refine g_if_ne (pc := 158) C 163 dX9_behindSum_158 (by decide) (fun c4 => ?_) (fun c4 => ?_)
        · have h := zif_f c4 h
          refine g_sub [2] (lm' := [(0, tR (some (h0)))]) rfl ?_
          exact w_X9_behindSum_j163 hE C hxn _ _ _ _ h hx
        · have h := zif_t c4 h
          refine g_iconst (v := 4) (pc := 161) C dX9_behindSum_161 (by decide) ?_
          obtain ⟨rfl, rfl⟩ := zsome h
          exact g_iret (pc := 162) C rfl hx (by rw [hxn]; rfl) (by rw [hxn]; rfl) dX9_behindSum_162
    · have h := zif_t c21 h
      refine g_aload_n (pc := 108) C 0 2 dX9_behindSum_108 rfl rfl ?_
      refine g_aload_n (pc := 109) C 0 2 dX9_behindSum_109 rfl rfl ?_
      refine g_bipush (v := 93) (pc := 110) C dX9_behindSum_110 (by decide) ?_
      obtain ⟨u6, hvu6, h⟩ := zbind h
      obtain ⟨v8, σ7, hvσ7, h⟩ := zcb h
      refine g_callV (pc := 112) (av := [tI (93)]) C (c_X9_isSign hE hvσ7) yv_X9_isSign ml_X9_324 ck_9 (zopt hvu6).1 rfl (rf_of (by decide)) rfl (Nat.le_of_ble_eq_true rfl) dX9_behindSum_112 ?_
      obtain ⟨u9, hvu9, h⟩ := zbind h
      obtain ⟨v11, σ10, hvσ10, h⟩ := zcb h
      refine g_callV (pc := 115) (av := [tI (v8)]) C (c_X9_must hE hvσ10) yv_X9_must ml_X9_287 ck_9 (zopt hvu9).1 rfl (rf_of (by decide)) rfl (Nat.le_of_ble_eq_true rfl) dX9_behindSum_115 ?_
      refine g_aload_n (pc := 118) C 0 2 dX9_behindSum_118 rfl rfl ?_
      obtain ⟨v12, hvv12, h⟩ := zbind h
      refine g_getI (N := 58) (pc := 119) C ck_9 hvv12 rfl rfl fl_X9_254 dX9_behindSum_119 ?_
      refine g_if_ne (pc := 122) C 150 dX9_behindSum_122 (by decide) (fun c20 => ?_) (fun c20 => ?_)
      · have h := zif_f c20 h
        refine g_iconst (v := 3) (pc := 150) C dX9_behindSum_150 (by decide) ?_
        obtain ⟨rfl, rfl⟩ := zsome h
        exact g_iret (pc := 151) C rfl hx (by rw [hxn]; rfl) (by rw [hxn]; rfl) dX9_behindSum_151
      · have h := zif_t c20 h
        refine g_aload_n (pc := 125) C 0 2 dX9_behindSum_125 rfl rfl ?_
        refine g_iconst (v := 5) (pc := 126) C dX9_behindSum_126 (by decide) ?_
        obtain ⟨u13, hvu13, h⟩ := zbind h
        obtain ⟨v15, σ14, hvσ14, h⟩ := zcb h
        refine g_callV (pc := 127) (av := [tI (5)]) C (c_X9_settle hE hvσ14) yv_X9_settle ml_X9_357 ck_9 (zopt hvu13).1 rfl (rf_of (by decide)) rfl (Nat.le_of_ble_eq_true rfl) dX9_behindSum_127 ?_
        refine g_aload_n (pc := 130) C 0 2 dX9_behindSum_130 rfl rfl ?_
        refine g_dup (pc := 131) C dX9_behindSum_131 rfl ?_
        obtain ⟨v16, hvv16, h⟩ := zbind h
        refine g_getI (N := 58) (pc := 132) C ck_9 hvv16 rfl rfl fl_X9_294 dX9_behindSum_132 ?_
        refine g_iconst (v := 1) (pc := 135) C dX9_behindSum_135 (by decide) ?_
        refine g_isub (pc := 136) C dX9_behindSum_136 ?_
        obtain ⟨σ17, hvσ17, h⟩ := zbind h
        refine g_putI (N := 58) (pc := 137) C ⟨ck_9, rfl, tyX9_ok⟩ hvσ17 rfl fl_X9_294 rfl rfl dX9_behindSum_137 ?_
        refine g_aload_n (pc := 140) C 0 2 dX9_behindSum_140 rfl rfl ?_
        refine g_dup (pc := 141) C dX9_behindSum_141 rfl ?_
        obtain ⟨v18, hvv18, h⟩ := zbind h
        refine g_getI (N := 58) (pc := 142) C ck_9 hvv18 rfl rfl fl_X9_315 dX9_behindSum_142 ?_
        refine g_iconst (v := 1) (pc := 145) C dX9_behindSum_145 (by decide) ?_
        refine g_isub (pc := 146) C dX9_behindSum_146 ?_
        obtain ⟨σ19, hvσ19, h⟩ := zbind h
        refine g_putI (N := 58) (pc := 147) C ⟨ck_9, rfl, tyX9_ok⟩ hvσ19 rfl fl_X9_315 rfl rfl dX9_behindSum_147 ?_
        refine g_iconst (v := 3) (pc := 150) C dX9_behindSum_150 (by decide) ?_
        obtain ⟨rfl, rfl⟩ := zsome h
        exact g_iret (pc := 151) C rfl hx (by rw [hxn]; rfl) (by rw [hxn]; rfl) dX9_behindSum_151
  · have h := zif_f c33 h
    refine g_aload_n (pc := 77) C 0 1 dX9_behindSum_77 rfl rfl ?_
    refine g_iload_n (pc := 78) C 2 0 dX9_behindSum_78 rfl rfl ?_
    obtain ⟨v23, σ22, hvσ22, h⟩ := zcb h
    refine g_callS (pc := 79) (av := [tI (t0)]) C (c_X9_binds hE hvσ22) ys_X9_binds ml_X9_297 rfl (rf_of (by decide)) rfl (Nat.le_of_ble_eq_true rfl) dX9_behindSum_79 ?_
    obtain ⟨u24, hvu24, h⟩ := zbind h
    obtain ⟨v26, σ25, hvσ25, h⟩ := zcb h
    refine g_callV (pc := 82) (av := [tI (v23)]) C (c_X9_settle hE hvσ25) yv_X9_settle ml_X9_357 ck_9 (zopt hvu24).1 rfl (rf_of (by decide)) rfl (Nat.le_of_ble_eq_true rfl) dX9_behindSum_82 ?_
    refine g_aload_n (pc := 85) C 0 1 dX9_behindSum_85 rfl rfl ?_
    refine g_iload_n (pc := 86) C 2 0 dX9_behindSum_86 rfl rfl ?_
    refine g_iconst (v := 0) (pc := 87) C dX9_behindSum_87 (by decide) ?_
    obtain ⟨u27, hvu27, h⟩ := zbind h
    obtain ⟨v29, σ28, hvσ28, h⟩ := zcb h
    refine g_callV (pc := 88) (av := [tI (t0), tI (0)]) C (c_X9_push hE hvσ28) yv_X9_push ml_X9_318 ck_9 (zopt hvu27).1 rfl (rf_of (by decide)) rfl (Nat.le_of_ble_eq_true rfl) dX9_behindSum_88 ?_
    refine g_aload_n (pc := 91) C 0 1 dX9_behindSum_91 rfl rfl ?_
    obtain ⟨u30, hvu30, h⟩ := zbind h
    obtain ⟨v32, σ31, hvσ31, h⟩ := zcb h
    refine g_callV (pc := 92) (av := []) C (c_X9_next hE hvσ31) yv_X9_next ml_X9_258 ck_9 (zopt hvu30).1 rfl (rf_of (by decide)) rfl (Nat.le_of_ble_eq_true rfl) dX9_behindSum_92 ?_
    refine g_iconst (v := 1) (pc := 95) C dX9_behindSum_95 (by decide) ?_
    obtain ⟨rfl, rfl⟩ := zsome h
    exact g_iret (pc := 96) C rfl hx (by rw [hxn]; rfl) (by rw [hxn]; rfl) dX9_behindSum_96
noncomputable def s_X9_behindSum (h0 : Nat) (p1 : Int32) (σ : Hp) : Option (Int32 × Hp) :=
  (ck 9 σ h0).bind fun u1 =>
  cb (s_X9_isSign h0 (43) σ) fun v3 σ2 =>
  if v3 = 0 then
    (ck 9 σ2 h0).bind fun u4 =>
    cb (s_X9_isSign h0 (45) σ2) fun v6 σ5 =>
    if v6 = 0 then
      (ck 9 σ5 h0).bind fun u7 =>
      cb (s_X9_isSign h0 (42) σ5) fun v9 σ8 =>
      if v9 = 0 then
        (ck 9 σ8 h0).bind fun u10 =>
        cb (s_X9_isSign h0 (47) σ8) fun v12 σ11 =>
        if v12 = 0 then
          (ck 9 σ11 h0).bind fun u13 =>
          cb (s_X9_isSign h0 (37) σ11) fun v15 σ14 =>
          if v15 = 0 then
            s_X9_behindSum_j71 (h0) (p1) ((-1)) σ14
          else
            s_X9_behindSum_j71 (h0) (p1) (24) σ14
        else
          s_X9_behindSum_j71 (h0) (p1) (23) σ11
      else
        s_X9_behindSum_j71 (h0) (p1) (22) σ8
    else
      s_X9_behindSum_j71 (h0) (p1) (21) σ5
  else
    s_X9_behindSum_j71 (h0) (p1) (20) σ2
set_option maxRecDepth 100000 in
theorem c_X9_behindSum {E : E0} (hE : EOK E) {h0 : Nat} {p1 : Int32} {σ σ1 : Hp} {r : Int32} (h : s_X9_behindSum h0 p1 σ = some (r, σ1)) : CT E yX9_behindSum (.code yX9_behindSum cX9_behindSum 4 (some .int)) rm_X9_behindSum [tR (some (h0)), tI (p1)] σ (some (tI r)) σ1 := by
  refine CT.mk hE (by decide +kernel) (Nat.le_of_ble_eq_true rfl) [(0, tR (some (h0))), (1, tI (p1))] rfl (fun X C hin hx hxn => ?_)
  have C : XOK E X cX9_behindSum RX9 4 (some .int) rm_X9_behindSum := C
  unfold s_X9_behindSum at h
  refine g_aload_n (pc := 0) C 0 0 dX9_behindSum_0 rfl rfl ?_
  refine g_bipush (v := 43) (pc := 1) C dX9_behindSum_1 (by decide) ?_
  obtain ⟨u1, hvu1, h⟩ := zbind h
  obtain ⟨v3, σ2, hvσ2, h⟩ := zcb h
  refine g_callV (pc := 3) (av := [tI (43)]) C (c_X9_isSign hE hvσ2) yv_X9_isSign ml_X9_324 ck_9 (zopt hvu1).1 rfl (rf_of (by decide)) rfl (Nat.le_of_ble_eq_true rfl) dX9_behindSum_3 ?_
  refine g_if_eq (pc := 6) C 14 dX9_behindSum_6 (by decide) (fun c20 => ?_) (fun c20 => ?_)
  · have h := zif_t c20 h
    refine g_aload_n (pc := 14) C 0 0 dX9_behindSum_14 rfl rfl ?_
    refine g_bipush (v := 45) (pc := 15) C dX9_behindSum_15 (by decide) ?_
    obtain ⟨u4, hvu4, h⟩ := zbind h
    obtain ⟨v6, σ5, hvσ5, h⟩ := zcb h
    refine g_callV (pc := 17) (av := [tI (45)]) C (c_X9_isSign hE hvσ5) yv_X9_isSign ml_X9_324 ck_9 (zopt hvu4).1 rfl (rf_of (by decide)) rfl (Nat.le_of_ble_eq_true rfl) dX9_behindSum_17 ?_
    refine g_if_eq (pc := 20) C 28 dX9_behindSum_20 (by decide) (fun c19 => ?_) (fun c19 => ?_)
    · have h := zif_t c19 h
      refine g_aload_n (pc := 28) C 0 0 dX9_behindSum_28 rfl rfl ?_
      refine g_bipush (v := 42) (pc := 29) C dX9_behindSum_29 (by decide) ?_
      obtain ⟨u7, hvu7, h⟩ := zbind h
      obtain ⟨v9, σ8, hvσ8, h⟩ := zcb h
      refine g_callV (pc := 31) (av := [tI (42)]) C (c_X9_isSign hE hvσ8) yv_X9_isSign ml_X9_324 ck_9 (zopt hvu7).1 rfl (rf_of (by decide)) rfl (Nat.le_of_ble_eq_true rfl) dX9_behindSum_31 ?_
      refine g_if_eq (pc := 34) C 42 dX9_behindSum_34 (by decide) (fun c18 => ?_) (fun c18 => ?_)
      · have h := zif_t c18 h
        refine g_aload_n (pc := 42) C 0 0 dX9_behindSum_42 rfl rfl ?_
        refine g_bipush (v := 47) (pc := 43) C dX9_behindSum_43 (by decide) ?_
        obtain ⟨u10, hvu10, h⟩ := zbind h
        obtain ⟨v12, σ11, hvσ11, h⟩ := zcb h
        refine g_callV (pc := 45) (av := [tI (47)]) C (c_X9_isSign hE hvσ11) yv_X9_isSign ml_X9_324 ck_9 (zopt hvu10).1 rfl (rf_of (by decide)) rfl (Nat.le_of_ble_eq_true rfl) dX9_behindSum_45 ?_
        refine g_if_eq (pc := 48) C 56 dX9_behindSum_48 (by decide) (fun c17 => ?_) (fun c17 => ?_)
        · have h := zif_t c17 h
          refine g_aload_n (pc := 56) C 0 0 dX9_behindSum_56 rfl rfl ?_
          refine g_bipush (v := 37) (pc := 57) C dX9_behindSum_57 (by decide) ?_
          obtain ⟨u13, hvu13, h⟩ := zbind h
          obtain ⟨v15, σ14, hvσ14, h⟩ := zcb h
          refine g_callV (pc := 59) (av := [tI (37)]) C (c_X9_isSign hE hvσ14) yv_X9_isSign ml_X9_324 ck_9 (zopt hvu13).1 rfl (rf_of (by decide)) rfl (Nat.le_of_ble_eq_true rfl) dX9_behindSum_59 ?_
          refine g_if_eq (pc := 62) C 70 dX9_behindSum_62 (by decide) (fun c16 => ?_) (fun c16 => ?_)
          · have h := zif_t c16 h
            refine g_iconst (v := (-1)) (pc := 70) C dX9_behindSum_70 (by decide) ?_
            exact w_X9_behindSum_j71 hE C hxn _ _ _ _ _ _ h hx
          · have h := zif_f c16 h
            refine g_bipush (v := 24) (pc := 65) C dX9_behindSum_65 (by decide) ?_
            refine g_goto (pc := 67) C 71 dX9_behindSum_67 (by decide) ?_
            exact w_X9_behindSum_j71 hE C hxn _ _ _ _ _ _ h hx
        · have h := zif_f c17 h
          refine g_bipush (v := 23) (pc := 51) C dX9_behindSum_51 (by decide) ?_
          refine g_goto (pc := 53) C 71 dX9_behindSum_53 (by decide) ?_
          exact w_X9_behindSum_j71 hE C hxn _ _ _ _ _ _ h hx
      · have h := zif_f c18 h
        refine g_bipush (v := 22) (pc := 37) C dX9_behindSum_37 (by decide) ?_
        refine g_goto (pc := 39) C 71 dX9_behindSum_39 (by decide) ?_
        exact w_X9_behindSum_j71 hE C hxn _ _ _ _ _ _ h hx
    · have h := zif_f c19 h
      refine g_bipush (v := 21) (pc := 23) C dX9_behindSum_23 (by decide) ?_
      refine g_goto (pc := 25) C 71 dX9_behindSum_25 (by decide) ?_
      exact w_X9_behindSum_j71 hE C hxn _ _ _ _ _ _ h hx
  · have h := zif_f c20 h
    refine g_bipush (v := 20) (pc := 9) C dX9_behindSum_9 (by decide) ?_
    refine g_goto (pc := 11) C 71 dX9_behindSum_11 (by decide) ?_
    exact w_X9_behindSum_j71 hE C hxn _ _ _ _ _ _ h hx
def rm_X9_behindTest : Room := { frames := 3, cells := 0, slots := 0, locals := 61 }
noncomputable def s_X9_behindTest_j66 (h0 : Nat) (t0 : Option Nat) (t1 : Int32) (σ : Hp) : Option (Int32 × Hp) :=
  (t0).bind fun a1 =>
  (ck 9 σ a1).bind fun u2 =>
  cb (s_X9_emit a1 (t1) (0) σ) fun v4 σ3 =>
  (ck 9 σ3 h0).bind fun u5 =>
  cb (s_X9_next h0 σ3) fun v7 σ6 =>
  some ((0), σ6)
set_option maxRecDepth 100000 in
theorem w_X9_behindTest_j66 {E : E0} (hE : EOK E) {X : X0} (C : XOK E X cX9_behindTest RX9 2 (some .int) rm_X9_behindTest) (hxn : xn X = (rm_X9_behindTest.cells, rm_X9_behindTest.slots)) (h0 : Nat) (t0 : Option Nat) (t1 : Int32) (σ : Hp) (r : Int32) (σ1 : Hp) (h : s_X9_behindTest_j66 h0 t0 t1 σ = some (r, σ1)) (hx : xd X = (some (tI r), σ1)) : G E X 0 0 66 [(0, tR (some (h0)))] [tI (t1), tR (t0)] σ := by
  unfold s_X9_behindTest_j66 at h
  refine g_iconst (v := 0) (pc := 66) C dX9_behindTest_66 (by decide) ?_
  obtain ⟨a1, hqa1, h9⟩ := zbind h
  clear h
  subst hqa1
  have h := h9
  clear h9
  obtain ⟨u2, hvu2, h⟩ := zbind h
  obtain ⟨v4, σ3, hvσ3, h⟩ := zcb h
  refine g_callV (pc := 67) (av := [tI (t1), tI (0)]) C (c_X9_emit hE hvσ3) yv_X9_emit ml_X9_300 ck_9 (zopt hvu2).1 rfl (rf_of (by decide)) rfl (Nat.le_of_ble_eq_true rfl) dX9_behindTest_67 ?_
  refine g_aload_n (pc := 70) C 0 0 dX9_behindTest_70 rfl rfl ?_
  obtain ⟨u5, hvu5, h⟩ := zbind h
  obtain ⟨v7, σ6, hvσ6, h⟩ := zcb h
  refine g_callV (pc := 71) (av := []) C (c_X9_next hE hvσ6) yv_X9_next ml_X9_258 ck_9 (zopt hvu5).1 rfl (rf_of (by decide)) rfl (Nat.le_of_ble_eq_true rfl) dX9_behindTest_71 ?_
  refine g_iconst (v := 0) (pc := 74) C dX9_behindTest_74 (by decide) ?_
  obtain ⟨rfl, rfl⟩ := zsome h
  exact g_iret (pc := 75) C rfl hx (by rw [hxn]; rfl) (by rw [hxn]; rfl) dX9_behindTest_75
noncomputable def s_X9_behindTest_j47 (h0 : Nat) (l1 : Int32) (t0 : Option Nat) (t1 : Int32) (σ : Hp) : Option (Int32 × Hp) :=
  (rdI 9 σ h0 23).bind fun v1 =>
  (t0).bind fun a2 =>
  (ck 9 σ a2).bind fun u3 =>
  cb (s_X9_push a2 (t1) (v1) σ) fun v5 σ4 =>
  if l1 = 0 then
    s_X9_behindTest_j66 (h0) (some (h0)) (30) σ4
  else
    s_X9_behindTest_j66 (h0) (some (h0)) (29) σ4
set_option maxRecDepth 100000 in
theorem w_X9_behindTest_j47 {E : E0} (hE : EOK E) {X : X0} (C : XOK E X cX9_behindTest RX9 2 (some .int) rm_X9_behindTest) (hxn : xn X = (rm_X9_behindTest.cells, rm_X9_behindTest.slots)) (h0 : Nat) (l1 : Int32) (t0 : Option Nat) (t1 : Int32) (σ : Hp) (r : Int32) (σ1 : Hp) (h : s_X9_behindTest_j47 h0 l1 t0 t1 σ = some (r, σ1)) (hx : xd X = (some (tI r), σ1)) : G E X 0 0 47 [(0, tR (some (h0))), (1, tI (l1))] [tI (t1), tR (t0)] σ := by
  unfold s_X9_behindTest_j47 at h
  refine g_aload_n (pc := 47) C 0 0 dX9_behindTest_47 rfl rfl ?_
  obtain ⟨v1, hvv1, h⟩ := zbind h
  refine g_getI (N := 58) (pc := 48) C ck_9 hvv1 rfl rfl fl_X9_291 dX9_behindTest_48 ?_
  obtain ⟨a2, hqa2, h9⟩ := zbind h
  clear h
  subst hqa2
  have h := h9
  clear h9
  obtain ⟨u3, hvu3, h⟩ := zbind h
  obtain ⟨v5, σ4, hvσ4, h⟩ := zcb h
  refine g_callV (pc := 51) (av := [tI (t1), tI (v1)]) C (c_X9_push hE hvσ4) yv_X9_push ml_X9_318 ck_9 (zopt hvu3).1 rfl (rf_of (by decide)) rfl (Nat.le_of_ble_eq_true rfl) dX9_behindTest_51 ?_
  refine g_aload_n (pc := 54) C 0 0 dX9_behindTest_54 rfl rfl ?_
  refine g_iload_n (pc := 55) C 1 1 dX9_behindTest_55 rfl rfl ?_
  refine g_if_eq (pc := 56) C 64 dX9_behindTest_56 (by decide) (fun c6 => ?_) (fun c6 => ?_)
  · have h := zif_t c6 h
    refine g_bipush (v := 30) (pc := 64) C dX9_behindTest_64 (by decide) ?_
    refine g_sub [0] (lm' := [(0, tR (some (h0)))]) rfl ?_
    exact w_X9_behindTest_j66 hE C hxn _ _ _ _ _ _ h hx
  · have h := zif_f c6 h
    refine g_bipush (v := 29) (pc := 59) C dX9_behindTest_59 (by decide) ?_
    refine g_goto (pc := 61) C 66 dX9_behindTest_61 (by decide) ?_
    refine g_sub [0] (lm' := [(0, tR (some (h0)))]) rfl ?_
    exact w_X9_behindTest_j66 hE C hxn _ _ _ _ _ _ h hx
noncomputable def s_X9_behindTest_j32 (h0 : Nat) (l1 : Int32) (t0 : Option Nat) (t1 : Int32) (σ : Hp) : Option (Int32 × Hp) :=
  (t0).bind fun a1 =>
  (ck 9 σ a1).bind fun u2 =>
  cb (s_X9_settle a1 (t1) σ) fun v4 σ3 =>
  if l1 = 0 then
    s_X9_behindTest_j47 (h0) (l1) (some (h0)) (30) σ3
  else
    s_X9_behindTest_j47 (h0) (l1) (some (h0)) (29) σ3
set_option maxRecDepth 100000 in
theorem w_X9_behindTest_j32 {E : E0} (hE : EOK E) {X : X0} (C : XOK E X cX9_behindTest RX9 2 (some .int) rm_X9_behindTest) (hxn : xn X = (rm_X9_behindTest.cells, rm_X9_behindTest.slots)) (h0 : Nat) (l1 : Int32) (t0 : Option Nat) (t1 : Int32) (σ : Hp) (r : Int32) (σ1 : Hp) (h : s_X9_behindTest_j32 h0 l1 t0 t1 σ = some (r, σ1)) (hx : xd X = (some (tI r), σ1)) : G E X 0 0 32 [(0, tR (some (h0))), (1, tI (l1))] [tI (t1), tR (t0)] σ := by
  unfold s_X9_behindTest_j32 at h
  obtain ⟨a1, hqa1, h9⟩ := zbind h
  clear h
  subst hqa1
  have h := h9
  clear h9
  obtain ⟨u2, hvu2, h⟩ := zbind h
  obtain ⟨v4, σ3, hvσ3, h⟩ := zcb h
  refine g_callV (pc := 32) (av := [tI (t1)]) C (c_X9_settle hE hvσ3) yv_X9_settle ml_X9_357 ck_9 (zopt hvu2).1 rfl (rf_of (by decide)) rfl (Nat.le_of_ble_eq_true rfl) dX9_behindTest_32 ?_
  refine g_aload_n (pc := 35) C 0 0 dX9_behindTest_35 rfl rfl ?_
  refine g_iload_n (pc := 36) C 1 1 dX9_behindTest_36 rfl rfl ?_
  refine g_if_eq (pc := 37) C 45 dX9_behindTest_37 (by decide) (fun c5 => ?_) (fun c5 => ?_)
  · have h := zif_t c5 h
    refine g_bipush (v := 30) (pc := 45) C dX9_behindTest_45 (by decide) ?_
    exact w_X9_behindTest_j47 hE C hxn _ _ _ _ _ _ _ h hx
  · have h := zif_f c5 h
    refine g_bipush (v := 29) (pc := 40) C dX9_behindTest_40 (by decide) ?_
    refine g_goto (pc := 42) C 47 dX9_behindTest_42 (by decide) ?_
    exact w_X9_behindTest_j47 hE C hxn _ _ _ _ _ _ _ h hx
noncomputable def s_X9_behindTest_j22 (h0 : Nat) (l1 : Int32) (σ : Hp) : Option (Int32 × Hp) :=
  if l1 = 0 then
    s_X9_behindTest_j32 (h0) (l1) (some (h0)) (1) σ
  else
    s_X9_behindTest_j32 (h0) (l1) (some (h0)) (2) σ
set_option maxRecDepth 100000 in
theorem w_X9_behindTest_j22 {E : E0} (hE : EOK E) {X : X0} (C : XOK E X cX9_behindTest RX9 2 (some .int) rm_X9_behindTest) (hxn : xn X = (rm_X9_behindTest.cells, rm_X9_behindTest.slots)) (h0 : Nat) (l1 : Int32) (σ : Hp) (r : Int32) (σ1 : Hp) (h : s_X9_behindTest_j22 h0 l1 σ = some (r, σ1)) (hx : xd X = (some (tI r), σ1)) : G E X 0 0 22 [(0, tR (some (h0))), (1, tI (l1))] [] σ := by
  unfold s_X9_behindTest_j22 at h
  refine g_aload_n (pc := 22) C 0 0 dX9_behindTest_22 rfl rfl ?_
  refine g_iload_n (pc := 23) C 1 1 dX9_behindTest_23 rfl rfl ?_
  refine g_if_eq (pc := 24) C 31 dX9_behindTest_24 (by decide) (fun c1 => ?_) (fun c1 => ?_)
  · have h := zif_t c1 h
    refine g_iconst (v := 1) (pc := 31) C dX9_behindTest_31 (by decide) ?_
    exact w_X9_behindTest_j32 hE C hxn _ _ _ _ _ _ _ h hx
  · have h := zif_f c1 h
    refine g_iconst (v := 2) (pc := 27) C dX9_behindTest_27 (by decide) ?_
    refine g_goto (pc := 28) C 32 dX9_behindTest_28 (by decide) ?_
    exact w_X9_behindTest_j32 hE C hxn _ _ _ _ _ _ _ h hx
noncomputable def s_X9_behindTest (h0 : Nat) (σ : Hp) : Option (Int32 × Hp) :=
  (ck 9 σ h0).bind fun u1 =>
  cb (s_X9_isWord h0 (1476) σ) fun v3 σ2 =>
  if v3 = 0 then
    (ck 9 σ2 h0).bind fun u4 =>
    cb (s_X9_isWord h0 (498) σ2) fun v6 σ5 =>
    if v6 = 0 then
      (ck 9 σ5 h0).bind fun u7 =>
      cb (s_X9_inner h0 σ5) fun v9 σ8 =>
      if v9 = (-1) then
        some ((4), σ8)
      else
        (ck 9 σ8 h0).bind fun u10 =>
        cb (s_X9_isSign h0 (41) σ8) fun v12 σ11 =>
        (ck 9 σ11 h0).bind fun u13 =>
        cb (s_X9_must h0 (v12) σ11) fun v15 σ14 =>
        (rdI 9 σ14 h0 19).bind fun v16 =>
        if v16 = 0 then
          (ck 9 σ14 h0).bind fun u17 =>
          cb (s_X9_settle h0 (1) σ14) fun v19 σ18 =>
          (rdI 9 σ18 h0 29).bind fun v20 =>
          (wrI 9 σ18 h0 29 (v20 - 1)).bind fun σ21 =>
          (rdI 9 σ21 h0 30).bind fun v22 =>
          (wrI 9 σ21 h0 30 (v22 - 1)).bind fun σ23 =>
          some ((2), σ23)
        else
          some ((2), σ14)
    else
      s_X9_behindTest_j22 (h0) (v3) σ5
  else
    s_X9_behindTest_j22 (h0) (v3) σ2
set_option maxRecDepth 100000 in
theorem c_X9_behindTest {E : E0} (hE : EOK E) {h0 : Nat} {σ σ1 : Hp} {r : Int32} (h : s_X9_behindTest h0 σ = some (r, σ1)) : CT E yX9_behindTest (.code yX9_behindTest cX9_behindTest 2 (some .int)) rm_X9_behindTest [tR (some (h0))] σ (some (tI r)) σ1 := by
  refine CT.mk hE (by decide +kernel) (Nat.le_of_ble_eq_true rfl) [(0, tR (some (h0)))] rfl (fun X C hin hx hxn => ?_)
  have C : XOK E X cX9_behindTest RX9 2 (some .int) rm_X9_behindTest := C
  unfold s_X9_behindTest at h
  refine g_aload_n (pc := 0) C 0 0 dX9_behindTest_0 rfl rfl ?_
  refine g_ldc2 (v := 1476) (pc := 1) C dX9_behindTest_1 kl_X9_367 ?_
  obtain ⟨u1, hvu1, h⟩ := zbind h
  obtain ⟨v3, σ2, hvσ2, h⟩ := zcb h
  refine g_callV (pc := 4) (av := [tJ (1476)]) C (c_X9_isWord hE hvσ2) yv_X9_isWord ml_X9_312 ck_9 (zopt hvu1).1 rfl (rf_of (by decide)) rfl (Nat.le_of_ble_eq_true rfl) dX9_behindTest_4 ?_
  refine g_istore_n (lm' := [(1, tI (v3)), (0, tR (some (h0)))]) (pc := 7) C 1 dX9_behindTest_7 rfl (by decide) rfl ?_
  refine g_iload_n (pc := 8) C 1 0 dX9_behindTest_8 rfl rfl ?_
  refine g_if_ne (pc := 9) C 22 dX9_behindTest_9 (by decide) (fun c27 => ?_) (fun c27 => ?_)
  · have h := zif_f c27 h
    refine g_sub [1, 0] (lm' := [(0, tR (some (h0))), (1, tI (v3))]) rfl ?_
    exact w_X9_behindTest_j22 hE C hxn _ _ _ _ _ h hx
  · have h := zif_t c27 h
    refine g_aload_n (pc := 12) C 0 1 dX9_behindTest_12 rfl rfl ?_
    refine g_ldc2 (v := 498) (pc := 13) C dX9_behindTest_13 kl_X9_369 ?_
    obtain ⟨u4, hvu4, h⟩ := zbind h
    obtain ⟨v6, σ5, hvσ5, h⟩ := zcb h
    refine g_callV (pc := 16) (av := [tJ (498)]) C (c_X9_isWord hE hvσ5) yv_X9_isWord ml_X9_312 ck_9 (zopt hvu4).1 rfl (rf_of (by decide)) rfl (Nat.le_of_ble_eq_true rfl) dX9_behindTest_16 ?_
    refine g_if_eq (pc := 19) C 76 dX9_behindTest_19 (by decide) (fun c26 => ?_) (fun c26 => ?_)
    · have h := zif_t c26 h
      refine g_aload_n (pc := 76) C 0 1 dX9_behindTest_76 rfl rfl ?_
      obtain ⟨u7, hvu7, h⟩ := zbind h
      obtain ⟨v9, σ8, hvσ8, h⟩ := zcb h
      refine g_callV (pc := 77) (av := []) C (c_X9_inner hE hvσ8) yv_X9_inner ml_X9_360 ck_9 (zopt hvu7).1 rfl (rf_of (by decide)) rfl (Nat.le_of_ble_eq_true rfl) dX9_behindTest_77 ?_
      refine g_iconst (v := (-1)) (pc := 80) C dX9_behindTest_80 (by decide) ?_
      refine g_icmp_ne (pc := 81) C 86 dX9_behindTest_81 (by decide) (fun c25 => ?_) (fun c25 => ?_)
      · have h := zif_f c25 h
        refine g_aload_n (pc := 86) C 0 1 dX9_behindTest_86 rfl rfl ?_
        refine g_aload_n (pc := 87) C 0 1 dX9_behindTest_87 rfl rfl ?_
        refine g_bipush (v := 41) (pc := 88) C dX9_behindTest_88 (by decide) ?_
        obtain ⟨u10, hvu10, h⟩ := zbind h
        obtain ⟨v12, σ11, hvσ11, h⟩ := zcb h
        refine g_callV (pc := 90) (av := [tI (41)]) C (c_X9_isSign hE hvσ11) yv_X9_isSign ml_X9_324 ck_9 (zopt hvu10).1 rfl (rf_of (by decide)) rfl (Nat.le_of_ble_eq_true rfl) dX9_behindTest_90 ?_
        obtain ⟨u13, hvu13, h⟩ := zbind h
        obtain ⟨v15, σ14, hvσ14, h⟩ := zcb h
        refine g_callV (pc := 93) (av := [tI (v12)]) C (c_X9_must hE hvσ14) yv_X9_must ml_X9_287 ck_9 (zopt hvu13).1 rfl (rf_of (by decide)) rfl (Nat.le_of_ble_eq_true rfl) dX9_behindTest_93 ?_
        refine g_aload_n (pc := 96) C 0 1 dX9_behindTest_96 rfl rfl ?_
        obtain ⟨v16, hvv16, h⟩ := zbind h
        refine g_getI (N := 58) (pc := 97) C ck_9 hvv16 rfl rfl fl_X9_254 dX9_behindTest_97 ?_
        refine g_if_ne (pc := 100) C 128 dX9_behindTest_100 (by decide) (fun c24 => ?_) (fun c24 => ?_)
        · have h := zif_f c24 h
          refine g_iconst (v := 2) (pc := 128) C dX9_behindTest_128 (by decide) ?_
          obtain ⟨rfl, rfl⟩ := zsome h
          exact g_iret (pc := 129) C rfl hx (by rw [hxn]; rfl) (by rw [hxn]; rfl) dX9_behindTest_129
        · have h := zif_t c24 h
          refine g_aload_n (pc := 103) C 0 1 dX9_behindTest_103 rfl rfl ?_
          refine g_iconst (v := 1) (pc := 104) C dX9_behindTest_104 (by decide) ?_
          obtain ⟨u17, hvu17, h⟩ := zbind h
          obtain ⟨v19, σ18, hvσ18, h⟩ := zcb h
          refine g_callV (pc := 105) (av := [tI (1)]) C (c_X9_settle hE hvσ18) yv_X9_settle ml_X9_357 ck_9 (zopt hvu17).1 rfl (rf_of (by decide)) rfl (Nat.le_of_ble_eq_true rfl) dX9_behindTest_105 ?_
          refine g_aload_n (pc := 108) C 0 1 dX9_behindTest_108 rfl rfl ?_
          refine g_dup (pc := 109) C dX9_behindTest_109 rfl ?_
          obtain ⟨v20, hvv20, h⟩ := zbind h
          refine g_getI (N := 58) (pc := 110) C ck_9 hvv20 rfl rfl fl_X9_294 dX9_behindTest_110 ?_
          refine g_iconst (v := 1) (pc := 113) C dX9_behindTest_113 (by decide) ?_
          refine g_isub (pc := 114) C dX9_behindTest_114 ?_
          obtain ⟨σ21, hvσ21, h⟩ := zbind h
          refine g_putI (N := 58) (pc := 115) C ⟨ck_9, rfl, tyX9_ok⟩ hvσ21 rfl fl_X9_294 rfl rfl dX9_behindTest_115 ?_
          refine g_aload_n (pc := 118) C 0 1 dX9_behindTest_118 rfl rfl ?_
          refine g_dup (pc := 119) C dX9_behindTest_119 rfl ?_
          obtain ⟨v22, hvv22, h⟩ := zbind h
          refine g_getI (N := 58) (pc := 120) C ck_9 hvv22 rfl rfl fl_X9_315 dX9_behindTest_120 ?_
          refine g_iconst (v := 1) (pc := 123) C dX9_behindTest_123 (by decide) ?_
          refine g_isub (pc := 124) C dX9_behindTest_124 ?_
          obtain ⟨σ23, hvσ23, h⟩ := zbind h
          refine g_putI (N := 58) (pc := 125) C ⟨ck_9, rfl, tyX9_ok⟩ hvσ23 rfl fl_X9_315 rfl rfl dX9_behindTest_125 ?_
          refine g_iconst (v := 2) (pc := 128) C dX9_behindTest_128 (by decide) ?_
          obtain ⟨rfl, rfl⟩ := zsome h
          exact g_iret (pc := 129) C rfl hx (by rw [hxn]; rfl) (by rw [hxn]; rfl) dX9_behindTest_129
      · have h := zif_t c25 h
        refine g_iconst (v := 4) (pc := 84) C dX9_behindTest_84 (by decide) ?_
        obtain ⟨rfl, rfl⟩ := zsome h
        exact g_iret (pc := 85) C rfl hx (by rw [hxn]; rfl) (by rw [hxn]; rfl) dX9_behindTest_85
    · have h := zif_f c26 h
      refine g_sub [1, 0] (lm' := [(0, tR (some (h0))), (1, tI (v3))]) rfl ?_
      exact w_X9_behindTest_j22 hE C hxn _ _ _ _ _ h hx
def rm_X9_readExpression : Room := { frames := 6, cells := 0, slots := 0, locals := 129 }
noncomputable def s_X9_readExpression_j72 (h0 : Nat) (l1 : Int32) (t0 : Int32) (σ : Hp) : Option (((Nat × Int32 × Int32) ⊕ (Nat)) × Hp) :=
  some (Sum.inl ((h0), (l1), (t0)), σ)
set_option maxRecDepth 100000 in
theorem w_X9_readExpression_j72 {E : E0} (hE : EOK E) {X : X0} (C : XOK E X cX9_readExpression RX9 3 none rm_X9_readExpression) (hxn : xn X = (rm_X9_readExpression.cells, rm_X9_readExpression.slots)) {KE : (Nat) → Hp → Prop} (e_76 : ∀ (h0 : Nat) (σ : Hp), KE (h0) σ → G E X 0 0 76 [(0, tR (some (h0)))] [] σ) (h0 : Nat) (l1 : Int32) (t0 : Int32) (σ : Hp) (x : (Nat × Int32 × Int32) ⊕ (Nat)) (σ1 : Hp) (h : s_X9_readExpression_j72 h0 l1 t0 σ = some (x, σ1)) (hI : ∀ v, x = Sum.inl v → (fun (v : Nat × Int32 × Int32) (σ : Hp) => G E X 0 0 20 [(0, tR (some ((v.1)))), (1, tI ((v.2.1))), (2, tI ((v.2.2)))] [] σ) v σ1) (hO : ∀ e, x = Sum.inr e → KE e σ1) : G E X 0 0 72 [(0, tR (some (h0))), (1, tI (l1))] [tI (t0)] σ := by
  unfold s_X9_readExpression_j72 at h
  refine g_istore_n (lm' := [(2, tI (t0)), (0, tR (some (h0))), (1, tI (l1))]) (pc := 72) C 2 dX9_readExpression_72 rfl (by decide) rfl ?_
  refine g_goto (pc := 73) C 20 dX9_readExpression_73 (by decide) ?_
  refine g_sub [1, 2, 0] (lm' := [(0, tR (some (h0))), (1, tI (l1)), (2, tI (t0))]) rfl ?_
  obtain ⟨rfl, rfl⟩ := zsome h
  exact hI _ rfl
noncomputable def s_X9_readExpression_b20 (h0 : Nat) (l1 : Int32) (l2 : Int32) (σ : Hp) : Option (((Nat × Int32 × Int32) ⊕ (Nat)) × Hp) :=
  (rdI 9 σ h0 19).bind fun v1 =>
  if v1 = 0 then
    if l2 = 4 then
      some (Sum.inr (h0), σ)
    else
      if l2 = 0 then
        (ck 9 σ h0).bind fun u13 =>
        cb (s_X9_readPlain h0 σ) fun v15 σ14 =>
        s_X9_readExpression_j72 (h0) (l1) (v15) σ14
      else
        if l2 = 1 then
          (ck 9 σ h0).bind fun u9 =>
          cb (s_X9_readPart h0 σ) fun v11 σ10 =>
          s_X9_readExpression_j72 (h0) (l1) (v11) σ10
        else
          if l2 = 3 then
            (ck 9 σ h0).bind fun u5 =>
            cb (s_X9_behindSum h0 (l1) σ) fun v7 σ6 =>
            s_X9_readExpression_j72 (h0) (l1) (v7) σ6
          else
            (ck 9 σ h0).bind fun u2 =>
            cb (s_X9_behindTest h0 σ) fun v4 σ3 =>
            s_X9_readExpression_j72 (h0) (l1) (v4) σ3
  else
    some (Sum.inr (h0), σ)
noncomputable def s_X9_readExpression_l20 : (Nat × Int32 × Int32) → Hp → Option ((Nat) × Hp) := loopF (fun v => s_X9_readExpression_b20 (v.1) (v.2.1) (v.2.2))
set_option maxRecDepth 100000 in
theorem w_X9_readExpression_b20 {E : E0} (hE : EOK E) {X : X0} (C : XOK E X cX9_readExpression RX9 3 none rm_X9_readExpression) (hxn : xn X = (rm_X9_readExpression.cells, rm_X9_readExpression.slots)) {KE : (Nat) → Hp → Prop} (e_76 : ∀ (h0 : Nat) (σ : Hp), KE (h0) σ → G E X 0 0 76 [(0, tR (some (h0)))] [] σ) (h0 : Nat) (l1 : Int32) (l2 : Int32) (σ : Hp) (x : (Nat × Int32 × Int32) ⊕ (Nat)) (σ1 : Hp) (h : s_X9_readExpression_b20 h0 l1 l2 σ = some (x, σ1)) (hI : ∀ v, x = Sum.inl v → (fun (v : Nat × Int32 × Int32) (σ : Hp) => G E X 0 0 20 [(0, tR (some ((v.1)))), (1, tI ((v.2.1))), (2, tI ((v.2.2)))] [] σ) v σ1) (hO : ∀ e, x = Sum.inr e → KE e σ1) : G E X 0 0 20 [(0, tR (some (h0))), (1, tI (l1)), (2, tI (l2))] [] σ := by
  unfold s_X9_readExpression_b20 at h
  refine g_aload_n (pc := 20) C 0 0 dX9_readExpression_20 rfl rfl ?_
  obtain ⟨v1, hvv1, h⟩ := zbind h
  refine g_getI (N := 58) (pc := 21) C ck_9 hvv1 rfl rfl fl_X9_254 dX9_readExpression_21 ?_
  refine g_if_ne (pc := 24) C 76 dX9_readExpression_24 (by decide) (fun c18 => ?_) (fun c18 => ?_)
  · have h := zif_f c18 h
    refine g_sub [0] (lm' := [(0, tR (some (h0)))]) rfl ?_
    obtain ⟨rfl, rfl⟩ := zsome h
    exact e_76 _ _ (hO _ rfl)
  · have h := zif_t c18 h
    refine g_iload_n (pc := 27) C 2 2 dX9_readExpression_27 rfl rfl ?_
    refine g_iconst (v := 4) (pc := 28) C dX9_readExpression_28 (by decide) ?_
    refine g_icmp_eq (pc := 29) C 76 dX9_readExpression_29 (by decide) (fun c17 => ?_) (fun c17 => ?_)
    · have h := zif_t c17 h
      refine g_sub [0] (lm' := [(0, tR (some (h0)))]) rfl ?_
      obtain ⟨rfl, rfl⟩ := zsome h
      exact e_76 _ _ (hO _ rfl)
    · have h := zif_f c17 h
      refine g_iload_n (pc := 32) C 2 2 dX9_readExpression_32 rfl rfl ?_
      refine g_if_ne (pc := 33) C 43 dX9_readExpression_33 (by decide) (fun c16 => ?_) (fun c16 => ?_)
      · have h := zif_f c16 h
        refine g_iload_n (pc := 43) C 2 2 dX9_readExpression_43 rfl rfl ?_
        refine g_iconst (v := 1) (pc := 44) C dX9_readExpression_44 (by decide) ?_
        refine g_icmp_ne (pc := 45) C 55 dX9_readExpression_45 (by decide) (fun c12 => ?_) (fun c12 => ?_)
        · have h := zif_f c12 h
          refine g_iload_n (pc := 55) C 2 2 dX9_readExpression_55 rfl rfl ?_
          refine g_iconst (v := 3) (pc := 56) C dX9_readExpression_56 (by decide) ?_
          refine g_icmp_ne (pc := 57) C 68 dX9_readExpression_57 (by decide) (fun c8 => ?_) (fun c8 => ?_)
          · have h := zif_f c8 h
            refine g_aload_n (pc := 68) C 0 0 dX9_readExpression_68 rfl rfl ?_
            obtain ⟨u2, hvu2, h⟩ := zbind h
            obtain ⟨v4, σ3, hvσ3, h⟩ := zcb h
            refine g_callV (pc := 69) (av := []) C (c_X9_behindTest hE hvσ3) yv_X9_behindTest ml_X9_378 ck_9 (zopt hvu2).1 rfl (rf_of (by decide)) rfl (Nat.le_of_ble_eq_true rfl) dX9_readExpression_69 ?_
            refine g_sub [0, 1] (lm' := [(0, tR (some (h0))), (1, tI (l1))]) rfl ?_
            exact w_X9_readExpression_j72 hE C hxn e_76 _ _ _ _ _ _ h hI hO
          · have h := zif_t c8 h
            refine g_aload_n (pc := 60) C 0 0 dX9_readExpression_60 rfl rfl ?_
            refine g_iload_n (pc := 61) C 1 1 dX9_readExpression_61 rfl rfl ?_
            obtain ⟨u5, hvu5, h⟩ := zbind h
            obtain ⟨v7, σ6, hvσ6, h⟩ := zcb h
            refine g_callV (pc := 62) (av := [tI (l1)]) C (c_X9_behindSum hE hvσ6) yv_X9_behindSum ml_X9_374 ck_9 (zopt hvu5).1 rfl (rf_of (by decide)) rfl (Nat.le_of_ble_eq_true rfl) dX9_readExpression_62 ?_
            refine g_goto (pc := 65) C 72 dX9_readExpression_65 (by decide) ?_
            refine g_sub [0, 1] (lm' := [(0, tR (some (h0))), (1, tI (l1))]) rfl ?_
            exact w_X9_readExpression_j72 hE C hxn e_76 _ _ _ _ _ _ h hI hO
        · have h := zif_t c12 h
          refine g_aload_n (pc := 48) C 0 0 dX9_readExpression_48 rfl rfl ?_
          obtain ⟨u9, hvu9, h⟩ := zbind h
          obtain ⟨v11, σ10, hvσ10, h⟩ := zcb h
          refine g_callV (pc := 49) (av := []) C (c_X9_readPart hE hvσ10) yv_X9_readPart ml_X9_354 ck_9 (zopt hvu9).1 rfl (rf_of (by decide)) rfl (Nat.le_of_ble_eq_true rfl) dX9_readExpression_49 ?_
          refine g_goto (pc := 52) C 72 dX9_readExpression_52 (by decide) ?_
          refine g_sub [0, 1] (lm' := [(0, tR (some (h0))), (1, tI (l1))]) rfl ?_
          exact w_X9_readExpression_j72 hE C hxn e_76 _ _ _ _ _ _ h hI hO
      · have h := zif_t c16 h
        refine g_aload_n (pc := 36) C 0 0 dX9_readExpression_36 rfl rfl ?_
        obtain ⟨u13, hvu13, h⟩ := zbind h
        obtain ⟨v15, σ14, hvσ14, h⟩ := zcb h
        refine g_callV (pc := 37) (av := []) C (c_X9_readPlain hE hvσ14) yv_X9_readPlain ml_X9_371 ck_9 (zopt hvu13).1 rfl (rf_of (by decide)) rfl (Nat.le_of_ble_eq_true rfl) dX9_readExpression_37 ?_
        refine g_goto (pc := 40) C 72 dX9_readExpression_40 (by decide) ?_
        refine g_sub [0, 1] (lm' := [(0, tR (some (h0))), (1, tI (l1))]) rfl ?_
        exact w_X9_readExpression_j72 hE C hxn e_76 _ _ _ _ _ _ h hI hO
theorem w_X9_readExpression_l20 {E : E0} (hE : EOK E) {X : X0} (C : XOK E X cX9_readExpression RX9 3 none rm_X9_readExpression) (hxn : xn X = (rm_X9_readExpression.cells, rm_X9_readExpression.slots)) {KE : (Nat) → Hp → Prop} (e_76 : ∀ (h0 : Nat) (σ : Hp), KE (h0) σ → G E X 0 0 76 [(0, tR (some (h0)))] [] σ) {v : Nat × Int32 × Int32} {σ : Hp} {e : Nat} {σ1 : Hp} (h : s_X9_readExpression_l20 v σ = some (e, σ1)) (hO : KE e σ1) : G E X 0 0 20 [(0, tR (some ((v.1)))), (1, tI ((v.2.1))), (2, tI ((v.2.2)))] [] σ := loopF_ind (P := fun (v : Nat × Int32 × Int32) (σ : Hp) => G E X 0 0 20 [(0, tR (some ((v.1)))), (1, tI ((v.2.1))), (2, tI ((v.2.2)))] [] σ) (KE := KE) (fun v σ x σ1 h hI hO => w_X9_readExpression_b20 hE C hxn e_76 (v.1) (v.2.1) (v.2.2) σ x σ1 h hI hO) v σ e σ1 h hO
noncomputable def s_X9_readExpression_j76 (h0 : Nat) (σ : Hp) : Option (Unit × Hp) :=
  (ck 9 σ h0).bind fun u1 =>
  cb (s_X9_settle h0 (1) σ) fun v3 σ2 =>
  some ((), σ2)
set_option maxRecDepth 100000 in
theorem w_X9_readExpression_j76 {E : E0} (hE : EOK E) {X : X0} (C : XOK E X cX9_readExpression RX9 3 none rm_X9_readExpression) (hxn : xn X = (rm_X9_readExpression.cells, rm_X9_readExpression.slots)) (h0 : Nat) (σ : Hp) (r : Unit) (σ1 : Hp) (h : s_X9_readExpression_j76 h0 σ = some (r, σ1)) (hx : xd X = (none, σ1)) : G E X 0 0 76 [(0, tR (some (h0)))] [] σ := by
  unfold s_X9_readExpression_j76 at h
  refine g_aload_n (pc := 76) C 0 0 dX9_readExpression_76 rfl rfl ?_
  refine g_iconst (v := 1) (pc := 77) C dX9_readExpression_77 (by decide) ?_
  obtain ⟨u1, hvu1, h⟩ := zbind h
  obtain ⟨v3, σ2, hvσ2, h⟩ := zcb h
  refine g_callV (pc := 78) (av := [tI (1)]) C (c_X9_settle hE hvσ2) yv_X9_settle ml_X9_357 ck_9 (zopt hvu1).1 rfl (rf_of (by decide)) rfl (Nat.le_of_ble_eq_true rfl) dX9_readExpression_78 ?_
  obtain ⟨rfl, rfl⟩ := zsome h
  exact g_vret (pc := 81) C rfl hx (by rw [hxn]; rfl) (by rw [hxn]; rfl) dX9_readExpression_81
noncomputable def s_X9_readExpression_j19 (h0 : Nat) (l1 : Int32) (t0 : Int32) (σ : Hp) : Option (Unit × Hp) :=
  cb (s_X9_readExpression_l20 ((h0), (l1), (t0)) σ) fun h1 σ4 =>
  s_X9_readExpression_j76 (h1) σ4
set_option maxRecDepth 100000 in
theorem w_X9_readExpression_j19 {E : E0} (hE : EOK E) {X : X0} (C : XOK E X cX9_readExpression RX9 3 none rm_X9_readExpression) (hxn : xn X = (rm_X9_readExpression.cells, rm_X9_readExpression.slots)) (h0 : Nat) (l1 : Int32) (t0 : Int32) (σ : Hp) (r : Unit) (σ1 : Hp) (h : s_X9_readExpression_j19 h0 l1 t0 σ = some (r, σ1)) (hx : xd X = (none, σ1)) : G E X 0 0 19 [(0, tR (some (h0))), (1, tI (l1))] [tI (t0)] σ := by
  unfold s_X9_readExpression_j19 at h
  refine g_istore_n (lm' := [(2, tI (t0)), (0, tR (some (h0))), (1, tI (l1))]) (pc := 19) C 2 dX9_readExpression_19 rfl (by decide) rfl ?_
  refine g_sub [1, 2, 0] (lm' := [(0, tR (some (h0))), (1, tI (l1)), (2, tI (t0))]) rfl ?_
  obtain ⟨KQ, hKQ, h1, σ4, hlh1, h⟩ := zcbK h
  refine w_X9_readExpression_l20 (KE := KQ) hE C hxn ?_ hlh1 h
  · intro h1 σ2 h
    have h := (hKQ _ _).mp h
    exact w_X9_readExpression_j76 hE C hxn _ _ _ _ h hx
noncomputable def s_X9_readExpression (h0 : Nat) (p1 : Int32) (σ : Hp) : Option (Unit × Hp) :=
  (wrI 9 σ h0 29 (0)).bind fun σ1 =>
  (wrI 9 σ1 h0 30 (0)).bind fun σ2 =>
  if p1 = 0 then
    s_X9_readExpression_j19 (h0) (p1) (1) σ2
  else
    s_X9_readExpression_j19 (h0) (p1) (0) σ2
set_option maxRecDepth 100000 in
theorem c_X9_readExpression {E : E0} (hE : EOK E) {h0 : Nat} {p1 : Int32} {σ σ1 : Hp} {r : Unit} (h : s_X9_readExpression h0 p1 σ = some (r, σ1)) : CT E yX9_readExpression (.code yX9_readExpression cX9_readExpression 3 none) rm_X9_readExpression [tR (some (h0)), tI (p1)] σ none σ1 := by
  refine CT.mk hE (by decide +kernel) (Nat.le_of_ble_eq_true rfl) [(0, tR (some (h0))), (1, tI (p1))] rfl (fun X C hin hx hxn => ?_)
  have C : XOK E X cX9_readExpression RX9 3 none rm_X9_readExpression := C
  unfold s_X9_readExpression at h
  refine g_aload_n (pc := 0) C 0 0 dX9_readExpression_0 rfl rfl ?_
  refine g_iconst (v := 0) (pc := 1) C dX9_readExpression_1 (by decide) ?_
  obtain ⟨σ1, hvσ1, h⟩ := zbind h
  refine g_putI (N := 58) (pc := 2) C ⟨ck_9, rfl, tyX9_ok⟩ hvσ1 rfl fl_X9_294 rfl rfl dX9_readExpression_2 ?_
  refine g_aload_n (pc := 5) C 0 0 dX9_readExpression_5 rfl rfl ?_
  refine g_iconst (v := 0) (pc := 6) C dX9_readExpression_6 (by decide) ?_
  obtain ⟨σ2, hvσ2, h⟩ := zbind h
  refine g_putI (N := 58) (pc := 7) C ⟨ck_9, rfl, tyX9_ok⟩ hvσ2 rfl fl_X9_315 rfl rfl dX9_readExpression_7 ?_
  refine g_iload_n (pc := 10) C 1 1 dX9_readExpression_10 rfl rfl ?_
  refine g_if_eq (pc := 11) C 18 dX9_readExpression_11 (by decide) (fun c3 => ?_) (fun c3 => ?_)
  · have h := zif_t c3 h
    refine g_iconst (v := 1) (pc := 18) C dX9_readExpression_18 (by decide) ?_
    exact w_X9_readExpression_j19 hE C hxn _ _ _ _ _ _ h hx
  · have h := zif_f c3 h
    refine g_iconst (v := 0) (pc := 14) C dX9_readExpression_14 (by decide) ?_
    refine g_goto (pc := 15) C 19 dX9_readExpression_15 (by decide) ?_
    exact w_X9_readExpression_j19 hE C hxn _ _ _ _ _ _ h hx
def rm_X9_beginText : Room := { frames := 3, cells := 0, slots := 0, locals := 60 }
noncomputable def s_X9_beginText (h0 : Nat) (p1 : Int32) (σ : Hp) : Option (Unit × Hp) :=
  (wrZ 9 σ h0 20 (p1)).bind fun σ1 =>
  (ck 9 σ1 h0).bind fun u2 =>
  cb (s_X9_begin h0 σ1) fun v4 σ3 =>
  (wrI 9 σ3 h0 21 (0)).bind fun σ5 =>
  (wrI 9 σ5 h0 23 (0)).bind fun σ6 =>
  (wrI 9 σ6 h0 26 (0)).bind fun σ7 =>
  some ((), σ7)
set_option maxRecDepth 100000 in
theorem c_X9_beginText {E : E0} (hE : EOK E) {h0 : Nat} {p1 : Int32} {σ σ1 : Hp} {r : Unit} (h : s_X9_beginText h0 p1 σ = some (r, σ1)) : CT E yX9_beginText (.code yX9_beginText cX9_beginText 2 none) rm_X9_beginText [tR (some (h0)), tI (p1)] σ none σ1 := by
  refine CT.mk hE (by decide +kernel) (Nat.le_of_ble_eq_true rfl) [(0, tR (some (h0))), (1, tI (p1))] rfl (fun X C hin hx hxn => ?_)
  have C : XOK E X cX9_beginText RX9 2 none rm_X9_beginText := C
  unfold s_X9_beginText at h
  refine g_aload_n (pc := 0) C 0 0 dX9_beginText_0 rfl rfl ?_
  refine g_iload_n (pc := 1) C 1 1 dX9_beginText_1 rfl rfl ?_
  obtain ⟨σ1, hvσ1, h⟩ := zbind h
  refine g_putZ (N := 58) (pc := 2) C ⟨ck_9, rfl, tyX9_ok⟩ hvσ1 rfl fl_X9_330 rfl rfl dX9_beginText_2 ?_
  refine g_aload_n (pc := 5) C 0 0 dX9_beginText_5 rfl rfl ?_
  obtain ⟨u2, hvu2, h⟩ := zbind h
  obtain ⟨v4, σ3, hvσ3, h⟩ := zcb h
  refine g_callV (pc := 6) (av := []) C (c_X9_begin hE hvσ3) yv_X9_begin ml_X9_381 ck_9 (zopt hvu2).1 rfl (rf_of (by decide)) rfl (Nat.le_of_ble_eq_true rfl) dX9_beginText_6 ?_
  refine g_aload_n (pc := 9) C 0 0 dX9_beginText_9 rfl rfl ?_
  refine g_iconst (v := 0) (pc := 10) C dX9_beginText_10 (by decide) ?_
  obtain ⟨σ5, hvσ5, h⟩ := zbind h
  refine g_putI (N := 58) (pc := 11) C ⟨ck_9, rfl, tyX9_ok⟩ hvσ5 rfl fl_X9_384 rfl rfl dX9_beginText_11 ?_
  refine g_aload_n (pc := 14) C 0 0 dX9_beginText_14 rfl rfl ?_
  refine g_iconst (v := 0) (pc := 15) C dX9_beginText_15 (by decide) ?_
  obtain ⟨σ6, hvσ6, h⟩ := zbind h
  refine g_putI (N := 58) (pc := 16) C ⟨ck_9, rfl, tyX9_ok⟩ hvσ6 rfl fl_X9_291 rfl rfl dX9_beginText_16 ?_
  refine g_aload_n (pc := 19) C 0 0 dX9_beginText_19 rfl rfl ?_
  refine g_iconst (v := 0) (pc := 20) C dX9_beginText_20 (by decide) ?_
  obtain ⟨σ7, hvσ7, h⟩ := zbind h
  refine g_putI (N := 58) (pc := 21) C ⟨ck_9, rfl, tyX9_ok⟩ hvσ7 rfl fl_X9_321 rfl rfl dX9_beginText_21 ?_
  obtain ⟨rfl, rfl⟩ := zsome h
  exact g_vret (pc := 24) C rfl hx (by rw [hxn]; rfl) (by rw [hxn]; rfl) dX9_beginText_24
def rm_X9_endText : Room := { frames := 3, cells := 0, slots := 0, locals := 61 }
noncomputable def s_X9_endText (h0 : Nat) (σ : Hp) : Option (Unit × Hp) :=
  (rdI 9 σ h0 19).bind fun v1 =>
  if v1 = 0 then
    (rdI 9 σ h0 16).bind fun v4 =>
    if v4 = 0 then
      (wrZ 9 σ h0 20 (0)).bind fun σ5 =>
      (wrI 9 σ5 h0 13 (0)).bind fun σ6 =>
      some ((), σ6)
    else
      (ck 9 σ h0).bind fun u7 =>
      cb (s_X9_must h0 (0) σ) fun v9 σ8 =>
      (wrZ 9 σ8 h0 20 (0)).bind fun σ10 =>
      (wrI 9 σ10 h0 13 (0)).bind fun σ11 =>
      some ((), σ11)
  else
    (wrZ 9 σ h0 20 (0)).bind fun σ2 =>
    (wrI 9 σ2 h0 13 (0)).bind fun σ3 =>
    some ((), σ3)
set_option maxRecDepth 100000 in
theorem c_X9_endText {E : E0} (hE : EOK E) {h0 : Nat} {σ σ1 : Hp} {r : Unit} (h : s_X9_endText h0 σ = some (r, σ1)) : CT E yX9_endText (.code yX9_endText cX9_endText 1 none) rm_X9_endText [tR (some (h0))] σ none σ1 := by
  refine CT.mk hE (by decide +kernel) (Nat.le_of_ble_eq_true rfl) [(0, tR (some (h0)))] rfl (fun X C hin hx hxn => ?_)
  have C : XOK E X cX9_endText RX9 1 none rm_X9_endText := C
  unfold s_X9_endText at h
  refine g_aload_n (pc := 0) C 0 0 dX9_endText_0 rfl rfl ?_
  obtain ⟨v1, hvv1, h⟩ := zbind h
  refine g_getI (N := 58) (pc := 1) C ck_9 hvv1 rfl rfl fl_X9_254 dX9_endText_1 ?_
  refine g_if_ne (pc := 4) C 19 dX9_endText_4 (by decide) (fun c13 => ?_) (fun c13 => ?_)
  · have h := zif_f c13 h
    refine g_aload_n (pc := 19) C 0 0 dX9_endText_19 rfl rfl ?_
    refine g_iconst (v := 0) (pc := 20) C dX9_endText_20 (by decide) ?_
    obtain ⟨σ2, hvσ2, h⟩ := zbind h
    refine g_putZ (N := 58) (pc := 21) C ⟨ck_9, rfl, tyX9_ok⟩ hvσ2 rfl fl_X9_330 rfl rfl dX9_endText_21 ?_
    refine g_aload_n (pc := 24) C 0 0 dX9_endText_24 rfl rfl ?_
    refine g_iconst (v := 0) (pc := 25) C dX9_endText_25 (by decide) ?_
    obtain ⟨σ3, hvσ3, h⟩ := zbind h
    refine g_putI (N := 58) (pc := 26) C ⟨ck_9, rfl, tyX9_ok⟩ hvσ3 rfl fl_X9_242 rfl rfl dX9_endText_26 ?_
    obtain ⟨rfl, rfl⟩ := zsome h
    exact g_vret (pc := 29) C rfl hx (by rw [hxn]; rfl) (by rw [hxn]; rfl) dX9_endText_29
  · have h := zif_t c13 h
    refine g_aload_n (pc := 7) C 0 0 dX9_endText_7 rfl rfl ?_
    obtain ⟨v4, hvv4, h⟩ := zbind h
    refine g_getI (N := 58) (pc := 8) C ck_9 hvv4 rfl rfl fl_X9_274 dX9_endText_8 ?_
    refine g_if_eq (pc := 11) C 19 dX9_endText_11 (by decide) (fun c12 => ?_) (fun c12 => ?_)
    · have h := zif_t c12 h
      refine g_aload_n (pc := 19) C 0 0 dX9_endText_19 rfl rfl ?_
      refine g_iconst (v := 0) (pc := 20) C dX9_endText_20 (by decide) ?_
      obtain ⟨σ5, hvσ5, h⟩ := zbind h
      refine g_putZ (N := 58) (pc := 21) C ⟨ck_9, rfl, tyX9_ok⟩ hvσ5 rfl fl_X9_330 rfl rfl dX9_endText_21 ?_
      refine g_aload_n (pc := 24) C 0 0 dX9_endText_24 rfl rfl ?_
      refine g_iconst (v := 0) (pc := 25) C dX9_endText_25 (by decide) ?_
      obtain ⟨σ6, hvσ6, h⟩ := zbind h
      refine g_putI (N := 58) (pc := 26) C ⟨ck_9, rfl, tyX9_ok⟩ hvσ6 rfl fl_X9_242 rfl rfl dX9_endText_26 ?_
      obtain ⟨rfl, rfl⟩ := zsome h
      exact g_vret (pc := 29) C rfl hx (by rw [hxn]; rfl) (by rw [hxn]; rfl) dX9_endText_29
    · have h := zif_f c12 h
      refine g_aload_n (pc := 14) C 0 0 dX9_endText_14 rfl rfl ?_
      refine g_iconst (v := 0) (pc := 15) C dX9_endText_15 (by decide) ?_
      obtain ⟨u7, hvu7, h⟩ := zbind h
      obtain ⟨v9, σ8, hvσ8, h⟩ := zcb h
      refine g_callV (pc := 16) (av := [tI (0)]) C (c_X9_must hE hvσ8) yv_X9_must ml_X9_287 ck_9 (zopt hvu7).1 rfl (rf_of (by decide)) rfl (Nat.le_of_ble_eq_true rfl) dX9_endText_16 ?_
      refine g_aload_n (pc := 19) C 0 0 dX9_endText_19 rfl rfl ?_
      refine g_iconst (v := 0) (pc := 20) C dX9_endText_20 (by decide) ?_
      obtain ⟨σ10, hvσ10, h⟩ := zbind h
      refine g_putZ (N := 58) (pc := 21) C ⟨ck_9, rfl, tyX9_ok⟩ hvσ10 rfl fl_X9_330 rfl rfl dX9_endText_21 ?_
      refine g_aload_n (pc := 24) C 0 0 dX9_endText_24 rfl rfl ?_
      refine g_iconst (v := 0) (pc := 25) C dX9_endText_25 (by decide) ?_
      obtain ⟨σ11, hvσ11, h⟩ := zbind h
      refine g_putI (N := 58) (pc := 26) C ⟨ck_9, rfl, tyX9_ok⟩ hvσ11 rfl fl_X9_242 rfl rfl dX9_endText_26 ?_
      obtain ⟨rfl, rfl⟩ := zsome h
      exact g_vret (pc := 29) C rfl hx (by rw [hxn]; rfl) (by rw [hxn]; rfl) dX9_endText_29
def rm_X9_readLaw : Room := { frames := 7, cells := 0, slots := 0, locals := 151 }
noncomputable def s_X9_readLaw_j27 (h0 : Nat) (l2 : Int32) (t0 : Int32) (σ : Hp) : Option (((Nat × Int32 × Int32) ⊕ ((Nat × Int32))) × Hp) :=
  some (Sum.inl ((h0), (t0), (l2 + 1)), σ)
set_option maxRecDepth 100000 in
theorem w_X9_readLaw_j27 {E : E0} (hE : EOK E) {X : X0} (C : XOK E X cX9_readLaw RX9 4 none rm_X9_readLaw) (hxn : xn X = (rm_X9_readLaw.cells, rm_X9_readLaw.slots)) {KE : ((Nat × Int32)) → Hp → Prop} (e_34 : ∀ (h0 : Nat) (l1 : Int32) (σ : Hp), KE ((h0, l1)) σ → G E X 0 0 34 [(0, tR (some (h0))), (1, tI (l1))] [] σ) (h0 : Nat) (l2 : Int32) (t0 : Int32) (σ : Hp) (x : (Nat × Int32 × Int32) ⊕ ((Nat × Int32))) (σ1 : Hp) (h : s_X9_readLaw_j27 h0 l2 t0 σ = some (x, σ1)) (hI : ∀ v, x = Sum.inl v → (fun (v : Nat × Int32 × Int32) (σ : Hp) => G E X 0 0 4 [(0, tR (some ((v.1)))), (1, tI ((v.2.1))), (2, tI ((v.2.2)))] [] σ) v σ1) (hO : ∀ e, x = Sum.inr e → KE e σ1) : G E X 0 0 27 [(0, tR (some (h0))), (2, tI (l2))] [tI (t0)] σ := by
  unfold s_X9_readLaw_j27 at h
  refine g_istore_n (lm' := [(1, tI (t0)), (0, tR (some (h0))), (2, tI (l2))]) (pc := 27) C 1 dX9_readLaw_27 rfl (by decide) rfl ?_
  refine g_iinc (lm' := [(2, tI (l2 + 1)), (1, tI (t0)), (0, tR (some (h0)))]) (v := l2 + 1) (pc := 28) C 2 dX9_readLaw_28 rfl rfl (by decide) rfl ?_
  refine g_goto (pc := 31) C 4 dX9_readLaw_31 (by decide) ?_
  refine g_sub [2, 1, 0] (lm' := [(0, tR (some (h0))), (1, tI (t0)), (2, tI (l2 + 1))]) rfl ?_
  obtain ⟨rfl, rfl⟩ := zsome h
  exact hI _ rfl
noncomputable def s_X9_readLaw_b4 (h0 : Nat) (l1 : Int32) (l2 : Int32) (σ : Hp) : Option (((Nat × Int32 × Int32) ⊕ ((Nat × Int32))) × Hp) :=
  if 3 ≤ l2 then
    some (Sum.inr ((h0), (l1)), σ)
  else
    (rdR 9 σ h0 33).bind fun r1 =>
    (r1).bind fun a2 =>
    (ldJ σ a2 (l2)).bind fun v3 =>
    (ck 9 σ h0).bind fun u4 =>
    cb (s_X9_isWord h0 (v3) σ) fun v6 σ5 =>
    if v6 = 0 then
      s_X9_readLaw_j27 (h0) (l2) (l1) σ5
    else
      s_X9_readLaw_j27 (h0) (l2) (l2) σ5
noncomputable def s_X9_readLaw_l4 : (Nat × Int32 × Int32) → Hp → Option (((Nat × Int32)) × Hp) := loopF (fun v => s_X9_readLaw_b4 (v.1) (v.2.1) (v.2.2))
set_option maxRecDepth 100000 in
theorem w_X9_readLaw_b4 {E : E0} (hE : EOK E) {X : X0} (C : XOK E X cX9_readLaw RX9 4 none rm_X9_readLaw) (hxn : xn X = (rm_X9_readLaw.cells, rm_X9_readLaw.slots)) {KE : ((Nat × Int32)) → Hp → Prop} (e_34 : ∀ (h0 : Nat) (l1 : Int32) (σ : Hp), KE ((h0, l1)) σ → G E X 0 0 34 [(0, tR (some (h0))), (1, tI (l1))] [] σ) (h0 : Nat) (l1 : Int32) (l2 : Int32) (σ : Hp) (x : (Nat × Int32 × Int32) ⊕ ((Nat × Int32))) (σ1 : Hp) (h : s_X9_readLaw_b4 h0 l1 l2 σ = some (x, σ1)) (hI : ∀ v, x = Sum.inl v → (fun (v : Nat × Int32 × Int32) (σ : Hp) => G E X 0 0 4 [(0, tR (some ((v.1)))), (1, tI ((v.2.1))), (2, tI ((v.2.2)))] [] σ) v σ1) (hO : ∀ e, x = Sum.inr e → KE e σ1) : G E X 0 0 4 [(0, tR (some (h0))), (1, tI (l1)), (2, tI (l2))] [] σ := by
  unfold s_X9_readLaw_b4 at h
  refine g_iload_n (pc := 4) C 2 2 dX9_readLaw_4 rfl rfl ?_
  refine g_iconst (v := 3) (pc := 5) C dX9_readLaw_5 (by decide) ?_
  refine g_icmp_ge (pc := 6) C 34 dX9_readLaw_6 (by decide) (fun c8 => ?_) (fun c8 => ?_)
  · have h := zif_t c8 h
    refine g_sub [0, 1] (lm' := [(0, tR (some (h0))), (1, tI (l1))]) rfl ?_
    obtain ⟨rfl, rfl⟩ := zsome h
    exact e_34 _ _ _ (hO _ rfl)
  · have h := zif_f c8 h
    refine g_aload_n (pc := 9) C 0 0 dX9_readLaw_9 rfl rfl ?_
    refine g_aload_n (pc := 10) C 0 0 dX9_readLaw_10 rfl rfl ?_
    obtain ⟨r1, hvr1, h⟩ := zbind h
    refine g_getR (N := 58) (pc := 11) C ck_9 hvr1 rfl rfl fl_X9_98 dX9_readLaw_11 ?_
    refine g_iload_n (pc := 14) C 2 2 dX9_readLaw_14 rfl rfl ?_
    obtain ⟨a2, hqa2, h9⟩ := zbind h
    clear h
    subst hqa2
    have h := h9
    clear h9
    obtain ⟨v3, hvv3, h⟩ := zbind h
    refine g_lald (pc := 15) C hvv3 dX9_readLaw_15 ?_
    obtain ⟨u4, hvu4, h⟩ := zbind h
    obtain ⟨v6, σ5, hvσ5, h⟩ := zcb h
    refine g_callV (pc := 16) (av := [tJ (v3)]) C (c_X9_isWord hE hvσ5) yv_X9_isWord ml_X9_312 ck_9 (zopt hvu4).1 rfl (rf_of (by decide)) rfl (Nat.le_of_ble_eq_true rfl) dX9_readLaw_16 ?_
    refine g_if_eq (pc := 19) C 26 dX9_readLaw_19 (by decide) (fun c7 => ?_) (fun c7 => ?_)
    · have h := zif_t c7 h
      refine g_iload_n (pc := 26) C 1 1 dX9_readLaw_26 rfl rfl ?_
      refine g_sub [0, 2] (lm' := [(0, tR (some (h0))), (2, tI (l2))]) rfl ?_
      exact w_X9_readLaw_j27 hE C hxn e_34 _ _ _ _ _ _ h hI hO
    · have h := zif_f c7 h
      refine g_iload_n (pc := 22) C 2 2 dX9_readLaw_22 rfl rfl ?_
      refine g_goto (pc := 23) C 27 dX9_readLaw_23 (by decide) ?_
      refine g_sub [0, 2] (lm' := [(0, tR (some (h0))), (2, tI (l2))]) rfl ?_
      exact w_X9_readLaw_j27 hE C hxn e_34 _ _ _ _ _ _ h hI hO
theorem w_X9_readLaw_l4 {E : E0} (hE : EOK E) {X : X0} (C : XOK E X cX9_readLaw RX9 4 none rm_X9_readLaw) (hxn : xn X = (rm_X9_readLaw.cells, rm_X9_readLaw.slots)) {KE : ((Nat × Int32)) → Hp → Prop} (e_34 : ∀ (h0 : Nat) (l1 : Int32) (σ : Hp), KE ((h0, l1)) σ → G E X 0 0 34 [(0, tR (some (h0))), (1, tI (l1))] [] σ) {v : Nat × Int32 × Int32} {σ : Hp} {e : (Nat × Int32)} {σ1 : Hp} (h : s_X9_readLaw_l4 v σ = some (e, σ1)) (hO : KE e σ1) : G E X 0 0 4 [(0, tR (some ((v.1)))), (1, tI ((v.2.1))), (2, tI ((v.2.2)))] [] σ := loopF_ind (P := fun (v : Nat × Int32 × Int32) (σ : Hp) => G E X 0 0 4 [(0, tR (some ((v.1)))), (1, tI ((v.2.1))), (2, tI ((v.2.2)))] [] σ) (KE := KE) (fun v σ x σ1 h hI hO => w_X9_readLaw_b4 hE C hxn e_34 (v.1) (v.2.1) (v.2.2) σ x σ1 h hI hO) v σ e σ1 h hO
noncomputable def s_X9_readLaw_b75 (h0 : Nat) (l1 : Int32) (l2 : Int32) (l3 : Int32) (σ : Hp) : Option (((Nat × Int32 × Int32 × Int32) ⊕ ((Nat × Int32 × Int32))) × Hp) :=
  if 8 ≤ l3 then
    some (Sum.inr ((h0), (l1), (l2)), σ)
  else
    (rdR 9 σ h0 22).bind fun r1 =>
    (r1).bind fun a2 =>
    (stI σ a2 (l2 + l3) (0)).bind fun σ3 =>
    some (Sum.inl ((h0), (l1), (l2), (l3 + 1)), σ3)
noncomputable def s_X9_readLaw_l75 : (Nat × Int32 × Int32 × Int32) → Hp → Option (((Nat × Int32 × Int32)) × Hp) := loopF (fun v => s_X9_readLaw_b75 (v.1) (v.2.1) (v.2.2.1) (v.2.2.2))
set_option maxRecDepth 100000 in
theorem w_X9_readLaw_b75 {E : E0} (hE : EOK E) {X : X0} (C : XOK E X cX9_readLaw RX9 4 none rm_X9_readLaw) (hxn : xn X = (rm_X9_readLaw.cells, rm_X9_readLaw.slots)) {KE : ((Nat × Int32 × Int32)) → Hp → Prop} (e_96 : ∀ (h0 : Nat) (l1 : Int32) (l2 : Int32) (σ : Hp), KE ((h0, l1, l2)) σ → G E X 0 0 96 [(0, tR (some (h0))), (1, tI (l1)), (2, tI (l2))] [] σ) (h0 : Nat) (l1 : Int32) (l2 : Int32) (l3 : Int32) (σ : Hp) (x : (Nat × Int32 × Int32 × Int32) ⊕ ((Nat × Int32 × Int32))) (σ1 : Hp) (h : s_X9_readLaw_b75 h0 l1 l2 l3 σ = some (x, σ1)) (hI : ∀ v, x = Sum.inl v → (fun (v : Nat × Int32 × Int32 × Int32) (σ : Hp) => G E X 0 0 75 [(0, tR (some ((v.1)))), (1, tI ((v.2.1))), (2, tI ((v.2.2.1))), (3, tI ((v.2.2.2)))] [] σ) v σ1) (hO : ∀ e, x = Sum.inr e → KE e σ1) : G E X 0 0 75 [(0, tR (some (h0))), (1, tI (l1)), (2, tI (l2)), (3, tI (l3))] [] σ := by
  unfold s_X9_readLaw_b75 at h
  refine g_iload_n (pc := 75) C 3 3 dX9_readLaw_75 rfl rfl ?_
  refine g_bipush (v := 8) (pc := 76) C dX9_readLaw_76 (by decide) ?_
  refine g_icmp_ge (pc := 78) C 96 dX9_readLaw_78 (by decide) (fun c4 => ?_) (fun c4 => ?_)
  · have h := zif_t c4 h
    refine g_sub [0, 1, 2] (lm' := [(0, tR (some (h0))), (1, tI (l1)), (2, tI (l2))]) rfl ?_
    obtain ⟨rfl, rfl⟩ := zsome h
    exact e_96 _ _ _ _ (hO _ rfl)
  · have h := zif_f c4 h
    refine g_aload_n (pc := 81) C 0 0 dX9_readLaw_81 rfl rfl ?_
    obtain ⟨r1, hvr1, h⟩ := zbind h
    refine g_getR (N := 58) (pc := 82) C ck_9 hvr1 rfl rfl fl_X9_42 dX9_readLaw_82 ?_
    refine g_iload_n (pc := 85) C 2 2 dX9_readLaw_85 rfl rfl ?_
    refine g_iload_n (pc := 86) C 3 3 dX9_readLaw_86 rfl rfl ?_
    refine g_iadd (pc := 87) C dX9_readLaw_87 ?_
    refine g_iconst (v := 0) (pc := 88) C dX9_readLaw_88 (by decide) ?_
    obtain ⟨a2, hqa2, h9⟩ := zbind h
    clear h
    subst hqa2
    have h := h9
    clear h9
    obtain ⟨σ3, hvσ3, h⟩ := zbind h
    refine g_iast (pc := 89) C hvσ3 dX9_readLaw_89 ?_
    refine g_iinc (lm' := [(3, tI (l3 + 1)), (0, tR (some (h0))), (1, tI (l1)), (2, tI (l2))]) (v := l3 + 1) (pc := 90) C 3 dX9_readLaw_90 rfl rfl (by decide) rfl ?_
    refine g_goto (pc := 93) C 75 dX9_readLaw_93 (by decide) ?_
    refine g_sub [1, 2, 3, 0] (lm' := [(0, tR (some (h0))), (1, tI (l1)), (2, tI (l2)), (3, tI (l3 + 1))]) rfl ?_
    obtain ⟨rfl, rfl⟩ := zsome h
    exact hI _ rfl
theorem w_X9_readLaw_l75 {E : E0} (hE : EOK E) {X : X0} (C : XOK E X cX9_readLaw RX9 4 none rm_X9_readLaw) (hxn : xn X = (rm_X9_readLaw.cells, rm_X9_readLaw.slots)) {KE : ((Nat × Int32 × Int32)) → Hp → Prop} (e_96 : ∀ (h0 : Nat) (l1 : Int32) (l2 : Int32) (σ : Hp), KE ((h0, l1, l2)) σ → G E X 0 0 96 [(0, tR (some (h0))), (1, tI (l1)), (2, tI (l2))] [] σ) {v : Nat × Int32 × Int32 × Int32} {σ : Hp} {e : (Nat × Int32 × Int32)} {σ1 : Hp} (h : s_X9_readLaw_l75 v σ = some (e, σ1)) (hO : KE e σ1) : G E X 0 0 75 [(0, tR (some ((v.1)))), (1, tI ((v.2.1))), (2, tI ((v.2.2.1))), (3, tI ((v.2.2.2)))] [] σ := loopF_ind (P := fun (v : Nat × Int32 × Int32 × Int32) (σ : Hp) => G E X 0 0 75 [(0, tR (some ((v.1)))), (1, tI ((v.2.1))), (2, tI ((v.2.2.1))), (3, tI ((v.2.2.2)))] [] σ) (KE := KE) (fun v σ x σ1 h hI hO => w_X9_readLaw_b75 hE C hxn e_96 (v.1) (v.2.1) (v.2.2.1) (v.2.2.2) σ x σ1 h hI hO) v σ e σ1 h hO
noncomputable def s_X9_readLaw_j185 (h0 : Nat) (l2 : Int32) (σ : Hp) : Option (Unit × Hp) :=
  (rdR 9 σ h0 22).bind fun r1 =>
  (rdI 9 σ h0 23).bind fun v2 =>
  (r1).bind fun a3 =>
  (stI σ a3 (l2 + 6) (v2)).bind fun σ4 =>
  some ((), σ4)
set_option maxRecDepth 100000 in
theorem w_X9_readLaw_j185 {E : E0} (hE : EOK E) {X : X0} (C : XOK E X cX9_readLaw RX9 4 none rm_X9_readLaw) (hxn : xn X = (rm_X9_readLaw.cells, rm_X9_readLaw.slots)) (h0 : Nat) (l2 : Int32) (σ : Hp) (r : Unit) (σ1 : Hp) (h : s_X9_readLaw_j185 h0 l2 σ = some (r, σ1)) (hx : xd X = (none, σ1)) : G E X 0 0 185 [(0, tR (some (h0))), (2, tI (l2))] [] σ := by
  unfold s_X9_readLaw_j185 at h
  refine g_aload_n (pc := 185) C 0 0 dX9_readLaw_185 rfl rfl ?_
  obtain ⟨r1, hvr1, h⟩ := zbind h
  refine g_getR (N := 58) (pc := 186) C ck_9 hvr1 rfl rfl fl_X9_42 dX9_readLaw_186 ?_
  refine g_iload_n (pc := 189) C 2 1 dX9_readLaw_189 rfl rfl ?_
  refine g_bipush (v := 6) (pc := 190) C dX9_readLaw_190 (by decide) ?_
  refine g_iadd (pc := 192) C dX9_readLaw_192 ?_
  refine g_aload_n (pc := 193) C 0 0 dX9_readLaw_193 rfl rfl ?_
  obtain ⟨v2, hvv2, h⟩ := zbind h
  refine g_getI (N := 58) (pc := 194) C ck_9 hvv2 rfl rfl fl_X9_291 dX9_readLaw_194 ?_
  obtain ⟨a3, hqa3, h9⟩ := zbind h
  clear h
  subst hqa3
  have h := h9
  clear h9
  obtain ⟨σ4, hvσ4, h⟩ := zbind h
  refine g_iast (pc := 197) C hvσ4 dX9_readLaw_197 ?_
  obtain ⟨rfl, rfl⟩ := zsome h
  exact g_vret (pc := 198) C rfl hx (by rw [hxn]; rfl) (by rw [hxn]; rfl) dX9_readLaw_198
noncomputable def s_X9_readLaw_j135 (h0 : Nat) (l2 : Int32) (σ : Hp) : Option (Unit × Hp) :=
  (rdR 9 σ h0 22).bind fun r1 =>
  (rdI 9 σ h0 23).bind fun v2 =>
  (r1).bind fun a3 =>
  (stI σ a3 (l2 + 4) (v2)).bind fun σ4 =>
  (rdR 9 σ4 h0 22).bind fun r5 =>
  (rdI 9 σ4 h0 23).bind fun v6 =>
  (r5).bind fun a7 =>
  (stI σ4 a7 (l2 + 5) (v6)).bind fun σ8 =>
  (rdI 9 σ8 h0 19).bind fun v9 =>
  if v9 = 0 then
    (ck 9 σ8 h0).bind fun u10 =>
    cb (s_X9_isWord h0 (294) σ8) fun v12 σ11 =>
    if v12 = 0 then
      s_X9_readLaw_j185 (h0) (l2) σ11
    else
      (ck 9 σ11 h0).bind fun u13 =>
      cb (s_X9_next h0 σ11) fun v15 σ14 =>
      (ck 9 σ14 h0).bind fun u16 =>
      cb (s_X9_readExpression h0 (1) σ14) fun v18 σ17 =>
      s_X9_readLaw_j185 (h0) (l2) σ17
  else
    s_X9_readLaw_j185 (h0) (l2) σ8
set_option maxRecDepth 100000 in
theorem w_X9_readLaw_j135 {E : E0} (hE : EOK E) {X : X0} (C : XOK E X cX9_readLaw RX9 4 none rm_X9_readLaw) (hxn : xn X = (rm_X9_readLaw.cells, rm_X9_readLaw.slots)) (h0 : Nat) (l2 : Int32) (σ : Hp) (r : Unit) (σ1 : Hp) (h : s_X9_readLaw_j135 h0 l2 σ = some (r, σ1)) (hx : xd X = (none, σ1)) : G E X 0 0 135 [(0, tR (some (h0))), (2, tI (l2))] [] σ := by
  unfold s_X9_readLaw_j135 at h
  refine g_aload_n (pc := 135) C 0 0 dX9_readLaw_135 rfl rfl ?_
  obtain ⟨r1, hvr1, h⟩ := zbind h
  refine g_getR (N := 58) (pc := 136) C ck_9 hvr1 rfl rfl fl_X9_42 dX9_readLaw_136 ?_
  refine g_iload_n (pc := 139) C 2 1 dX9_readLaw_139 rfl rfl ?_
  refine g_iconst (v := 4) (pc := 140) C dX9_readLaw_140 (by decide) ?_
  refine g_iadd (pc := 141) C dX9_readLaw_141 ?_
  refine g_aload_n (pc := 142) C 0 0 dX9_readLaw_142 rfl rfl ?_
  obtain ⟨v2, hvv2, h⟩ := zbind h
  refine g_getI (N := 58) (pc := 143) C ck_9 hvv2 rfl rfl fl_X9_291 dX9_readLaw_143 ?_
  obtain ⟨a3, hqa3, h9⟩ := zbind h
  clear h
  subst hqa3
  have h := h9
  clear h9
  obtain ⟨σ4, hvσ4, h⟩ := zbind h
  refine g_iast (pc := 146) C hvσ4 dX9_readLaw_146 ?_
  refine g_aload_n (pc := 147) C 0 0 dX9_readLaw_147 rfl rfl ?_
  obtain ⟨r5, hvr5, h⟩ := zbind h
  refine g_getR (N := 58) (pc := 148) C ck_9 hvr5 rfl rfl fl_X9_42 dX9_readLaw_148 ?_
  refine g_iload_n (pc := 151) C 2 1 dX9_readLaw_151 rfl rfl ?_
  refine g_iconst (v := 5) (pc := 152) C dX9_readLaw_152 (by decide) ?_
  refine g_iadd (pc := 153) C dX9_readLaw_153 ?_
  refine g_aload_n (pc := 154) C 0 0 dX9_readLaw_154 rfl rfl ?_
  obtain ⟨v6, hvv6, h⟩ := zbind h
  refine g_getI (N := 58) (pc := 155) C ck_9 hvv6 rfl rfl fl_X9_291 dX9_readLaw_155 ?_
  obtain ⟨a7, hqa7, h9⟩ := zbind h
  clear h
  subst hqa7
  have h := h9
  clear h9
  obtain ⟨σ8, hvσ8, h⟩ := zbind h
  refine g_iast (pc := 158) C hvσ8 dX9_readLaw_158 ?_
  refine g_aload_n (pc := 159) C 0 0 dX9_readLaw_159 rfl rfl ?_
  obtain ⟨v9, hvv9, h⟩ := zbind h
  refine g_getI (N := 58) (pc := 160) C ck_9 hvv9 rfl rfl fl_X9_254 dX9_readLaw_160 ?_
  refine g_if_ne (pc := 163) C 185 dX9_readLaw_163 (by decide) (fun c20 => ?_) (fun c20 => ?_)
  · have h := zif_f c20 h
    exact w_X9_readLaw_j185 hE C hxn _ _ _ _ _ h hx
  · have h := zif_t c20 h
    refine g_aload_n (pc := 166) C 0 0 dX9_readLaw_166 rfl rfl ?_
    refine g_ldc2 (v := 294) (pc := 167) C dX9_readLaw_167 kl_X9_390 ?_
    obtain ⟨u10, hvu10, h⟩ := zbind h
    obtain ⟨v12, σ11, hvσ11, h⟩ := zcb h
    refine g_callV (pc := 170) (av := [tJ (294)]) C (c_X9_isWord hE hvσ11) yv_X9_isWord ml_X9_312 ck_9 (zopt hvu10).1 rfl (rf_of (by decide)) rfl (Nat.le_of_ble_eq_true rfl) dX9_readLaw_170 ?_
    refine g_if_eq (pc := 173) C 185 dX9_readLaw_173 (by decide) (fun c19 => ?_) (fun c19 => ?_)
    · have h := zif_t c19 h
      exact w_X9_readLaw_j185 hE C hxn _ _ _ _ _ h hx
    · have h := zif_f c19 h
      refine g_aload_n (pc := 176) C 0 0 dX9_readLaw_176 rfl rfl ?_
      obtain ⟨u13, hvu13, h⟩ := zbind h
      obtain ⟨v15, σ14, hvσ14, h⟩ := zcb h
      refine g_callV (pc := 177) (av := []) C (c_X9_next hE hvσ14) yv_X9_next ml_X9_258 ck_9 (zopt hvu13).1 rfl (rf_of (by decide)) rfl (Nat.le_of_ble_eq_true rfl) dX9_readLaw_177 ?_
      refine g_aload_n (pc := 180) C 0 0 dX9_readLaw_180 rfl rfl ?_
      refine g_iconst (v := 1) (pc := 181) C dX9_readLaw_181 (by decide) ?_
      obtain ⟨u16, hvu16, h⟩ := zbind h
      obtain ⟨v18, σ17, hvσ17, h⟩ := zcb h
      refine g_callV (pc := 182) (av := [tI (1)]) C (c_X9_readExpression hE hvσ17) yv_X9_readExpression ml_X9_387 ck_9 (zopt hvu16).1 rfl (rf_of (by decide)) rfl (Nat.le_of_ble_eq_true rfl) dX9_readLaw_182 ?_
      exact w_X9_readLaw_j185 hE C hxn _ _ _ _ _ h hx
noncomputable def s_X9_readLaw_j54 (h0 : Nat) (l1 : Int32) (t0 : Option Nat) (t1 : Int32) (σ : Hp) : Option (Unit × Hp) :=
  (t0).bind fun a1 =>
  (ck 9 σ a1).bind fun u2 =>
  cb (s_X9_must a1 (t1) σ) fun v4 σ3 =>
  (rdI 9 σ3 h0 19).bind fun v5 =>
  if v5 = 0 then
    (rdI 9 σ3 h0 21).bind fun v6 =>
    cb (s_X9_readLaw_l75 ((h0), (l1), (8 * v6), (0)) σ3) fun e26 σ25 =>
    match e26 with
    | (h7, l18, l29) =>
      (rdR 9 σ25 h7 22).bind fun r11 =>
      (r11).bind fun a12 =>
      (stI σ25 a12 (l29) (l18)).bind fun σ13 =>
      (rdI 9 σ13 h7 21).bind fun v14 =>
      (wrI 9 σ13 h7 21 (v14 + 1)).bind fun σ15 =>
      (rdR 9 σ15 h7 22).bind fun r16 =>
      (rdI 9 σ15 h7 23).bind fun v17 =>
      (r16).bind fun a18 =>
      (stI σ15 a18 (l29 + 3) (v17)).bind fun σ19 =>
      if l18 = 2 then
        s_X9_readLaw_j135 (h7) (l29) σ19
      else
        (ck 9 σ19 h7).bind fun u20 =>
        cb (s_X9_readExpression h7 (0) σ19) fun v22 σ21 =>
        s_X9_readLaw_j135 (h7) (l29) σ21
  else
    some ((), σ3)
set_option maxRecDepth 100000 in
theorem w_X9_readLaw_j54 {E : E0} (hE : EOK E) {X : X0} (C : XOK E X cX9_readLaw RX9 4 none rm_X9_readLaw) (hxn : xn X = (rm_X9_readLaw.cells, rm_X9_readLaw.slots)) (h0 : Nat) (l1 : Int32) (t0 : Option Nat) (t1 : Int32) (σ : Hp) (r : Unit) (σ1 : Hp) (h : s_X9_readLaw_j54 h0 l1 t0 t1 σ = some (r, σ1)) (hx : xd X = (none, σ1)) : G E X 0 0 54 [(0, tR (some (h0))), (1, tI (l1))] [tI (t1), tR (t0)] σ := by
  unfold s_X9_readLaw_j54 at h
  obtain ⟨a1, hqa1, h9⟩ := zbind h
  clear h
  subst hqa1
  have h := h9
  clear h9
  obtain ⟨u2, hvu2, h⟩ := zbind h
  obtain ⟨v4, σ3, hvσ3, h⟩ := zcb h
  refine g_callV (pc := 54) (av := [tI (t1)]) C (c_X9_must hE hvσ3) yv_X9_must ml_X9_287 ck_9 (zopt hvu2).1 rfl (rf_of (by decide)) rfl (Nat.le_of_ble_eq_true rfl) dX9_readLaw_54 ?_
  refine g_aload_n (pc := 57) C 0 0 dX9_readLaw_57 rfl rfl ?_
  obtain ⟨v5, hvv5, h⟩ := zbind h
  refine g_getI (N := 58) (pc := 58) C ck_9 hvv5 rfl rfl fl_X9_254 dX9_readLaw_58 ?_
  refine g_if_eq (pc := 61) C 65 dX9_readLaw_61 (by decide) (fun c27 => ?_) (fun c27 => ?_)
  · have h := zif_t c27 h
    refine g_bipush (v := 8) (pc := 65) C dX9_readLaw_65 (by decide) ?_
    refine g_aload_n (pc := 67) C 0 0 dX9_readLaw_67 rfl rfl ?_
    obtain ⟨v6, hvv6, h⟩ := zbind h
    refine g_getI (N := 58) (pc := 68) C ck_9 hvv6 rfl rfl fl_X9_384 dX9_readLaw_68 ?_
    refine g_imul (pc := 71) C dX9_readLaw_71 ?_
    refine g_istore_n (lm' := [(2, tI (8 * v6)), (0, tR (some (h0))), (1, tI (l1))]) (pc := 72) C 2 dX9_readLaw_72 rfl (by decide) rfl ?_
    refine g_iconst (v := 0) (pc := 73) C dX9_readLaw_73 (by decide) ?_
    refine g_istore_n (lm' := [(3, tI (0)), (2, tI (8 * v6)), (0, tR (some (h0))), (1, tI (l1))]) (pc := 74) C 3 dX9_readLaw_74 rfl (by decide) rfl ?_
    refine g_sub [2, 3, 1, 0] (lm' := [(0, tR (some (h0))), (1, tI (l1)), (2, tI (8 * v6)), (3, tI (0))]) rfl ?_
    obtain ⟨KQ, hKQ, e26, σ25, hle26, h⟩ := zcbK h
    refine w_X9_readLaw_l75 (KE := KQ) hE C hxn ?_ hle26 h
    · intro h7 l18 l29 σ10 h
      have h := (hKQ _ _).mp h
      refine g_aload_n (pc := 96) C 0 0 dX9_readLaw_96 rfl rfl ?_
      obtain ⟨r11, hvr11, h⟩ := zbind h
      refine g_getR (N := 58) (pc := 97) C ck_9 hvr11 rfl rfl fl_X9_42 dX9_readLaw_97 ?_
      refine g_iload_n (pc := 100) C 2 2 dX9_readLaw_100 rfl rfl ?_
      refine g_iload_n (pc := 101) C 1 1 dX9_readLaw_101 rfl rfl ?_
      obtain ⟨a12, hqa12, h9⟩ := zbind h
      clear h
      subst hqa12
      have h := h9
      clear h9
      obtain ⟨σ13, hvσ13, h⟩ := zbind h
      refine g_iast (pc := 102) C hvσ13 dX9_readLaw_102 ?_
      refine g_aload_n (pc := 103) C 0 0 dX9_readLaw_103 rfl rfl ?_
      refine g_dup (pc := 104) C dX9_readLaw_104 rfl ?_
      obtain ⟨v14, hvv14, h⟩ := zbind h
      refine g_getI (N := 58) (pc := 105) C ck_9 hvv14 rfl rfl fl_X9_384 dX9_readLaw_105 ?_
      refine g_iconst (v := 1) (pc := 108) C dX9_readLaw_108 (by decide) ?_
      refine g_iadd (pc := 109) C dX9_readLaw_109 ?_
      obtain ⟨σ15, hvσ15, h⟩ := zbind h
      refine g_putI (N := 58) (pc := 110) C ⟨ck_9, rfl, tyX9_ok⟩ hvσ15 rfl fl_X9_384 rfl rfl dX9_readLaw_110 ?_
      refine g_aload_n (pc := 113) C 0 0 dX9_readLaw_113 rfl rfl ?_
      obtain ⟨r16, hvr16, h⟩ := zbind h
      refine g_getR (N := 58) (pc := 114) C ck_9 hvr16 rfl rfl fl_X9_42 dX9_readLaw_114 ?_
      refine g_iload_n (pc := 117) C 2 2 dX9_readLaw_117 rfl rfl ?_
      refine g_iconst (v := 3) (pc := 118) C dX9_readLaw_118 (by decide) ?_
      refine g_iadd (pc := 119) C dX9_readLaw_119 ?_
      refine g_aload_n (pc := 120) C 0 0 dX9_readLaw_120 rfl rfl ?_
      obtain ⟨v17, hvv17, h⟩ := zbind h
      refine g_getI (N := 58) (pc := 121) C ck_9 hvv17 rfl rfl fl_X9_291 dX9_readLaw_121 ?_
      obtain ⟨a18, hqa18, h9⟩ := zbind h
      clear h
      subst hqa18
      have h := h9
      clear h9
      obtain ⟨σ19, hvσ19, h⟩ := zbind h
      refine g_iast (pc := 124) C hvσ19 dX9_readLaw_124 ?_
      refine g_iload_n (pc := 125) C 1 1 dX9_readLaw_125 rfl rfl ?_
      refine g_iconst (v := 2) (pc := 126) C dX9_readLaw_126 (by decide) ?_
      refine g_icmp_eq (pc := 127) C 135 dX9_readLaw_127 (by decide) (fun c23 => ?_) (fun c23 => ?_)
      · have h := zif_t c23 h
        refine g_sub [0, 2] (lm' := [(0, tR (some (h7))), (2, tI (l29))]) rfl ?_
        exact w_X9_readLaw_j135 hE C hxn _ _ _ _ _ h hx
      · have h := zif_f c23 h
        refine g_aload_n (pc := 130) C 0 0 dX9_readLaw_130 rfl rfl ?_
        refine g_iconst (v := 0) (pc := 131) C dX9_readLaw_131 (by decide) ?_
        obtain ⟨u20, hvu20, h⟩ := zbind h
        obtain ⟨v22, σ21, hvσ21, h⟩ := zcb h
        refine g_callV (pc := 132) (av := [tI (0)]) C (c_X9_readExpression hE hvσ21) yv_X9_readExpression ml_X9_387 ck_9 (zopt hvu20).1 rfl (rf_of (by decide)) rfl (Nat.le_of_ble_eq_true rfl) dX9_readLaw_132 ?_
        refine g_sub [0, 2] (lm' := [(0, tR (some (h7))), (2, tI (l29))]) rfl ?_
        exact w_X9_readLaw_j135 hE C hxn _ _ _ _ _ h hx
  · have h := zif_f c27 h
    obtain ⟨rfl, rfl⟩ := zsome h
    exact g_vret (pc := 64) C rfl hx (by rw [hxn]; rfl) (by rw [hxn]; rfl) dX9_readLaw_64
noncomputable def s_X9_readLaw_j53 (h0 : Nat) (l1 : Int32) (t0 : Option Nat) (σ : Hp) : Option (Unit × Hp) :=
  s_X9_readLaw_j54 (h0) (l1) (t0) (0) σ
set_option maxRecDepth 100000 in
theorem w_X9_readLaw_j53 {E : E0} (hE : EOK E) {X : X0} (C : XOK E X cX9_readLaw RX9 4 none rm_X9_readLaw) (hxn : xn X = (rm_X9_readLaw.cells, rm_X9_readLaw.slots)) (h0 : Nat) (l1 : Int32) (t0 : Option Nat) (σ : Hp) (r : Unit) (σ1 : Hp) (h : s_X9_readLaw_j53 h0 l1 t0 σ = some (r, σ1)) (hx : xd X = (none, σ1)) : G E X 0 0 53 [(0, tR (some (h0))), (1, tI (l1))] [tR (t0)] σ := by
  unfold s_X9_readLaw_j53 at h
  refine g_iconst (v := 0) (pc := 53) C dX9_readLaw_53 (by decide) ?_
  exact w_X9_readLaw_j54 hE C hxn _ _ _ _ _ _ _ h hx
noncomputable def s_X9_readLaw (h0 : Nat) (σ : Hp) : Option (Unit × Hp) :=
  cb (s_X9_readLaw_l4 ((h0), ((-1)), (0)) σ) fun e9 σ8 =>
  match e9 with
  | (h1, l12) =>
    if l12 = (-1) then
      s_X9_readLaw_j53 (h1) (l12) (some (h1)) σ8
    else
      (rdI 9 σ8 h1 21).bind fun v4 =>
      if 12 ≤ v4 then
        s_X9_readLaw_j53 (h1) (l12) (some (h1)) σ8
      else
        s_X9_readLaw_j54 (h1) (l12) (some (h1)) (1) σ8
set_option maxRecDepth 100000 in
theorem c_X9_readLaw {E : E0} (hE : EOK E) {h0 : Nat} {σ σ1 : Hp} {r : Unit} (h : s_X9_readLaw h0 σ = some (r, σ1)) : CT E yX9_readLaw (.code yX9_readLaw cX9_readLaw 4 none) rm_X9_readLaw [tR (some (h0))] σ none σ1 := by
  refine CT.mk hE (by decide +kernel) (Nat.le_of_ble_eq_true rfl) [(0, tR (some (h0)))] rfl (fun X C hin hx hxn => ?_)
  have C : XOK E X cX9_readLaw RX9 4 none rm_X9_readLaw := C
  unfold s_X9_readLaw at h
  refine g_iconst (v := (-1)) (pc := 0) C dX9_readLaw_0 (by decide) ?_
  refine g_istore_n (lm' := [(1, tI ((-1))), (0, tR (some (h0)))]) (pc := 1) C 1 dX9_readLaw_1 rfl (by decide) rfl ?_
  refine g_iconst (v := 0) (pc := 2) C dX9_readLaw_2 (by decide) ?_
  refine g_istore_n (lm' := [(2, tI (0)), (1, tI ((-1))), (0, tR (some (h0)))]) (pc := 3) C 2 dX9_readLaw_3 rfl (by decide) rfl ?_
  refine g_sub [2, 1, 0] (lm' := [(0, tR (some (h0))), (1, tI ((-1))), (2, tI (0))]) rfl ?_
  obtain ⟨KQ, hKQ, e9, σ8, hle9, h⟩ := zcbK h
  refine w_X9_readLaw_l4 (KE := KQ) hE C hxn ?_ hle9 h
  · intro h1 l12 σ3 h
    have h := (hKQ _ _).mp h
    refine g_aload_n (pc := 34) C 0 0 dX9_readLaw_34 rfl rfl ?_
    refine g_iload_n (pc := 35) C 1 1 dX9_readLaw_35 rfl rfl ?_
    refine g_iconst (v := (-1)) (pc := 36) C dX9_readLaw_36 (by decide) ?_
    refine g_icmp_eq (pc := 37) C 53 dX9_readLaw_37 (by decide) (fun c6 => ?_) (fun c6 => ?_)
    · have h := zif_t c6 h
      exact w_X9_readLaw_j53 hE C hxn _ _ _ _ _ _ h hx
    · have h := zif_f c6 h
      refine g_aload_n (pc := 40) C 0 0 dX9_readLaw_40 rfl rfl ?_
      obtain ⟨v4, hvv4, h⟩ := zbind h
      refine g_getI (N := 58) (pc := 41) C ck_9 hvv4 rfl rfl fl_X9_384 dX9_readLaw_41 ?_
      refine g_bipush (v := 12) (pc := 44) C dX9_readLaw_44 (by decide) ?_
      refine g_icmp_ge (pc := 46) C 53 dX9_readLaw_46 (by decide) (fun c5 => ?_) (fun c5 => ?_)
      · have h := zif_t c5 h
        exact w_X9_readLaw_j53 hE C hxn _ _ _ _ _ _ h hx
      · have h := zif_f c5 h
        refine g_iconst (v := 1) (pc := 49) C dX9_readLaw_49 (by decide) ?_
        refine g_goto (pc := 50) C 54 dX9_readLaw_50 (by decide) ?_
        exact w_X9_readLaw_j54 hE C hxn _ _ _ _ _ _ _ h hx
def rm_X9_law : Room := { frames := 8, cells := 0, slots := 0, locals := 174 }
noncomputable def s_X9_law_b37 (h0 : Nat) (σ : Hp) : Option (((Nat) ⊕ (Nat)) × Hp) :=
  (rdI 9 σ h0 19).bind fun v1 =>
  if v1 = 0 then
    (ck 9 σ h0).bind fun u2 =>
    cb (s_X9_isSign h0 (59) σ) fun v4 σ3 =>
    if v4 = 0 then
      some (Sum.inr (h0), σ3)
    else
      (ck 9 σ3 h0).bind fun u5 =>
      cb (s_X9_next h0 σ3) fun v7 σ6 =>
      (ck 9 σ6 h0).bind fun u8 =>
      cb (s_X9_readLaw h0 σ6) fun v10 σ9 =>
      some (Sum.inl (h0), σ9)
  else
    some (Sum.inr (h0), σ)
noncomputable def s_X9_law_l37 : (Nat) → Hp → Option ((Nat) × Hp) := loopF (fun v => s_X9_law_b37 v)
set_option maxRecDepth 100000 in
theorem w_X9_law_b37 {E : E0} (hE : EOK E) {X : X0} (C : XOK E X cX9_law RX9 3 (some .int) rm_X9_law) (hxn : xn X = (rm_X9_law.cells, rm_X9_law.slots)) {KE : (Nat) → Hp → Prop} (e_64 : ∀ (h0 : Nat) (σ : Hp), KE (h0) σ → G E X 0 0 64 [(0, tR (some (h0)))] [] σ) (h0 : Nat) (σ : Hp) (x : (Nat) ⊕ (Nat)) (σ1 : Hp) (h : s_X9_law_b37 h0 σ = some (x, σ1)) (hI : ∀ v, x = Sum.inl v → (fun (v : Nat) (σ : Hp) => G E X 0 0 37 [(0, tR (some (v)))] [] σ) v σ1) (hO : ∀ e, x = Sum.inr e → KE e σ1) : G E X 0 0 37 [(0, tR (some (h0)))] [] σ := by
  unfold s_X9_law_b37 at h
  refine g_aload_n (pc := 37) C 0 0 dX9_law_37 rfl rfl ?_
  obtain ⟨v1, hvv1, h⟩ := zbind h
  refine g_getI (N := 58) (pc := 38) C ck_9 hvv1 rfl rfl fl_X9_254 dX9_law_38 ?_
  refine g_if_ne (pc := 41) C 64 dX9_law_41 (by decide) (fun c12 => ?_) (fun c12 => ?_)
  · have h := zif_f c12 h
    obtain ⟨rfl, rfl⟩ := zsome h
    exact e_64 _ _ (hO _ rfl)
  · have h := zif_t c12 h
    refine g_aload_n (pc := 44) C 0 0 dX9_law_44 rfl rfl ?_
    refine g_bipush (v := 59) (pc := 45) C dX9_law_45 (by decide) ?_
    obtain ⟨u2, hvu2, h⟩ := zbind h
    obtain ⟨v4, σ3, hvσ3, h⟩ := zcb h
    refine g_callV (pc := 47) (av := [tI (59)]) C (c_X9_isSign hE hvσ3) yv_X9_isSign ml_X9_324 ck_9 (zopt hvu2).1 rfl (rf_of (by decide)) rfl (Nat.le_of_ble_eq_true rfl) dX9_law_47 ?_
    refine g_if_eq (pc := 50) C 64 dX9_law_50 (by decide) (fun c11 => ?_) (fun c11 => ?_)
    · have h := zif_t c11 h
      obtain ⟨rfl, rfl⟩ := zsome h
      exact e_64 _ _ (hO _ rfl)
    · have h := zif_f c11 h
      refine g_aload_n (pc := 53) C 0 0 dX9_law_53 rfl rfl ?_
      obtain ⟨u5, hvu5, h⟩ := zbind h
      obtain ⟨v7, σ6, hvσ6, h⟩ := zcb h
      refine g_callV (pc := 54) (av := []) C (c_X9_next hE hvσ6) yv_X9_next ml_X9_258 ck_9 (zopt hvu5).1 rfl (rf_of (by decide)) rfl (Nat.le_of_ble_eq_true rfl) dX9_law_54 ?_
      refine g_aload_n (pc := 57) C 0 0 dX9_law_57 rfl rfl ?_
      obtain ⟨u8, hvu8, h⟩ := zbind h
      obtain ⟨v10, σ9, hvσ9, h⟩ := zcb h
      refine g_callV (pc := 58) (av := []) C (c_X9_readLaw hE hvσ9) yv_X9_readLaw ml_X9_395 ck_9 (zopt hvu8).1 rfl (rf_of (by decide)) rfl (Nat.le_of_ble_eq_true rfl) dX9_law_58 ?_
      refine g_goto (pc := 61) C 37 dX9_law_61 (by decide) ?_
      obtain ⟨rfl, rfl⟩ := zsome h
      exact hI _ rfl
theorem w_X9_law_l37 {E : E0} (hE : EOK E) {X : X0} (C : XOK E X cX9_law RX9 3 (some .int) rm_X9_law) (hxn : xn X = (rm_X9_law.cells, rm_X9_law.slots)) {KE : (Nat) → Hp → Prop} (e_64 : ∀ (h0 : Nat) (σ : Hp), KE (h0) σ → G E X 0 0 64 [(0, tR (some (h0)))] [] σ) {v : Nat} {σ : Hp} {e : Nat} {σ1 : Hp} (h : s_X9_law_l37 v σ = some (e, σ1)) (hO : KE e σ1) : G E X 0 0 37 [(0, tR (some (v)))] [] σ := loopF_ind (P := fun (v : Nat) (σ : Hp) => G E X 0 0 37 [(0, tR (some (v)))] [] σ) (KE := KE) (fun v σ x σ1 h hI hO => w_X9_law_b37 hE C hxn e_64 v σ x σ1 h hI hO) v σ e σ1 h hO
noncomputable def s_X9_law_b111 (h0 : Nat) (l1 : Int32) (l2 : Int32) (σ : Hp) : Option (((Nat × Int32 × Int32) ⊕ ((Nat × Int32))) × Hp) :=
  (rdI 9 σ h0 21).bind fun v1 =>
  if (8 * v1) ≤ l2 then
    some (Sum.inr ((h0), (l1)), σ)
  else
    (rdR 9 σ h0 3).bind fun r2 =>
    (rdR 9 σ h0 22).bind fun r3 =>
    (r3).bind fun a4 =>
    (ldI 11 σ a4 (l2)).bind fun v5 =>
    (r2).bind fun a6 =>
    (stI σ a6 ((l1 + 2) + l2) (v5)).bind fun σ7 =>
    some (Sum.inl ((h0), (l1), (l2 + 1)), σ7)
noncomputable def s_X9_law_l111 : (Nat × Int32 × Int32) → Hp → Option (((Nat × Int32)) × Hp) := loopF (fun v => s_X9_law_b111 (v.1) (v.2.1) (v.2.2))
set_option maxRecDepth 100000 in
theorem w_X9_law_b111 {E : E0} (hE : EOK E) {X : X0} (C : XOK E X cX9_law RX9 3 (some .int) rm_X9_law) (hxn : xn X = (rm_X9_law.cells, rm_X9_law.slots)) {KE : ((Nat × Int32)) → Hp → Prop} (e_144 : ∀ (h0 : Nat) (l1 : Int32) (σ : Hp), KE ((h0, l1)) σ → G E X 0 0 144 [(0, tR (some (h0))), (1, tI (l1))] [] σ) (h0 : Nat) (l1 : Int32) (l2 : Int32) (σ : Hp) (x : (Nat × Int32 × Int32) ⊕ ((Nat × Int32))) (σ1 : Hp) (h : s_X9_law_b111 h0 l1 l2 σ = some (x, σ1)) (hI : ∀ v, x = Sum.inl v → (fun (v : Nat × Int32 × Int32) (σ : Hp) => G E X 0 0 111 [(0, tR (some ((v.1)))), (1, tI ((v.2.1))), (2, tI ((v.2.2)))] [] σ) v σ1) (hO : ∀ e, x = Sum.inr e → KE e σ1) : G E X 0 0 111 [(0, tR (some (h0))), (1, tI (l1)), (2, tI (l2))] [] σ := by
  unfold s_X9_law_b111 at h
  refine g_iload_n (pc := 111) C 2 2 dX9_law_111 rfl rfl ?_
  refine g_bipush (v := 8) (pc := 112) C dX9_law_112 (by decide) ?_
  refine g_aload_n (pc := 114) C 0 0 dX9_law_114 rfl rfl ?_
  obtain ⟨v1, hvv1, h⟩ := zbind h
  refine g_getI (N := 58) (pc := 115) C ck_9 hvv1 rfl rfl fl_X9_384 dX9_law_115 ?_
  refine g_imul (pc := 118) C dX9_law_118 ?_
  refine g_icmp_ge (pc := 119) C 144 dX9_law_119 (by decide) (fun c8 => ?_) (fun c8 => ?_)
  · have h := zif_t c8 h
    refine g_sub [0, 1] (lm' := [(0, tR (some (h0))), (1, tI (l1))]) rfl ?_
    obtain ⟨rfl, rfl⟩ := zsome h
    exact e_144 _ _ _ (hO _ rfl)
  · have h := zif_f c8 h
    refine g_aload_n (pc := 122) C 0 0 dX9_law_122 rfl rfl ?_
    obtain ⟨r2, hvr2, h⟩ := zbind h
    refine g_getR (N := 58) (pc := 123) C ck_9 hvr2 rfl rfl fl_X9_13 dX9_law_123 ?_
    refine g_iload_n (pc := 126) C 1 1 dX9_law_126 rfl rfl ?_
    refine g_iconst (v := 2) (pc := 127) C dX9_law_127 (by decide) ?_
    refine g_iadd (pc := 128) C dX9_law_128 ?_
    refine g_iload_n (pc := 129) C 2 2 dX9_law_129 rfl rfl ?_
    refine g_iadd (pc := 130) C dX9_law_130 ?_
    refine g_aload_n (pc := 131) C 0 0 dX9_law_131 rfl rfl ?_
    obtain ⟨r3, hvr3, h⟩ := zbind h
    refine g_getR (N := 58) (pc := 132) C ck_9 hvr3 rfl rfl fl_X9_42 dX9_law_132 ?_
    refine g_iload_n (pc := 135) C 2 2 dX9_law_135 rfl rfl ?_
    obtain ⟨a4, hqa4, h9⟩ := zbind h
    clear h
    subst hqa4
    have h := h9
    clear h9
    obtain ⟨v5, hvv5, h⟩ := zbind h
    refine g_iald (pc := 136) C hvv5 dX9_law_136 ?_
    obtain ⟨a6, hqa6, h9⟩ := zbind h
    clear h
    subst hqa6
    have h := h9
    clear h9
    obtain ⟨σ7, hvσ7, h⟩ := zbind h
    refine g_iast (pc := 137) C hvσ7 dX9_law_137 ?_
    refine g_iinc (lm' := [(2, tI (l2 + 1)), (0, tR (some (h0))), (1, tI (l1))]) (v := l2 + 1) (pc := 138) C 2 dX9_law_138 rfl rfl (by decide) rfl ?_
    refine g_goto (pc := 141) C 111 dX9_law_141 (by decide) ?_
    refine g_sub [1, 2, 0] (lm' := [(0, tR (some (h0))), (1, tI (l1)), (2, tI (l2 + 1))]) rfl ?_
    obtain ⟨rfl, rfl⟩ := zsome h
    exact hI _ rfl
theorem w_X9_law_l111 {E : E0} (hE : EOK E) {X : X0} (C : XOK E X cX9_law RX9 3 (some .int) rm_X9_law) (hxn : xn X = (rm_X9_law.cells, rm_X9_law.slots)) {KE : ((Nat × Int32)) → Hp → Prop} (e_144 : ∀ (h0 : Nat) (l1 : Int32) (σ : Hp), KE ((h0, l1)) σ → G E X 0 0 144 [(0, tR (some (h0))), (1, tI (l1))] [] σ) {v : Nat × Int32 × Int32} {σ : Hp} {e : (Nat × Int32)} {σ1 : Hp} (h : s_X9_law_l111 v σ = some (e, σ1)) (hO : KE e σ1) : G E X 0 0 111 [(0, tR (some ((v.1)))), (1, tI ((v.2.1))), (2, tI ((v.2.2)))] [] σ := loopF_ind (P := fun (v : Nat × Int32 × Int32) (σ : Hp) => G E X 0 0 111 [(0, tR (some ((v.1)))), (1, tI ((v.2.1))), (2, tI ((v.2.2)))] [] σ) (KE := KE) (fun v σ x σ1 h hI hO => w_X9_law_b111 hE C hxn e_144 (v.1) (v.2.1) (v.2.2) σ x σ1 h hI hO) v σ e σ1 h hO
noncomputable def s_X9_law_b146 (h0 : Nat) (l1 : Int32) (l2 : Int32) (σ : Hp) : Option (((Nat × Int32 × Int32) ⊕ (Nat)) × Hp) :=
  (rdI 9 σ h0 23).bind fun v1 =>
  if v1 ≤ l2 then
    some (Sum.inr (h0), σ)
  else
    (rdR 9 σ h0 3).bind fun r2 =>
    (rdR 9 σ h0 24).bind fun r3 =>
    (r3).bind fun a4 =>
    (ldI 11 σ a4 (l2)).bind fun v5 =>
    (r2).bind fun a6 =>
    (stI σ a6 ((l1 + 98) + (2 * l2)) (v5)).bind fun σ7 =>
    (rdR 9 σ7 h0 3).bind fun r8 =>
    (rdR 9 σ7 h0 25).bind fun r9 =>
    (r9).bind fun a10 =>
    (ldI 11 σ7 a10 (l2)).bind fun v11 =>
    (r8).bind fun a12 =>
    (stI σ7 a12 (((l1 + 98) + (2 * l2)) + 1) (v11)).bind fun σ13 =>
    some (Sum.inl ((h0), (l1), (l2 + 1)), σ13)
noncomputable def s_X9_law_l146 : (Nat × Int32 × Int32) → Hp → Option ((Nat) × Hp) := loopF (fun v => s_X9_law_b146 (v.1) (v.2.1) (v.2.2))
set_option maxRecDepth 100000 in
theorem w_X9_law_b146 {E : E0} (hE : EOK E) {X : X0} (C : XOK E X cX9_law RX9 3 (some .int) rm_X9_law) (hxn : xn X = (rm_X9_law.cells, rm_X9_law.slots)) {KE : (Nat) → Hp → Prop} (e_200 : ∀ (h0 : Nat) (σ : Hp), KE (h0) σ → G E X 0 0 200 [(0, tR (some (h0)))] [] σ) (h0 : Nat) (l1 : Int32) (l2 : Int32) (σ : Hp) (x : (Nat × Int32 × Int32) ⊕ (Nat)) (σ1 : Hp) (h : s_X9_law_b146 h0 l1 l2 σ = some (x, σ1)) (hI : ∀ v, x = Sum.inl v → (fun (v : Nat × Int32 × Int32) (σ : Hp) => G E X 0 0 146 [(0, tR (some ((v.1)))), (1, tI ((v.2.1))), (2, tI ((v.2.2)))] [] σ) v σ1) (hO : ∀ e, x = Sum.inr e → KE e σ1) : G E X 0 0 146 [(0, tR (some (h0))), (1, tI (l1)), (2, tI (l2))] [] σ := by
  unfold s_X9_law_b146 at h
  refine g_iload_n (pc := 146) C 2 2 dX9_law_146 rfl rfl ?_
  refine g_aload_n (pc := 147) C 0 0 dX9_law_147 rfl rfl ?_
  obtain ⟨v1, hvv1, h⟩ := zbind h
  refine g_getI (N := 58) (pc := 148) C ck_9 hvv1 rfl rfl fl_X9_291 dX9_law_148 ?_
  refine g_icmp_ge (pc := 151) C 200 dX9_law_151 (by decide) (fun c14 => ?_) (fun c14 => ?_)
  · have h := zif_t c14 h
    refine g_sub [0] (lm' := [(0, tR (some (h0)))]) rfl ?_
    obtain ⟨rfl, rfl⟩ := zsome h
    exact e_200 _ _ (hO _ rfl)
  · have h := zif_f c14 h
    refine g_aload_n (pc := 154) C 0 0 dX9_law_154 rfl rfl ?_
    obtain ⟨r2, hvr2, h⟩ := zbind h
    refine g_getR (N := 58) (pc := 155) C ck_9 hvr2 rfl rfl fl_X9_13 dX9_law_155 ?_
    refine g_iload_n (pc := 158) C 1 1 dX9_law_158 rfl rfl ?_
    refine g_bipush (v := 98) (pc := 159) C dX9_law_159 (by decide) ?_
    refine g_iadd (pc := 161) C dX9_law_161 ?_
    refine g_iconst (v := 2) (pc := 162) C dX9_law_162 (by decide) ?_
    refine g_iload_n (pc := 163) C 2 2 dX9_law_163 rfl rfl ?_
    refine g_imul (pc := 164) C dX9_law_164 ?_
    refine g_iadd (pc := 165) C dX9_law_165 ?_
    refine g_aload_n (pc := 166) C 0 0 dX9_law_166 rfl rfl ?_
    obtain ⟨r3, hvr3, h⟩ := zbind h
    refine g_getR (N := 58) (pc := 167) C ck_9 hvr3 rfl rfl fl_X9_45 dX9_law_167 ?_
    refine g_iload_n (pc := 170) C 2 2 dX9_law_170 rfl rfl ?_
    obtain ⟨a4, hqa4, h9⟩ := zbind h
    clear h
    subst hqa4
    have h := h9
    clear h9
    obtain ⟨v5, hvv5, h⟩ := zbind h
    refine g_iald (pc := 171) C hvv5 dX9_law_171 ?_
    obtain ⟨a6, hqa6, h9⟩ := zbind h
    clear h
    subst hqa6
    have h := h9
    clear h9
    obtain ⟨σ7, hvσ7, h⟩ := zbind h
    refine g_iast (pc := 172) C hvσ7 dX9_law_172 ?_
    refine g_aload_n (pc := 173) C 0 0 dX9_law_173 rfl rfl ?_
    obtain ⟨r8, hvr8, h⟩ := zbind h
    refine g_getR (N := 58) (pc := 174) C ck_9 hvr8 rfl rfl fl_X9_13 dX9_law_174 ?_
    refine g_iload_n (pc := 177) C 1 1 dX9_law_177 rfl rfl ?_
    refine g_bipush (v := 98) (pc := 178) C dX9_law_178 (by decide) ?_
    refine g_iadd (pc := 180) C dX9_law_180 ?_
    refine g_iconst (v := 2) (pc := 181) C dX9_law_181 (by decide) ?_
    refine g_iload_n (pc := 182) C 2 2 dX9_law_182 rfl rfl ?_
    refine g_imul (pc := 183) C dX9_law_183 ?_
    refine g_iadd (pc := 184) C dX9_law_184 ?_
    refine g_iconst (v := 1) (pc := 185) C dX9_law_185 (by decide) ?_
    refine g_iadd (pc := 186) C dX9_law_186 ?_
    refine g_aload_n (pc := 187) C 0 0 dX9_law_187 rfl rfl ?_
    obtain ⟨r9, hvr9, h⟩ := zbind h
    refine g_getR (N := 58) (pc := 188) C ck_9 hvr9 rfl rfl fl_X9_48 dX9_law_188 ?_
    refine g_iload_n (pc := 191) C 2 2 dX9_law_191 rfl rfl ?_
    obtain ⟨a10, hqa10, h9⟩ := zbind h
    clear h
    subst hqa10
    have h := h9
    clear h9
    obtain ⟨v11, hvv11, h⟩ := zbind h
    refine g_iald (pc := 192) C hvv11 dX9_law_192 ?_
    obtain ⟨a12, hqa12, h9⟩ := zbind h
    clear h
    subst hqa12
    have h := h9
    clear h9
    obtain ⟨σ13, hvσ13, h⟩ := zbind h
    refine g_iast (pc := 193) C hvσ13 dX9_law_193 ?_
    refine g_iinc (lm' := [(2, tI (l2 + 1)), (0, tR (some (h0))), (1, tI (l1))]) (v := l2 + 1) (pc := 194) C 2 dX9_law_194 rfl rfl (by decide) rfl ?_
    refine g_goto (pc := 197) C 146 dX9_law_197 (by decide) ?_
    refine g_sub [1, 2, 0] (lm' := [(0, tR (some (h0))), (1, tI (l1)), (2, tI (l2 + 1))]) rfl ?_
    obtain ⟨rfl, rfl⟩ := zsome h
    exact hI _ rfl
theorem w_X9_law_l146 {E : E0} (hE : EOK E) {X : X0} (C : XOK E X cX9_law RX9 3 (some .int) rm_X9_law) (hxn : xn X = (rm_X9_law.cells, rm_X9_law.slots)) {KE : (Nat) → Hp → Prop} (e_200 : ∀ (h0 : Nat) (σ : Hp), KE (h0) σ → G E X 0 0 200 [(0, tR (some (h0)))] [] σ) {v : Nat × Int32 × Int32} {σ : Hp} {e : Nat} {σ1 : Hp} (h : s_X9_law_l146 v σ = some (e, σ1)) (hO : KE e σ1) : G E X 0 0 146 [(0, tR (some ((v.1)))), (1, tI ((v.2.1))), (2, tI ((v.2.2)))] [] σ := loopF_ind (P := fun (v : Nat × Int32 × Int32) (σ : Hp) => G E X 0 0 146 [(0, tR (some ((v.1)))), (1, tI ((v.2.1))), (2, tI ((v.2.2)))] [] σ) (KE := KE) (fun v σ x σ1 h hI hO => w_X9_law_b146 hE C hxn e_200 (v.1) (v.2.1) (v.2.2) σ x σ1 h hI hO) v σ e σ1 h hO
noncomputable def s_X9_law_j64 (h0 : Nat) (σ : Hp) : Option (Int32 × Hp) :=
  (ck 9 σ h0).bind fun u1 =>
  cb (s_X9_endText h0 σ) fun v3 σ2 =>
  (rdI 9 σ2 h0 19).bind fun v4 =>
  if v4 = 0 then
    (rdR 9 σ2 h0 3).bind fun r5 =>
    (r5).bind fun a6 =>
    (ldI 11 σ2 a6 (5)).bind fun v7 =>
    (rdR 9 σ2 h0 3).bind fun r8 =>
    (rdI 9 σ2 h0 21).bind fun v9 =>
    (r8).bind fun a10 =>
    (stI σ2 a10 ((178 + (900 * v7)) + 1) (v9)).bind fun σ11 =>
    cb (s_X9_law_l111 ((h0), (178 + (900 * v7)), (0)) σ11) fun e32 σ31 =>
    match e32 with
    | (h12, l113) =>
      cb (s_X9_law_l146 ((h12), (l113), (0)) σ31) fun h15 σ28 =>
      (rdR 9 σ28 h15 3).bind fun r17 =>
      (r17).bind fun a18 =>
      (ldI 11 σ28 a18 (5)).bind fun v19 =>
      (stI σ28 a18 (5) (v19 + 1)).bind fun σ20 =>
      (rdR 9 σ20 h15 3).bind fun r21 =>
      (r21).bind fun a22 =>
      (ldI 11 σ20 a22 (5)).bind fun v23 =>
      (ck 9 σ20 h15).bind fun u24 =>
      cb (s_X9_tell h15 (v23 - 1) σ20) fun v26 σ25 =>
      some ((v26), σ25)
  else
    (ck 9 σ2 h0).bind fun u33 =>
    cb (s_X9_tell h0 ((-6)) σ2) fun v35 σ34 =>
    some ((v35), σ34)
set_option maxRecDepth 100000 in
theorem w_X9_law_j64 {E : E0} (hE : EOK E) {X : X0} (C : XOK E X cX9_law RX9 3 (some .int) rm_X9_law) (hxn : xn X = (rm_X9_law.cells, rm_X9_law.slots)) (h0 : Nat) (σ : Hp) (r : Int32) (σ1 : Hp) (h : s_X9_law_j64 h0 σ = some (r, σ1)) (hx : xd X = (some (tI r), σ1)) : G E X 0 0 64 [(0, tR (some (h0)))] [] σ := by
  unfold s_X9_law_j64 at h
  refine g_aload_n (pc := 64) C 0 0 dX9_law_64 rfl rfl ?_
  obtain ⟨u1, hvu1, h⟩ := zbind h
  obtain ⟨v3, σ2, hvσ2, h⟩ := zcb h
  refine g_callV (pc := 65) (av := []) C (c_X9_endText hE hvσ2) yv_X9_endText ml_X9_398 ck_9 (zopt hvu1).1 rfl (rf_of (by decide)) rfl (Nat.le_of_ble_eq_true rfl) dX9_law_65 ?_
  refine g_aload_n (pc := 68) C 0 0 dX9_law_68 rfl rfl ?_
  obtain ⟨v4, hvv4, h⟩ := zbind h
  refine g_getI (N := 58) (pc := 69) C ck_9 hvv4 rfl rfl fl_X9_254 dX9_law_69 ?_
  refine g_if_eq (pc := 72) C 82 dX9_law_72 (by decide) (fun c36 => ?_) (fun c36 => ?_)
  · have h := zif_t c36 h
    refine g_sipush (v := 178) (pc := 82) C dX9_law_82 (by decide) ?_
    refine g_sipush (v := 900) (pc := 85) C dX9_law_85 (by decide) ?_
    refine g_aload_n (pc := 88) C 0 0 dX9_law_88 rfl rfl ?_
    obtain ⟨r5, hvr5, h⟩ := zbind h
    refine g_getR (N := 58) (pc := 89) C ck_9 hvr5 rfl rfl fl_X9_13 dX9_law_89 ?_
    refine g_iconst (v := 5) (pc := 92) C dX9_law_92 (by decide) ?_
    obtain ⟨a6, hqa6, h9⟩ := zbind h
    clear h
    subst hqa6
    have h := h9
    clear h9
    obtain ⟨v7, hvv7, h⟩ := zbind h
    refine g_iald (pc := 93) C hvv7 dX9_law_93 ?_
    refine g_imul (pc := 94) C dX9_law_94 ?_
    refine g_iadd (pc := 95) C dX9_law_95 ?_
    refine g_istore_n (lm' := [(1, tI (178 + (900 * v7))), (0, tR (some (h0)))]) (pc := 96) C 1 dX9_law_96 rfl (by decide) rfl ?_
    refine g_aload_n (pc := 97) C 0 1 dX9_law_97 rfl rfl ?_
    obtain ⟨r8, hvr8, h⟩ := zbind h
    refine g_getR (N := 58) (pc := 98) C ck_9 hvr8 rfl rfl fl_X9_13 dX9_law_98 ?_
    refine g_iload_n (pc := 101) C 1 0 dX9_law_101 rfl rfl ?_
    refine g_iconst (v := 1) (pc := 102) C dX9_law_102 (by decide) ?_
    refine g_iadd (pc := 103) C dX9_law_103 ?_
    refine g_aload_n (pc := 104) C 0 1 dX9_law_104 rfl rfl ?_
    obtain ⟨v9, hvv9, h⟩ := zbind h
    refine g_getI (N := 58) (pc := 105) C ck_9 hvv9 rfl rfl fl_X9_384 dX9_law_105 ?_
    obtain ⟨a10, hqa10, h9⟩ := zbind h
    clear h
    subst hqa10
    have h := h9
    clear h9
    obtain ⟨σ11, hvσ11, h⟩ := zbind h
    refine g_iast (pc := 108) C hvσ11 dX9_law_108 ?_
    refine g_iconst (v := 0) (pc := 109) C dX9_law_109 (by decide) ?_
    refine g_istore_n (lm' := [(2, tI (0)), (1, tI (178 + (900 * v7))), (0, tR (some (h0)))]) (pc := 110) C 2 dX9_law_110 rfl (by decide) rfl ?_
    refine g_sub [2, 1, 0] (lm' := [(0, tR (some (h0))), (1, tI (178 + (900 * v7))), (2, tI (0))]) rfl ?_
    obtain ⟨KQ, hKQ, e32, σ31, hle32, h⟩ := zcbK h
    refine w_X9_law_l111 (KE := KQ) hE C hxn ?_ hle32 h
    · intro h12 l113 σ14 h
      have h := (hKQ _ _).mp h
      refine g_iconst (v := 0) (pc := 144) C dX9_law_144 (by decide) ?_
      refine g_istore_n (lm' := [(2, tI (0)), (0, tR (some (h12))), (1, tI (l113))]) (pc := 145) C 2 dX9_law_145 rfl (by decide) rfl ?_
      refine g_sub [1, 2, 0] (lm' := [(0, tR (some (h12))), (1, tI (l113)), (2, tI (0))]) rfl ?_
      obtain ⟨KQ, hKQ, h15, σ28, hlh15, h⟩ := zcbK h
      refine w_X9_law_l146 (KE := KQ) hE C hxn ?_ hlh15 h
      · intro h15 σ16 h
        have h := (hKQ _ _).mp h
        refine g_aload_n (pc := 200) C 0 0 dX9_law_200 rfl rfl ?_
        obtain ⟨r17, hvr17, h⟩ := zbind h
        refine g_getR (N := 58) (pc := 201) C ck_9 hvr17 rfl rfl fl_X9_13 dX9_law_201 ?_
        refine g_iconst (v := 5) (pc := 204) C dX9_law_204 (by decide) ?_
        refine g_dup2 (pc := 205) C dX9_law_205 rfl rfl ?_
        obtain ⟨a18, hqa18, h9⟩ := zbind h
        clear h
        subst hqa18
        have h := h9
        clear h9
        obtain ⟨v19, hvv19, h⟩ := zbind h
        refine g_iald (pc := 206) C hvv19 dX9_law_206 ?_
        refine g_iconst (v := 1) (pc := 207) C dX9_law_207 (by decide) ?_
        refine g_iadd (pc := 208) C dX9_law_208 ?_
        obtain ⟨σ20, hvσ20, h⟩ := zbind h
        refine g_iast (pc := 209) C hvσ20 dX9_law_209 ?_
        refine g_aload_n (pc := 210) C 0 0 dX9_law_210 rfl rfl ?_
        refine g_aload_n (pc := 211) C 0 0 dX9_law_211 rfl rfl ?_
        obtain ⟨r21, hvr21, h⟩ := zbind h
        refine g_getR (N := 58) (pc := 212) C ck_9 hvr21 rfl rfl fl_X9_13 dX9_law_212 ?_
        refine g_iconst (v := 5) (pc := 215) C dX9_law_215 (by decide) ?_
        obtain ⟨a22, hqa22, h9⟩ := zbind h
        clear h
        subst hqa22
        have h := h9
        clear h9
        obtain ⟨v23, hvv23, h⟩ := zbind h
        refine g_iald (pc := 216) C hvv23 dX9_law_216 ?_
        refine g_iconst (v := 1) (pc := 217) C dX9_law_217 (by decide) ?_
        refine g_isub (pc := 218) C dX9_law_218 ?_
        obtain ⟨u24, hvu24, h⟩ := zbind h
        obtain ⟨v26, σ25, hvσ25, h⟩ := zcb h
        refine g_callV (pc := 219) (av := [tI (v23 - 1)]) C (c_X9_tell hE hvσ25) yv_X9_tell ml_X9_170 ck_9 (zopt hvu24).1 rfl (rf_of (by decide)) rfl (Nat.le_of_ble_eq_true rfl) dX9_law_219 ?_
        obtain ⟨rfl, rfl⟩ := zsome h
        exact g_iret (pc := 222) C rfl hx (by rw [hxn]; rfl) (by rw [hxn]; rfl) dX9_law_222
  · have h := zif_f c36 h
    refine g_aload_n (pc := 75) C 0 0 dX9_law_75 rfl rfl ?_
    refine g_bipush (v := (-6)) (pc := 76) C dX9_law_76 (by decide) ?_
    obtain ⟨u33, hvu33, h⟩ := zbind h
    obtain ⟨v35, σ34, hvσ34, h⟩ := zcb h
    refine g_callV (pc := 78) (av := [tI ((-6))]) C (c_X9_tell hE hvσ34) yv_X9_tell ml_X9_170 ck_9 (zopt hvu33).1 rfl (rf_of (by decide)) rfl (Nat.le_of_ble_eq_true rfl) dX9_law_78 ?_
    obtain ⟨rfl, rfl⟩ := zsome h
    exact g_iret (pc := 81) C rfl hx (by rw [hxn]; rfl) (by rw [hxn]; rfl) dX9_law_81
noncomputable def s_X9_law (h0 : Nat) (σ : Hp) : Option (Int32 × Hp) :=
  (wrI 9 σ h0 0 (0)).bind fun σ1 =>
  (rdR 9 σ1 h0 3).bind fun r2 =>
  (r2).bind fun a3 =>
  (ldI 11 σ1 a3 (5)).bind fun v4 =>
  if v4 = 6 then
    (wrI 9 σ1 h0 13 (0)).bind fun σ16 =>
    (ck 9 σ16 h0).bind fun u17 =>
    cb (s_X9_tell h0 ((-5)) σ16) fun v19 σ18 =>
    some ((v19), σ18)
  else
    (ck 9 σ1 h0).bind fun u5 =>
    cb (s_X9_beginText h0 (0) σ1) fun v7 σ6 =>
    (ck 9 σ6 h0).bind fun u8 =>
    cb (s_X9_readLaw h0 σ6) fun v10 σ9 =>
    cb (s_X9_law_l37 (h0) σ9) fun h11 σ14 =>
    s_X9_law_j64 (h11) σ14
set_option maxRecDepth 100000 in
theorem c_X9_law {E : E0} (hE : EOK E) {h0 : Nat} {σ σ1 : Hp} {r : Int32} (h : s_X9_law h0 σ = some (r, σ1)) : CT E yX9_law (.code yX9_law cX9_law 3 (some .int)) rm_X9_law [tR (some (h0))] σ (some (tI r)) σ1 := by
  refine CT.mk hE (by decide +kernel) (Nat.le_of_ble_eq_true rfl) [(0, tR (some (h0)))] rfl (fun X C hin hx hxn => ?_)
  have C : XOK E X cX9_law RX9 3 (some .int) rm_X9_law := C
  unfold s_X9_law at h
  refine g_aload_n (pc := 0) C 0 0 dX9_law_0 rfl rfl ?_
  refine g_iconst (v := 0) (pc := 1) C dX9_law_1 (by decide) ?_
  obtain ⟨σ1, hvσ1, h⟩ := zbind h
  refine g_putI (N := 58) (pc := 2) C ⟨ck_9, rfl, tyX9_ok⟩ hvσ1 rfl fl_X9_161 rfl rfl dX9_law_2 ?_
  refine g_aload_n (pc := 5) C 0 0 dX9_law_5 rfl rfl ?_
  obtain ⟨r2, hvr2, h⟩ := zbind h
  refine g_getR (N := 58) (pc := 6) C ck_9 hvr2 rfl rfl fl_X9_13 dX9_law_6 ?_
  refine g_iconst (v := 5) (pc := 9) C dX9_law_9 (by decide) ?_
  obtain ⟨a3, hqa3, h9⟩ := zbind h
  clear h
  subst hqa3
  have h := h9
  clear h9
  obtain ⟨v4, hvv4, h⟩ := zbind h
  refine g_iald (pc := 10) C hvv4 dX9_law_10 ?_
  refine g_bipush (v := 6) (pc := 11) C dX9_law_11 (by decide) ?_
  refine g_icmp_ne (pc := 13) C 28 dX9_law_13 (by decide) (fun c20 => ?_) (fun c20 => ?_)
  · have h := zif_f c20 h
    refine g_aload_n (pc := 28) C 0 0 dX9_law_28 rfl rfl ?_
    refine g_iconst (v := 0) (pc := 29) C dX9_law_29 (by decide) ?_
    obtain ⟨u5, hvu5, h⟩ := zbind h
    obtain ⟨v7, σ6, hvσ6, h⟩ := zcb h
    refine g_callV (pc := 30) (av := [tI (0)]) C (c_X9_beginText hE hvσ6) yv_X9_beginText ml_X9_392 ck_9 (zopt hvu5).1 rfl (rf_of (by decide)) rfl (Nat.le_of_ble_eq_true rfl) dX9_law_30 ?_
    refine g_aload_n (pc := 33) C 0 0 dX9_law_33 rfl rfl ?_
    obtain ⟨u8, hvu8, h⟩ := zbind h
    obtain ⟨v10, σ9, hvσ9, h⟩ := zcb h
    refine g_callV (pc := 34) (av := []) C (c_X9_readLaw hE hvσ9) yv_X9_readLaw ml_X9_395 ck_9 (zopt hvu8).1 rfl (rf_of (by decide)) rfl (Nat.le_of_ble_eq_true rfl) dX9_law_34 ?_
    obtain ⟨KQ, hKQ, h11, σ14, hlh11, h⟩ := zcbK h
    refine w_X9_law_l37 (KE := KQ) hE C hxn ?_ hlh11 h
    · intro h11 σ12 h
      have h := (hKQ _ _).mp h
      exact w_X9_law_j64 hE C hxn _ _ _ _ h hx
  · have h := zif_t c20 h
    refine g_aload_n (pc := 16) C 0 0 dX9_law_16 rfl rfl ?_
    refine g_iconst (v := 0) (pc := 17) C dX9_law_17 (by decide) ?_
    obtain ⟨σ16, hvσ16, h⟩ := zbind h
    refine g_putI (N := 58) (pc := 18) C ⟨ck_9, rfl, tyX9_ok⟩ hvσ16 rfl fl_X9_242 rfl rfl dX9_law_18 ?_
    refine g_aload_n (pc := 21) C 0 0 dX9_law_21 rfl rfl ?_
    refine g_bipush (v := (-5)) (pc := 22) C dX9_law_22 (by decide) ?_
    obtain ⟨u17, hvu17, h⟩ := zbind h
    obtain ⟨v19, σ18, hvσ18, h⟩ := zcb h
    refine g_callV (pc := 24) (av := [tI ((-5))]) C (c_X9_tell hE hvσ18) yv_X9_tell ml_X9_170 ck_9 (zopt hvu17).1 rfl (rf_of (by decide)) rfl (Nat.le_of_ble_eq_true rfl) dX9_law_24 ?_
    obtain ⟨rfl, rfl⟩ := zsome h
    exact g_iret (pc := 27) C rfl hx (by rw [hxn]; rfl) (by rw [hxn]; rfl) dX9_law_27
def rm_X9_isLaw : Room := { frames := 1, cells := 0, slots := 0, locals := 25 }
noncomputable def s_X9_isLaw (h0 : Nat) (p1 : Int32) (σ : Hp) : Option (Int32 × Hp) :=
  if p1 = (-1) then
    some ((1), σ)
  else
    (rdR 9 σ h0 3).bind fun r1 =>
    (r1).bind fun a2 =>
    (ldI 11 σ a2 (5)).bind fun v3 =>
    cb (s_X9_in (Int32.toInt64 (p1 : Int32)) (0) ((Int32.toInt64 (v3 : Int32)) - 1) σ) fun v5 σ4 =>
    if v5 = 0 then
      some ((0), σ4)
    else
      some ((1), σ4)
set_option maxRecDepth 100000 in
theorem c_X9_isLaw {E : E0} (hE : EOK E) {h0 : Nat} {p1 : Int32} {σ σ1 : Hp} {r : Int32} (h : s_X9_isLaw h0 p1 σ = some (r, σ1)) : CT E yX9_isLaw (.code yX9_isLaw cX9_isLaw 2 (some .boolean)) rm_X9_isLaw [tR (some (h0)), tI (p1)] σ (some (tI r)) σ1 := by
  refine CT.mk hE (by decide +kernel) (Nat.le_of_ble_eq_true rfl) [(0, tR (some (h0))), (1, tI (p1))] rfl (fun X C hin hx hxn => ?_)
  have C : XOK E X cX9_isLaw RX9 2 (some .boolean) rm_X9_isLaw := C
  unfold s_X9_isLaw at h
  refine g_iload_n (pc := 0) C 1 1 dX9_isLaw_0 rfl rfl ?_
  refine g_iconst (v := (-1)) (pc := 1) C dX9_isLaw_1 (by decide) ?_
  refine g_icmp_eq (pc := 2) C 23 dX9_isLaw_2 (by decide) (fun c7 => ?_) (fun c7 => ?_)
  · have h := zif_t c7 h
    refine g_iconst (v := 1) (pc := 23) C dX9_isLaw_23 (by decide) ?_
    refine g_goto (pc := 24) C 28 dX9_isLaw_24 (by decide) ?_
    obtain ⟨rfl, rfl⟩ := zsome h
    exact g_zret (pc := 28) C rfl hx (by decide) (by rw [hxn]; rfl) (by rw [hxn]; rfl) dX9_isLaw_28
  · have h := zif_f c7 h
    refine g_iload_n (pc := 5) C 1 1 dX9_isLaw_5 rfl rfl ?_
    refine g_i2l (pc := 6) C dX9_isLaw_6 ?_
    refine g_lconst (v := 0) (pc := 7) C dX9_isLaw_7 (by decide) ?_
    refine g_aload_n (pc := 8) C 0 0 dX9_isLaw_8 rfl rfl ?_
    obtain ⟨r1, hvr1, h⟩ := zbind h
    refine g_getR (N := 58) (pc := 9) C ck_9 hvr1 rfl rfl fl_X9_13 dX9_isLaw_9 ?_
    refine g_iconst (v := 5) (pc := 12) C dX9_isLaw_12 (by decide) ?_
    obtain ⟨a2, hqa2, h9⟩ := zbind h
    clear h
    subst hqa2
    have h := h9
    clear h9
    obtain ⟨v3, hvv3, h⟩ := zbind h
    refine g_iald (pc := 13) C hvv3 dX9_isLaw_13 ?_
    refine g_i2l (pc := 14) C dX9_isLaw_14 ?_
    refine g_lconst (v := 1) (pc := 15) C dX9_isLaw_15 (by decide) ?_
    refine g_lsub (pc := 16) C dX9_isLaw_16 ?_
    obtain ⟨v5, σ4, hvσ4, h⟩ := zcb h
    refine g_callS (pc := 17) (av := [tJ (Int32.toInt64 (p1 : Int32)), tJ (0), tJ ((Int32.toInt64 (v3 : Int32)) - 1)]) C (c_X9_in hE hvσ4) ys_X9_in ml_X9_181 rfl (rf_of (by decide)) rfl (Nat.le_of_ble_eq_true rfl) dX9_isLaw_17 ?_
    refine g_if_eq (pc := 20) C 27 dX9_isLaw_20 (by decide) (fun c6 => ?_) (fun c6 => ?_)
    · have h := zif_t c6 h
      refine g_iconst (v := 0) (pc := 27) C dX9_isLaw_27 (by decide) ?_
      obtain ⟨rfl, rfl⟩ := zsome h
      exact g_zret (pc := 28) C rfl hx (by decide) (by rw [hxn]; rfl) (by rw [hxn]; rfl) dX9_isLaw_28
    · have h := zif_f c6 h
      refine g_iconst (v := 1) (pc := 23) C dX9_isLaw_23 (by decide) ?_
      refine g_goto (pc := 24) C 28 dX9_isLaw_24 (by decide) ?_
      obtain ⟨rfl, rfl⟩ := zsome h
      exact g_zret (pc := 28) C rfl hx (by decide) (by rw [hxn]; rfl) (by rw [hxn]; rfl) dX9_isLaw_28
def rm_X9_force : Room := { frames := 2, cells := 0, slots := 0, locals := 46 }
noncomputable def s_X9_force (h0 : Nat) (p1 : Int32) (σ : Hp) : Option (Int32 × Hp) :=
  (wrI 9 σ h0 0 (0)).bind fun σ1 =>
  (ck 9 σ1 h0).bind fun u2 =>
  cb (s_X9_isLaw h0 (p1) σ1) fun v4 σ3 =>
  if v4 = 0 then
    (ck 9 σ3 h0).bind fun u5 =>
    cb (s_X9_tell h0 ((-2)) σ3) fun v7 σ6 =>
    some ((v7), σ6)
  else
    (ck 9 σ3 h0).bind fun u8 =>
    cb (s_X9_change h0 (6) (p1) σ3) fun v10 σ9 =>
    some ((v10), σ9)
set_option maxRecDepth 100000 in
theorem c_X9_force {E : E0} (hE : EOK E) {h0 : Nat} {p1 : Int32} {σ σ1 : Hp} {r : Int32} (h : s_X9_force h0 p1 σ = some (r, σ1)) : CT E yX9_force (.code yX9_force cX9_force 2 (some .int)) rm_X9_force [tR (some (h0)), tI (p1)] σ (some (tI r)) σ1 := by
  refine CT.mk hE (by decide +kernel) (Nat.le_of_ble_eq_true rfl) [(0, tR (some (h0))), (1, tI (p1))] rfl (fun X C hin hx hxn => ?_)
  have C : XOK E X cX9_force RX9 2 (some .int) rm_X9_force := C
  unfold s_X9_force at h
  refine g_aload_n (pc := 0) C 0 0 dX9_force_0 rfl rfl ?_
  refine g_iconst (v := 0) (pc := 1) C dX9_force_1 (by decide) ?_
  obtain ⟨σ1, hvσ1, h⟩ := zbind h
  refine g_putI (N := 58) (pc := 2) C ⟨ck_9, rfl, tyX9_ok⟩ hvσ1 rfl fl_X9_161 rfl rfl dX9_force_2 ?_
  refine g_aload_n (pc := 5) C 0 0 dX9_force_5 rfl rfl ?_
  refine g_iload_n (pc := 6) C 1 1 dX9_force_6 rfl rfl ?_
  obtain ⟨u2, hvu2, h⟩ := zbind h
  obtain ⟨v4, σ3, hvσ3, h⟩ := zcb h
  refine g_callV (pc := 7) (av := [tI (p1)]) C (c_X9_isLaw hE hvσ3) yv_X9_isLaw ml_X9_401 ck_9 (zopt hvu2).1 rfl (rf_of (by decide)) rfl (Nat.le_of_ble_eq_true rfl) dX9_force_7 ?_
  refine g_if_eq (pc := 10) C 23 dX9_force_10 (by decide) (fun c11 => ?_) (fun c11 => ?_)
  · have h := zif_t c11 h
    refine g_aload_n (pc := 23) C 0 0 dX9_force_23 rfl rfl ?_
    refine g_bipush (v := (-2)) (pc := 24) C dX9_force_24 (by decide) ?_
    obtain ⟨u5, hvu5, h⟩ := zbind h
    obtain ⟨v7, σ6, hvσ6, h⟩ := zcb h
    refine g_callV (pc := 26) (av := [tI ((-2))]) C (c_X9_tell hE hvσ6) yv_X9_tell ml_X9_170 ck_9 (zopt hvu5).1 rfl (rf_of (by decide)) rfl (Nat.le_of_ble_eq_true rfl) dX9_force_26 ?_
    obtain ⟨rfl, rfl⟩ := zsome h
    exact g_iret (pc := 29) C rfl hx (by rw [hxn]; rfl) (by rw [hxn]; rfl) dX9_force_29
  · have h := zif_f c11 h
    refine g_aload_n (pc := 13) C 0 0 dX9_force_13 rfl rfl ?_
    refine g_bipush (v := 6) (pc := 14) C dX9_force_14 (by decide) ?_
    refine g_iload_n (pc := 16) C 1 1 dX9_force_16 rfl rfl ?_
    obtain ⟨u8, hvu8, h⟩ := zbind h
    obtain ⟨v10, σ9, hvσ9, h⟩ := zcb h
    refine g_callV (pc := 17) (av := [tI (6), tI (p1)]) C (c_X9_change hE hvσ9) yv_X9_change ml_X9_239 ck_9 (zopt hvu8).1 rfl (rf_of (by decide)) rfl (Nat.le_of_ble_eq_true rfl) dX9_force_17 ?_
    refine g_goto (pc := 20) C 29 dX9_force_20 (by decide) ?_
    obtain ⟨rfl, rfl⟩ := zsome h
    exact g_iret (pc := 29) C rfl hx (by rw [hxn]; rfl) (by rw [hxn]; rfl) dX9_force_29
def rm_X9_strideNow : Room := { frames := 7, cells := 0, slots := 0, locals := 167 }
noncomputable def s_X9_strideNow (h0 : Nat) (p1 : Int32) (p2 : Int32) (σ : Hp) : Option (Int32 × Hp) :=
  (ck 9 σ h0).bind fun u1 =>
  cb (s_X9_isFolk h0 (p1) σ) fun v3 σ2 =>
  if v3 = 0 then
    some (((-2)), σ2)
  else
    (ck 9 σ2 h0).bind fun u4 =>
    cb (s_X9_isPerch h0 (p2) σ2) fun v6 σ5 =>
    if v6 = 0 then
      some (((-2)), σ5)
    else
      (rdR 9 σ5 h0 3).bind fun r7 =>
      (r7).bind fun a8 =>
      (ldI 11 σ5 a8 (17 + p1)).bind fun v9 =>
      (ck 9 σ5 h0).bind fun u10 =>
      cb (s_X9_canStride h0 (p1) (v9) (p2) σ5) fun v12 σ11 =>
      if v12 = 0 then
        some (((-3)), σ11)
      else
        (ck 9 σ11 h0).bind fun u13 =>
        cb (s_X9_remember h0 (0) σ11) fun v15 σ14 =>
        (rdR 9 σ14 h0 3).bind fun r16 =>
        (r16).bind fun a17 =>
        (stI σ14 a17 (17 + p1) (p2)).bind fun σ18 =>
        (ck 9 σ18 h0).bind fun u19 =>
        cb (s_X9_isSafe h0 (p2) σ18) fun v21 σ20 =>
        if v21 = 0 then
          some ((0), σ20)
        else
          some ((1), σ20)
set_option maxRecDepth 100000 in
theorem c_X9_strideNow {E : E0} (hE : EOK E) {h0 : Nat} {p1 : Int32} {p2 : Int32} {σ σ1 : Hp} {r : Int32} (h : s_X9_strideNow h0 p1 p2 σ = some (r, σ1)) : CT E yX9_strideNow (.code yX9_strideNow cX9_strideNow 3 (some .int)) rm_X9_strideNow [tR (some (h0)), tI (p1), tI (p2)] σ (some (tI r)) σ1 := by
  refine CT.mk hE (by decide +kernel) (Nat.le_of_ble_eq_true rfl) [(0, tR (some (h0))), (1, tI (p1)), (2, tI (p2))] rfl (fun X C hin hx hxn => ?_)
  have C : XOK E X cX9_strideNow RX9 3 (some .int) rm_X9_strideNow := C
  unfold s_X9_strideNow at h
  refine g_aload_n (pc := 0) C 0 0 dX9_strideNow_0 rfl rfl ?_
  refine g_iload_n (pc := 1) C 1 1 dX9_strideNow_1 rfl rfl ?_
  obtain ⟨u1, hvu1, h⟩ := zbind h
  obtain ⟨v3, σ2, hvσ2, h⟩ := zcb h
  refine g_callV (pc := 2) (av := [tI (p1)]) C (c_X9_isFolk hE hvσ2) yv_X9_isFolk ml_X9_209 ck_9 (zopt hvu1).1 rfl (rf_of (by decide)) rfl (Nat.le_of_ble_eq_true rfl) dX9_strideNow_2 ?_
  refine g_if_eq (pc := 5) C 16 dX9_strideNow_5 (by decide) (fun c25 => ?_) (fun c25 => ?_)
  · have h := zif_t c25 h
    refine g_bipush (v := (-2)) (pc := 16) C dX9_strideNow_16 (by decide) ?_
    obtain ⟨rfl, rfl⟩ := zsome h
    exact g_iret (pc := 18) C rfl hx (by rw [hxn]; rfl) (by rw [hxn]; rfl) dX9_strideNow_18
  · have h := zif_f c25 h
    refine g_aload_n (pc := 8) C 0 0 dX9_strideNow_8 rfl rfl ?_
    refine g_iload_n (pc := 9) C 2 2 dX9_strideNow_9 rfl rfl ?_
    obtain ⟨u4, hvu4, h⟩ := zbind h
    obtain ⟨v6, σ5, hvσ5, h⟩ := zcb h
    refine g_callV (pc := 10) (av := [tI (p2)]) C (c_X9_isPerch hE hvσ5) yv_X9_isPerch ml_X9_196 ck_9 (zopt hvu4).1 rfl (rf_of (by decide)) rfl (Nat.le_of_ble_eq_true rfl) dX9_strideNow_10 ?_
    refine g_if_ne (pc := 13) C 19 dX9_strideNow_13 (by decide) (fun c24 => ?_) (fun c24 => ?_)
    · have h := zif_f c24 h
      refine g_aload_n (pc := 19) C 0 0 dX9_strideNow_19 rfl rfl ?_
      refine g_iload_n (pc := 20) C 1 1 dX9_strideNow_20 rfl rfl ?_
      refine g_aload_n (pc := 21) C 0 0 dX9_strideNow_21 rfl rfl ?_
      obtain ⟨r7, hvr7, h⟩ := zbind h
      refine g_getR (N := 58) (pc := 22) C ck_9 hvr7 rfl rfl fl_X9_13 dX9_strideNow_22 ?_
      refine g_bipush (v := 17) (pc := 25) C dX9_strideNow_25 (by decide) ?_
      refine g_iload_n (pc := 27) C 1 1 dX9_strideNow_27 rfl rfl ?_
      refine g_iadd (pc := 28) C dX9_strideNow_28 ?_
      obtain ⟨a8, hqa8, h9⟩ := zbind h
      clear h
      subst hqa8
      have h := h9
      clear h9
      obtain ⟨v9, hvv9, h⟩ := zbind h
      refine g_iald (pc := 29) C hvv9 dX9_strideNow_29 ?_
      refine g_iload_n (pc := 30) C 2 2 dX9_strideNow_30 rfl rfl ?_
      obtain ⟨u10, hvu10, h⟩ := zbind h
      obtain ⟨v12, σ11, hvσ11, h⟩ := zcb h
      refine g_callV (pc := 31) (av := [tI (p1), tI (v9), tI (p2)]) C (c_X9_canStride hE hvσ11) yv_X9_canStride ml_X9_231 ck_9 (zopt hvu10).1 rfl (rf_of (by decide)) rfl (Nat.le_of_ble_eq_true rfl) dX9_strideNow_31 ?_
      refine g_if_ne (pc := 34) C 40 dX9_strideNow_34 (by decide) (fun c23 => ?_) (fun c23 => ?_)
      · have h := zif_f c23 h
        refine g_aload_n (pc := 40) C 0 0 dX9_strideNow_40 rfl rfl ?_
        refine g_iconst (v := 0) (pc := 41) C dX9_strideNow_41 (by decide) ?_
        obtain ⟨u13, hvu13, h⟩ := zbind h
        obtain ⟨v15, σ14, hvσ14, h⟩ := zcb h
        refine g_callV (pc := 42) (av := [tI (0)]) C (c_X9_remember hE hvσ14) yv_X9_remember ml_X9_442 ck_9 (zopt hvu13).1 rfl (rf_of (by decide)) rfl (Nat.le_of_ble_eq_true rfl) dX9_strideNow_42 ?_
        refine g_aload_n (pc := 45) C 0 0 dX9_strideNow_45 rfl rfl ?_
        obtain ⟨r16, hvr16, h⟩ := zbind h
        refine g_getR (N := 58) (pc := 46) C ck_9 hvr16 rfl rfl fl_X9_13 dX9_strideNow_46 ?_
        refine g_bipush (v := 17) (pc := 49) C dX9_strideNow_49 (by decide) ?_
        refine g_iload_n (pc := 51) C 1 1 dX9_strideNow_51 rfl rfl ?_
        refine g_iadd (pc := 52) C dX9_strideNow_52 ?_
        refine g_iload_n (pc := 53) C 2 2 dX9_strideNow_53 rfl rfl ?_
        obtain ⟨a17, hqa17, h9⟩ := zbind h
        clear h
        subst hqa17
        have h := h9
        clear h9
        obtain ⟨σ18, hvσ18, h⟩ := zbind h
        refine g_iast (pc := 54) C hvσ18 dX9_strideNow_54 ?_
        refine g_aload_n (pc := 55) C 0 0 dX9_strideNow_55 rfl rfl ?_
        refine g_iload_n (pc := 56) C 2 2 dX9_strideNow_56 rfl rfl ?_
        obtain ⟨u19, hvu19, h⟩ := zbind h
        obtain ⟨v21, σ20, hvσ20, h⟩ := zcb h
        refine g_callV (pc := 57) (av := [tI (p2)]) C (c_X9_isSafe hE hvσ20) yv_X9_isSafe ml_X9_200 ck_9 (zopt hvu19).1 rfl (rf_of (by decide)) rfl (Nat.le_of_ble_eq_true rfl) dX9_strideNow_57 ?_
        refine g_if_eq (pc := 60) C 67 dX9_strideNow_60 (by decide) (fun c22 => ?_) (fun c22 => ?_)
        · have h := zif_t c22 h
          refine g_iconst (v := 0) (pc := 67) C dX9_strideNow_67 (by decide) ?_
          obtain ⟨rfl, rfl⟩ := zsome h
          exact g_iret (pc := 68) C rfl hx (by rw [hxn]; rfl) (by rw [hxn]; rfl) dX9_strideNow_68
        · have h := zif_f c22 h
          refine g_iconst (v := 1) (pc := 63) C dX9_strideNow_63 (by decide) ?_
          refine g_goto (pc := 64) C 68 dX9_strideNow_64 (by decide) ?_
          obtain ⟨rfl, rfl⟩ := zsome h
          exact g_iret (pc := 68) C rfl hx (by rw [hxn]; rfl) (by rw [hxn]; rfl) dX9_strideNow_68
      · have h := zif_t c23 h
        refine g_bipush (v := (-3)) (pc := 37) C dX9_strideNow_37 (by decide) ?_
        obtain ⟨rfl, rfl⟩ := zsome h
        exact g_iret (pc := 39) C rfl hx (by rw [hxn]; rfl) (by rw [hxn]; rfl) dX9_strideNow_39
    · have h := zif_t c24 h
      refine g_bipush (v := (-2)) (pc := 16) C dX9_strideNow_16 (by decide) ?_
      obtain ⟨rfl, rfl⟩ := zsome h
      exact g_iret (pc := 18) C rfl hx (by rw [hxn]; rfl) (by rw [hxn]; rfl) dX9_strideNow_18
def rm_X9_stride : Room := { frames := 8, cells := 0, slots := 0, locals := 189 }
noncomputable def s_X9_stride (h0 : Nat) (p1 : Int32) (p2 : Int32) (σ : Hp) : Option (Int32 × Hp) :=
  (wrI 9 σ h0 0 (0)).bind fun σ1 =>
  (ck 9 σ1 h0).bind fun u2 =>
  cb (s_X9_strideNow h0 (p1) (p2) σ1) fun v4 σ3 =>
  (ck 9 σ3 h0).bind fun u5 =>
  cb (s_X9_tell h0 (v4) σ3) fun v7 σ6 =>
  some ((v7), σ6)
set_option maxRecDepth 100000 in
theorem c_X9_stride {E : E0} (hE : EOK E) {h0 : Nat} {p1 : Int32} {p2 : Int32} {σ σ1 : Hp} {r : Int32} (h : s_X9_stride h0 p1 p2 σ = some (r, σ1)) : CT E yX9_stride (.code yX9_stride cX9_stride 3 (some .int)) rm_X9_stride [tR (some (h0)), tI (p1), tI (p2)] σ (some (tI r)) σ1 := by
  refine CT.mk hE (by decide +kernel) (Nat.le_of_ble_eq_true rfl) [(0, tR (some (h0))), (1, tI (p1)), (2, tI (p2))] rfl (fun X C hin hx hxn => ?_)
  have C : XOK E X cX9_stride RX9 3 (some .int) rm_X9_stride := C
  unfold s_X9_stride at h
  refine g_aload_n (pc := 0) C 0 0 dX9_stride_0 rfl rfl ?_
  refine g_iconst (v := 0) (pc := 1) C dX9_stride_1 (by decide) ?_
  obtain ⟨σ1, hvσ1, h⟩ := zbind h
  refine g_putI (N := 58) (pc := 2) C ⟨ck_9, rfl, tyX9_ok⟩ hvσ1 rfl fl_X9_161 rfl rfl dX9_stride_2 ?_
  refine g_aload_n (pc := 5) C 0 0 dX9_stride_5 rfl rfl ?_
  refine g_aload_n (pc := 6) C 0 0 dX9_stride_6 rfl rfl ?_
  refine g_iload_n (pc := 7) C 1 1 dX9_stride_7 rfl rfl ?_
  refine g_iload_n (pc := 8) C 2 2 dX9_stride_8 rfl rfl ?_
  obtain ⟨u2, hvu2, h⟩ := zbind h
  obtain ⟨v4, σ3, hvσ3, h⟩ := zcb h
  refine g_callV (pc := 9) (av := [tI (p1), tI (p2)]) C (c_X9_strideNow hE hvσ3) yv_X9_strideNow ml_X9_445 ck_9 (zopt hvu2).1 rfl (rf_of (by decide)) rfl (Nat.le_of_ble_eq_true rfl) dX9_stride_9 ?_
  obtain ⟨u5, hvu5, h⟩ := zbind h
  obtain ⟨v7, σ6, hvσ6, h⟩ := zcb h
  refine g_callV (pc := 12) (av := [tI (v4)]) C (c_X9_tell hE hvσ6) yv_X9_tell ml_X9_170 ck_9 (zopt hvu5).1 rfl (rf_of (by decide)) rfl (Nat.le_of_ble_eq_true rfl) dX9_stride_12 ?_
  obtain ⟨rfl, rfl⟩ := zsome h
  exact g_iret (pc := 15) C rfl hx (by rw [hxn]; rfl) (by rw [hxn]; rfl) dX9_stride_15
def rm_X9_putNow : Room := { frames := 2, cells := 0, slots := 0, locals := 46 }
noncomputable def s_X9_putNow (h0 : Nat) (p1 : Int32) (p2 : Int32) (σ : Hp) : Option (Int32 × Hp) :=
  (ck 9 σ h0).bind fun u1 =>
  cb (s_X9_isThing h0 (p1) σ) fun v3 σ2 =>
  if v3 = 0 then
    some (((-2)), σ2)
  else
    (ck 9 σ2 h0).bind fun u4 =>
    cb (s_X9_isPerch h0 (p2) σ2) fun v6 σ5 =>
    if v6 = 0 then
      some (((-2)), σ5)
    else
      (rdR 9 σ5 h0 3).bind fun r7 =>
      (r7).bind fun a8 =>
      (ldI 11 σ5 a8 (24 + p1)).bind fun v9 =>
      if v9 = p2 then
        some (((-3)), σ5)
      else
        (ck 9 σ5 h0).bind fun u10 =>
        cb (s_X9_remember h0 (1) σ5) fun v12 σ11 =>
        (rdR 9 σ11 h0 3).bind fun r13 =>
        (r13).bind fun a14 =>
        (stI σ11 a14 (24 + p1) (p2)).bind fun σ15 =>
        some ((v9), σ15)
set_option maxRecDepth 100000 in
theorem c_X9_putNow {E : E0} (hE : EOK E) {h0 : Nat} {p1 : Int32} {p2 : Int32} {σ σ1 : Hp} {r : Int32} (h : s_X9_putNow h0 p1 p2 σ = some (r, σ1)) : CT E yX9_putNow (.code yX9_putNow cX9_putNow 4 (some .int)) rm_X9_putNow [tR (some (h0)), tI (p1), tI (p2)] σ (some (tI r)) σ1 := by
  refine CT.mk hE (by decide +kernel) (Nat.le_of_ble_eq_true rfl) [(0, tR (some (h0))), (1, tI (p1)), (2, tI (p2))] rfl (fun X C hin hx hxn => ?_)
  have C : XOK E X cX9_putNow RX9 4 (some .int) rm_X9_putNow := C
  unfold s_X9_putNow at h
  refine g_aload_n (pc := 0) C 0 0 dX9_putNow_0 rfl rfl ?_
  refine g_iload_n (pc := 1) C 1 1 dX9_putNow_1 rfl rfl ?_
  obtain ⟨u1, hvu1, h⟩ := zbind h
  obtain ⟨v3, σ2, hvσ2, h⟩ := zcb h
  refine g_callV (pc := 2) (av := [tI (p1)]) C (c_X9_isThing hE hvσ2) yv_X9_isThing ml_X9_218 ck_9 (zopt hvu1).1 rfl (rf_of (by decide)) rfl (Nat.le_of_ble_eq_true rfl) dX9_putNow_2 ?_
  refine g_if_eq (pc := 5) C 16 dX9_putNow_5 (by decide) (fun c18 => ?_) (fun c18 => ?_)
  · have h := zif_t c18 h
    refine g_bipush (v := (-2)) (pc := 16) C dX9_putNow_16 (by decide) ?_
    obtain ⟨rfl, rfl⟩ := zsome h
    exact g_iret (pc := 18) C rfl hx (by rw [hxn]; rfl) (by rw [hxn]; rfl) dX9_putNow_18
  · have h := zif_f c18 h
    refine g_aload_n (pc := 8) C 0 0 dX9_putNow_8 rfl rfl ?_
    refine g_iload_n (pc := 9) C 2 2 dX9_putNow_9 rfl rfl ?_
    obtain ⟨u4, hvu4, h⟩ := zbind h
    obtain ⟨v6, σ5, hvσ5, h⟩ := zcb h
    refine g_callV (pc := 10) (av := [tI (p2)]) C (c_X9_isPerch hE hvσ5) yv_X9_isPerch ml_X9_196 ck_9 (zopt hvu4).1 rfl (rf_of (by decide)) rfl (Nat.le_of_ble_eq_true rfl) dX9_putNow_10 ?_
    refine g_if_ne (pc := 13) C 19 dX9_putNow_13 (by decide) (fun c17 => ?_) (fun c17 => ?_)
    · have h := zif_f c17 h
      refine g_aload_n (pc := 19) C 0 0 dX9_putNow_19 rfl rfl ?_
      obtain ⟨r7, hvr7, h⟩ := zbind h
      refine g_getR (N := 58) (pc := 20) C ck_9 hvr7 rfl rfl fl_X9_13 dX9_putNow_20 ?_
      refine g_bipush (v := 24) (pc := 23) C dX9_putNow_23 (by decide) ?_
      refine g_iload_n (pc := 25) C 1 1 dX9_putNow_25 rfl rfl ?_
      refine g_iadd (pc := 26) C dX9_putNow_26 ?_
      obtain ⟨a8, hqa8, h9⟩ := zbind h
      clear h
      subst hqa8
      have h := h9
      clear h9
      obtain ⟨v9, hvv9, h⟩ := zbind h
      refine g_iald (pc := 27) C hvv9 dX9_putNow_27 ?_
      refine g_istore_n (lm' := [(3, tI (v9)), (0, tR (some (h0))), (1, tI (p1)), (2, tI (p2))]) (pc := 28) C 3 dX9_putNow_28 rfl (by decide) rfl ?_
      refine g_iload_n (pc := 29) C 3 0 dX9_putNow_29 rfl rfl ?_
      refine g_iload_n (pc := 30) C 2 3 dX9_putNow_30 rfl rfl ?_
      refine g_icmp_ne (pc := 31) C 37 dX9_putNow_31 (by decide) (fun c16 => ?_) (fun c16 => ?_)
      · have h := zif_f c16 h
        refine g_aload_n (pc := 37) C 0 1 dX9_putNow_37 rfl rfl ?_
        refine g_iconst (v := 1) (pc := 38) C dX9_putNow_38 (by decide) ?_
        obtain ⟨u10, hvu10, h⟩ := zbind h
        obtain ⟨v12, σ11, hvσ11, h⟩ := zcb h
        refine g_callV (pc := 39) (av := [tI (1)]) C (c_X9_remember hE hvσ11) yv_X9_remember ml_X9_442 ck_9 (zopt hvu10).1 rfl (rf_of (by decide)) rfl (Nat.le_of_ble_eq_true rfl) dX9_putNow_39 ?_
        refine g_aload_n (pc := 42) C 0 1 dX9_putNow_42 rfl rfl ?_
        obtain ⟨r13, hvr13, h⟩ := zbind h
        refine g_getR (N := 58) (pc := 43) C ck_9 hvr13 rfl rfl fl_X9_13 dX9_putNow_43 ?_
        refine g_bipush (v := 24) (pc := 46) C dX9_putNow_46 (by decide) ?_
        refine g_iload_n (pc := 48) C 1 2 dX9_putNow_48 rfl rfl ?_
        refine g_iadd (pc := 49) C dX9_putNow_49 ?_
        refine g_iload_n (pc := 50) C 2 3 dX9_putNow_50 rfl rfl ?_
        obtain ⟨a14, hqa14, h9⟩ := zbind h
        clear h
        subst hqa14
        have h := h9
        clear h9
        obtain ⟨σ15, hvσ15, h⟩ := zbind h
        refine g_iast (pc := 51) C hvσ15 dX9_putNow_51 ?_
        refine g_iload_n (pc := 52) C 3 0 dX9_putNow_52 rfl rfl ?_
        obtain ⟨rfl, rfl⟩ := zsome h
        exact g_iret (pc := 53) C rfl hx (by rw [hxn]; rfl) (by rw [hxn]; rfl) dX9_putNow_53
      · have h := zif_t c16 h
        refine g_bipush (v := (-3)) (pc := 34) C dX9_putNow_34 (by decide) ?_
        obtain ⟨rfl, rfl⟩ := zsome h
        exact g_iret (pc := 36) C rfl hx (by rw [hxn]; rfl) (by rw [hxn]; rfl) dX9_putNow_36
    · have h := zif_t c17 h
      refine g_bipush (v := (-2)) (pc := 16) C dX9_putNow_16 (by decide) ?_
      obtain ⟨rfl, rfl⟩ := zsome h
      exact g_iret (pc := 18) C rfl hx (by rw [hxn]; rfl) (by rw [hxn]; rfl) dX9_putNow_18
def rm_X9_put : Room := { frames := 3, cells := 0, slots := 0, locals := 69 }
noncomputable def s_X9_put (h0 : Nat) (p1 : Int32) (p2 : Int32) (σ : Hp) : Option (Int32 × Hp) :=
  (wrI 9 σ h0 0 (0)).bind fun σ1 =>
  (ck 9 σ1 h0).bind fun u2 =>
  cb (s_X9_putNow h0 (p1) (p2) σ1) fun v4 σ3 =>
  (ck 9 σ3 h0).bind fun u5 =>
  cb (s_X9_tell h0 (v4) σ3) fun v7 σ6 =>
  some ((v7), σ6)
set_option maxRecDepth 100000 in
theorem c_X9_put {E : E0} (hE : EOK E) {h0 : Nat} {p1 : Int32} {p2 : Int32} {σ σ1 : Hp} {r : Int32} (h : s_X9_put h0 p1 p2 σ = some (r, σ1)) : CT E yX9_put (.code yX9_put cX9_put 3 (some .int)) rm_X9_put [tR (some (h0)), tI (p1), tI (p2)] σ (some (tI r)) σ1 := by
  refine CT.mk hE (by decide +kernel) (Nat.le_of_ble_eq_true rfl) [(0, tR (some (h0))), (1, tI (p1)), (2, tI (p2))] rfl (fun X C hin hx hxn => ?_)
  have C : XOK E X cX9_put RX9 3 (some .int) rm_X9_put := C
  unfold s_X9_put at h
  refine g_aload_n (pc := 0) C 0 0 dX9_put_0 rfl rfl ?_
  refine g_iconst (v := 0) (pc := 1) C dX9_put_1 (by decide) ?_
  obtain ⟨σ1, hvσ1, h⟩ := zbind h
  refine g_putI (N := 58) (pc := 2) C ⟨ck_9, rfl, tyX9_ok⟩ hvσ1 rfl fl_X9_161 rfl rfl dX9_put_2 ?_
  refine g_aload_n (pc := 5) C 0 0 dX9_put_5 rfl rfl ?_
  refine g_aload_n (pc := 6) C 0 0 dX9_put_6 rfl rfl ?_
  refine g_iload_n (pc := 7) C 1 1 dX9_put_7 rfl rfl ?_
  refine g_iload_n (pc := 8) C 2 2 dX9_put_8 rfl rfl ?_
  obtain ⟨u2, hvu2, h⟩ := zbind h
  obtain ⟨v4, σ3, hvσ3, h⟩ := zcb h
  refine g_callV (pc := 9) (av := [tI (p1), tI (p2)]) C (c_X9_putNow hE hvσ3) yv_X9_putNow ml_X9_448 ck_9 (zopt hvu2).1 rfl (rf_of (by decide)) rfl (Nat.le_of_ble_eq_true rfl) dX9_put_9 ?_
  obtain ⟨u5, hvu5, h⟩ := zbind h
  obtain ⟨v7, σ6, hvσ6, h⟩ := zcb h
  refine g_callV (pc := 12) (av := [tI (v4)]) C (c_X9_tell hE hvσ6) yv_X9_tell ml_X9_170 ck_9 (zopt hvu5).1 rfl (rf_of (by decide)) rfl (Nat.le_of_ble_eq_true rfl) dX9_put_12 ?_
  obtain ⟨rfl, rfl⟩ := zsome h
  exact g_iret (pc := 15) C rfl hx (by rw [hxn]; rfl) (by rw [hxn]; rfl) dX9_put_15
def rm_X9_doorNow : Room := { frames := 2, cells := 0, slots := 0, locals := 46 }
noncomputable def s_X9_doorNow (h0 : Nat) (p1 : Int32) (p2 : Int32) (σ : Hp) : Option (Int32 × Hp) :=
  cb (s_X9_isRoom (Int32.toInt64 (p1 : Int32)) σ) fun v2 σ1 =>
  if v2 = 0 then
    some (((-1)), σ1)
  else
    cb (s_X9_isRoom (Int32.toInt64 (p2 : Int32)) σ1) fun v4 σ3 =>
    if v4 = 0 then
      some (((-1)), σ3)
    else
      if p1 = p2 then
        some (((-1)), σ3)
      else
        (ck 9 σ3 h0).bind fun u5 =>
        cb (s_X9_remember h0 (2) σ3) fun v7 σ6 =>
        (rdR 9 σ6 h0 3).bind fun r8 =>
        (r8).bind fun a9 =>
        (ldI 11 σ6 a9 (11 + p1)).bind fun v10 =>
        (stI σ6 a9 (11 + p1) (v10 ^^^ (1 <<< (p2 &&& 31)))).bind fun σ11 =>
        (rdR 9 σ11 h0 3).bind fun r12 =>
        (r12).bind fun a13 =>
        (ldI 11 σ11 a13 (11 + p2)).bind fun v14 =>
        (stI σ11 a13 (11 + p2) (v14 ^^^ (1 <<< (p1 &&& 31)))).bind fun σ15 =>
        (rdR 9 σ15 h0 3).bind fun r16 =>
        (r16).bind fun a17 =>
        (ldI 11 σ15 a17 (11 + p1)).bind fun v18 =>
        some (((v18 >>> (p2 &&& 31)) &&& 1), σ15)
set_option maxRecDepth 100000 in
theorem c_X9_doorNow {E : E0} (hE : EOK E) {h0 : Nat} {p1 : Int32} {p2 : Int32} {σ σ1 : Hp} {r : Int32} (h : s_X9_doorNow h0 p1 p2 σ = some (r, σ1)) : CT E yX9_doorNow (.code yX9_doorNow cX9_doorNow 3 (some .int)) rm_X9_doorNow [tR (some (h0)), tI (p1), tI (p2)] σ (some (tI r)) σ1 := by
  refine CT.mk hE (by decide +kernel) (Nat.le_of_ble_eq_true rfl) [(0, tR (some (h0))), (1, tI (p1)), (2, tI (p2))] rfl (fun X C hin hx hxn => ?_)
  have C : XOK E X cX9_doorNow RX9 3 (some .int) rm_X9_doorNow := C
  unfold s_X9_doorNow at h
  refine g_iload_n (pc := 0) C 1 1 dX9_doorNow_0 rfl rfl ?_
  refine g_i2l (pc := 1) C dX9_doorNow_1 ?_
  obtain ⟨v2, σ1, hvσ1, h⟩ := zcb h
  refine g_callS (pc := 2) (av := [tJ (Int32.toInt64 (p1 : Int32))]) C (c_X9_isRoom hE hvσ1) ys_X9_isRoom ml_X9_190 rfl (rf_of (by decide)) rfl (Nat.le_of_ble_eq_true rfl) dX9_doorNow_2 ?_
  refine g_if_eq (pc := 5) C 21 dX9_doorNow_5 (by decide) (fun c21 => ?_) (fun c21 => ?_)
  · have h := zif_t c21 h
    refine g_iconst (v := (-1)) (pc := 21) C dX9_doorNow_21 (by decide) ?_
    obtain ⟨rfl, rfl⟩ := zsome h
    exact g_iret (pc := 22) C rfl hx (by rw [hxn]; rfl) (by rw [hxn]; rfl) dX9_doorNow_22
  · have h := zif_f c21 h
    refine g_iload_n (pc := 8) C 2 2 dX9_doorNow_8 rfl rfl ?_
    refine g_i2l (pc := 9) C dX9_doorNow_9 ?_
    obtain ⟨v4, σ3, hvσ3, h⟩ := zcb h
    refine g_callS (pc := 10) (av := [tJ (Int32.toInt64 (p2 : Int32))]) C (c_X9_isRoom hE hvσ3) ys_X9_isRoom ml_X9_190 rfl (rf_of (by decide)) rfl (Nat.le_of_ble_eq_true rfl) dX9_doorNow_10 ?_
    refine g_if_eq (pc := 13) C 21 dX9_doorNow_13 (by decide) (fun c20 => ?_) (fun c20 => ?_)
    · have h := zif_t c20 h
      refine g_iconst (v := (-1)) (pc := 21) C dX9_doorNow_21 (by decide) ?_
      obtain ⟨rfl, rfl⟩ := zsome h
      exact g_iret (pc := 22) C rfl hx (by rw [hxn]; rfl) (by rw [hxn]; rfl) dX9_doorNow_22
    · have h := zif_f c20 h
      refine g_iload_n (pc := 16) C 1 1 dX9_doorNow_16 rfl rfl ?_
      refine g_iload_n (pc := 17) C 2 2 dX9_doorNow_17 rfl rfl ?_
      refine g_icmp_ne (pc := 18) C 23 dX9_doorNow_18 (by decide) (fun c19 => ?_) (fun c19 => ?_)
      · have h := zif_f c19 h
        refine g_aload_n (pc := 23) C 0 0 dX9_doorNow_23 rfl rfl ?_
        refine g_iconst (v := 2) (pc := 24) C dX9_doorNow_24 (by decide) ?_
        obtain ⟨u5, hvu5, h⟩ := zbind h
        obtain ⟨v7, σ6, hvσ6, h⟩ := zcb h
        refine g_callV (pc := 25) (av := [tI (2)]) C (c_X9_remember hE hvσ6) yv_X9_remember ml_X9_442 ck_9 (zopt hvu5).1 rfl (rf_of (by decide)) rfl (Nat.le_of_ble_eq_true rfl) dX9_doorNow_25 ?_
        refine g_aload_n (pc := 28) C 0 0 dX9_doorNow_28 rfl rfl ?_
        obtain ⟨r8, hvr8, h⟩ := zbind h
        refine g_getR (N := 58) (pc := 29) C ck_9 hvr8 rfl rfl fl_X9_13 dX9_doorNow_29 ?_
        refine g_bipush (v := 11) (pc := 32) C dX9_doorNow_32 (by decide) ?_
        refine g_iload_n (pc := 34) C 1 1 dX9_doorNow_34 rfl rfl ?_
        refine g_iadd (pc := 35) C dX9_doorNow_35 ?_
        refine g_dup2 (pc := 36) C dX9_doorNow_36 rfl rfl ?_
        obtain ⟨a9, hqa9, h9⟩ := zbind h
        clear h
        subst hqa9
        have h := h9
        clear h9
        obtain ⟨v10, hvv10, h⟩ := zbind h
        refine g_iald (pc := 37) C hvv10 dX9_doorNow_37 ?_
        refine g_iconst (v := 1) (pc := 38) C dX9_doorNow_38 (by decide) ?_
        refine g_iload_n (pc := 39) C 2 2 dX9_doorNow_39 rfl rfl ?_
        refine g_ishl (pc := 40) C dX9_doorNow_40 ?_
        refine g_ixor (pc := 41) C dX9_doorNow_41 ?_
        obtain ⟨σ11, hvσ11, h⟩ := zbind h
        refine g_iast (pc := 42) C hvσ11 dX9_doorNow_42 ?_
        refine g_aload_n (pc := 43) C 0 0 dX9_doorNow_43 rfl rfl ?_
        obtain ⟨r12, hvr12, h⟩ := zbind h
        refine g_getR (N := 58) (pc := 44) C ck_9 hvr12 rfl rfl fl_X9_13 dX9_doorNow_44 ?_
        refine g_bipush (v := 11) (pc := 47) C dX9_doorNow_47 (by decide) ?_
        refine g_iload_n (pc := 49) C 2 2 dX9_doorNow_49 rfl rfl ?_
        refine g_iadd (pc := 50) C dX9_doorNow_50 ?_
        refine g_dup2 (pc := 51) C dX9_doorNow_51 rfl rfl ?_
        obtain ⟨a13, hqa13, h9⟩ := zbind h
        clear h
        subst hqa13
        have h := h9
        clear h9
        obtain ⟨v14, hvv14, h⟩ := zbind h
        refine g_iald (pc := 52) C hvv14 dX9_doorNow_52 ?_
        refine g_iconst (v := 1) (pc := 53) C dX9_doorNow_53 (by decide) ?_
        refine g_iload_n (pc := 54) C 1 1 dX9_doorNow_54 rfl rfl ?_
        refine g_ishl (pc := 55) C dX9_doorNow_55 ?_
        refine g_ixor (pc := 56) C dX9_doorNow_56 ?_
        obtain ⟨σ15, hvσ15, h⟩ := zbind h
        refine g_iast (pc := 57) C hvσ15 dX9_doorNow_57 ?_
        refine g_aload_n (pc := 58) C 0 0 dX9_doorNow_58 rfl rfl ?_
        obtain ⟨r16, hvr16, h⟩ := zbind h
        refine g_getR (N := 58) (pc := 59) C ck_9 hvr16 rfl rfl fl_X9_13 dX9_doorNow_59 ?_
        refine g_bipush (v := 11) (pc := 62) C dX9_doorNow_62 (by decide) ?_
        refine g_iload_n (pc := 64) C 1 1 dX9_doorNow_64 rfl rfl ?_
        refine g_iadd (pc := 65) C dX9_doorNow_65 ?_
        obtain ⟨a17, hqa17, h9⟩ := zbind h
        clear h
        subst hqa17
        have h := h9
        clear h9
        obtain ⟨v18, hvv18, h⟩ := zbind h
        refine g_iald (pc := 66) C hvv18 dX9_doorNow_66 ?_
        refine g_iload_n (pc := 67) C 2 2 dX9_doorNow_67 rfl rfl ?_
        refine g_ishr (pc := 68) C dX9_doorNow_68 ?_
        refine g_iconst (v := 1) (pc := 69) C dX9_doorNow_69 (by decide) ?_
        refine g_iand (pc := 70) C dX9_doorNow_70 ?_
        obtain ⟨rfl, rfl⟩ := zsome h
        exact g_iret (pc := 71) C rfl hx (by rw [hxn]; rfl) (by rw [hxn]; rfl) dX9_doorNow_71
      · have h := zif_t c19 h
        refine g_iconst (v := (-1)) (pc := 21) C dX9_doorNow_21 (by decide) ?_
        obtain ⟨rfl, rfl⟩ := zsome h
        exact g_iret (pc := 22) C rfl hx (by rw [hxn]; rfl) (by rw [hxn]; rfl) dX9_doorNow_22
def rm_X9_door : Room := { frames := 3, cells := 0, slots := 0, locals := 68 }
noncomputable def s_X9_door (h0 : Nat) (p1 : Int32) (p2 : Int32) (σ : Hp) : Option (Int32 × Hp) :=
  (wrI 9 σ h0 0 (0)).bind fun σ1 =>
  (ck 9 σ1 h0).bind fun u2 =>
  cb (s_X9_doorNow h0 (p1) (p2) σ1) fun v4 σ3 =>
  (ck 9 σ3 h0).bind fun u5 =>
  cb (s_X9_tell h0 (v4) σ3) fun v7 σ6 =>
  some ((v7), σ6)
set_option maxRecDepth 100000 in
theorem c_X9_door {E : E0} (hE : EOK E) {h0 : Nat} {p1 : Int32} {p2 : Int32} {σ σ1 : Hp} {r : Int32} (h : s_X9_door h0 p1 p2 σ = some (r, σ1)) : CT E yX9_door (.code yX9_door cX9_door 3 (some .int)) rm_X9_door [tR (some (h0)), tI (p1), tI (p2)] σ (some (tI r)) σ1 := by
  refine CT.mk hE (by decide +kernel) (Nat.le_of_ble_eq_true rfl) [(0, tR (some (h0))), (1, tI (p1)), (2, tI (p2))] rfl (fun X C hin hx hxn => ?_)
  have C : XOK E X cX9_door RX9 3 (some .int) rm_X9_door := C
  unfold s_X9_door at h
  refine g_aload_n (pc := 0) C 0 0 dX9_door_0 rfl rfl ?_
  refine g_iconst (v := 0) (pc := 1) C dX9_door_1 (by decide) ?_
  obtain ⟨σ1, hvσ1, h⟩ := zbind h
  refine g_putI (N := 58) (pc := 2) C ⟨ck_9, rfl, tyX9_ok⟩ hvσ1 rfl fl_X9_161 rfl rfl dX9_door_2 ?_
  refine g_aload_n (pc := 5) C 0 0 dX9_door_5 rfl rfl ?_
  refine g_aload_n (pc := 6) C 0 0 dX9_door_6 rfl rfl ?_
  refine g_iload_n (pc := 7) C 1 1 dX9_door_7 rfl rfl ?_
  refine g_iload_n (pc := 8) C 2 2 dX9_door_8 rfl rfl ?_
  obtain ⟨u2, hvu2, h⟩ := zbind h
  obtain ⟨v4, σ3, hvσ3, h⟩ := zcb h
  refine g_callV (pc := 9) (av := [tI (p1), tI (p2)]) C (c_X9_doorNow hE hvσ3) yv_X9_doorNow ml_X9_451 ck_9 (zopt hvu2).1 rfl (rf_of (by decide)) rfl (Nat.le_of_ble_eq_true rfl) dX9_door_9 ?_
  obtain ⟨u5, hvu5, h⟩ := zbind h
  obtain ⟨v7, σ6, hvσ6, h⟩ := zcb h
  refine g_callV (pc := 12) (av := [tI (v4)]) C (c_X9_tell hE hvσ6) yv_X9_tell ml_X9_170 ck_9 (zopt hvu5).1 rfl (rf_of (by decide)) rfl (Nat.le_of_ble_eq_true rfl) dX9_door_12 ?_
  obtain ⟨rfl, rfl⟩ := zsome h
  exact g_iret (pc := 15) C rfl hx (by rw [hxn]; rfl) (by rw [hxn]; rfl) dX9_door_15
def rm_X9_allGo : Room := { frames := 6, cells := 0, slots := 0, locals := 148 }
noncomputable def s_X9_allGo_b2 (h0 : Nat) (l1 : Int32) (σ : Hp) : Option (((Nat × Int32) ⊕ (Nat)) × Hp) :=
  (rdR 9 σ h0 3).bind fun r1 =>
  (r1).bind fun a2 =>
  (ldI 11 σ a2 (2)).bind fun v3 =>
  if v3 ≤ l1 then
    some (Sum.inr (h0), σ)
  else
    (rdR 9 σ h0 41).bind fun r4 =>
    (ck 9 σ h0).bind fun u5 =>
    cb (s_X9_goesTo h0 (l1) σ) fun v7 σ6 =>
    (r4).bind fun a8 =>
    (stI σ6 a8 (l1) (v7)).bind fun σ9 =>
    some (Sum.inl ((h0), (l1 + 1)), σ9)
noncomputable def s_X9_allGo_l2 : (Nat × Int32) → Hp → Option ((Nat) × Hp) := loopF (fun v => s_X9_allGo_b2 (v.1) (v.2))
set_option maxRecDepth 100000 in
theorem w_X9_allGo_b2 {E : E0} (hE : EOK E) {X : X0} (C : XOK E X cX9_allGo RX9 2 none rm_X9_allGo) (hxn : xn X = (rm_X9_allGo.cells, rm_X9_allGo.slots)) {KE : (Nat) → Hp → Prop} (e_29 : ∀ (h0 : Nat) (σ : Hp), KE (h0) σ → G E X 0 0 29 [(0, tR (some (h0)))] [] σ) (h0 : Nat) (l1 : Int32) (σ : Hp) (x : (Nat × Int32) ⊕ (Nat)) (σ1 : Hp) (h : s_X9_allGo_b2 h0 l1 σ = some (x, σ1)) (hI : ∀ v, x = Sum.inl v → (fun (v : Nat × Int32) (σ : Hp) => G E X 0 0 2 [(0, tR (some ((v.1)))), (1, tI ((v.2)))] [] σ) v σ1) (hO : ∀ e, x = Sum.inr e → KE e σ1) : G E X 0 0 2 [(0, tR (some (h0))), (1, tI (l1))] [] σ := by
  unfold s_X9_allGo_b2 at h
  refine g_iload_n (pc := 2) C 1 1 dX9_allGo_2 rfl rfl ?_
  refine g_aload_n (pc := 3) C 0 0 dX9_allGo_3 rfl rfl ?_
  obtain ⟨r1, hvr1, h⟩ := zbind h
  refine g_getR (N := 58) (pc := 4) C ck_9 hvr1 rfl rfl fl_X9_13 dX9_allGo_4 ?_
  refine g_iconst (v := 2) (pc := 7) C dX9_allGo_7 (by decide) ?_
  obtain ⟨a2, hqa2, h9⟩ := zbind h
  clear h
  subst hqa2
  have h := h9
  clear h9
  obtain ⟨v3, hvv3, h⟩ := zbind h
  refine g_iald (pc := 8) C hvv3 dX9_allGo_8 ?_
  refine g_icmp_ge (pc := 9) C 29 dX9_allGo_9 (by decide) (fun c10 => ?_) (fun c10 => ?_)
  · have h := zif_t c10 h
    refine g_sub [0] (lm' := [(0, tR (some (h0)))]) rfl ?_
    obtain ⟨rfl, rfl⟩ := zsome h
    exact e_29 _ _ (hO _ rfl)
  · have h := zif_f c10 h
    refine g_aload_n (pc := 12) C 0 0 dX9_allGo_12 rfl rfl ?_
    obtain ⟨r4, hvr4, h⟩ := zbind h
    refine g_getR (N := 58) (pc := 13) C ck_9 hvr4 rfl rfl fl_X9_110 dX9_allGo_13 ?_
    refine g_iload_n (pc := 16) C 1 1 dX9_allGo_16 rfl rfl ?_
    refine g_aload_n (pc := 17) C 0 0 dX9_allGo_17 rfl rfl ?_
    refine g_iload_n (pc := 18) C 1 1 dX9_allGo_18 rfl rfl ?_
    obtain ⟨u5, hvu5, h⟩ := zbind h
    obtain ⟨v7, σ6, hvσ6, h⟩ := zcb h
    refine g_callV (pc := 19) (av := [tI (l1)]) C (c_X9_goesTo hE hvσ6) yv_X9_goesTo ml_X9_215 ck_9 (zopt hvu5).1 rfl (rf_of (by decide)) rfl (Nat.le_of_ble_eq_true rfl) dX9_allGo_19 ?_
    obtain ⟨a8, hqa8, h9⟩ := zbind h
    clear h
    subst hqa8
    have h := h9
    clear h9
    obtain ⟨σ9, hvσ9, h⟩ := zbind h
    refine g_iast (pc := 22) C hvσ9 dX9_allGo_22 ?_
    refine g_iinc (lm' := [(1, tI (l1 + 1)), (0, tR (some (h0)))]) (v := l1 + 1) (pc := 23) C 1 dX9_allGo_23 rfl rfl (by decide) rfl ?_
    refine g_goto (pc := 26) C 2 dX9_allGo_26 (by decide) ?_
    refine g_sub [1, 0] (lm' := [(0, tR (some (h0))), (1, tI (l1 + 1))]) rfl ?_
    obtain ⟨rfl, rfl⟩ := zsome h
    exact hI _ rfl
theorem w_X9_allGo_l2 {E : E0} (hE : EOK E) {X : X0} (C : XOK E X cX9_allGo RX9 2 none rm_X9_allGo) (hxn : xn X = (rm_X9_allGo.cells, rm_X9_allGo.slots)) {KE : (Nat) → Hp → Prop} (e_29 : ∀ (h0 : Nat) (σ : Hp), KE (h0) σ → G E X 0 0 29 [(0, tR (some (h0)))] [] σ) {v : Nat × Int32} {σ : Hp} {e : Nat} {σ1 : Hp} (h : s_X9_allGo_l2 v σ = some (e, σ1)) (hO : KE e σ1) : G E X 0 0 2 [(0, tR (some ((v.1)))), (1, tI ((v.2)))] [] σ := loopF_ind (P := fun (v : Nat × Int32) (σ : Hp) => G E X 0 0 2 [(0, tR (some ((v.1)))), (1, tI ((v.2)))] [] σ) (KE := KE) (fun v σ x σ1 h hI hO => w_X9_allGo_b2 hE C hxn e_29 (v.1) (v.2) σ x σ1 h hI hO) v σ e σ1 h hO
noncomputable def s_X9_allGo_b31 (h0 : Nat) (l1 : Int32) (σ : Hp) : Option (((Nat × Int32) ⊕ (Nat)) × Hp) :=
  (rdR 9 σ h0 3).bind fun r1 =>
  (r1).bind fun a2 =>
  (ldI 11 σ a2 (2)).bind fun v3 =>
  if v3 ≤ l1 then
    some (Sum.inr (h0), σ)
  else
    (rdR 9 σ h0 3).bind fun r4 =>
    (rdR 9 σ h0 41).bind fun r5 =>
    (r5).bind fun a6 =>
    (ldI 11 σ a6 (l1)).bind fun v7 =>
    (r4).bind fun a8 =>
    (stI σ a8 (21 + l1) (v7)).bind fun σ9 =>
    some (Sum.inl ((h0), (l1 + 1)), σ9)
noncomputable def s_X9_allGo_l31 : (Nat × Int32) → Hp → Option ((Nat) × Hp) := loopF (fun v => s_X9_allGo_b31 (v.1) (v.2))
set_option maxRecDepth 100000 in
theorem w_X9_allGo_b31 {E : E0} (hE : EOK E) {X : X0} (C : XOK E X cX9_allGo RX9 2 none rm_X9_allGo) (hxn : xn X = (rm_X9_allGo.cells, rm_X9_allGo.slots)) {KE : (Nat) → Hp → Prop} (e_62 : ∀ (h0 : Nat) (σ : Hp), KE (h0) σ → G E X 0 0 62 [(0, tR (some (h0)))] [] σ) (h0 : Nat) (l1 : Int32) (σ : Hp) (x : (Nat × Int32) ⊕ (Nat)) (σ1 : Hp) (h : s_X9_allGo_b31 h0 l1 σ = some (x, σ1)) (hI : ∀ v, x = Sum.inl v → (fun (v : Nat × Int32) (σ : Hp) => G E X 0 0 31 [(0, tR (some ((v.1)))), (1, tI ((v.2)))] [] σ) v σ1) (hO : ∀ e, x = Sum.inr e → KE e σ1) : G E X 0 0 31 [(0, tR (some (h0))), (1, tI (l1))] [] σ := by
  unfold s_X9_allGo_b31 at h
  refine g_iload_n (pc := 31) C 1 1 dX9_allGo_31 rfl rfl ?_
  refine g_aload_n (pc := 32) C 0 0 dX9_allGo_32 rfl rfl ?_
  obtain ⟨r1, hvr1, h⟩ := zbind h
  refine g_getR (N := 58) (pc := 33) C ck_9 hvr1 rfl rfl fl_X9_13 dX9_allGo_33 ?_
  refine g_iconst (v := 2) (pc := 36) C dX9_allGo_36 (by decide) ?_
  obtain ⟨a2, hqa2, h9⟩ := zbind h
  clear h
  subst hqa2
  have h := h9
  clear h9
  obtain ⟨v3, hvv3, h⟩ := zbind h
  refine g_iald (pc := 37) C hvv3 dX9_allGo_37 ?_
  refine g_icmp_ge (pc := 38) C 62 dX9_allGo_38 (by decide) (fun c10 => ?_) (fun c10 => ?_)
  · have h := zif_t c10 h
    refine g_sub [0] (lm' := [(0, tR (some (h0)))]) rfl ?_
    obtain ⟨rfl, rfl⟩ := zsome h
    exact e_62 _ _ (hO _ rfl)
  · have h := zif_f c10 h
    refine g_aload_n (pc := 41) C 0 0 dX9_allGo_41 rfl rfl ?_
    obtain ⟨r4, hvr4, h⟩ := zbind h
    refine g_getR (N := 58) (pc := 42) C ck_9 hvr4 rfl rfl fl_X9_13 dX9_allGo_42 ?_
    refine g_bipush (v := 21) (pc := 45) C dX9_allGo_45 (by decide) ?_
    refine g_iload_n (pc := 47) C 1 1 dX9_allGo_47 rfl rfl ?_
    refine g_iadd (pc := 48) C dX9_allGo_48 ?_
    refine g_aload_n (pc := 49) C 0 0 dX9_allGo_49 rfl rfl ?_
    obtain ⟨r5, hvr5, h⟩ := zbind h
    refine g_getR (N := 58) (pc := 50) C ck_9 hvr5 rfl rfl fl_X9_110 dX9_allGo_50 ?_
    refine g_iload_n (pc := 53) C 1 1 dX9_allGo_53 rfl rfl ?_
    obtain ⟨a6, hqa6, h9⟩ := zbind h
    clear h
    subst hqa6
    have h := h9
    clear h9
    obtain ⟨v7, hvv7, h⟩ := zbind h
    refine g_iald (pc := 54) C hvv7 dX9_allGo_54 ?_
    obtain ⟨a8, hqa8, h9⟩ := zbind h
    clear h
    subst hqa8
    have h := h9
    clear h9
    obtain ⟨σ9, hvσ9, h⟩ := zbind h
    refine g_iast (pc := 55) C hvσ9 dX9_allGo_55 ?_
    refine g_iinc (lm' := [(1, tI (l1 + 1)), (0, tR (some (h0)))]) (v := l1 + 1) (pc := 56) C 1 dX9_allGo_56 rfl rfl (by decide) rfl ?_
    refine g_goto (pc := 59) C 31 dX9_allGo_59 (by decide) ?_
    refine g_sub [1, 0] (lm' := [(0, tR (some (h0))), (1, tI (l1 + 1))]) rfl ?_
    obtain ⟨rfl, rfl⟩ := zsome h
    exact hI _ rfl
theorem w_X9_allGo_l31 {E : E0} (hE : EOK E) {X : X0} (C : XOK E X cX9_allGo RX9 2 none rm_X9_allGo) (hxn : xn X = (rm_X9_allGo.cells, rm_X9_allGo.slots)) {KE : (Nat) → Hp → Prop} (e_62 : ∀ (h0 : Nat) (σ : Hp), KE (h0) σ → G E X 0 0 62 [(0, tR (some (h0)))] [] σ) {v : Nat × Int32} {σ : Hp} {e : Nat} {σ1 : Hp} (h : s_X9_allGo_l31 v σ = some (e, σ1)) (hO : KE e σ1) : G E X 0 0 31 [(0, tR (some ((v.1)))), (1, tI ((v.2)))] [] σ := loopF_ind (P := fun (v : Nat × Int32) (σ : Hp) => G E X 0 0 31 [(0, tR (some ((v.1)))), (1, tI ((v.2)))] [] σ) (KE := KE) (fun v σ x σ1 h hI hO => w_X9_allGo_b31 hE C hxn e_62 (v.1) (v.2) σ x σ1 h hI hO) v σ e σ1 h hO
noncomputable def s_X9_allGo (h0 : Nat) (σ : Hp) : Option (Unit × Hp) :=
  cb (s_X9_allGo_l2 ((h0), (0)) σ) fun h1 σ13 =>
  cb (s_X9_allGo_l31 ((h1), (0)) σ13) fun h3 σ10 =>
  (rdR 9 σ10 h3 3).bind fun r5 =>
  (r5).bind fun a6 =>
  (ldI 11 σ10 a6 (7)).bind fun v7 =>
  (stI σ10 a6 (7) (v7 + 1)).bind fun σ8 =>
  some ((), σ8)
set_option maxRecDepth 100000 in
theorem c_X9_allGo {E : E0} (hE : EOK E) {h0 : Nat} {σ σ1 : Hp} {r : Unit} (h : s_X9_allGo h0 σ = some (r, σ1)) : CT E yX9_allGo (.code yX9_allGo cX9_allGo 2 none) rm_X9_allGo [tR (some (h0))] σ none σ1 := by
  refine CT.mk hE (by decide +kernel) (Nat.le_of_ble_eq_true rfl) [(0, tR (some (h0)))] rfl (fun X C hin hx hxn => ?_)
  have C : XOK E X cX9_allGo RX9 2 none rm_X9_allGo := C
  unfold s_X9_allGo at h
  refine g_iconst (v := 0) (pc := 0) C dX9_allGo_0 (by decide) ?_
  refine g_istore_n (lm' := [(1, tI (0)), (0, tR (some (h0)))]) (pc := 1) C 1 dX9_allGo_1 rfl (by decide) rfl ?_
  refine g_sub [1, 0] (lm' := [(0, tR (some (h0))), (1, tI (0))]) rfl ?_
  obtain ⟨KQ, hKQ, h1, σ13, hlh1, h⟩ := zcbK h
  refine w_X9_allGo_l2 (KE := KQ) hE C hxn ?_ hlh1 h
  · intro h1 σ2 h
    have h := (hKQ _ _).mp h
    refine g_iconst (v := 0) (pc := 29) C dX9_allGo_29 (by decide) ?_
    refine g_istore_n (lm' := [(1, tI (0)), (0, tR (some (h1)))]) (pc := 30) C 1 dX9_allGo_30 rfl (by decide) rfl ?_
    refine g_sub [1, 0] (lm' := [(0, tR (some (h1))), (1, tI (0))]) rfl ?_
    obtain ⟨KQ, hKQ, h3, σ10, hlh3, h⟩ := zcbK h
    refine w_X9_allGo_l31 (KE := KQ) hE C hxn ?_ hlh3 h
    · intro h3 σ4 h
      have h := (hKQ _ _).mp h
      refine g_aload_n (pc := 62) C 0 0 dX9_allGo_62 rfl rfl ?_
      obtain ⟨r5, hvr5, h⟩ := zbind h
      refine g_getR (N := 58) (pc := 63) C ck_9 hvr5 rfl rfl fl_X9_13 dX9_allGo_63 ?_
      refine g_bipush (v := 7) (pc := 66) C dX9_allGo_66 (by decide) ?_
      refine g_dup2 (pc := 68) C dX9_allGo_68 rfl rfl ?_
      obtain ⟨a6, hqa6, h9⟩ := zbind h
      clear h
      subst hqa6
      have h := h9
      clear h9
      obtain ⟨v7, hvv7, h⟩ := zbind h
      refine g_iald (pc := 69) C hvv7 dX9_allGo_69 ?_
      refine g_iconst (v := 1) (pc := 70) C dX9_allGo_70 (by decide) ?_
      refine g_iadd (pc := 71) C dX9_allGo_71 ?_
      obtain ⟨σ8, hvσ8, h⟩ := zbind h
      refine g_iast (pc := 72) C hvσ8 dX9_allGo_72 ?_
      obtain ⟨rfl, rfl⟩ := zsome h
      exact g_vret (pc := 73) C rfl hx (by rw [hxn]; rfl) (by rw [hxn]; rfl) dX9_allGo_73
def rm_X9_passIt : Room := { frames := 7, cells := 0, slots := 0, locals := 169 }
noncomputable def s_X9_passIt_j54 (h0 : Nat) (l2 : Int32) (t0 : Int32) (t1 : Int32) (σ : Hp) : Option (((Nat × Int32 × Int32) ⊕ ((Nat × Int32))) × Hp) :=
  some (Sum.inl ((h0), (t0 + t1), (l2 + 1)), σ)
set_option maxRecDepth 100000 in
theorem w_X9_passIt_j54 {E : E0} (hE : EOK E) {X : X0} (C : XOK E X cX9_passIt RX9 4 (some .int) rm_X9_passIt) (hxn : xn X = (rm_X9_passIt.cells, rm_X9_passIt.slots)) {KE : ((Nat × Int32)) → Hp → Prop} (e_62 : ∀ (h0 : Nat) (l1 : Int32) (σ : Hp), KE ((h0, l1)) σ → G E X 0 0 62 [(0, tR (some (h0))), (1, tI (l1))] [] σ) (h0 : Nat) (l2 : Int32) (t0 : Int32) (t1 : Int32) (σ : Hp) (x : (Nat × Int32 × Int32) ⊕ ((Nat × Int32))) (σ1 : Hp) (h : s_X9_passIt_j54 h0 l2 t0 t1 σ = some (x, σ1)) (hI : ∀ v, x = Sum.inl v → (fun (v : Nat × Int32 × Int32) (σ : Hp) => G E X 0 0 4 [(0, tR (some ((v.1)))), (1, tI ((v.2.1))), (2, tI ((v.2.2)))] [] σ) v σ1) (hO : ∀ e, x = Sum.inr e → KE e σ1) : G E X 0 0 54 [(0, tR (some (h0))), (2, tI (l2))] [tI (t1), tI (t0)] σ := by
  unfold s_X9_passIt_j54 at h
  refine g_iadd (pc := 54) C dX9_passIt_54 ?_
  refine g_istore_n (lm' := [(1, tI (t0 + t1)), (0, tR (some (h0))), (2, tI (l2))]) (pc := 55) C 1 dX9_passIt_55 rfl (by decide) rfl ?_
  refine g_iinc (lm' := [(2, tI (l2 + 1)), (1, tI (t0 + t1)), (0, tR (some (h0)))]) (v := l2 + 1) (pc := 56) C 2 dX9_passIt_56 rfl rfl (by decide) rfl ?_
  refine g_goto (pc := 59) C 4 dX9_passIt_59 (by decide) ?_
  refine g_sub [2, 1, 0] (lm' := [(0, tR (some (h0))), (1, tI (t0 + t1)), (2, tI (l2 + 1))]) rfl ?_
  obtain ⟨rfl, rfl⟩ := zsome h
  exact hI _ rfl
noncomputable def s_X9_passIt_j53 (h0 : Nat) (l2 : Int32) (t0 : Int32) (σ : Hp) : Option (((Nat × Int32 × Int32) ⊕ ((Nat × Int32))) × Hp) :=
  s_X9_passIt_j54 (h0) (l2) (t0) (0) σ
set_option maxRecDepth 100000 in
theorem w_X9_passIt_j53 {E : E0} (hE : EOK E) {X : X0} (C : XOK E X cX9_passIt RX9 4 (some .int) rm_X9_passIt) (hxn : xn X = (rm_X9_passIt.cells, rm_X9_passIt.slots)) {KE : ((Nat × Int32)) → Hp → Prop} (e_62 : ∀ (h0 : Nat) (l1 : Int32) (σ : Hp), KE ((h0, l1)) σ → G E X 0 0 62 [(0, tR (some (h0))), (1, tI (l1))] [] σ) (h0 : Nat) (l2 : Int32) (t0 : Int32) (σ : Hp) (x : (Nat × Int32 × Int32) ⊕ ((Nat × Int32))) (σ1 : Hp) (h : s_X9_passIt_j53 h0 l2 t0 σ = some (x, σ1)) (hI : ∀ v, x = Sum.inl v → (fun (v : Nat × Int32 × Int32) (σ : Hp) => G E X 0 0 4 [(0, tR (some ((v.1)))), (1, tI ((v.2.1))), (2, tI ((v.2.2)))] [] σ) v σ1) (hO : ∀ e, x = Sum.inr e → KE e σ1) : G E X 0 0 53 [(0, tR (some (h0))), (2, tI (l2))] [tI (t0)] σ := by
  unfold s_X9_passIt_j53 at h
  refine g_iconst (v := 0) (pc := 53) C dX9_passIt_53 (by decide) ?_
  exact w_X9_passIt_j54 hE C hxn e_62 _ _ _ _ _ _ _ h hI hO
noncomputable def s_X9_passIt_b4 (h0 : Nat) (l1 : Int32) (l2 : Int32) (σ : Hp) : Option (((Nat × Int32 × Int32) ⊕ ((Nat × Int32))) × Hp) :=
  (rdR 9 σ h0 3).bind fun r1 =>
  (r1).bind fun a2 =>
  (ldI 11 σ a2 (1)).bind fun v3 =>
  if v3 ≤ l2 then
    some (Sum.inr ((h0), (l1)), σ)
  else
    (rdR 9 σ h0 3).bind fun r4 =>
    (r4).bind fun a5 =>
    (ldI 11 σ a5 (17 + l2)).bind fun v6 =>
    (ck 9 σ h0).bind fun u7 =>
    cb (s_X9_isSafe h0 (v6) σ) fun v9 σ8 =>
    if v9 = 0 then
      (rdR 9 σ8 h0 3).bind fun r10 =>
      (r10).bind fun a11 =>
      (ldI 11 σ8 a11 (30 + v6)).bind fun v12 =>
      (ck 9 σ8 h0).bind fun u13 =>
      cb (s_X9_badgersIn h0 (v12) σ8) fun v15 σ14 =>
      if v15 ≤ 0 then
        s_X9_passIt_j53 (h0) (l2) (l1) σ14
      else
        s_X9_passIt_j54 (h0) (l2) (l1) (1) σ14
    else
      s_X9_passIt_j53 (h0) (l2) (l1) σ8
noncomputable def s_X9_passIt_l4 : (Nat × Int32 × Int32) → Hp → Option (((Nat × Int32)) × Hp) := loopF (fun v => s_X9_passIt_b4 (v.1) (v.2.1) (v.2.2))
set_option maxRecDepth 100000 in
theorem w_X9_passIt_b4 {E : E0} (hE : EOK E) {X : X0} (C : XOK E X cX9_passIt RX9 4 (some .int) rm_X9_passIt) (hxn : xn X = (rm_X9_passIt.cells, rm_X9_passIt.slots)) {KE : ((Nat × Int32)) → Hp → Prop} (e_62 : ∀ (h0 : Nat) (l1 : Int32) (σ : Hp), KE ((h0, l1)) σ → G E X 0 0 62 [(0, tR (some (h0))), (1, tI (l1))] [] σ) (h0 : Nat) (l1 : Int32) (l2 : Int32) (σ : Hp) (x : (Nat × Int32 × Int32) ⊕ ((Nat × Int32))) (σ1 : Hp) (h : s_X9_passIt_b4 h0 l1 l2 σ = some (x, σ1)) (hI : ∀ v, x = Sum.inl v → (fun (v : Nat × Int32 × Int32) (σ : Hp) => G E X 0 0 4 [(0, tR (some ((v.1)))), (1, tI ((v.2.1))), (2, tI ((v.2.2)))] [] σ) v σ1) (hO : ∀ e, x = Sum.inr e → KE e σ1) : G E X 0 0 4 [(0, tR (some (h0))), (1, tI (l1)), (2, tI (l2))] [] σ := by
  unfold s_X9_passIt_b4 at h
  refine g_iload_n (pc := 4) C 2 2 dX9_passIt_4 rfl rfl ?_
  refine g_aload_n (pc := 5) C 0 0 dX9_passIt_5 rfl rfl ?_
  obtain ⟨r1, hvr1, h⟩ := zbind h
  refine g_getR (N := 58) (pc := 6) C ck_9 hvr1 rfl rfl fl_X9_13 dX9_passIt_6 ?_
  refine g_iconst (v := 1) (pc := 9) C dX9_passIt_9 (by decide) ?_
  obtain ⟨a2, hqa2, h9⟩ := zbind h
  clear h
  subst hqa2
  have h := h9
  clear h9
  obtain ⟨v3, hvv3, h⟩ := zbind h
  refine g_iald (pc := 10) C hvv3 dX9_passIt_10 ?_
  refine g_icmp_ge (pc := 11) C 62 dX9_passIt_11 (by decide) (fun c18 => ?_) (fun c18 => ?_)
  · have h := zif_t c18 h
    refine g_sub [0, 1] (lm' := [(0, tR (some (h0))), (1, tI (l1))]) rfl ?_
    obtain ⟨rfl, rfl⟩ := zsome h
    exact e_62 _ _ _ (hO _ rfl)
  · have h := zif_f c18 h
    refine g_aload_n (pc := 14) C 0 0 dX9_passIt_14 rfl rfl ?_
    obtain ⟨r4, hvr4, h⟩ := zbind h
    refine g_getR (N := 58) (pc := 15) C ck_9 hvr4 rfl rfl fl_X9_13 dX9_passIt_15 ?_
    refine g_bipush (v := 17) (pc := 18) C dX9_passIt_18 (by decide) ?_
    refine g_iload_n (pc := 20) C 2 2 dX9_passIt_20 rfl rfl ?_
    refine g_iadd (pc := 21) C dX9_passIt_21 ?_
    obtain ⟨a5, hqa5, h9⟩ := zbind h
    clear h
    subst hqa5
    have h := h9
    clear h9
    obtain ⟨v6, hvv6, h⟩ := zbind h
    refine g_iald (pc := 22) C hvv6 dX9_passIt_22 ?_
    refine g_istore_n (lm' := [(3, tI (v6)), (0, tR (some (h0))), (1, tI (l1)), (2, tI (l2))]) (pc := 23) C 3 dX9_passIt_23 rfl (by decide) rfl ?_
    refine g_iload_n (pc := 24) C 1 2 dX9_passIt_24 rfl rfl ?_
    refine g_aload_n (pc := 25) C 0 1 dX9_passIt_25 rfl rfl ?_
    refine g_iload_n (pc := 26) C 3 0 dX9_passIt_26 rfl rfl ?_
    obtain ⟨u7, hvu7, h⟩ := zbind h
    obtain ⟨v9, σ8, hvσ8, h⟩ := zcb h
    refine g_callV (pc := 27) (av := [tI (v6)]) C (c_X9_isSafe hE hvσ8) yv_X9_isSafe ml_X9_200 ck_9 (zopt hvu7).1 rfl (rf_of (by decide)) rfl (Nat.le_of_ble_eq_true rfl) dX9_passIt_27 ?_
    refine g_if_ne (pc := 30) C 53 dX9_passIt_30 (by decide) (fun c17 => ?_) (fun c17 => ?_)
    · have h := zif_f c17 h
      refine g_sub [1, 3] (lm' := [(0, tR (some (h0))), (2, tI (l2))]) rfl ?_
      exact w_X9_passIt_j53 hE C hxn e_62 _ _ _ _ _ _ h hI hO
    · have h := zif_t c17 h
      refine g_aload_n (pc := 33) C 0 1 dX9_passIt_33 rfl rfl ?_
      refine g_aload_n (pc := 34) C 0 1 dX9_passIt_34 rfl rfl ?_
      obtain ⟨r10, hvr10, h⟩ := zbind h
      refine g_getR (N := 58) (pc := 35) C ck_9 hvr10 rfl rfl fl_X9_13 dX9_passIt_35 ?_
      refine g_bipush (v := 30) (pc := 38) C dX9_passIt_38 (by decide) ?_
      refine g_iload_n (pc := 40) C 3 0 dX9_passIt_40 rfl rfl ?_
      refine g_iadd (pc := 41) C dX9_passIt_41 ?_
      obtain ⟨a11, hqa11, h9⟩ := zbind h
      clear h
      subst hqa11
      have h := h9
      clear h9
      obtain ⟨v12, hvv12, h⟩ := zbind h
      refine g_iald (pc := 42) C hvv12 dX9_passIt_42 ?_
      obtain ⟨u13, hvu13, h⟩ := zbind h
      obtain ⟨v15, σ14, hvσ14, h⟩ := zcb h
      refine g_callV (pc := 43) (av := [tI (v12)]) C (c_X9_badgersIn hE hvσ14) yv_X9_badgersIn ml_X9_228 ck_9 (zopt hvu13).1 rfl (rf_of (by decide)) rfl (Nat.le_of_ble_eq_true rfl) dX9_passIt_43 ?_
      refine g_if_le (pc := 46) C 53 dX9_passIt_46 (by decide) (fun c16 => ?_) (fun c16 => ?_)
      · have h := zif_t c16 h
        refine g_sub [1, 3] (lm' := [(0, tR (some (h0))), (2, tI (l2))]) rfl ?_
        exact w_X9_passIt_j53 hE C hxn e_62 _ _ _ _ _ _ h hI hO
      · have h := zif_f c16 h
        refine g_iconst (v := 1) (pc := 49) C dX9_passIt_49 (by decide) ?_
        refine g_goto (pc := 50) C 54 dX9_passIt_50 (by decide) ?_
        refine g_sub [1, 3] (lm' := [(0, tR (some (h0))), (2, tI (l2))]) rfl ?_
        exact w_X9_passIt_j54 hE C hxn e_62 _ _ _ _ _ _ _ h hI hO
theorem w_X9_passIt_l4 {E : E0} (hE : EOK E) {X : X0} (C : XOK E X cX9_passIt RX9 4 (some .int) rm_X9_passIt) (hxn : xn X = (rm_X9_passIt.cells, rm_X9_passIt.slots)) {KE : ((Nat × Int32)) → Hp → Prop} (e_62 : ∀ (h0 : Nat) (l1 : Int32) (σ : Hp), KE ((h0, l1)) σ → G E X 0 0 62 [(0, tR (some (h0))), (1, tI (l1))] [] σ) {v : Nat × Int32 × Int32} {σ : Hp} {e : (Nat × Int32)} {σ1 : Hp} (h : s_X9_passIt_l4 v σ = some (e, σ1)) (hO : KE e σ1) : G E X 0 0 4 [(0, tR (some ((v.1)))), (1, tI ((v.2.1))), (2, tI ((v.2.2)))] [] σ := loopF_ind (P := fun (v : Nat × Int32 × Int32) (σ : Hp) => G E X 0 0 4 [(0, tR (some ((v.1)))), (1, tI ((v.2.1))), (2, tI ((v.2.2)))] [] σ) (KE := KE) (fun v σ x σ1 h hI hO => w_X9_passIt_b4 hE C hxn e_62 (v.1) (v.2.1) (v.2.2) σ x σ1 h hI hO) v σ e σ1 h hO
noncomputable def s_X9_passIt (h0 : Nat) (σ : Hp) : Option (Int32 × Hp) :=
  cb (s_X9_passIt_l4 ((h0), (0), (0)) σ) fun e17 σ16 =>
  match e17 with
  | (h1, l12) =>
    (rdR 9 σ16 h1 3).bind fun r4 =>
    (rdR 9 σ16 h1 3).bind fun r5 =>
    (r5).bind fun a6 =>
    (ldI 11 σ16 a6 (10)).bind fun v7 =>
    cb (s_X9_bounded (Int32.toInt64 (v7 + l12 : Int32)) (0) (999) σ16) fun v9 σ8 =>
    (r4).bind fun a10 =>
    (stI σ8 a10 (10) (v9)).bind fun σ11 =>
    (ck 9 σ11 h1).bind fun u12 =>
    cb (s_X9_allGo h1 σ11) fun v14 σ13 =>
    some ((l12), σ13)
set_option maxRecDepth 100000 in
theorem c_X9_passIt {E : E0} (hE : EOK E) {h0 : Nat} {σ σ1 : Hp} {r : Int32} (h : s_X9_passIt h0 σ = some (r, σ1)) : CT E yX9_passIt (.code yX9_passIt cX9_passIt 4 (some .int)) rm_X9_passIt [tR (some (h0))] σ (some (tI r)) σ1 := by
  refine CT.mk hE (by decide +kernel) (Nat.le_of_ble_eq_true rfl) [(0, tR (some (h0)))] rfl (fun X C hin hx hxn => ?_)
  have C : XOK E X cX9_passIt RX9 4 (some .int) rm_X9_passIt := C
  unfold s_X9_passIt at h
  refine g_iconst (v := 0) (pc := 0) C dX9_passIt_0 (by decide) ?_
  refine g_istore_n (lm' := [(1, tI (0)), (0, tR (some (h0)))]) (pc := 1) C 1 dX9_passIt_1 rfl (by decide) rfl ?_
  refine g_iconst (v := 0) (pc := 2) C dX9_passIt_2 (by decide) ?_
  refine g_istore_n (lm' := [(2, tI (0)), (1, tI (0)), (0, tR (some (h0)))]) (pc := 3) C 2 dX9_passIt_3 rfl (by decide) rfl ?_
  refine g_sub [2, 1, 0] (lm' := [(0, tR (some (h0))), (1, tI (0)), (2, tI (0))]) rfl ?_
  obtain ⟨KQ, hKQ, e17, σ16, hle17, h⟩ := zcbK h
  refine w_X9_passIt_l4 (KE := KQ) hE C hxn ?_ hle17 h
  · intro h1 l12 σ3 h
    have h := (hKQ _ _).mp h
    refine g_aload_n (pc := 62) C 0 0 dX9_passIt_62 rfl rfl ?_
    obtain ⟨r4, hvr4, h⟩ := zbind h
    refine g_getR (N := 58) (pc := 63) C ck_9 hvr4 rfl rfl fl_X9_13 dX9_passIt_63 ?_
    refine g_bipush (v := 10) (pc := 66) C dX9_passIt_66 (by decide) ?_
    refine g_aload_n (pc := 68) C 0 0 dX9_passIt_68 rfl rfl ?_
    obtain ⟨r5, hvr5, h⟩ := zbind h
    refine g_getR (N := 58) (pc := 69) C ck_9 hvr5 rfl rfl fl_X9_13 dX9_passIt_69 ?_
    refine g_bipush (v := 10) (pc := 72) C dX9_passIt_72 (by decide) ?_
    obtain ⟨a6, hqa6, h9⟩ := zbind h
    clear h
    subst hqa6
    have h := h9
    clear h9
    obtain ⟨v7, hvv7, h⟩ := zbind h
    refine g_iald (pc := 74) C hvv7 dX9_passIt_74 ?_
    refine g_iload_n (pc := 75) C 1 1 dX9_passIt_75 rfl rfl ?_
    refine g_iadd (pc := 76) C dX9_passIt_76 ?_
    refine g_i2l (pc := 77) C dX9_passIt_77 ?_
    refine g_iconst (v := 0) (pc := 78) C dX9_passIt_78 (by decide) ?_
    refine g_sipush (v := 999) (pc := 79) C dX9_passIt_79 (by decide) ?_
    obtain ⟨v9, σ8, hvσ8, h⟩ := zcb h
    refine g_callS (pc := 82) (av := [tJ (Int32.toInt64 (v7 + l12 : Int32)), tI (0), tI (999)]) C (c_X9_bounded hE hvσ8) ys_X9_bounded ml_X9_434 rfl (rf_of (by decide)) rfl (Nat.le_of_ble_eq_true rfl) dX9_passIt_82 ?_
    obtain ⟨a10, hqa10, h9⟩ := zbind h
    clear h
    subst hqa10
    have h := h9
    clear h9
    obtain ⟨σ11, hvσ11, h⟩ := zbind h
    refine g_iast (pc := 85) C hvσ11 dX9_passIt_85 ?_
    refine g_aload_n (pc := 86) C 0 0 dX9_passIt_86 rfl rfl ?_
    obtain ⟨u12, hvu12, h⟩ := zbind h
    obtain ⟨v14, σ13, hvσ13, h⟩ := zcb h
    refine g_callV (pc := 87) (av := []) C (c_X9_allGo hE hvσ13) yv_X9_allGo ml_X9_454 ck_9 (zopt hvu12).1 rfl (rf_of (by decide)) rfl (Nat.le_of_ble_eq_true rfl) dX9_passIt_87 ?_
    refine g_iload_n (pc := 90) C 1 1 dX9_passIt_90 rfl rfl ?_
    obtain ⟨rfl, rfl⟩ := zsome h
    exact g_iret (pc := 91) C rfl hx (by rw [hxn]; rfl) (by rw [hxn]; rfl) dX9_passIt_91
