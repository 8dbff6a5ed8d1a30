abbrev RCT : Type := Nat → Nat → Int32 → Int32 → Hp → Option (Int32 × Hp)
def rmR (d : Nat) : Room := { frames := d + 10, cells := 0, slots := 0, locals := 40 * d + 200 }
theorem rf_rec {d n0 : Nat} {rmy : Room} (h1 : rmy.frames ≤ 8) (h2 : n0 ≤ 20) (h3 : rmy.locals ≤ 160) (h4 : rmy.cells = 0) (h5 : rmy.slots = 0) : RF (rmR (d + 1)) rmy n0 0 0 := by
  refine ⟨?_, ?_, ?_, ?_⟩
  · show rmy.frames + 1 ≤ d + 1 + 10
    omega
  · show 8 + (n0 + 11) + rmy.locals ≤ 40 * (d + 1) + 200
    omega
  · show 0 + rmy.cells ≤ 0
    omega
  · show 0 + rmy.slots ≤ 0
    omega
theorem rf_rec2 {d n0 : Nat} (h2 : n0 ≤ 20) : RF (rmR (d + 1)) (rmR d) n0 0 0 := by
  refine ⟨?_, ?_, ?_, ?_⟩
  · show d + 10 + 1 ≤ d + 1 + 10
    omega
  · show 8 + (n0 + 11) + (40 * d + 200) ≤ 40 * (d + 1) + 200
    omega
  · exact Nat.le_refl _
  · exact Nat.le_refl _
/-- what the four readers that call one another owe, at a depth -/
def RCOK (E : E0) (d : Nat) (rc : RCT) : Prop :=
  (∀ {h : Nat} {a b : Int32} {σ σ1 : Hp} {v : Int32}, rc 0 h a b σ = some (v, σ1) → CT E yX4_readTest (.code yX4_readTest cX4_readTest 5 (some .boolean)) (rmR d) [tR (some h), tI a, tI b] σ (some (tI v)) σ1) ∧
  (∀ {h : Nat} {a b : Int32} {σ σ1 : Hp} {v : Int32}, rc 1 h a b σ = some (v, σ1) → CT E yX4_readPlain (.code yX4_readPlain cX4_readPlain 4 (some .boolean)) (rmR d) [tR (some h), tI a] σ (some (tI v)) σ1) ∧
  (∀ {h : Nat} {a b : Int32} {σ σ1 : Hp} {v : Int32}, rc 2 h a b σ = some (v, σ1) → CT E yX4_readSum (.code yX4_readSum cX4_readSum 5 (some .boolean)) (rmR d) [tR (some h), tI a, tI b] σ (some (tI v)) σ1) ∧
  (∀ {h : Nat} {a b : Int32} {σ σ1 : Hp} {v : Int32}, rc 3 h a b σ = some (v, σ1) → CT E yX4_readPart (.code yX4_readPart cX4_readPart 5 (some .boolean)) (rmR d) [tR (some h), tI a] σ (some (tI v)) σ1)
theorem RCOK.t0 {E : E0} {d : Nat} {rc : RCT} (H : RCOK E d rc) {h : Nat} {a b : Int32} {σ σ1 : Hp} {v : Int32} (q : rc 0 h a b σ = some (v, σ1)) : CT E yX4_readTest (.code yX4_readTest cX4_readTest 5 (some .boolean)) (rmR d) [tR (some h), tI a, tI b] σ (some (tI v)) σ1 := H.1 q
theorem RCOK.t1 {E : E0} {d : Nat} {rc : RCT} (H : RCOK E d rc) {h : Nat} {a b : Int32} {σ σ1 : Hp} {v : Int32} (q : rc 1 h a b σ = some (v, σ1)) : CT E yX4_readPlain (.code yX4_readPlain cX4_readPlain 4 (some .boolean)) (rmR d) [tR (some h), tI a] σ (some (tI v)) σ1 := H.2.1 q
theorem RCOK.t2 {E : E0} {d : Nat} {rc : RCT} (H : RCOK E d rc) {h : Nat} {a b : Int32} {σ σ1 : Hp} {v : Int32} (q : rc 2 h a b σ = some (v, σ1)) : CT E yX4_readSum (.code yX4_readSum cX4_readSum 5 (some .boolean)) (rmR d) [tR (some h), tI a, tI b] σ (some (tI v)) σ1 := H.2.2.1 q
theorem RCOK.t3 {E : E0} {d : Nat} {rc : RCT} (H : RCOK E d rc) {h : Nat} {a b : Int32} {σ σ1 : Hp} {v : Int32} (q : rc 3 h a b σ = some (v, σ1)) : CT E yX4_readPart (.code yX4_readPart cX4_readPart 5 (some .boolean)) (rmR d) [tR (some h), tI a] σ (some (tI v)) σ1 := H.2.2.2 q
noncomputable def s_X4_readTest_j107 (rc : RCT) (h0 : Nat) (l1 : Int32) (l2 : Int32) (l3 : Int32) (l4 : Int32) (t0 : Option Nat) (t1 : Int32) (σ : Hp) : Option (((Nat × Int32 × Int32 × Int32 × Int32) ⊕ (Int32)) × Hp) :=
  (t0).bind fun a1 =>
  (ck 4 σ a1).bind fun u2 =>
  cb (s_X4_addStep a1 (t1) (0) σ) fun v4 σ3 =>
  some (Sum.inl ((h0), (l1), (l2), (l3), (l4)), σ3)
set_option maxRecDepth 100000 in
theorem w_X4_readTest_j107 {E : E0} (hE : EOK E) {d : Nat} {rc : RCT} (hrc : RCOK E d rc) {X : X0} (C : XOK E X cX4_readTest RX4 5 (some .boolean) (rmR (d + 1))) (hxn : xn X = ((rmR (d + 1)).cells, (rmR (d + 1)).slots)) {KE : (Int32) → Hp → Prop} (e_ret : ∀ (r : Int32) (σ : Hp), KE (r) σ → xd X = (some (tI r), σ)) (h0 : Nat) (l1 : Int32) (l2 : Int32) (l3 : Int32) (l4 : Int32) (t0 : Option Nat) (t1 : Int32) (σ : Hp) (x : (Nat × Int32 × Int32 × Int32 × Int32) ⊕ (Int32)) (σ1 : Hp) (h : s_X4_readTest_j107 rc h0 l1 l2 l3 l4 t0 t1 σ = some (x, σ1)) (hI : ∀ v, x = Sum.inl v → (fun (v : Nat × Int32 × Int32 × Int32 × Int32) (σ : Hp) => G E X 0 0 5 [(0, tR (some ((v.1)))), (1, tI ((v.2.1))), (2, tI ((v.2.2.1))), (3, tI ((v.2.2.2.1))), (4, tI ((v.2.2.2.2)))] [] σ) v σ1) (hO : ∀ e, x = Sum.inr e → KE e σ1) : G E X 0 0 107 [(0, tR (some (h0))), (1, tI (l1)), (2, tI (l2)), (3, tI (l3)), (4, tI (l4))] [tI (t1), tR (t0)] σ := by
  unfold s_X4_readTest_j107 at h
  refine g_iconst (v := 0) (pc := 107) C dX4_readTest_107 (by decide) ?_
  obtain ⟨a1, hqa1, h9⟩ := zbind h
  clear h
  subst hqa1
  have h := h9
  clear h9
  obtain ⟨u2, hvu2, h⟩ := zbind h
  obtain ⟨v4, σ3, hvσ3, h⟩ := zcb h
  refine g_callV (pc := 108) (av := [tI (t1), tI (0)]) C (c_X4_addStep hE hvσ3) yv_X4_addStep ml_X4_156 ck_4 (zopt hvu2).1 rfl (rf_rec (by decide) (by decide) (by decide) rfl rfl) rfl (Nat.le_of_ble_eq_true rfl) dX4_readTest_108 ?_
  refine g_goto (pc := 111) C 5 dX4_readTest_111 (by decide) ?_
  obtain ⟨rfl, rfl⟩ := zsome h
  exact hI _ rfl
noncomputable def s_X4_readTest_j70 (rc : RCT) (h0 : Nat) (l1 : Int32) (l2 : Int32) (l3 : Int32) (t0 : Int32) (σ : Hp) : Option (((Nat × Int32 × Int32 × Int32 × Int32) ⊕ (Int32)) × Hp) :=
  if t0 = 0 then
    some (Sum.inl ((h0), (l1), (l2), (l3), (t0)), σ)
  else
    (rdI 4 σ h0 6).bind fun v1 =>
    (wrI 4 σ h0 6 (v1 + 1)).bind fun σ2 =>
    (rdI 4 σ2 h0 7).bind fun v3 =>
    if l1 = 304 then
      s_X4_readTest_j107 rc (h0) (l1) (l2) (v3) (t0) (some (h0)) (11) σ2
    else
      s_X4_readTest_j107 rc (h0) (l1) (l2) (v3) (t0) (some (h0)) (12) σ2
set_option maxRecDepth 100000 in
theorem w_X4_readTest_j70 {E : E0} (hE : EOK E) {d : Nat} {rc : RCT} (hrc : RCOK E d rc) {X : X0} (C : XOK E X cX4_readTest RX4 5 (some .boolean) (rmR (d + 1))) (hxn : xn X = ((rmR (d + 1)).cells, (rmR (d + 1)).slots)) {KE : (Int32) → Hp → Prop} (e_ret : ∀ (r : Int32) (σ : Hp), KE (r) σ → xd X = (some (tI r), σ)) (h0 : Nat) (l1 : Int32) (l2 : Int32) (l3 : Int32) (t0 : Int32) (σ : Hp) (x : (Nat × Int32 × Int32 × Int32 × Int32) ⊕ (Int32)) (σ1 : Hp) (h : s_X4_readTest_j70 rc h0 l1 l2 l3 t0 σ = some (x, σ1)) (hI : ∀ v, x = Sum.inl v → (fun (v : Nat × Int32 × Int32 × Int32 × Int32) (σ : Hp) => G E X 0 0 5 [(0, tR (some ((v.1)))), (1, tI ((v.2.1))), (2, tI ((v.2.2.1))), (3, tI ((v.2.2.2.1))), (4, tI ((v.2.2.2.2)))] [] σ) v σ1) (hO : ∀ e, x = Sum.inr e → KE e σ1) : G E X 0 0 70 [(0, tR (some (h0))), (1, tI (l1)), (2, tI (l2)), (3, tI (l3))] [tI (t0)] σ := by
  unfold s_X4_readTest_j70 at h
  refine g_istore (lm' := [(4, tI (t0)), (0, tR (some (h0))), (1, tI (l1)), (2, tI (l2)), (3, tI (l3))]) (pc := 70) C dX4_readTest_70 (by decide) rfl ?_
  refine g_iload (pc := 72) C 0 dX4_readTest_72 rfl ?_
  refine g_if_eq (pc := 74) C 5 dX4_readTest_74 (by decide) (fun c5 => ?_) (fun c5 => ?_)
  · have h := zif_t c5 h
    refine g_sub [1, 2, 3, 4, 0] (lm' := [(0, tR (some (h0))), (1, tI (l1)), (2, tI (l2)), (3, tI (l3)), (4, tI (t0))]) rfl ?_
    obtain ⟨rfl, rfl⟩ := zsome h
    exact hI _ rfl
  · have h := zif_f c5 h
    refine g_aload_n (pc := 77) C 0 1 dX4_readTest_77 rfl rfl ?_
    refine g_dup (pc := 78) C dX4_readTest_78 rfl ?_
    obtain ⟨v1, hvv1, h⟩ := zbind h
    refine g_getI (N := 12) (pc := 79) C ck_4 hvv1 rfl rfl fl_X4_35 dX4_readTest_79 ?_
    refine g_iconst (v := 1) (pc := 82) C dX4_readTest_82 (by decide) ?_
    refine g_iadd (pc := 83) C dX4_readTest_83 ?_
    obtain ⟨σ2, hvσ2, h⟩ := zbind h
    refine g_putI (N := 12) (pc := 84) C ⟨ck_4, rfl, tyX4_ok⟩ hvσ2 rfl fl_X4_35 rfl rfl dX4_readTest_84 ?_
    refine g_aload_n (pc := 87) C 0 1 dX4_readTest_87 rfl rfl ?_
    obtain ⟨v3, hvv3, h⟩ := zbind h
    refine g_getI (N := 12) (pc := 88) C ck_4 hvv3 rfl rfl fl_X4_38 dX4_readTest_88 ?_
    refine g_istore_n (lm' := [(3, tI (v3)), (4, tI (t0)), (0, tR (some (h0))), (1, tI (l1)), (2, tI (l2))]) (pc := 91) C 3 dX4_readTest_91 rfl (by decide) rfl ?_
    refine g_aload_n (pc := 92) C 0 2 dX4_readTest_92 rfl rfl ?_
    refine g_iload_n (pc := 93) C 1 3 dX4_readTest_93 rfl rfl ?_
    refine g_sipush (v := 304) (pc := 94) C dX4_readTest_94 (by decide) ?_
    refine g_icmp_ne (pc := 97) C 105 dX4_readTest_97 (by decide) (fun c4 => ?_) (fun c4 => ?_)
    · have h := zif_f c4 h
      refine g_bipush (v := 12) (pc := 105) C dX4_readTest_105 (by decide) ?_
      refine g_sub [2, 3, 4, 0, 1] (lm' := [(0, tR (some (h0))), (1, tI (l1)), (2, tI (l2)), (3, tI (v3)), (4, tI (t0))]) rfl ?_
      exact w_X4_readTest_j107 hE hrc C hxn e_ret _ _ _ _ _ _ _ _ _ _ h hI hO
    · have h := zif_t c4 h
      refine g_bipush (v := 11) (pc := 100) C dX4_readTest_100 (by decide) ?_
      refine g_goto (pc := 102) C 107 dX4_readTest_102 (by decide) ?_
      refine g_sub [2, 3, 4, 0, 1] (lm' := [(0, tR (some (h0))), (1, tI (l1)), (2, tI (l2)), (3, tI (v3)), (4, tI (t0))]) rfl ?_
      exact w_X4_readTest_j107 hE hrc C hxn e_ret _ _ _ _ _ _ _ _ _ _ h hI hO
noncomputable def s_X4_readTest_j52 (rc : RCT) (h0 : Nat) (l1 : Int32) (l2 : Int32) (l3 : Int32) (σ : Hp) : Option (((Nat × Int32 × Int32 × Int32 × Int32) ⊕ (Int32)) × Hp) :=
  (ck 4 σ h0).bind fun u1 =>
  cb (s_X4_skipTillHere h0 (l3) σ) fun v3 σ2 =>
  (ck 4 σ2 h0).bind fun u4 =>
  cb (s_X4_kind h0 σ2) fun v6 σ5 =>
  if v6 = l1 then
    s_X4_readTest_j70 rc (h0) (l1) (l2) (l3) (1) σ5
  else
    s_X4_readTest_j70 rc (h0) (l1) (l2) (l3) (0) σ5
set_option maxRecDepth 100000 in
theorem w_X4_readTest_j52 {E : E0} (hE : EOK E) {d : Nat} {rc : RCT} (hrc : RCOK E d rc) {X : X0} (C : XOK E X cX4_readTest RX4 5 (some .boolean) (rmR (d + 1))) (hxn : xn X = ((rmR (d + 1)).cells, (rmR (d + 1)).slots)) {KE : (Int32) → Hp → Prop} (e_ret : ∀ (r : Int32) (σ : Hp), KE (r) σ → xd X = (some (tI r), σ)) (h0 : Nat) (l1 : Int32) (l2 : Int32) (l3 : Int32) (σ : Hp) (x : (Nat × Int32 × Int32 × Int32 × Int32) ⊕ (Int32)) (σ1 : Hp) (h : s_X4_readTest_j52 rc h0 l1 l2 l3 σ = some (x, σ1)) (hI : ∀ v, x = Sum.inl v → (fun (v : Nat × Int32 × Int32 × Int32 × Int32) (σ : Hp) => G E X 0 0 5 [(0, tR (some ((v.1)))), (1, tI ((v.2.1))), (2, tI ((v.2.2.1))), (3, tI ((v.2.2.2.1))), (4, tI ((v.2.2.2.2)))] [] σ) v σ1) (hO : ∀ e, x = Sum.inr e → KE e σ1) : G E X 0 0 52 [(0, tR (some (h0))), (1, tI (l1)), (2, tI (l2)), (3, tI (l3))] [] σ := by
  unfold s_X4_readTest_j52 at h
  refine g_aload_n (pc := 52) C 0 0 dX4_readTest_52 rfl rfl ?_
  refine g_iload_n (pc := 53) C 3 3 dX4_readTest_53 rfl rfl ?_
  obtain ⟨u1, hvu1, h⟩ := zbind h
  obtain ⟨v3, σ2, hvσ2, h⟩ := zcb h
  refine g_callV (pc := 54) (av := [tI (l3)]) C (c_X4_skipTillHere hE hvσ2) yv_X4_skipTillHere ml_X4_152 ck_4 (zopt hvu1).1 rfl (rf_rec (by decide) (by decide) (by decide) rfl rfl) rfl (Nat.le_of_ble_eq_true rfl) dX4_readTest_54 ?_
  refine g_aload_n (pc := 57) C 0 0 dX4_readTest_57 rfl rfl ?_
  obtain ⟨u4, hvu4, h⟩ := zbind h
  obtain ⟨v6, σ5, hvσ5, h⟩ := zcb h
  refine g_callV (pc := 58) (av := []) C (c_X4_kind hE hvσ5) yv_X4_kind ml_X4_55 ck_4 (zopt hvu4).1 rfl (rf_rec (by decide) (by decide) (by decide) rfl rfl) rfl (Nat.le_of_ble_eq_true rfl) dX4_readTest_58 ?_
  refine g_iload_n (pc := 61) C 1 1 dX4_readTest_61 rfl rfl ?_
  refine g_icmp_ne (pc := 62) C 69 dX4_readTest_62 (by decide) (fun c7 => ?_) (fun c7 => ?_)
  · have h := zif_f c7 h
    refine g_iconst (v := 0) (pc := 69) C dX4_readTest_69 (by decide) ?_
    exact w_X4_readTest_j70 hE hrc C hxn e_ret _ _ _ _ _ _ _ _ h hI hO
  · have h := zif_t c7 h
    refine g_iconst (v := 1) (pc := 65) C dX4_readTest_65 (by decide) ?_
    refine g_goto (pc := 66) C 70 dX4_readTest_66 (by decide) ?_
    exact w_X4_readTest_j70 hE hrc C hxn e_ret _ _ _ _ _ _ _ _ h hI hO
noncomputable def s_X4_readTest_b5 (rc : RCT) (h0 : Nat) (l1 : Int32) (l2 : Int32) (l3 : Int32) (l4 : Int32) (σ : Hp) : Option (((Nat × Int32 × Int32 × Int32 × Int32) ⊕ (Int32)) × Hp) :=
  if l4 = 0 then
    some (Sum.inr (1), σ)
  else
    (rdI 4 σ h0 6).bind fun v1 =>
    (rdI 4 σ h0 5).bind fun v2 =>
    if v2 < v1 then
      some (Sum.inr (1), σ)
    else
      if l1 = 304 then
        (ck 4 σ h0).bind fun u7 =>
        cb (rc 0 h0 (305) (l2) σ) fun v9 σ8 =>
        if v9 = 0 then
          some (Sum.inr (0), σ8)
        else
          s_X4_readTest_j52 rc (h0) (l1) (l2) (l3) σ8
      else
        (ck 4 σ h0).bind fun u3 =>
        cb (rc 1 h0 (l2) 0 σ) fun v5 σ4 =>
        if v5 = 0 then
          some (Sum.inr (0), σ4)
        else
          s_X4_readTest_j52 rc (h0) (l1) (l2) (l3) σ4
noncomputable def s_X4_readTest_l5 (rc : RCT) : (Nat × Int32 × Int32 × Int32 × Int32) → Hp → Option ((Int32) × Hp) := loopF (fun v => s_X4_readTest_b5 rc (v.1) (v.2.1) (v.2.2.1) (v.2.2.2.1) (v.2.2.2.2))
set_option maxRecDepth 100000 in
theorem w_X4_readTest_b5 {E : E0} (hE : EOK E) {d : Nat} {rc : RCT} (hrc : RCOK E d rc) {X : X0} (C : XOK E X cX4_readTest RX4 5 (some .boolean) (rmR (d + 1))) (hxn : xn X = ((rmR (d + 1)).cells, (rmR (d + 1)).slots)) {KE : (Int32) → Hp → Prop} (e_ret : ∀ (r : Int32) (σ : Hp), KE (r) σ → xd X = (some (tI r), σ)) (h0 : Nat) (l1 : Int32) (l2 : Int32) (l3 : Int32) (l4 : Int32) (σ : Hp) (x : (Nat × Int32 × Int32 × Int32 × Int32) ⊕ (Int32)) (σ1 : Hp) (h : s_X4_readTest_b5 rc h0 l1 l2 l3 l4 σ = some (x, σ1)) (hI : ∀ v, x = Sum.inl v → (fun (v : Nat × Int32 × Int32 × Int32 × Int32) (σ : Hp) => G E X 0 0 5 [(0, tR (some ((v.1)))), (1, tI ((v.2.1))), (2, tI ((v.2.2.1))), (3, tI ((v.2.2.2.1))), (4, tI ((v.2.2.2.2)))] [] σ) v σ1) (hO : ∀ e, x = Sum.inr e → KE e σ1) : G E X 0 0 5 [(0, tR (some (h0))), (1, tI (l1)), (2, tI (l2)), (3, tI (l3)), (4, tI (l4))] [] σ := by
  unfold s_X4_readTest_b5 at h
  refine g_iload (pc := 5) C 4 dX4_readTest_5 rfl ?_
  refine g_if_eq (pc := 7) C 114 dX4_readTest_7 (by decide) (fun c13 => ?_) (fun c13 => ?_)
  · have h := zif_t c13 h
    refine g_iconst (v := 1) (pc := 114) C dX4_readTest_114 (by decide) ?_
    obtain ⟨rfl, rfl⟩ := zsome h
    exact g_zret (pc := 115) C rfl (e_ret _ _ (hO _ rfl)) (by decide) (by rw [hxn]; rfl) (by rw [hxn]; rfl) dX4_readTest_115
  · have h := zif_f c13 h
    refine g_aload_n (pc := 10) C 0 0 dX4_readTest_10 rfl rfl ?_
    obtain ⟨v1, hvv1, h⟩ := zbind h
    refine g_getI (N := 12) (pc := 11) C ck_4 hvv1 rfl rfl fl_X4_35 dX4_readTest_11 ?_
    refine g_aload_n (pc := 14) C 0 0 dX4_readTest_14 rfl rfl ?_
    obtain ⟨v2, hvv2, h⟩ := zbind h
    refine g_getI (N := 12) (pc := 15) C ck_4 hvv2 rfl rfl fl_X4_77 dX4_readTest_15 ?_
    refine g_icmp_gt (pc := 18) C 114 dX4_readTest_18 (by decide) (fun c12 => ?_) (fun c12 => ?_)
    · have h := zif_t c12 h
      refine g_iconst (v := 1) (pc := 114) C dX4_readTest_114 (by decide) ?_
      obtain ⟨rfl, rfl⟩ := zsome h
      exact g_zret (pc := 115) C rfl (e_ret _ _ (hO _ rfl)) (by decide) (by rw [hxn]; rfl) (by rw [hxn]; rfl) dX4_readTest_115
    · have h := zif_f c12 h
      refine g_iload_n (pc := 21) C 1 1 dX4_readTest_21 rfl rfl ?_
      refine g_sipush (v := 304) (pc := 22) C dX4_readTest_22 (by decide) ?_
      refine g_icmp_ne (pc := 25) C 42 dX4_readTest_25 (by decide) (fun c11 => ?_) (fun c11 => ?_)
      · have h := zif_f c11 h
        refine g_aload_n (pc := 42) C 0 0 dX4_readTest_42 rfl rfl ?_
        refine g_iload_n (pc := 43) C 2 2 dX4_readTest_43 rfl rfl ?_
        obtain ⟨u3, hvu3, h⟩ := zbind h
        obtain ⟨v5, σ4, hvσ4, h⟩ := zcb h
        refine g_callV (pc := 44) (av := [tI (l2)]) C (hrc.t1 hvσ4) yv_X4_readPlain ml_X4_149 ck_4 (zopt hvu3).1 rfl (rf_rec2 (by decide)) rfl (Nat.le_of_ble_eq_true rfl) dX4_readTest_44 ?_
        refine g_if_ne (pc := 47) C 52 dX4_readTest_47 (by decide) (fun c6 => ?_) (fun c6 => ?_)
        · have h := zif_f c6 h
          refine g_sub [0, 1, 2, 3] (lm' := [(0, tR (some (h0))), (1, tI (l1)), (2, tI (l2)), (3, tI (l3))]) rfl ?_
          exact w_X4_readTest_j52 hE hrc C hxn e_ret _ _ _ _ _ _ _ h hI hO
        · have h := zif_t c6 h
          refine g_iconst (v := 0) (pc := 50) C dX4_readTest_50 (by decide) ?_
          obtain ⟨rfl, rfl⟩ := zsome h
          exact g_zret (pc := 51) C rfl (e_ret _ _ (hO _ rfl)) (by decide) (by rw [hxn]; rfl) (by rw [hxn]; rfl) dX4_readTest_51
      · have h := zif_t c11 h
        refine g_aload_n (pc := 28) C 0 0 dX4_readTest_28 rfl rfl ?_
        refine g_sipush (v := 305) (pc := 29) C dX4_readTest_29 (by decide) ?_
        refine g_iload_n (pc := 32) C 2 2 dX4_readTest_32 rfl rfl ?_
        obtain ⟨u7, hvu7, h⟩ := zbind h
        obtain ⟨v9, σ8, hvσ8, h⟩ := zcb h
        refine g_callV (pc := 33) (av := [tI (305), tI (l2)]) C (hrc.t0 hvσ8) yv_X4_readTest ml_X4_146 ck_4 (zopt hvu7).1 rfl (rf_rec2 (by decide)) rfl (Nat.le_of_ble_eq_true rfl) dX4_readTest_33 ?_
        refine g_if_ne (pc := 36) C 52 dX4_readTest_36 (by decide) (fun c10 => ?_) (fun c10 => ?_)
        · have h := zif_f c10 h
          refine g_sub [0, 1, 2, 3] (lm' := [(0, tR (some (h0))), (1, tI (l1)), (2, tI (l2)), (3, tI (l3))]) rfl ?_
          exact w_X4_readTest_j52 hE hrc C hxn e_ret _ _ _ _ _ _ _ h hI hO
        · have h := zif_t c10 h
          refine g_goto (pc := 39) C 50 dX4_readTest_39 (by decide) ?_
          refine g_iconst (v := 0) (pc := 50) C dX4_readTest_50 (by decide) ?_
          obtain ⟨rfl, rfl⟩ := zsome h
          exact g_zret (pc := 51) C rfl (e_ret _ _ (hO _ rfl)) (by decide) (by rw [hxn]; rfl) (by rw [hxn]; rfl) dX4_readTest_51
theorem w_X4_readTest_l5 {E : E0} (hE : EOK E) {d : Nat} {rc : RCT} (hrc : RCOK E d rc) {X : X0} (C : XOK E X cX4_readTest RX4 5 (some .boolean) (rmR (d + 1))) (hxn : xn X = ((rmR (d + 1)).cells, (rmR (d + 1)).slots)) {KE : (Int32) → Hp → Prop} (e_ret : ∀ (r : Int32) (σ : Hp), KE (r) σ → xd X = (some (tI r), σ)) {v : Nat × Int32 × Int32 × Int32 × Int32} {σ : Hp} {e : Int32} {σ1 : Hp} (h : s_X4_readTest_l5 rc v σ = some (e, σ1)) (hO : KE e σ1) : G E X 0 0 5 [(0, tR (some ((v.1)))), (1, tI ((v.2.1))), (2, tI ((v.2.2.1))), (3, tI ((v.2.2.2.1))), (4, tI ((v.2.2.2.2)))] [] σ := loopF_ind (P := fun (v : Nat × Int32 × Int32 × Int32 × Int32) (σ : Hp) => G E X 0 0 5 [(0, tR (some ((v.1)))), (1, tI ((v.2.1))), (2, tI ((v.2.2.1))), (3, tI ((v.2.2.2.1))), (4, tI ((v.2.2.2.2)))] [] σ) (KE := KE) (fun v σ x σ1 h hI hO => w_X4_readTest_b5 hE hrc C hxn e_ret (v.1) (v.2.1) (v.2.2.1) (v.2.2.2.1) (v.2.2.2.2) σ x σ1 h hI hO) v σ e σ1 h hO
noncomputable def s_X4_readTest (rc : RCT) (h0 : Nat) (p1 : Int32) (p2 : Int32) (σ : Hp) : Option (Int32 × Hp) :=
  cb (s_X4_readTest_l5 rc ((h0), (p1), (p2), ((-1)), (1)) σ) fun r2 σ3 =>
  some (r2, σ3)
set_option maxRecDepth 100000 in
theorem c_X4_readTest {E : E0} (hE : EOK E) {d : Nat} {rc : RCT} (hrc : RCOK E d rc) {h0 : Nat} {p1 : Int32} {p2 : Int32} {σ σ1 : Hp} {r : Int32} (h : s_X4_readTest rc h0 p1 p2 σ = some (r, σ1)) : CT E yX4_readTest (.code yX4_readTest cX4_readTest 5 (some .boolean)) (rmR (d + 1)) [tR (some (h0)), tI (p1), tI (p2)] σ (some (tI r)) σ1 := by
  refine CT.mk hE (by decide +kernel) (Nat.le_of_ble_eq_true rfl) [(0, tR (some (h0))), (1, tI (p1)), (2, tI (p2))] rfl (fun X C hin hx hxn => ?_)
  have C : XOK E X cX4_readTest RX4 5 (some .boolean) (rmR (d + 1)) := C
  unfold s_X4_readTest at h
  refine g_iconst (v := (-1)) (pc := 0) C dX4_readTest_0 (by decide) ?_
  refine g_istore_n (lm' := [(3, tI ((-1))), (0, tR (some (h0))), (1, tI (p1)), (2, tI (p2))]) (pc := 1) C 3 dX4_readTest_1 rfl (by decide) rfl ?_
  refine g_iconst (v := 1) (pc := 2) C dX4_readTest_2 (by decide) ?_
  refine g_istore (lm' := [(4, tI (1)), (3, tI ((-1))), (0, tR (some (h0))), (1, tI (p1)), (2, tI (p2))]) (pc := 3) C dX4_readTest_3 (by decide) rfl ?_
  refine g_sub [2, 3, 4, 1, 0] (lm' := [(0, tR (some (h0))), (1, tI (p1)), (2, tI (p2)), (3, tI ((-1))), (4, tI (1))]) rfl ?_
  obtain ⟨KQ, hKQ, r2, σ3, hlr2, h⟩ := zcbK h
  refine w_X4_readTest_l5 (KE := KQ) hE hrc C hxn ?_ hlr2 h
  · intro r2 σ1 h
    have h := (hKQ _ _).mp h
    obtain ⟨rfl, rfl⟩ := zsome h
    exact hx
noncomputable def s_X4_readPlain_j42 (rc : RCT) (h0 : Nat) (l1 : Int32) (t0 : Int32) (σ : Hp) : Option (((Nat × Int32 × Int32) ⊕ ((Nat × Int32 × Int32))) × Hp) :=
  some (Sum.inl ((h0), (l1), (t0)), σ)
set_option maxRecDepth 100000 in
theorem w_X4_readPlain_j42 {E : E0} (hE : EOK E) {d : Nat} {rc : RCT} (hrc : RCOK E d rc) {X : X0} (C : XOK E X cX4_readPlain RX4 4 (some .boolean) (rmR (d + 1))) (hxn : xn X = ((rmR (d + 1)).cells, (rmR (d + 1)).slots)) {KE : ((Nat × Int32 × Int32)) → Hp → Prop} (e_46 : ∀ (h0 : Nat) (l1 : Int32) (l2 : Int32) (σ : Hp), KE ((h0, l1, l2)) σ → G E X 0 0 46 [(0, tR (some (h0))), (1, tI (l1)), (2, tI (l2))] [] σ) (h0 : Nat) (l1 : Int32) (t0 : Int32) (σ : Hp) (x : (Nat × Int32 × Int32) ⊕ ((Nat × Int32 × Int32))) (σ1 : Hp) (h : s_X4_readPlain_j42 rc h0 l1 t0 σ = some (x, σ1)) (hI : ∀ v, x = Sum.inl v → (fun (v : Nat × Int32 × Int32) (σ : Hp) => G E X 0 0 2 [(0, tR (some ((v.1)))), (1, tI ((v.2.1))), (2, tI ((v.2.2)))] [] σ) v σ1) (hO : ∀ e, x = Sum.inr e → KE e σ1) : G E X 0 0 42 [(0, tR (some (h0))), (1, tI (l1))] [tI (t0)] σ := by
  unfold s_X4_readPlain_j42 at h
  refine g_istore_n (lm' := [(2, tI (t0)), (0, tR (some (h0))), (1, tI (l1))]) (pc := 42) C 2 dX4_readPlain_42 rfl (by decide) rfl ?_
  refine g_goto (pc := 43) C 2 dX4_readPlain_43 (by decide) ?_
  refine g_sub [1, 2, 0] (lm' := [(0, tR (some (h0))), (1, tI (l1)), (2, tI (t0))]) rfl ?_
  obtain ⟨rfl, rfl⟩ := zsome h
  exact hI _ rfl
noncomputable def s_X4_readPlain_b2 (rc : RCT) (h0 : Nat) (l1 : Int32) (l2 : Int32) (σ : Hp) : Option (((Nat × Int32 × Int32) ⊕ ((Nat × Int32 × Int32))) × Hp) :=
  (rdI 4 σ h0 6).bind fun v1 =>
  (rdI 4 σ h0 5).bind fun v2 =>
  if v2 ≤ v1 then
    some (Sum.inr ((h0), (l1), (l2)), σ)
  else
    (ck 4 σ h0).bind fun u3 =>
    cb (s_X4_kind h0 σ) fun v5 σ4 =>
    if v5 = 306 then
      (rdI 4 σ4 h0 6).bind fun v6 =>
      (wrI 4 σ4 h0 6 (v6 + 1)).bind fun σ7 =>
      if l2 = 0 then
        s_X4_readPlain_j42 rc (h0) (l1) (1) σ7
      else
        s_X4_readPlain_j42 rc (h0) (l1) (0) σ7
    else
      some (Sum.inr ((h0), (l1), (l2)), σ4)
noncomputable def s_X4_readPlain_l2 (rc : RCT) : (Nat × Int32 × Int32) → Hp → Option (((Nat × Int32 × Int32)) × Hp) := loopF (fun v => s_X4_readPlain_b2 rc (v.1) (v.2.1) (v.2.2))
set_option maxRecDepth 100000 in
theorem w_X4_readPlain_b2 {E : E0} (hE : EOK E) {d : Nat} {rc : RCT} (hrc : RCOK E d rc) {X : X0} (C : XOK E X cX4_readPlain RX4 4 (some .boolean) (rmR (d + 1))) (hxn : xn X = ((rmR (d + 1)).cells, (rmR (d + 1)).slots)) {KE : ((Nat × Int32 × Int32)) → Hp → Prop} (e_46 : ∀ (h0 : Nat) (l1 : Int32) (l2 : Int32) (σ : Hp), KE ((h0, l1, l2)) σ → G E X 0 0 46 [(0, tR (some (h0))), (1, tI (l1)), (2, tI (l2))] [] σ) (h0 : Nat) (l1 : Int32) (l2 : Int32) (σ : Hp) (x : (Nat × Int32 × Int32) ⊕ ((Nat × Int32 × Int32))) (σ1 : Hp) (h : s_X4_readPlain_b2 rc h0 l1 l2 σ = some (x, σ1)) (hI : ∀ v, x = Sum.inl v → (fun (v : Nat × Int32 × Int32) (σ : Hp) => G E X 0 0 2 [(0, tR (some ((v.1)))), (1, tI ((v.2.1))), (2, tI ((v.2.2)))] [] σ) v σ1) (hO : ∀ e, x = Sum.inr e → KE e σ1) : G E X 0 0 2 [(0, tR (some (h0))), (1, tI (l1)), (2, tI (l2))] [] σ := by
  unfold s_X4_readPlain_b2 at h
  refine g_aload_n (pc := 2) C 0 0 dX4_readPlain_2 rfl rfl ?_
  obtain ⟨v1, hvv1, h⟩ := zbind h
  refine g_getI (N := 12) (pc := 3) C ck_4 hvv1 rfl rfl fl_X4_35 dX4_readPlain_3 ?_
  refine g_aload_n (pc := 6) C 0 0 dX4_readPlain_6 rfl rfl ?_
  obtain ⟨v2, hvv2, h⟩ := zbind h
  refine g_getI (N := 12) (pc := 7) C ck_4 hvv2 rfl rfl fl_X4_77 dX4_readPlain_7 ?_
  refine g_icmp_ge (pc := 10) C 46 dX4_readPlain_10 (by decide) (fun c10 => ?_) (fun c10 => ?_)
  · have h := zif_t c10 h
    obtain ⟨rfl, rfl⟩ := zsome h
    exact e_46 _ _ _ _ (hO _ rfl)
  · have h := zif_f c10 h
    refine g_aload_n (pc := 13) C 0 0 dX4_readPlain_13 rfl rfl ?_
    obtain ⟨u3, hvu3, h⟩ := zbind h
    obtain ⟨v5, σ4, hvσ4, h⟩ := zcb h
    refine g_callV (pc := 14) (av := []) C (c_X4_kind hE hvσ4) yv_X4_kind ml_X4_55 ck_4 (zopt hvu3).1 rfl (rf_rec (by decide) (by decide) (by decide) rfl rfl) rfl (Nat.le_of_ble_eq_true rfl) dX4_readPlain_14 ?_
    refine g_sipush (v := 306) (pc := 17) C dX4_readPlain_17 (by decide) ?_
    refine g_icmp_ne (pc := 20) C 46 dX4_readPlain_20 (by decide) (fun c9 => ?_) (fun c9 => ?_)
    · have h := zif_f c9 h
      obtain ⟨rfl, rfl⟩ := zsome h
      exact e_46 _ _ _ _ (hO _ rfl)
    · have h := zif_t c9 h
      refine g_aload_n (pc := 23) C 0 0 dX4_readPlain_23 rfl rfl ?_
      refine g_dup (pc := 24) C dX4_readPlain_24 rfl ?_
      obtain ⟨v6, hvv6, h⟩ := zbind h
      refine g_getI (N := 12) (pc := 25) C ck_4 hvv6 rfl rfl fl_X4_35 dX4_readPlain_25 ?_
      refine g_iconst (v := 1) (pc := 28) C dX4_readPlain_28 (by decide) ?_
      refine g_iadd (pc := 29) C dX4_readPlain_29 ?_
      obtain ⟨σ7, hvσ7, h⟩ := zbind h
      refine g_putI (N := 12) (pc := 30) C ⟨ck_4, rfl, tyX4_ok⟩ hvσ7 rfl fl_X4_35 rfl rfl dX4_readPlain_30 ?_
      refine g_iload_n (pc := 33) C 2 2 dX4_readPlain_33 rfl rfl ?_
      refine g_if_ne (pc := 34) C 41 dX4_readPlain_34 (by decide) (fun c8 => ?_) (fun c8 => ?_)
      · have h := zif_f c8 h
        refine g_iconst (v := 0) (pc := 41) C dX4_readPlain_41 (by decide) ?_
        refine g_sub [0, 1] (lm' := [(0, tR (some (h0))), (1, tI (l1))]) rfl ?_
        exact w_X4_readPlain_j42 hE hrc C hxn e_46 _ _ _ _ _ _ h hI hO
      · have h := zif_t c8 h
        refine g_iconst (v := 1) (pc := 37) C dX4_readPlain_37 (by decide) ?_
        refine g_goto (pc := 38) C 42 dX4_readPlain_38 (by decide) ?_
        refine g_sub [0, 1] (lm' := [(0, tR (some (h0))), (1, tI (l1))]) rfl ?_
        exact w_X4_readPlain_j42 hE hrc C hxn e_46 _ _ _ _ _ _ h hI hO
theorem w_X4_readPlain_l2 {E : E0} (hE : EOK E) {d : Nat} {rc : RCT} (hrc : RCOK E d rc) {X : X0} (C : XOK E X cX4_readPlain RX4 4 (some .boolean) (rmR (d + 1))) (hxn : xn X = ((rmR (d + 1)).cells, (rmR (d + 1)).slots)) {KE : ((Nat × Int32 × Int32)) → Hp → Prop} (e_46 : ∀ (h0 : Nat) (l1 : Int32) (l2 : Int32) (σ : Hp), KE ((h0, l1, l2)) σ → G E X 0 0 46 [(0, tR (some (h0))), (1, tI (l1)), (2, tI (l2))] [] σ) {v : Nat × Int32 × Int32} {σ : Hp} {e : (Nat × Int32 × Int32)} {σ1 : Hp} (h : s_X4_readPlain_l2 rc v σ = some (e, σ1)) (hO : KE e σ1) : G E X 0 0 2 [(0, tR (some ((v.1)))), (1, tI ((v.2.1))), (2, tI ((v.2.2)))] [] σ := loopF_ind (P := fun (v : Nat × Int32 × Int32) (σ : Hp) => G E X 0 0 2 [(0, tR (some ((v.1)))), (1, tI ((v.2.1))), (2, tI ((v.2.2)))] [] σ) (KE := KE) (fun v σ x σ1 h hI hO => w_X4_readPlain_b2 hE hrc C hxn e_46 (v.1) (v.2.1) (v.2.2) σ x σ1 h hI hO) v σ e σ1 h hO
noncomputable def s_X4_readPlain_j156 (rc : RCT) (h0 : Nat) (l2 : Int32) (σ : Hp) : Option (Int32 × Hp) :=
  if l2 = 0 then
    some ((1), σ)
  else
    (ck 4 σ h0).bind fun u1 =>
    cb (s_X4_addStep h0 (10) (0) σ) fun v3 σ2 =>
    some ((1), σ2)
set_option maxRecDepth 100000 in
theorem w_X4_readPlain_j156 {E : E0} (hE : EOK E) {d : Nat} {rc : RCT} (hrc : RCOK E d rc) {X : X0} (C : XOK E X cX4_readPlain RX4 4 (some .boolean) (rmR (d + 1))) (hxn : xn X = ((rmR (d + 1)).cells, (rmR (d + 1)).slots)) (h0 : Nat) (l2 : Int32) (σ : Hp) (r : Int32) (σ1 : Hp) (h : s_X4_readPlain_j156 rc h0 l2 σ = some (r, σ1)) (hx : xd X = (some (tI r), σ1)) : G E X 0 0 156 [(0, tR (some (h0))), (2, tI (l2))] [] σ := by
  unfold s_X4_readPlain_j156 at h
  refine g_iload_n (pc := 156) C 2 1 dX4_readPlain_156 rfl rfl ?_
  refine g_if_eq (pc := 157) C 167 dX4_readPlain_157 (by decide) (fun c4 => ?_) (fun c4 => ?_)
  · have h := zif_t c4 h
    refine g_iconst (v := 1) (pc := 167) C dX4_readPlain_167 (by decide) ?_
    obtain ⟨rfl, rfl⟩ := zsome h
    exact g_zret (pc := 168) C rfl hx (by decide) (by rw [hxn]; rfl) (by rw [hxn]; rfl) dX4_readPlain_168
  · have h := zif_f c4 h
    refine g_aload_n (pc := 160) C 0 0 dX4_readPlain_160 rfl rfl ?_
    refine g_bipush (v := 10) (pc := 161) C dX4_readPlain_161 (by decide) ?_
    refine g_iconst (v := 0) (pc := 163) C dX4_readPlain_163 (by decide) ?_
    obtain ⟨u1, hvu1, h⟩ := zbind h
    obtain ⟨v3, σ2, hvσ2, h⟩ := zcb h
    refine g_callV (pc := 164) (av := [tI (10), tI (0)]) C (c_X4_addStep hE hvσ2) yv_X4_addStep ml_X4_156 ck_4 (zopt hvu1).1 rfl (rf_rec (by decide) (by decide) (by decide) rfl rfl) rfl (Nat.le_of_ble_eq_true rfl) dX4_readPlain_164 ?_
    refine g_iconst (v := 1) (pc := 167) C dX4_readPlain_167 (by decide) ?_
    obtain ⟨rfl, rfl⟩ := zsome h
    exact g_zret (pc := 168) C rfl hx (by decide) (by rw [hxn]; rfl) (by rw [hxn]; rfl) dX4_readPlain_168
noncomputable def s_X4_readPlain_j46 (rc : RCT) (h0 : Nat) (l1 : Int32) (l2 : Int32) (σ : Hp) : Option (Int32 × Hp) :=
  (ck 4 σ h0).bind fun u1 =>
  cb (s_X4_kind h0 σ) fun v3 σ2 =>
  if v3 = 40 then
    if l1 < 8 then
      (rdI 4 σ2 h0 6).bind fun v27 =>
      (wrI 4 σ2 h0 6 (v27 + 1)).bind fun σ28 =>
      (ck 4 σ28 h0).bind fun u29 =>
      cb (rc 0 h0 (304) (l1 + 1) σ28) fun v31 σ30 =>
      if v31 = 0 then
        some ((0), σ30)
      else
        (ck 4 σ30 h0).bind fun u32 =>
        cb (s_X4_take h0 (41) σ30) fun v34 σ33 =>
        if v34 = 0 then
          some ((0), σ33)
        else
          s_X4_readPlain_j156 rc (h0) (l2) σ33
    else
      (ck 4 σ2 h0).bind fun u37 =>
      cb (s_X4_fail h0 σ2) fun v39 σ38 =>
      (zbo (v39)).bind fun u40 =>
      some ((v39), σ38)
  else
    (ck 4 σ2 h0).bind fun u4 =>
    cb (rc 2 h0 (0) (l1) σ2) fun v6 σ5 =>
    if v6 = 0 then
      some ((0), σ5)
    else
      (ck 4 σ5 h0).bind fun u7 =>
      cb (s_X4_kind h0 σ5) fun v9 σ8 =>
      cb (s_X4_comparisonOf (v9) σ8) fun v11 σ10 =>
      if v11 = (-1) then
        (ck 4 σ10 h0).bind fun u21 =>
        cb (s_X4_fail h0 σ10) fun v23 σ22 =>
        (zbo (v23)).bind fun u24 =>
        some ((v23), σ22)
      else
        (rdI 4 σ10 h0 6).bind fun v12 =>
        (wrI 4 σ10 h0 6 (v12 + 1)).bind fun σ13 =>
        (ck 4 σ13 h0).bind fun u14 =>
        cb (rc 2 h0 (0) (l1) σ13) fun v16 σ15 =>
        if v16 = 0 then
          some ((0), σ15)
        else
          (ck 4 σ15 h0).bind fun u17 =>
          cb (s_X4_addStep h0 (v11) (0) σ15) fun v19 σ18 =>
          s_X4_readPlain_j156 rc (h0) (l2) σ18
set_option maxRecDepth 100000 in
theorem w_X4_readPlain_j46 {E : E0} (hE : EOK E) {d : Nat} {rc : RCT} (hrc : RCOK E d rc) {X : X0} (C : XOK E X cX4_readPlain RX4 4 (some .boolean) (rmR (d + 1))) (hxn : xn X = ((rmR (d + 1)).cells, (rmR (d + 1)).slots)) (h0 : Nat) (l1 : Int32) (l2 : Int32) (σ : Hp) (r : Int32) (σ1 : Hp) (h : s_X4_readPlain_j46 rc h0 l1 l2 σ = some (r, σ1)) (hx : xd X = (some (tI r), σ1)) : G E X 0 0 46 [(0, tR (some (h0))), (1, tI (l1)), (2, tI (l2))] [] σ := by
  unfold s_X4_readPlain_j46 at h
  refine g_aload_n (pc := 46) C 0 0 dX4_readPlain_46 rfl rfl ?_
  obtain ⟨u1, hvu1, h⟩ := zbind h
  obtain ⟨v3, σ2, hvσ2, h⟩ := zcb h
  refine g_callV (pc := 47) (av := []) C (c_X4_kind hE hvσ2) yv_X4_kind ml_X4_55 ck_4 (zopt hvu1).1 rfl (rf_rec (by decide) (by decide) (by decide) rfl rfl) rfl (Nat.le_of_ble_eq_true rfl) dX4_readPlain_47 ?_
  refine g_bipush (v := 40) (pc := 50) C dX4_readPlain_50 (by decide) ?_
  refine g_icmp_ne (pc := 52) C 100 dX4_readPlain_52 (by decide) (fun c42 => ?_) (fun c42 => ?_)
  · have h := zif_f c42 h
    refine g_aload_n (pc := 100) C 0 0 dX4_readPlain_100 rfl rfl ?_
    refine g_iconst (v := 0) (pc := 101) C dX4_readPlain_101 (by decide) ?_
    refine g_iload_n (pc := 102) C 1 1 dX4_readPlain_102 rfl rfl ?_
    obtain ⟨u4, hvu4, h⟩ := zbind h
    obtain ⟨v6, σ5, hvσ5, h⟩ := zcb h
    refine g_callV (pc := 103) (av := [tI (0), tI (l1)]) C (hrc.t2 hvσ5) yv_X4_readSum ml_X4_133 ck_4 (zopt hvu4).1 rfl (rf_rec2 (by decide)) rfl (Nat.le_of_ble_eq_true rfl) dX4_readPlain_103 ?_
    refine g_if_ne (pc := 106) C 111 dX4_readPlain_106 (by decide) (fun c26 => ?_) (fun c26 => ?_)
    · have h := zif_f c26 h
      refine g_aload_n (pc := 111) C 0 0 dX4_readPlain_111 rfl rfl ?_
      obtain ⟨u7, hvu7, h⟩ := zbind h
      obtain ⟨v9, σ8, hvσ8, h⟩ := zcb h
      refine g_callV (pc := 112) (av := []) C (c_X4_kind hE hvσ8) yv_X4_kind ml_X4_55 ck_4 (zopt hvu7).1 rfl (rf_rec (by decide) (by decide) (by decide) rfl rfl) rfl (Nat.le_of_ble_eq_true rfl) dX4_readPlain_112 ?_
      obtain ⟨v11, σ10, hvσ10, h⟩ := zcb h
      refine g_callS (pc := 115) (av := [tI (v9)]) C (c_X4_comparisonOf hE hvσ10) ys_X4_comparisonOf ml_X4_160 rfl (rf_rec (by decide) (by decide) (by decide) rfl rfl) rfl (Nat.le_of_ble_eq_true rfl) dX4_readPlain_115 ?_
      refine g_istore_n (lm' := [(3, tI (v11)), (0, tR (some (h0))), (1, tI (l1)), (2, tI (l2))]) (pc := 118) C 3 dX4_readPlain_118 rfl (by decide) rfl ?_
      refine g_iload_n (pc := 119) C 3 0 dX4_readPlain_119 rfl rfl ?_
      refine g_iconst (v := (-1)) (pc := 120) C dX4_readPlain_120 (by decide) ?_
      refine g_icmp_ne (pc := 121) C 129 dX4_readPlain_121 (by decide) (fun c25 => ?_) (fun c25 => ?_)
      · have h := zif_f c25 h
        refine g_aload_n (pc := 129) C 0 1 dX4_readPlain_129 rfl rfl ?_
        refine g_dup (pc := 130) C dX4_readPlain_130 rfl ?_
        obtain ⟨v12, hvv12, h⟩ := zbind h
        refine g_getI (N := 12) (pc := 131) C ck_4 hvv12 rfl rfl fl_X4_35 dX4_readPlain_131 ?_
        refine g_iconst (v := 1) (pc := 134) C dX4_readPlain_134 (by decide) ?_
        refine g_iadd (pc := 135) C dX4_readPlain_135 ?_
        obtain ⟨σ13, hvσ13, h⟩ := zbind h
        refine g_putI (N := 12) (pc := 136) C ⟨ck_4, rfl, tyX4_ok⟩ hvσ13 rfl fl_X4_35 rfl rfl dX4_readPlain_136 ?_
        refine g_aload_n (pc := 139) C 0 1 dX4_readPlain_139 rfl rfl ?_
        refine g_iconst (v := 0) (pc := 140) C dX4_readPlain_140 (by decide) ?_
        refine g_iload_n (pc := 141) C 1 2 dX4_readPlain_141 rfl rfl ?_
        obtain ⟨u14, hvu14, h⟩ := zbind h
        obtain ⟨v16, σ15, hvσ15, h⟩ := zcb h
        refine g_callV (pc := 142) (av := [tI (0), tI (l1)]) C (hrc.t2 hvσ15) yv_X4_readSum ml_X4_133 ck_4 (zopt hvu14).1 rfl (rf_rec2 (by decide)) rfl (Nat.le_of_ble_eq_true rfl) dX4_readPlain_142 ?_
        refine g_if_ne (pc := 145) C 150 dX4_readPlain_145 (by decide) (fun c20 => ?_) (fun c20 => ?_)
        · have h := zif_f c20 h
          refine g_aload_n (pc := 150) C 0 1 dX4_readPlain_150 rfl rfl ?_
          refine g_iload_n (pc := 151) C 3 0 dX4_readPlain_151 rfl rfl ?_
          refine g_iconst (v := 0) (pc := 152) C dX4_readPlain_152 (by decide) ?_
          obtain ⟨u17, hvu17, h⟩ := zbind h
          obtain ⟨v19, σ18, hvσ18, h⟩ := zcb h
          refine g_callV (pc := 153) (av := [tI (v11), tI (0)]) C (c_X4_addStep hE hvσ18) yv_X4_addStep ml_X4_156 ck_4 (zopt hvu17).1 rfl (rf_rec (by decide) (by decide) (by decide) rfl rfl) rfl (Nat.le_of_ble_eq_true rfl) dX4_readPlain_153 ?_
          refine g_sub [1, 3] (lm' := [(0, tR (some (h0))), (2, tI (l2))]) rfl ?_
          exact w_X4_readPlain_j156 hE hrc C hxn _ _ _ _ _ h hx
        · have h := zif_t c20 h
          refine g_iconst (v := 0) (pc := 148) C dX4_readPlain_148 (by decide) ?_
          obtain ⟨rfl, rfl⟩ := zsome h
          exact g_zret (pc := 149) C rfl hx (by decide) (by rw [hxn]; rfl) (by rw [hxn]; rfl) dX4_readPlain_149
      · have h := zif_t c25 h
        refine g_aload_n (pc := 124) C 0 1 dX4_readPlain_124 rfl rfl ?_
        obtain ⟨u21, hvu21, h⟩ := zbind h
        obtain ⟨v23, σ22, hvσ22, h⟩ := zcb h
        refine g_callV (pc := 125) (av := []) C (c_X4_fail hE hvσ22) yv_X4_fail ml_X4_74 ck_4 (zopt hvu21).1 rfl (rf_rec (by decide) (by decide) (by decide) rfl rfl) rfl (Nat.le_of_ble_eq_true rfl) dX4_readPlain_125 ?_
        obtain ⟨u24, hvu24, h⟩ := zbind h
        obtain ⟨rfl, rfl⟩ := zsome h
        exact g_zret (pc := 128) C rfl hx (zbo_h hvu24) (by rw [hxn]; rfl) (by rw [hxn]; rfl) dX4_readPlain_128
    · have h := zif_t c26 h
      refine g_iconst (v := 0) (pc := 109) C dX4_readPlain_109 (by decide) ?_
      obtain ⟨rfl, rfl⟩ := zsome h
      exact g_zret (pc := 110) C rfl hx (by decide) (by rw [hxn]; rfl) (by rw [hxn]; rfl) dX4_readPlain_110
  · have h := zif_t c42 h
    refine g_iload_n (pc := 55) C 1 1 dX4_readPlain_55 rfl rfl ?_
    refine g_bipush (v := 8) (pc := 56) C dX4_readPlain_56 (by decide) ?_
    refine g_icmp_lt (pc := 58) C 66 dX4_readPlain_58 (by decide) (fun c41 => ?_) (fun c41 => ?_)
    · have h := zif_t c41 h
      refine g_aload_n (pc := 66) C 0 0 dX4_readPlain_66 rfl rfl ?_
      refine g_dup (pc := 67) C dX4_readPlain_67 rfl ?_
      obtain ⟨v27, hvv27, h⟩ := zbind h
      refine g_getI (N := 12) (pc := 68) C ck_4 hvv27 rfl rfl fl_X4_35 dX4_readPlain_68 ?_
      refine g_iconst (v := 1) (pc := 71) C dX4_readPlain_71 (by decide) ?_
      refine g_iadd (pc := 72) C dX4_readPlain_72 ?_
      obtain ⟨σ28, hvσ28, h⟩ := zbind h
      refine g_putI (N := 12) (pc := 73) C ⟨ck_4, rfl, tyX4_ok⟩ hvσ28 rfl fl_X4_35 rfl rfl dX4_readPlain_73 ?_
      refine g_aload_n (pc := 76) C 0 0 dX4_readPlain_76 rfl rfl ?_
      refine g_sipush (v := 304) (pc := 77) C dX4_readPlain_77 (by decide) ?_
      refine g_iload_n (pc := 80) C 1 1 dX4_readPlain_80 rfl rfl ?_
      refine g_iconst (v := 1) (pc := 81) C dX4_readPlain_81 (by decide) ?_
      refine g_iadd (pc := 82) C dX4_readPlain_82 ?_
      obtain ⟨u29, hvu29, h⟩ := zbind h
      obtain ⟨v31, σ30, hvσ30, h⟩ := zcb h
      refine g_callV (pc := 83) (av := [tI (304), tI (l1 + 1)]) C (hrc.t0 hvσ30) yv_X4_readTest ml_X4_146 ck_4 (zopt hvu29).1 rfl (rf_rec2 (by decide)) rfl (Nat.le_of_ble_eq_true rfl) dX4_readPlain_83 ?_
      refine g_if_eq (pc := 86) C 98 dX4_readPlain_86 (by decide) (fun c36 => ?_) (fun c36 => ?_)
      · have h := zif_t c36 h
        refine g_iconst (v := 0) (pc := 98) C dX4_readPlain_98 (by decide) ?_
        obtain ⟨rfl, rfl⟩ := zsome h
        exact g_zret (pc := 99) C rfl hx (by decide) (by rw [hxn]; rfl) (by rw [hxn]; rfl) dX4_readPlain_99
      · have h := zif_f c36 h
        refine g_aload_n (pc := 89) C 0 0 dX4_readPlain_89 rfl rfl ?_
        refine g_bipush (v := 41) (pc := 90) C dX4_readPlain_90 (by decide) ?_
        obtain ⟨u32, hvu32, h⟩ := zbind h
        obtain ⟨v34, σ33, hvσ33, h⟩ := zcb h
        refine g_callV (pc := 92) (av := [tI (41)]) C (c_X4_take hE hvσ33) yv_X4_take ml_X4_70 ck_4 (zopt hvu32).1 rfl (rf_rec (by decide) (by decide) (by decide) rfl rfl) rfl (Nat.le_of_ble_eq_true rfl) dX4_readPlain_92 ?_
        refine g_if_ne (pc := 95) C 156 dX4_readPlain_95 (by decide) (fun c35 => ?_) (fun c35 => ?_)
        · have h := zif_f c35 h
          refine g_sub [0, 2] (lm' := [(0, tR (some (h0))), (2, tI (l2))]) rfl ?_
          exact w_X4_readPlain_j156 hE hrc C hxn _ _ _ _ _ h hx
        · have h := zif_t c35 h
          refine g_iconst (v := 0) (pc := 98) C dX4_readPlain_98 (by decide) ?_
          obtain ⟨rfl, rfl⟩ := zsome h
          exact g_zret (pc := 99) C rfl hx (by decide) (by rw [hxn]; rfl) (by rw [hxn]; rfl) dX4_readPlain_99
    · have h := zif_f c41 h
      refine g_aload_n (pc := 61) C 0 0 dX4_readPlain_61 rfl rfl ?_
      obtain ⟨u37, hvu37, h⟩ := zbind h
      obtain ⟨v39, σ38, hvσ38, h⟩ := zcb h
      refine g_callV (pc := 62) (av := []) C (c_X4_fail hE hvσ38) yv_X4_fail ml_X4_74 ck_4 (zopt hvu37).1 rfl (rf_rec (by decide) (by decide) (by decide) rfl rfl) rfl (Nat.le_of_ble_eq_true rfl) dX4_readPlain_62 ?_
      obtain ⟨u40, hvu40, h⟩ := zbind h
      obtain ⟨rfl, rfl⟩ := zsome h
      exact g_zret (pc := 65) C rfl hx (zbo_h hvu40) (by rw [hxn]; rfl) (by rw [hxn]; rfl) dX4_readPlain_65
noncomputable def s_X4_readPlain (rc : RCT) (h0 : Nat) (p1 : Int32) (σ : Hp) : Option (Int32 × Hp) :=
  cb (s_X4_readPlain_l2 rc ((h0), (p1), (0)) σ) fun e7 σ6 =>
  match e7 with
  | (h1, l12, l23) =>
    s_X4_readPlain_j46 rc (h1) (l12) (l23) σ6
set_option maxRecDepth 100000 in
theorem c_X4_readPlain {E : E0} (hE : EOK E) {d : Nat} {rc : RCT} (hrc : RCOK E d rc) {h0 : Nat} {p1 : Int32} {σ σ1 : Hp} {r : Int32} (h : s_X4_readPlain rc h0 p1 σ = some (r, σ1)) : CT E yX4_readPlain (.code yX4_readPlain cX4_readPlain 4 (some .boolean)) (rmR (d + 1)) [tR (some (h0)), tI (p1)] σ (some (tI r)) σ1 := by
  refine CT.mk hE (by decide +kernel) (Nat.le_of_ble_eq_true rfl) [(0, tR (some (h0))), (1, tI (p1))] rfl (fun X C hin hx hxn => ?_)
  have C : XOK E X cX4_readPlain RX4 4 (some .boolean) (rmR (d + 1)) := C
  unfold s_X4_readPlain at h
  refine g_iconst (v := 0) (pc := 0) C dX4_readPlain_0 (by decide) ?_
  refine g_istore_n (lm' := [(2, tI (0)), (0, tR (some (h0))), (1, tI (p1))]) (pc := 1) C 2 dX4_readPlain_1 rfl (by decide) rfl ?_
  refine g_sub [1, 2, 0] (lm' := [(0, tR (some (h0))), (1, tI (p1)), (2, tI (0))]) rfl ?_
  obtain ⟨KQ, hKQ, e7, σ6, hle7, h⟩ := zcbK h
  refine w_X4_readPlain_l2 (KE := KQ) hE hrc C hxn ?_ hle7 h
  · intro h1 l12 l23 σ4 h
    have h := (hKQ _ _).mp h
    exact w_X4_readPlain_j46 hE hrc C hxn _ _ _ _ _ _ h hx
noncomputable def s_X4_readSum_j90 (rc : RCT) (h0 : Nat) (l1 : Int32) (l2 : Int32) (l3 : Int32) (t0 : Int32) (σ : Hp) : Option (((Nat × Int32 × Int32 × Int32 × Int32) ⊕ (Int32)) × Hp) :=
  if t0 = 0 then
    some (Sum.inl ((h0), (l1), (l2), (l3), (t0)), σ)
  else
    (rdI 4 σ h0 6).bind fun v1 =>
    (wrI 4 σ h0 6 (v1 + 1)).bind fun σ2 =>
    some (Sum.inl ((h0), (l1), (l2), (l3), (t0)), σ2)
set_option maxRecDepth 100000 in
theorem w_X4_readSum_j90 {E : E0} (hE : EOK E) {d : Nat} {rc : RCT} (hrc : RCOK E d rc) {X : X0} (C : XOK E X cX4_readSum RX4 5 (some .boolean) (rmR (d + 1))) (hxn : xn X = ((rmR (d + 1)).cells, (rmR (d + 1)).slots)) {KE : (Int32) → Hp → Prop} (e_ret : ∀ (r : Int32) (σ : Hp), KE (r) σ → xd X = (some (tI r), σ)) (h0 : Nat) (l1 : Int32) (l2 : Int32) (l3 : Int32) (t0 : Int32) (σ : Hp) (x : (Nat × Int32 × Int32 × Int32 × Int32) ⊕ (Int32)) (σ1 : Hp) (h : s_X4_readSum_j90 rc h0 l1 l2 l3 t0 σ = some (x, σ1)) (hI : ∀ v, x = Sum.inl v → (fun (v : Nat × Int32 × Int32 × Int32 × Int32) (σ : Hp) => G E X 0 0 5 [(0, tR (some ((v.1)))), (1, tI ((v.2.1))), (2, tI ((v.2.2.1))), (3, tI ((v.2.2.2.1))), (4, tI ((v.2.2.2.2)))] [] σ) v σ1) (hO : ∀ e, x = Sum.inr e → KE e σ1) : G E X 0 0 90 [(0, tR (some (h0))), (1, tI (l1)), (2, tI (l2)), (3, tI (l3))] [tI (t0)] σ := by
  unfold s_X4_readSum_j90 at h
  refine g_istore (lm' := [(4, tI (t0)), (0, tR (some (h0))), (1, tI (l1)), (2, tI (l2)), (3, tI (l3))]) (pc := 90) C dX4_readSum_90 (by decide) rfl ?_
  refine g_iload (pc := 92) C 0 dX4_readSum_92 rfl ?_
  refine g_if_eq (pc := 94) C 5 dX4_readSum_94 (by decide) (fun c3 => ?_) (fun c3 => ?_)
  · have h := zif_t c3 h
    refine g_sub [1, 2, 3, 4, 0] (lm' := [(0, tR (some (h0))), (1, tI (l1)), (2, tI (l2)), (3, tI (l3)), (4, tI (t0))]) rfl ?_
    obtain ⟨rfl, rfl⟩ := zsome h
    exact hI _ rfl
  · have h := zif_f c3 h
    refine g_aload_n (pc := 97) C 0 1 dX4_readSum_97 rfl rfl ?_
    refine g_dup (pc := 98) C dX4_readSum_98 rfl ?_
    obtain ⟨v1, hvv1, h⟩ := zbind h
    refine g_getI (N := 12) (pc := 99) C ck_4 hvv1 rfl rfl fl_X4_35 dX4_readSum_99 ?_
    refine g_iconst (v := 1) (pc := 102) C dX4_readSum_102 (by decide) ?_
    refine g_iadd (pc := 103) C dX4_readSum_103 ?_
    obtain ⟨σ2, hvσ2, h⟩ := zbind h
    refine g_putI (N := 12) (pc := 104) C ⟨ck_4, rfl, tyX4_ok⟩ hvσ2 rfl fl_X4_35 rfl rfl dX4_readSum_104 ?_
    refine g_goto (pc := 107) C 5 dX4_readSum_107 (by decide) ?_
    refine g_sub [1, 2, 3, 4, 0] (lm' := [(0, tR (some (h0))), (1, tI (l1)), (2, tI (l2)), (3, tI (l3)), (4, tI (t0))]) rfl ?_
    obtain ⟨rfl, rfl⟩ := zsome h
    exact hI _ rfl
noncomputable def s_X4_readSum_j79 (rc : RCT) (h0 : Nat) (l1 : Int32) (l2 : Int32) (t0 : Int32) (σ : Hp) : Option (((Nat × Int32 × Int32 × Int32 × Int32) ⊕ (Int32)) × Hp) :=
  if t0 = (-1) then
    s_X4_readSum_j90 rc (h0) (l1) (l2) (t0) (0) σ
  else
    s_X4_readSum_j90 rc (h0) (l1) (l2) (t0) (1) σ
set_option maxRecDepth 100000 in
theorem w_X4_readSum_j79 {E : E0} (hE : EOK E) {d : Nat} {rc : RCT} (hrc : RCOK E d rc) {X : X0} (C : XOK E X cX4_readSum RX4 5 (some .boolean) (rmR (d + 1))) (hxn : xn X = ((rmR (d + 1)).cells, (rmR (d + 1)).slots)) {KE : (Int32) → Hp → Prop} (e_ret : ∀ (r : Int32) (σ : Hp), KE (r) σ → xd X = (some (tI r), σ)) (h0 : Nat) (l1 : Int32) (l2 : Int32) (t0 : Int32) (σ : Hp) (x : (Nat × Int32 × Int32 × Int32 × Int32) ⊕ (Int32)) (σ1 : Hp) (h : s_X4_readSum_j79 rc h0 l1 l2 t0 σ = some (x, σ1)) (hI : ∀ v, x = Sum.inl v → (fun (v : Nat × Int32 × Int32 × Int32 × Int32) (σ : Hp) => G E X 0 0 5 [(0, tR (some ((v.1)))), (1, tI ((v.2.1))), (2, tI ((v.2.2.1))), (3, tI ((v.2.2.2.1))), (4, tI ((v.2.2.2.2)))] [] σ) v σ1) (hO : ∀ e, x = Sum.inr e → KE e σ1) : G E X 0 0 79 [(0, tR (some (h0))), (1, tI (l1)), (2, tI (l2))] [tI (t0)] σ := by
  unfold s_X4_readSum_j79 at h
  refine g_istore_n (lm' := [(3, tI (t0)), (0, tR (some (h0))), (1, tI (l1)), (2, tI (l2))]) (pc := 79) C 3 dX4_readSum_79 rfl (by decide) rfl ?_
  refine g_iload_n (pc := 80) C 3 0 dX4_readSum_80 rfl rfl ?_
  refine g_iconst (v := (-1)) (pc := 81) C dX4_readSum_81 (by decide) ?_
  refine g_icmp_eq (pc := 82) C 89 dX4_readSum_82 (by decide) (fun c1 => ?_) (fun c1 => ?_)
  · have h := zif_t c1 h
    refine g_iconst (v := 0) (pc := 89) C dX4_readSum_89 (by decide) ?_
    refine g_sub [1, 2, 3, 0] (lm' := [(0, tR (some (h0))), (1, tI (l1)), (2, tI (l2)), (3, tI (t0))]) rfl ?_
    exact w_X4_readSum_j90 hE hrc C hxn e_ret _ _ _ _ _ _ _ _ h hI hO
  · have h := zif_f c1 h
    refine g_iconst (v := 1) (pc := 85) C dX4_readSum_85 (by decide) ?_
    refine g_goto (pc := 86) C 90 dX4_readSum_86 (by decide) ?_
    refine g_sub [1, 2, 3, 0] (lm' := [(0, tR (some (h0))), (1, tI (l1)), (2, tI (l2)), (3, tI (t0))]) rfl ?_
    exact w_X4_readSum_j90 hE hrc C hxn e_ret _ _ _ _ _ _ _ _ h hI hO
noncomputable def s_X4_readSum_j58 (rc : RCT) (h0 : Nat) (l1 : Int32) (l2 : Int32) (σ : Hp) : Option (((Nat × Int32 × Int32 × Int32 × Int32) ⊕ (Int32)) × Hp) :=
  if l1 = 0 then
    (ck 4 σ h0).bind fun u6 =>
    cb (s_X4_kind h0 σ) fun v8 σ7 =>
    cb (s_X4_sumStepOf (v8) σ7) fun v10 σ9 =>
    s_X4_readSum_j79 rc (h0) (l1) (l2) (v10) σ9
  else
    (ck 4 σ h0).bind fun u1 =>
    cb (s_X4_kind h0 σ) fun v3 σ2 =>
    cb (s_X4_termStepOf (v3) σ2) fun v5 σ4 =>
    s_X4_readSum_j79 rc (h0) (l1) (l2) (v5) σ4
set_option maxRecDepth 100000 in
theorem w_X4_readSum_j58 {E : E0} (hE : EOK E) {d : Nat} {rc : RCT} (hrc : RCOK E d rc) {X : X0} (C : XOK E X cX4_readSum RX4 5 (some .boolean) (rmR (d + 1))) (hxn : xn X = ((rmR (d + 1)).cells, (rmR (d + 1)).slots)) {KE : (Int32) → Hp → Prop} (e_ret : ∀ (r : Int32) (σ : Hp), KE (r) σ → xd X = (some (tI r), σ)) (h0 : Nat) (l1 : Int32) (l2 : Int32) (σ : Hp) (x : (Nat × Int32 × Int32 × Int32 × Int32) ⊕ (Int32)) (σ1 : Hp) (h : s_X4_readSum_j58 rc h0 l1 l2 σ = some (x, σ1)) (hI : ∀ v, x = Sum.inl v → (fun (v : Nat × Int32 × Int32 × Int32 × Int32) (σ : Hp) => G E X 0 0 5 [(0, tR (some ((v.1)))), (1, tI ((v.2.1))), (2, tI ((v.2.2.1))), (3, tI ((v.2.2.2.1))), (4, tI ((v.2.2.2.2)))] [] σ) v σ1) (hO : ∀ e, x = Sum.inr e → KE e σ1) : G E X 0 0 58 [(0, tR (some (h0))), (1, tI (l1)), (2, tI (l2))] [] σ := by
  unfold s_X4_readSum_j58 at h
  refine g_iload_n (pc := 58) C 1 1 dX4_readSum_58 rfl rfl ?_
  refine g_if_ne (pc := 59) C 72 dX4_readSum_59 (by decide) (fun c11 => ?_) (fun c11 => ?_)
  · have h := zif_f c11 h
    refine g_aload_n (pc := 72) C 0 0 dX4_readSum_72 rfl rfl ?_
    obtain ⟨u1, hvu1, h⟩ := zbind h
    obtain ⟨v3, σ2, hvσ2, h⟩ := zcb h
    refine g_callV (pc := 73) (av := []) C (c_X4_kind hE hvσ2) yv_X4_kind ml_X4_55 ck_4 (zopt hvu1).1 rfl (rf_rec (by decide) (by decide) (by decide) rfl rfl) rfl (Nat.le_of_ble_eq_true rfl) dX4_readSum_73 ?_
    obtain ⟨v5, σ4, hvσ4, h⟩ := zcb h
    refine g_callS (pc := 76) (av := [tI (v3)]) C (c_X4_termStepOf hE hvσ4) ys_X4_termStepOf ml_X4_169 rfl (rf_rec (by decide) (by decide) (by decide) rfl rfl) rfl (Nat.le_of_ble_eq_true rfl) dX4_readSum_76 ?_
    exact w_X4_readSum_j79 hE hrc C hxn e_ret _ _ _ _ _ _ _ h hI hO
  · have h := zif_t c11 h
    refine g_aload_n (pc := 62) C 0 0 dX4_readSum_62 rfl rfl ?_
    obtain ⟨u6, hvu6, h⟩ := zbind h
    obtain ⟨v8, σ7, hvσ7, h⟩ := zcb h
    refine g_callV (pc := 63) (av := []) C (c_X4_kind hE hvσ7) yv_X4_kind ml_X4_55 ck_4 (zopt hvu6).1 rfl (rf_rec (by decide) (by decide) (by decide) rfl rfl) rfl (Nat.le_of_ble_eq_true rfl) dX4_readSum_63 ?_
    obtain ⟨v10, σ9, hvσ9, h⟩ := zcb h
    refine g_callS (pc := 66) (av := [tI (v8)]) C (c_X4_sumStepOf hE hvσ9) ys_X4_sumStepOf ml_X4_166 rfl (rf_rec (by decide) (by decide) (by decide) rfl rfl) rfl (Nat.le_of_ble_eq_true rfl) dX4_readSum_66 ?_
    refine g_goto (pc := 69) C 79 dX4_readSum_69 (by decide) ?_
    exact w_X4_readSum_j79 hE hrc C hxn e_ret _ _ _ _ _ _ _ h hI hO
noncomputable def s_X4_readSum_j47 (rc : RCT) (h0 : Nat) (l1 : Int32) (l2 : Int32) (l3 : Int32) (σ : Hp) : Option (((Nat × Int32 × Int32 × Int32 × Int32) ⊕ (Int32)) × Hp) :=
  if l3 = (-1) then
    s_X4_readSum_j58 rc (h0) (l1) (l2) σ
  else
    (ck 4 σ h0).bind fun u1 =>
    cb (s_X4_addStep h0 (l3) (0) σ) fun v3 σ2 =>
    s_X4_readSum_j58 rc (h0) (l1) (l2) σ2
set_option maxRecDepth 100000 in
theorem w_X4_readSum_j47 {E : E0} (hE : EOK E) {d : Nat} {rc : RCT} (hrc : RCOK E d rc) {X : X0} (C : XOK E X cX4_readSum RX4 5 (some .boolean) (rmR (d + 1))) (hxn : xn X = ((rmR (d + 1)).cells, (rmR (d + 1)).slots)) {KE : (Int32) → Hp → Prop} (e_ret : ∀ (r : Int32) (σ : Hp), KE (r) σ → xd X = (some (tI r), σ)) (h0 : Nat) (l1 : Int32) (l2 : Int32) (l3 : Int32) (σ : Hp) (x : (Nat × Int32 × Int32 × Int32 × Int32) ⊕ (Int32)) (σ1 : Hp) (h : s_X4_readSum_j47 rc h0 l1 l2 l3 σ = some (x, σ1)) (hI : ∀ v, x = Sum.inl v → (fun (v : Nat × Int32 × Int32 × Int32 × Int32) (σ : Hp) => G E X 0 0 5 [(0, tR (some ((v.1)))), (1, tI ((v.2.1))), (2, tI ((v.2.2.1))), (3, tI ((v.2.2.2.1))), (4, tI ((v.2.2.2.2)))] [] σ) v σ1) (hO : ∀ e, x = Sum.inr e → KE e σ1) : G E X 0 0 47 [(0, tR (some (h0))), (1, tI (l1)), (2, tI (l2)), (3, tI (l3))] [] σ := by
  unfold s_X4_readSum_j47 at h
  refine g_iload_n (pc := 47) C 3 3 dX4_readSum_47 rfl rfl ?_
  refine g_iconst (v := (-1)) (pc := 48) C dX4_readSum_48 (by decide) ?_
  refine g_icmp_eq (pc := 49) C 58 dX4_readSum_49 (by decide) (fun c4 => ?_) (fun c4 => ?_)
  · have h := zif_t c4 h
    refine g_sub [0, 1, 2] (lm' := [(0, tR (some (h0))), (1, tI (l1)), (2, tI (l2))]) rfl ?_
    exact w_X4_readSum_j58 hE hrc C hxn e_ret _ _ _ _ _ _ h hI hO
  · have h := zif_f c4 h
    refine g_aload_n (pc := 52) C 0 0 dX4_readSum_52 rfl rfl ?_
    refine g_iload_n (pc := 53) C 3 3 dX4_readSum_53 rfl rfl ?_
    refine g_iconst (v := 0) (pc := 54) C dX4_readSum_54 (by decide) ?_
    obtain ⟨u1, hvu1, h⟩ := zbind h
    obtain ⟨v3, σ2, hvσ2, h⟩ := zcb h
    refine g_callV (pc := 55) (av := [tI (l3), tI (0)]) C (c_X4_addStep hE hvσ2) yv_X4_addStep ml_X4_156 ck_4 (zopt hvu1).1 rfl (rf_rec (by decide) (by decide) (by decide) rfl rfl) rfl (Nat.le_of_ble_eq_true rfl) dX4_readSum_55 ?_
    refine g_sub [0, 1, 2] (lm' := [(0, tR (some (h0))), (1, tI (l1)), (2, tI (l2))]) rfl ?_
    exact w_X4_readSum_j58 hE hrc C hxn e_ret _ _ _ _ _ _ h hI hO
noncomputable def s_X4_readSum_b5 (rc : RCT) (h0 : Nat) (l1 : Int32) (l2 : Int32) (l3 : Int32) (l4 : Int32) (σ : Hp) : Option (((Nat × Int32 × Int32 × Int32 × Int32) ⊕ (Int32)) × Hp) :=
  if l4 = 0 then
    some (Sum.inr (1), σ)
  else
    (rdI 4 σ h0 6).bind fun v1 =>
    (rdI 4 σ h0 5).bind fun v2 =>
    if v2 < v1 then
      some (Sum.inr (1), σ)
    else
      if l1 = 0 then
        (ck 4 σ h0).bind fun u7 =>
        cb (rc 2 h0 (1) (l2) σ) fun v9 σ8 =>
        if v9 = 0 then
          some (Sum.inr (0), σ8)
        else
          s_X4_readSum_j47 rc (h0) (l1) (l2) (l3) σ8
      else
        (ck 4 σ h0).bind fun u3 =>
        cb (rc 3 h0 (l2) 0 σ) fun v5 σ4 =>
        if v5 = 0 then
          some (Sum.inr (0), σ4)
        else
          s_X4_readSum_j47 rc (h0) (l1) (l2) (l3) σ4
noncomputable def s_X4_readSum_l5 (rc : RCT) : (Nat × Int32 × Int32 × Int32 × Int32) → Hp → Option ((Int32) × Hp) := loopF (fun v => s_X4_readSum_b5 rc (v.1) (v.2.1) (v.2.2.1) (v.2.2.2.1) (v.2.2.2.2))
set_option maxRecDepth 100000 in
theorem w_X4_readSum_b5 {E : E0} (hE : EOK E) {d : Nat} {rc : RCT} (hrc : RCOK E d rc) {X : X0} (C : XOK E X cX4_readSum RX4 5 (some .boolean) (rmR (d + 1))) (hxn : xn X = ((rmR (d + 1)).cells, (rmR (d + 1)).slots)) {KE : (Int32) → Hp → Prop} (e_ret : ∀ (r : Int32) (σ : Hp), KE (r) σ → xd X = (some (tI r), σ)) (h0 : Nat) (l1 : Int32) (l2 : Int32) (l3 : Int32) (l4 : Int32) (σ : Hp) (x : (Nat × Int32 × Int32 × Int32 × Int32) ⊕ (Int32)) (σ1 : Hp) (h : s_X4_readSum_b5 rc h0 l1 l2 l3 l4 σ = some (x, σ1)) (hI : ∀ v, x = Sum.inl v → (fun (v : Nat × Int32 × Int32 × Int32 × Int32) (σ : Hp) => G E X 0 0 5 [(0, tR (some ((v.1)))), (1, tI ((v.2.1))), (2, tI ((v.2.2.1))), (3, tI ((v.2.2.2.1))), (4, tI ((v.2.2.2.2)))] [] σ) v σ1) (hO : ∀ e, x = Sum.inr e → KE e σ1) : G E X 0 0 5 [(0, tR (some (h0))), (1, tI (l1)), (2, tI (l2)), (3, tI (l3)), (4, tI (l4))] [] σ := by
  unfold s_X4_readSum_b5 at h
  refine g_iload (pc := 5) C 4 dX4_readSum_5 rfl ?_
  refine g_if_eq (pc := 7) C 110 dX4_readSum_7 (by decide) (fun c13 => ?_) (fun c13 => ?_)
  · have h := zif_t c13 h
    refine g_iconst (v := 1) (pc := 110) C dX4_readSum_110 (by decide) ?_
    obtain ⟨rfl, rfl⟩ := zsome h
    exact g_zret (pc := 111) C rfl (e_ret _ _ (hO _ rfl)) (by decide) (by rw [hxn]; rfl) (by rw [hxn]; rfl) dX4_readSum_111
  · have h := zif_f c13 h
    refine g_aload_n (pc := 10) C 0 0 dX4_readSum_10 rfl rfl ?_
    obtain ⟨v1, hvv1, h⟩ := zbind h
    refine g_getI (N := 12) (pc := 11) C ck_4 hvv1 rfl rfl fl_X4_35 dX4_readSum_11 ?_
    refine g_aload_n (pc := 14) C 0 0 dX4_readSum_14 rfl rfl ?_
    obtain ⟨v2, hvv2, h⟩ := zbind h
    refine g_getI (N := 12) (pc := 15) C ck_4 hvv2 rfl rfl fl_X4_77 dX4_readSum_15 ?_
    refine g_icmp_gt (pc := 18) C 110 dX4_readSum_18 (by decide) (fun c12 => ?_) (fun c12 => ?_)
    · have h := zif_t c12 h
      refine g_iconst (v := 1) (pc := 110) C dX4_readSum_110 (by decide) ?_
      obtain ⟨rfl, rfl⟩ := zsome h
      exact g_zret (pc := 111) C rfl (e_ret _ _ (hO _ rfl)) (by decide) (by rw [hxn]; rfl) (by rw [hxn]; rfl) dX4_readSum_111
    · have h := zif_f c12 h
      refine g_iload_n (pc := 21) C 1 1 dX4_readSum_21 rfl rfl ?_
      refine g_if_ne (pc := 22) C 37 dX4_readSum_22 (by decide) (fun c11 => ?_) (fun c11 => ?_)
      · have h := zif_f c11 h
        refine g_aload_n (pc := 37) C 0 0 dX4_readSum_37 rfl rfl ?_
        refine g_iload_n (pc := 38) C 2 2 dX4_readSum_38 rfl rfl ?_
        obtain ⟨u3, hvu3, h⟩ := zbind h
        obtain ⟨v5, σ4, hvσ4, h⟩ := zcb h
        refine g_callV (pc := 39) (av := [tI (l2)]) C (hrc.t3 hvσ4) yv_X4_readPart ml_X4_163 ck_4 (zopt hvu3).1 rfl (rf_rec2 (by decide)) rfl (Nat.le_of_ble_eq_true rfl) dX4_readSum_39 ?_
        refine g_if_ne (pc := 42) C 47 dX4_readSum_42 (by decide) (fun c6 => ?_) (fun c6 => ?_)
        · have h := zif_f c6 h
          refine g_sub [0, 1, 2, 3] (lm' := [(0, tR (some (h0))), (1, tI (l1)), (2, tI (l2)), (3, tI (l3))]) rfl ?_
          exact w_X4_readSum_j47 hE hrc C hxn e_ret _ _ _ _ _ _ _ h hI hO
        · have h := zif_t c6 h
          refine g_iconst (v := 0) (pc := 45) C dX4_readSum_45 (by decide) ?_
          obtain ⟨rfl, rfl⟩ := zsome h
          exact g_zret (pc := 46) C rfl (e_ret _ _ (hO _ rfl)) (by decide) (by rw [hxn]; rfl) (by rw [hxn]; rfl) dX4_readSum_46
      · have h := zif_t c11 h
        refine g_aload_n (pc := 25) C 0 0 dX4_readSum_25 rfl rfl ?_
        refine g_iconst (v := 1) (pc := 26) C dX4_readSum_26 (by decide) ?_
        refine g_iload_n (pc := 27) C 2 2 dX4_readSum_27 rfl rfl ?_
        obtain ⟨u7, hvu7, h⟩ := zbind h
        obtain ⟨v9, σ8, hvσ8, h⟩ := zcb h
        refine g_callV (pc := 28) (av := [tI (1), tI (l2)]) C (hrc.t2 hvσ8) yv_X4_readSum ml_X4_133 ck_4 (zopt hvu7).1 rfl (rf_rec2 (by decide)) rfl (Nat.le_of_ble_eq_true rfl) dX4_readSum_28 ?_
        refine g_if_ne (pc := 31) C 47 dX4_readSum_31 (by decide) (fun c10 => ?_) (fun c10 => ?_)
        · have h := zif_f c10 h
          refine g_sub [0, 1, 2, 3] (lm' := [(0, tR (some (h0))), (1, tI (l1)), (2, tI (l2)), (3, tI (l3))]) rfl ?_
          exact w_X4_readSum_j47 hE hrc C hxn e_ret _ _ _ _ _ _ _ h hI hO
        · have h := zif_t c10 h
          refine g_goto (pc := 34) C 45 dX4_readSum_34 (by decide) ?_
          refine g_iconst (v := 0) (pc := 45) C dX4_readSum_45 (by decide) ?_
          obtain ⟨rfl, rfl⟩ := zsome h
          exact g_zret (pc := 46) C rfl (e_ret _ _ (hO _ rfl)) (by decide) (by rw [hxn]; rfl) (by rw [hxn]; rfl) dX4_readSum_46
theorem w_X4_readSum_l5 {E : E0} (hE : EOK E) {d : Nat} {rc : RCT} (hrc : RCOK E d rc) {X : X0} (C : XOK E X cX4_readSum RX4 5 (some .boolean) (rmR (d + 1))) (hxn : xn X = ((rmR (d + 1)).cells, (rmR (d + 1)).slots)) {KE : (Int32) → Hp → Prop} (e_ret : ∀ (r : Int32) (σ : Hp), KE (r) σ → xd X = (some (tI r), σ)) {v : Nat × Int32 × Int32 × Int32 × Int32} {σ : Hp} {e : Int32} {σ1 : Hp} (h : s_X4_readSum_l5 rc v σ = some (e, σ1)) (hO : KE e σ1) : G E X 0 0 5 [(0, tR (some ((v.1)))), (1, tI ((v.2.1))), (2, tI ((v.2.2.1))), (3, tI ((v.2.2.2.1))), (4, tI ((v.2.2.2.2)))] [] σ := loopF_ind (P := fun (v : Nat × Int32 × Int32 × Int32 × Int32) (σ : Hp) => G E X 0 0 5 [(0, tR (some ((v.1)))), (1, tI ((v.2.1))), (2, tI ((v.2.2.1))), (3, tI ((v.2.2.2.1))), (4, tI ((v.2.2.2.2)))] [] σ) (KE := KE) (fun v σ x σ1 h hI hO => w_X4_readSum_b5 hE hrc C hxn e_ret (v.1) (v.2.1) (v.2.2.1) (v.2.2.2.1) (v.2.2.2.2) σ x σ1 h hI hO) v σ e σ1 h hO
noncomputable def s_X4_readSum (rc : RCT) (h0 : Nat) (p1 : Int32) (p2 : Int32) (σ : Hp) : Option (Int32 × Hp) :=
  cb (s_X4_readSum_l5 rc ((h0), (p1), (p2), ((-1)), (1)) σ) fun r2 σ3 =>
  some (r2, σ3)
set_option maxRecDepth 100000 in
theorem c_X4_readSum {E : E0} (hE : EOK E) {d : Nat} {rc : RCT} (hrc : RCOK E d rc) {h0 : Nat} {p1 : Int32} {p2 : Int32} {σ σ1 : Hp} {r : Int32} (h : s_X4_readSum rc h0 p1 p2 σ = some (r, σ1)) : CT E yX4_readSum (.code yX4_readSum cX4_readSum 5 (some .boolean)) (rmR (d + 1)) [tR (some (h0)), tI (p1), tI (p2)] σ (some (tI r)) σ1 := by
  refine CT.mk hE (by decide +kernel) (Nat.le_of_ble_eq_true rfl) [(0, tR (some (h0))), (1, tI (p1)), (2, tI (p2))] rfl (fun X C hin hx hxn => ?_)
  have C : XOK E X cX4_readSum RX4 5 (some .boolean) (rmR (d + 1)) := C
  unfold s_X4_readSum at h
  refine g_iconst (v := (-1)) (pc := 0) C dX4_readSum_0 (by decide) ?_
  refine g_istore_n (lm' := [(3, tI ((-1))), (0, tR (some (h0))), (1, tI (p1)), (2, tI (p2))]) (pc := 1) C 3 dX4_readSum_1 rfl (by decide) rfl ?_
  refine g_iconst (v := 1) (pc := 2) C dX4_readSum_2 (by decide) ?_
  refine g_istore (lm' := [(4, tI (1)), (3, tI ((-1))), (0, tR (some (h0))), (1, tI (p1)), (2, tI (p2))]) (pc := 3) C dX4_readSum_3 (by decide) rfl ?_
  refine g_sub [2, 3, 4, 1, 0] (lm' := [(0, tR (some (h0))), (1, tI (p1)), (2, tI (p2)), (3, tI ((-1))), (4, tI (1))]) rfl ?_
  obtain ⟨KQ, hKQ, r2, σ3, hlr2, h⟩ := zcbK h
  refine w_X4_readSum_l5 (KE := KQ) hE hrc C hxn ?_ hlr2 h
  · intro r2 σ1 h
    have h := (hKQ _ _).mp h
    obtain ⟨rfl, rfl⟩ := zsome h
    exact hx
noncomputable def s_X4_readPart_j161 (rc : RCT) (h0 : Nat) (l3 : Int32) (t0 : Int32) (σ : Hp) : Option (Int32 × Hp) :=
  if t0 = 0 then
    (ck 4 σ h0).bind fun u11 =>
    cb (s_X4_addStep h0 (1) (l3) σ) fun v13 σ12 =>
    some ((1), σ12)
  else
    (ck 4 σ h0).bind fun u1 =>
    cb (s_X4_numberNow h0 σ) fun v3 σ2 =>
    (ck 4 σ2 h0).bind fun u4 =>
    cb (s_X4_addStep h0 (1) (l3 + v3) σ2) fun v6 σ5 =>
    (ck 4 σ5 h0).bind fun u7 =>
    cb (s_X4_takeNumber h0 (0) (t0 - 1) σ5) fun v9 σ8 =>
    (zbo (v9)).bind fun u10 =>
    some ((v9), σ8)
set_option maxRecDepth 100000 in
theorem w_X4_readPart_j161 {E : E0} (hE : EOK E) {d : Nat} {rc : RCT} (hrc : RCOK E d rc) {X : X0} (C : XOK E X cX4_readPart RX4 5 (some .boolean) (rmR (d + 1))) (hxn : xn X = ((rmR (d + 1)).cells, (rmR (d + 1)).slots)) (h0 : Nat) (l3 : Int32) (t0 : Int32) (σ : Hp) (r : Int32) (σ1 : Hp) (h : s_X4_readPart_j161 rc h0 l3 t0 σ = some (r, σ1)) (hx : xd X = (some (tI r), σ1)) : G E X 0 0 161 [(0, tR (some (h0))), (3, tI (l3))] [tI (t0)] σ := by
  unfold s_X4_readPart_j161 at h
  refine g_istore (lm' := [(4, tI (t0)), (0, tR (some (h0))), (3, tI (l3))]) (pc := 161) C dX4_readPart_161 (by decide) rfl ?_
  refine g_iload (pc := 163) C 0 dX4_readPart_163 rfl ?_
  refine g_if_ne (pc := 165) C 176 dX4_readPart_165 (by decide) (fun c14 => ?_) (fun c14 => ?_)
  · have h := zif_f c14 h
    refine g_aload_n (pc := 176) C 0 1 dX4_readPart_176 rfl rfl ?_
    refine g_iconst (v := 1) (pc := 177) C dX4_readPart_177 (by decide) ?_
    refine g_iload_n (pc := 178) C 3 2 dX4_readPart_178 rfl rfl ?_
    refine g_aload_n (pc := 179) C 0 1 dX4_readPart_179 rfl rfl ?_
    obtain ⟨u1, hvu1, h⟩ := zbind h
    obtain ⟨v3, σ2, hvσ2, h⟩ := zcb h
    refine g_callV (pc := 180) (av := []) C (c_X4_numberNow hE hvσ2) yv_X4_numberNow ml_X4_140 ck_4 (zopt hvu1).1 rfl (rf_rec (by decide) (by decide) (by decide) rfl rfl) rfl (Nat.le_of_ble_eq_true rfl) dX4_readPart_180 ?_
    refine g_iadd (pc := 183) C dX4_readPart_183 ?_
    obtain ⟨u4, hvu4, h⟩ := zbind h
    obtain ⟨v6, σ5, hvσ5, h⟩ := zcb h
    refine g_callV (pc := 184) (av := [tI (1), tI (l3 + v3)]) C (c_X4_addStep hE hvσ5) yv_X4_addStep ml_X4_156 ck_4 (zopt hvu4).1 rfl (rf_rec (by decide) (by decide) (by decide) rfl rfl) rfl (Nat.le_of_ble_eq_true rfl) dX4_readPart_184 ?_
    refine g_aload_n (pc := 187) C 0 1 dX4_readPart_187 rfl rfl ?_
    refine g_iconst (v := 0) (pc := 188) C dX4_readPart_188 (by decide) ?_
    refine g_iload (pc := 189) C 0 dX4_readPart_189 rfl ?_
    refine g_iconst (v := 1) (pc := 191) C dX4_readPart_191 (by decide) ?_
    refine g_isub (pc := 192) C dX4_readPart_192 ?_
    obtain ⟨u7, hvu7, h⟩ := zbind h
    obtain ⟨v9, σ8, hvσ8, h⟩ := zcb h
    refine g_callV (pc := 193) (av := [tI (0), tI (t0 - 1)]) C (c_X4_takeNumber hE hvσ8) yv_X4_takeNumber ml_X4_143 ck_4 (zopt hvu7).1 rfl (rf_rec (by decide) (by decide) (by decide) rfl rfl) rfl (Nat.le_of_ble_eq_true rfl) dX4_readPart_193 ?_
    obtain ⟨u10, hvu10, h⟩ := zbind h
    obtain ⟨rfl, rfl⟩ := zsome h
    exact g_zret (pc := 196) C rfl hx (zbo_h hvu10) (by rw [hxn]; rfl) (by rw [hxn]; rfl) dX4_readPart_196
  · have h := zif_t c14 h
    refine g_aload_n (pc := 168) C 0 1 dX4_readPart_168 rfl rfl ?_
    refine g_iconst (v := 1) (pc := 169) C dX4_readPart_169 (by decide) ?_
    refine g_iload_n (pc := 170) C 3 2 dX4_readPart_170 rfl rfl ?_
    obtain ⟨u11, hvu11, h⟩ := zbind h
    obtain ⟨v13, σ12, hvσ12, h⟩ := zcb h
    refine g_callV (pc := 171) (av := [tI (1), tI (l3)]) C (c_X4_addStep hE hvσ12) yv_X4_addStep ml_X4_156 ck_4 (zopt hvu11).1 rfl (rf_rec (by decide) (by decide) (by decide) rfl rfl) rfl (Nat.le_of_ble_eq_true rfl) dX4_readPart_171 ?_
    refine g_iconst (v := 1) (pc := 174) C dX4_readPart_174 (by decide) ?_
    obtain ⟨rfl, rfl⟩ := zsome h
    exact g_zret (pc := 175) C rfl hx (by decide) (by rw [hxn]; rfl) (by rw [hxn]; rfl) dX4_readPart_175
noncomputable def s_X4_readPart_j125 (rc : RCT) (h0 : Nat) (l2 : Int32) (t0 : Int32) (σ : Hp) : Option (Int32 × Hp) :=
  if t0 = (-1) then
    (ck 4 σ h0).bind fun u7 =>
    cb (s_X4_fail h0 σ) fun v9 σ8 =>
    (zbo (v9)).bind fun u10 =>
    some ((v9), σ8)
  else
    (rdI 4 σ h0 6).bind fun v1 =>
    (wrI 4 σ h0 6 (v1 + 1)).bind fun σ2 =>
    (rdI 4 σ2 h0 10).bind fun v3 =>
    if v3 = 0 then
      cb (s_X4_manyOf (l2) σ2) fun v5 σ4 =>
      s_X4_readPart_j161 rc (h0) (t0) (v5) σ4
    else
      s_X4_readPart_j161 rc (h0) (t0) (0) σ2
set_option maxRecDepth 100000 in
theorem w_X4_readPart_j125 {E : E0} (hE : EOK E) {d : Nat} {rc : RCT} (hrc : RCOK E d rc) {X : X0} (C : XOK E X cX4_readPart RX4 5 (some .boolean) (rmR (d + 1))) (hxn : xn X = ((rmR (d + 1)).cells, (rmR (d + 1)).slots)) (h0 : Nat) (l2 : Int32) (t0 : Int32) (σ : Hp) (r : Int32) (σ1 : Hp) (h : s_X4_readPart_j125 rc h0 l2 t0 σ = some (r, σ1)) (hx : xd X = (some (tI r), σ1)) : G E X 0 0 125 [(0, tR (some (h0))), (2, tI (l2))] [tI (t0)] σ := by
  unfold s_X4_readPart_j125 at h
  refine g_istore_n (lm' := [(3, tI (t0)), (0, tR (some (h0))), (2, tI (l2))]) (pc := 125) C 3 dX4_readPart_125 rfl (by decide) rfl ?_
  refine g_iload_n (pc := 126) C 3 0 dX4_readPart_126 rfl rfl ?_
  refine g_iconst (v := (-1)) (pc := 127) C dX4_readPart_127 (by decide) ?_
  refine g_icmp_ne (pc := 128) C 136 dX4_readPart_128 (by decide) (fun c11 => ?_) (fun c11 => ?_)
  · have h := zif_f c11 h
    refine g_aload_n (pc := 136) C 0 1 dX4_readPart_136 rfl rfl ?_
    refine g_dup (pc := 137) C dX4_readPart_137 rfl ?_
    obtain ⟨v1, hvv1, h⟩ := zbind h
    refine g_getI (N := 12) (pc := 138) C ck_4 hvv1 rfl rfl fl_X4_35 dX4_readPart_138 ?_
    refine g_iconst (v := 1) (pc := 141) C dX4_readPart_141 (by decide) ?_
    refine g_iadd (pc := 142) C dX4_readPart_142 ?_
    obtain ⟨σ2, hvσ2, h⟩ := zbind h
    refine g_putI (N := 12) (pc := 143) C ⟨ck_4, rfl, tyX4_ok⟩ hvσ2 rfl fl_X4_35 rfl rfl dX4_readPart_143 ?_
    refine g_aload_n (pc := 146) C 0 1 dX4_readPart_146 rfl rfl ?_
    obtain ⟨v3, hvv3, h⟩ := zbind h
    refine g_getI (N := 12) (pc := 147) C ck_4 hvv3 rfl rfl fl_X4_31 dX4_readPart_147 ?_
    refine g_if_eq (pc := 150) C 157 dX4_readPart_150 (by decide) (fun c6 => ?_) (fun c6 => ?_)
    · have h := zif_t c6 h
      refine g_iload_n (pc := 157) C 2 2 dX4_readPart_157 rfl rfl ?_
      obtain ⟨v5, σ4, hvσ4, h⟩ := zcb h
      refine g_callS (pc := 158) (av := [tI (l2)]) C (c_X4_manyOf hE hvσ4) ys_X4_manyOf ml_X4_178 rfl (rf_rec (by decide) (by decide) (by decide) rfl rfl) rfl (Nat.le_of_ble_eq_true rfl) dX4_readPart_158 ?_
      refine g_sub [1, 0] (lm' := [(0, tR (some (h0))), (3, tI (t0))]) rfl ?_
      exact w_X4_readPart_j161 hE hrc C hxn _ _ _ _ _ _ h hx
    · have h := zif_f c6 h
      refine g_iconst (v := 0) (pc := 153) C dX4_readPart_153 (by decide) ?_
      refine g_goto (pc := 154) C 161 dX4_readPart_154 (by decide) ?_
      refine g_sub [1, 0] (lm' := [(0, tR (some (h0))), (3, tI (t0))]) rfl ?_
      exact w_X4_readPart_j161 hE hrc C hxn _ _ _ _ _ _ h hx
  · have h := zif_t c11 h
    refine g_aload_n (pc := 131) C 0 1 dX4_readPart_131 rfl rfl ?_
    obtain ⟨u7, hvu7, h⟩ := zbind h
    obtain ⟨v9, σ8, hvσ8, h⟩ := zcb h
    refine g_callV (pc := 132) (av := []) C (c_X4_fail hE hvσ8) yv_X4_fail ml_X4_74 ck_4 (zopt hvu7).1 rfl (rf_rec (by decide) (by decide) (by decide) rfl rfl) rfl (Nat.le_of_ble_eq_true rfl) dX4_readPart_132 ?_
    obtain ⟨u10, hvu10, h⟩ := zbind h
    obtain ⟨rfl, rfl⟩ := zsome h
    exact g_zret (pc := 135) C rfl hx (zbo_h hvu10) (by rw [hxn]; rfl) (by rw [hxn]; rfl) dX4_readPart_135
noncomputable def s_X4_readPart (rc : RCT) (h0 : Nat) (p1 : Int32) (σ : Hp) : Option (Int32 × Hp) :=
  (ck 4 σ h0).bind fun u1 =>
  cb (s_X4_kind h0 σ) fun v3 σ2 =>
  if v3 = 91 then
    if p1 < 8 then
      (rdI 4 σ2 h0 6).bind fun v29 =>
      (wrI 4 σ2 h0 6 (v29 + 1)).bind fun σ30 =>
      (ck 4 σ30 h0).bind fun u31 =>
      cb (rc 2 h0 (0) (p1 + 1) σ30) fun v33 σ32 =>
      if v33 = 0 then
        some ((0), σ32)
      else
        (ck 4 σ32 h0).bind fun u34 =>
        cb (s_X4_take h0 (93) σ32) fun v36 σ35 =>
        if v36 = 0 then
          some ((0), σ35)
        else
          some ((1), σ35)
    else
      (ck 4 σ2 h0).bind fun u39 =>
      cb (s_X4_fail h0 σ2) fun v41 σ40 =>
      (zbo (v41)).bind fun u42 =>
      some ((v41), σ40)
  else
    (rdI 4 σ2 h0 9).bind fun v4 =>
    if v4 < 50 then
      (rdI 4 σ2 h0 9).bind fun v5 =>
      (wrI 4 σ2 h0 9 (v5 + 1)).bind fun σ6 =>
      if v3 = 256 then
        (ck 4 σ6 h0).bind fun u13 =>
        cb (s_X4_numberNow h0 σ6) fun v15 σ14 =>
        (ck 4 σ14 h0).bind fun u16 =>
        cb (s_X4_addStep h0 (0) (v15) σ14) fun v18 σ17 =>
        (ck 4 σ17 h0).bind fun u19 =>
        cb (s_X4_takeNumber h0 (0) (1000) σ17) fun v21 σ20 =>
        (zbo (v21)).bind fun u22 =>
        some ((v21), σ20)
      else
        (rdI 4 σ6 h0 10).bind fun v7 =>
        if v7 = 0 then
          cb (s_X4_orderWordOf (v3) σ6) fun v9 σ8 =>
          s_X4_readPart_j125 rc (h0) (v3) (v9) σ8
        else
          cb (s_X4_lawWordOf (v3) σ6) fun v11 σ10 =>
          s_X4_readPart_j125 rc (h0) (v3) (v11) σ10
    else
      (ck 4 σ2 h0).bind fun u24 =>
      cb (s_X4_fail h0 σ2) fun v26 σ25 =>
      (zbo (v26)).bind fun u27 =>
      some ((v26), σ25)
set_option maxRecDepth 100000 in
theorem c_X4_readPart {E : E0} (hE : EOK E) {d : Nat} {rc : RCT} (hrc : RCOK E d rc) {h0 : Nat} {p1 : Int32} {σ σ1 : Hp} {r : Int32} (h : s_X4_readPart rc h0 p1 σ = some (r, σ1)) : CT E yX4_readPart (.code yX4_readPart cX4_readPart 5 (some .boolean)) (rmR (d + 1)) [tR (some (h0)), tI (p1)] σ (some (tI r)) σ1 := by
  refine CT.mk hE (by decide +kernel) (Nat.le_of_ble_eq_true rfl) [(0, tR (some (h0))), (1, tI (p1))] rfl (fun X C hin hx hxn => ?_)
  have C : XOK E X cX4_readPart RX4 5 (some .boolean) (rmR (d + 1)) := C
  unfold s_X4_readPart at h
  refine g_aload_n (pc := 0) C 0 0 dX4_readPart_0 rfl rfl ?_
  obtain ⟨u1, hvu1, h⟩ := zbind h
  obtain ⟨v3, σ2, hvσ2, h⟩ := zcb h
  refine g_callV (pc := 1) (av := []) C (c_X4_kind hE hvσ2) yv_X4_kind ml_X4_55 ck_4 (zopt hvu1).1 rfl (rf_rec (by decide) (by decide) (by decide) rfl rfl) rfl (Nat.le_of_ble_eq_true rfl) dX4_readPart_1 ?_
  refine g_istore_n (lm' := [(2, tI (v3)), (0, tR (some (h0))), (1, tI (p1))]) (pc := 4) C 2 dX4_readPart_4 rfl (by decide) rfl ?_
  refine g_iload_n (pc := 5) C 2 0 dX4_readPart_5 rfl rfl ?_
  refine g_bipush (v := 91) (pc := 6) C dX4_readPart_6 (by decide) ?_
  refine g_icmp_ne (pc := 8) C 58 dX4_readPart_8 (by decide) (fun c44 => ?_) (fun c44 => ?_)
  · have h := zif_f c44 h
    refine g_aload_n (pc := 58) C 0 1 dX4_readPart_58 rfl rfl ?_
    obtain ⟨v4, hvv4, h⟩ := zbind h
    refine g_getI (N := 12) (pc := 59) C ck_4 hvv4 rfl rfl fl_X4_44 dX4_readPart_59 ?_
    refine g_bipush (v := 50) (pc := 62) C dX4_readPart_62 (by decide) ?_
    refine g_icmp_lt (pc := 64) C 72 dX4_readPart_64 (by decide) (fun c28 => ?_) (fun c28 => ?_)
    · have h := zif_t c28 h
      refine g_aload_n (pc := 72) C 0 1 dX4_readPart_72 rfl rfl ?_
      refine g_dup (pc := 73) C dX4_readPart_73 rfl ?_
      obtain ⟨v5, hvv5, h⟩ := zbind h
      refine g_getI (N := 12) (pc := 74) C ck_4 hvv5 rfl rfl fl_X4_44 dX4_readPart_74 ?_
      refine g_iconst (v := 1) (pc := 77) C dX4_readPart_77 (by decide) ?_
      refine g_iadd (pc := 78) C dX4_readPart_78 ?_
      obtain ⟨σ6, hvσ6, h⟩ := zbind h
      refine g_putI (N := 12) (pc := 79) C ⟨ck_4, rfl, tyX4_ok⟩ hvσ6 rfl fl_X4_44 rfl rfl dX4_readPart_79 ?_
      refine g_iload_n (pc := 82) C 2 0 dX4_readPart_82 rfl rfl ?_
      refine g_sipush (v := 256) (pc := 83) C dX4_readPart_83 (by decide) ?_
      refine g_icmp_ne (pc := 86) C 107 dX4_readPart_86 (by decide) (fun c23 => ?_) (fun c23 => ?_)
      · have h := zif_f c23 h
        refine g_aload_n (pc := 107) C 0 1 dX4_readPart_107 rfl rfl ?_
        obtain ⟨v7, hvv7, h⟩ := zbind h
        refine g_getI (N := 12) (pc := 108) C ck_4 hvv7 rfl rfl fl_X4_31 dX4_readPart_108 ?_
        refine g_if_eq (pc := 111) C 121 dX4_readPart_111 (by decide) (fun c12 => ?_) (fun c12 => ?_)
        · have h := zif_t c12 h
          refine g_iload_n (pc := 121) C 2 0 dX4_readPart_121 rfl rfl ?_
          obtain ⟨v9, σ8, hvσ8, h⟩ := zcb h
          refine g_callS (pc := 122) (av := [tI (v3)]) C (c_X4_orderWordOf hE hvσ8) ys_X4_orderWordOf ml_X4_175 rfl (rf_rec (by decide) (by decide) (by decide) rfl rfl) rfl (Nat.le_of_ble_eq_true rfl) dX4_readPart_122 ?_
          refine g_sub [1, 0] (lm' := [(0, tR (some (h0))), (2, tI (v3))]) rfl ?_
          exact w_X4_readPart_j125 hE hrc C hxn _ _ _ _ _ _ h hx
        · have h := zif_f c12 h
          refine g_iload_n (pc := 114) C 2 0 dX4_readPart_114 rfl rfl ?_
          obtain ⟨v11, σ10, hvσ10, h⟩ := zcb h
          refine g_callS (pc := 115) (av := [tI (v3)]) C (c_X4_lawWordOf hE hvσ10) ys_X4_lawWordOf ml_X4_172 rfl (rf_rec (by decide) (by decide) (by decide) rfl rfl) rfl (Nat.le_of_ble_eq_true rfl) dX4_readPart_115 ?_
          refine g_goto (pc := 118) C 125 dX4_readPart_118 (by decide) ?_
          refine g_sub [1, 0] (lm' := [(0, tR (some (h0))), (2, tI (v3))]) rfl ?_
          exact w_X4_readPart_j125 hE hrc C hxn _ _ _ _ _ _ h hx
      · have h := zif_t c23 h
        refine g_aload_n (pc := 89) C 0 1 dX4_readPart_89 rfl rfl ?_
        refine g_iconst (v := 0) (pc := 90) C dX4_readPart_90 (by decide) ?_
        refine g_aload_n (pc := 91) C 0 1 dX4_readPart_91 rfl rfl ?_
        obtain ⟨u13, hvu13, h⟩ := zbind h
        obtain ⟨v15, σ14, hvσ14, h⟩ := zcb h
        refine g_callV (pc := 92) (av := []) C (c_X4_numberNow hE hvσ14) yv_X4_numberNow ml_X4_140 ck_4 (zopt hvu13).1 rfl (rf_rec (by decide) (by decide) (by decide) rfl rfl) rfl (Nat.le_of_ble_eq_true rfl) dX4_readPart_92 ?_
        obtain ⟨u16, hvu16, h⟩ := zbind h
        obtain ⟨v18, σ17, hvσ17, h⟩ := zcb h
        refine g_callV (pc := 95) (av := [tI (0), tI (v15)]) C (c_X4_addStep hE hvσ17) yv_X4_addStep ml_X4_156 ck_4 (zopt hvu16).1 rfl (rf_rec (by decide) (by decide) (by decide) rfl rfl) rfl (Nat.le_of_ble_eq_true rfl) dX4_readPart_95 ?_
        refine g_aload_n (pc := 98) C 0 1 dX4_readPart_98 rfl rfl ?_
        refine g_iconst (v := 0) (pc := 99) C dX4_readPart_99 (by decide) ?_
        refine g_sipush (v := 1000) (pc := 100) C dX4_readPart_100 (by decide) ?_
        obtain ⟨u19, hvu19, h⟩ := zbind h
        obtain ⟨v21, σ20, hvσ20, h⟩ := zcb h
        refine g_callV (pc := 103) (av := [tI (0), tI (1000)]) C (c_X4_takeNumber hE hvσ20) yv_X4_takeNumber ml_X4_143 ck_4 (zopt hvu19).1 rfl (rf_rec (by decide) (by decide) (by decide) rfl rfl) rfl (Nat.le_of_ble_eq_true rfl) dX4_readPart_103 ?_
        obtain ⟨u22, hvu22, h⟩ := zbind h
        obtain ⟨rfl, rfl⟩ := zsome h
        exact g_zret (pc := 106) C rfl hx (zbo_h hvu22) (by rw [hxn]; rfl) (by rw [hxn]; rfl) dX4_readPart_106
    · have h := zif_f c28 h
      refine g_aload_n (pc := 67) C 0 1 dX4_readPart_67 rfl rfl ?_
      obtain ⟨u24, hvu24, h⟩ := zbind h
      obtain ⟨v26, σ25, hvσ25, h⟩ := zcb h
      refine g_callV (pc := 68) (av := []) C (c_X4_fail hE hvσ25) yv_X4_fail ml_X4_74 ck_4 (zopt hvu24).1 rfl (rf_rec (by decide) (by decide) (by decide) rfl rfl) rfl (Nat.le_of_ble_eq_true rfl) dX4_readPart_68 ?_
      obtain ⟨u27, hvu27, h⟩ := zbind h
      obtain ⟨rfl, rfl⟩ := zsome h
      exact g_zret (pc := 71) C rfl hx (zbo_h hvu27) (by rw [hxn]; rfl) (by rw [hxn]; rfl) dX4_readPart_71
  · have h := zif_t c44 h
    refine g_iload_n (pc := 11) C 1 2 dX4_readPart_11 rfl rfl ?_
    refine g_bipush (v := 8) (pc := 12) C dX4_readPart_12 (by decide) ?_
    refine g_icmp_lt (pc := 14) C 22 dX4_readPart_14 (by decide) (fun c43 => ?_) (fun c43 => ?_)
    · have h := zif_t c43 h
      refine g_aload_n (pc := 22) C 0 1 dX4_readPart_22 rfl rfl ?_
      refine g_dup (pc := 23) C dX4_readPart_23 rfl ?_
      obtain ⟨v29, hvv29, h⟩ := zbind h
      refine g_getI (N := 12) (pc := 24) C ck_4 hvv29 rfl rfl fl_X4_35 dX4_readPart_24 ?_
      refine g_iconst (v := 1) (pc := 27) C dX4_readPart_27 (by decide) ?_
      refine g_iadd (pc := 28) C dX4_readPart_28 ?_
      obtain ⟨σ30, hvσ30, h⟩ := zbind h
      refine g_putI (N := 12) (pc := 29) C ⟨ck_4, rfl, tyX4_ok⟩ hvσ30 rfl fl_X4_35 rfl rfl dX4_readPart_29 ?_
      refine g_aload_n (pc := 32) C 0 1 dX4_readPart_32 rfl rfl ?_
      refine g_iconst (v := 0) (pc := 33) C dX4_readPart_33 (by decide) ?_
      refine g_iload_n (pc := 34) C 1 2 dX4_readPart_34 rfl rfl ?_
      refine g_iconst (v := 1) (pc := 35) C dX4_readPart_35 (by decide) ?_
      refine g_iadd (pc := 36) C dX4_readPart_36 ?_
      obtain ⟨u31, hvu31, h⟩ := zbind h
      obtain ⟨v33, σ32, hvσ32, h⟩ := zcb h
      refine g_callV (pc := 37) (av := [tI (0), tI (p1 + 1)]) C (hrc.t2 hvσ32) yv_X4_readSum ml_X4_133 ck_4 (zopt hvu31).1 rfl (rf_rec2 (by decide)) rfl (Nat.le_of_ble_eq_true rfl) dX4_readPart_37 ?_
      refine g_if_eq (pc := 40) C 56 dX4_readPart_40 (by decide) (fun c38 => ?_) (fun c38 => ?_)
      · have h := zif_t c38 h
        refine g_iconst (v := 0) (pc := 56) C dX4_readPart_56 (by decide) ?_
        obtain ⟨rfl, rfl⟩ := zsome h
        exact g_zret (pc := 57) C rfl hx (by decide) (by rw [hxn]; rfl) (by rw [hxn]; rfl) dX4_readPart_57
      · have h := zif_f c38 h
        refine g_aload_n (pc := 43) C 0 1 dX4_readPart_43 rfl rfl ?_
        refine g_bipush (v := 93) (pc := 44) C dX4_readPart_44 (by decide) ?_
        obtain ⟨u34, hvu34, h⟩ := zbind h
        obtain ⟨v36, σ35, hvσ35, h⟩ := zcb h
        refine g_callV (pc := 46) (av := [tI (93)]) C (c_X4_take hE hvσ35) yv_X4_take ml_X4_70 ck_4 (zopt hvu34).1 rfl (rf_rec (by decide) (by decide) (by decide) rfl rfl) rfl (Nat.le_of_ble_eq_true rfl) dX4_readPart_46 ?_
        refine g_if_eq (pc := 49) C 56 dX4_readPart_49 (by decide) (fun c37 => ?_) (fun c37 => ?_)
        · have h := zif_t c37 h
          refine g_iconst (v := 0) (pc := 56) C dX4_readPart_56 (by decide) ?_
          obtain ⟨rfl, rfl⟩ := zsome h
          exact g_zret (pc := 57) C rfl hx (by decide) (by rw [hxn]; rfl) (by rw [hxn]; rfl) dX4_readPart_57
        · have h := zif_f c37 h
          refine g_iconst (v := 1) (pc := 52) C dX4_readPart_52 (by decide) ?_
          refine g_goto (pc := 53) C 57 dX4_readPart_53 (by decide) ?_
          obtain ⟨rfl, rfl⟩ := zsome h
          exact g_zret (pc := 57) C rfl hx (by decide) (by rw [hxn]; rfl) (by rw [hxn]; rfl) dX4_readPart_57
    · have h := zif_f c43 h
      refine g_aload_n (pc := 17) C 0 1 dX4_readPart_17 rfl rfl ?_
      obtain ⟨u39, hvu39, h⟩ := zbind h
      obtain ⟨v41, σ40, hvσ40, h⟩ := zcb h
      refine g_callV (pc := 18) (av := []) C (c_X4_fail hE hvσ40) yv_X4_fail ml_X4_74 ck_4 (zopt hvu39).1 rfl (rf_rec (by decide) (by decide) (by decide) rfl rfl) rfl (Nat.le_of_ble_eq_true rfl) dX4_readPart_18 ?_
      obtain ⟨u42, hvu42, h⟩ := zbind h
      obtain ⟨rfl, rfl⟩ := zsome h
      exact g_zret (pc := 21) C rfl hx (zbo_h hvu42) (by rw [hxn]; rfl) (by rw [hxn]; rfl) dX4_readPart_21
/-- the four readers, to a depth -/
noncomputable def s_parse : Nat → RCT
  | 0 => fun _ _ _ _ _ => none
  | d + 1 => fun tag h a b σ =>
    if tag = 0 then s_X4_readTest (s_parse d) h a b σ
    else if tag = 1 then s_X4_readPlain (s_parse d) h a σ
    else if tag = 2 then s_X4_readSum (s_parse d) h a b σ
    else s_X4_readPart (s_parse d) h a σ
theorem c_parse {E : E0} (hE : EOK E) : ∀ d : Nat, RCOK E d (s_parse d)
  | 0 => by
    refine ⟨?_, ?_, ?_, ?_⟩ <;> (intro h a b σ σ1 v q; exact absurd (show (none : Option (Int32 × Hp)) = some (v, σ1) from q) (by simp))
  | d + 1 => by
    refine ⟨?_, ?_, ?_, ?_⟩
    · intro h a b σ σ1 v q
      exact c_X4_readTest hE (c_parse hE d) (show s_X4_readTest (s_parse d) h a b σ = some (v, σ1) from q)
    · intro h a b σ σ1 v q
      exact c_X4_readPlain hE (c_parse hE d) (show s_X4_readPlain (s_parse d) h a σ = some (v, σ1) from q)
    · intro h a b σ σ1 v q
      exact c_X4_readSum hE (c_parse hE d) (show s_X4_readSum (s_parse d) h a b σ = some (v, σ1) from q)
    · intro h a b σ σ1 v q
      exact c_X4_readPart hE (c_parse hE d) (show s_X4_readPart (s_parse d) h a σ = some (v, σ1) from q)
