/-! ===== new int[N][K] in the pool; the two constructors that need it ===== -/
def mnC (N K : Nat) (σ : Hp) : Hp := (zn σ + 1 + N, fun a => if a = zn σ then 16 else if zn σ < a ∧ a < zn σ + 1 + N then 11 else zk σ a, fun a => if a = zn σ then N else if zn σ < a ∧ a < zn σ + 1 + N then K else zl σ a, fun a => if zn σ ≤ a ∧ a < zn σ + 1 + N then (fun _ => 0) else zi σ a, fun a => if zn σ ≤ a ∧ a < zn σ + 1 + N then (fun _ => 0) else zj σ a, fun a => if a = zn σ then (fun j => if j < N then some (zn σ + 1 + j) else none) else if zn σ < a ∧ a < zn σ + 1 + N then (fun _ => none) else zr σ a)
def mna (N K : Nat) (σ : Hp) : Option (Nat × Hp) := some (zn σ, mnC N K σ)
theorem cl_X2_15 : Cond.classLink RX2 15 ("[" ++ (FieldType.array FieldType.int).toString) ∈ TB := tb_2 9 (by decide +kernel) rfl
section GX
variable {E : E0} {X : X0} {cc : ByteArray} {own : String} {nL : Nat} {ret : Option FieldType} {rm : Room} {ca sa pc : Nat} {lm lm' : LM} {st : List TV} {σ σ' : Hp}
theorem mnC_old {B : Nat} {cy : Nat → ClassId} {N K b : Nat} (h : b < zn σ) : zE B cy (mnC N K σ) b = zE B cy σ b := by
  have h1 : b ≠ zn σ := Nat.ne_of_lt h
  have h2 : ¬ (zn σ < b ∧ b < zn σ + 1 + N) := by omega
  have h3 : ¬ (zn σ ≤ b ∧ b < zn σ + 1 + N) := by omega
  refine zE_congr ?_ ?_ ?_ ?_ ?_
  · show (if b = zn σ then 16 else if zn σ < b ∧ b < zn σ + 1 + N then 11 else zk σ b) = _
    rw [if_neg h1, if_neg h2]
  · show (if b = zn σ then N else if zn σ < b ∧ b < zn σ + 1 + N then K else zl σ b) = _
    rw [if_neg h1, if_neg h2]
  · show (if zn σ ≤ b ∧ b < zn σ + 1 + N then (fun _ => 0) else zi σ b) = _
    rw [if_neg h3]
  · show (if zn σ ≤ b ∧ b < zn σ + 1 + N then (fun _ => 0) else zj σ b) = _
    rw [if_neg h3]
  · show (if b = zn σ then _ else if zn σ < b ∧ b < zn σ + 1 + N then (fun _ => none) else zr σ b) = _
    rw [if_neg h1, if_neg h2]
theorem g_mna (C : XOK E X cc RX2 nL ret rm) {n k : Int32} {N K a : Nat} (hv : mna N K σ = some (a, σ')) (hn : ¬ n < 0) (hk : ¬ k < 0) (hN : n.toNatClampNeg = N) (hK : k.toNatClampNeg = K) (hb1 : N ≤ 65536) (hb2 : K ≤ 65536) (hcells : ca + (1 + N) ≤ rm.cells) (hslots : sa + (N + N * K) ≤ rm.slots) (hd : decode cc pc = .ok (.multianewarray 15 2, 4)) (kk : G E X (ca + 1 + N) (sa + N + N * K) (pc + 4) lm (tR (some a) :: st) σ') : G E X ca sa pc lm (tI k :: tI n :: st) σ := by
  have e := zsome (show some (zn σ, mnC N K σ) = some (a, σ') from hv)
  rw [← e.1, ← e.2] at kk
  intro ls H locs hl hw hS
  have hts := C.2.2.2.2.1
  have hRm := C.2.2.2.2.2.2.2.2.2.2
  refine wm_mna C.1 C.2.1 C.2.2.2.1 (hts _ cl_X2_15) (show (Cond.arrayOver (.array .int)).before _ _ = true from C.nest ao_I) (hts _ ac_int) hn hk hN hK hb1 hb2 (by rw [hRm]; exact hcells) (by rw [hRm]; exact hslots) hd hw.1 fun F cA cy h1 h2 z o f0 f1 => ?_
  have hcA : cA = eC E 16 := Option.some.inj (h1.symm.trans (C.kk.2 6 _ rfl).2)
  have hcy : cy = eC E 11 := Option.some.inj (h2.symm.trans (C.kk.2 1 _ rfl).2)
  subst hcA
  subst hcy
  refine kk ls F locs hl ⟨?_, fun x hx => ?_, fun i q hq => ?_⟩ (va_S_push hS (by rw [z, hw.1]; omega) (fun q hq => o q (by rw [← hw.1]; exact hq)))
  · rw [z]
    show _ = eB E + (zn σ + 1 + N)
    omega
  · have hx' : zn σ + 1 + N ≤ x := hx
    show 17 ≤ (if x = zn σ then 16 else if zn σ < x ∧ x < zn σ + 1 + N then 11 else zk σ x)
    rw [if_neg (by omega), if_neg (by omega)]
    exact hw.2.1 x (by omega)
  · obtain ⟨hi, rfl⟩ := zW_at hq
    have hi' : i < zn σ + 1 + N := hi
    rcases Nat.lt_or_ge i (zn σ) with q | q
    · have h9 := hw.2.2 i _ (zW_get (B := eB E) (cy := eC E) q)
      rw [mnC_old q]
      exact h9.kept (o _ (by omega))
    · by_cases hz : i = zn σ
      · subst hz
        have e16 : zk (mnC N K σ) (zn σ) = 16 := by
          show (if zn σ = zn σ then 16 else _) = 16
          rw [if_pos rfl]
        rw [zE_r e16 (by decide)]
        show F[eB E + zn σ]? = some (vp_cell _ _)
        rw [f0]
        have el : zl (mnC N K σ) (zn σ) = N := by
          show (if zn σ = zn σ then N else _) = N
          rw [if_pos rfl]
        have er : zr (mnC N K σ) (zn σ) = fun j => if j < N then some (zn σ + 1 + j) else none := by
          show (if zn σ = zn σ then _ else _) = _
          rw [if_pos rfl]
        rw [el, er, vp_cell_q]
        congr 2
        funext j
        show va_rf (if j < N then some (eB E + zn σ + 1 + j) else none) = va_rf ((if j < N then some (zn σ + 1 + j) else none).map (eB E + ·))
        by_cases hj : j < N
        · rw [if_pos hj, if_pos hj]
          show va_rf (some (eB E + zn σ + 1 + j)) = va_rf (some (eB E + (zn σ + 1 + j)))
          rw [show eB E + zn σ + 1 + j = eB E + (zn σ + 1 + j) by omega]
        · rw [if_neg hj, if_neg hj]
          rfl
      · obtain ⟨j, rfl⟩ : ∃ j, i = zn σ + 1 + j := ⟨i - zn σ - 1, by omega⟩
        have hj : j < N := by omega
        have c1 : ¬ zn σ + 1 + j = zn σ := by omega
        have c2 : zn σ < zn σ + 1 + j ∧ zn σ + 1 + j < zn σ + 1 + N := by omega
        have c3 : zn σ ≤ zn σ + 1 + j ∧ zn σ + 1 + j < zn σ + 1 + N := by omega
        have e11 : zk (mnC N K σ) (zn σ + 1 + j) = 11 := by
          show (if zn σ + 1 + j = zn σ then 16 else if zn σ < zn σ + 1 + j ∧ zn σ + 1 + j < zn σ + 1 + N then 11 else _) = 11
          rw [if_neg c1, if_pos c2]
        have el : zl (mnC N K σ) (zn σ + 1 + j) = K := by
          show (if zn σ + 1 + j = zn σ then N else if zn σ < zn σ + 1 + j ∧ zn σ + 1 + j < zn σ + 1 + N then K else _) = K
          rw [if_neg c1, if_pos c2]
        have ei : zi (mnC N K σ) (zn σ + 1 + j) = fun _ => 0 := by
          show (if zn σ ≤ zn σ + 1 + j ∧ zn σ + 1 + j < zn σ + 1 + N then (fun _ => 0) else _) = _
          rw [if_pos c3]
        rw [zE_i e11 (by decide), el, ei]
        show F[eB E + (zn σ + 1 + j)]? = some (vp_cell _ _)
        rw [vp_cell_i, show eB E + (zn σ + 1 + j) = eB E + zn σ + 1 + j by omega]
        exact f1 j hj
end GX
theorem cl_X2_15x : True := trivial
def rm_X2_init : Room := { frames := 1, cells := 10, slots := 367, locals := 20 }
noncomputable def s_X2_init (h0 : Nat) (σ : Hp) : Option (Unit × Hp) :=
  cb (nw 11 48 σ) fun a2 σ1 =>
  (wrR 2 σ1 h0 0 (some (a2))).bind fun σ3 =>
  cb (mna 3 61 σ3) fun a5 σ4 =>
  (wrR 2 σ4 h0 1 (some (a5))).bind fun σ6 =>
  cb (nw 11 10 σ6) fun a8 σ7 =>
  (wrR 2 σ7 h0 2 (some (a8))).bind fun σ9 =>
  cb (nw 11 48 σ9) fun a11 σ10 =>
  (wrR 2 σ10 h0 3 (some (a11))).bind fun σ12 =>
  cb (nw 11 49 σ12) fun a14 σ13 =>
  (wrR 2 σ13 h0 4 (some (a14))).bind fun σ15 =>
  cb (nw 11 6 σ15) fun a17 σ16 =>
  (wrR 2 σ16 h0 5 (some (a17))).bind fun σ18 =>
  cb (nw 12 20 σ18) fun a20 σ19 =>
  (wrR 2 σ19 h0 6 (some (a20))).bind fun σ21 =>
  some ((), σ21)
set_option maxRecDepth 100000 in
theorem c_X2_init {E : E0} (hE : EOK E) {h0 : Nat} {σ σ1 : Hp} {r : Unit} (h : s_X2_init h0 σ = some (r, σ1)) : CT E yX2_init (.code yX2_init cX2_init 1 none) rm_X2_init [tR (some (h0))] σ none σ1 := by
  refine CT.mk hE (by decide +kernel) (Nat.le_of_ble_eq_true rfl) [(0, tR (some (h0)))] rfl (fun X C hin hx hxn => ?_)
  have C : XOK E X cX2_init RX2 1 none rm_X2_init := C
  unfold s_X2_init at h
  refine g_aload_n (pc := 0) C 0 0 dX2_init_0 rfl rfl ?_
  refine g_objInit (pc := 1) C ml_X2_3 oi_1 oi_2 ⟨Nat.le_of_ble_eq_true rfl, Nat.le_of_ble_eq_true rfl⟩ (Nat.le_of_ble_eq_true rfl) dX2_init_1 ?_
  refine g_aload_n (pc := 4) C 0 0 dX2_init_4 rfl rfl ?_
  refine g_bipush (v := 48) (pc := 5) C dX2_init_5 (by decide) ?_
  obtain ⟨a2, σ1, hvσ1, h⟩ := zcb h
  refine g_newaI (N := 48) (pc := 7) C (by decide) (by decide) (by decide) ac_int (by decide) (by decide) dX2_init_7 ?_
  rw [← (nw_h hvσ1).2, ← (nw_h hvσ1).1]
  obtain ⟨σ3, hvσ3, h⟩ := zbind h
  refine g_putRF (N := 7) (pc := 9) C ⟨ck_2, rfl, tyX2_ok⟩ hvσ3 rfl fl_X2_9 rfl hin ⟨rfl, rfl⟩ dX2_init_9 ?_
  refine g_aload_n (pc := 12) C 0 0 dX2_init_12 rfl rfl ?_
  refine g_iconst (v := 3) (pc := 13) C dX2_init_13 (by decide) ?_
  refine g_bipush (v := 61) (pc := 14) C dX2_init_14 (by decide) ?_
  obtain ⟨a5, σ4, hvσ4, h⟩ := zcb h
  refine g_mna (N := 3) (K := 61) (pc := 16) C hvσ4 (by decide) (by decide) (by decide) (by decide) (by decide) (by decide) (Nat.le_of_ble_eq_true rfl) (Nat.le_of_ble_eq_true rfl) dX2_init_16 ?_
  obtain ⟨σ6, hvσ6, h⟩ := zbind h
  refine g_putRF (N := 7) (pc := 20) C ⟨ck_2, rfl, tyX2_ok⟩ hvσ6 rfl fl_X2_17 rfl hin ⟨rfl, rfl⟩ dX2_init_20 ?_
  refine g_aload_n (pc := 23) C 0 0 dX2_init_23 rfl rfl ?_
  refine g_bipush (v := 10) (pc := 24) C dX2_init_24 (by decide) ?_
  obtain ⟨a8, σ7, hvσ7, h⟩ := zcb h
  refine g_newaI (N := 10) (pc := 26) C (by decide) (by decide) (by decide) ac_int (by decide) (by decide) dX2_init_26 ?_
  rw [← (nw_h hvσ7).2, ← (nw_h hvσ7).1]
  obtain ⟨σ9, hvσ9, h⟩ := zbind h
  refine g_putRF (N := 7) (pc := 28) C ⟨ck_2, rfl, tyX2_ok⟩ hvσ9 rfl fl_X2_20 rfl hin ⟨rfl, rfl⟩ dX2_init_28 ?_
  refine g_aload_n (pc := 31) C 0 0 dX2_init_31 rfl rfl ?_
  refine g_bipush (v := 48) (pc := 32) C dX2_init_32 (by decide) ?_
  obtain ⟨a11, σ10, hvσ10, h⟩ := zcb h
  refine g_newaI (N := 48) (pc := 34) C (by decide) (by decide) (by decide) ac_int (by decide) (by decide) dX2_init_34 ?_
  rw [← (nw_h hvσ10).2, ← (nw_h hvσ10).1]
  obtain ⟨σ12, hvσ12, h⟩ := zbind h
  refine g_putRF (N := 7) (pc := 36) C ⟨ck_2, rfl, tyX2_ok⟩ hvσ12 rfl fl_X2_23 rfl hin ⟨rfl, rfl⟩ dX2_init_36 ?_
  refine g_aload_n (pc := 39) C 0 0 dX2_init_39 rfl rfl ?_
  refine g_bipush (v := 49) (pc := 40) C dX2_init_40 (by decide) ?_
  obtain ⟨a14, σ13, hvσ13, h⟩ := zcb h
  refine g_newaI (N := 49) (pc := 42) C (by decide) (by decide) (by decide) ac_int (by decide) (by decide) dX2_init_42 ?_
  rw [← (nw_h hvσ13).2, ← (nw_h hvσ13).1]
  obtain ⟨σ15, hvσ15, h⟩ := zbind h
  refine g_putRF (N := 7) (pc := 44) C ⟨ck_2, rfl, tyX2_ok⟩ hvσ15 rfl fl_X2_26 rfl hin ⟨rfl, rfl⟩ dX2_init_44 ?_
  refine g_aload_n (pc := 47) C 0 0 dX2_init_47 rfl rfl ?_
  refine g_bipush (v := 6) (pc := 48) C dX2_init_48 (by decide) ?_
  obtain ⟨a17, σ16, hvσ16, h⟩ := zcb h
  refine g_newaI (N := 6) (pc := 50) C (by decide) (by decide) (by decide) ac_int (by decide) (by decide) dX2_init_50 ?_
  rw [← (nw_h hvσ16).2, ← (nw_h hvσ16).1]
  obtain ⟨σ18, hvσ18, h⟩ := zbind h
  refine g_putRF (N := 7) (pc := 52) C ⟨ck_2, rfl, tyX2_ok⟩ hvσ18 rfl fl_X2_29 rfl hin ⟨rfl, rfl⟩ dX2_init_52 ?_
  refine g_aload_n (pc := 55) C 0 0 dX2_init_55 rfl rfl ?_
  refine g_bipush (v := 20) (pc := 56) C dX2_init_56 (by decide) ?_
  obtain ⟨a20, σ19, hvσ19, h⟩ := zcb h
  refine g_newaJ (N := 20) (pc := 58) C (by decide) (by decide) (by decide) ac_long (by decide) (by decide) dX2_init_58 ?_
  rw [← (nw_h hvσ19).2, ← (nw_h hvσ19).1]
  obtain ⟨σ21, hvσ21, h⟩ := zbind h
  refine g_putRF (N := 7) (pc := 60) C ⟨ck_2, rfl, tyX2_ok⟩ hvσ21 rfl fl_X2_32 rfl hin ⟨rfl, rfl⟩ dX2_init_60 ?_
  obtain ⟨rfl, rfl⟩ := zsome h
  exact g_vret (pc := 63) C rfl hx (by rw [hxn]; rfl) (by rw [hxn]; rfl) dX2_init_63
def rm_X8_init : Room := { frames := 3, cells := 124, slots := 4404, locals := 60 }
noncomputable def s_X8_init (h0 : Nat) (σ : Hp) : Option (Unit × Hp) :=
  cb (nw 1 0 σ) fun a2 σ1 =>
  (ck 1 σ1 a2).bind fun u3 =>
  cb (s_X1_init a2 σ1) fun v5 σ4 =>
  (wrR 8 σ4 h0 0 (some (a2))).bind fun σ6 =>
  cb (nw 1 0 σ6) fun a8 σ7 =>
  (ck 1 σ7 a8).bind fun u9 =>
  cb (s_X1_init a8 σ7) fun v11 σ10 =>
  (wrR 8 σ10 h0 1 (some (a8))).bind fun σ12 =>
  cb (nw 1 0 σ12) fun a14 σ13 =>
  (ck 1 σ13 a14).bind fun u15 =>
  cb (s_X1_init a14 σ13) fun v17 σ16 =>
  (wrR 8 σ16 h0 2 (some (a14))).bind fun σ18 =>
  cb (nw 14 2 σ18) fun a20 σ19 =>
  cb (nw 1 0 σ19) fun a22 σ21 =>
  (ck 1 σ21 a22).bind fun u23 =>
  cb (s_X1_init a22 σ21) fun v25 σ24 =>
  (stR 14 1 σ24 a20 (0) (some (a22))).bind fun σ26 =>
  cb (nw 1 0 σ26) fun a28 σ27 =>
  (ck 1 σ27 a28).bind fun u29 =>
  cb (s_X1_init a28 σ27) fun v31 σ30 =>
  (stR 14 1 σ30 a20 (1) (some (a28))).bind fun σ32 =>
  (wrR 8 σ32 h0 3 (some (a20))).bind fun σ33 =>
  cb (nw 13 2 σ33) fun a35 σ34 =>
  (wrR 8 σ34 h0 4 (some (a35))).bind fun σ36 =>
  cb (nw 6 0 σ36) fun a38 σ37 =>
  (ck 6 σ37 a38).bind fun u39 =>
  cb (s_X6_init a38 σ37) fun v41 σ40 =>
  (wrR 8 σ40 h0 5 (some (a38))).bind fun σ42 =>
  cb (nw 4 0 σ42) fun a44 σ43 =>
  (ck 4 σ43 a44).bind fun u45 =>
  cb (s_X4_init a44 σ43) fun v47 σ46 =>
  (wrR 8 σ46 h0 6 (some (a44))).bind fun σ48 =>
  cb (nw 5 0 σ48) fun a50 σ49 =>
  (ck 5 σ49 a50).bind fun u51 =>
  cb (s_X5_init a50 σ49) fun v53 σ52 =>
  (wrR 8 σ52 h0 7 (some (a50))).bind fun σ54 =>
  cb (nw 0 0 σ54) fun a56 σ55 =>
  (ck 0 σ55 a56).bind fun u57 =>
  cb (s_X0_init a56 σ55) fun v59 σ58 =>
  (wrR 8 σ58 h0 8 (some (a56))).bind fun σ60 =>
  cb (nw 0 0 σ60) fun a62 σ61 =>
  (ck 0 σ61 a62).bind fun u63 =>
  cb (s_X0_init a62 σ61) fun v65 σ64 =>
  (wrR 8 σ64 h0 9 (some (a62))).bind fun σ66 =>
  cb (nw 2 0 σ66) fun a68 σ67 =>
  (ck 2 σ67 a68).bind fun u69 =>
  cb (s_X2_init a68 σ67) fun v71 σ70 =>
  (wrR 8 σ70 h0 10 (some (a68))).bind fun σ72 =>
  cb (nw 11 5 σ72) fun a74 σ73 =>
  (wrR 8 σ73 h0 11 (some (a74))).bind fun σ75 =>
  (wrZ 8 σ75 h0 12 (0)).bind fun σ76 =>
  (wrI 8 σ76 h0 13 (0)).bind fun σ77 =>
  (wrI 8 σ77 h0 14 ((-1))).bind fun σ78 =>
  (wrI 8 σ78 h0 15 ((-1))).bind fun σ79 =>
  (wrI 8 σ79 h0 16 (0)).bind fun σ80 =>
  (wrI 8 σ80 h0 17 ((-1))).bind fun σ81 =>
  (wrI 8 σ81 h0 18 (0)).bind fun σ82 =>
  some ((), σ82)
set_option maxRecDepth 100000 in
theorem c_X8_init {E : E0} (hE : EOK E) {h0 : Nat} {σ σ1 : Hp} {r : Unit} (h : s_X8_init h0 σ = some (r, σ1)) : CT E yX8_init (.code yX8_init cX8_init 1 none) rm_X8_init [tR (some (h0))] σ none σ1 := by
  refine CT.mk hE (by decide +kernel) (Nat.le_of_ble_eq_true rfl) [(0, tR (some (h0)))] rfl (fun X C hin hx hxn => ?_)
  have C : XOK E X cX8_init RX8 1 none rm_X8_init := C
  unfold s_X8_init at h
  refine g_aload_n (pc := 0) C 0 0 dX8_init_0 rfl rfl ?_
  refine g_objInit (pc := 1) C ml_X8_3 oi_1 oi_2 ⟨Nat.le_of_ble_eq_true rfl, Nat.le_of_ble_eq_true rfl⟩ (Nat.le_of_ble_eq_true rfl) dX8_init_1 ?_
  refine g_aload_n (pc := 4) C 0 0 dX8_init_4 rfl rfl ?_
  obtain ⟨a2, σ1, hvσ1, h⟩ := zcb h
  refine g_new (c := 1) (N := 20) (pc := 5) C ck_1 tyX1 tyX1_ok df_1 cl_X8_9 in_X1 ii_X1 (by decide) (by decide) dX8_init_5 ?_
  rw [← (nw_h hvσ1).2, ← (nw_h hvσ1).1]
  refine g_dup (pc := 8) C dX8_init_8 rfl ?_
  obtain ⟨u3, hvu3, h⟩ := zbind h
  obtain ⟨v5, σ4, hvσ4, h⟩ := zcb h
  refine g_callIN (pc := 9) (av := []) C (c_X1_init hE hvσ4) yi_X1_init ml_X8_11 rfl (rf_of (by decide)) rfl (Nat.le_of_ble_eq_true rfl) dX8_init_9 ?_
  obtain ⟨σ6, hvσ6, h⟩ := zbind h
  refine g_putRF (N := 19) (pc := 12) C ⟨ck_8, rfl, tyX8_ok⟩ hvσ6 rfl fl_X8_12 rfl hin ⟨rfl, rfl⟩ dX8_init_12 ?_
  refine g_aload_n (pc := 15) C 0 0 dX8_init_15 rfl rfl ?_
  obtain ⟨a8, σ7, hvσ7, h⟩ := zcb h
  refine g_new (c := 1) (N := 20) (pc := 16) C ck_1 tyX1 tyX1_ok df_1 cl_X8_9 in_X1 ii_X1 (by decide) (by decide) dX8_init_16 ?_
  rw [← (nw_h hvσ7).2, ← (nw_h hvσ7).1]
  refine g_dup (pc := 19) C dX8_init_19 rfl ?_
  obtain ⟨u9, hvu9, h⟩ := zbind h
  obtain ⟨v11, σ10, hvσ10, h⟩ := zcb h
  refine g_callIN (pc := 20) (av := []) C (c_X1_init hE hvσ10) yi_X1_init ml_X8_11 rfl (rf_of (by decide)) rfl (Nat.le_of_ble_eq_true rfl) dX8_init_20 ?_
  obtain ⟨σ12, hvσ12, h⟩ := zbind h
  refine g_putRF (N := 19) (pc := 23) C ⟨ck_8, rfl, tyX8_ok⟩ hvσ12 rfl fl_X8_16 rfl hin ⟨rfl, rfl⟩ dX8_init_23 ?_
  refine g_aload_n (pc := 26) C 0 0 dX8_init_26 rfl rfl ?_
  obtain ⟨a14, σ13, hvσ13, h⟩ := zcb h
  refine g_new (c := 1) (N := 20) (pc := 27) C ck_1 tyX1 tyX1_ok df_1 cl_X8_9 in_X1 ii_X1 (by decide) (by decide) dX8_init_27 ?_
  rw [← (nw_h hvσ13).2, ← (nw_h hvσ13).1]
  refine g_dup (pc := 30) C dX8_init_30 rfl ?_
  obtain ⟨u15, hvu15, h⟩ := zbind h
  obtain ⟨v17, σ16, hvσ16, h⟩ := zcb h
  refine g_callIN (pc := 31) (av := []) C (c_X1_init hE hvσ16) yi_X1_init ml_X8_11 rfl (rf_of (by decide)) rfl (Nat.le_of_ble_eq_true rfl) dX8_init_31 ?_
  obtain ⟨σ18, hvσ18, h⟩ := zbind h
  refine g_putRF (N := 19) (pc := 34) C ⟨ck_8, rfl, tyX8_ok⟩ hvσ18 rfl fl_X8_19 rfl hin ⟨rfl, rfl⟩ dX8_init_34 ?_
  refine g_aload_n (pc := 37) C 0 0 dX8_init_37 rfl rfl ?_
  refine g_iconst (v := 2) (pc := 38) C dX8_init_38 (by decide) ?_
  obtain ⟨a20, σ19, hvσ19, h⟩ := zcb h
  refine g_newq14 (N := 2) (pc := 39) C (by decide) (by decide) (by decide) cl_X8_9 ao_X1 (by decide) (by decide) dX8_init_39 ?_
  rw [← (nw_h hvσ19).2, ← (nw_h hvσ19).1]
  refine g_dup (pc := 42) C dX8_init_42 rfl ?_
  refine g_iconst (v := 0) (pc := 43) C dX8_init_43 (by decide) ?_
  obtain ⟨a22, σ21, hvσ21, h⟩ := zcb h
  refine g_new (c := 1) (N := 20) (pc := 44) C ck_1 tyX1 tyX1_ok df_1 cl_X8_9 in_X1 ii_X1 (by decide) (by decide) dX8_init_44 ?_
  rw [← (nw_h hvσ21).2, ← (nw_h hvσ21).1]
  refine g_dup (pc := 47) C dX8_init_47 rfl ?_
  obtain ⟨u23, hvu23, h⟩ := zbind h
  obtain ⟨v25, σ24, hvσ24, h⟩ := zcb h
  refine g_callIN (pc := 48) (av := []) C (c_X1_init hE hvσ24) yi_X1_init ml_X8_11 rfl (rf_of (by decide)) rfl (Nat.le_of_ble_eq_true rfl) dX8_init_48 ?_
  obtain ⟨σ26, hvσ26, h⟩ := zbind h
  refine g_aast (c := 14) (e := 1) (pc := 51) C (by first | exact Or.inl ⟨rfl, rfl, rfl⟩ | exact Or.inr ⟨rfl, rfl, rfl⟩) hvσ26 dX8_init_51 ?_
  refine g_dup (pc := 52) C dX8_init_52 rfl ?_
  refine g_iconst (v := 1) (pc := 53) C dX8_init_53 (by decide) ?_
  obtain ⟨a28, σ27, hvσ27, h⟩ := zcb h
  refine g_new (c := 1) (N := 20) (pc := 54) C ck_1 tyX1 tyX1_ok df_1 cl_X8_9 in_X1 ii_X1 (by decide) (by decide) dX8_init_54 ?_
  rw [← (nw_h hvσ27).2, ← (nw_h hvσ27).1]
  refine g_dup (pc := 57) C dX8_init_57 rfl ?_
  obtain ⟨u29, hvu29, h⟩ := zbind h
  obtain ⟨v31, σ30, hvσ30, h⟩ := zcb h
  refine g_callIN (pc := 58) (av := []) C (c_X1_init hE hvσ30) yi_X1_init ml_X8_11 rfl (rf_of (by decide)) rfl (Nat.le_of_ble_eq_true rfl) dX8_init_58 ?_
  obtain ⟨σ32, hvσ32, h⟩ := zbind h
  refine g_aast (c := 14) (e := 1) (pc := 61) C (by first | exact Or.inl ⟨rfl, rfl, rfl⟩ | exact Or.inr ⟨rfl, rfl, rfl⟩) hvσ32 dX8_init_61 ?_
  obtain ⟨σ33, hvσ33, h⟩ := zbind h
  refine g_putRF (N := 19) (pc := 62) C ⟨ck_8, rfl, tyX8_ok⟩ hvσ33 rfl fl_X8_22 rfl hin ⟨rfl, rfl⟩ dX8_init_62 ?_
  refine g_aload_n (pc := 65) C 0 0 dX8_init_65 rfl rfl ?_
  refine g_iconst (v := 2) (pc := 66) C dX8_init_66 (by decide) ?_
  obtain ⟨a35, σ34, hvσ34, h⟩ := zcb h
  refine g_newaZ (N := 2) (pc := 67) C (by decide) (by decide) (by decide) ac_boolean (by decide) (by decide) dX8_init_67 ?_
  rw [← (nw_h hvσ34).2, ← (nw_h hvσ34).1]
  obtain ⟨σ36, hvσ36, h⟩ := zbind h
  refine g_putRF (N := 19) (pc := 69) C ⟨ck_8, rfl, tyX8_ok⟩ hvσ36 rfl fl_X8_26 rfl hin ⟨rfl, rfl⟩ dX8_init_69 ?_
  refine g_aload_n (pc := 72) C 0 0 dX8_init_72 rfl rfl ?_
  obtain ⟨a38, σ37, hvσ37, h⟩ := zcb h
  refine g_new (c := 6) (N := 2) (pc := 73) C ck_6 tyX6 tyX6_ok df_6 cl_X8_30 in_X6 ii_X6 (by decide) (by decide) dX8_init_73 ?_
  rw [← (nw_h hvσ37).2, ← (nw_h hvσ37).1]
  refine g_dup (pc := 76) C dX8_init_76 rfl ?_
  obtain ⟨u39, hvu39, h⟩ := zbind h
  obtain ⟨v41, σ40, hvσ40, h⟩ := zcb h
  refine g_callIN (pc := 77) (av := []) C (c_X6_init hE hvσ40) yi_X6_init ml_X8_32 rfl (rf_of (by decide)) rfl (Nat.le_of_ble_eq_true rfl) dX8_init_77 ?_
  obtain ⟨σ42, hvσ42, h⟩ := zbind h
  refine g_putRF (N := 19) (pc := 80) C ⟨ck_8, rfl, tyX8_ok⟩ hvσ42 rfl fl_X8_33 rfl hin ⟨rfl, rfl⟩ dX8_init_80 ?_
  refine g_aload_n (pc := 83) C 0 0 dX8_init_83 rfl rfl ?_
  obtain ⟨a44, σ43, hvσ43, h⟩ := zcb h
  refine g_new (c := 4) (N := 12) (pc := 84) C ck_4 tyX4 tyX4_ok df_4 cl_X8_37 in_X4 ii_X4 (by decide) (by decide) dX8_init_84 ?_
  rw [← (nw_h hvσ43).2, ← (nw_h hvσ43).1]
  refine g_dup (pc := 87) C dX8_init_87 rfl ?_
  obtain ⟨u45, hvu45, h⟩ := zbind h
  obtain ⟨v47, σ46, hvσ46, h⟩ := zcb h
  refine g_callIN (pc := 88) (av := []) C (c_X4_init hE hvσ46) yi_X4_init ml_X8_39 rfl (rf_of (by decide)) rfl (Nat.le_of_ble_eq_true rfl) dX8_init_88 ?_
  obtain ⟨σ48, hvσ48, h⟩ := zbind h
  refine g_putRF (N := 19) (pc := 91) C ⟨ck_8, rfl, tyX8_ok⟩ hvσ48 rfl fl_X8_40 rfl hin ⟨rfl, rfl⟩ dX8_init_91 ?_
  refine g_aload_n (pc := 94) C 0 0 dX8_init_94 rfl rfl ?_
  obtain ⟨a50, σ49, hvσ49, h⟩ := zcb h
  refine g_new (c := 5) (N := 2) (pc := 95) C ck_5 tyX5 tyX5_ok df_5 cl_X8_44 in_X5 ii_X5 (by decide) (by decide) dX8_init_95 ?_
  rw [← (nw_h hvσ49).2, ← (nw_h hvσ49).1]
  refine g_dup (pc := 98) C dX8_init_98 rfl ?_
  obtain ⟨u51, hvu51, h⟩ := zbind h
  obtain ⟨v53, σ52, hvσ52, h⟩ := zcb h
  refine g_callIN (pc := 99) (av := []) C (c_X5_init hE hvσ52) yi_X5_init ml_X8_46 rfl (rf_of (by decide)) rfl (Nat.le_of_ble_eq_true rfl) dX8_init_99 ?_
  obtain ⟨σ54, hvσ54, h⟩ := zbind h
  refine g_putRF (N := 19) (pc := 102) C ⟨ck_8, rfl, tyX8_ok⟩ hvσ54 rfl fl_X8_47 rfl hin ⟨rfl, rfl⟩ dX8_init_102 ?_
  refine g_aload_n (pc := 105) C 0 0 dX8_init_105 rfl rfl ?_
  obtain ⟨a56, σ55, hvσ55, h⟩ := zcb h
  refine g_new (c := 0) (N := 2) (pc := 106) C ck_0 tyX0 tyX0_ok df_0 cl_X8_51 in_X0 ii_X0 (by decide) (by decide) dX8_init_106 ?_
  rw [← (nw_h hvσ55).2, ← (nw_h hvσ55).1]
  refine g_dup (pc := 109) C dX8_init_109 rfl ?_
  obtain ⟨u57, hvu57, h⟩ := zbind h
  obtain ⟨v59, σ58, hvσ58, h⟩ := zcb h
  refine g_callIN (pc := 110) (av := []) C (c_X0_init hE hvσ58) yi_X0_init ml_X8_53 rfl (rf_of (by decide)) rfl (Nat.le_of_ble_eq_true rfl) dX8_init_110 ?_
  obtain ⟨σ60, hvσ60, h⟩ := zbind h
  refine g_putRF (N := 19) (pc := 113) C ⟨ck_8, rfl, tyX8_ok⟩ hvσ60 rfl fl_X8_54 rfl hin ⟨rfl, rfl⟩ dX8_init_113 ?_
  refine g_aload_n (pc := 116) C 0 0 dX8_init_116 rfl rfl ?_
  obtain ⟨a62, σ61, hvσ61, h⟩ := zcb h
  refine g_new (c := 0) (N := 2) (pc := 117) C ck_0 tyX0 tyX0_ok df_0 cl_X8_51 in_X0 ii_X0 (by decide) (by decide) dX8_init_117 ?_
  rw [← (nw_h hvσ61).2, ← (nw_h hvσ61).1]
  refine g_dup (pc := 120) C dX8_init_120 rfl ?_
  obtain ⟨u63, hvu63, h⟩ := zbind h
  obtain ⟨v65, σ64, hvσ64, h⟩ := zcb h
  refine g_callIN (pc := 121) (av := []) C (c_X0_init hE hvσ64) yi_X0_init ml_X8_53 rfl (rf_of (by decide)) rfl (Nat.le_of_ble_eq_true rfl) dX8_init_121 ?_
  obtain ⟨σ66, hvσ66, h⟩ := zbind h
  refine g_putRF (N := 19) (pc := 124) C ⟨ck_8, rfl, tyX8_ok⟩ hvσ66 rfl fl_X8_58 rfl hin ⟨rfl, rfl⟩ dX8_init_124 ?_
  refine g_aload_n (pc := 127) C 0 0 dX8_init_127 rfl rfl ?_
  obtain ⟨a68, σ67, hvσ67, h⟩ := zcb h
  refine g_new (c := 2) (N := 7) (pc := 128) C ck_2 tyX2 tyX2_ok df_2 cl_X8_61 in_X2 ii_X2 (by decide) (by decide) dX8_init_128 ?_
  rw [← (nw_h hvσ67).2, ← (nw_h hvσ67).1]
  refine g_dup (pc := 131) C dX8_init_131 rfl ?_
  obtain ⟨u69, hvu69, h⟩ := zbind h
  obtain ⟨v71, σ70, hvσ70, h⟩ := zcb h
  refine g_callIN (pc := 132) (av := []) C (c_X2_init hE hvσ70) yi_X2_init ml_X8_63 rfl (rf_of (by decide)) rfl (Nat.le_of_ble_eq_true rfl) dX8_init_132 ?_
  obtain ⟨σ72, hvσ72, h⟩ := zbind h
  refine g_putRF (N := 19) (pc := 135) C ⟨ck_8, rfl, tyX8_ok⟩ hvσ72 rfl fl_X8_64 rfl hin ⟨rfl, rfl⟩ dX8_init_135 ?_
  refine g_aload_n (pc := 138) C 0 0 dX8_init_138 rfl rfl ?_
  refine g_iconst (v := 5) (pc := 139) C dX8_init_139 (by decide) ?_
  obtain ⟨a74, σ73, hvσ73, h⟩ := zcb h
  refine g_newaI (N := 5) (pc := 140) C (by decide) (by decide) (by decide) ac_int (by decide) (by decide) dX8_init_140 ?_
  rw [← (nw_h hvσ73).2, ← (nw_h hvσ73).1]
  obtain ⟨σ75, hvσ75, h⟩ := zbind h
  refine g_putRF (N := 19) (pc := 142) C ⟨ck_8, rfl, tyX8_ok⟩ hvσ75 rfl fl_X8_68 rfl hin ⟨rfl, rfl⟩ dX8_init_142 ?_
  refine g_aload_n (pc := 145) C 0 0 dX8_init_145 rfl rfl ?_
  refine g_iconst (v := 0) (pc := 146) C dX8_init_146 (by decide) ?_
  obtain ⟨σ76, hvσ76, h⟩ := zbind h
  refine g_putZ (N := 19) (pc := 147) C ⟨ck_8, rfl, tyX8_ok⟩ hvσ76 rfl fl_X8_72 rfl rfl dX8_init_147 ?_
  refine g_aload_n (pc := 150) C 0 0 dX8_init_150 rfl rfl ?_
  refine g_iconst (v := 0) (pc := 151) C dX8_init_151 (by decide) ?_
  obtain ⟨σ77, hvσ77, h⟩ := zbind h
  refine g_putI (N := 19) (pc := 152) C ⟨ck_8, rfl, tyX8_ok⟩ hvσ77 rfl fl_X8_76 rfl rfl dX8_init_152 ?_
  refine g_aload_n (pc := 155) C 0 0 dX8_init_155 rfl rfl ?_
  refine g_iconst (v := (-1)) (pc := 156) C dX8_init_156 (by decide) ?_
  obtain ⟨σ78, hvσ78, h⟩ := zbind h
  refine g_putI (N := 19) (pc := 157) C ⟨ck_8, rfl, tyX8_ok⟩ hvσ78 rfl fl_X8_80 rfl rfl dX8_init_157 ?_
  refine g_aload_n (pc := 160) C 0 0 dX8_init_160 rfl rfl ?_
  refine g_iconst (v := (-1)) (pc := 161) C dX8_init_161 (by decide) ?_
  obtain ⟨σ79, hvσ79, h⟩ := zbind h
  refine g_putI (N := 19) (pc := 162) C ⟨ck_8, rfl, tyX8_ok⟩ hvσ79 rfl fl_X8_83 rfl rfl dX8_init_162 ?_
  refine g_aload_n (pc := 165) C 0 0 dX8_init_165 rfl rfl ?_
  refine g_iconst (v := 0) (pc := 166) C dX8_init_166 (by decide) ?_
  obtain ⟨σ80, hvσ80, h⟩ := zbind h
  refine g_putI (N := 19) (pc := 167) C ⟨ck_8, rfl, tyX8_ok⟩ hvσ80 rfl fl_X8_86 rfl rfl dX8_init_167 ?_
  refine g_aload_n (pc := 170) C 0 0 dX8_init_170 rfl rfl ?_
  refine g_iconst (v := (-1)) (pc := 171) C dX8_init_171 (by decide) ?_
  obtain ⟨σ81, hvσ81, h⟩ := zbind h
  refine g_putI (N := 19) (pc := 172) C ⟨ck_8, rfl, tyX8_ok⟩ hvσ81 rfl fl_X8_89 rfl rfl dX8_init_172 ?_
  refine g_aload_n (pc := 175) C 0 0 dX8_init_175 rfl rfl ?_
  refine g_iconst (v := 0) (pc := 176) C dX8_init_176 (by decide) ?_
  obtain ⟨σ82, hvσ82, h⟩ := zbind h
  refine g_putI (N := 19) (pc := 177) C ⟨ck_8, rfl, tyX8_ok⟩ hvσ82 rfl fl_X8_92 rfl rfl dX8_init_177 ?_
  obtain ⟨rfl, rfl⟩ := zsome h
  exact g_vret (pc := 180) C rfl hx (by rw [hxn]; rfl) (by rw [hxn]; rfl) dX8_init_180
