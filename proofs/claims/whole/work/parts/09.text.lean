/-! ===== the one text of the class: length and charAt, over the library's own methods ===== -/
theorem fs_compact : Cond.fieldLink RJ0 38 "java/lang/String" "COMPACT_STRINGS" "Z" ∈ TB := tb_3 118 (by decide +kernel) rfl
theorem fs_sio : Cond.fieldLink RJ0 1053 "jdk/internal/util/Preconditions" "SIOOBE_FORMATTER" "Ljava/util/function/BiFunction;" ∈ TB := tb_3 137 (by decide +kernel) rfl
theorem fs_value : Cond.fieldLink RJ0 9 "java/lang/String" "value" "[B" ∈ TB := tb_8 101 (by decide +kernel) rfl
theorem fs_coder : Cond.fieldLink RJ0 15 "java/lang/String" "coder" "B" ∈ TB := tb_8 102 (by decide +kernel) rfl
section GS
variable {E : E0} {X : X0} {cc : ByteArray} {own : String} {nL : Nat} {ret : Option FieldType} {rm : Room} {ca sa pc : Nat} {lm lm' : LM} {st : List TV} {σ σ' : Hp} {kS kV : Nat}
theorem XOK.se (C : XOK E X cc own nL ret rm) (hq : ∀ U : State, eV E U → SE (eB E) kS kV U) : SE (eB E) kS kV (xs X) := hq _ C.2.2.2.2.2.2.2.2.1
theorem g_ldcS (C : XOK E X cc RX4 nL ret rm) (hq : ∀ U : State, eV E U → SE (eB E) kS kV U) (hd : decode cc pc = .ok (.ldc 115, 2)) (kk : G E X ca sa (pc + 2) lm (tA kS :: st) σ) : G E X ca sa pc lm st σ := fun ls H locs hl hw hS => va_ldcS C.1 C.2.1 C.2.2.2.1 (C.se hq).1 hd (kk ls H locs hl hw hS)
theorem g_aloadA (C : XOK E X cc own nL ret rm) {k : Fin 4} {q : Nat} (i j : Nat) (hd : decode cc pc = .ok (.aload_n k, 1)) (hi : (k : Nat) = i) (hk : lm[j]? = some (i, tA q)) (kk : G E X ca sa (pc + 1) lm (tA q :: st) σ) : G E X ca sa pc lm st σ := fun ls H locs hl hw hS => lv_aload_n C.1 C.2.1 hd hi (lmv_at hl hk) (kk ls H locs hl hw hS)
theorem g_getVal (C : XOK E X cc RJ0 nL ret rm) (hq : ∀ U : State, eV E U → SE (eB E) kS kV U) (hd : decode cc pc = .ok (.getfield 9, 3)) (kk : G E X ca sa (pc + 3) lm (tA kV :: st) σ) : G E X ca sa pc lm (tA kS :: st) σ := fun ls H locs hl hw hS => vk_getf C.1 C.2.1 ((C.se hq).2.1.1 0 (by decide)).2.2.1 hS C.2.2.2.1 (C.2.2.2.2.1 _ fs_value) (fun _ h => h) hd (kk ls H locs hl hw hS)
theorem g_getCod (C : XOK E X cc RJ0 nL ret rm) (hq : ∀ U : State, eV E U → SE (eB E) kS kV U) (hd : decode cc pc = .ok (.getfield 15, 3)) (kk : G E X ca sa (pc + 3) lm (tI 0 :: st) σ) : G E X ca sa pc lm (tA kS :: st) σ := fun ls H locs hl hw hS => vk_getf C.1 C.2.1 ((C.se hq).2.1.1 0 (by decide)).2.1 hS C.2.2.2.1 (C.2.2.2.2.1 _ fs_coder) (fun _ h => h) hd (kk ls H locs hl hw hS)
theorem g_getCom (C : XOK E X cc RJ0 nL ret rm) (hq : ∀ U : State, eV E U → SE (eB E) kS kV U) (hd : decode cc pc = .ok (.getstatic 38, 3)) (kk : G E X ca sa (pc + 3) lm (tI 1 :: st) σ) : G E X ca sa pc lm st σ := fun ls H locs hl hw hS => va_gets C.1 C.2.1 (C.se hq).2.2.1 hS C.2.2.2.1 (C.2.2.2.2.1 _ fs_compact) (fun _ h => h) hd (kk ls H locs hl hw hS)
theorem g_getSio (C : XOK E X cc RJ0 nL ret rm) (hq : ∀ U : State, eV E U → SE (eB E) kS kV U) (hd : decode cc pc = .ok (.getstatic 1053, 3)) (k1 : G E X ca sa (pc + 3) lm (tR none :: st) σ) (k2 : ∀ t : Nat, G E X ca sa (pc + 3) lm (tA t :: st) σ) : G E X ca sa pc lm st σ := fun ls H locs hl hw hS => by
  rcases (C.se hq).2.2.2 with h | ⟨t, h⟩
  · exact va_gets C.1 C.2.1 h hS C.2.2.2.1 (C.2.2.2.2.1 _ fs_sio) (fun _ h => h) hd (k1 ls H locs hl hw hS)
  · exact va_gets C.1 C.2.1 h hS C.2.2.2.1 (C.2.2.2.2.1 _ fs_sio) (fun _ h => h) hd (k2 t ls H locs hl hw hS)
theorem g_alenS (C : XOK E X cc own nL ret rm) (hq : ∀ U : State, eV E U → SE (eB E) kS kV U) (hd : decode cc pc = .ok (.arraylength, 1)) (kk : G E X ca sa (pc + 1) lm (tI 168 :: st) σ) : G E X ca sa pc lm (tA kV :: st) σ := fun ls H locs hl hw hS => va_tlen (v := 168) C.1 C.2.1 ((C.se hq).2.1.1 0 (by decide)).2.2.2 hS rfl hd (kk ls H locs hl hw hS)
theorem g_baldS (C : XOK E X cc own nL ret rm) (hq : ∀ U : State, eV E U → SE (eB E) kS kV U) {i : Int32} (hin : inb i 168 = true) (hd : decode cc pc = .ok (.baload, 1)) (kk : G E X ca sa (pc + 1) lm (tI (wdB.getD i.toNatClampNeg 0) :: st) σ) : G E X ca sa pc lm (tI i :: tA kV :: st) σ := fun ls H locs hl hw hS => va_tb C.1 C.2.1 ((C.se hq).2.1.1 0 (by decide)).2.2.2 hS (inb_vp hin) rfl hd (kk ls H locs hl hw hS)
theorem g_i2c (C : XOK E X cc own nL ret rm) {x : Int32} (hd : decode cc pc = .ok (.i2c, 1)) (kk : G E X ca sa (pc + 1) lm (tI (x.toUInt32 % 65536).toInt32 :: st) σ) : G E X ca sa pc lm (tI x :: st) σ := fun ls H locs hl hw hS => lv_i2c C.1 C.2.1 hd rfl (kk ls H locs hl hw hS)
theorem g_nret (C : XOK E X cc own nL ret rm) {v : Int32} {ty : FieldType} (hr : ret = some ty) (hn : narrow ty (.int v) = .int v) (hx : xd X = (some (tI v), σ)) (hca : ca = (xn X).1) (hsa : sa = (xn X).2) (hd : decode cc pc = .ok (.ireturn, 1)) : G E X ca sa pc lm [tI v] σ := by
  intro ls H locs hl hw hS
  subst hca
  subst hsa
  exact W.zret (v := v) (ty := ty) C.1 C.2.1 (C.2.2.2.2.2.1.trans hr) hn (fun t ht hW => by rw [hx]; exact ⟨rfl, by rw [ht]; exact hw, hS.F ht⟩) hS.2.2 hd C.2.2.2.2.2.2.1
/-- a call on the text -/
theorem g_callA (C : XOK E X cc own nL ret rm) (hq : ∀ U : State, eV E U → SE (eB E) kS kV U) {y : MethodName} {bytes : ByteArray} {n0 n index : Nat} {ret0 : Option FieldType} {rmy : Room} {av : List TV} {rv : Option TV} {stk : List TV} (hyc : y.cls = "java/lang/String") (hM : CT E y (.code y bytes n0 ret0) rmy (tA kS :: av) σ rv σ') (hY : YV y bytes n0 ret0 n) (hw1 : Cond.methodLink own index y ∈ TB) (hn : av.length = n) (hR : RF rm rmy n0 ca sa) (hstk : stk = av.reverse ++ tA kS :: st) (h8 : (st.map tw).sum ≤ 8) (hd : decode cc pc = .ok (.invokevirtual index, 3)) (kk : G E X (ca + rmy.cells) (sa + rmy.slots) (pc + 3) lm (rv.toList ++ st) σ') : G E X ca sa pc lm stk σ := by
  subst hstk
  intro ls H locs hl hw hS
  have hts := C.2.2.2.2.1
  have hRm := C.2.2.2.2.2.2.2.2.2.2
  have hrec := vk_recv (C.se hq).2.1 (i := 0) (by decide) hS
  rw [← hyc] at hrec
  have cw : CallW (xR X) (xs X) (xa X) own y.cls index y bytes n0 ret0 (.code y bytes n0 ret0 :: TB) rmy rmy.cells rmy.slots n := ⟨callB_of n hts (C.good hY.1) rfl rfl rfl (hts _ hY.2.2.2.1) (hts _ hw1) ⟨hY.2.2.2.2.1, hY.2.2.2.2.2.1, hY.2.2.2.2.2.2⟩ (by rw [hRm]; exact ⟨hR.1, hR.2.1⟩), hts _ hY.2.1, hts _ hY.2.2.1⟩
  exact g_run (va_runV (As := av.map (tv (eB E))) (rest := st.map (tv (eB E))) (b := kS) ⟨C.1, C.2.1, rfl, C.2.2.2.1, hts⟩ hM cw ⟨C.blind, hrec, C.pre hw hS _⟩ rfl (by rw [List.length_map]; exact hn) hl.1 (by simp only [List.map_append, List.map_reverse, List.map_cons]; rfl) (lv_room (by rw [tw_sum]; exact h8)) hd (by rw [hRm]; exact hR.2.2)) hl hS kk
def rmS (n : Nat) : Room := { frames := n, cells := 0, slots := 0, locals := 30 * n }
theorem c_coder (hE : EOK E) (hq : ∀ U : State, eV E U → SE (eB E) kS kV U) {σ : Hp} : CT E yJ0_coder_7d493 (.code yJ0_coder_7d493 cJ0_coder_7d493 1 (some .byte)) (rmS 0) [tA kS] σ (some (tI 0)) σ := by
  refine CT.mk hE (by decide +kernel) (Nat.le_of_ble_eq_true rfl) [(0, tA kS)] rfl (fun X C hin hx hxn => ?_)
  have C : XOK E X cJ0_coder_7d493 RJ0 1 (some .byte) (rmS 0) := C
  refine g_getCom (pc := 0) C hq dJ0_coder_7d493_0 ?_
  refine g_if_eq (pc := 3) C 13 dJ0_coder_7d493_3 (by decide) (fun c => absurd c (by decide)) (fun _ => ?_)
  refine g_aloadA (pc := 6) C 0 0 dJ0_coder_7d493_6 rfl rfl ?_
  refine g_getCod (pc := 7) C hq dJ0_coder_7d493_7 ?_
  refine g_goto (pc := 10) C 14 dJ0_coder_7d493_10 (by decide) ?_
  exact g_nret (pc := 14) C rfl rfl hx (by rw [hxn]; rfl) (by rw [hxn]; rfl) dJ0_coder_7d493_14
theorem c_isLatin1 (hE : EOK E) (hq : ∀ U : State, eV E U → SE (eB E) kS kV U) {σ : Hp} : CT E yJ0_isLatin1_aae02 (.code yJ0_isLatin1_aae02 cJ0_isLatin1_aae02 1 (some .boolean)) (rmS 0) [tA kS] σ (some (tI 1)) σ := by
  refine CT.mk hE (by decide +kernel) (Nat.le_of_ble_eq_true rfl) [(0, tA kS)] rfl (fun X C hin hx hxn => ?_)
  have C : XOK E X cJ0_isLatin1_aae02 RJ0 1 (some .boolean) (rmS 0) := C
  refine g_getCom (pc := 0) C hq dJ0_isLatin1_aae02_0 ?_
  refine g_if_eq (pc := 3) C 17 dJ0_isLatin1_aae02_3 (by decide) (fun c => absurd c (by decide)) (fun _ => ?_)
  refine g_aloadA (pc := 6) C 0 0 dJ0_isLatin1_aae02_6 rfl rfl ?_
  refine g_getCod (pc := 7) C hq dJ0_isLatin1_aae02_7 ?_
  refine g_if_ne (pc := 10) C 17 dJ0_isLatin1_aae02_10 (by decide) (fun c => absurd rfl c) (fun _ => ?_)
  refine g_iconst (v := 1) (pc := 13) C dJ0_isLatin1_aae02_13 (by decide) ?_
  refine g_goto (pc := 14) C 18 dJ0_isLatin1_aae02_14 (by decide) ?_
  exact g_nret (pc := 18) C rfl rfl hx (by rw [hxn]; rfl) (by rw [hxn]; rfl) dJ0_isLatin1_aae02_18
theorem c_length (hE : EOK E) (hq : ∀ U : State, eV E U → SE (eB E) kS kV U) {σ : Hp} : CT E yJ0_length_8abf5 (.code yJ0_length_8abf5 cJ0_length_8abf5 1 (some .int)) (rmS 1) [tA kS] σ (some (tI 168)) σ := by
  refine CT.mk hE (by decide +kernel) (Nat.le_of_ble_eq_true rfl) [(0, tA kS)] rfl (fun X C hin hx hxn => ?_)
  have C : XOK E X cJ0_length_8abf5 RJ0 1 (some .int) (rmS 1) := C
  refine g_aloadA (pc := 0) C 0 0 dJ0_length_8abf5_0 rfl rfl ?_
  refine g_getVal (pc := 1) C hq dJ0_length_8abf5_1 ?_
  refine g_alenS (pc := 4) C hq dJ0_length_8abf5_4 ?_
  refine g_aloadA (pc := 5) C 0 0 dJ0_length_8abf5_5 rfl rfl ?_
  refine g_callA (pc := 6) (av := []) C hq rfl (c_coder hE hq) yv_J0_coder_7d493 ml_J0_335 rfl (rf_of (by decide)) rfl (Nat.le_of_ble_eq_true rfl) dJ0_length_8abf5_6 ?_
  refine g_ishr (pc := 9) C dJ0_length_8abf5_9 ?_
  exact g_iret (pc := 10) C rfl hx (by rw [hxn]; rfl) (by rw [hxn]; rfl) dJ0_length_8abf5_10
theorem c_chk3 (hE : EOK E) {i n : Int32} {f : TV} (hf : tw f = 1) {σ : Hp} (h0 : ¬ i < 0) (h1 : i < n) : CT E yJ3_checkIndex_8e157 (.code yJ3_checkIndex_8e157 cJ3_checkIndex_8e157 3 (some .int)) (rmS 0) [tI i, tI n, f] σ (some (tI i)) σ := by
  refine CT.mk hE (by decide +kernel) (by have e : (List.map tw [tI i, tI n, f]).sum = 1 + (1 + (tw f + 0)) := rfl; omega) [(0, tI i), (1, tI n), (2, f)] rfl (fun X C hin hx hxn => ?_)
  have C : XOK E X cJ3_checkIndex_8e157 RJ3 3 (some .int) (rmS 0) := C
  refine g_iload_n (pc := 0) C 0 0 dJ3_checkIndex_8e157_0 rfl rfl ?_
  refine g_if_lt (pc := 1) C 9 dJ3_checkIndex_8e157_1 (by decide) (fun c => absurd c h0) (fun _ => ?_)
  refine g_iload_n (pc := 4) C 0 0 dJ3_checkIndex_8e157_4 rfl rfl ?_
  refine g_iload_n (pc := 5) C 1 1 dJ3_checkIndex_8e157_5 rfl rfl ?_
  refine g_icmp_lt (pc := 6) C 16 dJ3_checkIndex_8e157_6 (by decide) (fun _ => ?_) (fun c => absurd h1 c)
  refine g_iload_n (pc := 16) C 0 0 dJ3_checkIndex_8e157_16 rfl rfl ?_
  exact g_iret (pc := 17) C rfl hx (by rw [hxn]; rfl) (by rw [hxn]; rfl) dJ3_checkIndex_8e157_17
theorem c_chk0 (hE : EOK E) (hq : ∀ U : State, eV E U → SE (eB E) kS kV U) {i n : Int32} {σ : Hp} (h0 : ¬ i < 0) (h1 : i < n) : CT E yJ0_checkIndex_df160 (.code yJ0_checkIndex_df160 cJ0_checkIndex_df160 2 none) (rmS 1) [tI i, tI n] σ none σ := by
  refine CT.mk hE (by decide +kernel) (Nat.le_of_ble_eq_true rfl) [(0, tI i), (1, tI n)] rfl (fun X C hin hx hxn => ?_)
  have C : XOK E X cJ0_checkIndex_df160 RJ0 2 none (rmS 1) := C
  refine g_iload_n (pc := 0) C 0 0 dJ0_checkIndex_df160_0 rfl rfl ?_
  refine g_iload_n (pc := 1) C 1 1 dJ0_checkIndex_df160_1 rfl rfl ?_
  refine g_getSio (pc := 2) C hq dJ0_checkIndex_df160_2 ?_ (fun t => ?_)
  · refine g_callS (pc := 5) (av := [tI i, tI n, tR none]) C (c_chk3 hE rfl h0 h1) ys_J3_checkIndex_8e157 ml_J0_1059 rfl (rf_of (by decide)) rfl (Nat.le_of_ble_eq_true rfl) dJ0_checkIndex_df160_5 ?_
    refine g_pop (pc := 8) C dJ0_checkIndex_df160_8 rfl ?_
    exact g_vret (pc := 9) C rfl hx (by rw [hxn]; rfl) (by rw [hxn]; rfl) dJ0_checkIndex_df160_9
  · refine g_callS (pc := 5) (av := [tI i, tI n, tA t]) C (c_chk3 hE rfl h0 h1) ys_J3_checkIndex_8e157 ml_J0_1059 rfl (rf_of (by decide)) rfl (Nat.le_of_ble_eq_true rfl) dJ0_checkIndex_df160_5 ?_
    refine g_pop (pc := 8) C dJ0_checkIndex_df160_8 rfl ?_
    exact g_vret (pc := 9) C rfl hx (by rw [hxn]; rfl) (by rw [hxn]; rfl) dJ0_checkIndex_df160_9
/-- the sign at a place of the text -/
def wdC (i : Int32) : Int32 := ((wdB.getD i.toNatClampNeg 0 &&& 255).toUInt32 % 65536).toInt32
theorem c_chL (hE : EOK E) (hq : ∀ U : State, eV E U → SE (eB E) kS kV U) {i : Int32} {σ : Hp} (h : inb i 168 = true) (h1 : i < 168) : CT E yJ1_charAt_3b067 (.code yJ1_charAt_3b067 cJ1_charAt_3b067 2 (some .char)) (rmS 2) [tA kV, tI i] σ (some (tI (wdC i))) σ := by
  refine CT.mk hE (by decide +kernel) (Nat.le_of_ble_eq_true rfl) [(0, tA kV), (1, tI i)] rfl (fun X C hin hx hxn => ?_)
  have C : XOK E X cJ1_charAt_3b067 RJ1 2 (some .char) (rmS 2) := C
  have h0 : ¬ i < 0 := fun q => inb_vp h (Or.inl q)
  refine g_iload_n (pc := 0) C 1 1 dJ1_charAt_3b067_0 rfl rfl ?_
  refine g_aloadA (pc := 1) C 0 0 dJ1_charAt_3b067_1 rfl rfl ?_
  refine g_alenS (pc := 2) C hq dJ1_charAt_3b067_2 ?_
  refine g_callS (pc := 3) (av := [tI i, tI 168]) C (c_chk0 hE hq h0 h1) ys_J0_checkIndex_df160 ml_J1_9 rfl (rf_of (by decide)) rfl (Nat.le_of_ble_eq_true rfl) dJ1_charAt_3b067_3 ?_
  refine g_aloadA (pc := 6) C 0 0 dJ1_charAt_3b067_6 rfl rfl ?_
  refine g_iload_n (pc := 7) C 1 1 dJ1_charAt_3b067_7 rfl rfl ?_
  refine g_baldS (pc := 8) C hq h dJ1_charAt_3b067_8 ?_
  refine g_sipush (v := 255) (pc := 9) C dJ1_charAt_3b067_9 (by decide) ?_
  refine g_iand (pc := 12) C dJ1_charAt_3b067_12 ?_
  refine g_i2c (pc := 13) C dJ1_charAt_3b067_13 ?_
  exact g_nret (pc := 14) C rfl (pk_nc _) hx (by rw [hxn]; rfl) (by rw [hxn]; rfl) dJ1_charAt_3b067_14
theorem c_charAt (hE : EOK E) (hq : ∀ U : State, eV E U → SE (eB E) kS kV U) {i : Int32} {σ : Hp} (h : inb i 168 = true) (h1 : i < 168) : CT E yJ0_charAt_5068e (.code yJ0_charAt_5068e cJ0_charAt_5068e 2 (some .char)) (rmS 3) [tA kS, tI i] σ (some (tI (wdC i))) σ := by
  refine CT.mk hE (by decide +kernel) (Nat.le_of_ble_eq_true rfl) [(0, tA kS), (1, tI i)] rfl (fun X C hin hx hxn => ?_)
  have C : XOK E X cJ0_charAt_5068e RJ0 2 (some .char) (rmS 3) := C
  refine g_aloadA (pc := 0) C 0 0 dJ0_charAt_5068e_0 rfl rfl ?_
  refine g_callA (pc := 1) (av := []) C hq rfl (c_isLatin1 hE hq) yv_J0_isLatin1_aae02 ml_J0_492 rfl (rf_of (by decide)) rfl (Nat.le_of_ble_eq_true rfl) dJ0_charAt_5068e_1 ?_
  refine g_if_eq (pc := 4) C 16 dJ0_charAt_5068e_4 (by decide) (fun c => absurd c (by decide)) (fun _ => ?_)
  refine g_aloadA (pc := 7) C 0 0 dJ0_charAt_5068e_7 rfl rfl ?_
  refine g_getVal (pc := 8) C hq dJ0_charAt_5068e_8 ?_
  refine g_iload_n (pc := 11) C 1 1 dJ0_charAt_5068e_11 rfl rfl ?_
  refine g_callS (pc := 12) (av := [tA kV, tI i]) C (c_chL hE hq h h1) ys_J1_charAt_3b067 ml_J0_495 rfl (rf_of (by decide)) rfl (Nat.le_of_ble_eq_true rfl) dJ0_charAt_5068e_12 ?_
  exact g_nret (pc := 15) C rfl (pk_nc _) hx (by rw [hxn]; rfl) (by rw [hxn]; rfl) dJ0_charAt_5068e_15
end GS
