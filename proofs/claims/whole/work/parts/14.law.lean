/-! ===== the law: one turn of its loop ===== -/
/-- what one turn does to the heap: both calls, the same answer -/
def SO (c a1 a2 a3 a4 a5 : Int32) (σ σ2 : Hp) : Prop :=
  if c = 0 then ∃ r σ1, s_X8_perch 0 a1 a2 σ = some (r, σ1) ∧ s_X9_perch 125 a1 a2 σ1 = some (r, σ2) ∧ zk σ1 125 = 9 else
  if c = 1 then ∃ r σ1, s_X8_at 0 a1 a2 σ = some (r, σ1) ∧ s_X9_at 125 a1 a2 σ1 = some (r, σ2) ∧ zk σ1 125 = 9 else
  if c = 2 then ∃ r σ1, s_X8_folk 0 a1 a2 σ = some (r, σ1) ∧ s_X9_folk 125 a1 a2 σ1 = some (r, σ2) ∧ zk σ1 125 = 9 else
  if c = 3 then ∃ r σ1, s_X8_of 0 a1 a2 σ = some (r, σ1) ∧ s_X9_of 125 a1 a2 σ1 = some (r, σ2) ∧ zk σ1 125 = 9 else
  if c = 4 then ∃ r σ1, s_X8_badger 0 a1 σ = some (r, σ1) ∧ s_X9_badger 125 a1 σ1 = some (r, σ2) ∧ zk σ1 125 = 9 else
  if c = 5 then ∃ r σ1, s_X8_sow 0 a1 a2 σ = some (r, σ1) ∧ s_X9_sow 125 a1 a2 σ1 = some (r, σ2) ∧ zk σ1 125 = 9 else
  if c = 6 then ∃ r σ1, s_X8_thing 0 a1 a2 a3 σ = some (r, σ1) ∧ s_X9_thing 125 a1 a2 a3 σ1 = some (r, σ2) ∧ zk σ1 125 = 9 else
  if c = 7 then ∃ r σ1, s_X8_has 0 a1 a2 σ = some (r, σ1) ∧ s_X9_has 125 a1 a2 σ1 = some (r, σ2) ∧ zk σ1 125 = 9 else
  if c = 8 then ∃ r σ1, s_X8_link 0 a1 a2 a3 σ = some (r, σ1) ∧ s_X9_link 125 a1 a2 a3 σ1 = some (r, σ2) ∧ zk σ1 125 = 9 else
  if c = 9 then ∃ r σ1, s_X8_room 0 a1 a2 σ = some (r, σ1) ∧ s_X9_room 125 a1 a2 σ1 = some (r, σ2) ∧ zk σ1 125 = 9 else
  if c = 10 then ∃ r σ1, s_X8_can 0 a1 a2 σ = some (r, σ1) ∧ s_X9_can 125 a1 a2 σ1 = some (r, σ2) ∧ zk σ1 125 = 9 else
  if c = 11 then ∃ r σ1, s_X8_terms 0 a1 a2 σ = some (r, σ1) ∧ s_X9_terms 125 a1 a2 σ1 = some (r, σ2) ∧ zk σ1 125 = 9 else
  if c = 12 then ∃ r σ1, s_X8_feed 0 a1 a2 a3 a4 a5 σ = some (r, σ1) ∧ s_X9_feed 125 a1 a2 a3 a4 a5 σ1 = some (r, σ2) ∧ zk σ1 125 = 9 else
  if c = 13 then ∃ r σ1, s_X8_end 0 a1 σ = some (r, σ1) ∧ s_X9_end 125 a1 σ1 = some (r, σ2) ∧ zk σ1 125 = 9 else
  if c = 14 then ∃ r σ1, s_X8_row 0  σ = some (r, σ1) ∧ s_X9_row 125  σ1 = some (r, σ2) ∧ zk σ1 125 = 9 else
  if c = 15 then ∃ r σ1, s_X8_scratches 0  σ = some (r, σ1) ∧ s_X9_scratches 125  σ1 = some (r, σ2) ∧ zk σ1 125 = 9 else
  if c = 16 then ∃ r σ1, s_X8_law 0  σ = some (r, σ1) ∧ s_X9_law 125  σ1 = some (r, σ2) ∧ zk σ1 125 = 9 else
  if c = 17 then ∃ r σ1, s_X8_orders 0  σ = some (r, σ1) ∧ s_X9_orders 125  σ1 = some (r, σ2) ∧ zk σ1 125 = 9 else
  if c = 18 then ∃ r σ1, s_X8_fault 0  σ = some (r, σ1) ∧ s_X9_fault 125  σ1 = some (r, σ2) ∧ zk σ1 125 = 9 else
  if c = 19 then ∃ r σ1, s_X8_stopped 0  σ = some (r, σ1) ∧ s_X9_stopped 125  σ1 = some (r, σ2) ∧ zk σ1 125 = 9 else
  if c = 20 then ∃ r σ1, s_X8_force 0 a1 σ = some (r, σ1) ∧ s_X9_force 125 a1 σ1 = some (r, σ2) ∧ zk σ1 125 = 9 else
  if c = 21 then ∃ r σ1, s_X8_stride 0 a1 a2 σ = some (r, σ1) ∧ s_X9_stride 125 a1 a2 σ1 = some (r, σ2) ∧ zk σ1 125 = 9 else
  if c = 22 then ∃ r σ1, s_X8_put 0 a1 a2 σ = some (r, σ1) ∧ s_X9_put 125 a1 a2 σ1 = some (r, σ2) ∧ zk σ1 125 = 9 else
  if c = 23 then ∃ r σ1, s_X8_door 0 a1 a2 σ = some (r, σ1) ∧ s_X9_door 125 a1 a2 σ1 = some (r, σ2) ∧ zk σ1 125 = 9 else
  if c = 24 then ∃ r σ1, s_X8_pass 0  σ = some (r, σ1) ∧ s_X9_pass 125  σ1 = some (r, σ2) ∧ zk σ1 125 = 9 else
  if c = 25 then ∃ r σ1, s_X8_undo 0  σ = some (r, σ1) ∧ s_X9_undo 125  σ1 = some (r, σ2) ∧ zk σ1 125 = 9 else
  if c = 26 then ∃ r σ1, s_X8_soonest 0 a1 a2 a3 σ = some (r, σ1) ∧ s_X9_soonest 125 a1 a2 a3 σ1 = some (r, σ2) ∧ zk σ1 125 = 9 else
  if c = 27 then ∃ r σ1, s_X8_near 0 a1 a2 σ = some (r, σ1) ∧ s_X9_near 125 a1 a2 σ1 = some (r, σ2) ∧ zk σ1 125 = 9 else
  if c = 28 then ∃ r σ1, s_X8_cut 0 a1 a2 a3 σ = some (r, σ1) ∧ s_X9_cut 125 a1 a2 a3 σ1 = some (r, σ2) ∧ zk σ1 125 = 9 else
  if c = 29 then ∃ r σ1, s_X8_roost 0 a1 σ = some (r, σ1) ∧ s_X9_roost 125 a1 σ1 = some (r, σ2) ∧ zk σ1 125 = 9 else
  if c = 30 then ∃ r σ1, s_X8_where 0 a1 a2 σ = some (r, σ1) ∧ s_X9_where 125 a1 a2 σ1 = some (r, σ2) ∧ zk σ1 125 = 9 else
  if c = 31 then ∃ r σ1, s_X8_meeting 0 a1 a2 σ = some (r, σ1) ∧ s_X9_meeting 125 a1 a2 σ1 = some (r, σ2) ∧ zk σ1 125 = 9 else
  if c = 32 then ∃ r σ1, s_X8_free 0 a1 σ = some (r, σ1) ∧ s_X9_free 125 a1 σ1 = some (r, σ2) ∧ zk σ1 125 = 9 else
  if c = 33 then ∃ r σ1, s_X8_shares 0 a1 σ = some (r, σ1) ∧ s_X9_shares 125 a1 σ1 = some (r, σ2) ∧ zk σ1 125 = 9 else
  if c = 34 then ∃ r σ1, s_X8_low 0 a1 σ = some (r, σ1) ∧ s_X9_low 125 a1 σ1 = some (r, σ2) ∧ zk σ1 125 = 9 else
  if c = 35 then ∃ r σ1, s_X8_seen 0 a1 a2 σ = some (r, σ1) ∧ s_X9_seen 125 a1 a2 σ1 = some (r, σ2) ∧ zk σ1 125 = 9 else
  if c = 36 then ∃ r σ1, s_X8_forget 0  σ = some (r, σ1) ∧ s_X9_forget 125  σ1 = some (r, σ2) ∧ zk σ1 125 = 9 else
  if c = 37 then ∃ r σ1, s_X8_canBe 0  σ = some (r, σ1) ∧ s_X9_canBe 125  σ1 = some (r, σ2) ∧ zk σ1 125 = 9 else
  if c = 38 then ∃ r σ1, s_X8_look 0 a1 σ = some (r, σ1) ∧ s_X9_look 125 a1 σ1 = some (r, σ2) ∧ zk σ1 125 = 9 else
  if c = 39 then ∃ r σ1, s_X8_few 0 a1 a2 σ = some (r, σ1) ∧ s_X9_few 125 a1 a2 σ1 = some (r, σ2) ∧ zk σ1 125 = 9 else
  if c = 40 then ∃ r σ1, s_X8_compare 0 a1 a2 σ = some (r, σ1) ∧ s_X9_compare 125 a1 a2 σ1 = some (r, σ2) ∧ zk σ1 125 = 9 else
  if c = 41 then ∃ r σ1, s_X8_dusks 0 a1 a2 σ = some (r, σ1) ∧ s_X9_dusks 125 a1 a2 σ1 = some (r, σ2) ∧ zk σ1 125 = 9 else
  if c = 42 then ∃ r σ1, s_X8_drawn 0 a1 a2 σ = some (r, σ1) ∧ s_X9_drawn 125 a1 a2 σ1 = some (r, σ2) ∧ zk σ1 125 = 9 else
  if c = 43 then ∃ r σ1, s_X8_image 0 a1 σ = some (r, σ1) ∧ s_X9_image 125 a1 σ1 = some (r, σ2) ∧ zk σ1 125 = 9 else
  if c = 44 then ∃ r σ1, s_X8_back 0 a1 σ = some (r, σ1) ∧ s_X9_back 125 a1 σ1 = some (r, σ2) ∧ zk σ1 125 = 9 else
  if c = 45 then ∃ r σ1, s_X8_count 0 a1 σ = some (r, σ1) ∧ s_X9_count 125 a1 σ1 = some (r, σ2) ∧ zk σ1 125 = 9 else
  if c = 46 then ∃ r σ1, s_X8_status 0  σ = some (r, σ1) ∧ s_X9_status 125  σ1 = some (r, σ2) ∧ zk σ1 125 = 9 else
  σ2 = σ
theorem lg_self (x : Int64) : lg_cmp x x = 0 := by
  unfold lg_cmp
  simp
theorem zsp_t {c : Prop} [Decidable c] {a b : Prop} (hc : c) (h : if c then a else b) : a := by
  rw [if_pos hc] at h
  exact h
theorem zsp_f {c : Prop} [Decidable c] {a b : Prop} (hc : ¬ c) (h : if c then a else b) : b := by
  rw [if_neg hc] at h
  exact h
theorem law_sub {L : Nat} (hL : L ≤ 3072) : (nI L - 6).toInt = (L : Int) - 6 := by
  have h : (nI L - nI 6).toInt = (L : Int) - (6 : Nat) := pk_sub_toInt (by omega) (by omega)
  exact h
theorem law_gt {i L : Nat} (hL : L ≤ 3072) (hi : i ≤ 3072) (h : L < i + 6) : nI L - 6 < nI i := by
  rw [Int32.lt_iff_toInt_lt, law_sub hL, nI_toInt (by omega)]
  omega
theorem law_ngt {i L : Nat} (hL : L ≤ 3072) (h : i + 6 ≤ L) : ¬ nI L - 6 < nI i := by
  rw [Int32.lt_iff_toInt_lt, law_sub hL, nI_toInt (by omega)]
  omega
section GL
variable {E : E0} {X : X0} {ret : Option FieldType} {rm : Room} {ca sa pc : Nat} {lm : LM} {st : List TV} {σ σ' : Hp} {b L : Nat} {xv : Nat → Int32}
/-- the script lies below the pool -/
def SC (E : E0) (X : X0) (b L : Nat) (xv : Nat → Int32) : Prop := va_X b L xv (xs X) (xs X).heap ∧ b < (xs X).heap.size ∧ b < eB E ∧ L ≤ 3072
theorem g_aloadB {cc : ByteArray} {own : String} {nL : Nat} (C : XOK E X cc own nL ret rm) {q : Nat} (hd : decode cc pc = .ok (.aload_n 0, 1)) (hk : lm[0]? = some (0, tA q)) (kk : G E X ca sa (pc + 1) lm (tA q :: st) σ) : G E X ca sa pc lm st σ := g_aloadA C 0 0 hd rfl hk kk
theorem g_sld {cc : ByteArray} {own : String} {nL : Nat} (C : XOK E X cc own nL ret rm) (hs : SC E X b L xv) {i k : Nat} {x : Int32} (hx : x = nI k) (hi : i + k < L) (hd : decode cc pc = .ok (.iaload, 1)) (kk : G E X ca sa (pc + 1) lm (tI (xv (i + k)) :: st) σ) : G E X ca sa pc lm (tI (nI i + x) :: tA b :: st) σ := by
  intro ls H locs hl hw hS
  obtain ⟨h1, h2, h3, h4⟩ := hs
  subst hx
  have e1 : nI i + nI k = nI (i + k) := nI_add i k
  have e2 : (nI (i + k)).toNatClampNeg = i + k := nI_clamp (by omega)
  have kk2 := kk ls H locs hl hw hS
  have := va_sld (i := nI (i + k)) C.1 C.2.1 h1 h2 (Nat.not_le.mpr h3) hS (vp_in_nI hi (by omega)) hd (by rw [e2]; exact kk2)
  show W _ _ _ _ _ _ _ _ _ _ _ _ _ _ _ (F0 _ _ _ (.int (nI i + nI k) :: .ref b :: st.map (tv (eB E))))
  rw [e1]
  exact this
theorem g_sld0 {cc : ByteArray} {own : String} {nL : Nat} (C : XOK E X cc own nL ret rm) (hs : SC E X b L xv) {i : Nat} (hi : i < L) (hd : decode cc pc = .ok (.iaload, 1)) (kk : G E X ca sa (pc + 1) lm (tI (xv i) :: st) σ) : G E X ca sa pc lm (tI (nI i) :: tA b :: st) σ := by
  intro ls H locs hl hw hS
  obtain ⟨h1, h2, h3, h4⟩ := hs
  have e2 : (nI i).toNatClampNeg = i := nI_clamp (by omega)
  have kk2 := kk ls H locs hl hw hS
  exact va_sld (i := nI i) C.1 C.2.1 h1 h2 (Nat.not_le.mpr h3) hS (vp_in_nI hi (by omega)) hd (by rw [e2]; exact kk2)
theorem g_slen {cc : ByteArray} {own : String} {nL : Nat} (C : XOK E X cc own nL ret rm) (hs : SC E X b L xv) (hd : decode cc pc = .ok (.arraylength, 1)) (kk : G E X ca sa (pc + 1) lm (tI (nI L) :: st) σ) : G E X ca sa pc lm (tA b :: st) σ := by
  intro ls H locs hl hw hS
  obtain ⟨h1, h2, h3, h4⟩ := hs
  exact va_slen C.1 C.2.1 h1 h2 (Nat.not_le.mpr h3) hS hd (kk ls H locs hl hw hS)
/-- the room that a turn leaves -/
def LRm (ca sa : Nat) : Prop := ca + 3 ≤ 600000 ∧ sa + 1203 ≤ 7302250
theorem rf_law {rmy : Room} {n0 : Nat} (hc : LRm ca sa) (h1 : Nat.ble (rmy.frames + 1) 2048 = true) (h2 : Nat.ble (8 + (n0 + 11) + rmy.locals) 84000 = true) (h3 : Nat.ble rmy.cells 3 = true) (h4 : Nat.ble rmy.slots 1203 = true) : RF room_1 rmy n0 ca sa := ⟨Nat.le_of_ble_eq_true h1, Nat.le_of_ble_eq_true h2, by show ca + rmy.cells ≤ 600000; have := Nat.le_of_ble_eq_true h3; have := hc.1; omega, by show sa + rmy.slots ≤ 7302250; have := Nat.le_of_ble_eq_true h4; have := hc.2; omega⟩
theorem rf_law2 {rmy : Room} {n0 : Nat} (hc : LRm ca sa) (h1 : Nat.ble (rmy.frames + 1) 2048 = true) (h2 : Nat.ble (8 + (n0 + 11) + rmy.locals) 84000 = true) (h3 : Nat.beq rmy.cells 0 = true) (h4 : Nat.beq rmy.slots 0 = true) : RF room_1 rmy n0 (ca + 3) (sa + 1203) := ⟨Nat.le_of_ble_eq_true h1, Nat.le_of_ble_eq_true h2, by show ca + 3 + rmy.cells ≤ 600000; have := Nat.eq_of_beq_eq_true h3; have := hc.1; omega, by show sa + 1203 + rmy.slots ≤ 7302250; have := Nat.eq_of_beq_eq_true h4; have := hc.2; omega⟩
set_option maxRecDepth 100000 in
theorem w_law_0 (hE : EOK E) (C : XOK E X cL_law RL 4 (some .boolean) room_1) (hs : SC E X b L xv) {i : Nat} (hi : i + 6 ≤ L) (hc : LRm ca sa) {σ2 σ1 : Hp} {r : Int32} (h8 : zk σ 0 = 8) (h1 : s_X8_perch 0 (xv (i + 1)) (xv (i + 2)) σ = some (r, σ1)) (h2 : s_X9_perch 125 (xv (i + 1)) (xv (i + 2)) σ1 = some (r, σ2)) (h9 : zk σ1 125 = 9) (kk : G E X (ca + 3) (sa + 1203) 1528 [(0, tA b), (1, tR (some 0)), (2, tR (some 125)), (3, tI (nI i))] [] σ2) : G E X ca sa 236 [(0, tA b), (1, tR (some 0)), (2, tR (some 125)), (3, tI (nI i))] [] σ := by
  refine g_aload_n (pc := 236) C 1 1 dL_law_236 rfl rfl ?_
  refine g_aloadB (pc := 237) C dL_law_237 rfl ?_
  refine g_iload_n (pc := 238) C 3 3 dL_law_238 rfl rfl ?_
  refine g_iconst (v := 1) (pc := 239) C dL_law_239 (by decide) ?_
  refine g_iadd (pc := 240) C dL_law_240 ?_
  refine g_sld (i := i) (k := 1) (pc := 241) C hs rfl (by omega) dL_law_241 ?_
  refine g_aloadB (pc := 242) C dL_law_242 rfl ?_
  refine g_iload_n (pc := 243) C 3 3 dL_law_243 rfl rfl ?_
  refine g_iconst (v := 2) (pc := 244) C dL_law_244 (by decide) ?_
  refine g_iadd (pc := 245) C dL_law_245 ?_
  refine g_sld (i := i) (k := 2) (pc := 246) C hs rfl (by omega) dL_law_246 ?_
  refine g_callV (pc := 247) (av := [tI (xv (i + 1)), tI (xv (i + 2))]) C (c_X8_perch hE h1) yv_X8_perch ml_L_13 ck_8 h8 rfl (rf_law hc (by decide) (by decide) (by decide) (by decide)) rfl (Nat.le_of_ble_eq_true rfl) dL_law_247 ?_
  refine g_widen (k := ca + 3) (n := sa + 1203) (by have e : rm_X8_perch.cells ≤ 3 := Nat.le_of_ble_eq_true rfl; omega) (by have e : rm_X8_perch.slots ≤ 1203 := Nat.le_of_ble_eq_true rfl; omega) ?_
  refine g_aload_n (pc := 250) C 2 2 dL_law_250 rfl rfl ?_
  refine g_aloadB (pc := 251) C dL_law_251 rfl ?_
  refine g_iload_n (pc := 252) C 3 3 dL_law_252 rfl rfl ?_
  refine g_iconst (v := 1) (pc := 253) C dL_law_253 (by decide) ?_
  refine g_iadd (pc := 254) C dL_law_254 ?_
  refine g_sld (i := i) (k := 1) (pc := 255) C hs rfl (by omega) dL_law_255 ?_
  refine g_aloadB (pc := 256) C dL_law_256 rfl ?_
  refine g_iload_n (pc := 257) C 3 3 dL_law_257 rfl rfl ?_
  refine g_iconst (v := 2) (pc := 258) C dL_law_258 (by decide) ?_
  refine g_iadd (pc := 259) C dL_law_259 ?_
  refine g_sld (i := i) (k := 2) (pc := 260) C hs rfl (by omega) dL_law_260 ?_
  refine g_callV (pc := 261) (av := [tI (xv (i + 1)), tI (xv (i + 2))]) C (c_X9_perch hE h2) yv_X9_perch ml_L_17 ck_9 h9 rfl (rf_law2 hc (by decide) (by decide) (by decide) (by decide)) rfl (Nat.le_of_ble_eq_true rfl) dL_law_261 ?_
  exact g_icmp_eq (pc := 264) C 1528 dL_law_264 (by decide) (fun _ => kk) (fun c => absurd rfl c)
set_option maxRecDepth 100000 in
theorem w_law_1 (hE : EOK E) (C : XOK E X cL_law RL 4 (some .boolean) room_1) (hs : SC E X b L xv) {i : Nat} (hi : i + 6 ≤ L) (hc : LRm ca sa) {σ2 σ1 : Hp} {r : Int32} (h8 : zk σ 0 = 8) (h1 : s_X8_at 0 (xv (i + 1)) (xv (i + 2)) σ = some (r, σ1)) (h2 : s_X9_at 125 (xv (i + 1)) (xv (i + 2)) σ1 = some (r, σ2)) (h9 : zk σ1 125 = 9) (kk : G E X (ca + 3) (sa + 1203) 1528 [(0, tA b), (1, tR (some 0)), (2, tR (some 125)), (3, tI (nI i))] [] σ2) : G E X ca sa 269 [(0, tA b), (1, tR (some 0)), (2, tR (some 125)), (3, tI (nI i))] [] σ := by
  refine g_aload_n (pc := 269) C 1 1 dL_law_269 rfl rfl ?_
  refine g_aloadB (pc := 270) C dL_law_270 rfl ?_
  refine g_iload_n (pc := 271) C 3 3 dL_law_271 rfl rfl ?_
  refine g_iconst (v := 1) (pc := 272) C dL_law_272 (by decide) ?_
  refine g_iadd (pc := 273) C dL_law_273 ?_
  refine g_sld (i := i) (k := 1) (pc := 274) C hs rfl (by omega) dL_law_274 ?_
  refine g_aloadB (pc := 275) C dL_law_275 rfl ?_
  refine g_iload_n (pc := 276) C 3 3 dL_law_276 rfl rfl ?_
  refine g_iconst (v := 2) (pc := 277) C dL_law_277 (by decide) ?_
  refine g_iadd (pc := 278) C dL_law_278 ?_
  refine g_sld (i := i) (k := 2) (pc := 279) C hs rfl (by omega) dL_law_279 ?_
  refine g_callV (pc := 280) (av := [tI (xv (i + 1)), tI (xv (i + 2))]) C (c_X8_at hE h1) yv_X8_at ml_L_18 ck_8 h8 rfl (rf_law hc (by decide) (by decide) (by decide) (by decide)) rfl (Nat.le_of_ble_eq_true rfl) dL_law_280 ?_
  refine g_widen (k := ca + 3) (n := sa + 1203) (by have e : rm_X8_at.cells ≤ 3 := Nat.le_of_ble_eq_true rfl; omega) (by have e : rm_X8_at.slots ≤ 1203 := Nat.le_of_ble_eq_true rfl; omega) ?_
  refine g_aload_n (pc := 283) C 2 2 dL_law_283 rfl rfl ?_
  refine g_aloadB (pc := 284) C dL_law_284 rfl ?_
  refine g_iload_n (pc := 285) C 3 3 dL_law_285 rfl rfl ?_
  refine g_iconst (v := 1) (pc := 286) C dL_law_286 (by decide) ?_
  refine g_iadd (pc := 287) C dL_law_287 ?_
  refine g_sld (i := i) (k := 1) (pc := 288) C hs rfl (by omega) dL_law_288 ?_
  refine g_aloadB (pc := 289) C dL_law_289 rfl ?_
  refine g_iload_n (pc := 290) C 3 3 dL_law_290 rfl rfl ?_
  refine g_iconst (v := 2) (pc := 291) C dL_law_291 (by decide) ?_
  refine g_iadd (pc := 292) C dL_law_292 ?_
  refine g_sld (i := i) (k := 2) (pc := 293) C hs rfl (by omega) dL_law_293 ?_
  refine g_callV (pc := 294) (av := [tI (xv (i + 1)), tI (xv (i + 2))]) C (c_X9_at hE h2) yv_X9_at ml_L_21 ck_9 h9 rfl (rf_law2 hc (by decide) (by decide) (by decide) (by decide)) rfl (Nat.le_of_ble_eq_true rfl) dL_law_294 ?_
  exact g_icmp_eq (pc := 297) C 1528 dL_law_297 (by decide) (fun _ => kk) (fun c => absurd rfl c)
set_option maxRecDepth 100000 in
theorem w_law_2 (hE : EOK E) (C : XOK E X cL_law RL 4 (some .boolean) room_1) (hs : SC E X b L xv) {i : Nat} (hi : i + 6 ≤ L) (hc : LRm ca sa) {σ2 σ1 : Hp} {r : Int32} (h8 : zk σ 0 = 8) (h1 : s_X8_folk 0 (xv (i + 1)) (xv (i + 2)) σ = some (r, σ1)) (h2 : s_X9_folk 125 (xv (i + 1)) (xv (i + 2)) σ1 = some (r, σ2)) (h9 : zk σ1 125 = 9) (kk : G E X (ca + 3) (sa + 1203) 1528 [(0, tA b), (1, tR (some 0)), (2, tR (some 125)), (3, tI (nI i))] [] σ2) : G E X ca sa 302 [(0, tA b), (1, tR (some 0)), (2, tR (some 125)), (3, tI (nI i))] [] σ := by
  refine g_aload_n (pc := 302) C 1 1 dL_law_302 rfl rfl ?_
  refine g_aloadB (pc := 303) C dL_law_303 rfl ?_
  refine g_iload_n (pc := 304) C 3 3 dL_law_304 rfl rfl ?_
  refine g_iconst (v := 1) (pc := 305) C dL_law_305 (by decide) ?_
  refine g_iadd (pc := 306) C dL_law_306 ?_
  refine g_sld (i := i) (k := 1) (pc := 307) C hs rfl (by omega) dL_law_307 ?_
  refine g_aloadB (pc := 308) C dL_law_308 rfl ?_
  refine g_iload_n (pc := 309) C 3 3 dL_law_309 rfl rfl ?_
  refine g_iconst (v := 2) (pc := 310) C dL_law_310 (by decide) ?_
  refine g_iadd (pc := 311) C dL_law_311 ?_
  refine g_sld (i := i) (k := 2) (pc := 312) C hs rfl (by omega) dL_law_312 ?_
  refine g_callV (pc := 313) (av := [tI (xv (i + 1)), tI (xv (i + 2))]) C (c_X8_folk hE h1) yv_X8_folk ml_L_22 ck_8 h8 rfl (rf_law hc (by decide) (by decide) (by decide) (by decide)) rfl (Nat.le_of_ble_eq_true rfl) dL_law_313 ?_
  refine g_widen (k := ca + 3) (n := sa + 1203) (by have e : rm_X8_folk.cells ≤ 3 := Nat.le_of_ble_eq_true rfl; omega) (by have e : rm_X8_folk.slots ≤ 1203 := Nat.le_of_ble_eq_true rfl; omega) ?_
  refine g_aload_n (pc := 316) C 2 2 dL_law_316 rfl rfl ?_
  refine g_aloadB (pc := 317) C dL_law_317 rfl ?_
  refine g_iload_n (pc := 318) C 3 3 dL_law_318 rfl rfl ?_
  refine g_iconst (v := 1) (pc := 319) C dL_law_319 (by decide) ?_
  refine g_iadd (pc := 320) C dL_law_320 ?_
  refine g_sld (i := i) (k := 1) (pc := 321) C hs rfl (by omega) dL_law_321 ?_
  refine g_aloadB (pc := 322) C dL_law_322 rfl ?_
  refine g_iload_n (pc := 323) C 3 3 dL_law_323 rfl rfl ?_
  refine g_iconst (v := 2) (pc := 324) C dL_law_324 (by decide) ?_
  refine g_iadd (pc := 325) C dL_law_325 ?_
  refine g_sld (i := i) (k := 2) (pc := 326) C hs rfl (by omega) dL_law_326 ?_
  refine g_callV (pc := 327) (av := [tI (xv (i + 1)), tI (xv (i + 2))]) C (c_X9_folk hE h2) yv_X9_folk ml_L_25 ck_9 h9 rfl (rf_law2 hc (by decide) (by decide) (by decide) (by decide)) rfl (Nat.le_of_ble_eq_true rfl) dL_law_327 ?_
  exact g_icmp_eq (pc := 330) C 1528 dL_law_330 (by decide) (fun _ => kk) (fun c => absurd rfl c)
set_option maxRecDepth 100000 in
theorem w_law_3 (hE : EOK E) (C : XOK E X cL_law RL 4 (some .boolean) room_1) (hs : SC E X b L xv) {i : Nat} (hi : i + 6 ≤ L) (hc : LRm ca sa) {σ2 σ1 : Hp} {r : Int32} (h8 : zk σ 0 = 8) (h1 : s_X8_of 0 (xv (i + 1)) (xv (i + 2)) σ = some (r, σ1)) (h2 : s_X9_of 125 (xv (i + 1)) (xv (i + 2)) σ1 = some (r, σ2)) (h9 : zk σ1 125 = 9) (kk : G E X (ca + 3) (sa + 1203) 1528 [(0, tA b), (1, tR (some 0)), (2, tR (some 125)), (3, tI (nI i))] [] σ2) : G E X ca sa 335 [(0, tA b), (1, tR (some 0)), (2, tR (some 125)), (3, tI (nI i))] [] σ := by
  refine g_aload_n (pc := 335) C 1 1 dL_law_335 rfl rfl ?_
  refine g_aloadB (pc := 336) C dL_law_336 rfl ?_
  refine g_iload_n (pc := 337) C 3 3 dL_law_337 rfl rfl ?_
  refine g_iconst (v := 1) (pc := 338) C dL_law_338 (by decide) ?_
  refine g_iadd (pc := 339) C dL_law_339 ?_
  refine g_sld (i := i) (k := 1) (pc := 340) C hs rfl (by omega) dL_law_340 ?_
  refine g_aloadB (pc := 341) C dL_law_341 rfl ?_
  refine g_iload_n (pc := 342) C 3 3 dL_law_342 rfl rfl ?_
  refine g_iconst (v := 2) (pc := 343) C dL_law_343 (by decide) ?_
  refine g_iadd (pc := 344) C dL_law_344 ?_
  refine g_sld (i := i) (k := 2) (pc := 345) C hs rfl (by omega) dL_law_345 ?_
  refine g_callV (pc := 346) (av := [tI (xv (i + 1)), tI (xv (i + 2))]) C (c_X8_of hE h1) yv_X8_of ml_L_26 ck_8 h8 rfl (rf_law hc (by decide) (by decide) (by decide) (by decide)) rfl (Nat.le_of_ble_eq_true rfl) dL_law_346 ?_
  refine g_widen (k := ca + 3) (n := sa + 1203) (by have e : rm_X8_of.cells ≤ 3 := Nat.le_of_ble_eq_true rfl; omega) (by have e : rm_X8_of.slots ≤ 1203 := Nat.le_of_ble_eq_true rfl; omega) ?_
  refine g_aload_n (pc := 349) C 2 2 dL_law_349 rfl rfl ?_
  refine g_aloadB (pc := 350) C dL_law_350 rfl ?_
  refine g_iload_n (pc := 351) C 3 3 dL_law_351 rfl rfl ?_
  refine g_iconst (v := 1) (pc := 352) C dL_law_352 (by decide) ?_
  refine g_iadd (pc := 353) C dL_law_353 ?_
  refine g_sld (i := i) (k := 1) (pc := 354) C hs rfl (by omega) dL_law_354 ?_
  refine g_aloadB (pc := 355) C dL_law_355 rfl ?_
  refine g_iload_n (pc := 356) C 3 3 dL_law_356 rfl rfl ?_
  refine g_iconst (v := 2) (pc := 357) C dL_law_357 (by decide) ?_
  refine g_iadd (pc := 358) C dL_law_358 ?_
  refine g_sld (i := i) (k := 2) (pc := 359) C hs rfl (by omega) dL_law_359 ?_
  refine g_callV (pc := 360) (av := [tI (xv (i + 1)), tI (xv (i + 2))]) C (c_X9_of hE h2) yv_X9_of ml_L_29 ck_9 h9 rfl (rf_law2 hc (by decide) (by decide) (by decide) (by decide)) rfl (Nat.le_of_ble_eq_true rfl) dL_law_360 ?_
  exact g_icmp_eq (pc := 363) C 1528 dL_law_363 (by decide) (fun _ => kk) (fun c => absurd rfl c)
set_option maxRecDepth 100000 in
theorem w_law_4 (hE : EOK E) (C : XOK E X cL_law RL 4 (some .boolean) room_1) (hs : SC E X b L xv) {i : Nat} (hi : i + 6 ≤ L) (hc : LRm ca sa) {σ2 σ1 : Hp} {r : Int32} (h8 : zk σ 0 = 8) (h1 : s_X8_badger 0 (xv (i + 1)) σ = some (r, σ1)) (h2 : s_X9_badger 125 (xv (i + 1)) σ1 = some (r, σ2)) (h9 : zk σ1 125 = 9) (kk : G E X (ca + 3) (sa + 1203) 1528 [(0, tA b), (1, tR (some 0)), (2, tR (some 125)), (3, tI (nI i))] [] σ2) : G E X ca sa 368 [(0, tA b), (1, tR (some 0)), (2, tR (some 125)), (3, tI (nI i))] [] σ := by
  refine g_aload_n (pc := 368) C 1 1 dL_law_368 rfl rfl ?_
  refine g_aloadB (pc := 369) C dL_law_369 rfl ?_
  refine g_iload_n (pc := 370) C 3 3 dL_law_370 rfl rfl ?_
  refine g_iconst (v := 1) (pc := 371) C dL_law_371 (by decide) ?_
  refine g_iadd (pc := 372) C dL_law_372 ?_
  refine g_sld (i := i) (k := 1) (pc := 373) C hs rfl (by omega) dL_law_373 ?_
  refine g_callV (pc := 374) (av := [tI (xv (i + 1))]) C (c_X8_badger hE h1) yv_X8_badger ml_L_30 ck_8 h8 rfl (rf_law hc (by decide) (by decide) (by decide) (by decide)) rfl (Nat.le_of_ble_eq_true rfl) dL_law_374 ?_
  refine g_widen (k := ca + 3) (n := sa + 1203) (by have e : rm_X8_badger.cells ≤ 3 := Nat.le_of_ble_eq_true rfl; omega) (by have e : rm_X8_badger.slots ≤ 1203 := Nat.le_of_ble_eq_true rfl; omega) ?_
  refine g_aload_n (pc := 377) C 2 2 dL_law_377 rfl rfl ?_
  refine g_aloadB (pc := 378) C dL_law_378 rfl ?_
  refine g_iload_n (pc := 379) C 3 3 dL_law_379 rfl rfl ?_
  refine g_iconst (v := 1) (pc := 380) C dL_law_380 (by decide) ?_
  refine g_iadd (pc := 381) C dL_law_381 ?_
  refine g_sld (i := i) (k := 1) (pc := 382) C hs rfl (by omega) dL_law_382 ?_
  refine g_callV (pc := 383) (av := [tI (xv (i + 1))]) C (c_X9_badger hE h2) yv_X9_badger ml_L_34 ck_9 h9 rfl (rf_law2 hc (by decide) (by decide) (by decide) (by decide)) rfl (Nat.le_of_ble_eq_true rfl) dL_law_383 ?_
  exact g_icmp_eq (pc := 386) C 1528 dL_law_386 (by decide) (fun _ => kk) (fun c => absurd rfl c)
set_option maxRecDepth 100000 in
theorem w_law_5 (hE : EOK E) (C : XOK E X cL_law RL 4 (some .boolean) room_1) (hs : SC E X b L xv) {i : Nat} (hi : i + 6 ≤ L) (hc : LRm ca sa) {σ2 σ1 : Hp} {r : Int32} (h8 : zk σ 0 = 8) (h1 : s_X8_sow 0 (xv (i + 1)) (xv (i + 2)) σ = some (r, σ1)) (h2 : s_X9_sow 125 (xv (i + 1)) (xv (i + 2)) σ1 = some (r, σ2)) (h9 : zk σ1 125 = 9) (kk : G E X (ca + 3) (sa + 1203) 1528 [(0, tA b), (1, tR (some 0)), (2, tR (some 125)), (3, tI (nI i))] [] σ2) : G E X ca sa 391 [(0, tA b), (1, tR (some 0)), (2, tR (some 125)), (3, tI (nI i))] [] σ := by
  refine g_aload_n (pc := 391) C 1 1 dL_law_391 rfl rfl ?_
  refine g_aloadB (pc := 392) C dL_law_392 rfl ?_
  refine g_iload_n (pc := 393) C 3 3 dL_law_393 rfl rfl ?_
  refine g_iconst (v := 1) (pc := 394) C dL_law_394 (by decide) ?_
  refine g_iadd (pc := 395) C dL_law_395 ?_
  refine g_sld (i := i) (k := 1) (pc := 396) C hs rfl (by omega) dL_law_396 ?_
  refine g_aloadB (pc := 397) C dL_law_397 rfl ?_
  refine g_iload_n (pc := 398) C 3 3 dL_law_398 rfl rfl ?_
  refine g_iconst (v := 2) (pc := 399) C dL_law_399 (by decide) ?_
  refine g_iadd (pc := 400) C dL_law_400 ?_
  refine g_sld (i := i) (k := 2) (pc := 401) C hs rfl (by omega) dL_law_401 ?_
  refine g_callV (pc := 402) (av := [tI (xv (i + 1)), tI (xv (i + 2))]) C (c_X8_sow hE h1) yv_X8_sow ml_L_35 ck_8 h8 rfl (rf_law hc (by decide) (by decide) (by decide) (by decide)) rfl (Nat.le_of_ble_eq_true rfl) dL_law_402 ?_
  refine g_widen (k := ca + 3) (n := sa + 1203) (by have e : rm_X8_sow.cells ≤ 3 := Nat.le_of_ble_eq_true rfl; omega) (by have e : rm_X8_sow.slots ≤ 1203 := Nat.le_of_ble_eq_true rfl; omega) ?_
  refine g_aload_n (pc := 405) C 2 2 dL_law_405 rfl rfl ?_
  refine g_aloadB (pc := 406) C dL_law_406 rfl ?_
  refine g_iload_n (pc := 407) C 3 3 dL_law_407 rfl rfl ?_
  refine g_iconst (v := 1) (pc := 408) C dL_law_408 (by decide) ?_
  refine g_iadd (pc := 409) C dL_law_409 ?_
  refine g_sld (i := i) (k := 1) (pc := 410) C hs rfl (by omega) dL_law_410 ?_
  refine g_aloadB (pc := 411) C dL_law_411 rfl ?_
  refine g_iload_n (pc := 412) C 3 3 dL_law_412 rfl rfl ?_
  refine g_iconst (v := 2) (pc := 413) C dL_law_413 (by decide) ?_
  refine g_iadd (pc := 414) C dL_law_414 ?_
  refine g_sld (i := i) (k := 2) (pc := 415) C hs rfl (by omega) dL_law_415 ?_
  refine g_callV (pc := 416) (av := [tI (xv (i + 1)), tI (xv (i + 2))]) C (c_X9_sow hE h2) yv_X9_sow ml_L_38 ck_9 h9 rfl (rf_law2 hc (by decide) (by decide) (by decide) (by decide)) rfl (Nat.le_of_ble_eq_true rfl) dL_law_416 ?_
  exact g_icmp_eq (pc := 419) C 1528 dL_law_419 (by decide) (fun _ => kk) (fun c => absurd rfl c)
set_option maxRecDepth 100000 in
theorem w_law_6 (hE : EOK E) (C : XOK E X cL_law RL 4 (some .boolean) room_1) (hs : SC E X b L xv) {i : Nat} (hi : i + 6 ≤ L) (hc : LRm ca sa) {σ2 σ1 : Hp} {r : Int32} (h8 : zk σ 0 = 8) (h1 : s_X8_thing 0 (xv (i + 1)) (xv (i + 2)) (xv (i + 3)) σ = some (r, σ1)) (h2 : s_X9_thing 125 (xv (i + 1)) (xv (i + 2)) (xv (i + 3)) σ1 = some (r, σ2)) (h9 : zk σ1 125 = 9) (kk : G E X (ca + 3) (sa + 1203) 1528 [(0, tA b), (1, tR (some 0)), (2, tR (some 125)), (3, tI (nI i))] [] σ2) : G E X ca sa 424 [(0, tA b), (1, tR (some 0)), (2, tR (some 125)), (3, tI (nI i))] [] σ := by
  refine g_aload_n (pc := 424) C 1 1 dL_law_424 rfl rfl ?_
  refine g_aloadB (pc := 425) C dL_law_425 rfl ?_
  refine g_iload_n (pc := 426) C 3 3 dL_law_426 rfl rfl ?_
  refine g_iconst (v := 1) (pc := 427) C dL_law_427 (by decide) ?_
  refine g_iadd (pc := 428) C dL_law_428 ?_
  refine g_sld (i := i) (k := 1) (pc := 429) C hs rfl (by omega) dL_law_429 ?_
  refine g_aloadB (pc := 430) C dL_law_430 rfl ?_
  refine g_iload_n (pc := 431) C 3 3 dL_law_431 rfl rfl ?_
  refine g_iconst (v := 2) (pc := 432) C dL_law_432 (by decide) ?_
  refine g_iadd (pc := 433) C dL_law_433 ?_
  refine g_sld (i := i) (k := 2) (pc := 434) C hs rfl (by omega) dL_law_434 ?_
  refine g_aloadB (pc := 435) C dL_law_435 rfl ?_
  refine g_iload_n (pc := 436) C 3 3 dL_law_436 rfl rfl ?_
  refine g_iconst (v := 3) (pc := 437) C dL_law_437 (by decide) ?_
  refine g_iadd (pc := 438) C dL_law_438 ?_
  refine g_sld (i := i) (k := 3) (pc := 439) C hs rfl (by omega) dL_law_439 ?_
  refine g_callV (pc := 440) (av := [tI (xv (i + 1)), tI (xv (i + 2)), tI (xv (i + 3))]) C (c_X8_thing hE h1) yv_X8_thing ml_L_39 ck_8 h8 rfl (rf_law hc (by decide) (by decide) (by decide) (by decide)) rfl (Nat.le_of_ble_eq_true rfl) dL_law_440 ?_
  refine g_widen (k := ca + 3) (n := sa + 1203) (by have e : rm_X8_thing.cells ≤ 3 := Nat.le_of_ble_eq_true rfl; omega) (by have e : rm_X8_thing.slots ≤ 1203 := Nat.le_of_ble_eq_true rfl; omega) ?_
  refine g_aload_n (pc := 443) C 2 2 dL_law_443 rfl rfl ?_
  refine g_aloadB (pc := 444) C dL_law_444 rfl ?_
  refine g_iload_n (pc := 445) C 3 3 dL_law_445 rfl rfl ?_
  refine g_iconst (v := 1) (pc := 446) C dL_law_446 (by decide) ?_
  refine g_iadd (pc := 447) C dL_law_447 ?_
  refine g_sld (i := i) (k := 1) (pc := 448) C hs rfl (by omega) dL_law_448 ?_
  refine g_aloadB (pc := 449) C dL_law_449 rfl ?_
  refine g_iload_n (pc := 450) C 3 3 dL_law_450 rfl rfl ?_
  refine g_iconst (v := 2) (pc := 451) C dL_law_451 (by decide) ?_
  refine g_iadd (pc := 452) C dL_law_452 ?_
  refine g_sld (i := i) (k := 2) (pc := 453) C hs rfl (by omega) dL_law_453 ?_
  refine g_aloadB (pc := 454) C dL_law_454 rfl ?_
  refine g_iload_n (pc := 455) C 3 3 dL_law_455 rfl rfl ?_
  refine g_iconst (v := 3) (pc := 456) C dL_law_456 (by decide) ?_
  refine g_iadd (pc := 457) C dL_law_457 ?_
  refine g_sld (i := i) (k := 3) (pc := 458) C hs rfl (by omega) dL_law_458 ?_
  refine g_callV (pc := 459) (av := [tI (xv (i + 1)), tI (xv (i + 2)), tI (xv (i + 3))]) C (c_X9_thing hE h2) yv_X9_thing ml_L_43 ck_9 h9 rfl (rf_law2 hc (by decide) (by decide) (by decide) (by decide)) rfl (Nat.le_of_ble_eq_true rfl) dL_law_459 ?_
  exact g_icmp_eq (pc := 462) C 1528 dL_law_462 (by decide) (fun _ => kk) (fun c => absurd rfl c)
set_option maxRecDepth 100000 in
theorem w_law_7 (hE : EOK E) (C : XOK E X cL_law RL 4 (some .boolean) room_1) (hs : SC E X b L xv) {i : Nat} (hi : i + 6 ≤ L) (hc : LRm ca sa) {σ2 σ1 : Hp} {r : Int32} (h8 : zk σ 0 = 8) (h1 : s_X8_has 0 (xv (i + 1)) (xv (i + 2)) σ = some (r, σ1)) (h2 : s_X9_has 125 (xv (i + 1)) (xv (i + 2)) σ1 = some (r, σ2)) (h9 : zk σ1 125 = 9) (kk : G E X (ca + 3) (sa + 1203) 1528 [(0, tA b), (1, tR (some 0)), (2, tR (some 125)), (3, tI (nI i))] [] σ2) : G E X ca sa 467 [(0, tA b), (1, tR (some 0)), (2, tR (some 125)), (3, tI (nI i))] [] σ := by
  refine g_aload_n (pc := 467) C 1 1 dL_law_467 rfl rfl ?_
  refine g_aloadB (pc := 468) C dL_law_468 rfl ?_
  refine g_iload_n (pc := 469) C 3 3 dL_law_469 rfl rfl ?_
  refine g_iconst (v := 1) (pc := 470) C dL_law_470 (by decide) ?_
  refine g_iadd (pc := 471) C dL_law_471 ?_
  refine g_sld (i := i) (k := 1) (pc := 472) C hs rfl (by omega) dL_law_472 ?_
  refine g_aloadB (pc := 473) C dL_law_473 rfl ?_
  refine g_iload_n (pc := 474) C 3 3 dL_law_474 rfl rfl ?_
  refine g_iconst (v := 2) (pc := 475) C dL_law_475 (by decide) ?_
  refine g_iadd (pc := 476) C dL_law_476 ?_
  refine g_sld (i := i) (k := 2) (pc := 477) C hs rfl (by omega) dL_law_477 ?_
  refine g_callV (pc := 478) (av := [tI (xv (i + 1)), tI (xv (i + 2))]) C (c_X8_has hE h1) yv_X8_has ml_L_44 ck_8 h8 rfl (rf_law hc (by decide) (by decide) (by decide) (by decide)) rfl (Nat.le_of_ble_eq_true rfl) dL_law_478 ?_
  refine g_widen (k := ca + 3) (n := sa + 1203) (by have e : rm_X8_has.cells ≤ 3 := Nat.le_of_ble_eq_true rfl; omega) (by have e : rm_X8_has.slots ≤ 1203 := Nat.le_of_ble_eq_true rfl; omega) ?_
  refine g_aload_n (pc := 481) C 2 2 dL_law_481 rfl rfl ?_
  refine g_aloadB (pc := 482) C dL_law_482 rfl ?_
  refine g_iload_n (pc := 483) C 3 3 dL_law_483 rfl rfl ?_
  refine g_iconst (v := 1) (pc := 484) C dL_law_484 (by decide) ?_
  refine g_iadd (pc := 485) C dL_law_485 ?_
  refine g_sld (i := i) (k := 1) (pc := 486) C hs rfl (by omega) dL_law_486 ?_
  refine g_aloadB (pc := 487) C dL_law_487 rfl ?_
  refine g_iload_n (pc := 488) C 3 3 dL_law_488 rfl rfl ?_
  refine g_iconst (v := 2) (pc := 489) C dL_law_489 (by decide) ?_
  refine g_iadd (pc := 490) C dL_law_490 ?_
  refine g_sld (i := i) (k := 2) (pc := 491) C hs rfl (by omega) dL_law_491 ?_
  refine g_callV (pc := 492) (av := [tI (xv (i + 1)), tI (xv (i + 2))]) C (c_X9_has hE h2) yv_X9_has ml_L_47 ck_9 h9 rfl (rf_law2 hc (by decide) (by decide) (by decide) (by decide)) rfl (Nat.le_of_ble_eq_true rfl) dL_law_492 ?_
  exact g_icmp_eq (pc := 495) C 1528 dL_law_495 (by decide) (fun _ => kk) (fun c => absurd rfl c)
set_option maxRecDepth 100000 in
theorem w_law_8 (hE : EOK E) (C : XOK E X cL_law RL 4 (some .boolean) room_1) (hs : SC E X b L xv) {i : Nat} (hi : i + 6 ≤ L) (hc : LRm ca sa) {σ2 σ1 : Hp} {r : Int32} (h8 : zk σ 0 = 8) (h1 : s_X8_link 0 (xv (i + 1)) (xv (i + 2)) (xv (i + 3)) σ = some (r, σ1)) (h2 : s_X9_link 125 (xv (i + 1)) (xv (i + 2)) (xv (i + 3)) σ1 = some (r, σ2)) (h9 : zk σ1 125 = 9) (kk : G E X (ca + 3) (sa + 1203) 1528 [(0, tA b), (1, tR (some 0)), (2, tR (some 125)), (3, tI (nI i))] [] σ2) : G E X ca sa 500 [(0, tA b), (1, tR (some 0)), (2, tR (some 125)), (3, tI (nI i))] [] σ := by
  refine g_aload_n (pc := 500) C 1 1 dL_law_500 rfl rfl ?_
  refine g_aloadB (pc := 501) C dL_law_501 rfl ?_
  refine g_iload_n (pc := 502) C 3 3 dL_law_502 rfl rfl ?_
  refine g_iconst (v := 1) (pc := 503) C dL_law_503 (by decide) ?_
  refine g_iadd (pc := 504) C dL_law_504 ?_
  refine g_sld (i := i) (k := 1) (pc := 505) C hs rfl (by omega) dL_law_505 ?_
  refine g_aloadB (pc := 506) C dL_law_506 rfl ?_
  refine g_iload_n (pc := 507) C 3 3 dL_law_507 rfl rfl ?_
  refine g_iconst (v := 2) (pc := 508) C dL_law_508 (by decide) ?_
  refine g_iadd (pc := 509) C dL_law_509 ?_
  refine g_sld (i := i) (k := 2) (pc := 510) C hs rfl (by omega) dL_law_510 ?_
  refine g_aloadB (pc := 511) C dL_law_511 rfl ?_
  refine g_iload_n (pc := 512) C 3 3 dL_law_512 rfl rfl ?_
  refine g_iconst (v := 3) (pc := 513) C dL_law_513 (by decide) ?_
  refine g_iadd (pc := 514) C dL_law_514 ?_
  refine g_sld (i := i) (k := 3) (pc := 515) C hs rfl (by omega) dL_law_515 ?_
  refine g_callV (pc := 516) (av := [tI (xv (i + 1)), tI (xv (i + 2)), tI (xv (i + 3))]) C (c_X8_link hE h1) yv_X8_link ml_L_48 ck_8 h8 rfl (rf_law hc (by decide) (by decide) (by decide) (by decide)) rfl (Nat.le_of_ble_eq_true rfl) dL_law_516 ?_
  refine g_widen (k := ca + 3) (n := sa + 1203) (by have e : rm_X8_link.cells ≤ 3 := Nat.le_of_ble_eq_true rfl; omega) (by have e : rm_X8_link.slots ≤ 1203 := Nat.le_of_ble_eq_true rfl; omega) ?_
  refine g_aload_n (pc := 519) C 2 2 dL_law_519 rfl rfl ?_
  refine g_aloadB (pc := 520) C dL_law_520 rfl ?_
  refine g_iload_n (pc := 521) C 3 3 dL_law_521 rfl rfl ?_
  refine g_iconst (v := 1) (pc := 522) C dL_law_522 (by decide) ?_
  refine g_iadd (pc := 523) C dL_law_523 ?_
  refine g_sld (i := i) (k := 1) (pc := 524) C hs rfl (by omega) dL_law_524 ?_
  refine g_aloadB (pc := 525) C dL_law_525 rfl ?_
  refine g_iload_n (pc := 526) C 3 3 dL_law_526 rfl rfl ?_
  refine g_iconst (v := 2) (pc := 527) C dL_law_527 (by decide) ?_
  refine g_iadd (pc := 528) C dL_law_528 ?_
  refine g_sld (i := i) (k := 2) (pc := 529) C hs rfl (by omega) dL_law_529 ?_
  refine g_aloadB (pc := 530) C dL_law_530 rfl ?_
  refine g_iload_n (pc := 531) C 3 3 dL_law_531 rfl rfl ?_
  refine g_iconst (v := 3) (pc := 532) C dL_law_532 (by decide) ?_
  refine g_iadd (pc := 533) C dL_law_533 ?_
  refine g_sld (i := i) (k := 3) (pc := 534) C hs rfl (by omega) dL_law_534 ?_
  refine g_callV (pc := 535) (av := [tI (xv (i + 1)), tI (xv (i + 2)), tI (xv (i + 3))]) C (c_X9_link hE h2) yv_X9_link ml_L_51 ck_9 h9 rfl (rf_law2 hc (by decide) (by decide) (by decide) (by decide)) rfl (Nat.le_of_ble_eq_true rfl) dL_law_535 ?_
  exact g_icmp_eq (pc := 538) C 1528 dL_law_538 (by decide) (fun _ => kk) (fun c => absurd rfl c)
set_option maxRecDepth 100000 in
theorem w_law_9 (hE : EOK E) (C : XOK E X cL_law RL 4 (some .boolean) room_1) (hs : SC E X b L xv) {i : Nat} (hi : i + 6 ≤ L) (hc : LRm ca sa) {σ2 σ1 : Hp} {r : Int32} (h8 : zk σ 0 = 8) (h1 : s_X8_room 0 (xv (i + 1)) (xv (i + 2)) σ = some (r, σ1)) (h2 : s_X9_room 125 (xv (i + 1)) (xv (i + 2)) σ1 = some (r, σ2)) (h9 : zk σ1 125 = 9) (kk : G E X (ca + 3) (sa + 1203) 1528 [(0, tA b), (1, tR (some 0)), (2, tR (some 125)), (3, tI (nI i))] [] σ2) : G E X ca sa 543 [(0, tA b), (1, tR (some 0)), (2, tR (some 125)), (3, tI (nI i))] [] σ := by
  refine g_aload_n (pc := 543) C 1 1 dL_law_543 rfl rfl ?_
  refine g_aloadB (pc := 544) C dL_law_544 rfl ?_
  refine g_iload_n (pc := 545) C 3 3 dL_law_545 rfl rfl ?_
  refine g_iconst (v := 1) (pc := 546) C dL_law_546 (by decide) ?_
  refine g_iadd (pc := 547) C dL_law_547 ?_
  refine g_sld (i := i) (k := 1) (pc := 548) C hs rfl (by omega) dL_law_548 ?_
  refine g_aloadB (pc := 549) C dL_law_549 rfl ?_
  refine g_iload_n (pc := 550) C 3 3 dL_law_550 rfl rfl ?_
  refine g_iconst (v := 2) (pc := 551) C dL_law_551 (by decide) ?_
  refine g_iadd (pc := 552) C dL_law_552 ?_
  refine g_sld (i := i) (k := 2) (pc := 553) C hs rfl (by omega) dL_law_553 ?_
  refine g_callV (pc := 554) (av := [tI (xv (i + 1)), tI (xv (i + 2))]) C (c_X8_room hE h1) yv_X8_room ml_L_52 ck_8 h8 rfl (rf_law hc (by decide) (by decide) (by decide) (by decide)) rfl (Nat.le_of_ble_eq_true rfl) dL_law_554 ?_
  refine g_widen (k := ca + 3) (n := sa + 1203) (by have e : rm_X8_room.cells ≤ 3 := Nat.le_of_ble_eq_true rfl; omega) (by have e : rm_X8_room.slots ≤ 1203 := Nat.le_of_ble_eq_true rfl; omega) ?_
  refine g_aload_n (pc := 557) C 2 2 dL_law_557 rfl rfl ?_
  refine g_aloadB (pc := 558) C dL_law_558 rfl ?_
  refine g_iload_n (pc := 559) C 3 3 dL_law_559 rfl rfl ?_
  refine g_iconst (v := 1) (pc := 560) C dL_law_560 (by decide) ?_
  refine g_iadd (pc := 561) C dL_law_561 ?_
  refine g_sld (i := i) (k := 1) (pc := 562) C hs rfl (by omega) dL_law_562 ?_
  refine g_aloadB (pc := 563) C dL_law_563 rfl ?_
  refine g_iload_n (pc := 564) C 3 3 dL_law_564 rfl rfl ?_
  refine g_iconst (v := 2) (pc := 565) C dL_law_565 (by decide) ?_
  refine g_iadd (pc := 566) C dL_law_566 ?_
  refine g_sld (i := i) (k := 2) (pc := 567) C hs rfl (by omega) dL_law_567 ?_
  refine g_callV (pc := 568) (av := [tI (xv (i + 1)), tI (xv (i + 2))]) C (c_X9_room hE h2) yv_X9_room ml_L_55 ck_9 h9 rfl (rf_law2 hc (by decide) (by decide) (by decide) (by decide)) rfl (Nat.le_of_ble_eq_true rfl) dL_law_568 ?_
  exact g_icmp_eq (pc := 571) C 1528 dL_law_571 (by decide) (fun _ => kk) (fun c => absurd rfl c)
set_option maxRecDepth 100000 in
theorem w_law_10 (hE : EOK E) (C : XOK E X cL_law RL 4 (some .boolean) room_1) (hs : SC E X b L xv) {i : Nat} (hi : i + 6 ≤ L) (hc : LRm ca sa) {σ2 σ1 : Hp} {r : Int32} (h8 : zk σ 0 = 8) (h1 : s_X8_can 0 (xv (i + 1)) (xv (i + 2)) σ = some (r, σ1)) (h2 : s_X9_can 125 (xv (i + 1)) (xv (i + 2)) σ1 = some (r, σ2)) (h9 : zk σ1 125 = 9) (kk : G E X (ca + 3) (sa + 1203) 1528 [(0, tA b), (1, tR (some 0)), (2, tR (some 125)), (3, tI (nI i))] [] σ2) : G E X ca sa 576 [(0, tA b), (1, tR (some 0)), (2, tR (some 125)), (3, tI (nI i))] [] σ := by
  refine g_aload_n (pc := 576) C 1 1 dL_law_576 rfl rfl ?_
  refine g_aloadB (pc := 577) C dL_law_577 rfl ?_
  refine g_iload_n (pc := 578) C 3 3 dL_law_578 rfl rfl ?_
  refine g_iconst (v := 1) (pc := 579) C dL_law_579 (by decide) ?_
  refine g_iadd (pc := 580) C dL_law_580 ?_
  refine g_sld (i := i) (k := 1) (pc := 581) C hs rfl (by omega) dL_law_581 ?_
  refine g_aloadB (pc := 582) C dL_law_582 rfl ?_
  refine g_iload_n (pc := 583) C 3 3 dL_law_583 rfl rfl ?_
  refine g_iconst (v := 2) (pc := 584) C dL_law_584 (by decide) ?_
  refine g_iadd (pc := 585) C dL_law_585 ?_
  refine g_sld (i := i) (k := 2) (pc := 586) C hs rfl (by omega) dL_law_586 ?_
  refine g_callV (pc := 587) (av := [tI (xv (i + 1)), tI (xv (i + 2))]) C (c_X8_can hE h1) yv_X8_can ml_L_56 ck_8 h8 rfl (rf_law hc (by decide) (by decide) (by decide) (by decide)) rfl (Nat.le_of_ble_eq_true rfl) dL_law_587 ?_
  refine g_widen (k := ca + 3) (n := sa + 1203) (by have e : rm_X8_can.cells ≤ 3 := Nat.le_of_ble_eq_true rfl; omega) (by have e : rm_X8_can.slots ≤ 1203 := Nat.le_of_ble_eq_true rfl; omega) ?_
  refine g_aload_n (pc := 590) C 2 2 dL_law_590 rfl rfl ?_
  refine g_aloadB (pc := 591) C dL_law_591 rfl ?_
  refine g_iload_n (pc := 592) C 3 3 dL_law_592 rfl rfl ?_
  refine g_iconst (v := 1) (pc := 593) C dL_law_593 (by decide) ?_
  refine g_iadd (pc := 594) C dL_law_594 ?_
  refine g_sld (i := i) (k := 1) (pc := 595) C hs rfl (by omega) dL_law_595 ?_
  refine g_aloadB (pc := 596) C dL_law_596 rfl ?_
  refine g_iload_n (pc := 597) C 3 3 dL_law_597 rfl rfl ?_
  refine g_iconst (v := 2) (pc := 598) C dL_law_598 (by decide) ?_
  refine g_iadd (pc := 599) C dL_law_599 ?_
  refine g_sld (i := i) (k := 2) (pc := 600) C hs rfl (by omega) dL_law_600 ?_
  refine g_callV (pc := 601) (av := [tI (xv (i + 1)), tI (xv (i + 2))]) C (c_X9_can hE h2) yv_X9_can ml_L_59 ck_9 h9 rfl (rf_law2 hc (by decide) (by decide) (by decide) (by decide)) rfl (Nat.le_of_ble_eq_true rfl) dL_law_601 ?_
  exact g_icmp_eq (pc := 604) C 1528 dL_law_604 (by decide) (fun _ => kk) (fun c => absurd rfl c)
set_option maxRecDepth 100000 in
theorem w_law_11 (hE : EOK E) (C : XOK E X cL_law RL 4 (some .boolean) room_1) (hs : SC E X b L xv) {i : Nat} (hi : i + 6 ≤ L) (hc : LRm ca sa) {σ2 σ1 : Hp} {r : Int32} (h8 : zk σ 0 = 8) (h1 : s_X8_terms 0 (xv (i + 1)) (xv (i + 2)) σ = some (r, σ1)) (h2 : s_X9_terms 125 (xv (i + 1)) (xv (i + 2)) σ1 = some (r, σ2)) (h9 : zk σ1 125 = 9) (kk : G E X (ca + 3) (sa + 1203) 1528 [(0, tA b), (1, tR (some 0)), (2, tR (some 125)), (3, tI (nI i))] [] σ2) : G E X ca sa 609 [(0, tA b), (1, tR (some 0)), (2, tR (some 125)), (3, tI (nI i))] [] σ := by
  refine g_aload_n (pc := 609) C 1 1 dL_law_609 rfl rfl ?_
  refine g_aloadB (pc := 610) C dL_law_610 rfl ?_
  refine g_iload_n (pc := 611) C 3 3 dL_law_611 rfl rfl ?_
  refine g_iconst (v := 1) (pc := 612) C dL_law_612 (by decide) ?_
  refine g_iadd (pc := 613) C dL_law_613 ?_
  refine g_sld (i := i) (k := 1) (pc := 614) C hs rfl (by omega) dL_law_614 ?_
  refine g_aloadB (pc := 615) C dL_law_615 rfl ?_
  refine g_iload_n (pc := 616) C 3 3 dL_law_616 rfl rfl ?_
  refine g_iconst (v := 2) (pc := 617) C dL_law_617 (by decide) ?_
  refine g_iadd (pc := 618) C dL_law_618 ?_
  refine g_sld (i := i) (k := 2) (pc := 619) C hs rfl (by omega) dL_law_619 ?_
  refine g_callV (pc := 620) (av := [tI (xv (i + 1)), tI (xv (i + 2))]) C (c_X8_terms hE h1) yv_X8_terms ml_L_60 ck_8 h8 rfl (rf_law hc (by decide) (by decide) (by decide) (by decide)) rfl (Nat.le_of_ble_eq_true rfl) dL_law_620 ?_
  refine g_widen (k := ca + 3) (n := sa + 1203) (by have e : rm_X8_terms.cells ≤ 3 := Nat.le_of_ble_eq_true rfl; omega) (by have e : rm_X8_terms.slots ≤ 1203 := Nat.le_of_ble_eq_true rfl; omega) ?_
  refine g_aload_n (pc := 623) C 2 2 dL_law_623 rfl rfl ?_
  refine g_aloadB (pc := 624) C dL_law_624 rfl ?_
  refine g_iload_n (pc := 625) C 3 3 dL_law_625 rfl rfl ?_
  refine g_iconst (v := 1) (pc := 626) C dL_law_626 (by decide) ?_
  refine g_iadd (pc := 627) C dL_law_627 ?_
  refine g_sld (i := i) (k := 1) (pc := 628) C hs rfl (by omega) dL_law_628 ?_
  refine g_aloadB (pc := 629) C dL_law_629 rfl ?_
  refine g_iload_n (pc := 630) C 3 3 dL_law_630 rfl rfl ?_
  refine g_iconst (v := 2) (pc := 631) C dL_law_631 (by decide) ?_
  refine g_iadd (pc := 632) C dL_law_632 ?_
  refine g_sld (i := i) (k := 2) (pc := 633) C hs rfl (by omega) dL_law_633 ?_
  refine g_callV (pc := 634) (av := [tI (xv (i + 1)), tI (xv (i + 2))]) C (c_X9_terms hE h2) yv_X9_terms ml_L_63 ck_9 h9 rfl (rf_law2 hc (by decide) (by decide) (by decide) (by decide)) rfl (Nat.le_of_ble_eq_true rfl) dL_law_634 ?_
  exact g_icmp_eq (pc := 637) C 1528 dL_law_637 (by decide) (fun _ => kk) (fun c => absurd rfl c)
set_option maxRecDepth 100000 in
theorem w_law_12 (hE : EOK E) (C : XOK E X cL_law RL 4 (some .boolean) room_1) (hs : SC E X b L xv) {i : Nat} (hi : i + 6 ≤ L) (hc : LRm ca sa) {σ2 σ1 : Hp} {r : Int32} (h8 : zk σ 0 = 8) (h1 : s_X8_feed 0 (xv (i + 1)) (xv (i + 2)) (xv (i + 3)) (xv (i + 4)) (xv (i + 5)) σ = some (r, σ1)) (h2 : s_X9_feed 125 (xv (i + 1)) (xv (i + 2)) (xv (i + 3)) (xv (i + 4)) (xv (i + 5)) σ1 = some (r, σ2)) (h9 : zk σ1 125 = 9) (kk : G E X (ca + 3) (sa + 1203) 1528 [(0, tA b), (1, tR (some 0)), (2, tR (some 125)), (3, tI (nI i))] [] σ2) : G E X ca sa 642 [(0, tA b), (1, tR (some 0)), (2, tR (some 125)), (3, tI (nI i))] [] σ := by
  refine g_aload_n (pc := 642) C 1 1 dL_law_642 rfl rfl ?_
  refine g_aloadB (pc := 643) C dL_law_643 rfl ?_
  refine g_iload_n (pc := 644) C 3 3 dL_law_644 rfl rfl ?_
  refine g_iconst (v := 1) (pc := 645) C dL_law_645 (by decide) ?_
  refine g_iadd (pc := 646) C dL_law_646 ?_
  refine g_sld (i := i) (k := 1) (pc := 647) C hs rfl (by omega) dL_law_647 ?_
  refine g_aloadB (pc := 648) C dL_law_648 rfl ?_
  refine g_iload_n (pc := 649) C 3 3 dL_law_649 rfl rfl ?_
  refine g_iconst (v := 2) (pc := 650) C dL_law_650 (by decide) ?_
  refine g_iadd (pc := 651) C dL_law_651 ?_
  refine g_sld (i := i) (k := 2) (pc := 652) C hs rfl (by omega) dL_law_652 ?_
  refine g_aloadB (pc := 653) C dL_law_653 rfl ?_
  refine g_iload_n (pc := 654) C 3 3 dL_law_654 rfl rfl ?_
  refine g_iconst (v := 3) (pc := 655) C dL_law_655 (by decide) ?_
  refine g_iadd (pc := 656) C dL_law_656 ?_
  refine g_sld (i := i) (k := 3) (pc := 657) C hs rfl (by omega) dL_law_657 ?_
  refine g_aloadB (pc := 658) C dL_law_658 rfl ?_
  refine g_iload_n (pc := 659) C 3 3 dL_law_659 rfl rfl ?_
  refine g_iconst (v := 4) (pc := 660) C dL_law_660 (by decide) ?_
  refine g_iadd (pc := 661) C dL_law_661 ?_
  refine g_sld (i := i) (k := 4) (pc := 662) C hs rfl (by omega) dL_law_662 ?_
  refine g_aloadB (pc := 663) C dL_law_663 rfl ?_
  refine g_iload_n (pc := 664) C 3 3 dL_law_664 rfl rfl ?_
  refine g_iconst (v := 5) (pc := 665) C dL_law_665 (by decide) ?_
  refine g_iadd (pc := 666) C dL_law_666 ?_
  refine g_sld (i := i) (k := 5) (pc := 667) C hs rfl (by omega) dL_law_667 ?_
  refine g_callV (pc := 668) (av := [tI (xv (i + 1)), tI (xv (i + 2)), tI (xv (i + 3)), tI (xv (i + 4)), tI (xv (i + 5))]) C (c_X8_feed hE h1) yv_X8_feed ml_L_64 ck_8 h8 rfl (rf_law hc (by decide) (by decide) (by decide) (by decide)) rfl (Nat.le_of_ble_eq_true rfl) dL_law_668 ?_
  refine g_widen (k := ca + 3) (n := sa + 1203) (by have e : rm_X8_feed.cells ≤ 3 := Nat.le_of_ble_eq_true rfl; omega) (by have e : rm_X8_feed.slots ≤ 1203 := Nat.le_of_ble_eq_true rfl; omega) ?_
  refine g_aload_n (pc := 671) C 2 2 dL_law_671 rfl rfl ?_
  refine g_aloadB (pc := 672) C dL_law_672 rfl ?_
  refine g_iload_n (pc := 673) C 3 3 dL_law_673 rfl rfl ?_
  refine g_iconst (v := 1) (pc := 674) C dL_law_674 (by decide) ?_
  refine g_iadd (pc := 675) C dL_law_675 ?_
  refine g_sld (i := i) (k := 1) (pc := 676) C hs rfl (by omega) dL_law_676 ?_
  refine g_aloadB (pc := 677) C dL_law_677 rfl ?_
  refine g_iload_n (pc := 678) C 3 3 dL_law_678 rfl rfl ?_
  refine g_iconst (v := 2) (pc := 679) C dL_law_679 (by decide) ?_
  refine g_iadd (pc := 680) C dL_law_680 ?_
  refine g_sld (i := i) (k := 2) (pc := 681) C hs rfl (by omega) dL_law_681 ?_
  refine g_aloadB (pc := 682) C dL_law_682 rfl ?_
  refine g_iload_n (pc := 683) C 3 3 dL_law_683 rfl rfl ?_
  refine g_iconst (v := 3) (pc := 684) C dL_law_684 (by decide) ?_
  refine g_iadd (pc := 685) C dL_law_685 ?_
  refine g_sld (i := i) (k := 3) (pc := 686) C hs rfl (by omega) dL_law_686 ?_
  refine g_aloadB (pc := 687) C dL_law_687 rfl ?_
  refine g_iload_n (pc := 688) C 3 3 dL_law_688 rfl rfl ?_
  refine g_iconst (v := 4) (pc := 689) C dL_law_689 (by decide) ?_
  refine g_iadd (pc := 690) C dL_law_690 ?_
  refine g_sld (i := i) (k := 4) (pc := 691) C hs rfl (by omega) dL_law_691 ?_
  refine g_aloadB (pc := 692) C dL_law_692 rfl ?_
  refine g_iload_n (pc := 693) C 3 3 dL_law_693 rfl rfl ?_
  refine g_iconst (v := 5) (pc := 694) C dL_law_694 (by decide) ?_
  refine g_iadd (pc := 695) C dL_law_695 ?_
  refine g_sld (i := i) (k := 5) (pc := 696) C hs rfl (by omega) dL_law_696 ?_
  refine g_callV (pc := 697) (av := [tI (xv (i + 1)), tI (xv (i + 2)), tI (xv (i + 3)), tI (xv (i + 4)), tI (xv (i + 5))]) C (c_X9_feed hE h2) yv_X9_feed ml_L_68 ck_9 h9 rfl (rf_law2 hc (by decide) (by decide) (by decide) (by decide)) rfl (Nat.le_of_ble_eq_true rfl) dL_law_697 ?_
  exact g_icmp_eq (pc := 700) C 1528 dL_law_700 (by decide) (fun _ => kk) (fun c => absurd rfl c)
set_option maxRecDepth 100000 in
theorem w_law_13 (hE : EOK E) (C : XOK E X cL_law RL 4 (some .boolean) room_1) (hs : SC E X b L xv) {i : Nat} (hi : i + 6 ≤ L) (hc : LRm ca sa) {σ2 σ1 : Hp} {r : Int32} (h8 : zk σ 0 = 8) (h1 : s_X8_end 0 (xv (i + 1)) σ = some (r, σ1)) (h2 : s_X9_end 125 (xv (i + 1)) σ1 = some (r, σ2)) (h9 : zk σ1 125 = 9) (kk : G E X (ca + 3) (sa + 1203) 1528 [(0, tA b), (1, tR (some 0)), (2, tR (some 125)), (3, tI (nI i))] [] σ2) : G E X ca sa 705 [(0, tA b), (1, tR (some 0)), (2, tR (some 125)), (3, tI (nI i))] [] σ := by
  refine g_aload_n (pc := 705) C 1 1 dL_law_705 rfl rfl ?_
  refine g_aloadB (pc := 706) C dL_law_706 rfl ?_
  refine g_iload_n (pc := 707) C 3 3 dL_law_707 rfl rfl ?_
  refine g_iconst (v := 1) (pc := 708) C dL_law_708 (by decide) ?_
  refine g_iadd (pc := 709) C dL_law_709 ?_
  refine g_sld (i := i) (k := 1) (pc := 710) C hs rfl (by omega) dL_law_710 ?_
  refine g_callV (pc := 711) (av := [tI (xv (i + 1))]) C (c_X8_end hE h1) yv_X8_end ml_L_69 ck_8 h8 rfl (rf_law hc (by decide) (by decide) (by decide) (by decide)) rfl (Nat.le_of_ble_eq_true rfl) dL_law_711 ?_
  refine g_widen (k := ca + 3) (n := sa + 1203) (by have e : rm_X8_end.cells ≤ 3 := Nat.le_of_ble_eq_true rfl; omega) (by have e : rm_X8_end.slots ≤ 1203 := Nat.le_of_ble_eq_true rfl; omega) ?_
  refine g_aload_n (pc := 714) C 2 2 dL_law_714 rfl rfl ?_
  refine g_aloadB (pc := 715) C dL_law_715 rfl ?_
  refine g_iload_n (pc := 716) C 3 3 dL_law_716 rfl rfl ?_
  refine g_iconst (v := 1) (pc := 717) C dL_law_717 (by decide) ?_
  refine g_iadd (pc := 718) C dL_law_718 ?_
  refine g_sld (i := i) (k := 1) (pc := 719) C hs rfl (by omega) dL_law_719 ?_
  refine g_callV (pc := 720) (av := [tI (xv (i + 1))]) C (c_X9_end hE h2) yv_X9_end ml_L_72 ck_9 h9 rfl (rf_law2 hc (by decide) (by decide) (by decide) (by decide)) rfl (Nat.le_of_ble_eq_true rfl) dL_law_720 ?_
  exact g_icmp_eq (pc := 723) C 1528 dL_law_723 (by decide) (fun _ => kk) (fun c => absurd rfl c)
set_option maxRecDepth 100000 in
theorem w_law_14 (hE : EOK E) (C : XOK E X cL_law RL 4 (some .boolean) room_1) (hs : SC E X b L xv) {i : Nat} (hi : i + 6 ≤ L) (hc : LRm ca sa) {σ2 σ1 : Hp} {r : Int32} (h8 : zk σ 0 = 8) (h1 : s_X8_row 0  σ = some (r, σ1)) (h2 : s_X9_row 125  σ1 = some (r, σ2)) (h9 : zk σ1 125 = 9) (kk : G E X (ca + 3) (sa + 1203) 1528 [(0, tA b), (1, tR (some 0)), (2, tR (some 125)), (3, tI (nI i))] [] σ2) : G E X ca sa 728 [(0, tA b), (1, tR (some 0)), (2, tR (some 125)), (3, tI (nI i))] [] σ := by
  refine g_aload_n (pc := 728) C 1 1 dL_law_728 rfl rfl ?_
  refine g_callV (pc := 729) (av := []) C (c_X8_row hE h1) yv_X8_row ml_L_73 ck_8 h8 rfl (rf_law hc (by decide) (by decide) (by decide) (by decide)) rfl (Nat.le_of_ble_eq_true rfl) dL_law_729 ?_
  refine g_widen (k := ca + 3) (n := sa + 1203) (by have e : rm_X8_row.cells ≤ 3 := Nat.le_of_ble_eq_true rfl; omega) (by have e : rm_X8_row.slots ≤ 1203 := Nat.le_of_ble_eq_true rfl; omega) ?_
  refine g_aload_n (pc := 732) C 2 2 dL_law_732 rfl rfl ?_
  refine g_callV (pc := 733) (av := []) C (c_X9_row hE h2) yv_X9_row ml_L_77 ck_9 h9 rfl (rf_law2 hc (by decide) (by decide) (by decide) (by decide)) rfl (Nat.le_of_ble_eq_true rfl) dL_law_733 ?_
  exact g_icmp_eq (pc := 736) C 1528 dL_law_736 (by decide) (fun _ => kk) (fun c => absurd rfl c)
set_option maxRecDepth 100000 in
theorem w_law_15 (hE : EOK E) (C : XOK E X cL_law RL 4 (some .boolean) room_1) (hs : SC E X b L xv) {i : Nat} (hi : i + 6 ≤ L) (hc : LRm ca sa) {σ2 σ1 : Hp} {r : Int32} (h8 : zk σ 0 = 8) (h1 : s_X8_scratches 0  σ = some (r, σ1)) (h2 : s_X9_scratches 125  σ1 = some (r, σ2)) (h9 : zk σ1 125 = 9) (kk : G E X (ca + 3) (sa + 1203) 1528 [(0, tA b), (1, tR (some 0)), (2, tR (some 125)), (3, tI (nI i))] [] σ2) : G E X ca sa 741 [(0, tA b), (1, tR (some 0)), (2, tR (some 125)), (3, tI (nI i))] [] σ := by
  refine g_aload_n (pc := 741) C 1 1 dL_law_741 rfl rfl ?_
  refine g_callV (pc := 742) (av := []) C (c_X8_scratches hE h1) yv_X8_scratches ml_L_78 ck_8 h8 rfl (rf_law hc (by decide) (by decide) (by decide) (by decide)) rfl (Nat.le_of_ble_eq_true rfl) dL_law_742 ?_
  refine g_widen (k := ca + 3) (n := sa + 1203) (by have e : rm_X8_scratches.cells ≤ 3 := Nat.le_of_ble_eq_true rfl; omega) (by have e : rm_X8_scratches.slots ≤ 1203 := Nat.le_of_ble_eq_true rfl; omega) ?_
  refine g_aload_n (pc := 745) C 2 2 dL_law_745 rfl rfl ?_
  refine g_callV (pc := 746) (av := []) C (c_X9_scratches hE h2) yv_X9_scratches ml_L_81 ck_9 h9 rfl (rf_law2 hc (by decide) (by decide) (by decide) (by decide)) rfl (Nat.le_of_ble_eq_true rfl) dL_law_746 ?_
  exact g_icmp_eq (pc := 749) C 1528 dL_law_749 (by decide) (fun _ => kk) (fun c => absurd rfl c)
set_option maxRecDepth 100000 in
theorem w_law_16 (hE : EOK E) (C : XOK E X cL_law RL 4 (some .boolean) room_1) (hs : SC E X b L xv) {i : Nat} (hi : i + 6 ≤ L) (hc : LRm ca sa) {σ2 σ1 : Hp} {r : Int32} (h8 : zk σ 0 = 8) (h1 : s_X8_law 0  σ = some (r, σ1)) (h2 : s_X9_law 125  σ1 = some (r, σ2)) (h9 : zk σ1 125 = 9) (kk : G E X (ca + 3) (sa + 1203) 1528 [(0, tA b), (1, tR (some 0)), (2, tR (some 125)), (3, tI (nI i))] [] σ2) : G E X ca sa 754 [(0, tA b), (1, tR (some 0)), (2, tR (some 125)), (3, tI (nI i))] [] σ := by
  refine g_aload_n (pc := 754) C 1 1 dL_law_754 rfl rfl ?_
  refine g_callV (pc := 755) (av := []) C (c_X8_law hE h1) yv_X8_law ml_L_82 ck_8 h8 rfl (rf_law hc (by decide) (by decide) (by decide) (by decide)) rfl (Nat.le_of_ble_eq_true rfl) dL_law_755 ?_
  refine g_widen (k := ca + 3) (n := sa + 1203) (by have e : rm_X8_law.cells ≤ 3 := Nat.le_of_ble_eq_true rfl; omega) (by have e : rm_X8_law.slots ≤ 1203 := Nat.le_of_ble_eq_true rfl; omega) ?_
  refine g_aload_n (pc := 758) C 2 2 dL_law_758 rfl rfl ?_
  refine g_callV (pc := 759) (av := []) C (c_X9_law hE h2) yv_X9_law ml_L_85 ck_9 h9 rfl (rf_law2 hc (by decide) (by decide) (by decide) (by decide)) rfl (Nat.le_of_ble_eq_true rfl) dL_law_759 ?_
  exact g_icmp_eq (pc := 762) C 1528 dL_law_762 (by decide) (fun _ => kk) (fun c => absurd rfl c)
set_option maxRecDepth 100000 in
theorem w_law_17 (hE : EOK E) (C : XOK E X cL_law RL 4 (some .boolean) room_1) (hs : SC E X b L xv) {i : Nat} (hi : i + 6 ≤ L) (hc : LRm ca sa) {σ2 σ1 : Hp} {r : Int32} (h8 : zk σ 0 = 8) (h1 : s_X8_orders 0  σ = some (r, σ1)) (h2 : s_X9_orders 125  σ1 = some (r, σ2)) (h9 : zk σ1 125 = 9) (kk : G E X (ca + 3) (sa + 1203) 1528 [(0, tA b), (1, tR (some 0)), (2, tR (some 125)), (3, tI (nI i))] [] σ2) : G E X ca sa 767 [(0, tA b), (1, tR (some 0)), (2, tR (some 125)), (3, tI (nI i))] [] σ := by
  refine g_aload_n (pc := 767) C 1 1 dL_law_767 rfl rfl ?_
  refine g_callV (pc := 768) (av := []) C (c_X8_orders hE h1) yv_X8_orders ml_L_86 ck_8 h8 rfl (rf_law hc (by decide) (by decide) (by decide) (by decide)) rfl (Nat.le_of_ble_eq_true rfl) dL_law_768 ?_
  refine g_widen (k := ca + 3) (n := sa + 1203) (by have e : rm_X8_orders.cells ≤ 3 := Nat.le_of_ble_eq_true rfl; omega) (by have e : rm_X8_orders.slots ≤ 1203 := Nat.le_of_ble_eq_true rfl; omega) ?_
  refine g_aload_n (pc := 771) C 2 2 dL_law_771 rfl rfl ?_
  refine g_callV (pc := 772) (av := []) C (c_X9_orders hE h2) yv_X9_orders ml_L_89 ck_9 h9 rfl (rf_law2 hc (by decide) (by decide) (by decide) (by decide)) rfl (Nat.le_of_ble_eq_true rfl) dL_law_772 ?_
  exact g_icmp_eq (pc := 775) C 1528 dL_law_775 (by decide) (fun _ => kk) (fun c => absurd rfl c)
set_option maxRecDepth 100000 in
theorem w_law_18 (hE : EOK E) (C : XOK E X cL_law RL 4 (some .boolean) room_1) (hs : SC E X b L xv) {i : Nat} (hi : i + 6 ≤ L) (hc : LRm ca sa) {σ2 σ1 : Hp} {r : Int32} (h8 : zk σ 0 = 8) (h1 : s_X8_fault 0  σ = some (r, σ1)) (h2 : s_X9_fault 125  σ1 = some (r, σ2)) (h9 : zk σ1 125 = 9) (kk : G E X (ca + 3) (sa + 1203) 1528 [(0, tA b), (1, tR (some 0)), (2, tR (some 125)), (3, tI (nI i))] [] σ2) : G E X ca sa 780 [(0, tA b), (1, tR (some 0)), (2, tR (some 125)), (3, tI (nI i))] [] σ := by
  refine g_aload_n (pc := 780) C 1 1 dL_law_780 rfl rfl ?_
  refine g_callV (pc := 781) (av := []) C (c_X8_fault hE h1) yv_X8_fault ml_L_90 ck_8 h8 rfl (rf_law hc (by decide) (by decide) (by decide) (by decide)) rfl (Nat.le_of_ble_eq_true rfl) dL_law_781 ?_
  refine g_widen (k := ca + 3) (n := sa + 1203) (by have e : rm_X8_fault.cells ≤ 3 := Nat.le_of_ble_eq_true rfl; omega) (by have e : rm_X8_fault.slots ≤ 1203 := Nat.le_of_ble_eq_true rfl; omega) ?_
  refine g_aload_n (pc := 784) C 2 2 dL_law_784 rfl rfl ?_
  refine g_callV (pc := 785) (av := []) C (c_X9_fault hE h2) yv_X9_fault ml_L_93 ck_9 h9 rfl (rf_law2 hc (by decide) (by decide) (by decide) (by decide)) rfl (Nat.le_of_ble_eq_true rfl) dL_law_785 ?_
  exact g_icmp_eq (pc := 788) C 1528 dL_law_788 (by decide) (fun _ => kk) (fun c => absurd rfl c)
set_option maxRecDepth 100000 in
theorem w_law_19 (hE : EOK E) (C : XOK E X cL_law RL 4 (some .boolean) room_1) (hs : SC E X b L xv) {i : Nat} (hi : i + 6 ≤ L) (hc : LRm ca sa) {σ2 σ1 : Hp} {r : Int32} (h8 : zk σ 0 = 8) (h1 : s_X8_stopped 0  σ = some (r, σ1)) (h2 : s_X9_stopped 125  σ1 = some (r, σ2)) (h9 : zk σ1 125 = 9) (kk : G E X (ca + 3) (sa + 1203) 1528 [(0, tA b), (1, tR (some 0)), (2, tR (some 125)), (3, tI (nI i))] [] σ2) : G E X ca sa 793 [(0, tA b), (1, tR (some 0)), (2, tR (some 125)), (3, tI (nI i))] [] σ := by
  refine g_aload_n (pc := 793) C 1 1 dL_law_793 rfl rfl ?_
  refine g_callV (pc := 794) (av := []) C (c_X8_stopped hE h1) yv_X8_stopped ml_L_94 ck_8 h8 rfl (rf_law hc (by decide) (by decide) (by decide) (by decide)) rfl (Nat.le_of_ble_eq_true rfl) dL_law_794 ?_
  refine g_widen (k := ca + 3) (n := sa + 1203) (by have e : rm_X8_stopped.cells ≤ 3 := Nat.le_of_ble_eq_true rfl; omega) (by have e : rm_X8_stopped.slots ≤ 1203 := Nat.le_of_ble_eq_true rfl; omega) ?_
  refine g_aload_n (pc := 797) C 2 2 dL_law_797 rfl rfl ?_
  refine g_callV (pc := 798) (av := []) C (c_X9_stopped hE h2) yv_X9_stopped ml_L_97 ck_9 h9 rfl (rf_law2 hc (by decide) (by decide) (by decide) (by decide)) rfl (Nat.le_of_ble_eq_true rfl) dL_law_798 ?_
  exact g_icmp_eq (pc := 801) C 1528 dL_law_801 (by decide) (fun _ => kk) (fun c => absurd rfl c)
set_option maxRecDepth 100000 in
theorem w_law_20 (hE : EOK E) (C : XOK E X cL_law RL 4 (some .boolean) room_1) (hs : SC E X b L xv) {i : Nat} (hi : i + 6 ≤ L) (hc : LRm ca sa) {σ2 σ1 : Hp} {r : Int32} (h8 : zk σ 0 = 8) (h1 : s_X8_force 0 (xv (i + 1)) σ = some (r, σ1)) (h2 : s_X9_force 125 (xv (i + 1)) σ1 = some (r, σ2)) (h9 : zk σ1 125 = 9) (kk : G E X (ca + 3) (sa + 1203) 1528 [(0, tA b), (1, tR (some 0)), (2, tR (some 125)), (3, tI (nI i))] [] σ2) : G E X ca sa 806 [(0, tA b), (1, tR (some 0)), (2, tR (some 125)), (3, tI (nI i))] [] σ := by
  refine g_aload_n (pc := 806) C 1 1 dL_law_806 rfl rfl ?_
  refine g_aloadB (pc := 807) C dL_law_807 rfl ?_
  refine g_iload_n (pc := 808) C 3 3 dL_law_808 rfl rfl ?_
  refine g_iconst (v := 1) (pc := 809) C dL_law_809 (by decide) ?_
  refine g_iadd (pc := 810) C dL_law_810 ?_
  refine g_sld (i := i) (k := 1) (pc := 811) C hs rfl (by omega) dL_law_811 ?_
  refine g_callV (pc := 812) (av := [tI (xv (i + 1))]) C (c_X8_force hE h1) yv_X8_force ml_L_98 ck_8 h8 rfl (rf_law hc (by decide) (by decide) (by decide) (by decide)) rfl (Nat.le_of_ble_eq_true rfl) dL_law_812 ?_
  refine g_widen (k := ca + 3) (n := sa + 1203) (by have e : rm_X8_force.cells ≤ 3 := Nat.le_of_ble_eq_true rfl; omega) (by have e : rm_X8_force.slots ≤ 1203 := Nat.le_of_ble_eq_true rfl; omega) ?_
  refine g_aload_n (pc := 815) C 2 2 dL_law_815 rfl rfl ?_
  refine g_aloadB (pc := 816) C dL_law_816 rfl ?_
  refine g_iload_n (pc := 817) C 3 3 dL_law_817 rfl rfl ?_
  refine g_iconst (v := 1) (pc := 818) C dL_law_818 (by decide) ?_
  refine g_iadd (pc := 819) C dL_law_819 ?_
  refine g_sld (i := i) (k := 1) (pc := 820) C hs rfl (by omega) dL_law_820 ?_
  refine g_callV (pc := 821) (av := [tI (xv (i + 1))]) C (c_X9_force hE h2) yv_X9_force ml_L_101 ck_9 h9 rfl (rf_law2 hc (by decide) (by decide) (by decide) (by decide)) rfl (Nat.le_of_ble_eq_true rfl) dL_law_821 ?_
  exact g_icmp_eq (pc := 824) C 1528 dL_law_824 (by decide) (fun _ => kk) (fun c => absurd rfl c)
set_option maxRecDepth 100000 in
theorem w_law_21 (hE : EOK E) (C : XOK E X cL_law RL 4 (some .boolean) room_1) (hs : SC E X b L xv) {i : Nat} (hi : i + 6 ≤ L) (hc : LRm ca sa) {σ2 σ1 : Hp} {r : Int32} (h8 : zk σ 0 = 8) (h1 : s_X8_stride 0 (xv (i + 1)) (xv (i + 2)) σ = some (r, σ1)) (h2 : s_X9_stride 125 (xv (i + 1)) (xv (i + 2)) σ1 = some (r, σ2)) (h9 : zk σ1 125 = 9) (kk : G E X (ca + 3) (sa + 1203) 1528 [(0, tA b), (1, tR (some 0)), (2, tR (some 125)), (3, tI (nI i))] [] σ2) : G E X ca sa 829 [(0, tA b), (1, tR (some 0)), (2, tR (some 125)), (3, tI (nI i))] [] σ := by
  refine g_aload_n (pc := 829) C 1 1 dL_law_829 rfl rfl ?_
  refine g_aloadB (pc := 830) C dL_law_830 rfl ?_
  refine g_iload_n (pc := 831) C 3 3 dL_law_831 rfl rfl ?_
  refine g_iconst (v := 1) (pc := 832) C dL_law_832 (by decide) ?_
  refine g_iadd (pc := 833) C dL_law_833 ?_
  refine g_sld (i := i) (k := 1) (pc := 834) C hs rfl (by omega) dL_law_834 ?_
  refine g_aloadB (pc := 835) C dL_law_835 rfl ?_
  refine g_iload_n (pc := 836) C 3 3 dL_law_836 rfl rfl ?_
  refine g_iconst (v := 2) (pc := 837) C dL_law_837 (by decide) ?_
  refine g_iadd (pc := 838) C dL_law_838 ?_
  refine g_sld (i := i) (k := 2) (pc := 839) C hs rfl (by omega) dL_law_839 ?_
  refine g_callV (pc := 840) (av := [tI (xv (i + 1)), tI (xv (i + 2))]) C (c_X8_stride hE h1) yv_X8_stride ml_L_102 ck_8 h8 rfl (rf_law hc (by decide) (by decide) (by decide) (by decide)) rfl (Nat.le_of_ble_eq_true rfl) dL_law_840 ?_
  refine g_widen (k := ca + 3) (n := sa + 1203) (by have e : rm_X8_stride.cells ≤ 3 := Nat.le_of_ble_eq_true rfl; omega) (by have e : rm_X8_stride.slots ≤ 1203 := Nat.le_of_ble_eq_true rfl; omega) ?_
  refine g_aload_n (pc := 843) C 2 2 dL_law_843 rfl rfl ?_
  refine g_aloadB (pc := 844) C dL_law_844 rfl ?_
  refine g_iload_n (pc := 845) C 3 3 dL_law_845 rfl rfl ?_
  refine g_iconst (v := 1) (pc := 846) C dL_law_846 (by decide) ?_
  refine g_iadd (pc := 847) C dL_law_847 ?_
  refine g_sld (i := i) (k := 1) (pc := 848) C hs rfl (by omega) dL_law_848 ?_
  refine g_aloadB (pc := 849) C dL_law_849 rfl ?_
  refine g_iload_n (pc := 850) C 3 3 dL_law_850 rfl rfl ?_
  refine g_iconst (v := 2) (pc := 851) C dL_law_851 (by decide) ?_
  refine g_iadd (pc := 852) C dL_law_852 ?_
  refine g_sld (i := i) (k := 2) (pc := 853) C hs rfl (by omega) dL_law_853 ?_
  refine g_callV (pc := 854) (av := [tI (xv (i + 1)), tI (xv (i + 2))]) C (c_X9_stride hE h2) yv_X9_stride ml_L_105 ck_9 h9 rfl (rf_law2 hc (by decide) (by decide) (by decide) (by decide)) rfl (Nat.le_of_ble_eq_true rfl) dL_law_854 ?_
  exact g_icmp_eq (pc := 857) C 1528 dL_law_857 (by decide) (fun _ => kk) (fun c => absurd rfl c)
set_option maxRecDepth 100000 in
theorem w_law_22 (hE : EOK E) (C : XOK E X cL_law RL 4 (some .boolean) room_1) (hs : SC E X b L xv) {i : Nat} (hi : i + 6 ≤ L) (hc : LRm ca sa) {σ2 σ1 : Hp} {r : Int32} (h8 : zk σ 0 = 8) (h1 : s_X8_put 0 (xv (i + 1)) (xv (i + 2)) σ = some (r, σ1)) (h2 : s_X9_put 125 (xv (i + 1)) (xv (i + 2)) σ1 = some (r, σ2)) (h9 : zk σ1 125 = 9) (kk : G E X (ca + 3) (sa + 1203) 1528 [(0, tA b), (1, tR (some 0)), (2, tR (some 125)), (3, tI (nI i))] [] σ2) : G E X ca sa 862 [(0, tA b), (1, tR (some 0)), (2, tR (some 125)), (3, tI (nI i))] [] σ := by
  refine g_aload_n (pc := 862) C 1 1 dL_law_862 rfl rfl ?_
  refine g_aloadB (pc := 863) C dL_law_863 rfl ?_
  refine g_iload_n (pc := 864) C 3 3 dL_law_864 rfl rfl ?_
  refine g_iconst (v := 1) (pc := 865) C dL_law_865 (by decide) ?_
  refine g_iadd (pc := 866) C dL_law_866 ?_
  refine g_sld (i := i) (k := 1) (pc := 867) C hs rfl (by omega) dL_law_867 ?_
  refine g_aloadB (pc := 868) C dL_law_868 rfl ?_
  refine g_iload_n (pc := 869) C 3 3 dL_law_869 rfl rfl ?_
  refine g_iconst (v := 2) (pc := 870) C dL_law_870 (by decide) ?_
  refine g_iadd (pc := 871) C dL_law_871 ?_
  refine g_sld (i := i) (k := 2) (pc := 872) C hs rfl (by omega) dL_law_872 ?_
  refine g_callV (pc := 873) (av := [tI (xv (i + 1)), tI (xv (i + 2))]) C (c_X8_put hE h1) yv_X8_put ml_L_106 ck_8 h8 rfl (rf_law hc (by decide) (by decide) (by decide) (by decide)) rfl (Nat.le_of_ble_eq_true rfl) dL_law_873 ?_
  refine g_widen (k := ca + 3) (n := sa + 1203) (by have e : rm_X8_put.cells ≤ 3 := Nat.le_of_ble_eq_true rfl; omega) (by have e : rm_X8_put.slots ≤ 1203 := Nat.le_of_ble_eq_true rfl; omega) ?_
  refine g_aload_n (pc := 876) C 2 2 dL_law_876 rfl rfl ?_
  refine g_aloadB (pc := 877) C dL_law_877 rfl ?_
  refine g_iload_n (pc := 878) C 3 3 dL_law_878 rfl rfl ?_
  refine g_iconst (v := 1) (pc := 879) C dL_law_879 (by decide) ?_
  refine g_iadd (pc := 880) C dL_law_880 ?_
  refine g_sld (i := i) (k := 1) (pc := 881) C hs rfl (by omega) dL_law_881 ?_
  refine g_aloadB (pc := 882) C dL_law_882 rfl ?_
  refine g_iload_n (pc := 883) C 3 3 dL_law_883 rfl rfl ?_
  refine g_iconst (v := 2) (pc := 884) C dL_law_884 (by decide) ?_
  refine g_iadd (pc := 885) C dL_law_885 ?_
  refine g_sld (i := i) (k := 2) (pc := 886) C hs rfl (by omega) dL_law_886 ?_
  refine g_callV (pc := 887) (av := [tI (xv (i + 1)), tI (xv (i + 2))]) C (c_X9_put hE h2) yv_X9_put ml_L_109 ck_9 h9 rfl (rf_law2 hc (by decide) (by decide) (by decide) (by decide)) rfl (Nat.le_of_ble_eq_true rfl) dL_law_887 ?_
  exact g_icmp_eq (pc := 890) C 1528 dL_law_890 (by decide) (fun _ => kk) (fun c => absurd rfl c)
set_option maxRecDepth 100000 in
theorem w_law_23 (hE : EOK E) (C : XOK E X cL_law RL 4 (some .boolean) room_1) (hs : SC E X b L xv) {i : Nat} (hi : i + 6 ≤ L) (hc : LRm ca sa) {σ2 σ1 : Hp} {r : Int32} (h8 : zk σ 0 = 8) (h1 : s_X8_door 0 (xv (i + 1)) (xv (i + 2)) σ = some (r, σ1)) (h2 : s_X9_door 125 (xv (i + 1)) (xv (i + 2)) σ1 = some (r, σ2)) (h9 : zk σ1 125 = 9) (kk : G E X (ca + 3) (sa + 1203) 1528 [(0, tA b), (1, tR (some 0)), (2, tR (some 125)), (3, tI (nI i))] [] σ2) : G E X ca sa 895 [(0, tA b), (1, tR (some 0)), (2, tR (some 125)), (3, tI (nI i))] [] σ := by
  refine g_aload_n (pc := 895) C 1 1 dL_law_895 rfl rfl ?_
  refine g_aloadB (pc := 896) C dL_law_896 rfl ?_
  refine g_iload_n (pc := 897) C 3 3 dL_law_897 rfl rfl ?_
  refine g_iconst (v := 1) (pc := 898) C dL_law_898 (by decide) ?_
  refine g_iadd (pc := 899) C dL_law_899 ?_
  refine g_sld (i := i) (k := 1) (pc := 900) C hs rfl (by omega) dL_law_900 ?_
  refine g_aloadB (pc := 901) C dL_law_901 rfl ?_
  refine g_iload_n (pc := 902) C 3 3 dL_law_902 rfl rfl ?_
  refine g_iconst (v := 2) (pc := 903) C dL_law_903 (by decide) ?_
  refine g_iadd (pc := 904) C dL_law_904 ?_
  refine g_sld (i := i) (k := 2) (pc := 905) C hs rfl (by omega) dL_law_905 ?_
  refine g_callV (pc := 906) (av := [tI (xv (i + 1)), tI (xv (i + 2))]) C (c_X8_door hE h1) yv_X8_door ml_L_110 ck_8 h8 rfl (rf_law hc (by decide) (by decide) (by decide) (by decide)) rfl (Nat.le_of_ble_eq_true rfl) dL_law_906 ?_
  refine g_widen (k := ca + 3) (n := sa + 1203) (by have e : rm_X8_door.cells ≤ 3 := Nat.le_of_ble_eq_true rfl; omega) (by have e : rm_X8_door.slots ≤ 1203 := Nat.le_of_ble_eq_true rfl; omega) ?_
  refine g_aload_n (pc := 909) C 2 2 dL_law_909 rfl rfl ?_
  refine g_aloadB (pc := 910) C dL_law_910 rfl ?_
  refine g_iload_n (pc := 911) C 3 3 dL_law_911 rfl rfl ?_
  refine g_iconst (v := 1) (pc := 912) C dL_law_912 (by decide) ?_
  refine g_iadd (pc := 913) C dL_law_913 ?_
  refine g_sld (i := i) (k := 1) (pc := 914) C hs rfl (by omega) dL_law_914 ?_
  refine g_aloadB (pc := 915) C dL_law_915 rfl ?_
  refine g_iload_n (pc := 916) C 3 3 dL_law_916 rfl rfl ?_
  refine g_iconst (v := 2) (pc := 917) C dL_law_917 (by decide) ?_
  refine g_iadd (pc := 918) C dL_law_918 ?_
  refine g_sld (i := i) (k := 2) (pc := 919) C hs rfl (by omega) dL_law_919 ?_
  refine g_callV (pc := 920) (av := [tI (xv (i + 1)), tI (xv (i + 2))]) C (c_X9_door hE h2) yv_X9_door ml_L_113 ck_9 h9 rfl (rf_law2 hc (by decide) (by decide) (by decide) (by decide)) rfl (Nat.le_of_ble_eq_true rfl) dL_law_920 ?_
  exact g_icmp_eq (pc := 923) C 1528 dL_law_923 (by decide) (fun _ => kk) (fun c => absurd rfl c)
set_option maxRecDepth 100000 in
theorem w_law_24 (hE : EOK E) (C : XOK E X cL_law RL 4 (some .boolean) room_1) (hs : SC E X b L xv) {i : Nat} (hi : i + 6 ≤ L) (hc : LRm ca sa) {σ2 σ1 : Hp} {r : Int32} (h8 : zk σ 0 = 8) (h1 : s_X8_pass 0  σ = some (r, σ1)) (h2 : s_X9_pass 125  σ1 = some (r, σ2)) (h9 : zk σ1 125 = 9) (kk : G E X (ca + 3) (sa + 1203) 1528 [(0, tA b), (1, tR (some 0)), (2, tR (some 125)), (3, tI (nI i))] [] σ2) : G E X ca sa 928 [(0, tA b), (1, tR (some 0)), (2, tR (some 125)), (3, tI (nI i))] [] σ := by
  refine g_aload_n (pc := 928) C 1 1 dL_law_928 rfl rfl ?_
  refine g_callV (pc := 929) (av := []) C (c_X8_pass hE h1) yv_X8_pass ml_L_114 ck_8 h8 rfl (rf_law hc (by decide) (by decide) (by decide) (by decide)) rfl (Nat.le_of_ble_eq_true rfl) dL_law_929 ?_
  refine g_widen (k := ca + 3) (n := sa + 1203) (by have e : rm_X8_pass.cells ≤ 3 := Nat.le_of_ble_eq_true rfl; omega) (by have e : rm_X8_pass.slots ≤ 1203 := Nat.le_of_ble_eq_true rfl; omega) ?_
  refine g_aload_n (pc := 932) C 2 2 dL_law_932 rfl rfl ?_
  refine g_callV (pc := 933) (av := []) C (c_X9_pass hE h2) yv_X9_pass ml_L_117 ck_9 h9 rfl (rf_law2 hc (by decide) (by decide) (by decide) (by decide)) rfl (Nat.le_of_ble_eq_true rfl) dL_law_933 ?_
  exact g_icmp_eq (pc := 936) C 1528 dL_law_936 (by decide) (fun _ => kk) (fun c => absurd rfl c)
set_option maxRecDepth 100000 in
theorem w_law_25 (hE : EOK E) (C : XOK E X cL_law RL 4 (some .boolean) room_1) (hs : SC E X b L xv) {i : Nat} (hi : i + 6 ≤ L) (hc : LRm ca sa) {σ2 σ1 : Hp} {r : Int32} (h8 : zk σ 0 = 8) (h1 : s_X8_undo 0  σ = some (r, σ1)) (h2 : s_X9_undo 125  σ1 = some (r, σ2)) (h9 : zk σ1 125 = 9) (kk : G E X (ca + 3) (sa + 1203) 1528 [(0, tA b), (1, tR (some 0)), (2, tR (some 125)), (3, tI (nI i))] [] σ2) : G E X ca sa 941 [(0, tA b), (1, tR (some 0)), (2, tR (some 125)), (3, tI (nI i))] [] σ := by
  refine g_aload_n (pc := 941) C 1 1 dL_law_941 rfl rfl ?_
  refine g_callV (pc := 942) (av := []) C (c_X8_undo hE h1) yv_X8_undo ml_L_118 ck_8 h8 rfl (rf_law hc (by decide) (by decide) (by decide) (by decide)) rfl (Nat.le_of_ble_eq_true rfl) dL_law_942 ?_
  refine g_widen (k := ca + 3) (n := sa + 1203) (by have e : rm_X8_undo.cells ≤ 3 := Nat.le_of_ble_eq_true rfl; omega) (by have e : rm_X8_undo.slots ≤ 1203 := Nat.le_of_ble_eq_true rfl; omega) ?_
  refine g_aload_n (pc := 945) C 2 2 dL_law_945 rfl rfl ?_
  refine g_callV (pc := 946) (av := []) C (c_X9_undo hE h2) yv_X9_undo ml_L_121 ck_9 h9 rfl (rf_law2 hc (by decide) (by decide) (by decide) (by decide)) rfl (Nat.le_of_ble_eq_true rfl) dL_law_946 ?_
  exact g_icmp_eq (pc := 949) C 1528 dL_law_949 (by decide) (fun _ => kk) (fun c => absurd rfl c)
set_option maxRecDepth 100000 in
theorem w_law_26 (hE : EOK E) (C : XOK E X cL_law RL 4 (some .boolean) room_1) (hs : SC E X b L xv) {i : Nat} (hi : i + 6 ≤ L) (hc : LRm ca sa) {σ2 σ1 : Hp} {r : Int32} (h8 : zk σ 0 = 8) (h1 : s_X8_soonest 0 (xv (i + 1)) (xv (i + 2)) (xv (i + 3)) σ = some (r, σ1)) (h2 : s_X9_soonest 125 (xv (i + 1)) (xv (i + 2)) (xv (i + 3)) σ1 = some (r, σ2)) (h9 : zk σ1 125 = 9) (kk : G E X (ca + 3) (sa + 1203) 1528 [(0, tA b), (1, tR (some 0)), (2, tR (some 125)), (3, tI (nI i))] [] σ2) : G E X ca sa 954 [(0, tA b), (1, tR (some 0)), (2, tR (some 125)), (3, tI (nI i))] [] σ := by
  refine g_aload_n (pc := 954) C 1 1 dL_law_954 rfl rfl ?_
  refine g_aloadB (pc := 955) C dL_law_955 rfl ?_
  refine g_iload_n (pc := 956) C 3 3 dL_law_956 rfl rfl ?_
  refine g_iconst (v := 1) (pc := 957) C dL_law_957 (by decide) ?_
  refine g_iadd (pc := 958) C dL_law_958 ?_
  refine g_sld (i := i) (k := 1) (pc := 959) C hs rfl (by omega) dL_law_959 ?_
  refine g_aloadB (pc := 960) C dL_law_960 rfl ?_
  refine g_iload_n (pc := 961) C 3 3 dL_law_961 rfl rfl ?_
  refine g_iconst (v := 2) (pc := 962) C dL_law_962 (by decide) ?_
  refine g_iadd (pc := 963) C dL_law_963 ?_
  refine g_sld (i := i) (k := 2) (pc := 964) C hs rfl (by omega) dL_law_964 ?_
  refine g_aloadB (pc := 965) C dL_law_965 rfl ?_
  refine g_iload_n (pc := 966) C 3 3 dL_law_966 rfl rfl ?_
  refine g_iconst (v := 3) (pc := 967) C dL_law_967 (by decide) ?_
  refine g_iadd (pc := 968) C dL_law_968 ?_
  refine g_sld (i := i) (k := 3) (pc := 969) C hs rfl (by omega) dL_law_969 ?_
  refine g_callV (pc := 970) (av := [tI (xv (i + 1)), tI (xv (i + 2)), tI (xv (i + 3))]) C (c_X8_soonest hE h1) yv_X8_soonest ml_L_122 ck_8 h8 rfl (rf_law hc (by decide) (by decide) (by decide) (by decide)) rfl (Nat.le_of_ble_eq_true rfl) dL_law_970 ?_
  refine g_widen (k := ca + 3) (n := sa + 1203) (by have e : rm_X8_soonest.cells ≤ 3 := Nat.le_of_ble_eq_true rfl; omega) (by have e : rm_X8_soonest.slots ≤ 1203 := Nat.le_of_ble_eq_true rfl; omega) ?_
  refine g_aload_n (pc := 973) C 2 2 dL_law_973 rfl rfl ?_
  refine g_aloadB (pc := 974) C dL_law_974 rfl ?_
  refine g_iload_n (pc := 975) C 3 3 dL_law_975 rfl rfl ?_
  refine g_iconst (v := 1) (pc := 976) C dL_law_976 (by decide) ?_
  refine g_iadd (pc := 977) C dL_law_977 ?_
  refine g_sld (i := i) (k := 1) (pc := 978) C hs rfl (by omega) dL_law_978 ?_
  refine g_aloadB (pc := 979) C dL_law_979 rfl ?_
  refine g_iload_n (pc := 980) C 3 3 dL_law_980 rfl rfl ?_
  refine g_iconst (v := 2) (pc := 981) C dL_law_981 (by decide) ?_
  refine g_iadd (pc := 982) C dL_law_982 ?_
  refine g_sld (i := i) (k := 2) (pc := 983) C hs rfl (by omega) dL_law_983 ?_
  refine g_aloadB (pc := 984) C dL_law_984 rfl ?_
  refine g_iload_n (pc := 985) C 3 3 dL_law_985 rfl rfl ?_
  refine g_iconst (v := 3) (pc := 986) C dL_law_986 (by decide) ?_
  refine g_iadd (pc := 987) C dL_law_987 ?_
  refine g_sld (i := i) (k := 3) (pc := 988) C hs rfl (by omega) dL_law_988 ?_
  refine g_callV (pc := 989) (av := [tI (xv (i + 1)), tI (xv (i + 2)), tI (xv (i + 3))]) C (c_X9_soonest hE h2) yv_X9_soonest ml_L_125 ck_9 h9 rfl (rf_law2 hc (by decide) (by decide) (by decide) (by decide)) rfl (Nat.le_of_ble_eq_true rfl) dL_law_989 ?_
  exact g_icmp_eq (pc := 992) C 1528 dL_law_992 (by decide) (fun _ => kk) (fun c => absurd rfl c)
set_option maxRecDepth 100000 in
theorem w_law_27 (hE : EOK E) (C : XOK E X cL_law RL 4 (some .boolean) room_1) (hs : SC E X b L xv) {i : Nat} (hi : i + 6 ≤ L) (hc : LRm ca sa) {σ2 σ1 : Hp} {r : Int32} (h8 : zk σ 0 = 8) (h1 : s_X8_near 0 (xv (i + 1)) (xv (i + 2)) σ = some (r, σ1)) (h2 : s_X9_near 125 (xv (i + 1)) (xv (i + 2)) σ1 = some (r, σ2)) (h9 : zk σ1 125 = 9) (kk : G E X (ca + 3) (sa + 1203) 1528 [(0, tA b), (1, tR (some 0)), (2, tR (some 125)), (3, tI (nI i))] [] σ2) : G E X ca sa 997 [(0, tA b), (1, tR (some 0)), (2, tR (some 125)), (3, tI (nI i))] [] σ := by
  refine g_aload_n (pc := 997) C 1 1 dL_law_997 rfl rfl ?_
  refine g_aloadB (pc := 998) C dL_law_998 rfl ?_
  refine g_iload_n (pc := 999) C 3 3 dL_law_999 rfl rfl ?_
  refine g_iconst (v := 1) (pc := 1000) C dL_law_1000 (by decide) ?_
  refine g_iadd (pc := 1001) C dL_law_1001 ?_
  refine g_sld (i := i) (k := 1) (pc := 1002) C hs rfl (by omega) dL_law_1002 ?_
  refine g_aloadB (pc := 1003) C dL_law_1003 rfl ?_
  refine g_iload_n (pc := 1004) C 3 3 dL_law_1004 rfl rfl ?_
  refine g_iconst (v := 2) (pc := 1005) C dL_law_1005 (by decide) ?_
  refine g_iadd (pc := 1006) C dL_law_1006 ?_
  refine g_sld (i := i) (k := 2) (pc := 1007) C hs rfl (by omega) dL_law_1007 ?_
  refine g_callV (pc := 1008) (av := [tI (xv (i + 1)), tI (xv (i + 2))]) C (c_X8_near hE h1) yv_X8_near ml_L_126 ck_8 h8 rfl (rf_law hc (by decide) (by decide) (by decide) (by decide)) rfl (Nat.le_of_ble_eq_true rfl) dL_law_1008 ?_
  refine g_widen (k := ca + 3) (n := sa + 1203) (by have e : rm_X8_near.cells ≤ 3 := Nat.le_of_ble_eq_true rfl; omega) (by have e : rm_X8_near.slots ≤ 1203 := Nat.le_of_ble_eq_true rfl; omega) ?_
  refine g_aload_n (pc := 1011) C 2 2 dL_law_1011 rfl rfl ?_
  refine g_aloadB (pc := 1012) C dL_law_1012 rfl ?_
  refine g_iload_n (pc := 1013) C 3 3 dL_law_1013 rfl rfl ?_
  refine g_iconst (v := 1) (pc := 1014) C dL_law_1014 (by decide) ?_
  refine g_iadd (pc := 1015) C dL_law_1015 ?_
  refine g_sld (i := i) (k := 1) (pc := 1016) C hs rfl (by omega) dL_law_1016 ?_
  refine g_aloadB (pc := 1017) C dL_law_1017 rfl ?_
  refine g_iload_n (pc := 1018) C 3 3 dL_law_1018 rfl rfl ?_
  refine g_iconst (v := 2) (pc := 1019) C dL_law_1019 (by decide) ?_
  refine g_iadd (pc := 1020) C dL_law_1020 ?_
  refine g_sld (i := i) (k := 2) (pc := 1021) C hs rfl (by omega) dL_law_1021 ?_
  refine g_callV (pc := 1022) (av := [tI (xv (i + 1)), tI (xv (i + 2))]) C (c_X9_near hE h2) yv_X9_near ml_L_129 ck_9 h9 rfl (rf_law2 hc (by decide) (by decide) (by decide) (by decide)) rfl (Nat.le_of_ble_eq_true rfl) dL_law_1022 ?_
  exact g_icmp_eq (pc := 1025) C 1528 dL_law_1025 (by decide) (fun _ => kk) (fun c => absurd rfl c)
set_option maxRecDepth 100000 in
theorem w_law_28 (hE : EOK E) (C : XOK E X cL_law RL 4 (some .boolean) room_1) (hs : SC E X b L xv) {i : Nat} (hi : i + 6 ≤ L) (hc : LRm ca sa) {σ2 σ1 : Hp} {r : Int32} (h8 : zk σ 0 = 8) (h1 : s_X8_cut 0 (xv (i + 1)) (xv (i + 2)) (xv (i + 3)) σ = some (r, σ1)) (h2 : s_X9_cut 125 (xv (i + 1)) (xv (i + 2)) (xv (i + 3)) σ1 = some (r, σ2)) (h9 : zk σ1 125 = 9) (kk : G E X (ca + 3) (sa + 1203) 1528 [(0, tA b), (1, tR (some 0)), (2, tR (some 125)), (3, tI (nI i))] [] σ2) : G E X ca sa 1030 [(0, tA b), (1, tR (some 0)), (2, tR (some 125)), (3, tI (nI i))] [] σ := by
  refine g_aload_n (pc := 1030) C 1 1 dL_law_1030 rfl rfl ?_
  refine g_aloadB (pc := 1031) C dL_law_1031 rfl ?_
  refine g_iload_n (pc := 1032) C 3 3 dL_law_1032 rfl rfl ?_
  refine g_iconst (v := 1) (pc := 1033) C dL_law_1033 (by decide) ?_
  refine g_iadd (pc := 1034) C dL_law_1034 ?_
  refine g_sld (i := i) (k := 1) (pc := 1035) C hs rfl (by omega) dL_law_1035 ?_
  refine g_aloadB (pc := 1036) C dL_law_1036 rfl ?_
  refine g_iload_n (pc := 1037) C 3 3 dL_law_1037 rfl rfl ?_
  refine g_iconst (v := 2) (pc := 1038) C dL_law_1038 (by decide) ?_
  refine g_iadd (pc := 1039) C dL_law_1039 ?_
  refine g_sld (i := i) (k := 2) (pc := 1040) C hs rfl (by omega) dL_law_1040 ?_
  refine g_aloadB (pc := 1041) C dL_law_1041 rfl ?_
  refine g_iload_n (pc := 1042) C 3 3 dL_law_1042 rfl rfl ?_
  refine g_iconst (v := 3) (pc := 1043) C dL_law_1043 (by decide) ?_
  refine g_iadd (pc := 1044) C dL_law_1044 ?_
  refine g_sld (i := i) (k := 3) (pc := 1045) C hs rfl (by omega) dL_law_1045 ?_
  refine g_callV (pc := 1046) (av := [tI (xv (i + 1)), tI (xv (i + 2)), tI (xv (i + 3))]) C (c_X8_cut hE h1) yv_X8_cut ml_L_130 ck_8 h8 rfl (rf_law hc (by decide) (by decide) (by decide) (by decide)) rfl (Nat.le_of_ble_eq_true rfl) dL_law_1046 ?_
  refine g_widen (k := ca + 3) (n := sa + 1203) (by have e : rm_X8_cut.cells ≤ 3 := Nat.le_of_ble_eq_true rfl; omega) (by have e : rm_X8_cut.slots ≤ 1203 := Nat.le_of_ble_eq_true rfl; omega) ?_
  refine g_aload_n (pc := 1049) C 2 2 dL_law_1049 rfl rfl ?_
  refine g_aloadB (pc := 1050) C dL_law_1050 rfl ?_
  refine g_iload_n (pc := 1051) C 3 3 dL_law_1051 rfl rfl ?_
  refine g_iconst (v := 1) (pc := 1052) C dL_law_1052 (by decide) ?_
  refine g_iadd (pc := 1053) C dL_law_1053 ?_
  refine g_sld (i := i) (k := 1) (pc := 1054) C hs rfl (by omega) dL_law_1054 ?_
  refine g_aloadB (pc := 1055) C dL_law_1055 rfl ?_
  refine g_iload_n (pc := 1056) C 3 3 dL_law_1056 rfl rfl ?_
  refine g_iconst (v := 2) (pc := 1057) C dL_law_1057 (by decide) ?_
  refine g_iadd (pc := 1058) C dL_law_1058 ?_
  refine g_sld (i := i) (k := 2) (pc := 1059) C hs rfl (by omega) dL_law_1059 ?_
  refine g_aloadB (pc := 1060) C dL_law_1060 rfl ?_
  refine g_iload_n (pc := 1061) C 3 3 dL_law_1061 rfl rfl ?_
  refine g_iconst (v := 3) (pc := 1062) C dL_law_1062 (by decide) ?_
  refine g_iadd (pc := 1063) C dL_law_1063 ?_
  refine g_sld (i := i) (k := 3) (pc := 1064) C hs rfl (by omega) dL_law_1064 ?_
  refine g_callV (pc := 1065) (av := [tI (xv (i + 1)), tI (xv (i + 2)), tI (xv (i + 3))]) C (c_X9_cut hE h2) yv_X9_cut ml_L_133 ck_9 h9 rfl (rf_law2 hc (by decide) (by decide) (by decide) (by decide)) rfl (Nat.le_of_ble_eq_true rfl) dL_law_1065 ?_
  exact g_icmp_eq (pc := 1068) C 1528 dL_law_1068 (by decide) (fun _ => kk) (fun c => absurd rfl c)
set_option maxRecDepth 100000 in
theorem w_law_29 (hE : EOK E) (C : XOK E X cL_law RL 4 (some .boolean) room_1) (hs : SC E X b L xv) {i : Nat} (hi : i + 6 ≤ L) (hc : LRm ca sa) {σ2 σ1 : Hp} {r : Int32} (h8 : zk σ 0 = 8) (h1 : s_X8_roost 0 (xv (i + 1)) σ = some (r, σ1)) (h2 : s_X9_roost 125 (xv (i + 1)) σ1 = some (r, σ2)) (h9 : zk σ1 125 = 9) (kk : G E X (ca + 3) (sa + 1203) 1528 [(0, tA b), (1, tR (some 0)), (2, tR (some 125)), (3, tI (nI i))] [] σ2) : G E X ca sa 1073 [(0, tA b), (1, tR (some 0)), (2, tR (some 125)), (3, tI (nI i))] [] σ := by
  refine g_aload_n (pc := 1073) C 1 1 dL_law_1073 rfl rfl ?_
  refine g_aloadB (pc := 1074) C dL_law_1074 rfl ?_
  refine g_iload_n (pc := 1075) C 3 3 dL_law_1075 rfl rfl ?_
  refine g_iconst (v := 1) (pc := 1076) C dL_law_1076 (by decide) ?_
  refine g_iadd (pc := 1077) C dL_law_1077 ?_
  refine g_sld (i := i) (k := 1) (pc := 1078) C hs rfl (by omega) dL_law_1078 ?_
  refine g_callV (pc := 1079) (av := [tI (xv (i + 1))]) C (c_X8_roost hE h1) yv_X8_roost ml_L_134 ck_8 h8 rfl (rf_law hc (by decide) (by decide) (by decide) (by decide)) rfl (Nat.le_of_ble_eq_true rfl) dL_law_1079 ?_
  refine g_widen (k := ca + 3) (n := sa + 1203) (by have e : rm_X8_roost.cells ≤ 3 := Nat.le_of_ble_eq_true rfl; omega) (by have e : rm_X8_roost.slots ≤ 1203 := Nat.le_of_ble_eq_true rfl; omega) ?_
  refine g_aload_n (pc := 1082) C 2 2 dL_law_1082 rfl rfl ?_
  refine g_aloadB (pc := 1083) C dL_law_1083 rfl ?_
  refine g_iload_n (pc := 1084) C 3 3 dL_law_1084 rfl rfl ?_
  refine g_iconst (v := 1) (pc := 1085) C dL_law_1085 (by decide) ?_
  refine g_iadd (pc := 1086) C dL_law_1086 ?_
  refine g_sld (i := i) (k := 1) (pc := 1087) C hs rfl (by omega) dL_law_1087 ?_
  refine g_callV (pc := 1088) (av := [tI (xv (i + 1))]) C (c_X9_roost hE h2) yv_X9_roost ml_L_137 ck_9 h9 rfl (rf_law2 hc (by decide) (by decide) (by decide) (by decide)) rfl (Nat.le_of_ble_eq_true rfl) dL_law_1088 ?_
  exact g_icmp_eq (pc := 1091) C 1528 dL_law_1091 (by decide) (fun _ => kk) (fun c => absurd rfl c)
set_option maxRecDepth 100000 in
theorem w_law_30 (hE : EOK E) (C : XOK E X cL_law RL 4 (some .boolean) room_1) (hs : SC E X b L xv) {i : Nat} (hi : i + 6 ≤ L) (hc : LRm ca sa) {σ2 σ1 : Hp} {r : Int32} (h8 : zk σ 0 = 8) (h1 : s_X8_where 0 (xv (i + 1)) (xv (i + 2)) σ = some (r, σ1)) (h2 : s_X9_where 125 (xv (i + 1)) (xv (i + 2)) σ1 = some (r, σ2)) (h9 : zk σ1 125 = 9) (kk : G E X (ca + 3) (sa + 1203) 1528 [(0, tA b), (1, tR (some 0)), (2, tR (some 125)), (3, tI (nI i))] [] σ2) : G E X ca sa 1096 [(0, tA b), (1, tR (some 0)), (2, tR (some 125)), (3, tI (nI i))] [] σ := by
  refine g_aload_n (pc := 1096) C 1 1 dL_law_1096 rfl rfl ?_
  refine g_aloadB (pc := 1097) C dL_law_1097 rfl ?_
  refine g_iload_n (pc := 1098) C 3 3 dL_law_1098 rfl rfl ?_
  refine g_iconst (v := 1) (pc := 1099) C dL_law_1099 (by decide) ?_
  refine g_iadd (pc := 1100) C dL_law_1100 ?_
  refine g_sld (i := i) (k := 1) (pc := 1101) C hs rfl (by omega) dL_law_1101 ?_
  refine g_aloadB (pc := 1102) C dL_law_1102 rfl ?_
  refine g_iload_n (pc := 1103) C 3 3 dL_law_1103 rfl rfl ?_
  refine g_iconst (v := 2) (pc := 1104) C dL_law_1104 (by decide) ?_
  refine g_iadd (pc := 1105) C dL_law_1105 ?_
  refine g_sld (i := i) (k := 2) (pc := 1106) C hs rfl (by omega) dL_law_1106 ?_
  refine g_callV (pc := 1107) (av := [tI (xv (i + 1)), tI (xv (i + 2))]) C (c_X8_where hE h1) yv_X8_where ml_L_138 ck_8 h8 rfl (rf_law hc (by decide) (by decide) (by decide) (by decide)) rfl (Nat.le_of_ble_eq_true rfl) dL_law_1107 ?_
  refine g_widen (k := ca + 3) (n := sa + 1203) (by have e : rm_X8_where.cells ≤ 3 := Nat.le_of_ble_eq_true rfl; omega) (by have e : rm_X8_where.slots ≤ 1203 := Nat.le_of_ble_eq_true rfl; omega) ?_
  refine g_aload_n (pc := 1110) C 2 2 dL_law_1110 rfl rfl ?_
  refine g_aloadB (pc := 1111) C dL_law_1111 rfl ?_
  refine g_iload_n (pc := 1112) C 3 3 dL_law_1112 rfl rfl ?_
  refine g_iconst (v := 1) (pc := 1113) C dL_law_1113 (by decide) ?_
  refine g_iadd (pc := 1114) C dL_law_1114 ?_
  refine g_sld (i := i) (k := 1) (pc := 1115) C hs rfl (by omega) dL_law_1115 ?_
  refine g_aloadB (pc := 1116) C dL_law_1116 rfl ?_
  refine g_iload_n (pc := 1117) C 3 3 dL_law_1117 rfl rfl ?_
  refine g_iconst (v := 2) (pc := 1118) C dL_law_1118 (by decide) ?_
  refine g_iadd (pc := 1119) C dL_law_1119 ?_
  refine g_sld (i := i) (k := 2) (pc := 1120) C hs rfl (by omega) dL_law_1120 ?_
  refine g_callV (pc := 1121) (av := [tI (xv (i + 1)), tI (xv (i + 2))]) C (c_X9_where hE h2) yv_X9_where ml_L_141 ck_9 h9 rfl (rf_law2 hc (by decide) (by decide) (by decide) (by decide)) rfl (Nat.le_of_ble_eq_true rfl) dL_law_1121 ?_
  exact g_icmp_eq (pc := 1124) C 1528 dL_law_1124 (by decide) (fun _ => kk) (fun c => absurd rfl c)
set_option maxRecDepth 100000 in
theorem w_law_31 (hE : EOK E) (C : XOK E X cL_law RL 4 (some .boolean) room_1) (hs : SC E X b L xv) {i : Nat} (hi : i + 6 ≤ L) (hc : LRm ca sa) {σ2 σ1 : Hp} {r : Int32} (h8 : zk σ 0 = 8) (h1 : s_X8_meeting 0 (xv (i + 1)) (xv (i + 2)) σ = some (r, σ1)) (h2 : s_X9_meeting 125 (xv (i + 1)) (xv (i + 2)) σ1 = some (r, σ2)) (h9 : zk σ1 125 = 9) (kk : G E X (ca + 3) (sa + 1203) 1528 [(0, tA b), (1, tR (some 0)), (2, tR (some 125)), (3, tI (nI i))] [] σ2) : G E X ca sa 1129 [(0, tA b), (1, tR (some 0)), (2, tR (some 125)), (3, tI (nI i))] [] σ := by
  refine g_aload_n (pc := 1129) C 1 1 dL_law_1129 rfl rfl ?_
  refine g_aloadB (pc := 1130) C dL_law_1130 rfl ?_
  refine g_iload_n (pc := 1131) C 3 3 dL_law_1131 rfl rfl ?_
  refine g_iconst (v := 1) (pc := 1132) C dL_law_1132 (by decide) ?_
  refine g_iadd (pc := 1133) C dL_law_1133 ?_
  refine g_sld (i := i) (k := 1) (pc := 1134) C hs rfl (by omega) dL_law_1134 ?_
  refine g_aloadB (pc := 1135) C dL_law_1135 rfl ?_
  refine g_iload_n (pc := 1136) C 3 3 dL_law_1136 rfl rfl ?_
  refine g_iconst (v := 2) (pc := 1137) C dL_law_1137 (by decide) ?_
  refine g_iadd (pc := 1138) C dL_law_1138 ?_
  refine g_sld (i := i) (k := 2) (pc := 1139) C hs rfl (by omega) dL_law_1139 ?_
  refine g_callV (pc := 1140) (av := [tI (xv (i + 1)), tI (xv (i + 2))]) C (c_X8_meeting hE h1) yv_X8_meeting ml_L_142 ck_8 h8 rfl (rf_law hc (by decide) (by decide) (by decide) (by decide)) rfl (Nat.le_of_ble_eq_true rfl) dL_law_1140 ?_
  refine g_widen (k := ca + 3) (n := sa + 1203) (by have e : rm_X8_meeting.cells ≤ 3 := Nat.le_of_ble_eq_true rfl; omega) (by have e : rm_X8_meeting.slots ≤ 1203 := Nat.le_of_ble_eq_true rfl; omega) ?_
  refine g_aload_n (pc := 1143) C 2 2 dL_law_1143 rfl rfl ?_
  refine g_aloadB (pc := 1144) C dL_law_1144 rfl ?_
  refine g_iload_n (pc := 1145) C 3 3 dL_law_1145 rfl rfl ?_
  refine g_iconst (v := 1) (pc := 1146) C dL_law_1146 (by decide) ?_
  refine g_iadd (pc := 1147) C dL_law_1147 ?_
  refine g_sld (i := i) (k := 1) (pc := 1148) C hs rfl (by omega) dL_law_1148 ?_
  refine g_aloadB (pc := 1149) C dL_law_1149 rfl ?_
  refine g_iload_n (pc := 1150) C 3 3 dL_law_1150 rfl rfl ?_
  refine g_iconst (v := 2) (pc := 1151) C dL_law_1151 (by decide) ?_
  refine g_iadd (pc := 1152) C dL_law_1152 ?_
  refine g_sld (i := i) (k := 2) (pc := 1153) C hs rfl (by omega) dL_law_1153 ?_
  refine g_callV (pc := 1154) (av := [tI (xv (i + 1)), tI (xv (i + 2))]) C (c_X9_meeting hE h2) yv_X9_meeting ml_L_145 ck_9 h9 rfl (rf_law2 hc (by decide) (by decide) (by decide) (by decide)) rfl (Nat.le_of_ble_eq_true rfl) dL_law_1154 ?_
  exact g_icmp_eq (pc := 1157) C 1528 dL_law_1157 (by decide) (fun _ => kk) (fun c => absurd rfl c)
set_option maxRecDepth 100000 in
theorem w_law_32 (hE : EOK E) (C : XOK E X cL_law RL 4 (some .boolean) room_1) (hs : SC E X b L xv) {i : Nat} (hi : i + 6 ≤ L) (hc : LRm ca sa) {σ2 σ1 : Hp} {r : Int32} (h8 : zk σ 0 = 8) (h1 : s_X8_free 0 (xv (i + 1)) σ = some (r, σ1)) (h2 : s_X9_free 125 (xv (i + 1)) σ1 = some (r, σ2)) (h9 : zk σ1 125 = 9) (kk : G E X (ca + 3) (sa + 1203) 1528 [(0, tA b), (1, tR (some 0)), (2, tR (some 125)), (3, tI (nI i))] [] σ2) : G E X ca sa 1162 [(0, tA b), (1, tR (some 0)), (2, tR (some 125)), (3, tI (nI i))] [] σ := by
  refine g_aload_n (pc := 1162) C 1 1 dL_law_1162 rfl rfl ?_
  refine g_aloadB (pc := 1163) C dL_law_1163 rfl ?_
  refine g_iload_n (pc := 1164) C 3 3 dL_law_1164 rfl rfl ?_
  refine g_iconst (v := 1) (pc := 1165) C dL_law_1165 (by decide) ?_
  refine g_iadd (pc := 1166) C dL_law_1166 ?_
  refine g_sld (i := i) (k := 1) (pc := 1167) C hs rfl (by omega) dL_law_1167 ?_
  refine g_callV (pc := 1168) (av := [tI (xv (i + 1))]) C (c_X8_free hE h1) yv_X8_free ml_L_146 ck_8 h8 rfl (rf_law hc (by decide) (by decide) (by decide) (by decide)) rfl (Nat.le_of_ble_eq_true rfl) dL_law_1168 ?_
  refine g_widen (k := ca + 3) (n := sa + 1203) (by have e : rm_X8_free.cells ≤ 3 := Nat.le_of_ble_eq_true rfl; omega) (by have e : rm_X8_free.slots ≤ 1203 := Nat.le_of_ble_eq_true rfl; omega) ?_
  refine g_aload_n (pc := 1171) C 2 2 dL_law_1171 rfl rfl ?_
  refine g_aloadB (pc := 1172) C dL_law_1172 rfl ?_
  refine g_iload_n (pc := 1173) C 3 3 dL_law_1173 rfl rfl ?_
  refine g_iconst (v := 1) (pc := 1174) C dL_law_1174 (by decide) ?_
  refine g_iadd (pc := 1175) C dL_law_1175 ?_
  refine g_sld (i := i) (k := 1) (pc := 1176) C hs rfl (by omega) dL_law_1176 ?_
  refine g_callV (pc := 1177) (av := [tI (xv (i + 1))]) C (c_X9_free hE h2) yv_X9_free ml_L_149 ck_9 h9 rfl (rf_law2 hc (by decide) (by decide) (by decide) (by decide)) rfl (Nat.le_of_ble_eq_true rfl) dL_law_1177 ?_
  exact g_icmp_eq (pc := 1180) C 1528 dL_law_1180 (by decide) (fun _ => kk) (fun c => absurd rfl c)
set_option maxRecDepth 100000 in
theorem w_law_33 (hE : EOK E) (C : XOK E X cL_law RL 4 (some .boolean) room_1) (hs : SC E X b L xv) {i : Nat} (hi : i + 6 ≤ L) (hc : LRm ca sa) {σ2 σ1 : Hp} {r : Int32} (h8 : zk σ 0 = 8) (h1 : s_X8_shares 0 (xv (i + 1)) σ = some (r, σ1)) (h2 : s_X9_shares 125 (xv (i + 1)) σ1 = some (r, σ2)) (h9 : zk σ1 125 = 9) (kk : G E X (ca + 3) (sa + 1203) 1528 [(0, tA b), (1, tR (some 0)), (2, tR (some 125)), (3, tI (nI i))] [] σ2) : G E X ca sa 1185 [(0, tA b), (1, tR (some 0)), (2, tR (some 125)), (3, tI (nI i))] [] σ := by
  refine g_aload_n (pc := 1185) C 1 1 dL_law_1185 rfl rfl ?_
  refine g_aloadB (pc := 1186) C dL_law_1186 rfl ?_
  refine g_iload_n (pc := 1187) C 3 3 dL_law_1187 rfl rfl ?_
  refine g_iconst (v := 1) (pc := 1188) C dL_law_1188 (by decide) ?_
  refine g_iadd (pc := 1189) C dL_law_1189 ?_
  refine g_sld (i := i) (k := 1) (pc := 1190) C hs rfl (by omega) dL_law_1190 ?_
  refine g_callV (pc := 1191) (av := [tI (xv (i + 1))]) C (c_X8_shares hE h1) yv_X8_shares ml_L_150 ck_8 h8 rfl (rf_law hc (by decide) (by decide) (by decide) (by decide)) rfl (Nat.le_of_ble_eq_true rfl) dL_law_1191 ?_
  refine g_widen (k := ca + 3) (n := sa + 1203) (by have e : rm_X8_shares.cells ≤ 3 := Nat.le_of_ble_eq_true rfl; omega) (by have e : rm_X8_shares.slots ≤ 1203 := Nat.le_of_ble_eq_true rfl; omega) ?_
  refine g_aload_n (pc := 1194) C 2 2 dL_law_1194 rfl rfl ?_
  refine g_aloadB (pc := 1195) C dL_law_1195 rfl ?_
  refine g_iload_n (pc := 1196) C 3 3 dL_law_1196 rfl rfl ?_
  refine g_iconst (v := 1) (pc := 1197) C dL_law_1197 (by decide) ?_
  refine g_iadd (pc := 1198) C dL_law_1198 ?_
  refine g_sld (i := i) (k := 1) (pc := 1199) C hs rfl (by omega) dL_law_1199 ?_
  refine g_callV (pc := 1200) (av := [tI (xv (i + 1))]) C (c_X9_shares hE h2) yv_X9_shares ml_L_153 ck_9 h9 rfl (rf_law2 hc (by decide) (by decide) (by decide) (by decide)) rfl (Nat.le_of_ble_eq_true rfl) dL_law_1200 ?_
  exact g_icmp_eq (pc := 1203) C 1528 dL_law_1203 (by decide) (fun _ => kk) (fun c => absurd rfl c)
set_option maxRecDepth 100000 in
theorem w_law_34 (hE : EOK E) (C : XOK E X cL_law RL 4 (some .boolean) room_1) (hs : SC E X b L xv) {i : Nat} (hi : i + 6 ≤ L) (hc : LRm ca sa) {σ2 σ1 : Hp} {r : Int32} (h8 : zk σ 0 = 8) (h1 : s_X8_low 0 (xv (i + 1)) σ = some (r, σ1)) (h2 : s_X9_low 125 (xv (i + 1)) σ1 = some (r, σ2)) (h9 : zk σ1 125 = 9) (kk : G E X (ca + 3) (sa + 1203) 1528 [(0, tA b), (1, tR (some 0)), (2, tR (some 125)), (3, tI (nI i))] [] σ2) : G E X ca sa 1208 [(0, tA b), (1, tR (some 0)), (2, tR (some 125)), (3, tI (nI i))] [] σ := by
  refine g_aload_n (pc := 1208) C 1 1 dL_law_1208 rfl rfl ?_
  refine g_aloadB (pc := 1209) C dL_law_1209 rfl ?_
  refine g_iload_n (pc := 1210) C 3 3 dL_law_1210 rfl rfl ?_
  refine g_iconst (v := 1) (pc := 1211) C dL_law_1211 (by decide) ?_
  refine g_iadd (pc := 1212) C dL_law_1212 ?_
  refine g_sld (i := i) (k := 1) (pc := 1213) C hs rfl (by omega) dL_law_1213 ?_
  refine g_callV (pc := 1214) (av := [tI (xv (i + 1))]) C (c_X8_low hE h1) yv_X8_low ml_L_154 ck_8 h8 rfl (rf_law hc (by decide) (by decide) (by decide) (by decide)) rfl (Nat.le_of_ble_eq_true rfl) dL_law_1214 ?_
  refine g_widen (k := ca + 3) (n := sa + 1203) (by have e : rm_X8_low.cells ≤ 3 := Nat.le_of_ble_eq_true rfl; omega) (by have e : rm_X8_low.slots ≤ 1203 := Nat.le_of_ble_eq_true rfl; omega) ?_
  refine g_aload_n (pc := 1217) C 2 2 dL_law_1217 rfl rfl ?_
  refine g_aloadB (pc := 1218) C dL_law_1218 rfl ?_
  refine g_iload_n (pc := 1219) C 3 3 dL_law_1219 rfl rfl ?_
  refine g_iconst (v := 1) (pc := 1220) C dL_law_1220 (by decide) ?_
  refine g_iadd (pc := 1221) C dL_law_1221 ?_
  refine g_sld (i := i) (k := 1) (pc := 1222) C hs rfl (by omega) dL_law_1222 ?_
  refine g_callV (pc := 1223) (av := [tI (xv (i + 1))]) C (c_X9_low hE h2) yv_X9_low ml_L_157 ck_9 h9 rfl (rf_law2 hc (by decide) (by decide) (by decide) (by decide)) rfl (Nat.le_of_ble_eq_true rfl) dL_law_1223 ?_
  exact g_icmp_eq (pc := 1226) C 1528 dL_law_1226 (by decide) (fun _ => kk) (fun c => absurd rfl c)
set_option maxRecDepth 100000 in
theorem w_law_35 (hE : EOK E) (C : XOK E X cL_law RL 4 (some .boolean) room_1) (hs : SC E X b L xv) {i : Nat} (hi : i + 6 ≤ L) (hc : LRm ca sa) {σ2 σ1 : Hp} {r : Int32} (h8 : zk σ 0 = 8) (h1 : s_X8_seen 0 (xv (i + 1)) (xv (i + 2)) σ = some (r, σ1)) (h2 : s_X9_seen 125 (xv (i + 1)) (xv (i + 2)) σ1 = some (r, σ2)) (h9 : zk σ1 125 = 9) (kk : G E X (ca + 3) (sa + 1203) 1528 [(0, tA b), (1, tR (some 0)), (2, tR (some 125)), (3, tI (nI i))] [] σ2) : G E X ca sa 1231 [(0, tA b), (1, tR (some 0)), (2, tR (some 125)), (3, tI (nI i))] [] σ := by
  refine g_aload_n (pc := 1231) C 1 1 dL_law_1231 rfl rfl ?_
  refine g_aloadB (pc := 1232) C dL_law_1232 rfl ?_
  refine g_iload_n (pc := 1233) C 3 3 dL_law_1233 rfl rfl ?_
  refine g_iconst (v := 1) (pc := 1234) C dL_law_1234 (by decide) ?_
  refine g_iadd (pc := 1235) C dL_law_1235 ?_
  refine g_sld (i := i) (k := 1) (pc := 1236) C hs rfl (by omega) dL_law_1236 ?_
  refine g_aloadB (pc := 1237) C dL_law_1237 rfl ?_
  refine g_iload_n (pc := 1238) C 3 3 dL_law_1238 rfl rfl ?_
  refine g_iconst (v := 2) (pc := 1239) C dL_law_1239 (by decide) ?_
  refine g_iadd (pc := 1240) C dL_law_1240 ?_
  refine g_sld (i := i) (k := 2) (pc := 1241) C hs rfl (by omega) dL_law_1241 ?_
  refine g_callV (pc := 1242) (av := [tI (xv (i + 1)), tI (xv (i + 2))]) C (c_X8_seen hE h1) yv_X8_seen ml_L_158 ck_8 h8 rfl (rf_law hc (by decide) (by decide) (by decide) (by decide)) rfl (Nat.le_of_ble_eq_true rfl) dL_law_1242 ?_
  refine g_widen (k := ca + 3) (n := sa + 1203) (by have e : rm_X8_seen.cells ≤ 3 := Nat.le_of_ble_eq_true rfl; omega) (by have e : rm_X8_seen.slots ≤ 1203 := Nat.le_of_ble_eq_true rfl; omega) ?_
  refine g_aload_n (pc := 1245) C 2 2 dL_law_1245 rfl rfl ?_
  refine g_aloadB (pc := 1246) C dL_law_1246 rfl ?_
  refine g_iload_n (pc := 1247) C 3 3 dL_law_1247 rfl rfl ?_
  refine g_iconst (v := 1) (pc := 1248) C dL_law_1248 (by decide) ?_
  refine g_iadd (pc := 1249) C dL_law_1249 ?_
  refine g_sld (i := i) (k := 1) (pc := 1250) C hs rfl (by omega) dL_law_1250 ?_
  refine g_aloadB (pc := 1251) C dL_law_1251 rfl ?_
  refine g_iload_n (pc := 1252) C 3 3 dL_law_1252 rfl rfl ?_
  refine g_iconst (v := 2) (pc := 1253) C dL_law_1253 (by decide) ?_
  refine g_iadd (pc := 1254) C dL_law_1254 ?_
  refine g_sld (i := i) (k := 2) (pc := 1255) C hs rfl (by omega) dL_law_1255 ?_
  refine g_callV (pc := 1256) (av := [tI (xv (i + 1)), tI (xv (i + 2))]) C (c_X9_seen hE h2) yv_X9_seen ml_L_161 ck_9 h9 rfl (rf_law2 hc (by decide) (by decide) (by decide) (by decide)) rfl (Nat.le_of_ble_eq_true rfl) dL_law_1256 ?_
  exact g_icmp_eq (pc := 1259) C 1528 dL_law_1259 (by decide) (fun _ => kk) (fun c => absurd rfl c)
set_option maxRecDepth 100000 in
theorem w_law_36 (hE : EOK E) (C : XOK E X cL_law RL 4 (some .boolean) room_1) (hs : SC E X b L xv) {i : Nat} (hi : i + 6 ≤ L) (hc : LRm ca sa) {σ2 σ1 : Hp} {r : Int32} (h8 : zk σ 0 = 8) (h1 : s_X8_forget 0  σ = some (r, σ1)) (h2 : s_X9_forget 125  σ1 = some (r, σ2)) (h9 : zk σ1 125 = 9) (kk : G E X (ca + 3) (sa + 1203) 1528 [(0, tA b), (1, tR (some 0)), (2, tR (some 125)), (3, tI (nI i))] [] σ2) : G E X ca sa 1264 [(0, tA b), (1, tR (some 0)), (2, tR (some 125)), (3, tI (nI i))] [] σ := by
  refine g_aload_n (pc := 1264) C 1 1 dL_law_1264 rfl rfl ?_
  refine g_callV (pc := 1265) (av := []) C (c_X8_forget hE h1) yv_X8_forget ml_L_162 ck_8 h8 rfl (rf_law hc (by decide) (by decide) (by decide) (by decide)) rfl (Nat.le_of_ble_eq_true rfl) dL_law_1265 ?_
  refine g_widen (k := ca + 3) (n := sa + 1203) (by have e : rm_X8_forget.cells ≤ 3 := Nat.le_of_ble_eq_true rfl; omega) (by have e : rm_X8_forget.slots ≤ 1203 := Nat.le_of_ble_eq_true rfl; omega) ?_
  refine g_aload_n (pc := 1268) C 2 2 dL_law_1268 rfl rfl ?_
  refine g_callV (pc := 1269) (av := []) C (c_X9_forget hE h2) yv_X9_forget ml_L_165 ck_9 h9 rfl (rf_law2 hc (by decide) (by decide) (by decide) (by decide)) rfl (Nat.le_of_ble_eq_true rfl) dL_law_1269 ?_
  exact g_icmp_eq (pc := 1272) C 1528 dL_law_1272 (by decide) (fun _ => kk) (fun c => absurd rfl c)
set_option maxRecDepth 100000 in
theorem w_law_37 (hE : EOK E) (C : XOK E X cL_law RL 4 (some .boolean) room_1) (hs : SC E X b L xv) {i : Nat} (hi : i + 6 ≤ L) (hc : LRm ca sa) {σ2 σ1 : Hp} {r : Int32} (h8 : zk σ 0 = 8) (h1 : s_X8_canBe 0  σ = some (r, σ1)) (h2 : s_X9_canBe 125  σ1 = some (r, σ2)) (h9 : zk σ1 125 = 9) (kk : G E X (ca + 3) (sa + 1203) 1528 [(0, tA b), (1, tR (some 0)), (2, tR (some 125)), (3, tI (nI i))] [] σ2) : G E X ca sa 1277 [(0, tA b), (1, tR (some 0)), (2, tR (some 125)), (3, tI (nI i))] [] σ := by
  refine g_aload_n (pc := 1277) C 1 1 dL_law_1277 rfl rfl ?_
  refine g_callV (pc := 1278) (av := []) C (c_X8_canBe hE h1) yv_X8_canBe ml_L_166 ck_8 h8 rfl (rf_law hc (by decide) (by decide) (by decide) (by decide)) rfl (Nat.le_of_ble_eq_true rfl) dL_law_1278 ?_
  refine g_widen (k := ca + 3) (n := sa + 1203) (by have e : rm_X8_canBe.cells ≤ 3 := Nat.le_of_ble_eq_true rfl; omega) (by have e : rm_X8_canBe.slots ≤ 1203 := Nat.le_of_ble_eq_true rfl; omega) ?_
  refine g_aload_n (pc := 1281) C 2 2 dL_law_1281 rfl rfl ?_
  refine g_callV (pc := 1282) (av := []) C (c_X9_canBe hE h2) yv_X9_canBe ml_L_169 ck_9 h9 rfl (rf_law2 hc (by decide) (by decide) (by decide) (by decide)) rfl (Nat.le_of_ble_eq_true rfl) dL_law_1282 ?_
  exact g_icmp_eq (pc := 1285) C 1528 dL_law_1285 (by decide) (fun _ => kk) (fun c => absurd rfl c)
set_option maxRecDepth 100000 in
theorem w_law_38 (hE : EOK E) (C : XOK E X cL_law RL 4 (some .boolean) room_1) (hs : SC E X b L xv) {i : Nat} (hi : i + 6 ≤ L) (hc : LRm ca sa) {σ2 σ1 : Hp} {r : Int32} (h8 : zk σ 0 = 8) (h1 : s_X8_look 0 (xv (i + 1)) σ = some (r, σ1)) (h2 : s_X9_look 125 (xv (i + 1)) σ1 = some (r, σ2)) (h9 : zk σ1 125 = 9) (kk : G E X (ca + 3) (sa + 1203) 1528 [(0, tA b), (1, tR (some 0)), (2, tR (some 125)), (3, tI (nI i))] [] σ2) : G E X ca sa 1290 [(0, tA b), (1, tR (some 0)), (2, tR (some 125)), (3, tI (nI i))] [] σ := by
  refine g_aload_n (pc := 1290) C 1 1 dL_law_1290 rfl rfl ?_
  refine g_aloadB (pc := 1291) C dL_law_1291 rfl ?_
  refine g_iload_n (pc := 1292) C 3 3 dL_law_1292 rfl rfl ?_
  refine g_iconst (v := 1) (pc := 1293) C dL_law_1293 (by decide) ?_
  refine g_iadd (pc := 1294) C dL_law_1294 ?_
  refine g_sld (i := i) (k := 1) (pc := 1295) C hs rfl (by omega) dL_law_1295 ?_
  refine g_callV (pc := 1296) (av := [tI (xv (i + 1))]) C (c_X8_look hE h1) yv_X8_look ml_L_170 ck_8 h8 rfl (rf_law hc (by decide) (by decide) (by decide) (by decide)) rfl (Nat.le_of_ble_eq_true rfl) dL_law_1296 ?_
  refine g_widen (k := ca + 3) (n := sa + 1203) (by have e : rm_X8_look.cells ≤ 3 := Nat.le_of_ble_eq_true rfl; omega) (by have e : rm_X8_look.slots ≤ 1203 := Nat.le_of_ble_eq_true rfl; omega) ?_
  refine g_aload_n (pc := 1299) C 2 2 dL_law_1299 rfl rfl ?_
  refine g_aloadB (pc := 1300) C dL_law_1300 rfl ?_
  refine g_iload_n (pc := 1301) C 3 3 dL_law_1301 rfl rfl ?_
  refine g_iconst (v := 1) (pc := 1302) C dL_law_1302 (by decide) ?_
  refine g_iadd (pc := 1303) C dL_law_1303 ?_
  refine g_sld (i := i) (k := 1) (pc := 1304) C hs rfl (by omega) dL_law_1304 ?_
  refine g_callV (pc := 1305) (av := [tI (xv (i + 1))]) C (c_X9_look hE h2) yv_X9_look ml_L_173 ck_9 h9 rfl (rf_law2 hc (by decide) (by decide) (by decide) (by decide)) rfl (Nat.le_of_ble_eq_true rfl) dL_law_1305 ?_
  exact g_icmp_eq (pc := 1308) C 1528 dL_law_1308 (by decide) (fun _ => kk) (fun c => absurd rfl c)
set_option maxRecDepth 100000 in
theorem w_law_39 (hE : EOK E) (C : XOK E X cL_law RL 4 (some .boolean) room_1) (hs : SC E X b L xv) {i : Nat} (hi : i + 6 ≤ L) (hc : LRm ca sa) {σ2 σ1 : Hp} {r : Int64} (h8 : zk σ 0 = 8) (h1 : s_X8_few 0 (xv (i + 1)) (xv (i + 2)) σ = some (r, σ1)) (h2 : s_X9_few 125 (xv (i + 1)) (xv (i + 2)) σ1 = some (r, σ2)) (h9 : zk σ1 125 = 9) (kk : G E X (ca + 3) (sa + 1203) 1528 [(0, tA b), (1, tR (some 0)), (2, tR (some 125)), (3, tI (nI i))] [] σ2) : G E X ca sa 1313 [(0, tA b), (1, tR (some 0)), (2, tR (some 125)), (3, tI (nI i))] [] σ := by
  refine g_aload_n (pc := 1313) C 1 1 dL_law_1313 rfl rfl ?_
  refine g_aloadB (pc := 1314) C dL_law_1314 rfl ?_
  refine g_iload_n (pc := 1315) C 3 3 dL_law_1315 rfl rfl ?_
  refine g_iconst (v := 1) (pc := 1316) C dL_law_1316 (by decide) ?_
  refine g_iadd (pc := 1317) C dL_law_1317 ?_
  refine g_sld (i := i) (k := 1) (pc := 1318) C hs rfl (by omega) dL_law_1318 ?_
  refine g_aloadB (pc := 1319) C dL_law_1319 rfl ?_
  refine g_iload_n (pc := 1320) C 3 3 dL_law_1320 rfl rfl ?_
  refine g_iconst (v := 2) (pc := 1321) C dL_law_1321 (by decide) ?_
  refine g_iadd (pc := 1322) C dL_law_1322 ?_
  refine g_sld (i := i) (k := 2) (pc := 1323) C hs rfl (by omega) dL_law_1323 ?_
  refine g_callV (pc := 1324) (av := [tI (xv (i + 1)), tI (xv (i + 2))]) C (c_X8_few hE h1) yv_X8_few ml_L_174 ck_8 h8 rfl (rf_law hc (by decide) (by decide) (by decide) (by decide)) rfl (Nat.le_of_ble_eq_true rfl) dL_law_1324 ?_
  refine g_widen (k := ca + 3) (n := sa + 1203) (by have e : rm_X8_few.cells ≤ 3 := Nat.le_of_ble_eq_true rfl; omega) (by have e : rm_X8_few.slots ≤ 1203 := Nat.le_of_ble_eq_true rfl; omega) ?_
  refine g_aload_n (pc := 1327) C 2 2 dL_law_1327 rfl rfl ?_
  refine g_aloadB (pc := 1328) C dL_law_1328 rfl ?_
  refine g_iload_n (pc := 1329) C 3 3 dL_law_1329 rfl rfl ?_
  refine g_iconst (v := 1) (pc := 1330) C dL_law_1330 (by decide) ?_
  refine g_iadd (pc := 1331) C dL_law_1331 ?_
  refine g_sld (i := i) (k := 1) (pc := 1332) C hs rfl (by omega) dL_law_1332 ?_
  refine g_aloadB (pc := 1333) C dL_law_1333 rfl ?_
  refine g_iload_n (pc := 1334) C 3 3 dL_law_1334 rfl rfl ?_
  refine g_iconst (v := 2) (pc := 1335) C dL_law_1335 (by decide) ?_
  refine g_iadd (pc := 1336) C dL_law_1336 ?_
  refine g_sld (i := i) (k := 2) (pc := 1337) C hs rfl (by omega) dL_law_1337 ?_
  refine g_callV (pc := 1338) (av := [tI (xv (i + 1)), tI (xv (i + 2))]) C (c_X9_few hE h2) yv_X9_few ml_L_178 ck_9 h9 rfl (rf_law2 hc (by decide) (by decide) (by decide) (by decide)) rfl (Nat.le_of_ble_eq_true rfl) dL_law_1338 ?_
  refine g_lcmp (pc := 1341) C dL_law_1341 ?_
  rw [lg_self]
  exact g_if_eq (pc := 1342) C 1528 dL_law_1342 (by decide) (fun _ => kk) (fun c => absurd rfl c)
set_option maxRecDepth 100000 in
theorem w_law_40 (hE : EOK E) (C : XOK E X cL_law RL 4 (some .boolean) room_1) (hs : SC E X b L xv) {i : Nat} (hi : i + 6 ≤ L) (hc : LRm ca sa) {σ2 σ1 : Hp} {r : Int32} (h8 : zk σ 0 = 8) (h1 : s_X8_compare 0 (xv (i + 1)) (xv (i + 2)) σ = some (r, σ1)) (h2 : s_X9_compare 125 (xv (i + 1)) (xv (i + 2)) σ1 = some (r, σ2)) (h9 : zk σ1 125 = 9) (kk : G E X (ca + 3) (sa + 1203) 1528 [(0, tA b), (1, tR (some 0)), (2, tR (some 125)), (3, tI (nI i))] [] σ2) : G E X ca sa 1347 [(0, tA b), (1, tR (some 0)), (2, tR (some 125)), (3, tI (nI i))] [] σ := by
  refine g_aload_n (pc := 1347) C 1 1 dL_law_1347 rfl rfl ?_
  refine g_aloadB (pc := 1348) C dL_law_1348 rfl ?_
  refine g_iload_n (pc := 1349) C 3 3 dL_law_1349 rfl rfl ?_
  refine g_iconst (v := 1) (pc := 1350) C dL_law_1350 (by decide) ?_
  refine g_iadd (pc := 1351) C dL_law_1351 ?_
  refine g_sld (i := i) (k := 1) (pc := 1352) C hs rfl (by omega) dL_law_1352 ?_
  refine g_aloadB (pc := 1353) C dL_law_1353 rfl ?_
  refine g_iload_n (pc := 1354) C 3 3 dL_law_1354 rfl rfl ?_
  refine g_iconst (v := 2) (pc := 1355) C dL_law_1355 (by decide) ?_
  refine g_iadd (pc := 1356) C dL_law_1356 ?_
  refine g_sld (i := i) (k := 2) (pc := 1357) C hs rfl (by omega) dL_law_1357 ?_
  refine g_callV (pc := 1358) (av := [tI (xv (i + 1)), tI (xv (i + 2))]) C (c_X8_compare hE h1) yv_X8_compare ml_L_179 ck_8 h8 rfl (rf_law hc (by decide) (by decide) (by decide) (by decide)) rfl (Nat.le_of_ble_eq_true rfl) dL_law_1358 ?_
  refine g_widen (k := ca + 3) (n := sa + 1203) (by have e : rm_X8_compare.cells ≤ 3 := Nat.le_of_ble_eq_true rfl; omega) (by have e : rm_X8_compare.slots ≤ 1203 := Nat.le_of_ble_eq_true rfl; omega) ?_
  refine g_aload_n (pc := 1361) C 2 2 dL_law_1361 rfl rfl ?_
  refine g_aloadB (pc := 1362) C dL_law_1362 rfl ?_
  refine g_iload_n (pc := 1363) C 3 3 dL_law_1363 rfl rfl ?_
  refine g_iconst (v := 1) (pc := 1364) C dL_law_1364 (by decide) ?_
  refine g_iadd (pc := 1365) C dL_law_1365 ?_
  refine g_sld (i := i) (k := 1) (pc := 1366) C hs rfl (by omega) dL_law_1366 ?_
  refine g_aloadB (pc := 1367) C dL_law_1367 rfl ?_
  refine g_iload_n (pc := 1368) C 3 3 dL_law_1368 rfl rfl ?_
  refine g_iconst (v := 2) (pc := 1369) C dL_law_1369 (by decide) ?_
  refine g_iadd (pc := 1370) C dL_law_1370 ?_
  refine g_sld (i := i) (k := 2) (pc := 1371) C hs rfl (by omega) dL_law_1371 ?_
  refine g_callV (pc := 1372) (av := [tI (xv (i + 1)), tI (xv (i + 2))]) C (c_X9_compare hE h2) yv_X9_compare ml_L_182 ck_9 h9 rfl (rf_law2 hc (by decide) (by decide) (by decide) (by decide)) rfl (Nat.le_of_ble_eq_true rfl) dL_law_1372 ?_
  exact g_icmp_eq (pc := 1375) C 1528 dL_law_1375 (by decide) (fun _ => kk) (fun c => absurd rfl c)
set_option maxRecDepth 100000 in
theorem w_law_41 (hE : EOK E) (C : XOK E X cL_law RL 4 (some .boolean) room_1) (hs : SC E X b L xv) {i : Nat} (hi : i + 6 ≤ L) (hc : LRm ca sa) {σ2 σ1 : Hp} {r : Int32} (h8 : zk σ 0 = 8) (h1 : s_X8_dusks 0 (xv (i + 1)) (xv (i + 2)) σ = some (r, σ1)) (h2 : s_X9_dusks 125 (xv (i + 1)) (xv (i + 2)) σ1 = some (r, σ2)) (h9 : zk σ1 125 = 9) (kk : G E X (ca + 3) (sa + 1203) 1528 [(0, tA b), (1, tR (some 0)), (2, tR (some 125)), (3, tI (nI i))] [] σ2) : G E X ca sa 1380 [(0, tA b), (1, tR (some 0)), (2, tR (some 125)), (3, tI (nI i))] [] σ := by
  refine g_aload_n (pc := 1380) C 1 1 dL_law_1380 rfl rfl ?_
  refine g_aloadB (pc := 1381) C dL_law_1381 rfl ?_
  refine g_iload_n (pc := 1382) C 3 3 dL_law_1382 rfl rfl ?_
  refine g_iconst (v := 1) (pc := 1383) C dL_law_1383 (by decide) ?_
  refine g_iadd (pc := 1384) C dL_law_1384 ?_
  refine g_sld (i := i) (k := 1) (pc := 1385) C hs rfl (by omega) dL_law_1385 ?_
  refine g_aloadB (pc := 1386) C dL_law_1386 rfl ?_
  refine g_iload_n (pc := 1387) C 3 3 dL_law_1387 rfl rfl ?_
  refine g_iconst (v := 2) (pc := 1388) C dL_law_1388 (by decide) ?_
  refine g_iadd (pc := 1389) C dL_law_1389 ?_
  refine g_sld (i := i) (k := 2) (pc := 1390) C hs rfl (by omega) dL_law_1390 ?_
  refine g_callV (pc := 1391) (av := [tI (xv (i + 1)), tI (xv (i + 2))]) C (c_X8_dusks hE h1) yv_X8_dusks ml_L_183 ck_8 h8 rfl (rf_law hc (by decide) (by decide) (by decide) (by decide)) rfl (Nat.le_of_ble_eq_true rfl) dL_law_1391 ?_
  refine g_widen (k := ca + 3) (n := sa + 1203) (by have e : rm_X8_dusks.cells ≤ 3 := Nat.le_of_ble_eq_true rfl; omega) (by have e : rm_X8_dusks.slots ≤ 1203 := Nat.le_of_ble_eq_true rfl; omega) ?_
  refine g_aload_n (pc := 1394) C 2 2 dL_law_1394 rfl rfl ?_
  refine g_aloadB (pc := 1395) C dL_law_1395 rfl ?_
  refine g_iload_n (pc := 1396) C 3 3 dL_law_1396 rfl rfl ?_
  refine g_iconst (v := 1) (pc := 1397) C dL_law_1397 (by decide) ?_
  refine g_iadd (pc := 1398) C dL_law_1398 ?_
  refine g_sld (i := i) (k := 1) (pc := 1399) C hs rfl (by omega) dL_law_1399 ?_
  refine g_aloadB (pc := 1400) C dL_law_1400 rfl ?_
  refine g_iload_n (pc := 1401) C 3 3 dL_law_1401 rfl rfl ?_
  refine g_iconst (v := 2) (pc := 1402) C dL_law_1402 (by decide) ?_
  refine g_iadd (pc := 1403) C dL_law_1403 ?_
  refine g_sld (i := i) (k := 2) (pc := 1404) C hs rfl (by omega) dL_law_1404 ?_
  refine g_callV (pc := 1405) (av := [tI (xv (i + 1)), tI (xv (i + 2))]) C (c_X9_dusks hE h2) yv_X9_dusks ml_L_186 ck_9 h9 rfl (rf_law2 hc (by decide) (by decide) (by decide) (by decide)) rfl (Nat.le_of_ble_eq_true rfl) dL_law_1405 ?_
  exact g_icmp_eq (pc := 1408) C 1528 dL_law_1408 (by decide) (fun _ => kk) (fun c => absurd rfl c)
set_option maxRecDepth 100000 in
theorem w_law_42 (hE : EOK E) (C : XOK E X cL_law RL 4 (some .boolean) room_1) (hs : SC E X b L xv) {i : Nat} (hi : i + 6 ≤ L) (hc : LRm ca sa) {σ2 σ1 : Hp} {r : Int32} (h8 : zk σ 0 = 8) (h1 : s_X8_drawn 0 (xv (i + 1)) (xv (i + 2)) σ = some (r, σ1)) (h2 : s_X9_drawn 125 (xv (i + 1)) (xv (i + 2)) σ1 = some (r, σ2)) (h9 : zk σ1 125 = 9) (kk : G E X (ca + 3) (sa + 1203) 1528 [(0, tA b), (1, tR (some 0)), (2, tR (some 125)), (3, tI (nI i))] [] σ2) : G E X ca sa 1413 [(0, tA b), (1, tR (some 0)), (2, tR (some 125)), (3, tI (nI i))] [] σ := by
  refine g_aload_n (pc := 1413) C 1 1 dL_law_1413 rfl rfl ?_
  refine g_aloadB (pc := 1414) C dL_law_1414 rfl ?_
  refine g_iload_n (pc := 1415) C 3 3 dL_law_1415 rfl rfl ?_
  refine g_iconst (v := 1) (pc := 1416) C dL_law_1416 (by decide) ?_
  refine g_iadd (pc := 1417) C dL_law_1417 ?_
  refine g_sld (i := i) (k := 1) (pc := 1418) C hs rfl (by omega) dL_law_1418 ?_
  refine g_aloadB (pc := 1419) C dL_law_1419 rfl ?_
  refine g_iload_n (pc := 1420) C 3 3 dL_law_1420 rfl rfl ?_
  refine g_iconst (v := 2) (pc := 1421) C dL_law_1421 (by decide) ?_
  refine g_iadd (pc := 1422) C dL_law_1422 ?_
  refine g_sld (i := i) (k := 2) (pc := 1423) C hs rfl (by omega) dL_law_1423 ?_
  refine g_callV (pc := 1424) (av := [tI (xv (i + 1)), tI (xv (i + 2))]) C (c_X8_drawn hE h1) yv_X8_drawn ml_L_187 ck_8 h8 rfl (rf_law hc (by decide) (by decide) (by decide) (by decide)) rfl (Nat.le_of_ble_eq_true rfl) dL_law_1424 ?_
  refine g_widen (k := ca + 3) (n := sa + 1203) (by have e : rm_X8_drawn.cells ≤ 3 := Nat.le_of_ble_eq_true rfl; omega) (by have e : rm_X8_drawn.slots ≤ 1203 := Nat.le_of_ble_eq_true rfl; omega) ?_
  refine g_aload_n (pc := 1427) C 2 2 dL_law_1427 rfl rfl ?_
  refine g_aloadB (pc := 1428) C dL_law_1428 rfl ?_
  refine g_iload_n (pc := 1429) C 3 3 dL_law_1429 rfl rfl ?_
  refine g_iconst (v := 1) (pc := 1430) C dL_law_1430 (by decide) ?_
  refine g_iadd (pc := 1431) C dL_law_1431 ?_
  refine g_sld (i := i) (k := 1) (pc := 1432) C hs rfl (by omega) dL_law_1432 ?_
  refine g_aloadB (pc := 1433) C dL_law_1433 rfl ?_
  refine g_iload_n (pc := 1434) C 3 3 dL_law_1434 rfl rfl ?_
  refine g_iconst (v := 2) (pc := 1435) C dL_law_1435 (by decide) ?_
  refine g_iadd (pc := 1436) C dL_law_1436 ?_
  refine g_sld (i := i) (k := 2) (pc := 1437) C hs rfl (by omega) dL_law_1437 ?_
  refine g_callV (pc := 1438) (av := [tI (xv (i + 1)), tI (xv (i + 2))]) C (c_X9_drawn hE h2) yv_X9_drawn ml_L_190 ck_9 h9 rfl (rf_law2 hc (by decide) (by decide) (by decide) (by decide)) rfl (Nat.le_of_ble_eq_true rfl) dL_law_1438 ?_
  exact g_icmp_eq (pc := 1441) C 1528 dL_law_1441 (by decide) (fun _ => kk) (fun c => absurd rfl c)
set_option maxRecDepth 100000 in
theorem w_law_43 (hE : EOK E) (C : XOK E X cL_law RL 4 (some .boolean) room_1) (hs : SC E X b L xv) {i : Nat} (hi : i + 6 ≤ L) (hc : LRm ca sa) {σ2 σ1 : Hp} {r : Int32} (h8 : zk σ 0 = 8) (h1 : s_X8_image 0 (xv (i + 1)) σ = some (r, σ1)) (h2 : s_X9_image 125 (xv (i + 1)) σ1 = some (r, σ2)) (h9 : zk σ1 125 = 9) (kk : G E X (ca + 3) (sa + 1203) 1528 [(0, tA b), (1, tR (some 0)), (2, tR (some 125)), (3, tI (nI i))] [] σ2) : G E X ca sa 1446 [(0, tA b), (1, tR (some 0)), (2, tR (some 125)), (3, tI (nI i))] [] σ := by
  refine g_aload_n (pc := 1446) C 1 1 dL_law_1446 rfl rfl ?_
  refine g_aloadB (pc := 1447) C dL_law_1447 rfl ?_
  refine g_iload_n (pc := 1448) C 3 3 dL_law_1448 rfl rfl ?_
  refine g_iconst (v := 1) (pc := 1449) C dL_law_1449 (by decide) ?_
  refine g_iadd (pc := 1450) C dL_law_1450 ?_
  refine g_sld (i := i) (k := 1) (pc := 1451) C hs rfl (by omega) dL_law_1451 ?_
  refine g_callV (pc := 1452) (av := [tI (xv (i + 1))]) C (c_X8_image hE h1) yv_X8_image ml_L_191 ck_8 h8 rfl (rf_law hc (by decide) (by decide) (by decide) (by decide)) rfl (Nat.le_of_ble_eq_true rfl) dL_law_1452 ?_
  refine g_widen (k := ca + 3) (n := sa + 1203) (by have e : rm_X8_image.cells ≤ 3 := Nat.le_of_ble_eq_true rfl; omega) (by have e : rm_X8_image.slots ≤ 1203 := Nat.le_of_ble_eq_true rfl; omega) ?_
  refine g_aload_n (pc := 1455) C 2 2 dL_law_1455 rfl rfl ?_
  refine g_aloadB (pc := 1456) C dL_law_1456 rfl ?_
  refine g_iload_n (pc := 1457) C 3 3 dL_law_1457 rfl rfl ?_
  refine g_iconst (v := 1) (pc := 1458) C dL_law_1458 (by decide) ?_
  refine g_iadd (pc := 1459) C dL_law_1459 ?_
  refine g_sld (i := i) (k := 1) (pc := 1460) C hs rfl (by omega) dL_law_1460 ?_
  refine g_callV (pc := 1461) (av := [tI (xv (i + 1))]) C (c_X9_image hE h2) yv_X9_image ml_L_194 ck_9 h9 rfl (rf_law2 hc (by decide) (by decide) (by decide) (by decide)) rfl (Nat.le_of_ble_eq_true rfl) dL_law_1461 ?_
  exact g_icmp_eq (pc := 1464) C 1528 dL_law_1464 (by decide) (fun _ => kk) (fun c => absurd rfl c)
set_option maxRecDepth 100000 in
theorem w_law_44 (hE : EOK E) (C : XOK E X cL_law RL 4 (some .boolean) room_1) (hs : SC E X b L xv) {i : Nat} (hi : i + 6 ≤ L) (hc : LRm ca sa) {σ2 σ1 : Hp} {r : Int32} (h8 : zk σ 0 = 8) (h1 : s_X8_back 0 (xv (i + 1)) σ = some (r, σ1)) (h2 : s_X9_back 125 (xv (i + 1)) σ1 = some (r, σ2)) (h9 : zk σ1 125 = 9) (kk : G E X (ca + 3) (sa + 1203) 1528 [(0, tA b), (1, tR (some 0)), (2, tR (some 125)), (3, tI (nI i))] [] σ2) : G E X ca sa 1469 [(0, tA b), (1, tR (some 0)), (2, tR (some 125)), (3, tI (nI i))] [] σ := by
  refine g_aload_n (pc := 1469) C 1 1 dL_law_1469 rfl rfl ?_
  refine g_aloadB (pc := 1470) C dL_law_1470 rfl ?_
  refine g_iload_n (pc := 1471) C 3 3 dL_law_1471 rfl rfl ?_
  refine g_iconst (v := 1) (pc := 1472) C dL_law_1472 (by decide) ?_
  refine g_iadd (pc := 1473) C dL_law_1473 ?_
  refine g_sld (i := i) (k := 1) (pc := 1474) C hs rfl (by omega) dL_law_1474 ?_
  refine g_callV (pc := 1475) (av := [tI (xv (i + 1))]) C (c_X8_back hE h1) yv_X8_back ml_L_195 ck_8 h8 rfl (rf_law hc (by decide) (by decide) (by decide) (by decide)) rfl (Nat.le_of_ble_eq_true rfl) dL_law_1475 ?_
  refine g_widen (k := ca + 3) (n := sa + 1203) (by have e : rm_X8_back.cells ≤ 3 := Nat.le_of_ble_eq_true rfl; omega) (by have e : rm_X8_back.slots ≤ 1203 := Nat.le_of_ble_eq_true rfl; omega) ?_
  refine g_aload_n (pc := 1478) C 2 2 dL_law_1478 rfl rfl ?_
  refine g_aloadB (pc := 1479) C dL_law_1479 rfl ?_
  refine g_iload_n (pc := 1480) C 3 3 dL_law_1480 rfl rfl ?_
  refine g_iconst (v := 1) (pc := 1481) C dL_law_1481 (by decide) ?_
  refine g_iadd (pc := 1482) C dL_law_1482 ?_
  refine g_sld (i := i) (k := 1) (pc := 1483) C hs rfl (by omega) dL_law_1483 ?_
  refine g_callV (pc := 1484) (av := [tI (xv (i + 1))]) C (c_X9_back hE h2) yv_X9_back ml_L_198 ck_9 h9 rfl (rf_law2 hc (by decide) (by decide) (by decide) (by decide)) rfl (Nat.le_of_ble_eq_true rfl) dL_law_1484 ?_
  exact g_icmp_eq (pc := 1487) C 1528 dL_law_1487 (by decide) (fun _ => kk) (fun c => absurd rfl c)
set_option maxRecDepth 100000 in
theorem w_law_45 (hE : EOK E) (C : XOK E X cL_law RL 4 (some .boolean) room_1) (hs : SC E X b L xv) {i : Nat} (hi : i + 6 ≤ L) (hc : LRm ca sa) {σ2 σ1 : Hp} {r : Int32} (h8 : zk σ 0 = 8) (h1 : s_X8_count 0 (xv (i + 1)) σ = some (r, σ1)) (h2 : s_X9_count 125 (xv (i + 1)) σ1 = some (r, σ2)) (h9 : zk σ1 125 = 9) (kk : G E X (ca + 3) (sa + 1203) 1528 [(0, tA b), (1, tR (some 0)), (2, tR (some 125)), (3, tI (nI i))] [] σ2) : G E X ca sa 1492 [(0, tA b), (1, tR (some 0)), (2, tR (some 125)), (3, tI (nI i))] [] σ := by
  refine g_aload_n (pc := 1492) C 1 1 dL_law_1492 rfl rfl ?_
  refine g_aloadB (pc := 1493) C dL_law_1493 rfl ?_
  refine g_iload_n (pc := 1494) C 3 3 dL_law_1494 rfl rfl ?_
  refine g_iconst (v := 1) (pc := 1495) C dL_law_1495 (by decide) ?_
  refine g_iadd (pc := 1496) C dL_law_1496 ?_
  refine g_sld (i := i) (k := 1) (pc := 1497) C hs rfl (by omega) dL_law_1497 ?_
  refine g_callV (pc := 1498) (av := [tI (xv (i + 1))]) C (c_X8_count hE h1) yv_X8_count ml_L_199 ck_8 h8 rfl (rf_law hc (by decide) (by decide) (by decide) (by decide)) rfl (Nat.le_of_ble_eq_true rfl) dL_law_1498 ?_
  refine g_widen (k := ca + 3) (n := sa + 1203) (by have e : rm_X8_count.cells ≤ 3 := Nat.le_of_ble_eq_true rfl; omega) (by have e : rm_X8_count.slots ≤ 1203 := Nat.le_of_ble_eq_true rfl; omega) ?_
  refine g_aload_n (pc := 1501) C 2 2 dL_law_1501 rfl rfl ?_
  refine g_aloadB (pc := 1502) C dL_law_1502 rfl ?_
  refine g_iload_n (pc := 1503) C 3 3 dL_law_1503 rfl rfl ?_
  refine g_iconst (v := 1) (pc := 1504) C dL_law_1504 (by decide) ?_
  refine g_iadd (pc := 1505) C dL_law_1505 ?_
  refine g_sld (i := i) (k := 1) (pc := 1506) C hs rfl (by omega) dL_law_1506 ?_
  refine g_callV (pc := 1507) (av := [tI (xv (i + 1))]) C (c_X9_count hE h2) yv_X9_count ml_L_202 ck_9 h9 rfl (rf_law2 hc (by decide) (by decide) (by decide) (by decide)) rfl (Nat.le_of_ble_eq_true rfl) dL_law_1507 ?_
  exact g_icmp_eq (pc := 1510) C 1528 dL_law_1510 (by decide) (fun _ => kk) (fun c => absurd rfl c)
set_option maxRecDepth 100000 in
theorem w_law_46 (hE : EOK E) (C : XOK E X cL_law RL 4 (some .boolean) room_1) (hs : SC E X b L xv) {i : Nat} (hi : i + 6 ≤ L) (hc : LRm ca sa) {σ2 σ1 : Hp} {r : Int32} (h8 : zk σ 0 = 8) (h1 : s_X8_status 0  σ = some (r, σ1)) (h2 : s_X9_status 125  σ1 = some (r, σ2)) (h9 : zk σ1 125 = 9) (kk : G E X (ca + 3) (sa + 1203) 1528 [(0, tA b), (1, tR (some 0)), (2, tR (some 125)), (3, tI (nI i))] [] σ2) : G E X ca sa 1515 [(0, tA b), (1, tR (some 0)), (2, tR (some 125)), (3, tI (nI i))] [] σ := by
  refine g_aload_n (pc := 1515) C 1 1 dL_law_1515 rfl rfl ?_
  refine g_callV (pc := 1516) (av := []) C (c_X8_status hE h1) yv_X8_status ml_L_203 ck_8 h8 rfl (rf_law hc (by decide) (by decide) (by decide) (by decide)) rfl (Nat.le_of_ble_eq_true rfl) dL_law_1516 ?_
  refine g_widen (k := ca + 3) (n := sa + 1203) (by have e : rm_X8_status.cells ≤ 3 := Nat.le_of_ble_eq_true rfl; omega) (by have e : rm_X8_status.slots ≤ 1203 := Nat.le_of_ble_eq_true rfl; omega) ?_
  refine g_aload_n (pc := 1519) C 2 2 dL_law_1519 rfl rfl ?_
  refine g_callV (pc := 1520) (av := []) C (c_X9_status hE h2) yv_X9_status ml_L_206 ck_9 h9 rfl (rf_law2 hc (by decide) (by decide) (by decide) (by decide)) rfl (Nat.le_of_ble_eq_true rfl) dL_law_1520 ?_
  exact g_icmp_eq (pc := 1523) C 1528 dL_law_1523 (by decide) (fun _ => kk) (fun c => absurd rfl c)
set_option maxRecDepth 100000 in
theorem w_law_turn (hE : EOK E) (C : XOK E X cL_law RL 4 (some .boolean) room_1) (hs : SC E X b L xv) {i : Nat} (hi : i + 6 ≤ L) (hc : LRm ca sa) {σ2 : Hp} (h8 : zk σ 0 = 8) (h : SO (xv i &&& 63) (xv (i + 1)) (xv (i + 2)) (xv (i + 3)) (xv (i + 4)) (xv (i + 5)) σ σ2) (kk : G E X (ca + 3) (sa + 1203) 1528 [(0, tA b), (1, tR (some 0)), (2, tR (some 125)), (3, tI (nI i))] [] σ2) : G E X ca sa 27 [(0, tA b), (1, tR (some 0)), (2, tR (some 125)), (3, tI (nI i))] [] σ := by
  unfold SO at h
  refine g_aloadB (pc := 27) C dL_law_27 rfl ?_
  refine g_iload_n (pc := 28) C 3 3 dL_law_28 rfl rfl ?_
  refine g_sld0 (pc := 29) C hs (by omega) dL_law_29 ?_
  refine g_bipush (v := 63) (pc := 30) C dL_law_30 (by decide) ?_
  refine g_iand (pc := 32) C dL_law_32 ?_
  generalize hv : xv i &&& 63 = v at h ⊢
  by_cases c0 : v = 0
  · obtain ⟨r, σ1, h1, h2, h9⟩ := zsp_t c0 h
    refine g_tswIn (pc := 33) C 236 dL_law_33 (by rw [c0] <;> decide) (by rw [c0] <;> decide) (by rw [c0] <;> rfl) (by decide) ?_
    exact w_law_0 hE C hs hi hc h8 h1 h2 h9 kk
  have h := zsp_f c0 h
  by_cases c1 : v = 1
  · obtain ⟨r, σ1, h1, h2, h9⟩ := zsp_t c1 h
    refine g_tswIn (pc := 33) C 269 dL_law_33 (by rw [c1] <;> decide) (by rw [c1] <;> decide) (by rw [c1] <;> rfl) (by decide) ?_
    exact w_law_1 hE C hs hi hc h8 h1 h2 h9 kk
  have h := zsp_f c1 h
  by_cases c2 : v = 2
  · obtain ⟨r, σ1, h1, h2, h9⟩ := zsp_t c2 h
    refine g_tswIn (pc := 33) C 302 dL_law_33 (by rw [c2] <;> decide) (by rw [c2] <;> decide) (by rw [c2] <;> rfl) (by decide) ?_
    exact w_law_2 hE C hs hi hc h8 h1 h2 h9 kk
  have h := zsp_f c2 h
  by_cases c3 : v = 3
  · obtain ⟨r, σ1, h1, h2, h9⟩ := zsp_t c3 h
    refine g_tswIn (pc := 33) C 335 dL_law_33 (by rw [c3] <;> decide) (by rw [c3] <;> decide) (by rw [c3] <;> rfl) (by decide) ?_
    exact w_law_3 hE C hs hi hc h8 h1 h2 h9 kk
  have h := zsp_f c3 h
  by_cases c4 : v = 4
  · obtain ⟨r, σ1, h1, h2, h9⟩ := zsp_t c4 h
    refine g_tswIn (pc := 33) C 368 dL_law_33 (by rw [c4] <;> decide) (by rw [c4] <;> decide) (by rw [c4] <;> rfl) (by decide) ?_
    exact w_law_4 hE C hs hi hc h8 h1 h2 h9 kk
  have h := zsp_f c4 h
  by_cases c5 : v = 5
  · obtain ⟨r, σ1, h1, h2, h9⟩ := zsp_t c5 h
    refine g_tswIn (pc := 33) C 391 dL_law_33 (by rw [c5] <;> decide) (by rw [c5] <;> decide) (by rw [c5] <;> rfl) (by decide) ?_
    exact w_law_5 hE C hs hi hc h8 h1 h2 h9 kk
  have h := zsp_f c5 h
  by_cases c6 : v = 6
  · obtain ⟨r, σ1, h1, h2, h9⟩ := zsp_t c6 h
    refine g_tswIn (pc := 33) C 424 dL_law_33 (by rw [c6] <;> decide) (by rw [c6] <;> decide) (by rw [c6] <;> rfl) (by decide) ?_
    exact w_law_6 hE C hs hi hc h8 h1 h2 h9 kk
  have h := zsp_f c6 h
  by_cases c7 : v = 7
  · obtain ⟨r, σ1, h1, h2, h9⟩ := zsp_t c7 h
    refine g_tswIn (pc := 33) C 467 dL_law_33 (by rw [c7] <;> decide) (by rw [c7] <;> decide) (by rw [c7] <;> rfl) (by decide) ?_
    exact w_law_7 hE C hs hi hc h8 h1 h2 h9 kk
  have h := zsp_f c7 h
  by_cases c8 : v = 8
  · obtain ⟨r, σ1, h1, h2, h9⟩ := zsp_t c8 h
    refine g_tswIn (pc := 33) C 500 dL_law_33 (by rw [c8] <;> decide) (by rw [c8] <;> decide) (by rw [c8] <;> rfl) (by decide) ?_
    exact w_law_8 hE C hs hi hc h8 h1 h2 h9 kk
  have h := zsp_f c8 h
  by_cases c9 : v = 9
  · obtain ⟨r, σ1, h1, h2, h9⟩ := zsp_t c9 h
    refine g_tswIn (pc := 33) C 543 dL_law_33 (by rw [c9] <;> decide) (by rw [c9] <;> decide) (by rw [c9] <;> rfl) (by decide) ?_
    exact w_law_9 hE C hs hi hc h8 h1 h2 h9 kk
  have h := zsp_f c9 h
  by_cases c10 : v = 10
  · obtain ⟨r, σ1, h1, h2, h9⟩ := zsp_t c10 h
    refine g_tswIn (pc := 33) C 576 dL_law_33 (by rw [c10] <;> decide) (by rw [c10] <;> decide) (by rw [c10] <;> rfl) (by decide) ?_
    exact w_law_10 hE C hs hi hc h8 h1 h2 h9 kk
  have h := zsp_f c10 h
  by_cases c11 : v = 11
  · obtain ⟨r, σ1, h1, h2, h9⟩ := zsp_t c11 h
    refine g_tswIn (pc := 33) C 609 dL_law_33 (by rw [c11] <;> decide) (by rw [c11] <;> decide) (by rw [c11] <;> rfl) (by decide) ?_
    exact w_law_11 hE C hs hi hc h8 h1 h2 h9 kk
  have h := zsp_f c11 h
  by_cases c12 : v = 12
  · obtain ⟨r, σ1, h1, h2, h9⟩ := zsp_t c12 h
    refine g_tswIn (pc := 33) C 642 dL_law_33 (by rw [c12] <;> decide) (by rw [c12] <;> decide) (by rw [c12] <;> rfl) (by decide) ?_
    exact w_law_12 hE C hs hi hc h8 h1 h2 h9 kk
  have h := zsp_f c12 h
  by_cases c13 : v = 13
  · obtain ⟨r, σ1, h1, h2, h9⟩ := zsp_t c13 h
    refine g_tswIn (pc := 33) C 705 dL_law_33 (by rw [c13] <;> decide) (by rw [c13] <;> decide) (by rw [c13] <;> rfl) (by decide) ?_
    exact w_law_13 hE C hs hi hc h8 h1 h2 h9 kk
  have h := zsp_f c13 h
  by_cases c14 : v = 14
  · obtain ⟨r, σ1, h1, h2, h9⟩ := zsp_t c14 h
    refine g_tswIn (pc := 33) C 728 dL_law_33 (by rw [c14] <;> decide) (by rw [c14] <;> decide) (by rw [c14] <;> rfl) (by decide) ?_
    exact w_law_14 hE C hs hi hc h8 h1 h2 h9 kk
  have h := zsp_f c14 h
  by_cases c15 : v = 15
  · obtain ⟨r, σ1, h1, h2, h9⟩ := zsp_t c15 h
    refine g_tswIn (pc := 33) C 741 dL_law_33 (by rw [c15] <;> decide) (by rw [c15] <;> decide) (by rw [c15] <;> rfl) (by decide) ?_
    exact w_law_15 hE C hs hi hc h8 h1 h2 h9 kk
  have h := zsp_f c15 h
  by_cases c16 : v = 16
  · obtain ⟨r, σ1, h1, h2, h9⟩ := zsp_t c16 h
    refine g_tswIn (pc := 33) C 754 dL_law_33 (by rw [c16] <;> decide) (by rw [c16] <;> decide) (by rw [c16] <;> rfl) (by decide) ?_
    exact w_law_16 hE C hs hi hc h8 h1 h2 h9 kk
  have h := zsp_f c16 h
  by_cases c17 : v = 17
  · obtain ⟨r, σ1, h1, h2, h9⟩ := zsp_t c17 h
    refine g_tswIn (pc := 33) C 767 dL_law_33 (by rw [c17] <;> decide) (by rw [c17] <;> decide) (by rw [c17] <;> rfl) (by decide) ?_
    exact w_law_17 hE C hs hi hc h8 h1 h2 h9 kk
  have h := zsp_f c17 h
  by_cases c18 : v = 18
  · obtain ⟨r, σ1, h1, h2, h9⟩ := zsp_t c18 h
    refine g_tswIn (pc := 33) C 780 dL_law_33 (by rw [c18] <;> decide) (by rw [c18] <;> decide) (by rw [c18] <;> rfl) (by decide) ?_
    exact w_law_18 hE C hs hi hc h8 h1 h2 h9 kk
  have h := zsp_f c18 h
  by_cases c19 : v = 19
  · obtain ⟨r, σ1, h1, h2, h9⟩ := zsp_t c19 h
    refine g_tswIn (pc := 33) C 793 dL_law_33 (by rw [c19] <;> decide) (by rw [c19] <;> decide) (by rw [c19] <;> rfl) (by decide) ?_
    exact w_law_19 hE C hs hi hc h8 h1 h2 h9 kk
  have h := zsp_f c19 h
  by_cases c20 : v = 20
  · obtain ⟨r, σ1, h1, h2, h9⟩ := zsp_t c20 h
    refine g_tswIn (pc := 33) C 806 dL_law_33 (by rw [c20] <;> decide) (by rw [c20] <;> decide) (by rw [c20] <;> rfl) (by decide) ?_
    exact w_law_20 hE C hs hi hc h8 h1 h2 h9 kk
  have h := zsp_f c20 h
  by_cases c21 : v = 21
  · obtain ⟨r, σ1, h1, h2, h9⟩ := zsp_t c21 h
    refine g_tswIn (pc := 33) C 829 dL_law_33 (by rw [c21] <;> decide) (by rw [c21] <;> decide) (by rw [c21] <;> rfl) (by decide) ?_
    exact w_law_21 hE C hs hi hc h8 h1 h2 h9 kk
  have h := zsp_f c21 h
  by_cases c22 : v = 22
  · obtain ⟨r, σ1, h1, h2, h9⟩ := zsp_t c22 h
    refine g_tswIn (pc := 33) C 862 dL_law_33 (by rw [c22] <;> decide) (by rw [c22] <;> decide) (by rw [c22] <;> rfl) (by decide) ?_
    exact w_law_22 hE C hs hi hc h8 h1 h2 h9 kk
  have h := zsp_f c22 h
  by_cases c23 : v = 23
  · obtain ⟨r, σ1, h1, h2, h9⟩ := zsp_t c23 h
    refine g_tswIn (pc := 33) C 895 dL_law_33 (by rw [c23] <;> decide) (by rw [c23] <;> decide) (by rw [c23] <;> rfl) (by decide) ?_
    exact w_law_23 hE C hs hi hc h8 h1 h2 h9 kk
  have h := zsp_f c23 h
  by_cases c24 : v = 24
  · obtain ⟨r, σ1, h1, h2, h9⟩ := zsp_t c24 h
    refine g_tswIn (pc := 33) C 928 dL_law_33 (by rw [c24] <;> decide) (by rw [c24] <;> decide) (by rw [c24] <;> rfl) (by decide) ?_
    exact w_law_24 hE C hs hi hc h8 h1 h2 h9 kk
  have h := zsp_f c24 h
  by_cases c25 : v = 25
  · obtain ⟨r, σ1, h1, h2, h9⟩ := zsp_t c25 h
    refine g_tswIn (pc := 33) C 941 dL_law_33 (by rw [c25] <;> decide) (by rw [c25] <;> decide) (by rw [c25] <;> rfl) (by decide) ?_
    exact w_law_25 hE C hs hi hc h8 h1 h2 h9 kk
  have h := zsp_f c25 h
  by_cases c26 : v = 26
  · obtain ⟨r, σ1, h1, h2, h9⟩ := zsp_t c26 h
    refine g_tswIn (pc := 33) C 954 dL_law_33 (by rw [c26] <;> decide) (by rw [c26] <;> decide) (by rw [c26] <;> rfl) (by decide) ?_
    exact w_law_26 hE C hs hi hc h8 h1 h2 h9 kk
  have h := zsp_f c26 h
  by_cases c27 : v = 27
  · obtain ⟨r, σ1, h1, h2, h9⟩ := zsp_t c27 h
    refine g_tswIn (pc := 33) C 997 dL_law_33 (by rw [c27] <;> decide) (by rw [c27] <;> decide) (by rw [c27] <;> rfl) (by decide) ?_
    exact w_law_27 hE C hs hi hc h8 h1 h2 h9 kk
  have h := zsp_f c27 h
  by_cases c28 : v = 28
  · obtain ⟨r, σ1, h1, h2, h9⟩ := zsp_t c28 h
    refine g_tswIn (pc := 33) C 1030 dL_law_33 (by rw [c28] <;> decide) (by rw [c28] <;> decide) (by rw [c28] <;> rfl) (by decide) ?_
    exact w_law_28 hE C hs hi hc h8 h1 h2 h9 kk
  have h := zsp_f c28 h
  by_cases c29 : v = 29
  · obtain ⟨r, σ1, h1, h2, h9⟩ := zsp_t c29 h
    refine g_tswIn (pc := 33) C 1073 dL_law_33 (by rw [c29] <;> decide) (by rw [c29] <;> decide) (by rw [c29] <;> rfl) (by decide) ?_
    exact w_law_29 hE C hs hi hc h8 h1 h2 h9 kk
  have h := zsp_f c29 h
  by_cases c30 : v = 30
  · obtain ⟨r, σ1, h1, h2, h9⟩ := zsp_t c30 h
    refine g_tswIn (pc := 33) C 1096 dL_law_33 (by rw [c30] <;> decide) (by rw [c30] <;> decide) (by rw [c30] <;> rfl) (by decide) ?_
    exact w_law_30 hE C hs hi hc h8 h1 h2 h9 kk
  have h := zsp_f c30 h
  by_cases c31 : v = 31
  · obtain ⟨r, σ1, h1, h2, h9⟩ := zsp_t c31 h
    refine g_tswIn (pc := 33) C 1129 dL_law_33 (by rw [c31] <;> decide) (by rw [c31] <;> decide) (by rw [c31] <;> rfl) (by decide) ?_
    exact w_law_31 hE C hs hi hc h8 h1 h2 h9 kk
  have h := zsp_f c31 h
  by_cases c32 : v = 32
  · obtain ⟨r, σ1, h1, h2, h9⟩ := zsp_t c32 h
    refine g_tswIn (pc := 33) C 1162 dL_law_33 (by rw [c32] <;> decide) (by rw [c32] <;> decide) (by rw [c32] <;> rfl) (by decide) ?_
    exact w_law_32 hE C hs hi hc h8 h1 h2 h9 kk
  have h := zsp_f c32 h
  by_cases c33 : v = 33
  · obtain ⟨r, σ1, h1, h2, h9⟩ := zsp_t c33 h
    refine g_tswIn (pc := 33) C 1185 dL_law_33 (by rw [c33] <;> decide) (by rw [c33] <;> decide) (by rw [c33] <;> rfl) (by decide) ?_
    exact w_law_33 hE C hs hi hc h8 h1 h2 h9 kk
  have h := zsp_f c33 h
  by_cases c34 : v = 34
  · obtain ⟨r, σ1, h1, h2, h9⟩ := zsp_t c34 h
    refine g_tswIn (pc := 33) C 1208 dL_law_33 (by rw [c34] <;> decide) (by rw [c34] <;> decide) (by rw [c34] <;> rfl) (by decide) ?_
    exact w_law_34 hE C hs hi hc h8 h1 h2 h9 kk
  have h := zsp_f c34 h
  by_cases c35 : v = 35
  · obtain ⟨r, σ1, h1, h2, h9⟩ := zsp_t c35 h
    refine g_tswIn (pc := 33) C 1231 dL_law_33 (by rw [c35] <;> decide) (by rw [c35] <;> decide) (by rw [c35] <;> rfl) (by decide) ?_
    exact w_law_35 hE C hs hi hc h8 h1 h2 h9 kk
  have h := zsp_f c35 h
  by_cases c36 : v = 36
  · obtain ⟨r, σ1, h1, h2, h9⟩ := zsp_t c36 h
    refine g_tswIn (pc := 33) C 1264 dL_law_33 (by rw [c36] <;> decide) (by rw [c36] <;> decide) (by rw [c36] <;> rfl) (by decide) ?_
    exact w_law_36 hE C hs hi hc h8 h1 h2 h9 kk
  have h := zsp_f c36 h
  by_cases c37 : v = 37
  · obtain ⟨r, σ1, h1, h2, h9⟩ := zsp_t c37 h
    refine g_tswIn (pc := 33) C 1277 dL_law_33 (by rw [c37] <;> decide) (by rw [c37] <;> decide) (by rw [c37] <;> rfl) (by decide) ?_
    exact w_law_37 hE C hs hi hc h8 h1 h2 h9 kk
  have h := zsp_f c37 h
  by_cases c38 : v = 38
  · obtain ⟨r, σ1, h1, h2, h9⟩ := zsp_t c38 h
    refine g_tswIn (pc := 33) C 1290 dL_law_33 (by rw [c38] <;> decide) (by rw [c38] <;> decide) (by rw [c38] <;> rfl) (by decide) ?_
    exact w_law_38 hE C hs hi hc h8 h1 h2 h9 kk
  have h := zsp_f c38 h
  by_cases c39 : v = 39
  · obtain ⟨r, σ1, h1, h2, h9⟩ := zsp_t c39 h
    refine g_tswIn (pc := 33) C 1313 dL_law_33 (by rw [c39] <;> decide) (by rw [c39] <;> decide) (by rw [c39] <;> rfl) (by decide) ?_
    exact w_law_39 hE C hs hi hc h8 h1 h2 h9 kk
  have h := zsp_f c39 h
  by_cases c40 : v = 40
  · obtain ⟨r, σ1, h1, h2, h9⟩ := zsp_t c40 h
    refine g_tswIn (pc := 33) C 1347 dL_law_33 (by rw [c40] <;> decide) (by rw [c40] <;> decide) (by rw [c40] <;> rfl) (by decide) ?_
    exact w_law_40 hE C hs hi hc h8 h1 h2 h9 kk
  have h := zsp_f c40 h
  by_cases c41 : v = 41
  · obtain ⟨r, σ1, h1, h2, h9⟩ := zsp_t c41 h
    refine g_tswIn (pc := 33) C 1380 dL_law_33 (by rw [c41] <;> decide) (by rw [c41] <;> decide) (by rw [c41] <;> rfl) (by decide) ?_
    exact w_law_41 hE C hs hi hc h8 h1 h2 h9 kk
  have h := zsp_f c41 h
  by_cases c42 : v = 42
  · obtain ⟨r, σ1, h1, h2, h9⟩ := zsp_t c42 h
    refine g_tswIn (pc := 33) C 1413 dL_law_33 (by rw [c42] <;> decide) (by rw [c42] <;> decide) (by rw [c42] <;> rfl) (by decide) ?_
    exact w_law_42 hE C hs hi hc h8 h1 h2 h9 kk
  have h := zsp_f c42 h
  by_cases c43 : v = 43
  · obtain ⟨r, σ1, h1, h2, h9⟩ := zsp_t c43 h
    refine g_tswIn (pc := 33) C 1446 dL_law_33 (by rw [c43] <;> decide) (by rw [c43] <;> decide) (by rw [c43] <;> rfl) (by decide) ?_
    exact w_law_43 hE C hs hi hc h8 h1 h2 h9 kk
  have h := zsp_f c43 h
  by_cases c44 : v = 44
  · obtain ⟨r, σ1, h1, h2, h9⟩ := zsp_t c44 h
    refine g_tswIn (pc := 33) C 1469 dL_law_33 (by rw [c44] <;> decide) (by rw [c44] <;> decide) (by rw [c44] <;> rfl) (by decide) ?_
    exact w_law_44 hE C hs hi hc h8 h1 h2 h9 kk
  have h := zsp_f c44 h
  by_cases c45 : v = 45
  · obtain ⟨r, σ1, h1, h2, h9⟩ := zsp_t c45 h
    refine g_tswIn (pc := 33) C 1492 dL_law_33 (by rw [c45] <;> decide) (by rw [c45] <;> decide) (by rw [c45] <;> rfl) (by decide) ?_
    exact w_law_45 hE C hs hi hc h8 h1 h2 h9 kk
  have h := zsp_f c45 h
  by_cases c46 : v = 46
  · obtain ⟨r, σ1, h1, h2, h9⟩ := zsp_t c46 h
    refine g_tswIn (pc := 33) C 1515 dL_law_33 (by rw [c46] <;> decide) (by rw [c46] <;> decide) (by rw [c46] <;> rfl) (by decide) ?_
    exact w_law_46 hE C hs hi hc h8 h1 h2 h9 kk
  have h := zsp_f c46 h
  refine g_tswOut (pc := 33) C 1528 dL_law_33 (by have e0 := n32 (k := 0) (n := 0) (by decide) c0; have e1 := n32 (k := 1) (n := 1) (by decide) c1; have e2 := n32 (k := 2) (n := 2) (by decide) c2; have e3 := n32 (k := 3) (n := 3) (by decide) c3; have e4 := n32 (k := 4) (n := 4) (by decide) c4; have e5 := n32 (k := 5) (n := 5) (by decide) c5; have e6 := n32 (k := 6) (n := 6) (by decide) c6; have e7 := n32 (k := 7) (n := 7) (by decide) c7; have e8 := n32 (k := 8) (n := 8) (by decide) c8; have e9 := n32 (k := 9) (n := 9) (by decide) c9; have e10 := n32 (k := 10) (n := 10) (by decide) c10; have e11 := n32 (k := 11) (n := 11) (by decide) c11; have e12 := n32 (k := 12) (n := 12) (by decide) c12; have e13 := n32 (k := 13) (n := 13) (by decide) c13; have e14 := n32 (k := 14) (n := 14) (by decide) c14; have e15 := n32 (k := 15) (n := 15) (by decide) c15; have e16 := n32 (k := 16) (n := 16) (by decide) c16; have e17 := n32 (k := 17) (n := 17) (by decide) c17; have e18 := n32 (k := 18) (n := 18) (by decide) c18; have e19 := n32 (k := 19) (n := 19) (by decide) c19; have e20 := n32 (k := 20) (n := 20) (by decide) c20; have e21 := n32 (k := 21) (n := 21) (by decide) c21; have e22 := n32 (k := 22) (n := 22) (by decide) c22; have e23 := n32 (k := 23) (n := 23) (by decide) c23; have e24 := n32 (k := 24) (n := 24) (by decide) c24; have e25 := n32 (k := 25) (n := 25) (by decide) c25; have e26 := n32 (k := 26) (n := 26) (by decide) c26; have e27 := n32 (k := 27) (n := 27) (by decide) c27; have e28 := n32 (k := 28) (n := 28) (by decide) c28; have e29 := n32 (k := 29) (n := 29) (by decide) c29; have e30 := n32 (k := 30) (n := 30) (by decide) c30; have e31 := n32 (k := 31) (n := 31) (by decide) c31; have e32 := n32 (k := 32) (n := 32) (by decide) c32; have e33 := n32 (k := 33) (n := 33) (by decide) c33; have e34 := n32 (k := 34) (n := 34) (by decide) c34; have e35 := n32 (k := 35) (n := 35) (by decide) c35; have e36 := n32 (k := 36) (n := 36) (by decide) c36; have e37 := n32 (k := 37) (n := 37) (by decide) c37; have e38 := n32 (k := 38) (n := 38) (by decide) c38; have e39 := n32 (k := 39) (n := 39) (by decide) c39; have e40 := n32 (k := 40) (n := 40) (by decide) c40; have e41 := n32 (k := 41) (n := 41) (by decide) c41; have e42 := n32 (k := 42) (n := 42) (by decide) c42; have e43 := n32 (k := 43) (n := 43) (by decide) c43; have e44 := n32 (k := 44) (n := 44) (by decide) c44; have e45 := n32 (k := 45) (n := 45) (by decide) c45; have e46 := n32 (k := 46) (n := 46) (by decide) c46; omega) (by decide) ?_
  subst h
  exact g_widen (by omega) (by omega) kk
/-- all turns, from place i on -/
def LR (xv : Nat → Int32) : Nat → Nat → Hp → Hp → Prop
  | 0, _, σ, σf => σf = σ
  | n + 1, i, σ, σf => zk σ 0 = 8 ∧ ∃ σ2, SO (xv i &&& 63) (xv (i + 1)) (xv (i + 2)) (xv (i + 3)) (xv (i + 4)) (xv (i + 5)) σ σ2 ∧ LR xv n (i + 6) σ2 σf
set_option maxRecDepth 100000 in
theorem w_law_loop (hE : EOK E) (C : XOK E X cL_law RL 4 (some .boolean) room_1) (hs : SC E X b L xv) (hxn : xn X = (600000, 7302250)) : ∀ (n i ca sa : Nat) (σ σf : Hp), i + 6 * n ≤ L → L < i + 6 * n + 6 → ca + 3 * n ≤ 600000 → sa + 1203 * n ≤ 7302250 → LR xv n i σ σf → xd X = (some (tI 1), σf) → G E X ca sa 18 [(0, tA b), (1, tR (some 0)), (2, tR (some 125)), (3, tI (nI i))] [] σ := by
  have hL : L ≤ 3072 := hs.2.2.2
  intro n
  induction n with
  | zero =>
    intro i ca sa σ σf h1 h2 h3 h4 h5 hx
    have h5 : σf = σ := h5
    subst h5
    refine g_iload_n (pc := 18) C 3 3 dL_law_18 rfl rfl ?_
    refine g_aloadB (pc := 19) C dL_law_19 rfl ?_
    refine g_slen (pc := 20) C hs dL_law_20 ?_
    refine g_bipush (v := 6) (pc := 21) C dL_law_21 (by decide) ?_
    refine g_isub (pc := 23) C dL_law_23 ?_
    refine g_icmp_gt (pc := 24) C 1534 dL_law_24 (by decide) (fun _ => ?_) (fun c => absurd ?_ c)
    · refine g_iconst (v := 1) (pc := 1534) C dL_law_1534 (by decide) ?_
      refine g_widen (k := 600000) (n := 7302250) (by omega) (by omega) ?_
      exact g_zret (pc := 1535) C rfl hx (Or.inr rfl) (by rw [hxn]) (by rw [hxn]) dL_law_1535
    · exact law_gt (by omega) (by omega) (by omega)
  | succ n ih =>
    intro i ca sa σ σf h1 h2 h3 h4 h5 hx
    obtain ⟨h8, σ2, hso, hlr⟩ := h5
    refine g_iload_n (pc := 18) C 3 3 dL_law_18 rfl rfl ?_
    refine g_aloadB (pc := 19) C dL_law_19 rfl ?_
    refine g_slen (pc := 20) C hs dL_law_20 ?_
    refine g_bipush (v := 6) (pc := 21) C dL_law_21 (by decide) ?_
    refine g_isub (pc := 23) C dL_law_23 ?_
    refine g_icmp_gt (pc := 24) C 1534 dL_law_24 (by decide) (fun c => absurd c (law_ngt (by omega) (by omega))) (fun _ => ?_)
    refine w_law_turn hE C hs (by omega) ⟨by omega, by omega⟩ h8 hso ?_
    refine g_iinc (lm' := [(3, tI (nI (i + 6))), (0, tA b), (1, tR (some 0)), (2, tR (some 125))]) (v := nI (i + 6)) (pc := 1528) C 3 dL_law_1528 rfl (nI_add i 6) (by decide) rfl ?_
    refine g_goto (pc := 1531) C 18 dL_law_1531 (by decide) ?_
    refine g_sub [1, 2, 3, 0] (lm' := [(0, tA b), (1, tR (some 0)), (2, tR (some 125)), (3, tI (nI (i + 6)))]) rfl ?_
    exact ih (i + 6) (ca + 3) (sa + 1203) σ2 σf (by omega) (by omega) (by omega) (by omega) hlr hx
end GL
