/-! ===== the law, from its entry ===== -/
theorem sbn {s s' : State} {L : List Loc} {k n : Nat} (h : s.sameButNew s' L k n) (hJ : ∀ x ∈ L, s.heap.size ≤ x.base) : s.sameButNew s' [] k n := State.sameButNew.drop_fresh (L := []) (J := L) h hJ
abbrev EE (l : Launch) (B : Nat) (D : va_G) (cy : Nat → ClassId) (kS kV : Nat) : E0 := (l, B, D, cy, VV D cy B kS kV)
abbrev XX (p : Program) (e : Jvm.Env) (s : State) (m : MethodId) (b : Nat) (below : List Frame) (meth : Method) (c : Code) (σf : Hp) : X0 := (p, e, room_1, s, m, #[Value.ref b], below, meth, c, (some (tI 1), σf), (600000, 7302250))
set_option maxRecDepth 100000 in
theorem law_from_0 {E : E0} {X : X0} {b L : Nat} {xv : Nat → Int32} {σf : Hp} (hE : EOK E) (C : XOK E X cL_law RL 4 (some .boolean) room_1) (hs : SC E X b L xv) (hxn : xn X = (600000, 7302250)) (hxd : xd X = (some (tI 1), σf)) (hlr : LR xv (L / 6) 0 st3 σf) : G E X 0 0 0 [(0, tA b)] [] st0 := by
  have hL : L ≤ 3072 := hs.2.2.2
  refine g_new (c := 8) (N := 19) (pc := 0) C ck_8 tyX8 tyX8_ok df_8 cl_L_7 in_X8 ii_X8 (by decide) (by decide) dL_law_0 ?_
  rw [show zn st0 = 0 from rfl]
  refine g_dup (pc := 3) C dL_law_3 rfl ?_
  refine g_callI (pc := 4) (av := []) C (c_X8_init hE init8_eq) yi_X8_init ml_L_9 rfl (rf_of (by decide)) rfl (Nat.le_of_ble_eq_true rfl) dL_law_4 ?_
  refine g_astore_n (lm' := [(1, tR (some 0)), (0, tA b)]) (pc := 7) C 1 dL_law_7 rfl (by decide) rfl ?_
  refine g_new (c := 9) (N := 58) (pc := 8) C ck_9 tyX9 tyX9_ok df_9 cl_L_10 in_X9 ii_X9 (by decide) (by decide) dL_law_8 ?_
  rw [st1_n, show mkC st1 9 0 = st2 from rfl]
  refine g_dup (pc := 11) C dL_law_11 rfl ?_
  refine g_callI (pc := 12) (av := []) C (c_X9_init hE init9_eq) yi_X9_init ml_L_12 rfl (rf_of (by decide)) rfl (Nat.le_of_ble_eq_true rfl) dL_law_12 ?_
  refine g_astore_n (lm' := [(2, tR (some 125)), (1, tR (some 0)), (0, tA b)]) (pc := 15) C 2 dL_law_15 rfl (by decide) rfl ?_
  refine g_iconst (v := 0) (pc := 16) C dL_law_16 (by decide) ?_
  refine g_istore_n (lm' := [(3, tI 0), (2, tR (some 125)), (1, tR (some 0)), (0, tA b)]) (pc := 17) C 3 dL_law_17 rfl (by decide) rfl ?_
  refine g_sub [3, 2, 1, 0] (lm' := [(0, tA b), (1, tR (some 0)), (2, tR (some 125)), (3, tI (nI 0))]) rfl ?_
  refine w_law_loop hE C hs hxn (L / 6) 0 _ _ st3 σf (by omega) (by omega) ?_ ?_ hlr hxd
  · show 0 + 1 + 124 + 1 + 30 + 3 * (L / 6) ≤ 600000
    omega
  · show 0 + 19 + 4404 + 58 + 21512 + 1203 * (L / 6) ≤ 7302250
    omega
set_option maxRecDepth 100000 in
/-- from the entry, for every script of at most 3072 ints, the law comes to its end with true -/
theorem whole_start {p : Program} {e : Jvm.Env} {s : State} {m : MethodId} {below : List Frame} {meth : Method} {c : Code} (l : Launch) (hflags : l.flags = flags0) {b L : Nat} {xs : Nat → Int32} (hL : L ≤ 3072) (C0 : lw_At p s m meth c b L xs) : W p l e room_1 s m #[Value.ref b] below meth c s.heap [] 0 0 (lw_Z below #[Value.ref b] s) (entryFrame m ([Value.ref b] : List Value).toArray 4) := by
  obtain ⟨hx, hb, hr, hml, hown, hts, hX, hbl, hlocks, hgv⟩ := id C0
  obtain ⟨dC, dI, hkn⟩ := known_all hts
  obtain ⟨cy, hcy⟩ := arr_all hts
  obtain ⟨kS, kV, hse⟩ := se_at hts (flat_of_before _ hgv)
  obtain ⟨σf, hlr⟩ := all_turns (xv := xs) (L / 6) 0 st3 rel_start
  have hV : VV (dC, dI) cy s.heap.size kS kV s := ⟨⟨hkn, hcy⟩, fun w hw => nest_of w hw _ _ (hts w (nest_in w hw)), hse⟩
  have hE : EOK (EE l s.heap.size (dC, dI) cy kS kV) := eok_of
  have C : XOK (EE l s.heap.size (dC, dI) cy kS kV) (XX p e s m b below meth c σf) cL_law RL 4 (some .boolean) room_1 := ⟨hx, hb, hml, hown, fun w hw => hts w (inl hw), hr, hlocks, hE, hV, Nat.le_refl _, rfl⟩
  have hs : SC (EE l s.heap.size (dC, dI) cy kS kV) (XX p e s m b below meth c σf) b L xs := ⟨hX, hbl, hbl, hL⟩
  have g := law_from_0 hE C hs rfl rfl hlr
  have hl := lv_entry ([.ref b]) (n := 4) (Nat.le_of_ble_eq_true rfl)
  rw [lg_entry_eq]
  generalize (lg_sl ([.ref b]) ++ List.replicate (4 - (lg_sl ([.ref b])).length) Slot.unset).toArray = ls at hl ⊢
  have hl : lv_has ls 4 [(0, .ref b)] := hl
  have k := g ls s.heap [] (by
    show lv_has ls c.maxLocals _
    rw [hml]
    exact hl) ⟨rfl, fun _ _ => Nat.le_refl _, fun k q h => absurd (zW_at h).1 (Nat.not_lt_zero _)⟩ va_S.rf
  intro T hT XS
  obtain ⟨t, a1, o, h1, h2, ⟨h3, h4, h5⟩, Lc, ⟨f1, f2, f3⟩, hf⟩ := k T hT XS
  exact ⟨t, a1, o, h1, h2, h3, f1, f2, sbn f3 hf⟩
