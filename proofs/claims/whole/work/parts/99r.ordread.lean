/-! ===== both read the orders ===== -/
section ORR
variable {σ : Hp} {n nt L k : Nat} {tb : Nat → Nat}
def Slo (a k : Nat) : Prop := (a = 125 ∧ (k = 0 ∨ (13 ≤ k ∧ k ≤ 21) ∨ k = 23 ∨ k = 26 ∨ k = 29 ∨ k = 30 ∨ k = 52)) ∨ (135 ≤ a ∧ a ≤ 139) ∨ a = 154
theorem Stx.lo {a k : Nat} (h : Stx a k) : Slo a k ∧ (a = 125 → k ≠ 52) := by
  unfold Stx at h
  unfold Slo
  omega
theorem Slw.lo {a k : Nat} (h : Slw 154 0 0 a k) : Slo a k ∧ (a = 125 → k ≠ 52) := by
  unfold Slw Sm9 at h
  unfold Slo
  omega
def S59 (a k : Nat) : Prop := Slo a k ∧ (a = 125 → k ≠ 52)
theorem orders9_go (hS : SK σ) (hB : TB9 tb L σ) (hN : TN tb L n) (hC : CW σ) : ∃ σ1, s_X9_orders 125 σ = s_X9_orders_j46 125 σ1 ∧ Ag Slo σ σ1 ∧ zi σ1 125 52 = -1 ∧ match textP (kdN tb L) (nmN tb L) false n 12 0 0 with
    | (k1, none) => BadX tb L k1 σ1 ∨ ∃ q1 c1, RX tb L n false k1 q1 c1 σ1 ∧ kdN tb L k1 ≠ 258
    | (k1, some l) => ∃ q1 c1, RX tb L n false k1 q1 c1 σ1 ∧ kdN tb L k1 = 258 ∧ zi σ1 125 21 = iN l.length ∧ l.length ≤ 12 ∧ RRows RRowO (zi σ1 154) (zi σ1 136) (zi σ1 137) 0 0 c1 l := by
  have w0 := q_w125 (k := 0) (v := 0) hS
  have S1 : SK (zsi σ 125 0 0) := hS
  have w52 := q_w125 (k := 52) (v := -1) S1
  have e1 : Ag (fun a k => a = 125 ∧ (k = 0 ∨ k = 52)) σ (zsi (zsi σ 125 0 0) 125 52 (-1)) := (Ag.zsi ⟨rfl, Or.inl rfl⟩).trans (Ag.zsi ⟨rfl, Or.inr rfl⟩)
  have v52 : zi (zsi (zsi σ 125 0 0) 125 52 (-1)) 125 52 = -1 := zi_hit
  have S2 := hS.ag e1
  have B2 := hB.ag e1 (fun k q => by omega) (fun q => by omega)
  have C2 := hC.gg e1 (fun a j q => by unfold fCW; simp; omega)
  generalize zsi σ 125 0 0 = u0 at w0 w52 e1 v52 S2 B2 C2
  generalize zsi u0 125 52 (-1) = u1 at w52 e1 v52 S2 B2 C2
  obtain ⟨u2, x2, e2, hX, h21⟩ := begin9 (lw := false) S2 B2 hN C2
  have x2 : s_X9_beginText 125 1 u1 = _ := x2
  have bk := q_ck125 S2
  have bk2 := q_ck125 hX.1.1
  obtain ⟨u3, x3, y3⟩ := text9 (rd := s_X9_readOrder 125) (body := fun v => s_X9_orders_b19 v) (X := 154) (lw := false) (row := RRowO) (fun σ => rfl) (fun i k q c σ h hq h21 hi => readOrder9 h hq h21 hi) (fun k q c σ h h21 => readOrder9_13 h h21) (fun Rn op ar Rn' op' ar' i c c1 cl h a b => h.congr a b) (Or.inr rfl) 12 0 0 0 0 u2 (by decide) hX (by decide) h21
  have x3 : (cb (s_X9_readOrder 125 u2) fun _ s => s_X9_orders_l19 125 s) = some (125, u3) := x3
  have E2 : Ag S59 u1 u2 := e2.mono (fun a j z => z.lo)
  have st : s_X9_orders 125 σ = s_X9_orders_j46 125 u3 := by
    unfold s_X9_orders
    rw [w0, bos, w52, bos, bk, bos, x2, cbs, bk2, bos]
    cases hq : s_X9_readOrder 125 u2 with
    | none =>
      rw [hq] at x3
      cases x3
    | some p =>
      obtain ⟨u, s⟩ := p
      rw [hq, cbs] at x3
      rw [cbs, x3, cbs]
  generalize textP (kdN tb L) (nmN tb L) false n 12 0 0 = r at y3
  obtain ⟨k1, ol⟩ := r
  have fin : ∀ (E3 : Ag (Slw 154 0 0) u2 u3), Ag Slo σ u3 ∧ zi u3 125 52 = -1 := fun E3 => by
    have E23 : Ag S59 u1 u3 := E2.trans (E3.mono (fun a j z => z.lo))
    exact ⟨(e1.mono (fun a j z => by unfold Slo; omega)).trans (E23.mono (fun a j z => z.1)), ((E23.2.2.2.2 125 52 (fun z => z.2 rfl rfl)).1).trans v52⟩
  cases ol with
  | none =>
    obtain ⟨f1, f2⟩ := fin y3.1
    exact ⟨u3, st, f1, f2, y3.2⟩
  | some l =>
    obtain ⟨y4, q1, c1, y5, y6, y7, y8, y9⟩ := y3
    obtain ⟨f1, f2⟩ := fin y4
    rw [Nat.zero_add] at y7
    exact ⟨u3, st, f1, f2, q1, c1, y5, y6, y7, y8, y9⟩
theorem orders9_f (h : BadX tb L k σ ∨ ∃ q1 c1, RX tb L n false k q1 c1 σ ∧ kdN tb L k ≠ 258) : ∃ u1, s_X9_orders_j46 125 σ = some (-6, zsi (zsi u1 125 1 (-6)) 126 6 (zi u1 126 6 + 1)) ∧ Ag Ste σ u1 ∧ zi u1 125 18 = iN (psN tb L k) ∧ zi u1 125 13 = 0 ∧ zi u1 125 20 = 0 := by
  have hS : SK σ := by
    rcases h with h | ⟨q1, c1, h, -⟩
    · exact h.1
    · exact h.1.1
  have bk := q_ck125 hS
  obtain ⟨u1, x1, e1, T1, v19, v18, v13, v20⟩ := endT_f h
  have bk1 := q_ck125 T1
  have i19 := q_i125 (k := 19) T1
  rw [v19] at i19
  have tl := tell9_6 T1
  refine ⟨u1, ?_, e1, v18, v13, v20⟩
  unfold s_X9_orders_j46
  rw [bk, bos, x1, cbs, i19, bos, if_neg z10', bk1, bos, tl, cbs]
/-- what the class does from the text on -/
noncomputable def ord8 (t : Nat) (σ : Hp) : Option (Int32 × Hp) :=
  (rdR 8 σ 0 1).bind fun r18 => (rdR 8 σ 0 0).bind fun r19 => (r18).bind fun a20 => (ck 1 σ a20).bind fun _ => cb (s_X1_copyFrom a20 (r19) σ) fun _ σ22 => (rdR 8 σ22 0 9).bind fun r24 => (rdR 8 σ22 0 8).bind fun r25 => (r24).bind fun a26 => (ck 0 σ22 a26).bind fun _ => cb (s_X0_copyFrom a26 (r25) σ22) fun _ σ28 => (wrI 8 σ28 0 13 (0)).bind fun σ30 => (wrI 8 σ30 0 14 ((-1))).bind fun σ31 => cb (s_X8_orders_l91 (0, some t, 0) σ31) fun e59 σ58 =>
    match e59 with
    | Sum.inl h32 => (rdI 8 σ58 h32 13).bind fun v34 => (ck 8 σ58 h32).bind fun _ => cb (s_X8_grant h32 (v34) σ58) fun v37 σ36 => some (v37, σ36)
    | Sum.inr (h38, l339) => (rdR 8 σ58 h38 0).bind fun r41 => (rdR 8 σ58 h38 1).bind fun r42 => (r41).bind fun a43 => (ck 1 σ58 a43).bind fun _ => cb (s_X1_copyFrom a43 (r42) σ58) fun _ σ45 => (rdR 8 σ45 h38 8).bind fun r47 => (rdR 8 σ45 h38 9).bind fun r48 => (r47).bind fun a49 => (ck 0 σ45 a49).bind fun _ => cb (s_X0_copyFrom a49 (r48) σ45) fun _ σ51 => (wrI 8 σ51 h38 17 (l339)).bind fun σ53 => (ck 8 σ53 h38).bind fun _ => cb (s_X8_refuse h38 ((-3)) σ53) fun v56 σ55 => some (v56, σ55)
def S8o (a k : Nat) : Prop := (a = 98 ∧ k = 1) ∨ (100 ≤ a ∧ a ≤ 105) ∨ (a = 0 ∧ (k = 15 ∨ k = 17))
theorem Srd.o {a k : Nat} (h : Srd a k) : S8o a k := by
  unfold Srd at h
  unfold S8o
  omega
/-- the class's start of the call -/
theorem orders8_go (hS : SK σ) (hT : Tp nt σ) : ∃ nT, TN (tbO σ) nt nT ∧ match textP (kdN (tbO σ) nt) (nmN (tbO σ) nt) false nT 12 0 0 with
    | (_, some l) => ∃ σ1, GH S8o σ σ1 ∧ zi σ1 98 1 = 0 ∧ zi σ1 0 17 = -1 ∧ zi σ1 0 15 = -1 ∧ (∀ j, zr σ1 16 j = zr σ 16 j) ∧ TextOK (zn σ) l σ1 ∧ s_X8_orders 0 σ = ord8 (zn σ) σ1
    | (k1, none) => ∃ σ1, Ag S8o σ σ1 ∧ zi σ1 98 1 = 0 ∧ zi σ1 0 17 = -1 ∧ zi σ1 0 15 = iN (psN (tbO σ) nt k1) ∧ s_X8_orders 0 σ = some (-6, zsi (zsi σ1 0 18 (-6)) 124 4 (zi σ1 124 4 + 1)) := by
  have r5 := q_r0_5 hS
  have l98 := q_i98 (k := 1) hS
  rw [hT.2.1] at l98
  have w98 := q_w98 (k := 1) (v := 0) hS
  have S0 : SK (zsi σ 98 1 0) := hS
  have w17 := q_w0 (k := 17) (v := -1) S0
  have e1 : Ag (fun a k => (a = 98 ∧ k = 1) ∨ (a = 0 ∧ k = 17)) σ (zsi (zsi σ 98 1 0) 0 17 (-1)) := (Ag.zsi (Or.inl ⟨rfl, rfl⟩)).trans (Ag.zsi (Or.inr ⟨rfl, rfl⟩))
  have v98 : zi (zsi (zsi σ 98 1 0) 0 17 (-1)) 98 1 = 0 := (congrFun (zi_ne (by decide)) 1).trans zi_hit
  have v17 : zi (zsi (zsi σ 98 1 0) 0 17 (-1)) 0 17 = -1 := zi_hit
  have S1 := hS.ag e1
  have B1 := (tb8 hT).ag e1 (fun k q => by omega)
  generalize zsi σ 98 1 0 = u0 at w98 w17 e1 v98 v17 S1 B1
  generalize zsi u0 0 17 (-1) = u1 at w17 e1 v98 v17 S1 B1
  have r6 := q_r0_6 S1
  have r51 := q_r0_5 S1
  have k4 := q_ck100 S1
  obtain ⟨nT, hN, hr⟩ := read8 (lw := false) S1 B1 hT.1
  refine ⟨nT, hN, ?_⟩
  have e1o : Ag S8o σ u1 := e1.mono (fun a k q => by unfold S8o; omega)
  have st : ∀ o u2, s_X4_read 100 (some 98) (iN nt) 0 u1 = some (o, u2) → s_X8_orders 0 σ = (rdR 8 u2 0 6).bind fun r14 => (r14).bind fun a15 => (rdI 4 u2 a15 11).bind fun v16 => (wrI 8 u2 0 15 (v16)).bind fun σ17 => if o = none then (ck 8 σ17 0).bind fun _ => cb (s_X8_refuse 0 ((-6)) σ17) fun v62 σ61 => some (v62, σ61) else (rdR 8 σ17 0 1).bind fun r18 => (rdR 8 σ17 0 0).bind fun r19 => (r18).bind fun a20 => (ck 1 σ17 a20).bind fun _ => cb (s_X1_copyFrom a20 (r19) σ17) fun _ σ22 => (rdR 8 σ22 0 9).bind fun r24 => (rdR 8 σ22 0 8).bind fun r25 => (r24).bind fun a26 => (ck 0 σ22 a26).bind fun _ => cb (s_X0_copyFrom a26 (r25) σ22) fun _ σ28 => (wrI 8 σ28 0 13 (0)).bind fun σ30 => (wrI 8 σ30 0 14 ((-1))).bind fun σ31 => cb (s_X8_orders_l91 (0, o, 0) σ31) fun e59 σ58 =>
      match e59 with
      | Sum.inl h32 => (rdI 8 σ58 h32 13).bind fun v34 => (ck 8 σ58 h32).bind fun _ => cb (s_X8_grant h32 (v34) σ58) fun v37 σ36 => some (v37, σ36)
      | Sum.inr (h38, l339) => (rdR 8 σ58 h38 0).bind fun r41 => (rdR 8 σ58 h38 1).bind fun r42 => (r41).bind fun a43 => (ck 1 σ58 a43).bind fun _ => cb (s_X1_copyFrom a43 (r42) σ58) fun _ σ45 => (rdR 8 σ45 h38 8).bind fun r47 => (rdR 8 σ45 h38 9).bind fun r48 => (r47).bind fun a49 => (ck 0 σ45 a49).bind fun _ => cb (s_X0_copyFrom a49 (r48) σ45) fun _ σ51 => (wrI 8 σ51 h38 17 (l339)).bind fun σ53 => (ck 8 σ53 h38).bind fun _ => cb (s_X8_refuse h38 ((-3)) σ53) fun v56 σ55 => some (v56, σ55) := fun o u2 x => by
    unfold s_X8_orders
    rw [r5, bos, bos, l98, bos, bos, bos, w98, bos, w17, bos, r6, bos, r51, bos, bos, k4, bos, x, cbs]
    (try rfl)
  generalize textP (kdN (tbO σ) nt) (nmN (tbO σ) nt) false nT 12 0 0 = r at hr
  obtain ⟨k1, ol⟩ := r
  cases ol with
  | none =>
    obtain ⟨u2, x, e2, v11⟩ := hr
    have x : s_X4_read 100 (some 98) (iN nt) 0 u1 = some (none, u2) := x
    have E : Ag S8o σ u2 := e1o.trans (e2.mono (fun a k q => q.o))
    have S2 := hS.ag E
    have r6 := q_r0_6 S2
    have i11 := q_i100 (k := 11) S2
    rw [v11] at i11
    have w15 := q_w0 (k := 15) (v := iN (psN (tbO σ) nt k1)) S2
    have E3 : Ag S8o σ (zsi u2 0 15 (iN (psN (tbO σ) nt k1))) := E.trans (Ag.zsi (Or.inr (Or.inr ⟨rfl, Or.inl rfl⟩)))
    have x98 : zi (zsi u2 0 15 (iN (psN (tbO σ) nt k1))) 98 1 = 0 := (congrFun (zi_ne (by decide)) 1).trans (((e2.2.2.2.2 98 1 (by unfold Srd; omega)).1).trans v98)
    have x17 : zi (zsi u2 0 15 (iN (psN (tbO σ) nt k1))) 0 17 = -1 := (zi_miss (by decide)).trans (((e2.2.2.2.2 0 17 (by unfold Srd; omega)).1).trans v17)
    have x15 : zi (zsi u2 0 15 (iN (psN (tbO σ) nt k1))) 0 15 = iN (psN (tbO σ) nt k1) := zi_hit
    rw [st _ _ x, r6, bos, bos, i11, bos, w15, bos, if_pos rfl]
    generalize zsi u2 0 15 (iN (psN (tbO σ) nt k1)) = u3 at E3 x98 x17 x15
    have S3 := hS.ag E3
    have k8 := q_ck0 S3
    have rf := ref8_6 S3
    refine ⟨u3, E3, x98, x17, x15, ?_⟩
    rw [k8, bos, rf, cbs]
  | some l =>
    obtain ⟨σ0, u2, t, x, e2, G, ht, v11, hTx⟩ := hr
    have x : s_X4_read 100 (some 98) (iN nt) 0 u1 = some (some t, u2) := x
    have E : Ag S8o σ σ0 := e1o.trans (e2.mono (fun a k q => q.o))
    have z156 := hS.1
    have ez : zn σ0 = zn σ := E.1
    have lowS : ∀ a, a < 156 → zi u2 a = zi σ0 a := fun a ha => (G.2 a (by omega)).2.2.2.1
    have ht : t = zn σ := ht.trans e1o.1
    subst ht
    have H2 : GH S8o σ u2 := (GH.ofAg E).trans (GH.ofGr G)
    have S2 : SK u2 := H2.sk hS
    have r6 := q_r0_6 S2
    have i11 := q_i100 (k := 11) S2
    rw [v11] at i11
    have w15 := q_w0 (k := 15) (v := -1) S2
    have A3 : Ag (fun a k => a = 0 ∧ k = 15) u2 (zsi u2 0 15 (-1)) := Ag.zsi ⟨rfl, rfl⟩
    have H3 : GH S8o σ (zsi u2 0 15 (-1)) := H2.trans (GH.ofAg (A3.mono (fun a k q => Or.inr (Or.inr ⟨q.1, Or.inl q.2⟩))))
    have x98 : zi (zsi u2 0 15 (-1)) 98 1 = 0 := (congrFun (zi_ne (by decide)) 1).trans ((congrFun (lowS 98 (by decide)) 1).trans (((e2.2.2.2.2 98 1 (by unfold Srd; omega)).1).trans v98))
    have x17 : zi (zsi u2 0 15 (-1)) 0 17 = -1 := (zi_miss (by decide)).trans ((congrFun (lowS 0 (by decide)) 17).trans (((e2.2.2.2.2 0 17 (by unfold Srd; omega)).1).trans v17))
    have x15 : zi (zsi u2 0 15 (-1)) 0 15 = -1 := zi_hit
    have xr : ∀ j, zr (zsi u2 0 15 (-1)) 16 j = zr σ 16 j := fun j => (congrFun ((G.2 16 (by omega)).2.2.1) j).trans (by rw [E.2.2.2.1])
    have xT : TextOK (zn σ) l (zsi u2 0 15 (-1)) := hTx.agx A3 (fun a k q => by omega)
    rw [st _ _ x, r6, bos, bos, i11, bos, w15, bos, if_neg (Option.some_ne_none _)]
    generalize zsi u2 0 15 (-1) = u3 at H3 x98 x17 x15 xr xT
    exact ⟨u3, H3, x98, x17, x15, xr, xT, rfl⟩
end ORR
