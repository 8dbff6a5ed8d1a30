/-! ===== the call orders: read, run, stopped or done ===== -/
section BOS
variable {σ : Hp} {nP nF nB nT nS nL n nt L : Nat} {B : Book} {R : Nat → Int32}
/-- the reference from the class's last heap to its first order -/
theorem ref_go {f : Hp} {l : List Cl} {tb : Nat → Nat} {nX k1 : Nat} (hS : SK σ) (hW : CW σ) (hC : Cr 1 σ nP nF nB nT nS nL 999 B (zi σ 127)) (hU : Un nP nF nT n σ) (Gf : GH S8x σ f) (B0 : TB9 tb nt σ) (hN : TN tb nt nX) (ht : textP (kdN tb nt) (nmN tb nt) false nX 12 0 0 = (k1, some l)) :
    ∃ τ1 τ2, Ag Slo f τ1 ∧ Ag S46 τ1 τ2 ∧ zi τ1 125 52 = -1 ∧ zi τ1 125 18 = -1 ∧ zi τ2 125 13 = 0 ∧ zi τ2 125 20 = 0 ∧ zi τ2 125 50 = 0 ∧ zi τ2 125 51 = -1 ∧ (∀ i, i < 368 → zi τ2 132 i = zi σ 130 i) ∧ (∀ i, i < 16 → zi τ2 133 i = zi σ 131 i) ∧ (∀ i, i < 23 → zi τ2 130 (391 + i) = zi σ 127 (7 + i)) ∧ OR9 l τ2 ∧ A9 nP nF nB nT nS nL B (zi σ 127) n τ2 ∧ (∀ s : Hp, zi s 109 1 = zi σ 109 1 → (∀ i, i < 112 → zi s 110 i = zi σ 110 i) → DC nP nF nT (zi σ 127) n s τ2) ∧ s_X9_orders 125 f = cb (s_X9_orders_l140 (125, zi σ 125 8, 0) τ2) fun e36 σ35 =>
      match e36 with
      | Sum.inl h17 => (rdI 9 σ35 h17 50).bind fun v19 => (ck 9 σ35 h17).bind fun _ => cb (s_X9_tell h17 (v19) σ35) fun v22 σ21 => some (v22, σ21)
      | Sum.inr (h23, l124, l225) => (ck 9 σ35 h23).bind fun _ => cb (s_X9_giveBack h23 (l124) σ35) fun _ σ28 => (wrI 9 σ28 h23 52 (l225)).bind fun σ30 => (ck 9 σ30 h23).bind fun _ => cb (s_X9_tell h23 ((-3)) σ30) fun v33 σ32 => some (v33, σ32) := by
  have z := hS.1
  have Sf := Gf.sk hS
  have up : ∀ a, 125 ≤ a → a < 156 → zi f a = zi σ a := fun a h1 h2 => funext fun k => (Gf.2.2.2 a k (by omega) (fun q => by have := q.in.2; omega)).1
  have Bf : TB9 tb nt f := ⟨B0.1, B0.2.1, by rw [up 134 (by decide) (by decide)]; exact B0.2.2.1, by rw [up 125 (by decide) (by decide)]; exact B0.2.2.2⟩
  have Cf : CW (mask2 σ f) := hW.gg Gf.agm (fun a k q => by
    rcases q with q | q
    · have := q.in.2
      unfold fCW
      simp
      omega
    · unfold fCW
      simp
      omega)
  obtain ⟨τ1, x1, E1, v52, y1⟩ := orders9_go Sf Bf hN Cf
  rw [ht] at y1
  obtain ⟨q1, c1, hX, he, h21, hl, hrow⟩ := y1
  have hc1 : c1 ≤ 400 := by
    have a := hX.2.2.2.2.2
    have b := hX.1.2.2.2.1
    have c := hN.le B0.1
    omega
  obtain ⟨τ2, E2, v13, v20, v50, v51, w132, w133, w130, x2⟩ := j46_go hX he
  have a1 : ∀ a, a ≠ 125 → (a < 135 ∨ 139 < a) → a ≠ 154 → zi τ1 a = zi f a := fun a h1 h2 h3 => agr E1 (fun k q => by unfold Slo at q; omega)
  have a18 : zi τ1 125 8 = zi σ 125 8 := ((E1.2.2.2.2 125 8 (by unfold Slo; omega)).1).trans (congrFun (up 125 (by decide) (by decide)) 8)
  have b127 : zi τ1 127 = zi σ 127 := (a1 127 (by decide) (by decide) (by decide)).trans (up 127 (by decide) (by decide))
  have b130 : zi τ1 130 = zi σ 130 := (a1 130 (by decide) (by decide) (by decide)).trans (up 130 (by decide) (by decide))
  have b131 : zi τ1 131 = zi σ 131 := (a1 131 (by decide) (by decide) (by decide)).trans (up 131 (by decide) (by decide))
  have c127 : zi τ2 127 = zi σ 127 := (agr E2 (fun k q => by unfold S46 at q; omega)).trans b127
  have c8 : zi τ2 125 8 = zi σ 125 8 := ((E2.2.2.2.2 125 8 (by unfold S46; omega)).1).trans a18
  have c131 : zi τ2 131 = zi σ 131 := (agr E2 (fun k q => by unfold S46 at q; omega)).trans b131
  have c130 : ∀ i, i < 368 → zi τ2 130 i = zi σ 130 i := fun i hi => ((E2.2.2.2.2 130 i (by unfold S46; omega)).1).trans (congrFun b130 i)
  have ST := hX.1.1.ag E2
  refine ⟨τ1, τ2, E1, E2, v52, hX.1.2.2.2.2.2.2, v13, v20, v50, v51, fun i hi => (w132 i hi).trans (congrFun b130 i), fun i hi => (w133 i hi).trans (congrFun b131 i), fun i hi => (w130 i hi).trans (congrFun b127 _), ⟨⟨c1, hc1, ?_⟩, ?_⟩, ⟨⟨ST, c127, hC.1, hC.2.2.1, v20⟩, ?_⟩, fun s e109 e110 => ?_, ?_⟩
  · rw [agr E2 (a := 154) (fun k q => by unfold S46 at q; omega), agr E2 (a := 136) (fun k q => by unfold S46 at q; omega), agr E2 (a := 137) (fun k q => by unfold S46 at q; omega)]
    exact hrow
  · rw [(E2.2.2.2.2 125 21 (by unfold S46; omega)).1]
    exact h21
  · rw [c8]
    exact hU.2.2.1
  · unfold DC
    exact UnF.cong hU e109 c8 e110 (fun i _ => by rw [c131]) c130 (fun _ _ _ => rfl)
  · rw [x1, x2, a18]
    (try rfl)
theorem b_orders (hr : Rel σ) : Both (s_X8_orders 0) (s_X9_orders 125) σ := by
  obtain ⟨⟨hS, ⟨nt, hT⟩, hR, hM, hW, hD, hI⟩, nP, nF, nB, nT, nS, nL, B, n, hC, hU⟩ := id hr
  have z := hS.1
  obtain ⟨nX, hN, h8⟩ := orders8_go hS hT
  have B0 := tb9 hT
  obtain ⟨sK, -, -, -, hK⟩ := orders9_go hS B0 hN hW
  have h9b := fun u2 (a1 : SK u2) (a2 : TB9 (tbO σ) nt u2) (a3 : CW u2) => orders9_go a1 a2 hN a3
  cases ht : textP (kdN (tbO σ) nt) (nmN (tbO σ) nt) false nX 12 0 0 with
  | mk k1 ol =>
  rw [ht] at h8 hK
  cases ol with
  | none =>
    obtain ⟨u1, E1, v98, v17, v15, x8⟩ := h8
    have S1 := hS.ag E1
    obtain ⟨t, x9, hrel⟩ := orders_bad (g := s_X9_orders 125) hr E1 v98 v17 v15 (fun u2 E => by
      have S2 := hS.ag E
      have up : ∀ a, 125 ≤ a → zi u2 a = zi σ a := fun a ha => agr E (fun k q => by unfold S8o at q; omega)
      obtain ⟨u3, x, e, v52, y⟩ := h9b u2 S2 ⟨B0.1, B0.2.1, by rw [up 134 (by decide)]; exact B0.2.2.1, by rw [up 125 (by decide)]; exact B0.2.2.2⟩ (hW.gg E (fun a j q => by unfold S8o at q; unfold fCW; simp; omega))
      rw [ht] at y
      obtain ⟨u4, x4, e4, w18, w13, w20⟩ := orders9_f y
      exact ⟨u3, u4, x.trans x4, e, v52, e4, w18, w13, w20⟩)
    exact Both.mk x8 x9 hrel ((show SK (zsi (zsi u1 0 18 (-6)) 124 4 (zi u1 124 4 + 1)) from S1).2.1 125 (by decide)).1
  | some l =>
    have hk : ∀ (m : Nat) (cl : Cl), l[m]? = some cl → ∃ x, x < 4 ∧ cl.1 = 316 + 2 * x := fun m cl hm => by
      obtain ⟨q1, c1, -, -, -, -, hrow⟩ := hK
      obtain ⟨a, b, -, -, -, hr⟩ := RRows.get l 0 0 c1 hrow m cl hm
      obtain ⟨x, hx, ex, -⟩ := hr
      exact ⟨x, hx, ex⟩
    obtain ⟨s1, G1, v98, v17, v15, vr, hTx, x8⟩ := h8
    have hn16 : n ≤ 16 := hU.1
    have A0 : A8 nP nF nB nT nS nL B (zi σ 127) n σ := ⟨hS, ⟨Or.inl rfl, hS.hk1, hC.2.1, hC.1, hC.2.2.2, hC.2.2.1⟩, hU.2.1, hn16⟩
    have A1 := A0.gh G1 (fun a k q => by unfold S8o at q; omega) (fun j _ => vr j)
    have z1 : zn σ ≤ zn s1 := G1.1
    have hx1 : ∀ j, j < 6 → zr s1 16 j = none ∨ ∃ u, zr s1 16 j = some u ∧ zk s1 u = 7 ∧ u < zn s1 := fun j hj => by
      rw [vr j]
      rcases hI.2.2 1 (Or.inl rfl) j hj with q | ⟨u, q1, q2, q3⟩
      · exact Or.inl q
      · exact Or.inr ⟨u, q1, by rw [(G1.2.1 u q3).1]; exact q2, by omega⟩
    obtain ⟨s, Gb, bz, bk, bz16, bz35, bhh, b13, b14, b112, b111, bx⟩ := ord8_bef A1 hTx hx1
    have As := A1.gh Gb (fun a k q => by unfold S8b at q; omega) bz16
    have Ts := Gb.text (fun a k q => q.e.lt) hTx
    obtain ⟨o, se, R1, n1, xe, Ae, Ee, de, ye⟩ := outer (had := zi σ 125 8) hk l.length 0 (zi σ 127) n 0 s (by omega) As Ts b13
    have xe : s_X8_orders_l91 (0, some (zn σ), 0) s = _ := xe
    have cS : ∀ a k, a < 156 → ¬ S8o a k → zi s1 a k = zi σ a k := fun a k ha hn => (G1.2.2.2 a k (by omega) hn).1
    have cB : ∀ a k, a < 156 → ¬ S8b a k → zi s a k = zi s1 a k := fun a k ha hn => (Gb.2.2.2 a k (by omega) hn).1
    have cE : ∀ a k, ¬ SOc a k → zi se a k = zi s a k := fun a k hn => (Ee.2.2.2.2 a k hn).1
    have e109 : zi s 109 1 = zi σ 109 1 := (cB 109 1 (by decide) (by unfold S8b; omega)).trans (cS 109 1 (by decide) (by unfold S8o; omega))
    have e110 : ∀ i, i < 112 → zi s 110 i = zi σ 110 i := fun i _ => (cB 110 i (by decide) (by unfold S8b; omega)).trans (cS 110 i (by decide) (by unfold S8o; omega))
    have G1x : GH S8x σ s1 := G1.mono (fun a k q => Or.inl q)
    have Gse : GH S8e s1 se := (Gb.mono (fun a k q => q.e)).trans (GH.ofAg (Ee.mono (fun a k q => q.e)))
    have c1S : ∀ f, GH S8e s1 f → ∀ a k, a < 156 → ¬ S8e a k → ¬ S8o a k → zi f a k = zi σ a k := fun f hf a k ha h1 h2 => ((hf.2.2.2 a k (by omega) h1).1).trans (cS a k ha h2)
    have run := fun (f : Hp) (Gf : GH S8e s1 f) => ref_go hS hW hC hU (G1x.trans (Gf.mono (fun a k q => Or.inr q))) B0 hN ht
    cases o with
    | none =>
      obtain ⟨d1, hd1, zd1⟩ := de rfl
      have hl12 : l.length ≤ 12 := hTx.cnt.2.2
      have i13 := q_i0 (k := 13) Ae.1
      rw [zd1] at i13
      have k8 := q_ck0 Ae.1
      have gr := grant8 Ae.1 (v := iN d1)
      have ef : Ag (fun a k => a = 0 ∧ k = 18) se (zsi se 0 18 0) := Ag.zsi ⟨rfl, rfl⟩
      have f18 : zi (zsi se 0 18 0) 0 18 = 0 := zi_hit
      generalize zsi se 0 18 0 = f at gr ef f18
      have X8 : s_X8_orders 0 σ = some (iN d1, f) := by
        rw [x8, bx, xe, cbs]
        show ((rdI 8 se 0 13).bind fun v34 => _) = _
        rw [i13, bos, k8, bos, gr, cbs]
      have Gf : GH S8e s1 f := Gse.trans (GH.ofAg (ef.mono (fun a k q => by unfold S8e; omega)))
      obtain ⟨τ1, τ2, E1, E2, v52, v18, w13, w20, w50, w51, w132, w133, w130, hOR, hA9, hDC, x9⟩ := run f Gf
      obtain ⟨τ3, x3, A9e, DCe, E3, w3⟩ := ye τ2 hA9 (hDC s e109 e110) (w50.trans b13.symm) (w51.trans b14.symm) hOR
      have x3 : s_X9_orders_l140 (125, zi σ 125 8, 0) τ2 = _ := x3
      have S3 := A9e.1.1
      have i50 := q_i125 (k := 50) S3
      rw [w3 rfl, zd1] at i50
      have bk9 := q_ck125 S3
      have tl := tell9 S3 (n := d1) (by omega)
      have et : Ag (fun a k => a = 125 ∧ k = 1) τ3 (zsi τ3 125 1 0) := Ag.zsi ⟨rfl, rfl⟩
      have t1 : zi (zsi τ3 125 1 0) 125 1 = 0 := zi_hit
      generalize zsi τ3 125 1 0 = t at tl et t1
      have X9 : s_X9_orders 125 f = some (iN d1, t) := by
        rw [x9, x3, cbs]
        show ((rdI 9 τ3 125 50).bind fun v19 => _) = _
        rw [i50, bos, bk9, bos, tl, cbs]
      have Eft : Ag (fun a k => Slo a k ∨ S46 a k ∨ SOr a k ∨ (a = 125 ∧ k = 1)) f t := (((E1.mono (fun a k q => Or.inl q)).trans (E2.mono (fun a k q => Or.inr (Or.inl q)))).trans (E3.mono (fun a k q => Or.inr (Or.inr (Or.inl q))))).trans (et.mono (fun a k q => Or.inr (Or.inr (Or.inr q))))
      have h125 : ∀ a k, (Slo a k ∨ S46 a k ∨ SOr a k ∨ (a = 125 ∧ k = 1)) → 125 ≤ a ∧ a < 156 ∧ LO a k := fun a k q => by
        rcases q with q | q | q | q
        · have := q.lo
          unfold Slo at q
          exact ⟨by omega, by omega, this⟩
        · have := q.lo
          unfold S46 at q
          exact ⟨by omega, by omega, this⟩
        · have h := q.lo
          have := q.in
          exact ⟨by omega, by omega, h⟩
        · exact ⟨by omega, by omega, by unfold LO; omega⟩
      have low : ∀ a k, a < 125 → zi t a k = zi f a k := fun a k ha => (Eft.2.2.2.2 a k (fun q => by have := (h125 a k q).1; omega)).1
      have GT : GH LO σ t := ((G1x.mono (fun a k q => q.in.1)).trans (Gf.mono (fun a k q => (S8x.in (Or.inr q)).1))).trans (GH.ofAg (Eft.mono (fun a k q => (h125 a k q).2.2)))
      have At : A8 nP nF nB nT nS nL B R1 n1 t := (Ae.keep ef (fun a k q => by omega)).keep Eft (fun a k q => by have := h125 a k q; omega)
      have R127 : zi t 127 = R1 := (agr et (fun k q => by omega)).trans A9e.1.2.1
      have o3 : ∀ j, (j = 13 ∨ j = 18 ∨ j = 52) → zi t 125 j = zi τ2 125 j := fun j hj => ((et.2.2.2.2 125 j (by omega)).1).trans ((E3.2.2.2.2 125 j (fun q => by have := q.in; omega)).1)
      have o2 : ∀ j, (j = 18 ∨ j = 52) → zi τ2 125 j = zi τ1 125 j := fun j hj => (E2.2.2.2.2 125 j (by unfold S46; omega)).1
      have cf : ∀ a k, a < 125 → ¬ S8e a k → zi t a k = zi s1 a k := fun a k ha h1 => (low a k ha).trans ((Gf.2.2.2 a k (by omega) h1).1)
      have z16 : ∀ j, j < 6 → zr t 16 j = zr σ 16 j := fun j hj => by
        rw [Eft.2.2.2.1, ef.2.2.2.1, Ee.2.2.2.1, bz16 j hj]
        exact vr j
      have f17 : zi f 0 17 = -1 := ((ef.2.2.2.2 0 17 (by omega)).1).trans ((cE 0 17 (fun q => by have := q.in; omega)).trans ((cB 0 17 (by decide) (by unfold S8b; omega)).trans v17))
      have e124 : ∀ k, zi t 124 k = zi σ 124 k := fun k => (low 124 k (by decide)).trans (((ef.2.2.2.2 124 k (by omega)).1).trans ((cE 124 k (fun q => by have := q.in; omega)).trans ((cB 124 k (by decide) (by unfold S8b; omega)).trans (cS 124 k (by decide) (by unfold S8o; omega)))))
      have e126 : ∀ k, zi t 126 k = zi σ 126 k := fun k => ((Eft.2.2.2.2 126 k (fun q => by
        rcases q with q | q | q | q
        · unfold Slo at q
          omega
        · unfold S46 at q
          omega
        · have := q.in
          omega
        · omega)).1).trans (c1S f Gf 126 k (by decide) (by unfold S8e; omega) (by unfold S8o; omega))
      refine Both.mk X8 X9 ⟨restO hr.1 GT ?_ ?_ ?_ ?_ ?_ ?_ z16, nP, nF, nB, nT, nS, nL, B, n1, ?_, ?_⟩ ((Ae.1.ag ef).2.1 125 (by decide)).1
      · rw [cf 98 1 (by decide) (by unfold S8e; omega)]
        exact v98
      · rw [o3 13 (by omega)]
        exact w13
      · rw [cf 0 15 (by decide) (by unfold S8e; omega), v15, o3 18 (by omega), o2 18 (by omega), v18]
      · rw [low 0 17 (by decide), f17, o3 52 (by omega), o2 52 (by omega), v52]
      · rw [(et.2.2.2.2 125 20 (by omega)).1]
        exact A9e.1.2.2.2.2
      · exact hR.of (by rw [low 0 18 (by decide), f18, t1]) (funext e124) (funext e126)
      · rw [R127]
        exact ⟨At.2.1.2.2.2.1, At.2.1.2.2.1, At.2.1.2.2.2.2.2, At.2.1.2.2.2.2.1⟩
      · unfold Un
        rw [R127]
        unfold DC at DCe
        refine UnF.cong DCe ?_ ?_ (fun i _ => ?_) (fun i _ => ?_) (fun i _ => ?_) (fun _ _ _ => rfl)
        · rw [low 109 1 (by decide), (ef.2.2.2.2 109 1 (by omega)).1]
        · exact (et.2.2.2.2 125 8 (by omega)).1
        · rw [low 110 i (by decide), (ef.2.2.2.2 110 i (by omega)).1]
        · exact (et.2.2.2.2 131 i (by omega)).1
        · exact (et.2.2.2.2 130 i (by omega)).1
    | some k =>
      have r35 : ∀ j, zr se 35 j = zr s 35 j := fun j => by rw [Ee.2.2.2.1]
      obtain ⟨f, Gf, z16f, f17, f18, f124, f1242, Af, f110, xf⟩ := ord8_stop (σ := se) (k := k) A1 Gse (by omega) (fun j hj => by
        rw [r35 j, bz35 j hj, Ee.2.1, bk]
        exact (hx1 j hj).imp id (fun ⟨u, a, b, _⟩ => ⟨u, a, b⟩)) (fun j hj => by rw [r35 j, bz35 j hj]) (bhh.congr (fun o ho => funext fun k => cE _ _ (fun q => by have := q.in; omega))) (fun i hi => by rw [cE 112 i (fun q => by have := q.in; omega)]; exact b112 i hi) (by rw [cE 111 1 (fun q => by have := q.in; omega)]; exact b111)
      have X8 : s_X8_orders 0 σ = some (-3, f) := by
        rw [x8, bx, xe, cbs]
        exact xf
      obtain ⟨τ1, τ2, E1, E2, v52, v18, w13, w20, w50, w51, w132, w133, w130, hOR, hA9, hDC, x9⟩ := run f Gf
      obtain ⟨τ3, x3, A9e, DCe, E3, w3⟩ := ye τ2 hA9 (hDC s e109 e110) (w50.trans b13.symm) (w51.trans b14.symm) hOR
      have x3 : s_X9_orders_l140 (125, zi σ 125 8, 0) τ2 = _ := x3
      have S3 := A9e.1.1
      have bk3 := q_ck125 S3
      obtain ⟨τ4, x4, E4, g127, g130, g131, g8⟩ := give9 S3 (had := zi σ 125 8)
      have S4 := S3.ag E4
      have wk := q_w125 (k := 52) (v := iN k) S4
      have e5 : Ag (fun a k => a = 125 ∧ k = 52) τ4 (zsi τ4 125 52 (iN k)) := Ag.zsi ⟨rfl, rfl⟩
      have y52 : zi (zsi τ4 125 52 (iN k)) 125 52 = iN k := zi_hit
      generalize zsi τ4 125 52 (iN k) = τ5 at wk e5 y52
      have S5 := S4.ag e5
      have bk5 := q_ck125 S5
      have tl := tell9_3 S5
      have et : Ag (fun a k => (a = 125 ∧ k = 1) ∨ a = 126) τ5 (zsi (zsi τ5 125 1 (-3)) 126 3 (zi τ5 126 3 + 1)) := (Ag.zsi (Or.inl ⟨rfl, rfl⟩)).trans (Ag.zsi (Or.inr rfl))
      have t1 : zi (zsi (zsi τ5 125 1 (-3)) 126 3 (zi τ5 126 3 + 1)) 125 1 = -3 := (congrFun (zi_ne (by decide)) 1).trans zi_hit
      have t126 : ∀ j, j ≠ 3 → zi (zsi (zsi τ5 125 1 (-3)) 126 3 (zi τ5 126 3 + 1)) 126 j = zi τ5 126 j := fun j hj => (zi_miss hj).trans (congrFun (zi_ne (by decide)) j)
      have t3 : zi (zsi (zsi τ5 125 1 (-3)) 126 3 (zi τ5 126 3 + 1)) 126 3 = zi τ5 126 3 + 1 := zi_hit
      generalize zsi (zsi τ5 125 1 (-3)) 126 3 (zi τ5 126 3 + 1) = t at tl et t1 t126 t3
      have X9 : s_X9_orders 125 f = some (-3, t) := by
        rw [x9, x3, cbs]
        show ((ck 9 τ3 125).bind fun _ => cb (s_X9_giveBack 125 (zi σ 125 8) τ3) fun _ σ28 => (wrI 9 σ28 125 52 (iN k)).bind fun σ30 => (ck 9 σ30 125).bind fun _ => cb (s_X9_tell 125 ((-3)) σ30) fun v33 σ32 => some (v33, σ32)) = _
        rw [bk3, bos, x4, cbs, wk, bos, bk5, bos, tl, cbs]
      have E45 : Ag (fun a k => Sgb a k ∨ (a = 125 ∧ (k = 1 ∨ k = 52)) ∨ a = 126) τ3 t := ((E4.mono (fun a k q => Or.inl q)).trans (e5.mono (fun a k q => Or.inr (Or.inl ⟨q.1, Or.inr q.2⟩)))).trans (et.mono (fun a k q => by
        rcases q with q | q
        · exact Or.inr (Or.inl ⟨q.1, Or.inl q.2⟩)
        · exact Or.inr (Or.inr q)))
      have Eft : Ag (fun a k => Slo a k ∨ S46 a k ∨ SOr a k ∨ Sgb a k ∨ (a = 125 ∧ (k = 1 ∨ k = 52)) ∨ a = 126) f t := (((E1.mono (fun a k q => Or.inl q)).trans (E2.mono (fun a k q => Or.inr (Or.inl q)))).trans (E3.mono (fun a k q => Or.inr (Or.inr (Or.inl q))))).trans (E45.mono (fun a k q => Or.inr (Or.inr (Or.inr q))))
      have h125 : ∀ a k, (Slo a k ∨ S46 a k ∨ SOr a k ∨ Sgb a k ∨ (a = 125 ∧ (k = 1 ∨ k = 52)) ∨ a = 126) → 125 ≤ a ∧ a < 156 ∧ LO a k := fun a k q => by
        rcases q with q | q | q | q | q
        · have := q.lo
          unfold Slo at q
          exact ⟨by omega, by omega, this⟩
        · have := q.lo
          unfold S46 at q
          exact ⟨by omega, by omega, this⟩
        · have h := q.lo
          have := q.in
          exact ⟨by omega, by omega, h⟩
        · unfold Sgb at q
          exact ⟨by omega, by omega, by unfold LO; omega⟩
        · exact ⟨by omega, by omega, by unfold LO; omega⟩
      have low : ∀ a k, a < 125 → zi t a k = zi f a k := fun a k ha => (Eft.2.2.2.2 a k (fun q => by have := (h125 a k q).1; omega)).1
      have GT : GH LO σ t := ((G1x.mono (fun a k q => q.in.1)).trans (Gf.mono (fun a k q => (S8x.in (Or.inr q)).1))).trans (GH.ofAg (Eft.mono (fun a k q => (h125 a k q).2.2)))
      have At : A8 nP nF nB nT nS nL B (zi σ 127) n t := Af.keep Eft (fun a k q => by have := h125 a k q; omega)
      have d5 : ∀ a k, a ≠ 125 → a ≠ 126 → zi t a k = zi τ4 a k := fun a k h1 h2 => ((et.2.2.2.2 a k (by omega)).1).trans ((e5.2.2.2.2 a k (by omega)).1)
      have d3 : ∀ a k, ¬ SOr a k → zi τ3 a k = zi τ2 a k := fun a k hn => (E3.2.2.2.2 a k hn).1
      have d21 : ∀ a k, ¬ S46 a k → ¬ Slo a k → zi τ2 a k = zi f a k := fun a k h1 h2 => ((E2.2.2.2.2 a k h1).1).trans ((E1.2.2.2.2 a k h2).1)
      have R127 : zi t 127 = zi σ 127 := funext fun i => by
        rw [d5 127 i (by decide) (by decide)]
        by_cases c : 7 ≤ i ∧ i < 30
        · have := g127 (i - 7) (by omega)
          rw [show 7 + (i - 7) = i by omega] at this
          rw [this, d3 130 _ (fun q => by have := q.in; omega)]
          have := w130 (i - 7) (by omega)
          rw [show 7 + (i - 7) = i by omega] at this
          exact this
        · rw [(E4.2.2.2.2 127 i (by unfold Sgb; omega)).1, d3 127 i (fun q => by have := q.in; omega), d21 127 i (by unfold S46; omega) (by unfold Slo; omega)]
          exact c1S f Gf 127 i (by decide) (by unfold S8e; omega) (by unfold S8o; omega)
      have o3 : ∀ j, (j = 13 ∨ j = 18 ∨ j = 20) → zi t 125 j = zi τ3 125 j := fun j hj => (E45.2.2.2.2 125 j (by unfold Sgb; omega)).1
      have cf : ∀ a k, a < 125 → ¬ S8e a k → zi t a k = zi s1 a k := fun a k ha h1 => (low a k ha).trans ((Gf.2.2.2 a k (by omega) h1).1)
      have s124 : ∀ k, zi se 124 k = zi σ 124 k := fun k => (cE 124 k (fun q => by have := q.in; omega)).trans ((cB 124 k (by decide) (by unfold S8b; omega)).trans (cS 124 k (by decide) (by unfold S8o; omega)))
      have s126 : ∀ k, zi τ5 126 k = zi σ 126 k := fun k => by
        rw [(e5.2.2.2.2 126 k (by omega)).1, (E4.2.2.2.2 126 k (by unfold Sgb; omega)).1, d3 126 k (fun q => by have := q.in; omega), d21 126 k (by unfold S46; omega) (by unfold Slo; omega)]
        exact c1S f Gf 126 k (by decide) (by unfold S8e; omega) (by unfold S8o; omega)
      refine Both.mk X8 X9 ⟨restO hr.1 GT ?_ ?_ ?_ ?_ ?_ ?_ (fun j hj => ?_), nP, nF, nB, nT, nS, nL, B, n, ?_, ?_⟩ (Af.1.2.1 125 (by decide)).1
      · rw [cf 98 1 (by decide) (by unfold S8e; omega)]
        exact v98
      · rw [o3 13 (by omega), d3 125 13 (fun q => by have := q.in; omega)]
        exact w13
      · rw [cf 0 15 (by decide) (by unfold S8e; omega), v15, o3 18 (by omega), d3 125 18 (fun q => by have := q.in; omega), (E2.2.2.2.2 125 18 (by unfold S46; omega)).1, v18]
      · rw [low 0 17 (by decide), f17, (et.2.2.2.2 125 52 (by omega)).1, y52]
      · rw [o3 20 (by omega)]
        exact A9e.1.2.2.2.2
      · have q : RfF (-3) (-3) (zi t 124) (zi t 126) := by
          refine RfF.b2 hR (fun j hj => ?_) ?_ (fun j hj => ?_) ?_
          · rw [low 124 j (by decide), f124 j hj, s124]
          · rw [low 124 2 (by decide), f1242, s124]
          · rw [t126 j hj, s126]
          · rw [t3, s126]
        have e1 : zi t 0 18 = -3 := (low 0 18 (by decide)).trans f18
        unfold Rf
        rw [e1, t1]
        exact q
      · rw [Eft.2.2.2.1, z16f j hj]
        exact vr j
      · rw [R127]
        exact ⟨At.2.1.2.2.2.1, At.2.1.2.2.1, At.2.1.2.2.2.2.2, At.2.1.2.2.2.2.1⟩
      · have hU2 := hU
        unfold Un at hU2 ⊢
        rw [R127]
        refine UnF.cong hU2 ?_ ?_ (fun i hi => ?_) (fun i hi => ?_) (fun i hi => ?_) (fun _ _ _ => rfl)
        · exact At.2.2.1.trans hU.2.1.symm
        · rw [(et.2.2.2.2 125 8 (by omega)).1, (e5.2.2.2.2 125 8 (by omega)).1]
          exact g8
        · rw [low 110 i (by decide), f110 i hi]
          exact cS 110 i (by decide) (by unfold S8o; omega)
        · rw [d5 131 i (by decide) (by decide), g131 i hi, d3 133 i (fun q => by have := q.in; omega)]
          exact w133 i hi
        · rw [d5 130 i (by decide) (by decide), g130 i hi, d3 132 i (fun q => by have := q.in; omega)]
          exact w132 i hi
end BOS
