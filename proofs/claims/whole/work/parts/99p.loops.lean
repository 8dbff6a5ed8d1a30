/-! ===== orders run one behind another ===== -/
section ORL
variable {σ τ : Hp} {nP nF nB nT nS nL n : Nat} {B : Book} {R : Nat → Int32}
theorem SOc.lt {a k : Nat} (h : SOc a k) : a < 156 := by
  have := h.in
  omega
theorem SOr.rows {t : Hp} (e : Ag SOr τ t) : zi t 154 = zi τ 154 ∧ zi t 136 = zi τ 136 ∧ zi t 137 = zi τ 137 ∧ zi t 125 21 = zi τ 125 21 := ⟨agr e (fun k q => by have := q.in; omega), agr e (fun k q => by have := q.in; omega), agr e (fun k q => by have := q.in; omega), (e.2.2.2.2 125 21 (fun q => by have := q.in; omega)).1⟩
theorem inner {t m x tm : Nat} {l : List Cl} {cl : Cl} {had : Int32} (hm : l[m]? = some cl) (h12 : m < 12) (hx : x < 4) (ex : cl.1 = 316 + 2 * x) (htm : tm ≤ 20) : ∀ (d j : Nat) (R : Nat → Int32) (n dn : Nat) (σ : Hp), j + d = tm → A8 nP nF nB nT nS nL B R n σ → TextOK t l σ → zi σ 0 13 = iN dn →
    ∃ (w : Bool) (σ1 : Hp) (R1 : Nat → Int32) (n1 : Nat), s_X8_orders_l107 (0, some t, iN m, iN d) σ = some (if w = true then Sum.inl (0, some t, iN m) else Sum.inr (0, iN m), σ1) ∧ A8 nP nF nB nT nS nL B R1 n1 σ1 ∧ Ag SOc σ σ1 ∧ (w = true → ∃ d1, d1 ≤ dn + d ∧ zi σ1 0 13 = iN d1) ∧
      ∀ τ, A9 nP nF nB nT nS nL B R n τ → DC nP nF nT R n σ τ → zi τ 125 50 = zi σ 0 13 → zi τ 125 51 = zi σ 0 14 → zi τ 154 (8 * m + 7) = iN tm → (∃ c c1, c1 ≤ 400 ∧ RRowO (zi τ 154) (zi τ 136) (zi τ 137) m c c1 cl) →
        ∃ τ1, s_X9_orders_l150 (125, had, iN m, iN j) τ = some (if w = true then Sum.inl (125, had, iN m) else Sum.inr (125, had, iN m), τ1) ∧ A9 nP nF nB nT nS nL B R1 n1 τ1 ∧ DC nP nF nT R1 n1 σ1 τ1 ∧ Ag SOr τ τ1 ∧ (w = true → zi τ1 125 50 = zi σ1 0 13 ∧ zi τ1 125 51 = zi σ1 0 14)
  | 0, j, R, n, dn, σ, hj, h, hT, hd => by
    refine ⟨true, σ, R, n, ?_, h, Ag.refl, fun _ => ⟨dn, Nat.le_refl _, hd⟩, fun τ a9 dc q50 q51 h7 hr => ⟨τ, ?_, a9, dc, Ag.refl, fun _ => ⟨q50, q51⟩⟩⟩
    · refine loopF_out (body := fun v => s_X8_orders_b107 (v.1) (v.2.1) (v.2.2.1) (v.2.2.2)) ?_
      show s_X8_orders_b107 0 (some t) (iN m) (iN 0) σ = _
      unfold s_X8_orders_b107
      rw [if_pos (by decide)]
      rfl
    · refine loopF_out (body := fun v => s_X9_orders_b150 (v.1) (v.2.1) (v.2.2.1) (v.2.2.2)) ?_
      show s_X9_orders_b150 125 had (iN m) (iN j) τ = _
      have hS := a9.1.1
      have r49 := q_r125_49 hS
      have m8 : (8 : Int32) * iN m = iN (8 * m) := by rw [show (8 : Int32) = iN 8 from rfl, iN_mul]
      have a7 : iN (8 * m) + 7 = iN (8 * m + 7) := iN_add _ 7
      have l7 := q_ld154 (n := 8 * m + 7) (by omega) hS
      rw [h7] at l7
      have le : iN tm ≤ iN j := ((iN_le (by omega) (by omega)).mpr (by omega))
      unfold s_X9_orders_b150
      rw [r49, bos, bos, m8, a7, l7, bos, if_pos le]
      rfl
  | d + 1, j, R, n, dn, σ, hj, h, hT, hd => by
    obtain ⟨w, σ1, R1, n1, x8, y8, z8, d8, y9⟩ := order1 hm h12 hx ex h hT hd
    have nle : ¬ iN (d + 1) ≤ 0 := fun q => absurd ((iN_le (b := 0) (by omega) (by decide)).mp q) (by omega)
    have k0 := q_ck0 h.1
    have ref : ∀ (τ : Hp), A9 nP nF nB nT nS nL B R n τ → zi τ 154 (8 * m + 7) = iN tm → ∀ v τ1, s_X9_run 125 (iN (8 * m)) τ = some (v, τ1) → s_X9_orders_b150 125 had (iN m) (iN j) τ = if 0 ≤ v then some (Sum.inl (125, had, iN m, iN (j + 1)), τ1) else some (Sum.inr (Sum.inr (125, had, iN m)), τ1) := fun τ a9 h7 v τ1 hv => by
      have hS := a9.1.1
      have r49 := q_r125_49 hS
      have bk := q_ck125 hS
      have m8 : (8 : Int32) * iN m = iN (8 * m) := by rw [show (8 : Int32) = iN 8 from rfl, iN_mul]
      have a7 : iN (8 * m) + 7 = iN (8 * m + 7) := iN_add _ 7
      have j1 : iN j + 1 = iN (j + 1) := iN_add j 1
      have l7 := q_ld154 (n := 8 * m + 7) (by omega) hS
      rw [h7] at l7
      have nle : ¬ iN tm ≤ iN j := (fun h => absurd ((iN_le (by omega) (by omega)).mp h) (by omega))
      unfold s_X9_orders_b150
      rw [r49, bos, bos, m8, a7, l7, bos, if_neg nle, bk, bos, hv, cbs, j1]
    cases w with
    | false =>
      refine ⟨false, σ1, R1, n1, ?_, y8, z8, fun z => (by cases z), fun τ a9 dc q50 q51 h7 hr => ?_⟩
      · refine loopF_out (body := fun v => s_X8_orders_b107 (v.1) (v.2.1) (v.2.2.1) (v.2.2.2)) ?_
        show s_X8_orders_b107 0 (some t) (iN m) (iN (d + 1)) σ = _
        unfold s_X8_orders_b107
        rw [if_neg nle, k0, bos, x8, cbs, if_pos (by rfl)]
        rfl
      · obtain ⟨τ1, v1, v2, v3, v4, v5⟩ := y9 τ a9 dc q50 q51 hr
        refine ⟨τ1, ?_, v2, v3, v4, fun z => by cases z⟩
        refine loopF_out (body := fun v => s_X9_orders_b150 (v.1) (v.2.1) (v.2.2.1) (v.2.2.2)) ?_
        show s_X9_orders_b150 125 had (iN m) (iN j) τ = _
        rw [ref τ a9 h7 _ _ v1, if_neg (by decide)]
        rfl
    | true =>
      obtain ⟨d1, e1, e2⟩ := d8 rfl
      obtain ⟨w, σ2, R2, n2, x82, y82, z82, d82, y92⟩ := inner (had := had) hm h12 hx ex htm d (j + 1) R1 n1 d1 σ1 (by omega) y8 (hT.agx z8 (fun a k q => q.lt)) e2
      refine ⟨w, σ2, R2, n2, ?_, y82, z8.trans z82, fun z => ?_, fun τ a9 dc q50 q51 h7 hr => ?_⟩
      · refine Eq.trans (loopF_in (body := fun v => s_X8_orders_b107 (v.1) (v.2.1) (v.2.2.1) (v.2.2.2)) (v' := (0, some t, iN m, iN d)) (σ' := σ1) ?_) x82
        show s_X8_orders_b107 0 (some t) (iN m) (iN (d + 1)) σ = _
        have id1 : iN (d + 1) + (-1) = iN d := iN_dec (by omega)
        unfold s_X8_orders_b107
        rw [if_neg nle, k0, bos, x8, cbs, if_neg (show ¬ bI true = 0 from z10'), id1]
      · obtain ⟨d2, g1, g2⟩ := d82 z
        exact ⟨d2, by omega, g2⟩
      · obtain ⟨τ1, v1, v2, v3, v4, v5⟩ := y9 τ a9 dc q50 q51 hr
        obtain ⟨p50, p51⟩ := v5 rfl
        obtain ⟨r1, r2, r3, -⟩ := SOr.rows v4
        obtain ⟨τ2, v12, v22, v32, v42, v52⟩ := y92 τ1 v2 v3 p50 p51 (by rw [r1]; exact h7) (by rw [r1, r2, r3]; exact hr)
        refine ⟨τ2, ?_, v22, v32, v4.trans v42, v52⟩
        refine Eq.trans (loopF_in (body := fun v => s_X9_orders_b150 (v.1) (v.2.1) (v.2.2.1) (v.2.2.2)) (v' := (125, had, iN m, iN (j + 1))) (σ' := τ1) ?_) v12
        show s_X9_orders_b150 125 had (iN m) (iN j) τ = _
        rw [ref τ a9 h7 _ _ v1, if_pos (by decide)]
theorem TextOK.cnt {t : Nat} {l : List Cl} (h : TextOK t l σ) : rdI 7 σ t 2 = some (iN l.length) ∧ ck 7 σ t = some () ∧ l.length ≤ 12 := by
  obtain ⟨a, r, sc1, h1, h2, h3, h4, h5, h6, h7, h8, h9, h10, h11, h12, h13, h14, h15, h16, h17⟩ := h
  exact ⟨(rdI_t h3).trans (congrArg some h15), ck_t h3, h16⟩
theorem TextOK.tm {t m : Nat} {l : List Cl} {cl : Cl} (h : TextOK t l σ) (hm : l[m]? = some cl) : s_X7_field t (iN m) 5 σ = some (iN cl.2.2.2.1, σ) ∧ cl.2.2.2.1 ≤ 20 := by
  obtain ⟨a, r, L, x, y, t7, -, -, -, -, -, -, hrow, hf⟩ := h.row hm
  obtain ⟨f0, f1, y2, l2, n1, n2, y3, l3, g2, g3, g4, g5, g6, n3, n4, hts⟩ := hrow
  exact ⟨(hf 5 (by decide)).trans (by rw [g5]), g6⟩
/-- the orders of a text on the reference's side -/
def OR9 (l : List Cl) (τ : Hp) : Prop := (∃ c1, c1 ≤ 400 ∧ RRows RRowO (zi τ 154) (zi τ 136) (zi τ 137) 0 0 c1 l) ∧ zi τ 125 21 = iN l.length
theorem OR9.keep {l : List Cl} {t : Hp} (h : OR9 l τ) (e : Ag SOr τ t) : OR9 l t := by
  obtain ⟨r1, r2, r3, r4⟩ := SOr.rows e
  unfold OR9
  rw [r1, r2, r3, r4]
  exact h
theorem OR9.row {m : Nat} {l : List Cl} {cl : Cl} (h : OR9 l τ) (hm : l[m]? = some cl) : zi τ 154 (8 * m + 7) = iN cl.2.2.2.1 ∧ ∃ c c1, c1 ≤ 400 ∧ RRowO (zi τ 154) (zi τ 136) (zi τ 137) m c c1 cl := by
  obtain ⟨⟨c1, hc, hr⟩, -⟩ := h
  obtain ⟨a, b, q1, q2, q3, q4⟩ := RRows.get l 0 0 c1 hr m cl hm
  rw [Nat.zero_add] at q4
  refine ⟨?_, a, b, by omega, q4⟩
  obtain ⟨x', hx, ex', r0, r7, -⟩ := q4
  exact r7
theorem outer {t : Nat} {l : List Cl} {had : Int32} (hk : ∀ (m : Nat) (cl : Cl), l[m]? = some cl → ∃ x, x < 4 ∧ cl.1 = 316 + 2 * x) : ∀ (d m : Nat) (R : Nat → Int32) (n dn : Nat) (σ : Hp), m + d = l.length → A8 nP nF nB nT nS nL B R n σ → TextOK t l σ → zi σ 0 13 = iN dn →
    ∃ (o : Option Nat) (σ1 : Hp) (R1 : Nat → Int32) (n1 : Nat), s_X8_orders_l91 (0, some t, iN m) σ = some ((match o with
        | none => Sum.inl 0
        | some k => Sum.inr (0, iN k)), σ1) ∧ A8 nP nF nB nT nS nL B R1 n1 σ1 ∧ Ag SOc σ σ1 ∧ (o = none → ∃ d1, d1 ≤ dn + 20 * d ∧ zi σ1 0 13 = iN d1) ∧
      ∀ τ, A9 nP nF nB nT nS nL B R n τ → DC nP nF nT R n σ τ → zi τ 125 50 = zi σ 0 13 → zi τ 125 51 = zi σ 0 14 → OR9 l τ →
        ∃ τ1, s_X9_orders_l140 (125, had, iN m) τ = some ((match o with
        | none => Sum.inl 125
        | some k => Sum.inr (125, had, iN k)), τ1) ∧ A9 nP nF nB nT nS nL B R1 n1 τ1 ∧ DC nP nF nT R1 n1 σ1 τ1 ∧ Ag SOr τ τ1 ∧ (o = none → zi τ1 125 50 = zi σ1 0 13)
  | 0, m, R, n, dn, σ, hj, h, hT, hd => by
    obtain ⟨c1, c2, c3⟩ := hT.cnt
    have le : iN l.length ≤ iN m := ((iN_le (by omega) (by omega)).mpr (by omega))
    refine ⟨none, σ, R, n, ?_, h, Ag.refl, fun _ => ⟨dn, by omega, hd⟩, fun τ a9 dc q50 q51 h7 => ⟨τ, ?_, a9, dc, Ag.refl, fun _ => q50⟩⟩
    · refine loopF_out (body := fun v => s_X8_orders_b91 (v.1) (v.2.1) (v.2.2)) ?_
      show s_X8_orders_b91 0 (some t) (iN m) σ = _
      unfold s_X8_orders_b91
      rw [bos, c1, bos, if_pos le]
    · refine loopF_out (body := fun v => s_X9_orders_b140 (v.1) (v.2.1) (v.2.2)) ?_
      show s_X9_orders_b140 125 had (iN m) τ = _
      have i21 := q_i125 (k := 21) a9.1.1
      rw [h7.2] at i21
      unfold s_X9_orders_b140
      rw [i21, bos, if_pos le]
  | d + 1, m, R, n, dn, σ, hj, h, hT, hd => by
    obtain ⟨c1, c2, c3⟩ := hT.cnt
    have nle : ¬ iN l.length ≤ iN m := (fun h => absurd ((iN_le (by omega) (by omega)).mp h) (by omega))
    have hm : l[m]? = some (l[m]'(by omega)) := List.getElem?_eq_getElem (by omega)
    generalize l[m]'(by omega) = cl at hm
    obtain ⟨x, hx, ex⟩ := hk m cl hm
    obtain ⟨F5, t20⟩ := hT.tm hm
    obtain ⟨w, σ1, R1, n1, x8, y8, z8, d8, y9⟩ := inner (had := had) hm (by omega) hx ex t20 cl.2.2.2.1 0 R n dn σ (by omega) h hT hd
    have m1 : iN m + 1 = iN (m + 1) := iN_add m 1
    have cls : s_X8_orders_b91 0 (some t) (iN m) σ = if w = true then some (Sum.inl (0, some t, iN (m + 1)), σ1) else some (Sum.inr (Sum.inr (0, iN m)), σ1) := by
      unfold s_X8_orders_b91
      rw [bos, c1, bos, if_neg nle, c2, bos, F5, cbs, x8, cbs]
      cases w with
      | true =>
        rw [← m1]
        rfl
      | false => rfl
    have ref : ∀ (τ : Hp), SK τ → OR9 l τ → ∀ τ1, s_X9_orders_l150 (125, had, iN m, iN 0) τ = some (if w = true then Sum.inl (125, had, iN m) else Sum.inr (125, had, iN m), τ1) → s_X9_orders_b140 125 had (iN m) τ = if w = true then some (Sum.inl (125, had, iN (m + 1)), τ1) else some (Sum.inr (Sum.inr (125, had, iN m)), τ1) := fun τ hS h7 τ1 hv => by
      have hv : s_X9_orders_l150 (125, had, iN m, 0) τ = _ := hv
      have i21 := q_i125 (k := 21) hS
      rw [h7.2] at i21
      unfold s_X9_orders_b140
      rw [i21, bos, if_neg nle, hv, cbs]
      cases w with
      | true =>
        rw [← m1]
        rfl
      | false => rfl
    cases w with
    | false =>
      refine ⟨some m, σ1, R1, n1, ?_, y8, z8, fun z => (by cases z), fun τ a9 dc q50 q51 h7 => ?_⟩
      · refine loopF_out (body := fun v => s_X8_orders_b91 (v.1) (v.2.1) (v.2.2)) ?_
        exact cls
      · obtain ⟨r7, hr⟩ := h7.row hm
        obtain ⟨τ1, v1, v2, v3, v4, v5⟩ := y9 τ a9 dc q50 q51 r7 hr
        refine ⟨τ1, ?_, v2, v3, v4, fun z => by cases z⟩
        refine loopF_out (body := fun v => s_X9_orders_b140 (v.1) (v.2.1) (v.2.2)) ?_
        exact ref τ a9.1.1 h7 τ1 v1
    | true =>
      obtain ⟨d1, e1, e2⟩ := d8 rfl
      obtain ⟨o, σ2, R2, n2, x82, y82, z82, d82, y92⟩ := outer (had := had) hk d (m + 1) R1 n1 d1 σ1 (by omega) y8 (hT.agx z8 (fun a k q => q.lt)) e2
      refine ⟨o, σ2, R2, n2, ?_, y82, z8.trans z82, fun z => ?_, fun τ a9 dc q50 q51 h7 => ?_⟩
      · refine Eq.trans (loopF_in (body := fun v => s_X8_orders_b91 (v.1) (v.2.1) (v.2.2)) (v' := (0, some t, iN (m + 1))) (σ' := σ1) ?_) x82
        exact cls
      · obtain ⟨d2, g1, g2⟩ := d82 z
        exact ⟨d2, by omega, g2⟩
      · obtain ⟨r7, hr⟩ := h7.row hm
        obtain ⟨τ1, v1, v2, v3, v4, v5⟩ := y9 τ a9 dc q50 q51 r7 hr
        obtain ⟨p50, p51⟩ := v5 rfl
        obtain ⟨τ2, v12, v22, v32, v42, v52⟩ := y92 τ1 v2 v3 p50 p51 (h7.keep v4)
        refine ⟨τ2, ?_, v22, v32, v4.trans v42, v52⟩
        refine Eq.trans (loopF_in (body := fun v => s_X9_orders_b140 (v.1) (v.2.1) (v.2.2)) (v' := (125, had, iN (m + 1))) (σ' := τ1) ?_) v12
        exact ref τ a9.1.1 h7 τ1 v1
end ORL
