/-! ===== one order on both sides; loops of orders ===== -/
section ORD
variable {σ τ : Hp} {nP nF nB nT nS nL n : Nat} {B : Book} {R : Nat → Int32}
def SOc (a k : Nat) : Prop := SO8 a k ∨ (a = 0 ∧ (k = 13 ∨ k = 14))
def SOr (a k : Nat) : Prop := SO9 a k ∨ SO0 a k ∨ (a = 125 ∧ (k = 50 ∨ k = 51))
theorem SO8.in {a k : Nat} (h : SO8 a k) : (1 ≤ a ∧ a ≤ 15) ∨ a = 18 ∨ a = 19 ∨ a = 56 ∨ a = 57 ∨ a = 107 ∨ a = 108 ∨ a = 114 ∨ (116 ≤ a ∧ a ≤ 123) ∨ a = 110 ∨ (a = 109 ∧ k = 1) := by
  rcases h with ((q | q) | q) | q
  · unfold S8 at q
    omega
  · omega
  · omega
  · unfold S110 at q
    omega
theorem SO9.in {a k : Nat} (h : SO9 a k) : (143 ≤ a ∧ a ≤ 146) ∨ (a = 127 ∧ 7 ≤ k ∧ k < 30) ∨ (a = 130 ∧ k < 368) ∨ a = 131 ∨ (a = 125 ∧ (k = 0 ∨ k = 8 ∨ k = 34 ∨ k = 38 ∨ k = 39 ∨ k = 40)) := by
  rcases h with (q | q | q) | q
  · unfold S9 at q
    omega
  · omega
  · omega
  · unfold S131 at q
    omega
theorem SOc.in {a k : Nat} (h : SOc a k) : (1 ≤ a ∧ a ≤ 15) ∨ a = 18 ∨ a = 19 ∨ a = 56 ∨ a = 57 ∨ a = 107 ∨ a = 108 ∨ a = 114 ∨ (116 ≤ a ∧ a ≤ 123) ∨ a = 110 ∨ (a = 109 ∧ k = 1) ∨ (a = 0 ∧ (k = 13 ∨ k = 14)) := by
  rcases h with q | q
  · have := q.in
    omega
  · omega
theorem SOr.in {a k : Nat} (h : SOr a k) : (143 ≤ a ∧ a ≤ 146) ∨ (a = 127 ∧ 7 ≤ k ∧ k < 30) ∨ (a = 130 ∧ k < 368) ∨ a = 131 ∨ (a = 125 ∧ (k = 0 ∨ k = 8 ∨ k = 20 ∨ k = 34 ∨ k = 38 ∨ k = 39 ∨ k = 40 ∨ k = 50 ∨ k = 51 ∨ k = 53)) := by
  rcases h with q | (q | q) | q
  · have := q.in
    omega
  · unfold SUm at q
    omega
  · unfold S44 at q
    omega
  · omega
theorem A8.keep {S : Nat → Nat → Prop} {s : Hp} (h : A8 nP nF nB nT nS nL B R n σ) (e : Ag S σ s) (hs : ∀ a k, S a k → (a = 0 ∨ 16 ≤ a) ∧ a < 156 ∧ a ≠ 109) : A8 nP nF nB nT nS nL B R n s := by
  obtain ⟨hS, ⟨b1, b2, b3, b4, b5, b6⟩, h3, h4⟩ := h
  have nz : ∀ a k, ¬ ((a = 0 ∨ 16 ≤ a) ∧ a < 156 ∧ a ≠ 109) → ¬ S a k := fun a k hn q => hn (hs a k q)
  refine ⟨hS.ag e, ⟨b1, b2.ag e, b3.congr (fun o ho => funext fun k => (e.2.2.2.2 (1 + o) k (nz _ _ (by omega))).1), b4, fun j hj => ?_, b6⟩, ((e.2.2.2.2 109 1 (nz _ _ (by omega))).1).trans h3, h4⟩
  obtain ⟨t, q1, q2⟩ := b5 j hj
  exact ⟨t, by rw [e.2.2.2.1]; exact q1, q2.same (Nat.le_of_eq e.1.symm) (fun a ha _ => ⟨by rw [e.2.1], by rw [e.2.2.1], by rw [e.2.2.2.1], funext fun k => (e.2.2.2.2 a k (nz _ _ (by omega))).1⟩)⟩
theorem A9.keep {S : Nat → Nat → Prop} {s : Hp} (h : A9 nP nF nB nT nS nL B R n τ) (e : Ag S τ s) (hs : ∀ a k, S a k → a ≠ 127 ∧ (a = 125 → k ≠ 8)) (h20 : zi s 125 20 = 0) : A9 nP nF nB nT nS nL B R n s :=
  ⟨⟨h.1.1.ag e, (agr e (fun k q => (hs _ _ q).1 rfl)).trans h.1.2.1, h.1.2.2.1, h.1.2.2.2.1, h20⟩, ((e.2.2.2.2 125 8 (fun q => (hs _ _ q).2 rfl rfl)).1).trans h.2⟩
theorem DC.keep {S T : Nat → Nat → Prop} {s t : Hp} (h : DC nP nF nT R n σ τ) (e8 : Ag S σ s) (hs : ∀ a k, S a k → a ≠ 109 ∧ a ≠ 110) (e9 : Ag T τ t) (ht : ∀ a k, T a k → a ≠ 130 ∧ a ≠ 131 ∧ (a = 125 → k ≠ 8)) : DC nP nF nT R n s t := by
  unfold DC at *
  rw [(e8.2.2.2.2 109 1 (fun q => (hs _ _ q).1 rfl)).1, agr e8 (a := 110) (fun k q => (hs _ _ q).2 rfl), (e9.2.2.2.2 125 8 (fun q => (ht _ _ q).2.2 rfl rfl)).1, agr e9 (a := 131) (fun k q => (ht _ _ q).2.1 rfl), agr e9 (a := 130) (fun k q => (ht _ _ q).1 rfl)]
  exact h
theorem SO0.in {a k : Nat} (h : SO0 a k) : a = 144 ∨ a = 145 ∨ (a = 125 ∧ (k = 20 ∨ k = 38 ∨ k = 39 ∨ k = 53)) := by
  rcases h with q | q
  · unfold SUm at q
    omega
  · unfold S44 at q
    omega
theorem S8p.in {a k : Nat} (h : S8p a k) : a = 18 ∨ a = 19 ∨ a = 56 ∨ a = 57 ∨ a = 107 ∨ a = 108 ∨ a = 114 ∨ (116 ≤ a ∧ a ≤ 123) := by
  rcases h with q | q
  · unfold S8 at q
    omega
  · omega
theorem step_act {x : Nat} (hx : x < 4) (a b : Int32) : StepOK nP nF nB nT nS nL B (act8 x a b) (act9 x a b) := by
  have : x = 0 ∨ x = 1 ∨ x = 2 ∨ x = 3 := by omega
  rcases this with rfl | rfl | rfl | rfl
  · rw [show act8 0 a b = s_X8_tryStride 0 a b from if_pos rfl, show act9 0 a b = s_X9_strideNow 125 a b from if_pos rfl]
    exact step_stride a b
  · rw [show act8 1 a b = s_X8_tryPut 0 a b from (if_neg (by decide)).trans (if_pos rfl), show act9 1 a b = s_X9_putNow 125 a b from (if_neg (by decide)).trans (if_pos rfl)]
    exact step_put a b
  · rw [show act8 2 a b = s_X8_tryDoor 0 a b from (if_neg (by decide)).trans ((if_neg (by decide)).trans (if_pos rfl)), show act9 2 a b = s_X9_doorNow 125 a b from (if_neg (by decide)).trans ((if_neg (by decide)).trans (if_pos rfl))]
    exact step_door a b
  · rw [show act8 3 a b = s_X8_tryPass 0 from (if_neg (by decide)).trans ((if_neg (by decide)).trans (if_neg (by decide))), show act9 3 a b = s_X9_passNow 125 from (if_neg (by decide)).trans ((if_neg (by decide)).trans (if_neg (by decide)))]
    exact step_pass
def S13 (a k : Nat) : Prop := a = 0 ∧ (k = 13 ∨ k = 14)
def S50 (a k : Nat) : Prop := a = 125 ∧ (k = 50 ∨ k = 51)
theorem fin8_no {x : Nat} {v : Int32} {s : Hp} (hS : SK s) (hv : ¬ 0 ≤ v) : ∃ σ1, fin8 x v s = some (0, σ1) ∧ Ag S13 s σ1 := by
  have w := q_w0 (k := 14) (v := v) hS
  unfold fin8
  by_cases x3 : x = 3
  · refine ⟨zsi s 0 14 v, ?_, Ag.zsi ⟨rfl, Or.inr rfl⟩⟩
    rw [if_pos x3, w, bos]
    unfold s_X8_runOnce_j237
    rw [if_neg hv]
  · refine ⟨s, ?_, Ag.refl⟩
    rw [if_neg x3]
    unfold s_X8_runOnce_j237
    rw [if_neg hv]
theorem fin8_ok {x : Nat} {v : Int32} {s : Hp} (hS : SK s) (hv : 0 ≤ v) : ∃ σ1, fin8 x v s = some (1, σ1) ∧ Ag S13 s σ1 ∧ zi σ1 0 13 = zi s 0 13 + 1 ∧ zi σ1 0 14 = if x = 3 then v else zi s 0 14 := by
  have w := q_w0 (k := 14) (v := v) hS
  unfold fin8
  by_cases x3 : x = 3
  · have e1 : Ag S13 s (zsi s 0 14 v) := Ag.zsi ⟨rfl, Or.inr rfl⟩
    have a14 : zi (zsi s 0 14 v) 0 14 = v := zi_hit
    have a13 : zi (zsi s 0 14 v) 0 13 = zi s 0 13 := zi_miss (by decide)
    rw [if_pos x3, w, bos, if_pos x3]
    generalize zsi s 0 14 v = s1 at e1 a14 a13
    have S1 := hS.ag e1
    have i := q_i0 (k := 13) S1
    rw [a13] at i
    have w2 := q_w0 (k := 13) (v := zi s 0 13 + 1) S1
    refine ⟨zsi s1 0 13 (zi s 0 13 + 1), ?_, e1.trans (Ag.zsi ⟨rfl, Or.inl rfl⟩), zi_hit, (zi_miss (by decide)).trans a14⟩
    unfold s_X8_runOnce_j237
    rw [if_pos hv, i, bos, w2, bos]
  · rw [if_neg x3, if_neg x3]
    have i := q_i0 (k := 13) hS
    have w2 := q_w0 (k := 13) (v := zi s 0 13 + 1) hS
    refine ⟨zsi s 0 13 (zi s 0 13 + 1), ?_, Ag.zsi ⟨rfl, Or.inl rfl⟩, zi_hit, zi_miss (by decide)⟩
    unfold s_X8_runOnce_j237
    rw [if_pos hv, i, bos, w2, bos]
theorem j181_9 {t1 : Int32} {s : Hp} (hS : SK s) : ∃ s1, s_X9_run_j181 125 (some 125) t1 s = some (0, s1) ∧ Ag S50 s s1 ∧ zi s1 125 50 = zi s 125 50 + 1 ∧ zi s1 125 51 = t1 := by
  have w := q_w125 (k := 51) (v := t1) hS
  have e1 : Ag S50 s (zsi s 125 51 t1) := Ag.zsi ⟨rfl, Or.inr rfl⟩
  have a51 : zi (zsi s 125 51 t1) 125 51 = t1 := zi_hit
  have a50 : zi (zsi s 125 51 t1) 125 50 = zi s 125 50 := zi_miss (by decide)
  unfold s_X9_run_j181
  rw [bos, w, bos]
  generalize zsi s 125 51 t1 = s1 at e1 a51 a50
  have S1 := hS.ag e1
  have i := q_i125 (k := 50) S1
  rw [a50] at i
  have w2 := q_w125 (k := 50) (v := zi s 125 50 + 1) S1
  refine ⟨zsi s1 125 50 (zi s 125 50 + 1), ?_, e1.trans (Ag.zsi ⟨rfl, Or.inl rfl⟩), zi_hit, (zi_miss (by decide)).trans a51⟩
  rw [i, bos, w2, bos]
theorem fin9_ok {x : Nat} {v : Int32} {s : Hp} (hS : SK s) (hv : 0 ≤ v) : ∃ s1, fin9 x v s = some (0, s1) ∧ Ag S50 s s1 ∧ zi s1 125 50 = zi s 125 50 + 1 ∧ zi s1 125 51 = if x = 3 then v else zi s 125 51 := by
  unfold fin9
  rw [if_pos hv]
  by_cases x3 : x = 3
  · rw [if_pos x3, if_pos x3]
    exact j181_9 hS
  · have i := q_i125 (k := 51) hS
    rw [if_neg x3, if_neg x3, i, bos]
    exact j181_9 hS
theorem fin9_no {x : Nat} {v : Int32} {s : Hp} (hv : ¬ 0 ≤ v) : fin9 x v s = some (-3, s) := by
  unfold fin9
  rw [if_neg hv]
theorem order1 {t m x : Nat} {l : List Cl} {cl : Cl} (hm : l[m]? = some cl) (h12 : m < 12) (hx : x < 4) (ex : cl.1 = 316 + 2 * x) (h : A8 nP nF nB nT nS nL B R n σ) (hT : TextOK t l σ) {dn : Nat} (hd : zi σ 0 13 = iN dn) :
    ∃ (w : Bool) (σ1 : Hp) (R1 : Nat → Int32) (n1 : Nat), s_X8_runOnce 0 (some t) (iN m) σ = some (bI w, σ1) ∧ A8 nP nF nB nT nS nL B R1 n1 σ1 ∧ Ag SOc σ σ1 ∧ (w = true → ∃ d1, d1 ≤ dn + 1 ∧ zi σ1 0 13 = iN d1) ∧
      ∀ τ, A9 nP nF nB nT nS nL B R n τ → DC nP nF nT R n σ τ → zi τ 125 50 = zi σ 0 13 → zi τ 125 51 = zi σ 0 14 → (∃ c c1, c1 ≤ 400 ∧ RRowO (zi τ 154) (zi τ 136) (zi τ 137) m c c1 cl) →
        ∃ τ1, s_X9_run 125 (iN (8 * m)) τ = some (if w = true then 0 else -3, τ1) ∧ A9 nP nF nB nT nS nL B R1 n1 τ1 ∧ DC nP nF nT R1 n1 σ1 τ1 ∧ Ag SOr τ τ1 ∧ (w = true → zi τ1 125 50 = zi σ1 0 13 ∧ zi τ1 125 51 = zi σ1 0 14) := by
  obtain ⟨s, e8, c8⟩ := once8 h hT hm hx ex
  have h9 := fun (τ : Hp) (a9 : A9 nP nF nB nT nS nL B R n τ) (q50 : zi τ 125 50 = zi σ 0 13) (q51 : zi τ 125 51 = zi σ 0 14) (hr : ∃ c c1, c1 ≤ 400 ∧ RRowO (zi τ 154) (zi τ 136) (zi τ 137) m c c1 cl) => (by
    obtain ⟨c, c1, hc, hr⟩ := hr
    have := once9 (x := x) a9 h12 hr hc ex
    rw [q50, q51] at this
    exact this : ∃ s, Ag SO0 τ s ∧ zi s 125 20 = 0 ∧ match ordP cl x (ow nF nB nT R (zi σ 0 13) (zi σ 0 14)) with
      | none => s_X9_run 125 (iN (8 * m)) τ = some (0, s)
      | some none => s_X9_run 125 (iN (8 * m)) τ = some (-3, s)
      | some (some p) => ∀ v s1, act9 x p.1 p.2 s = some (v, s1) → zi s1 154 = zi s 154 → SK s1 → s_X9_run 125 (iN (8 * m)) τ = fin9 x v s1)
  generalize ordP cl x (ow nF nB nT R (zi σ 0 13) (zi σ 0 14)) = o at c8 h9
  have hs := h.agp e8
  have k13 : zi s 0 13 = zi σ 0 13 := (e8.2.2.2.2 0 13 (fun q => by have := q.in; omega)).1
  have k14 : zi s 0 14 = zi σ 0 14 := (e8.2.2.2.2 0 14 (fun q => by have := q.in; omega)).1
  have E8 : Ag SOc σ s := e8.mono (fun a k q => Or.inl (Or.inl (Or.inl q)))
  have dk := fun (τ t : Hp) (hc : DC nP nF nT R n σ τ) (e : Ag SO0 τ t) => hc.keep e8 (fun a k q => by have := q.in; omega) e (fun a k q => by have := q.in; omega)
  have ak := fun (τ t : Hp) (hc : A9 nP nF nB nT nS nL B R n τ) (e : Ag SO0 τ t) (h20 : zi t 125 20 = 0) => hc.keep e (fun a k q => by have := q.in; omega) h20
  have k5 : ∀ (τ t : Hp), Ag SO0 τ t → zi t 125 50 = zi τ 125 50 ∧ zi t 125 51 = zi τ 125 51 := fun τ t e => ⟨(e.2.2.2.2 125 50 (fun q => by have := q.in; omega)).1, (e.2.2.2.2 125 51 (fun q => by have := q.in; omega)).1⟩
  cases o with
  | none =>
    refine ⟨true, s, R, n, c8, hs, E8, fun _ => ⟨dn, by omega, k13.trans hd⟩, fun τ a9 dc q50 q51 hr => ?_⟩
    obtain ⟨s9, e9, s20, c9⟩ := h9 τ a9 q50 q51 hr
    obtain ⟨m50, m51⟩ := k5 τ s9 e9
    exact ⟨s9, c9, ak τ s9 a9 e9 s20, dk τ s9 dc e9, e9.mono (fun a k q => Or.inr (Or.inl q)), fun _ => ⟨by rw [m50, q50, k13], by rw [m51, q51, k14]⟩⟩
  | some o =>
    cases o with
    | none =>
      refine ⟨false, s, R, n, c8, hs, E8, fun z => (by cases z), fun τ a9 dc q50 q51 hr => ?_⟩
      obtain ⟨s9, e9, s20, c9⟩ := h9 τ a9 q50 q51 hr
      exact ⟨s9, c9, ak τ s9 a9 e9 s20, dk τ s9 dc e9, e9.mono (fun a k q => Or.inr (Or.inl q)), fun z => by cases z⟩
    | some p =>
      obtain ⟨v, s1, R1, n1, x8, y8, z8, hv, y9⟩ := step_act (nP := nP) (nF := nF) (nB := nB) (nT := nT) (nS := nS) (nL := nL) (B := B) hx p.1 p.2 R n s hs
      have r8 := c8 v s1 x8
      have l13 : zi s1 0 13 = zi σ 0 13 := ((z8.2.2.2.2 0 13 (fun q => by have := q.in; omega)).1).trans k13
      have l14 : zi s1 0 14 = zi σ 0 14 := ((z8.2.2.2.2 0 14 (fun q => by have := q.in; omega)).1).trans k14
      have E81 : Ag SOc σ s1 := E8.trans (z8.mono (fun a k q => Or.inl q))
      have n13 : ∀ a k, S13 a k → (a = 0 ∨ 16 ≤ a) ∧ a < 156 ∧ a ≠ 109 := fun a k q => by unfold S13 at q; omega
      have run9 := fun (τ : Hp) (a9 : A9 nP nF nB nT nS nL B R n τ) (dc : DC nP nF nT R n σ τ) (q50 : zi τ 125 50 = zi σ 0 13) (q51 : zi τ 125 51 = zi σ 0 14) (hr : ∃ c c1, c1 ≤ 400 ∧ RRowO (zi τ 154) (zi τ 136) (zi τ 137) m c c1 cl) => (by
        obtain ⟨s9, e9, s20, c9⟩ := h9 τ a9 q50 q51 hr
        obtain ⟨m50, m51⟩ := k5 τ s9 e9
        obtain ⟨t1, w1, w2, w3, w4⟩ := y9 s9 (ak τ s9 a9 e9 s20) (dk τ s9 dc e9)
        refine ⟨t1, c9 v t1 w1 (agr w4 (fun k q => by have := q.in; omega)) w2.1.1, w2, w3, (e9.mono (fun a k q => Or.inr (Or.inl q))).trans (w4.mono (fun a k q => Or.inl q)), ?_, ?_⟩
        · rw [(w4.2.2.2.2 125 50 (fun q => by have := q.in; omega)).1, m50, q50]
        · rw [(w4.2.2.2.2 125 51 (fun q => by have := q.in; omega)).1, m51, q51] : ∃ t1, s_X9_run 125 (iN (8 * m)) τ = fin9 x v t1 ∧ A9 nP nF nB nT nS nL B R1 n1 t1 ∧ DC nP nF nT R1 n1 s1 t1 ∧ Ag SOr τ t1 ∧ zi t1 125 50 = zi σ 0 13 ∧ zi t1 125 51 = zi σ 0 14)
      by_cases c : 0 ≤ v
      · obtain ⟨σ1, f1, f2, f3, f4⟩ := fin8_ok (x := x) (v := v) y8.1 c
        refine ⟨true, σ1, R1, n1, r8.trans f1, y8.keep f2 n13, E81.trans (f2.mono (fun a k q => Or.inr q)), fun _ => ⟨dn + 1, Nat.le_refl _, by rw [f3, l13, hd]; exact iN_add dn 1⟩, fun τ a9 dc q50 q51 hr => ?_⟩
        obtain ⟨t1, g1, g2, g3, g4, g5, g6⟩ := run9 τ a9 dc q50 q51 hr
        obtain ⟨τ1, i1, i2, i3, i4⟩ := fin9_ok (x := x) (v := v) g2.1.1 c
        refine ⟨τ1, g1.trans i1, g2.keep i2 (fun a k q => by unfold S50 at q; omega) (((i2.2.2.2.2 125 20 (by unfold S50; omega)).1).trans g2.1.2.2.2.2), g3.keep f2 (fun a k q => by unfold S13 at q; omega) i2 (fun a k q => by unfold S50 at q; omega), g4.trans (i2.mono (fun a k q => Or.inr (Or.inr q))), fun _ => ⟨by rw [i3, f3, g5, l13], by rw [i4, f4, g6, l14]⟩⟩
      · obtain ⟨σ1, f1, f2⟩ := fin8_no (x := x) (v := v) y8.1 c
        refine ⟨false, σ1, R1, n1, r8.trans f1, y8.keep f2 n13, E81.trans (f2.mono (fun a k q => Or.inr q)), fun z => (by cases z), fun τ a9 dc q50 q51 hr => ?_⟩
        obtain ⟨t1, g1, g2, g3, g4, g5, g6⟩ := run9 τ a9 dc q50 q51 hr
        exact ⟨t1, g1.trans (fin9_no c), g2, g3.keep f2 (fun a k q => by unfold S13 at q; omega) Ag.refl (T := S50) (fun a k q => by unfold S50 at q; omega), g4, fun z => by cases z⟩
end ORD
