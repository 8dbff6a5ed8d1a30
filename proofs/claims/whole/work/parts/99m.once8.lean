/-! ===== one order: the class ===== -/
section ONC
variable {σ : Hp} {nP nF nB nT nS nL n : Nat} {B : Book} {R : Nat → Int32}
theorem TextOK.same {t : Nat} {l : List Cl} {s : Hp} (h : TextOK t l σ) (e0 : zn σ ≤ zn s) (e1 : ∀ a, 156 ≤ a → a < zn σ → zk s a = zk σ a ∧ zl s a = zl σ a ∧ zr s a = zr σ a ∧ zi s a = zi σ a) : TextOK t l s := by
  obtain ⟨a, r, sc1, h1, h2, h3, h4, h5, h6, h7, h8, h9, h10, h11, h12, h13, h14, h15, h16, h17⟩ := h
  have et := e1 t h1 h2
  have ea := e1 a h6 h7
  have er := e1 r h8 h9
  refine ⟨a, r, sc1, h1, by omega, by rw [et.1]; exact h3, by rw [et.2.2.1]; exact h4, by rw [et.2.2.1]; exact h5, h6, by omega, h8, by omega, by rw [ea.1]; exact h10, by rw [er.1]; exact h11, h12, by rw [ea.2.1]; exact h13, by rw [er.2.1]; exact h14, by rw [et.2.2.2]; exact h15, h16, ?_⟩
  rw [ea.2.2.2, er.2.2.2]
  exact h17
theorem TextOK.agx {t : Nat} {l : List Cl} {S : Nat → Nat → Prop} {s : Hp} (h : TextOK t l σ) (e : Ag S σ s) (hs : ∀ a k, S a k → a < 156) : TextOK t l s :=
  h.same (Nat.le_of_eq e.1.symm) (fun a ha _ => ⟨by rw [e.2.1], by rw [e.2.2.1], by rw [e.2.2.2.1], funext fun k => (e.2.2.2.2 a k (fun q => by have := hs a k q; omega)).1⟩)
theorem TextOK.row {t m : Nat} {l : List Cl} {cl : Cl} (h : TextOK t l σ) (hm : l[m]? = some cl) : ∃ a r L x y, zk σ t = 7 ∧ zr σ t 0 = some a ∧ zk σ a = 11 ∧ zl σ a = L ∧ L ≤ 400 ∧ x ≤ y ∧ y ≤ L ∧ RowC (zi σ r) (zi σ a) m x y cl ∧ ∀ w, w < 6 → s_X7_field t (iN m) (iN w) σ = some (zi σ r (6 * m + w), σ) := by
  obtain ⟨a, r, sc1, h1, h2, h3, h4, h5, h6, h7, h8, h9, h10, h11, h12, h13, h14, h15, h16, h17⟩ := h
  obtain ⟨x, y, q1, q2, q3, q4⟩ := RowsL.get l 0 0 sc1 h17 m cl hm
  have lt : m < l.length := (List.getElem?_eq_some_iff.mp hm).1
  rw [Nat.zero_add] at q4
  exact ⟨a, r, sc1, x, y, h3, h4, h10, h13, h12, q2, q3, q4, fun w hw => field8 h3 h5 h11 h14 lt h16 hw⟩
theorem TextOK.kind {t m : Nat} {l : List Cl} {cl : Cl} (h : TextOK t l σ) (hm : l[m]? = some cl) : s_X7_field t (iN m) 0 σ = some (iN cl.1, σ) ∧ ck 7 σ t = some () := by
  obtain ⟨a, r, L, x, y, t7, -, -, -, -, -, -, hrow, hf⟩ := h.row hm
  refine ⟨(hf 0 (by decide)).trans ?_, ck_t t7⟩
  rw [show 6 * m + 0 = 6 * m from rfl, hrow.1]
def tstO (t : Option Sem) (w : Env) : Bool := match t with
  | none => true
  | some s => decide (s w = some 1)
/-- the numbers that an order is run with; none: its sums are broken -/
def sumsO (cl : Cl) (x : Nat) (w : Env) : Option (Int32 × Int32) := if x = 3 then some (0, 0) else match cl.2.1 w, cl.2.2.1 w with
  | some a, some b => some (Int64.toInt32 a, Int64.toInt32 b)
  | _, _ => none
/-- what an order comes to; none: it is kept from being run -/
def ordP (cl : Cl) (x : Nat) (w : Env) : Option (Option (Int32 × Int32)) := if tstO cl.2.2.2.2 w = true then some (sumsO cl x w) else none
noncomputable def act8 (x : Nat) (a b : Int32) : Hp → Option (Int32 × Hp) := if x = 0 then s_X8_tryStride 0 a b else if x = 1 then s_X8_tryPut 0 a b else if x = 2 then s_X8_tryDoor 0 a b else s_X8_tryPass 0
noncomputable def fin8 (x : Nat) (v : Int32) (σ : Hp) : Option (Int32 × Hp) := if x = 3 then (wrI 8 σ 0 14 v).bind fun s => s_X8_runOnce_j237 0 v s else s_X8_runOnce_j237 0 v σ
def S108 (a _k : Nat) : Prop := a = 108
theorem k116 {x : Nat} (hx : x < 4) : (iN (316 + 2 * x) = 316 ↔ x = 0) ∧ ¬ iN (316 + 2 * x) = 317 ∧ (iN (316 + 2 * x) = 318 ↔ x = 1) ∧ ¬ iN (316 + 2 * x) = 319 ∧ (iN (316 + 2 * x) = 320 ↔ x = 2) := by
  have : x = 0 ∨ x = 1 ∨ x = 2 ∨ x = 3 := by omega
  rcases this with rfl | rfl | rfl | rfl <;> decide
theorem j116_8 {u : Hp} {t m x : Nat} {one other : Int64} (h1 : one ≠ 9000000000) (h2 : other ≠ 9000000000) (k0 : ck 8 u 0 = some ()) (kt : ck 7 u t = some ()) (hx : x < 4) (F0 : s_X7_field t (iN m) 0 u = some (iN (316 + 2 * x), u)) {v : Int32} {s1 : Hp} (hv : act8 x (Int64.toInt32 one) (Int64.toInt32 other) u = some (v, s1)) : s_X8_runOnce_j116 0 (some t) (iN m) one other u = fin8 x v s1 := by
  obtain ⟨c0, c1, c2, c3, c4⟩ := k116 hx
  unfold s_X8_runOnce_j116
  rw [if_neg (fun q => h1 ((lg_cmp_eq _ _).mp q)), if_neg (fun q => h2 ((lg_cmp_eq _ _).mp q)), bos, kt, bos, F0, cbs]
  have : x = 0 ∨ x = 1 ∨ x = 2 ∨ x = 3 := by omega
  rcases this with rfl | rfl | rfl | rfl
  · have hv : s_X8_tryStride 0 (Int64.toInt32 one) (Int64.toInt32 other) u = some (v, s1) := hv
    rw [if_pos (c0.mpr rfl), k0, bos, hv, cbs]
    rfl
  · have hv : s_X8_tryPut 0 (Int64.toInt32 one) (Int64.toInt32 other) u = some (v, s1) := hv
    rw [if_neg (fun q => absurd (c0.mp q) (by decide)), if_neg c1, if_pos (c2.mpr rfl), k0, bos, hv, cbs]
    rfl
  · have hv : s_X8_tryDoor 0 (Int64.toInt32 one) (Int64.toInt32 other) u = some (v, s1) := hv
    rw [if_neg (fun q => absurd (c0.mp q) (by decide)), if_neg c1, if_neg (fun q => absurd (c2.mp q) (by decide)), if_neg c3, if_pos (c4.mpr rfl), k0, bos, hv, cbs]
    rfl
  · have hv : s_X8_tryPass 0 u = some (v, s1) := hv
    rw [if_neg (fun q => absurd (c0.mp q) (by decide)), if_neg c1, if_neg (fun q => absurd (c2.mp q) (by decide)), if_neg c3, if_neg (fun q => absurd (c4.mp q) (by decide))]
    unfold s_X8_runOnce_j225
    rw [k0, bos, hv, cbs]
    rfl
theorem j64_8 {u : Hp} {t a L m x y0 y2 y3 : Nat} {l : List Cl} {cl : Cl} {w : Env} (hS : SK u) (hT : TextOK t l u) (hm : l[m]? = some cl) (hx : x < 4) (ex : cl.1 = 316 + 2 * x) (t7 : zk u t = 7) (t0 : zr u t 0 = some a) (ka : zk u a = 11) (la : zl u a = L) (hL : L ≤ 400) (ly : y3 ≤ L) (hw : ∀ k, k < 18 → zi u 107 k = w k)
    (A : x < 3 → (∃ q, q ≤ 50 ∧ CSeg (zi u a) y0 y2 q cl.2.1) ∧ ∃ q, q ≤ 50 ∧ CSeg (zi u a) y2 y3 q cl.2.2.1) (N : x = 3 → y2 = y0 ∧ y3 = y2) :
    ∃ s, Ag S108 u s ∧ match sumsO cl x w with
      | none => s_X8_runOnce_j64 0 (some t) (iN m) (iN y0) (iN y2) (iN y3) u = some (0, s)
      | some p => ∀ v s1, act8 x p.1 p.2 s = some (v, s1) → s_X8_runOnce_j64 0 (some t) (iN m) (iN y0) (iN y2) (iN y3) u = fin8 x v s1 := by
  by_cases x3 : x = 3
  · obtain ⟨rfl, rfl⟩ := N x3
    have le : iN y3 ≤ iN y3 := ((iN_le (by omega) (by omega)).mpr (by omega))
    refine ⟨u, Ag.refl, ?_⟩
    rw [show sumsO cl x w = some (0, 0) from if_pos x3]
    intro v s1 hv
    have k0 := q_ck0 hS
    obtain ⟨F0, kt⟩ := hT.kind hm
    rw [ex] at F0
    have hv : act8 x (Int64.toInt32 0) (Int64.toInt32 0) u = some (v, s1) := by
      subst x3
      exact hv
    have j := j116_8 (one := 0) (other := 0) (by decide) (by decide) k0 kt hx F0 hv
    unfold s_X8_runOnce_j64
    rw [if_pos le]
    unfold s_X8_runOnce_j88
    rw [if_pos le]
    exact j
  · obtain ⟨⟨q1, hq1, G1⟩, q2, hq2, G2⟩ := A (by omega)
    have l1 := G1.1
    have l2 := G2.1
    have n1 : ¬ iN y2 ≤ iN y0 := (fun h => absurd ((iN_le (by omega) (by omega)).mp h) (by omega))
    have n2 : ¬ iN y3 ≤ iN y2 := (fun h => absurd ((iN_le (by omega) (by omega)).mp h) (by omega))
    have r7 := q_r0_7 hS
    have k5 := q_ck106 hS
    have rt : rdR 7 u t 0 = some (some a) := (rdR_t t7).trans (congrArg some t0)
    obtain ⟨u1, x1, e1, m1⟩ := csum8 (m := y2) hS ka la (by omega) (by omega) G1 (by omega) hw
    have E1 : Ag S108 u u1 := e1.ag (fun _ => rfl)
    have S1 := hS.ag E1
    have r71 := q_r0_7 S1
    have k51 := q_ck106 S1
    have rt1 : rdR 7 u1 t 0 = some (some a) := (rdR_t (by rw [e1.2.1]; exact t7)).trans (congrArg some (by rw [e1.2.2.2.2.1]; exact t0))
    obtain ⟨u2, x2, e2, m2⟩ := csum8 (σ := u1) (m := y3) (f := y2) (a := a) (L := L) (s := cl.2.2.1) (q := q2) (w := w) S1 (by rw [e1.2.1]; exact ka) (by rw [e1.2.2.1]; exact la) (by omega) (by omega) (by rw [e1.2.2.2.1]; exact G2) (by omega) (fun k hk => by rw [e1.2.2.2.1]; exact hw k hk)
    have E2 : Ag S108 u u2 := E1.trans (e2.ag (fun _ => rfl))
    have S2 := hS.ag E2
    have k0 := q_ck0 S2
    obtain ⟨F0, kt⟩ := (hT.agx E2 (fun a k q => by unfold S108 at q; omega)).kind hm
    rw [ex] at F0
    have st : s_X8_runOnce_j64 0 (some t) (iN m) (iN y0) (iN y2) (iN y3) u = s_X8_runOnce_j116 0 (some t) (iN m) ((cl.2.1 w).getD 9000000000) ((cl.2.2.1 w).getD 9000000000) u2 := by
      unfold s_X8_runOnce_j64
      rw [if_neg n1, r7, bos, bos, rt, bos, bos, k5, bos, x1, cbs]
      unfold s_X8_runOnce_j88
      rw [if_neg n2, r71, bos, bos, rt1, bos, bos, k51, bos, x2, cbs]
    rw [st]
    refine ⟨u2, E2, ?_⟩
    have hs : sumsO cl x w = match cl.2.1 w, cl.2.2.1 w with
      | some a, some b => some (Int64.toInt32 a, Int64.toInt32 b)
      | _, _ => none := if_neg x3
    rw [hs]
    cases c1 : cl.2.1 w with
    | none =>
      show s_X8_runOnce_j116 0 (some t) (iN m) 9000000000 ((cl.2.2.1 w).getD 9000000000) u2 = some (0, u2)
      unfold s_X8_runOnce_j116
      rw [if_pos ((lg_cmp_eq _ _).mpr rfl)]
    | some one =>
      have ne1 := sm_ne (m1 one c1)
      cases c2 : cl.2.2.1 w with
      | none =>
        show s_X8_runOnce_j116 0 (some t) (iN m) one 9000000000 u2 = some (0, u2)
        unfold s_X8_runOnce_j116
        rw [if_neg (fun q => ne1 ((lg_cmp_eq _ _).mp q)), if_pos ((lg_cmp_eq _ _).mpr rfl)]
      | some other =>
        have ne2 := sm_ne (m2 other c2)
        intro v s1 hv
        exact j116_8 ne1 ne2 k0 kt hx F0 hv
theorem S107.p {a k : Nat} (h : S107 a k) : S8p a k := Or.inr (Or.inl h)
theorem S108.p {a k : Nat} (h : S108 a k) : S8p a k := Or.inr (Or.inr (Or.inl h))
theorem once8 {t m x : Nat} {l : List Cl} {cl : Cl} (h : A8 nP nF nB nT nS nL B R n σ) (hT : TextOK t l σ) (hm : l[m]? = some cl) (hx : x < 4) (ex : cl.1 = 316 + 2 * x) : ∃ s, Ag S8p σ s ∧ match ordP cl x (ow nF nB nT R (zi σ 0 13) (zi σ 0 14)) with
    | none => s_X8_runOnce 0 (some t) (iN m) σ = some (1, s)
    | some none => s_X8_runOnce 0 (some t) (iN m) σ = some (0, s)
    | some (some p) => ∀ v s1, act8 x p.1 p.2 s = some (v, s1) → s_X8_runOnce 0 (some t) (iN m) σ = fin8 x v s1 := by
  have k0 := q_ck0 h.1
  obtain ⟨u, x1, e1, hw⟩ := owords8 h
  generalize ow nF nB nT R (zi σ 0 13) (zi σ 0 14) = w at hw
  have S1 := h.1.ag e1
  have E1 : Ag S8p σ u := e1.mono (fun a k q => q.p)
  have T1 := hT.agx e1 (fun a k q => by unfold S107 at q; omega)
  obtain ⟨a, r, L, y0, y1, t7, t0, ka, la, hL, le1, le2, hrow, hf⟩ := T1.row hm
  obtain ⟨f0, f1, y2, l2, n1, n2, y3, l3, g2, g3, g4, g5, g6, n3, n4, hts⟩ := hrow
  have c7 : ck 7 u t = some () := ck_t t7
  have F1 : s_X7_field t (iN m) 1 u = some (iN y0, u) := (hf 1 (by decide)).trans (by rw [f1])
  have F2 : s_X7_field t (iN m) 2 u = some (iN y2, u) := (hf 2 (by decide)).trans (by rw [g2])
  have F3 : s_X7_field t (iN m) 3 u = some (iN y3, u) := (hf 3 (by decide)).trans (by rw [g3])
  have F4 : s_X7_field t (iN m) 4 u = some (iN y1, u) := (hf 4 (by decide)).trans (by rw [g4])
  have ns := nos_act hx
  have lk := lnk_act hx
  rw [← ex] at ns lk
  have l31 := hts.le
  have A : x < 3 → (∃ q, q ≤ 50 ∧ CSeg (zi u a) y0 y2 q cl.2.1) ∧ ∃ q, q ≤ 50 ∧ CSeg (zi u a) y2 y3 q cl.2.2.1 := fun z => ⟨n2 (ns.trans (decide_eq_false (by omega))), n4 (by rw [lk, if_pos z]; exact Option.some_ne_none _)⟩
  have N : x = 3 → y2 = y0 ∧ y3 = y2 := fun z => ⟨n1 (ns.trans (decide_eq_true z)), n3 (by rw [lk, if_neg (by omega)])⟩
  have st : s_X8_runOnce 0 (some t) (iN m) σ = if iN y1 ≤ iN y3 then s_X8_runOnce_j64 0 (some t) (iN m) (iN y0) (iN y2) (iN y3) u else (rdR 8 u 0 7).bind fun r17 => (rdR 7 u t 0).bind fun r18 => (r17).bind fun a19 => (ck 5 u a19).bind fun _ => cb (s_X5_value a19 (r18) (iN y3) (iN y1) u) fun v22 σ21 => if (lg_cmp (v22 : Int64) (1 : Int64)) = 0 then s_X8_runOnce_j64 0 (some t) (iN m) (iN y0) (iN y2) (iN y3) σ21 else some (1, σ21) := by
    unfold s_X8_runOnce
    rw [k0, bos, x1, cbs, bos, c7, bos, F1, cbs, c7, bos, F2, cbs, c7, bos, F3, cbs, c7, bos, F4, cbs]
  rw [st]
  cases ct : cl.2.2.2.2 with
  | none =>
    rw [ct] at hts
    have e31 : y1 = y3 := hts
    have le : iN y1 ≤ iN y3 := ((iN_le (by omega) (by omega)).mpr (by omega))
    rw [if_pos le]
    have op : ordP cl x w = some (sumsO cl x w) := by
      unfold ordP
      rw [ct]
      exact if_pos rfl
    rw [op]
    obtain ⟨s, es, hs⟩ := j64_8 S1 T1 hm hx ex t7 t0 ka la hL (by omega) hw A N
    refine ⟨s, E1.trans (es.mono (fun a k q => q.p)), ?_⟩
    generalize sumsO cl x w = o at hs
    cases o with
    | none => exact hs
    | some p => exact hs
  | some tt =>
    rw [ct] at hts
    obtain ⟨qt, hqt, Gt⟩ := hts
    have lt := Gt.1
    have nle : ¬ iN y1 ≤ iN y3 := (fun h => absurd ((iN_le (by omega) (by omega)).mp h) (by omega))
    have r7 := q_r0_7 S1
    have k5 := q_ck106 S1
    have rt : rdR 7 u t 0 = some (some a) := (rdR_t t7).trans (congrArg some t0)
    obtain ⟨u1, v1, a1, m1⟩ := csum8 (m := y1) S1 ka la (by omega) (by omega) Gt (by omega) hw
    have B1 : Ag S108 u u1 := a1.ag (fun _ => rfl)
    rw [if_neg nle, r7, bos, rt, bos, bos, k5, bos, v1, cbs]
    by_cases one : tt w = some 1
    · have op : ordP cl x w = some (sumsO cl x w) := by
        unfold ordP
        rw [ct]
        exact if_pos (decide_eq_true one)
      rw [op, one, Option.getD_some, if_pos ((lg_cmp_eq _ _).mpr rfl)]
      obtain ⟨s, es, hs⟩ := j64_8 (u := u1) (w := w) (S1.ag B1) (T1.agx B1 (fun a k q => by unfold S108 at q; omega)) hm hx ex (by rw [a1.2.1]; exact t7) (by rw [a1.2.2.2.2.1]; exact t0) (by rw [a1.2.1]; exact ka) (by rw [a1.2.2.1]; exact la) hL (by omega) (fun k hk => by rw [a1.2.2.2.1]; exact hw k hk) (by rw [a1.2.2.2.1]; exact A) N
      refine ⟨s, (E1.trans (B1.mono (fun a k q => q.p))).trans (es.mono (fun a k q => q.p)), ?_⟩
      generalize sumsO cl x w = o at hs
      cases o with
      | none => exact hs
      | some p => exact hs
    · have op : ordP cl x w = none := by
        unfold ordP
        rw [ct]
        exact if_neg (fun q => one (of_decide_eq_true q))
      rw [op]
      have ne : (tt w).getD 9000000000 ≠ 1 := by
        cases c : tt w with
        | none => decide
        | some v => exact fun q => one (by rw [c]; exact congrArg some q)
      refine ⟨u1, E1.trans (B1.mono (fun a k q => q.p)), ?_⟩
      rw [if_neg (fun q => ne ((lg_cmp_eq _ _).mp q))]
end ONC
