/-! ===== one order: the reference ===== -/
section ONR
variable {σ τ u : Hp} {nP nF nB nT nS nL n : Nat} {B : Book} {R : Nat → Int32}
theorem agr {S : Nat → Nat → Prop} {s : Hp} (e : Ag S σ s) {a : Nat} (h : ∀ k, ¬ S a k) : zi s a = zi σ a := funext fun k => (e.2.2.2.2 a k (h k)).1
noncomputable def act9 (x : Nat) (a b : Int32) : Hp → Option (Int32 × Hp) := if x = 0 then s_X9_strideNow 125 a b else if x = 1 then s_X9_putNow 125 a b else if x = 2 then s_X9_doorNow 125 a b else s_X9_passNow 125
noncomputable def fin9 (x : Nat) (v : Int32) (σ : Hp) : Option (Int32 × Hp) := if 0 ≤ v then (if x = 3 then s_X9_run_j181 125 (some 125) v σ else (rdI 9 σ 125 51).bind fun u => s_X9_run_j181 125 (some 125) u σ) else some (-3, σ)
theorem k_x3 {x : Nat} (hx : x < 4) : (iN x = 0 ↔ x = 0) ∧ (iN x = 1 ↔ x = 1) ∧ (iN x = 2 ↔ x = 2) ∧ (iN x = 3 ↔ x = 3) := by
  have : x = 0 ∨ x = 1 ∨ x = 2 ∨ x = 3 := by omega
  rcases this with rfl | rfl | rfl | rfl <;> decide
theorem act9_eq {x : Nat} {a b v : Int32} {s s1 : Hp} (hS : SK s) (hx : x < 4) (hv : act9 x a b s = some (v, s1)) : s_X9_act 125 (iN x) a b s = some (v, s1) := by
  obtain ⟨c0, c1, c2, -⟩ := k_x3 hx
  have bk := q_ck125 hS
  unfold s_X9_act
  have : x = 0 ∨ x = 1 ∨ x = 2 ∨ x = 3 := by omega
  rcases this with rfl | rfl | rfl | rfl
  · have hv : s_X9_strideNow 125 a b s = some (v, s1) := hv
    rw [if_pos (c0.mpr rfl), bk, bos, hv, cbs]
  · have hv : s_X9_putNow 125 a b s = some (v, s1) := hv
    rw [if_neg (fun q => absurd (c0.mp q) (by decide)), if_pos (c1.mpr rfl), bk, bos, hv, cbs]
  · have hv : s_X9_doorNow 125 a b s = some (v, s1) := hv
    rw [if_neg (fun q => absurd (c0.mp q) (by decide)), if_neg (fun q => absurd (c1.mp q) (by decide)), if_pos (c2.mpr rfl), bk, bos, hv, cbs]
  · have hv : s_X9_passNow 125 s = some (v, s1) := hv
    rw [if_neg (fun q => absurd (c0.mp q) (by decide)), if_neg (fun q => absurd (c1.mp q) (by decide)), if_neg (fun q => absurd (c2.mp q) (by decide)), bk, bos, hv, cbs]
theorem sum9_0 {x : Nat} (hS : SK u) (h53 : zi u 125 53 = 0) (hx : x + 1 < 96) (e : zi u 154 x = zi u 154 (x + 1)) : s_X9_sumOf 125 (iN x) u = some (-1, u) := by
  have i53 := q_i125 (k := 53) hS
  rw [h53] at i53
  have r49 := q_r125_49 hS
  have ix : iN x + 1 = iN (x + 1) := iN_add x 1
  have l1 := q_ld154 (n := x) (by omega) hS
  have l2 := q_ld154 (n := x + 1) hx hS
  unfold s_X9_sumOf
  rw [i53, bos, if_pos rfl, r49, bos, bos, l1, bos, bos, bos, ix, l2, bos, if_pos e]
theorem sum9_off {p : Int32} (hS : SK u) (h53 : zi u 125 53 = 1) : s_X9_sumOf 125 p u = some (-1, u) := by
  have i53 := q_i125 (k := 53) hS
  rw [h53] at i53
  unfold s_X9_sumOf
  rw [i53, bos, if_neg z10']
theorem SUmNo {a : Nat} (h : a ≠ 145) (h2 : a ≠ 125) : ∀ k, ¬ SUm a k := fun k q => by unfold SUm at q; omega
theorem act9_3 {a b : Int32} : act9 3 a b = s_X9_passNow 125 := (if_neg (by decide)).trans ((if_neg (by decide)).trans (if_neg (by decide)))
/-- behind both sums -/
theorem j113_e {m x : Nat} {a b v : Int32} {s s1 : Hp} (hS : SK s) (h53 : zi s 125 53 = 0) (hm : m < 12) (hx : x < 4) (v0 : zi s 154 (8 * m) = iN x) (hv : act9 x a b s = some (v, s1)) (e : zi s1 154 = zi s 154) (hS1 : SK s1) {p : Int32} (hp : s_X9_run_j113 125 p u = (rdI 9 s 125 53).bind fun v7 => if v7 = 0 then (rdR 9 s 125 49).bind fun r8 => (r8).bind fun a9 => (ldI 11 s a9 (iN (8 * m))).bind fun v10 => (ck 9 s 125).bind fun _ => cb (s_X9_act 125 (v10) a b s) fun v13 σ12 => if 0 ≤ v13 then (rdR 9 σ12 125 49).bind fun r14 => (r14).bind fun a15 => (ldI 11 σ12 a15 (iN (8 * m))).bind fun v16 => if v16 = 3 then s_X9_run_j181 125 (some 125) v13 σ12 else (rdI 9 σ12 125 51).bind fun v17 => s_X9_run_j181 125 (some 125) v17 σ12 else some (-3, σ12) else some (-3, s)) : s_X9_run_j113 125 p u = fin9 x v s1 := by
  have i53 := q_i125 (k := 53) hS
  rw [h53] at i53
  have r49 := q_r125_49 hS
  have bk := q_ck125 hS
  have l := q_ld154 (n := 8 * m) (by omega) hS
  rw [v0] at l
  have ac := act9_eq hS hx hv
  rw [hp, i53, bos, if_pos rfl, r49, bos, bos, l, bos, bk, bos, ac, cbs]
  unfold fin9
  by_cases c : 0 ≤ v
  · have r49b := q_r125_49 hS1
    have lb := q_ld154 (n := 8 * m) (by omega) hS1
    rw [e, v0] at lb
    rw [if_pos c, if_pos c, r49b, bos, bos, lb, bos]
    by_cases x3 : x = 3
    · rw [if_pos x3, if_pos ((k_x3 hx).2.2.2.mpr x3)]
    · rw [if_neg x3, if_neg (fun q => x3 ((k_x3 hx).2.2.2.mp q))]
  · rw [if_neg c, if_neg c]
theorem j113_9 {m x c c1 : Nat} {cl : Cl} {w : Env} (hO : OW9 nF nB nT R w u) (h53 : zi u 125 53 = 0) (h20 : zi u 125 20 = 0) (hm : m < 12) (hrow : RRowO (zi u 154) (zi u 136) (zi u 137) m c c1 cl) (hc : c1 ≤ 400) (ex : cl.1 = 316 + 2 * x) : ∃ s, Ag SUm u s ∧ zi s 125 20 = 0 ∧ match sumsO cl x w with
    | none => s_X9_run_j113 125 (iN (8 * m)) u = some (-3, s)
    | some p => ∀ v s1, act9 x p.1 p.2 s = some (v, s1) → zi s1 154 = zi s 154 → SK s1 → s_X9_run_j113 125 (iN (8 * m)) u = fin9 x v s1 := by
  obtain ⟨x', hx, ex', r0, r7, tm1, tm2, c2, c3, l1, l2, rs, r5, r6, rt, rz⟩ := hrow
  obtain rfl : x' = x := by omega
  have le3 := rt.le
  have hS := hO.1
  have bk := q_ck125 hS
  have a1 : iN (8 * m) + 1 = iN (8 * m + 1) := iN_add _ 1
  have a3 : iN (8 * m) + 3 = iN (8 * m + 3) := iN_add _ 3
  by_cases x3 : x' = 3
  · obtain ⟨z1, z3⟩ := rz x3
    have s1 := sum9_0 hS h53 (x := 8 * m + 1) (by omega) z1
    have s3 := sum9_0 hS h53 (x := 8 * m + 3) (by omega) z3
    refine ⟨u, Ag.refl, h20, ?_⟩
    rw [show sumsO cl x' w = some (0, 0) from if_pos x3]
    intro v s1' hv he hS1
    have hv : act9 x' (-1) (-1) u = some (v, s1') := by
      rw [x3, act9_3] at hv ⊢
      exact hv
    refine j113_e (a := -1) (b := -1) hS h53 hm hx r0 hv he hS1 ?_
    unfold s_X9_run_j113
    conv => lhs; rw [bk, bos, a1, s1, cbs, bk, bos, a3, s3, cbs]
  · obtain ⟨b1, b2, b3, b4, ⟨q1, g1, G1⟩, q2, g2, G2⟩ := rs (by omega)
    have lt1 := G1.1
    have lt2 := G2.1
    obtain ⟨v1, u1, x1, e1, f1, y1⟩ := sumOf9 hO h53 (x := 8 * m + 1) (by omega) b1 b2 (by omega) G1 (by omega)
    have S1 := hS.ag e1
    have bk1 := q_ck125 S1
    have hs : sumsO cl x' w = match cl.2.1 w, cl.2.2.1 w with
      | some a, some b => some (Int64.toInt32 a, Int64.toInt32 b)
      | _, _ => none := if_neg x3
    rw [hs]
    rcases y1 with ⟨n1, o1⟩ | ⟨w1, n1, o1, d1⟩
    · have x2 := sum9_off (p := iN (8 * m + 3)) S1 o1
      have i53 := q_i125 (k := 53) S1
      rw [o1] at i53
      refine ⟨u1, e1, f1, ?_⟩
      rw [n1]
      show s_X9_run_j113 125 (iN (8 * m)) u = some (-3, u1)
      unfold s_X9_run_j113
      rw [bk, bos, a1, x1, cbs, bk1, bos, a3, x2, cbs, i53, bos, if_neg z10']
    · have O1 := hO.ag e1 (fun a k q => by unfold SUm at q; omega)
      have z154 := agr e1 (SUmNo (a := 154) (by decide) (by decide))
      have z136 := agr e1 (SUmNo (a := 136) (by decide) (by decide))
      have z137 := agr e1 (SUmNo (a := 137) (by decide) (by decide))
      obtain ⟨v2, u2, x2, e2, f2, y2⟩ := sumOf9 O1 o1 (x := 8 * m + 3) (c := c2) (c1 := c3) (q := q2) (a := cl.2.2.1) (by omega) (by rw [z154]; exact b3) (by rw [z154]; exact b4) (by omega) (by rw [z136, z137]; exact G2) (by omega)
      have S2 := S1.ag e2
      have i53 := q_i125 (k := 53) S2
      rw [n1]
      rcases y2 with ⟨n2, o2⟩ | ⟨w2, n2, o2, d2⟩
      · rw [o2] at i53
        refine ⟨u2, e1.trans e2, f2, ?_⟩
        rw [n2]
        show s_X9_run_j113 125 (iN (8 * m)) u = some (-3, u2)
        unfold s_X9_run_j113
        rw [bk, bos, a1, x1, cbs, bk1, bos, a3, x2, cbs, i53, bos, if_neg z10']
      · refine ⟨u2, e1.trans e2, f2, ?_⟩
        rw [n2]
        show ∀ v s1, act9 x' (Int64.toInt32 w1) (Int64.toInt32 w2) u2 = some (v, s1) → zi s1 154 = zi u2 154 → SK s1 → s_X9_run_j113 125 (iN (8 * m)) u = fin9 x' v s1
        intro v s1 hv he hS1
        have y154 := agr (e1.trans e2) (SUmNo (a := 154) (by decide) (by decide))
        refine j113_e (a := Int64.toInt32 w1) (b := Int64.toInt32 w2) S2 o2 hm hx (by rw [y154]; exact r0) hv he hS1 ?_
        unfold s_X9_run_j113
        rw [bk, bos, a1, x1, cbs, bk1, bos, a3, x2, cbs, d1, d2]
def SO0 (a k : Nat) : Prop := SUm a k ∨ S44 a k
theorem once9 {m x c c1 : Nat} {cl : Cl} (h : A9 nP nF nB nT nS nL B R n τ) (hm : m < 12) (hrow : RRowO (zi τ 154) (zi τ 136) (zi τ 137) m c c1 cl) (hc : c1 ≤ 400) (ex : cl.1 = 316 + 2 * x) : ∃ s, Ag SO0 τ s ∧ zi s 125 20 = 0 ∧ match ordP cl x (ow nF nB nT R (zi τ 125 50) (zi τ 125 51)) with
    | none => s_X9_run 125 (iN (8 * m)) τ = some (0, s)
    | some none => s_X9_run 125 (iN (8 * m)) τ = some (-3, s)
    | some (some p) => ∀ v s1, act9 x p.1 p.2 s = some (v, s1) → zi s1 154 = zi s 154 → SK s1 → s_X9_run 125 (iN (8 * m)) τ = fin9 x v s1 := by
  obtain ⟨u, e1, hO, h53, st⟩ := owords9 h (p := iN (8 * m))
  generalize ow nF nB nT R (zi τ 125 50) (zi τ 125 51) = w at hO
  have n44 : ∀ {a : Nat}, a ≠ 144 → a ≠ 125 → ∀ k, ¬ S44 a k := fun h1 h2 k q => by unfold S44 at q; omega
  have z154 := agr e1 (n44 (a := 154) (by decide) (by decide))
  have z136 := agr e1 (n44 (a := 136) (by decide) (by decide))
  have z137 := agr e1 (n44 (a := 137) (by decide) (by decide))
  have z20 : zi u 125 20 = 0 := ((e1.2.2.2.2 125 20 (by unfold S44; omega)).1).trans h.1.2.2.2.2
  have rowU : RRowO (zi u 154) (zi u 136) (zi u 137) m c c1 cl := by
    rw [z154, z136, z137]
    exact hrow
  have E1 : Ag SO0 τ u := e1.mono (fun a k q => Or.inr q)
  have hS := hO.1
  have j := fun (s : Hp) (hs : Ag SUm u s) (h53 : zi s 125 53 = 0) (h20 : zi s 125 20 = 0) => j113_9 (u := s) (w := w) (m := m) (x := x) (c := c) (c1 := c1) (cl := cl) (hO.ag hs (fun a k q => by unfold SUm at q; omega)) h53 h20 hm (by
    rw [agr hs (SUmNo (a := 154) (by decide) (by decide)), agr hs (SUmNo (a := 136) (by decide) (by decide)), agr hs (SUmNo (a := 137) (by decide) (by decide))]
    exact rowU) hc ex
  obtain ⟨x', hx, ex', r0, r7, tm1, tm2, c2, c3, l1, l2, rs, r5, r6, rt, rz⟩ := rowU
  have a5 : iN (8 * m) + 5 = iN (8 * m + 5) := iN_add _ 5
  have a6 : iN (8 * m) + 6 = iN (8 * m + 6) := iN_add _ 6
  have r49 := q_r125_49 hS
  have bk := q_ck125 hS
  have l5 := q_ld154 (n := 8 * m + 5) (by omega) hS
  rw [r5] at l5
  have l6 := q_ld154 (n := 8 * m + 6) (by omega) hS
  rw [r6] at l6
  rw [st, r49, bos, bos, a5, l5, bos, bos, bos, a6, l6, bos]
  cases ct : cl.2.2.2.2 with
  | none =>
    rw [ct] at rt
    have e31 : c1 = c3 := rt
    have le : iN c1 ≤ iN c3 := ((iN_le (by omega) (by omega)).mpr (by omega))
    rw [if_pos le]
    have op : ordP cl x w = some (sumsO cl x w) := by
      unfold ordP
      rw [ct]
      exact if_pos rfl
    rw [op]
    obtain ⟨s, es, s20, hs⟩ := j u Ag.refl h53 z20
    refine ⟨s, E1.trans (es.mono (fun a k q => Or.inl q)), s20, ?_⟩
    generalize sumsO cl x w = o at hs
    cases o with
    | none => exact hs
    | some p => exact hs
  | some tt =>
    rw [ct] at rt
    obtain ⟨hb, qt, hqt, Gt⟩ := rt
    have lt := Gt.1
    have nle : ¬ iN c1 ≤ iN c3 := (fun h => absurd ((iN_le (by omega) (by omega)).mp h) (by omega))
    obtain ⟨v, u1, x1, e2, f2, y⟩ := sumOf9 hO h53 (x := 8 * m + 5) (by omega) r5 r6 hc Gt (by omega)
    have S1 := hS.ag e2
    have i53 := q_i125 (k := 53) S1
    have E2 : Ag SO0 τ u1 := E1.trans (e2.mono (fun a k q => Or.inl q))
    rw [if_neg nle, bk, bos, x1, cbs]
    rcases y with ⟨n1, o1⟩ | ⟨w1, n1, o1, d1⟩
    · rw [o1] at i53
      have op : ordP cl x w = none := by
        unfold ordP
        rw [ct]
        exact if_neg (fun q => by have q := of_decide_eq_true q; rw [n1] at q; cases q)
      rw [op, i53, bos, if_neg z10']
      exact ⟨u1, E2, f2, rfl⟩
    · rw [o1] at i53
      rw [i53, bos, if_pos rfl]
      rcases hb w w1 n1 with rfl | rfl
      · have op : ordP cl x w = none := by
          unfold ordP
          rw [ct]
          exact if_neg (fun q => by have q := of_decide_eq_true q; rw [n1] at q; exact absurd (Option.some.inj q) (by decide))
        have v0 : v = 0 := d1
        rw [op, if_pos v0]
        exact ⟨u1, E2, f2, rfl⟩
      · have op : ordP cl x w = some (sumsO cl x w) := by
          unfold ordP
          rw [ct]
          exact if_pos (decide_eq_true n1)
        have v1 : v = 1 := d1
        rw [op, if_neg (by rw [v1]; decide)]
        obtain ⟨s, es, s20, hs⟩ := j u1 e2 o1 f2
        refine ⟨s, E2.trans (es.mono (fun a k q => Or.inl q)), s20, ?_⟩
        generalize sumsO cl x w = o at hs
        cases o with
        | none => exact hs
        | some p => exact hs
end ONR
