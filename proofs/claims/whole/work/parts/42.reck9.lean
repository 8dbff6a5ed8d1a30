/-! ===== the reference's reckoner ===== -/
section V10
/-- what its reckoning writes -/
def SR (a k : Nat) : Prop := a = 145 ∨ (a = 125 ∧ (k = 38 ∨ k = 39))
theorem lr1 {o : Nat} (h1 : 20 ≤ o) (h2 : o < 28) {x y : Int64} {σ : Hp} (hS : SK σ) (h0 : zi σ 125 38 = 0) :
    ∃ v σ1, s_X9_reckon 125 (iN o) x y σ = some (v, σ1) ∧ SK σ1 ∧ Ag (fun a k => a = 125 ∧ k = 38) σ σ1 ∧ ((zi σ1 125 38 = 1 ∧ jo (o - 20) x y = none) ∨ (zi σ1 125 38 = 0 ∧ jo (o - 20) x y = if 1000000000 < v ∨ v < -1000000000 then none else some v)) := by
  have ho : o = 20 ∨ o = 21 ∨ o = 22 ∨ o = 23 ∨ o = 24 ∨ o = 25 ∨ o = 26 ∨ o = 27 := by omega
  have z1 : ¬ (1 : Int32) = 0 := by decide
  have w1 := q_wz125 (k := 38) (v := 1) (Or.inr rfl) hS
  have w0 := q_wz125 (k := 38) (v := 0) (Or.inl rfl) hS
  have r1 : rdI 9 (zsi σ 125 38 1) 125 38 = some 1 := (q_i125 (σ := zsi σ 125 38 1) hS).trans (congrArg some zi_hit)
  have r0 : rdI 9 (zsi σ 125 38 0) 125 38 = some 0 := (q_i125 (σ := zsi σ 125 38 0) hS).trans (congrArg some zi_hit)
  have A : ∀ v, Ag (fun a k => a = 125 ∧ k = 38) σ (zsi σ 125 38 v) := fun v => Ag.zsi ⟨rfl, rfl⟩
  rcases ho with rfl | rfl | rfl | rfl | rfl | rfl | rfl | rfl
  · exact ⟨x + y, σ, rfl, hS, Ag.refl, Or.inr ⟨h0, rfl⟩⟩
  · exact ⟨x - y, σ, rfl, hS, Ag.refl, Or.inr ⟨h0, rfl⟩⟩
  · exact ⟨x * y, σ, rfl, hS, Ag.refl, Or.inr ⟨h0, rfl⟩⟩
  · by_cases hy : y = 0
    · refine ⟨0, zsi σ 125 38 1, ?_, hS, A 1, Or.inl ⟨zi_hit, by simp [jo, hy]⟩⟩
      unfold s_X9_reckon
      rw [if_neg (by decide), if_neg (by decide), if_neg (by decide), if_pos (by decide)]
      simp only [lg_cmp_eq, hy, if_true, s_X9_reckon_j72, bind_ok, w1, r1, z1, if_false]
    · refine ⟨x / y, zsi σ 125 38 0, ?_, hS, A 0, Or.inr ⟨zi_hit, by simp only [jo, hy, if_false, Option.bind_some, Nat.reduceSub]⟩⟩
      unfold s_X9_reckon
      rw [if_neg (by decide), if_neg (by decide), if_neg (by decide), if_pos (by decide)]
      simp only [lg_cmp_eq, hy, if_true, s_X9_reckon_j72, bind_ok, w0, r0, zne, if_false]
  · by_cases hy : y = 0
    · refine ⟨0, zsi σ 125 38 1, ?_, hS, A 1, Or.inl ⟨zi_hit, by simp [jo, hy]⟩⟩
      unfold s_X9_reckon
      rw [if_neg (by decide), if_neg (by decide), if_neg (by decide), if_neg (by decide), if_pos (by decide)]
      simp only [lg_cmp_eq, hy, if_true, s_X9_reckon_j104, bind_ok, w1, r1, z1, if_false]
    · refine ⟨x - x / y * y, zsi σ 125 38 0, ?_, hS, A 0, Or.inr ⟨zi_hit, by simp only [jo, hy, if_false, Option.bind_some, Nat.reduceSub]⟩⟩
      unfold s_X9_reckon
      rw [if_neg (by decide), if_neg (by decide), if_neg (by decide), if_neg (by decide), if_pos (by decide)]
      simp only [lg_cmp_eq, hy, if_true, s_X9_reckon_j104, bind_ok, w0, r0, zne, if_false]
  · refine ⟨if x < y then 1 else 0, σ, ?_, hS, Ag.refl, Or.inr ⟨h0, rfl⟩⟩
    unfold s_X9_reckon
    rw [if_neg (by decide), if_neg (by decide), if_neg (by decide), if_neg (by decide), if_neg (by decide), if_pos (by decide)]
    simp only [lg_cmp_ge]
    by_cases hy : x < y
    · rw [if_neg (Int64.not_le.mpr hy), if_pos hy]
    · rw [if_pos (Int64.not_lt.mp hy), if_neg hy]
  · refine ⟨if y < x then 1 else 0, σ, ?_, hS, Ag.refl, Or.inr ⟨h0, rfl⟩⟩
    unfold s_X9_reckon
    rw [if_neg (by decide), if_neg (by decide), if_neg (by decide), if_neg (by decide), if_neg (by decide), if_neg (by decide), if_pos (by decide)]
    simp only [lg_cmp_le]
    by_cases hy : y < x
    · rw [if_neg (Int64.not_le.mpr hy), if_pos hy]
    · rw [if_pos (Int64.not_lt.mp hy), if_neg hy]
  · refine ⟨if x = y then 1 else 0, σ, ?_, hS, Ag.refl, Or.inr ⟨h0, rfl⟩⟩
    unfold s_X9_reckon
    rw [if_neg (by decide), if_neg (by decide), if_neg (by decide), if_neg (by decide), if_neg (by decide), if_neg (by decide), if_neg (by decide)]
    simp only [lg_cmp_eq]
    by_cases hy : x = y
    · rw [if_pos hy, if_pos hy]
    · rw [if_neg hy, if_neg hy]
theorem Pl.ag {p : Nat} {S : Nat → Nat → Prop} {σ σ1 : Hp} (h : Ag S σ σ1) (hs : ∀ k, ¬ S p k) : ∀ {st : List Int64}, Pl p σ st → Pl p σ1 st
  | [], _ => trivial
  | x :: r, hp => ⟨(h.2.2.2.2 p r.length (hs _)).2.trans hp.1, Pl.ag h hs hp.2⟩
theorem Pl.fz {p a k : Nat} {σ : Hp} {v : Int32} : ∀ {st : List Int64}, Pl p σ st → Pl p (zsi σ a k v) st
  | [], _ => trivial
  | _ :: _, hp => ⟨hp.1, Pl.fz hp.2⟩
theorem k28a : ((20 : Int32) ≤ 28) = True := by decide
theorem k28b : ((28 : Int32) ≤ 28) = True := by decide
theorem k29a : ((20 : Int32) ≤ 29) = True := by decide
theorem k29b : ((28 : Int32) ≤ 29) = True := by decide
theorem k29c : ((29 : Int32) = 28) = False := by decide
/-- a step that is no leaf -/
theorem rb_op {σ : Hp} {op ar : Nat → Int32} {lf : Int32 → Int32 → Int64} {k fin : Nat} {st : List Int64} (hS : SK σ) (h38 : zi σ 125 38 = 0) (hp : Pl 145 σ st) (h4 : st.length ≤ 400) (hk : k < 400) (c1 : ¬ op k < 20) (c2 : op k < 28 → 2 ≤ st.length) (c3 : ¬ op k < 28 → op k < 31 ∧ 1 ≤ st.length ∧ (op k ≠ 28 → ¬ ar k < 0)) :
    ∃ l k2 σ1, s_X9_reckonAll_j95 125 (iN fin) (iN st.length) (iN k) (op k) (ar k) σ = some (Sum.inl (125, iN fin, iN l, iN k2), σ1) ∧ Ag SR σ σ1 ∧ l ≤ 400 ∧ ((rStep op ar lf k st = none ∧ zi σ1 125 38 = 1 ∧ 1 ≤ l ∧ k2 ≤ 400) ∨ ∃ st2, rStep op ar lf k st = some (k2, st2) ∧ zi σ1 125 38 = 0 ∧ st2.length = l ∧ Pl 145 σ1 st2) := by
  have f6 : iN k + 1 = iN (k + 1) := iN_add k 1
  have z1 : ¬ (1 : Int32) = 0 := by decide
  obtain ⟨o, ho, eo⟩ : ∃ o, o < 2147483648 ∧ op k = iN o := iN_of (fun q => c1 (Int32.lt_trans q (by decide)))
  have h20 : 20 ≤ o := Nat.le_of_not_lt (fun q => c1 (by rw [eo]; exact (iN_lt (b := 20) ho (by decide)).mpr q))
  have g20 : (20 : Int32) ≤ iN o := (iN_le (a := 20) (by decide) ho).mpr h20
  unfold rStep
  rw [if_neg c1]
  rw [eo] at c2 c3 ⊢
  by_cases o28 : o < 28
  · have g28 : iN o < (28 : Int32) := (iN_lt (b := 28) ho (by decide)).mpr o28
    have g28b : ¬ (28 : Int32) ≤ iN o := Int32.not_le.mpr g28
    rw [if_pos g28, iN_nat (by omega)]
    match st, hp, h4, c2 g28 with
    | y :: x :: rs, hp, h4, _ =>
      have h4b : rs.length + 1 + 1 ≤ 400 := h4
      have c0 : (y :: x :: rs).length = rs.length + 2 := rfl
      have d2 : iN (rs.length + 2) + (-1) = iN (rs.length + 1) := iN_dec (by omega)
      have d3 : iN (rs.length + 1) - 1 = iN rs.length := iN_sub (b := 1) (by omega)
      have p1 : zj σ 145 (rs.length + 1) = y := hp.1
      have p2 : zj σ 145 rs.length = x := hp.2.1
      have b1 := q_ld145 (n := rs.length + 1) (by omega) hS
      have b2 := q_ld145 (n := rs.length) (by omega) hS
      rw [p1] at b1
      rw [p2] at b2
      have e1 := q_r125_37 hS
      have e2 := q_ck125 hS
      obtain ⟨v, σ1, g1, g2, g3, g4⟩ := lr1 h20 o28 (x := x) (y := y) hS h38
      have s1 := q_st145 (n := rs.length) (v := v) (by omega) g2
      have g2b : SK (zsj σ1 145 rs.length v) := g2
      have s2 := q_i125 (k := 38) g2b
      have s3 : zi (zsj σ1 145 rs.length v) 125 38 = zi σ1 125 38 := rfl
      have s4 := q_r125_37 g2b
      have s5 : ldJ (zsj σ1 145 rs.length v) 145 (iN rs.length) = some v := (q_ld145 (by omega) g2b).trans (congrArg some zj_hit)
      have w1 := q_wz125 (k := 38) (v := 1) (Or.inr rfl) g2b
      have w0 := q_wz125 (k := 38) (v := 0) (Or.inl rfl) g2b
      have A1 : Ag SR σ (zsj σ1 145 rs.length v) := (g3.mono (fun a k h => Or.inr ⟨h.1, Or.inl h.2⟩)).trans (Ag.zsj (Or.inl rfl))
      have A : ∀ u, Ag SR σ (zsi (zsj σ1 145 rs.length v) 125 38 u) := fun u => A1.trans (Ag.zsi (Or.inr ⟨rfl, Or.inl rfl⟩))
      have hP : Pl 145 σ1 rs := hp.2.2.ag g3 (fun q h => absurd h.1 (by decide))
      rcases g4 with ⟨k1, k2⟩ | ⟨k1, k2⟩
      · refine ⟨rs.length + 1, k + 1, _, ?_, A 1, by omega, Or.inl ⟨?_, zi_hit, by omega, by omega⟩⟩
        · simp only [s_X9_reckonAll_j95, s_X9_reckonAll_j324, s_X9_reckonAll_j329, s_X9_reckonAll_j397, g20, g28b, c0, d2, d3, b1, b2, e1, e2, g1, s1, s2, s3, k1, w1, f6, z1, if_true, if_false, bind_ok, Option.bind_some, cb_some]
        · simp only [k2, Option.map_none]
      · by_cases cc : 1000000000 < v ∨ v < -1000000000
        · rw [if_pos cc] at k2
          have cd : ¬ (-1000000000 ≤ v ∧ v ≤ 1000000000) := by
            rintro ⟨q1, q2⟩
            rcases cc with cc | cc
            · exact absurd cc (Int64.not_lt.mpr q2)
            · exact absurd cc (Int64.not_lt.mpr q1)
          refine ⟨rs.length + 1, k + 1, _, ?_, A 1, by omega, Or.inl ⟨?_, zi_hit, by omega, by omega⟩⟩
          · simp only [s_X9_reckonAll_j95, s_X9_reckonAll_j324, s_X9_reckonAll_j329, s_X9_reckonAll_j397, g20, g28b, c0, d2, d3, b1, b2, e1, e2, g1, s1, s2, s3, s4, s5, k1, w1, f6, x_in, cd, if_true, if_false, bind_ok, Option.bind_some, cb_some]
          · simp only [k2, Option.map_none]
        · rw [if_neg cc] at k2
          have cd : (-1000000000 ≤ v ∧ v ≤ 1000000000) := ⟨Int64.not_lt.mp (fun q => cc (Or.inr q)), Int64.not_lt.mp (fun q => cc (Or.inl q))⟩
          refine ⟨rs.length + 1, k + 1, _, ?_, A 0, by omega, Or.inr ⟨v :: rs, ?_, zi_hit, rfl, ?_⟩⟩
          · simp only [s_X9_reckonAll_j95, s_X9_reckonAll_j324, s_X9_reckonAll_j329, s_X9_reckonAll_j397, g20, g28b, c0, d2, d3, b1, b2, e1, e2, g1, s1, s2, s3, s4, s5, k1, w0, f6, z1, x_in, cd, and_self, if_true, if_false, bind_ok, Option.bind_some, cb_some]
          · simp only [k2, Option.map_some]
          · exact hP.push.fz
  · have g28 : ¬ iN o < (28 : Int32) := fun q => o28 ((iN_lt (b := 28) ho (by decide)).mp q)
    have g28b : (28 : Int32) ≤ iN o := Int32.not_lt.mp g28
    rw [if_neg g28]
    obtain ⟨u1, u2, u3⟩ := c3 g28
    have o31 : o < 31 := (iN_lt (b := 31) ho (by decide)).mp u1
    match st, hp, h4, u2 with
    | x :: rs, hp, h4, _ =>
      have h4b : rs.length + 1 ≤ 400 := h4
      have c0 : (x :: rs).length = rs.length + 1 := rfl
      have d3 : iN (rs.length + 1) - 1 = iN rs.length := iN_sub (b := 1) (by omega)
      have d4 : iN (rs.length + 1) + (-1) = iN rs.length := iN_dec (by omega)
      have p2 : zj σ 145 rs.length = x := hp.1
      have b2 := q_ld145 (n := rs.length) (by omega) hS
      rw [p2] at b2
      have e1 := q_r125_37 hS
      have b3 := fun v => q_st145 (n := rs.length) (v := v) (by omega) hS
      have h10 : o = 28 ∨ o = 29 ∨ o = 30 := by omega
      have arN : o ≠ 28 → ∃ t, t < 2147483648 ∧ ar k = iN t := fun q => iN_of (u3 (fun e => q ((iN_inj (b := 28) ho (by decide)).mp e)))
      rcases h10 with rfl | rfl | rfl
      · refine ⟨rs.length + 1, k + 1, _, ?_, Ag.zsj (a := 145) (k := rs.length) (v := 1 - x) (Or.inl rfl), by omega, Or.inr ⟨(1 - x) :: rs, ?_, h38, rfl, hp.2.push⟩⟩
        · simp only [s_X9_reckonAll_j95, s_X9_reckonAll_j397, k28a, k28b, show iN 28 = (28 : Int32) from rfl, c0, d3, b2, b3, e1, f6, if_true, bind_ok, Option.bind_some]
        · rfl
      · obtain ⟨t, ht, et⟩ := arN (by decide)
        rw [et]
        simp only [show iN 29 = (29 : Int32) from rfl, k29c, if_false, if_true, iN_nat ht]
        by_cases hx : x = 0
        · refine ⟨rs.length + 1, t, σ, ?_, Ag.refl, by omega, Or.inr ⟨x :: rs, if_pos hx, h38, rfl, hp⟩⟩
          simp only [s_X9_reckonAll_j95, s_X9_reckonAll_j383, s_X9_reckonAll_j397, k29a, k29b, k29c, c0, d3, b2, e1, hx, f6, lg_cmp_eq, List.length_cons, if_true, if_false, bind_ok, Option.bind_some]
        · refine ⟨rs.length, k + 1, σ, ?_, Ag.refl, by omega, Or.inr ⟨rs, if_neg hx, h38, rfl, hp.2⟩⟩
          simp only [s_X9_reckonAll_j95, s_X9_reckonAll_j383, s_X9_reckonAll_j397, k29a, k29b, k29c, c0, d3, d4, b2, e1, hx, f6, lg_cmp_eq, List.length_cons, if_true, if_false, bind_ok, Option.bind_some]
      · obtain ⟨t, ht, et⟩ := arN (by decide)
        rw [et]
        have q1 : ¬ iN 30 = (28 : Int32) := by decide
        have q2 : ¬ iN 30 = (29 : Int32) := by decide
        simp only [q1, q2, if_false, iN_nat ht]
        by_cases hx : x = 1
        · refine ⟨rs.length + 1, t, σ, ?_, Ag.refl, by omega, Or.inr ⟨x :: rs, if_pos hx, h38, rfl, hp⟩⟩
          simp only [s_X9_reckonAll_j95, s_X9_reckonAll_j383, s_X9_reckonAll_j397, g20, g28b, q1, q2, c0, d3, b2, e1, hx, f6, lg_cmp_eq, List.length_cons, if_true, if_false, bind_ok, Option.bind_some]
        · refine ⟨rs.length, k + 1, σ, ?_, Ag.refl, by omega, Or.inr ⟨rs, if_neg hx, h38, rfl, hp.2⟩⟩
          simp only [s_X9_reckonAll_j95, s_X9_reckonAll_j383, s_X9_reckonAll_j397, g20, g28b, q1, q2, c0, d3, d4, b2, e1, hx, f6, lg_cmp_eq, List.length_cons, if_true, if_false, bind_ok, Option.bind_some]
theorem rStep_len {op ar : Nat → Int32} {lf : Int32 → Int32 → Int64} {k k2 : Nat} {st st2 : List Int64} (c : ¬ op k < 20) (h : rStep op ar lf k st = some (k2, st2)) : st2.length ≤ st.length ∧ (k2 = k + 1 ∨ (¬ op k < 28 ∧ op k ≠ 28 ∧ k2 = (ar k).toNatClampNeg)) := by
  unfold rStep at h
  rw [if_neg c] at h
  by_cases c28 : op k < 28
  · rw [if_pos c28] at h
    rcases st with _ | ⟨y, _ | ⟨x, r⟩⟩
    · cases h
    · cases h
    · obtain ⟨z, -, hz⟩ := Option.map_eq_some_iff.mp h
      cases hz
      exact ⟨by simp only [List.length_cons]; omega, Or.inl rfl⟩
  · rw [if_neg c28] at h
    rcases st with _ | ⟨x, r⟩
    · cases h
    · simp only at h
      by_cases d : op k = 28
      · rw [if_pos d] at h
        cases h
        exact ⟨Nat.le_refl _, Or.inl rfl⟩
      · rw [if_neg d] at h
        by_cases dd : x = (if op k = 29 then 0 else 1)
        · rw [if_pos dd] at h
          cases h
          exact ⟨Nat.le_refl _, Or.inr ⟨c28, d, rfl⟩⟩
        · rw [if_neg dd] at h
          cases h
          exact ⟨by simp only [List.length_cons]; omega, Or.inl rfl⟩
/-- what a reckoning reads: operations, numbers, leaves -/
def Src (σ : Hp) (op ar : Nat → Int32) (lf : Int32 → Int32 → Int64) (fin : Nat) : Prop :=
  ∀ σ1, Ag SR σ σ1 → zi σ1 125 38 = 0 → ∀ k l, k < fin → l < 400 →
    s_X9_reckonAll_b10 125 (iN fin) (iN l) (iN k) σ1 = s_X9_reckonAll_j95 125 (iN fin) (iN l) (iN k) (op k) (ar k) σ1 ∧
    (op k < 20 → ¬ op k < 0 → op k < 10 → s_X9_reckonAll_j95 125 (iN fin) (iN l) (iN k) (op k) (ar k) σ1 = some (Sum.inl (125, iN fin, iN (l + 1), iN (k + 1)), zsj σ1 145 l (lf (op k) (ar k))))
theorem Src.ag {σ σ1 : Hp} {op ar : Nat → Int32} {lf : Int32 → Int32 → Int64} {fin : Nat} (h : Src σ op ar lf fin) (e : Ag SR σ σ1) : Src σ1 op ar lf fin := fun σ2 h2 => h σ2 (e.trans h2)
theorem rl_run {op ar : Nat → Int32} {lf : Int32 → Int32 → Int64} {fin : Nat} (hfin : fin ≤ 400) {res : Option Int64} : ∀ (n k : Nat) (st : List Int64) (σ : Hp), rV op ar lf fin n k st res → SK σ → zi σ 125 38 = 0 → Pl 145 σ st → st.length ≤ 399 → k ≤ 400 → Src σ op ar lf fin →
    ∃ l σ1, s_X9_reckonAll_l10 (125, iN fin, iN st.length, iN k) σ = some ((125, iN l), σ1) ∧ Ag SR σ σ1 ∧ l ≤ 400 ∧ ((res = none ∧ zi σ1 125 38 = 1 ∧ 1 ≤ l) ∨ (∃ v, res = some v ∧ zi σ1 125 38 = 0 ∧ l = 1 ∧ zj σ1 145 0 = v)) := by
  intro n
  have stop : ∀ (k : Nat) (st : List Int64) (σ : Hp), SK σ → zi σ 125 38 = 0 → Pl 145 σ st → k ≤ 400 → (fin ≤ k ∧ ∃ v, st = [v] ∧ res = some v) → ∃ l σ1, s_X9_reckonAll_l10 (125, iN fin, iN st.length, iN k) σ = some ((125, iN l), σ1) ∧ Ag SR σ σ1 ∧ l ≤ 400 ∧ ((res = none ∧ zi σ1 125 38 = 1 ∧ 1 ≤ l) ∨ (∃ v, res = some v ∧ zi σ1 125 38 = 0 ∧ l = 1 ∧ zj σ1 145 0 = v)) := by
    rintro k st σ hS h38 hp hk ⟨h1, v, rfl, h2⟩
    have f1 : iN fin ≤ iN k := ((iN_le (by omega) (by omega)).mpr (by omega))
    refine ⟨1, σ, loopF_out ?_, Ag.refl, by decide, Or.inr ⟨v, h2, h38, rfl, hp.1⟩⟩
    simp only [s_X9_reckonAll_b10, f1, if_true, List.length_cons, List.length_nil]
  induction n with
  | zero => 
    intro k st σ hv hS h38 hp h4 hk hs
    exact stop k st σ hS h38 hp hk hv
  | succ n ih =>
    intro k st σ hv hS h38 hp h4 hk hs
    rcases hv with hv | ⟨v1, v2, v3, v4, v5⟩
    · exact stop k st σ hS h38 hp hk hv
    · obtain ⟨s1, s2⟩ := hs σ Ag.refl h38 k st.length v1 (by omega)
      by_cases c : op k < 20
      · obtain ⟨w1, w2, w3⟩ := v2 c
        have e1 := s1.trans (s2 c w1 w2)
        have e2 : rStep op ar lf k st = some (k + 1, lf (op k) (ar k) :: st) := if_pos c
        rw [e2] at v5
        have A : Ag SR σ (zsj σ 145 st.length (lf (op k) (ar k))) := Ag.zsj (Or.inl rfl)
        obtain ⟨l, σ1, g1, g2, g3⟩ := ih (k + 1) (lf (op k) (ar k) :: st) (zsj σ 145 st.length (lf (op k) (ar k))) v5 hS h38 hp.push (by simp only [List.length_cons]; omega) (by omega) (hs.ag A)
        exact ⟨l, σ1, (loopF_in e1).trans g1, A.trans g2, g3⟩
      · obtain ⟨l, k2, σ1, g1, g2, g3, g4⟩ := rb_op (lf := lf) (fin := fin) hS h38 hp (by omega) (by omega) c (v3 c) (fun q => ⟨(v4 q).1, (v4 q).2.1, fun q2 => ((v4 q).2.2 q2).1⟩)
        rcases g4 with ⟨k1, k3, k4, k5⟩ | ⟨st2, k1, k3, k4, k5⟩
        · rw [k1] at v5
          have v5 : res = none := v5
          refine ⟨l, σ1, (loopF_in (s1.trans g1)).trans (loopF_out ?_), g2, g3, Or.inl ⟨v5, k3, k4⟩⟩
          have b1 := q_i125 (k := 38) (hS.ag g2)
          rw [k3] at b1
          by_cases f1 : iN fin ≤ iN k2
          · simp only [s_X9_reckonAll_b10, f1, if_true]
          · simp only [s_X9_reckonAll_b10, f1, b1, show ¬ (1 : Int32) = 0 by decide, if_false, bind_ok]
        · rw [k1] at v5
          have hq := rStep_len c k1
          have hk2 : k2 ≤ 400 := by
            rcases hq.2 with q | ⟨q1, q2, q3⟩
            · omega
            · have := ((v4 q1).2.2 q2).2.2
              omega
          have hl2 : st2.length ≤ 399 := by
            have := hq.1
            omega
          obtain ⟨l3, σ3, m1, m2, m3⟩ := ih k2 st2 σ1 v5 (hS.ag g2) k3 k5 hl2 hk2 (hs.ag g2)
          rw [k4] at m1
          exact ⟨l3, σ3, (loopF_in (s1.trans g1)).trans m1, g2.trans m2, m3⟩
/-- a whole reckoning: broken or a value -/
theorem reck9 {op ar : Nat → Int32} {lf : Int32 → Int32 → Int64} {f fin n : Nat} {σ : Hp} {res : Option Int64} (hS : SK σ) (hfin : fin ≤ 400) (hf : f ≤ 400) (hv : rV op ar lf fin n f [] res) (hs : Src (zsi σ 125 38 0) op ar lf fin) :
    ∃ σ1, s_X9_reckonAll 125 (iN f) (iN fin) σ = some ((), σ1) ∧ Ag SR σ σ1 ∧ ((res = none ∧ zi σ1 125 38 = 1) ∨ (∃ v, res = some v ∧ zi σ1 125 38 = 0 ∧ zj σ1 125 39 = v)) := by
  have A0 : Ag SR σ (zsi σ 125 38 0) := Ag.zsi (Or.inr ⟨rfl, Or.inl rfl⟩)
  have hS0 : SK (zsi σ 125 38 0) := hS
  obtain ⟨l, σ1, g1, g2, g3, g4⟩ := rl_run hfin n f [] (zsi σ 125 38 0) hv hS0 zi_hit trivial (by decide) hf hs
  have hS1 := hS0.ag g2
  have g1b : s_X9_reckonAll_l10 (125, iN fin, 0, iN f) (zsi σ 125 38 0) = some ((125, iN l), σ1) := g1
  have w0 := q_wz125 (k := 38) (v := 0) (Or.inl rfl) hS
  have e2 := q_r125_37 hS1
  have hl : ¬ iN l ≤ 0 := by
    intro q
    have := (iN_le (b := 0) (by omega) (by decide)).mp q
    rcases g4 with ⟨-, -, h⟩ | ⟨-, -, -, h, -⟩ <;> omega
  have e3 := q_ld145 (n := 0) (by decide) hS1
  have e3b : ldJ σ1 145 0 = some (zj σ1 145 0) := e3
  have e4 := q_wj125 (k := 39) (v := zj σ1 145 0) hS1
  refine ⟨zsj σ1 125 39 (zj σ1 145 0), ?_, A0.trans (g2.trans (Ag.zsj (Or.inr ⟨rfl, Or.inr rfl⟩))), ?_⟩
  · simp only [s_X9_reckonAll, w0, g1b, s_X9_reckonAll_j400, hl, e2, e3b, e4, if_false, bind_ok, Option.bind_some, cb_some]
  · rcases g4 with ⟨h1, h2, -⟩ | ⟨v, h1, h2, -, h4⟩
    · exact Or.inl ⟨h1, h2⟩
    · exact Or.inr ⟨v, h1, h2, zj_hit.trans h4⟩
end V10
