/-! ===== a law of the row asked by the reference ===== -/
section V11
variable {σ : Hp}
theorem st143_1 {v : Int64} (h : SK σ) : stJ σ 143 1 v = some (zsj σ 143 1 v) := q_st143 (n := 1) (by decide) h
theorem st143_2 {v : Int64} (h : SK σ) : stJ σ 143 2 v = some (zsj σ 143 2 v) := q_st143 (n := 2) (by decide) h
theorem st143_3 {v : Int64} (h : SK σ) : stJ σ 143 3 v = some (zsj σ 143 3 v) := q_st143 (n := 3) (by decide) h
theorem st143_4 {v : Int64} (h : SK σ) : stJ σ 143 4 v = some (zsj σ 143 4 v) := q_st143 (n := 4) (by decide) h
theorem st143_5 {v : Int64} (h : SK σ) : stJ σ 143 5 v = some (zsj σ 143 5 v) := q_st143 (n := 5) (by decide) h
theorem st143_6 {v : Int64} (h : SK σ) : stJ σ 143 6 v = some (zsj σ 143 6 v) := q_st143 (n := 6) (by decide) h
theorem st143_7 {v : Int64} (h : SK σ) : stJ σ 143 7 v = some (zsj σ 143 7 v) := q_st143 (n := 7) (by decide) h
theorem st143_8 {v : Int64} (h : SK σ) : stJ σ 143 8 v = some (zsj σ 143 8 v) := q_st143 (n := 8) (by decide) h
theorem st143_9 {v : Int64} (h : SK σ) : stJ σ 143 9 v = some (zsj σ 143 9 v) := q_st143 (n := 9) (by decide) h
theorem iN_add2 (a b c d : Nat) (h : d = a + b + c) : iN a + iN b + iN c = iN d := by
  rw [iN_add, iN_add, h]
theorem LR1.src {j : Nat} {e : Env} (hS : SK σ) (hj : j < 6) (h20 : zi σ 125 20 = 0) (h34 : zi σ 125 34 = iN (178 + 900 * j)) (he : ∀ k, k < 9 → zj σ 143 (k + 1) = Int32.toInt64 (e k)) {fin : Nat} (hfin : fin ≤ 400) : Src (zsi σ 125 38 0) (opL (zi σ 127) j) (arL (zi σ 127) j) (lfL e) fin := by
  intro σ1 hA h38 k l hk hl
  have hS1 : SK σ1 := SK.ag (σ := zsi σ 125 38 0) hS hA
  have a127 : zi σ1 127 = zi σ 127 := by
    funext i
    exact (hA.2.2.2.2 127 i (by rintro (h | ⟨h, -⟩) <;> omega)).1.trans (congrFun (zi_ne (by decide)) i)
  have a20 : zi σ1 125 20 = 0 := ((hA.2.2.2.2 125 20 (by rintro (h | ⟨-, h | h⟩) <;> omega)).1.trans (zi_miss (by decide))).trans h20
  have a34 : zi σ1 125 34 = iN (178 + 900 * j) := ((hA.2.2.2.2 125 34 (by rintro (h | ⟨-, h | h⟩) <;> omega)).1.trans (zi_miss (by decide))).trans h34
  have a143 : ∀ i, zj σ1 143 i = zj σ 143 i := fun i => (hA.2.2.2.2 143 i (by rintro (h | ⟨h, -⟩) <;> omega)).2
  have f1 : ¬ iN fin ≤ iN k := (fun h => absurd ((iN_le (by omega) (by omega)).mp h) (by omega))
  have b38 := q_i125 (k := 38) hS1
  have b20 := q_i125 (k := 20) hS1
  have b34 := q_i125 (k := 34) hS1
  have b3 := q_r125_3 hS1
  have b35 := q_r125_35 hS1
  have b37 := q_r125_37 hS1
  rw [h38] at b38
  rw [a20] at b20
  rw [a34] at b34
  have i1 : iN (178 + 900 * j) + 98 + 2 * iN k = iN (178 + 900 * j + 98 + 2 * k) := by
    rw [show (98 : Int32) = iN 98 from rfl, show (2 : Int32) = iN 2 from rfl, iN_mul, iN_add, iN_add]
  have i2 : iN (178 + 900 * j + 98 + 2 * k) + 1 = iN (178 + 900 * j + 98 + 2 * k + 1) := iN_add _ 1
  have l1 : ldI 11 σ1 127 (iN (178 + 900 * j + 98 + 2 * k)) = some (opL (zi σ 127) j k) := (q_ld127 (by omega) hS1).trans (by rw [a127]; rfl)
  have l2 : ldI 11 σ1 127 (iN (178 + 900 * j + 98 + 2 * k + 1)) = some (arL (zi σ 127) j k) := (q_ld127 (by omega) hS1).trans (by rw [a127]; rfl)
  have i3 : iN l + 1 = iN (l + 1) := iN_add _ 1
  have i4 : iN k + 1 = iN (k + 1) := iN_add _ 1
  constructor
  · simp only [s_X9_reckonAll_b10, s_X9_reckonAll_j57, f1, b38, b20, b3, b34, i1, i2, l1, l2, if_true, if_false, bind_ok]
  · intro c1 c2 c3
    obtain ⟨o, ho, eo⟩ := iN_lt_of c2 (m := 10) c3 (by decide)
    rw [eo]
    have g20 : ¬ (20 : Int32) ≤ iN o := fun q => absurd ((iN_le (a := 20) (by decide) (by omega)).mp q) (by omega)
    have s1 := fun v => q_st145 (n := l) (v := v) hl hS1
    by_cases o0 : o = 0
    · subst o0
      simp only [s_X9_reckonAll_j95, s_X9_reckonAll_j251, s_X9_reckonAll_j397, lfL, g20, b37, show iN 0 = (0 : Int32) from rfl, s1, i3, i4, if_true, if_false, bind_ok, Option.bind_some]
      try simp only [show ¬ (20 : Int32) ≤ 0 by decide, if_false]
    · have n0 : ¬ iN o = 0 := fun q => o0 ((iN_inj (b := 0) (by omega) (by decide)).mp q)
      have l3 : ldJ σ1 143 (iN o) = some (Int32.toInt64 (e (o - 1))) := (q_ld143 (by omega) hS1).trans (by
        rw [a143, show o = (o - 1) + 1 by omega, he _ (by omega)]
        rfl)
      simp only [s_X9_reckonAll_j95, s_X9_reckonAll_j251, s_X9_reckonAll_j397, lfL, g20, n0, b37, b20, b35, l3, s1, i3, i4, iN_nat (show o < 2147483648 by omega), if_true, if_false, bind_ok, Option.bind_some]
def SI (a k : Nat) : Prop := a = 145 ∨ (a = 125 ∧ (k = 38 ∨ k = 39 ∨ k = 40))
theorem SR.si {a k : Nat} (h : SR a k) : SI a k := by
  rcases h with h | ⟨h, h2 | h2⟩
  · exact Or.inl h
  · exact Or.inr ⟨h, Or.inl h2⟩
  · exact Or.inr ⟨h, Or.inr (Or.inl h2)⟩
theorem SI.n {a k : Nat} (h1 : a ≠ 145) (h2 : a ≠ 125 ∨ (k ≠ 38 ∧ k ≠ 39 ∧ k ≠ 40)) : ¬ SI a k := by
  rintro (h | ⟨h, h3⟩)
  · exact h1 h
  · rcases h2 with h2 | ⟨a1, a2, a3⟩
    · exact h2 h
    · rcases h3 with h3 | h3 | h3
      · exact a1 h3
      · exact a2 h3
      · exact a3 h3
/-- what asking a law needs -/
def Lw (σ : Hp) (B : Book) (j : Nat) (e : Env) : Prop := SK σ ∧ zi σ 125 20 = 0 ∧ zi σ 125 34 = iN (178 + 900 * j) ∧ (∀ k, k < 9 → zj σ 143 (k + 1) = Int32.toInt64 (e k)) ∧ LR1 (zi σ 127) B j
theorem Lw.ag {σ1 : Hp} {B : Book} {j : Nat} {e : Env} (h : Lw σ B j e) (hA : Ag SI σ σ1) : Lw σ1 B j e := by
  have a127 : zi σ1 127 = zi σ 127 := funext fun i => (hA.2.2.2.2 127 i (SI.n (by decide) (Or.inl (by decide)))).1
  refine ⟨h.1.ag hA, ((hA.2.2.2.2 125 20 (SI.n (by decide) (Or.inr (by decide)))).1).trans h.2.1, ((hA.2.2.2.2 125 34 (SI.n (by decide) (Or.inr (by decide)))).1).trans h.2.2.1, fun k hk => ((hA.2.2.2.2 143 (k + 1) (SI.n (by decide) (Or.inl (by decide)))).2).trans (h.2.2.2.1 k hk), ?_⟩
  rw [a127]
  exact h.2.2.2.2
theorem Lw.src {B : Book} {j : Nat} {e : Env} (h : Lw σ B j e) (hj : j < 6) {fin : Nat} (hfin : fin ≤ 400) : Src (zsi σ 125 38 0) (opL (zi σ 127) j) (arL (zi σ 127) j) (lfL e) fin := LR1.src h.1 hj h.2.1 h.2.2.1 h.2.2.2.1 hfin
theorem is_j59 {B : Book} {j c : Nat} {e : Env} (h : Lw σ B j e) (hj : j < 6) (hc : c < (B j).1) (ht : ((B j).2 c).2.2 e = some 1) :
    ∃ r σ1, s_X9_isSo_j59 125 (iN (178 + 900 * j + 2 + 8 * c)) σ = some (r, σ1) ∧ Ag SI σ σ1 ∧ ((r = 0 ∧ clP ((B j).2 c) ((B j).2 c).1 e = none) ∨ (r = 1 ∧ ∃ v, clP ((B j).2 c) ((B j).2 c).1 e = some v ∧ (((B j).2 c).1 = 2 ∧ v = 1 ∨ ¬ ((B j).2 c).1 = 2 ∧ zj σ1 125 40 = v))) := by
  obtain ⟨hS, h20, h34, he, hB, hN, hcl⟩ := id h
  obtain ⟨d1, d2, k3, k4, k5, k6, z3, z4, z5, z6, e3, e4, e5, e6, g1, g2, g3, g4⟩ := hcl c hc
  have hc12 : c < 12 := by omega
  have b3 := q_r125_3 hS
  have bk := q_ck125 hS
  have i3 : iN (178 + 900 * j + 2 + 8 * c) + 3 = iN (178 + 900 * j + 2 + 8 * c + 3) := iN_add _ 3
  have i4 : iN (178 + 900 * j + 2 + 8 * c) + 4 = iN (178 + 900 * j + 2 + 8 * c + 4) := iN_add _ 4
  have l0 : ldI 11 σ 127 (iN (178 + 900 * j + 2 + 8 * c)) = some (iN ((B j).2 c).1) := (q_ld127 (by omega) hS).trans (by rw [d2])
  have l3 : ldI 11 σ 127 (iN (178 + 900 * j + 2 + 8 * c + 3)) = some (iN k3) := (q_ld127 (by omega) hS).trans (by rw [e3])
  have l4 : ldI 11 σ 127 (iN (178 + 900 * j + 2 + 8 * c + 4)) = some (iN k4) := (q_ld127 (by omega) hS).trans (by rw [e4])
  by_cases c2 : ((B j).2 c).1 = 2
  · refine ⟨1, σ, ?_, Ag.refl, Or.inr ⟨rfl, 1, ?_, Or.inl ⟨c2, rfl⟩⟩⟩
    · simp only [s_X9_isSo_j59, b3, l0, c2, show iN 2 = (2 : Int32) from rfl, if_true, bind_ok]
    · simp only [clP, ht, c2, and_self, if_true]
  · have n2 : ¬ iN ((B j).2 c).1 = 2 := fun q => c2 ((iN_inj (b := 2) (by omega) (by decide)).mp q)
    obtain ⟨n, hv⟩ := g1 c2 e
    obtain ⟨σ1, r1, r2, r3⟩ := reck9 hS z4 z3 hv (h.src hj z4)
    have hS1 := hS.ag r2
    have j39 := q_j125 (k := 39) hS1
    have w40 := q_wj125 (k := 40) (v := zj σ1 125 39) hS1
    have i38 := q_i125 (k := 38) (σ := zsj σ1 125 40 (zj σ1 125 39)) hS1
    rw [zi_zsj] at i38
    have A : Ag SI σ (zsj σ1 125 40 (zj σ1 125 39)) := (r2.mono (fun a k q => q.si)).trans (Ag.zsj (Or.inr ⟨rfl, Or.inr (Or.inr rfl)⟩))
    rcases r3 with ⟨q1, q2⟩ | ⟨v, q1, q2, q3⟩
    · rw [q2] at i38
      refine ⟨0, _, ?_, A, Or.inl ⟨rfl, ?_⟩⟩
      · simp only [s_X9_isSo_j59, b3, bk, l0, n2, i3, i4, l3, l4, r1, j39, w40, i38, show ¬ (1 : Int32) = 0 by decide, if_false, bind_ok, Option.bind_some, cb_some]
      · simp only [clP, ht, c2, q1, and_self, if_true, if_false]
    · rw [q2] at i38
      refine ⟨1, _, ?_, A, Or.inr ⟨rfl, v, ?_, Or.inr ⟨c2, zj_hit.trans q3⟩⟩⟩
      · simp only [s_X9_isSo_j59, b3, bk, l0, n2, i3, i4, l3, l4, r1, j39, w40, i38, if_true, if_false, bind_ok, Option.bind_some, cb_some]
      · simp only [clP, ht, c2, q1, and_self, if_true, if_false]
theorem is9 {B : Book} {j c : Nat} {e : Env} (h : Lw σ B j e) (hj : j < 6) (hc : c < (B j).1) :
    ∃ r σ1, s_X9_isSo 125 (iN (178 + 900 * j + 2 + 8 * c)) σ = some (r, σ1) ∧ Ag SI σ σ1 ∧ ((r = 0 ∧ clP ((B j).2 c) ((B j).2 c).1 e = none) ∨ (r = 1 ∧ ∃ v, clP ((B j).2 c) ((B j).2 c).1 e = some v ∧ (((B j).2 c).1 = 2 ∧ v = 1 ∨ ¬ ((B j).2 c).1 = 2 ∧ zj σ1 125 40 = v))) := by
  obtain ⟨hS, h20, h34, he, hB, hN, hcl⟩ := id h
  obtain ⟨d1, d2, k3, k4, k5, k6, z3, z4, z5, z6, e3, e4, e5, e6, g1, g2, g3, g4⟩ := hcl c hc
  have hc12 : c < 12 := by omega
  have b3 := q_r125_3 hS
  have bk := q_ck125 hS
  have i5 : iN (178 + 900 * j + 2 + 8 * c) + 5 = iN (178 + 900 * j + 2 + 8 * c + 5) := iN_add _ 5
  have i6 : iN (178 + 900 * j + 2 + 8 * c) + 6 = iN (178 + 900 * j + 2 + 8 * c + 6) := iN_add _ 6
  have l5 : ldI 11 σ 127 (iN (178 + 900 * j + 2 + 8 * c + 5)) = some (iN k5) := (q_ld127 (by omega) hS).trans (by rw [e5])
  have l6 : ldI 11 σ 127 (iN (178 + 900 * j + 2 + 8 * c + 6)) = some (iN k6) := (q_ld127 (by omega) hS).trans (by rw [e6])
  by_cases ck : k5 < k6
  · have c1 : ¬ iN k6 ≤ iN k5 := (fun h => absurd ((iN_le (by omega) (by omega)).mp h) (by omega))
    obtain ⟨n, hv⟩ := g2 ck e
    obtain ⟨σ1, r1, r2, r3⟩ := reck9 hS z6 z5 hv (h.src hj z6)
    have hS1 := hS.ag r2
    have A : Ag SI σ σ1 := r2.mono (fun a k q => q.si)
    have i38 := q_i125 (k := 38) hS1
    have j39 := q_j125 (k := 39) hS1
    rcases r3 with ⟨q1, q2⟩ | ⟨v, q1, q2, q3⟩
    · rw [q2] at i38
      refine ⟨0, σ1, ?_, A, Or.inl ⟨rfl, ?_⟩⟩
      · simp only [s_X9_isSo, b3, bk, i5, i6, l5, l6, c1, r1, i38, show ¬ (1 : Int32) = 0 by decide, if_false, bind_ok, Option.bind_some, cb_some]
      · simp only [clP, q1, reduceCtorEq, and_false, if_false]
    · rw [q2] at i38
      rw [q3] at j39
      rcases g4 e v q1 with rfl | rfl
      · refine ⟨0, σ1, ?_, A, Or.inl ⟨rfl, ?_⟩⟩
        · simp only [s_X9_isSo, b3, bk, i5, i6, l5, l6, c1, r1, i38, j39, lg_cmp_eq, if_true, if_false, bind_ok, Option.bind_some, cb_some]
        · simp only [clP, q1, Option.some.injEq, show ¬ (0 : Int64) = 1 by decide, and_false, if_false]
      · obtain ⟨r, σ2, m1, m2, m3⟩ := is_j59 (h.ag A) hj hc q1
        refine ⟨r, σ2, ?_, A.trans m2, m3⟩
        simp only [s_X9_isSo, b3, bk, i5, i6, l5, l6, c1, r1, i38, j39, lg_cmp_eq, show ¬ (1 : Int64) = 0 by decide, if_true, if_false, bind_ok, Option.bind_some, cb_some]
        exact m1
  · have c1 : iN k6 ≤ iN k5 := ((iN_le (by omega) (by omega)).mpr (by omega))
    obtain ⟨r, σ2, m1, m2, m3⟩ := is_j59 h hj hc (g3 ck e)
    refine ⟨r, σ2, ?_, m2, m3⟩
    simp only [s_X9_isSo, b3, i5, i6, l5, l6, c1, if_true, bind_ok]
    exact m1
theorem tl_run {B : Book} {j h : Nat} {e : Env} {wo : Int64} (hj : j < 6) (hh : h < 3) : ∀ (d c : Nat) (σ : Hp), c + d = (B j).1 → Lw σ B j e →
    ∃ σ1, s_X9_tells_l182 (125, iN h, (toldP (B j) h e c).getD wo, iN c) σ = some ((toldP (B j) h e (B j).1).getD wo, σ1) ∧ Ag SI σ σ1 := by
  intro d
  induction d with
  | zero =>
    intro c σ hcd hl
    obtain ⟨hS, h20, h34, he, hB, hN, hcl⟩ := id hl
    have b3 := q_r125_3 hS
    have b34 := q_i125 (k := 34) hS
    rw [h34] at b34
    have i1 : iN (178 + 900 * j) + 1 = iN (178 + 900 * j + 1) := iN_add _ 1
    have l1 : ldI 11 σ 127 (iN (178 + 900 * j + 1)) = some (iN (B j).1) := (q_ld127 (by omega) hS).trans (by rw [hN])
    have e0 : c = (B j).1 := by omega
    subst e0
    have c1 : iN (B j).1 ≤ iN (B j).1 := Int32.le_refl _
    refine ⟨σ, loopF_out ?_, Ag.refl⟩
    simp only [s_X9_tells_b182, b3, b34, i1, l1, c1, if_true, bind_ok]
  | succ d ih =>
    intro c σ hcd hl
    obtain ⟨hS, h20, h34, he, hB, hN, hcl⟩ := id hl
    obtain ⟨d1, d2, -⟩ := hcl c (by omega)
    have b3 := q_r125_3 hS
    have bk := q_ck125 hS
    have b34 := q_i125 (k := 34) hS
    rw [h34] at b34
    have i1 : iN (178 + 900 * j) + 1 = iN (178 + 900 * j + 1) := iN_add _ 1
    have l1 : ldI 11 σ 127 (iN (178 + 900 * j + 1)) = some (iN (B j).1) := (q_ld127 (by omega) hS).trans (by rw [hN])
    have i2 : iN (178 + 900 * j) + 2 + 8 * iN c = iN (178 + 900 * j + 2 + 8 * c) := by
      rw [show (2 : Int32) = iN 2 from rfl, show (8 : Int32) = iN 8 from rfl, iN_mul, iN_add, iN_add]
    have l2 : ldI 11 σ 127 (iN (178 + 900 * j + 2 + 8 * c)) = some (iN ((B j).2 c).1) := (q_ld127 (by omega) hS).trans (by rw [d2])
    have c1 : ¬ iN (B j).1 ≤ iN c := (fun h => absurd ((iN_le (by omega) (by omega)).mp h) (by omega))
    have i3 : iN c + 1 = iN (c + 1) := iN_add _ 1
    by_cases c0 : ((B j).2 c).1 = h
    · have n0 : iN ((B j).2 c).1 = iN h := by rw [c0]
      obtain ⟨r, σ1, m1, m2, m3⟩ := is9 hl hj (c := c) (by omega)
      rw [c0] at m3
      rcases m3 with ⟨rfl, q1⟩ | ⟨rfl, v, q1, q2⟩
      · have e1 : toldP (B j) h e (c + 1) = toldP (B j) h e c := by
          simp only [toldP, q1]
        obtain ⟨σ2, k1, k2⟩ := ih (c + 1) σ1 (by omega) (hl.ag m2)
        rw [e1] at k1
        refine ⟨σ2, (loopF_in ?_).trans k1, m2.trans k2⟩
        simp only [s_X9_tells_b182, s_X9_tells_j247, b3, bk, b34, i1, l1, c1, i2, l2, n0, m1, i3, if_true, if_false, bind_ok, Option.bind_some, cb_some]
      · have e1 : toldP (B j) h e (c + 1) = some v := by
          simp only [toldP, q1]
        obtain ⟨σ2, k1, k2⟩ := ih (c + 1) σ1 (by omega) (hl.ag m2)
        rw [e1] at k1
        refine ⟨σ2, (loopF_in ?_).trans k1, m2.trans k2⟩
        rcases q2 with ⟨q3, rfl⟩ | ⟨q3, q4⟩
        · subst q3
          simp only [s_X9_tells_b182, s_X9_tells_j245, s_X9_tells_j247, b3, bk, b34, i1, l1, c1, i2, l2, n0, m1, i3, show ¬ (1 : Int32) = 0 by decide, show iN 2 = (2 : Int32) from rfl, Option.getD_some, if_true, if_false, bind_ok, Option.bind_some, cb_some]
        · have n2 : ¬ iN h = 2 := fun q => q3 ((iN_inj (b := 2) (by omega) (by decide)).mp q)
          have j40 := q_j125 (k := 40) (hS.ag m2)
          rw [q4] at j40
          simp only [s_X9_tells_b182, s_X9_tells_j245, s_X9_tells_j247, b3, bk, b34, i1, l1, c1, i2, l2, n0, n2, m1, i3, j40, show ¬ (1 : Int32) = 0 by decide, Option.getD_some, if_true, if_false, bind_ok, Option.bind_some, cb_some]
    · have n0 : ¬ iN ((B j).2 c).1 = iN h := fun q => c0 ((iN_inj (by omega) (by omega)).mp q)
      have e1 : toldP (B j) h e (c + 1) = toldP (B j) h e c := by
        simp only [toldP, clP, c0, false_and, if_false]
      obtain ⟨σ2, k1, k2⟩ := ih (c + 1) σ (by omega) hl
      rw [e1] at k1
      refine ⟨σ2, (loopF_in ?_).trans k1, k2⟩
      simp only [s_X9_tells_b182, s_X9_tells_j247, b3, bk, b34, i1, l1, c1, i2, l2, n0, i3, if_true, if_false, bind_ok, Option.bind_some, cb_some]
theorem iN_div {a b : Nat} (ha : a < 2147483648) (hb : b < 2147483648) : iN a / iN b = iN (a / b) := by
  have h1 : a / b ≤ a := Nat.div_le_self a b
  apply Int32.toInt_inj.mp
  have h3 : a / b < 2147483648 := Nat.lt_of_le_of_lt h1 ha
  rw [Int32.toInt_div, iN_int ha, iN_int hb, iN_int h3]
  rw [show ((a : Int).tdiv (b : Int)) = ((a / b : Nat) : Int) from rfl]
  generalize a / b = q at h3
  exact Int.bmod_eq_of_le (by omega) (by omega)
theorem iN_mod {a b : Nat} (ha : a < 2147483648) (hb : b < 2147483648) : iN a - iN a / iN b * iN b = iN (a % b) := by
  have h2 := Nat.div_mul_le_self a b
  rw [iN_div ha hb, iN_mul, iN_sub h2]
  congr 1
  have := Nat.div_add_mod a b
  rw [Nat.mul_comm] at this
  omega
/-- the row as the reference asks it -/
def M9 (nP nF nB nT nS nL H : Nat) (B : Book) (R : Nat → Int32) (σ : Hp) : Prop := SK σ ∧ zi σ 127 = R ∧ WF nP nF nB nT nS nL H R ∧ LRow R B nL ∧ zi σ 125 20 = 0
/-- what only the reference's paper holds -/
def S9 (a k : Nat) : Prop := (143 ≤ a ∧ a ≤ 145) ∨ (a = 125 ∧ (k = 0 ∨ k = 34 ∨ k = 38 ∨ k = 39 ∨ k = 40 ∨ k = 40))
theorem S9.n {a k : Nat} (h1 : ¬ (143 ≤ a ∧ a ≤ 145)) (h2 : a ≠ 125 ∨ (k ≠ 0 ∧ k ≠ 34 ∧ k ≠ 38 ∧ k ≠ 39 ∧ k ≠ 40 ∧ k ≠ 40)) : ¬ S9 a k := by
  rintro (h | ⟨h, h3⟩)
  · exact h1 h
  · rcases h2 with h2 | h2
    · exact h2 h
    · omega
theorem SI.s9 {a k : Nat} (h : SI a k) : S9 a k := by
  rcases h with h | ⟨h, h2⟩
  · exact Or.inl (by omega)
  · exact Or.inr ⟨h, by omega⟩
theorem Ag.row {σ1 : Hp} (h : Ag S9 σ σ1) : zi σ1 127 = zi σ 127 := funext fun i => (h.2.2.2.2 127 i (S9.n (by decide) (Or.inl (by decide)))).1
theorem M9.ag {nP nF nB nT nS nL H : Nat} {B : Book} {R : Nat → Int32} {σ1 : Hp} (h : M9 nP nF nB nT nS nL H B R σ) (e : Ag S9 σ σ1) : M9 nP nF nB nT nS nL H B R σ1 :=
  ⟨h.1.ag e, e.row.trans h.2.1, h.2.2.1, h.2.2.2.1, ((e.2.2.2.2 125 20 (S9.n (by decide) (Or.inr (by decide)))).1).trans h.2.2.2.2⟩
def lawR (R : Nat → Int32) : Option Nat := if R 6 = -1 then none else some (R 6).toNatClampNeg
/-- what a law, if there is one, tells -/
def askP (B : Book) (j : Option Nat) (h : Nat) (e : Env) : Option Int64 := match j with
  | none => none
  | some j => toldP (B j) h e (B j).1
def lgR (R : Nat → Int32) (f : Int32) : Int32 := if f = -1 then -1 else R (150 + f.toNatClampNeg)
def hgR (R : Nat → Int32) (p : Int32) : Int32 := if p = -1 then -1 else R (40 + p.toNatClampNeg)
theorem tells9 {nP nF nB nT nS nL H hr h : Nat} {B : Book} {R : Nat → Int32} (hM : M9 nP nF nB nT nS nL H B R σ) (hr3 : hr < 100000) (hhr : R 7 = iN hr) (hh : h < 3) {rm b f p : Int32} {wo : Int64} (hf : f = -1 ∨ ∃ n, n < 4 ∧ f = iN n) (hp : p = -1 ∨ ∃ n, n < 10 ∧ p = iN n) :
    ∃ σ1, s_X9_tells 125 (iN h) rm b f p wo σ = some ((askP B (lawR R) h (ev rm (iN (hr % 24)) (iN hr) b f (lgR R f) p (hgR R p) (R 9))).getD wo, σ1) ∧ Ag S9 σ σ1 := by
  obtain ⟨hS, hR, hW, hL, h20⟩ := hM
  have b3 := q_r125_3 hS
  have hnL : nL ≤ 6 := hW.1.2.2.2.2.2
  have hr2 : hr < 2147483648 := by omega
  rcases hW.2.2.1 with h6 | ⟨j, hj, h6⟩
  · refine ⟨σ, ?_, Ag.refl⟩
    have e1 : lawR R = none := if_pos h6
    have l6 : ldI 11 σ 127 6 = some (-1) := (rw_6 hS).trans (by rw [hR, h6])
    simp only [s_X9_tells, b3, l6, e1, askP, if_true, bind_ok, Option.getD_none]
  · have l6 : ldI 11 σ 127 6 = some (iN j) := (rw_6 hS).trans (by rw [hR, h6])
    have e1 : lawR R = some j := by
      unfold lawR
      rw [h6, if_neg (iN_ne (by omega)), iN_nat (by omega)]
    have nj : ¬ iN j = -1 := iN_ne (by omega)
    have i1 : 178 + 900 * iN j = iN (178 + 900 * j) := by
      rw [show (178 : Int32) = iN 178 from rfl, show (900 : Int32) = iN 900 from rfl, iN_mul, iN_add]
    have e24 : iN hr - iN hr / 24 * 24 = iN (hr % 24) := iN_mod hr2 (by decide)
    have lg : ¬ f = -1 → ∀ σ1, SK σ1 → ldI 11 σ1 127 (150 + f) = some (zi σ1 127 (150 + f.toNatClampNeg)) := fun q3 σ1 q1 => by
      rcases hf with q | ⟨n, hn, rfl⟩
      · exact absurd q q3
      · rw [show (150 : Int32) = iN 150 from rfl, iN_add, q_ld127 (by omega) q1, iN_nat (by omega)]
    have lp : ¬ p = -1 → ∀ σ1, SK σ1 → ldI 11 σ1 127 (40 + p) = some (zi σ1 127 (40 + p.toNatClampNeg)) := fun q3 σ1 q1 => by
      rcases hp with q | ⟨n, hn, rfl⟩
      · exact absurd q q3
      · rw [show (40 : Int32) = iN 40 from rfl, iN_add, q_ld127 (by omega) q1, iN_nat (by omega)]
    have r127 : ∀ (σ1 : Hp) (k : Nat) (v : Int64), zi (zsj σ1 143 k v) 127 = zi σ1 127 := fun _ _ _ => rfl
    have r127b : ∀ (v : Int32), zi (zsi σ 125 34 v) 127 = R := fun v => (zi_ne (by decide)).trans hR
    have fin : ∀ σ8, Lw σ8 B j (ev rm (iN (hr % 24)) (iN hr) b f (lgR R f) p (hgR R p) (R 9)) → Ag S9 σ σ8 → s_X9_tells 125 (iN h) rm b f p wo σ = cb (s_X9_tells_l182 (125, iN h, wo, 0) σ8) (fun r10 σ11 => some (r10, σ11)) → ∃ σ1, s_X9_tells 125 (iN h) rm b f p wo σ = some ((askP B (lawR R) h (ev rm (iN (hr % 24)) (iN hr) b f (lgR R f) p (hgR R p) (R 9))).getD wo, σ1) ∧ Ag S9 σ σ1 := by
      intro σ8 q1 q2 q3
      obtain ⟨σ1, k1, k2⟩ := tl_run (wo := wo) (B := B) (by omega) hh (B j).1 0 σ8 (by omega) q1
      have k1 : s_X9_tells_l182 (125, iN h, wo, 0) σ8 = _ := k1
      refine ⟨σ1, ?_, q2.trans (k2.mono (fun a k q => q.s9))⟩
      rw [q3, k1, e1]
      rfl
    have A : Ag S9 σ (zsi σ 125 34 (iN (178 + 900 * j))) := Ag.zsi (Or.inr ⟨rfl, by decide⟩)
    have AJ143 : ∀ (σ1 : Hp) (k : Nat) (v : Int64), Ag S9 σ σ1 → Ag S9 σ (zsj σ1 143 k v) := fun σ1 k v q => q.trans (Ag.zsj (Or.inl (by decide)))
    refine fin (zsj (zsj (zsj (zsj (zsj (zsj (zsj (zsj (zsj (zsi σ 125 34 (iN (178 + 900 * j))) 143 1 (Int32.toInt64 rm)) 143 2 (Int32.toInt64 (iN (hr % 24)))) 143 3 (Int32.toInt64 (iN hr))) 143 4 (Int32.toInt64 b)) 143 5 (Int32.toInt64 f)) 143 6 (Int32.toInt64 (lgR R f))) 143 7 (Int32.toInt64 p)) 143 8 (Int32.toInt64 (hgR R p))) 143 9 (Int32.toInt64 (R 9))) ⟨hS.fz.fj.fj.fj.fj.fj.fj.fj.fj.fj, ?_, ?_, ?_, ?_⟩ ?_ ?_
    · rw [zi_zsj, zi_zsj, zi_zsj, zi_zsj, zi_zsj, zi_zsj, zi_zsj, zi_zsj, zi_zsj]
      exact (zi_miss (by decide)).trans h20
    · rw [zi_zsj, zi_zsj, zi_zsj, zi_zsj, zi_zsj, zi_zsj, zi_zsj, zi_zsj, zi_zsj]
      exact zi_hit
    · intro k hk
      have hk9 : k = 0 ∨ k = 1 ∨ k = 2 ∨ k = 3 ∨ k = 4 ∨ k = 5 ∨ k = 6 ∨ k = 7 ∨ k = 8 := by omega
      rcases hk9 with rfl | rfl | rfl | rfl | rfl | rfl | rfl | rfl | rfl <;> (simp (disch := decide) only [zj_hit, zj_miss, Nat.reduceAdd]; rfl)
    · have e0 := hL j hj
      rw [zi_zsj, zi_zsj, zi_zsj, zi_zsj, zi_zsj, zi_zsj, zi_zsj, zi_zsj, zi_zsj, r127b]
      exact e0
    · refine AJ143 _ _ _ ?_
      refine AJ143 _ _ _ ?_
      refine AJ143 _ _ _ ?_
      refine AJ143 _ _ _ ?_
      refine AJ143 _ _ _ ?_
      refine AJ143 _ _ _ ?_
      refine AJ143 _ _ _ ?_
      refine AJ143 _ _ _ ?_
      refine AJ143 _ _ _ ?_
      exact A
    · have m1 : Int32.toInt64 (-1) = -1 := by decide
      by_cases f1 : f = -1
      · have v1 : lgR R (-1) = -1 := if_pos rfl
        by_cases p1 : p = -1
        · have v2 : hgR R (-1) = -1 := if_pos rfl
          simp (disch := first | assumption | omega | (simp only [SK_zsi, SK_zsj, HK_zsi, HK_zsj]; assumption) | decide) only [s_X9_tells, s_X9_tells_j119, s_X9_tells_j159, l6, hhr, nj, i1, e24, f1, p1, v1, v2, m1, r127b, zi_zsj, st143_1, st143_2, st143_3, st143_4, st143_5, st143_6, st143_7, st143_8, st143_9, cb_some, Option.bind_some, if_true, if_false, zi_hit, zi_miss, zi_ne, zj_hit, zj_miss, zj_ne, zi_zsj, zj_zsi, zr_zsi, zr_zsj, bind_ok, ite_self, q_ck125, q_i125, q_j125, q_w125, q_wj125, q_wz125, q_r125_2, q_r125_3, q_r125_4, q_r125_5, q_r125_6, q_r125_7, q_r125_9, q_r125_10, q_r125_12, q_r125_22, q_r125_24, q_r125_25, q_r125_27, q_r125_28, q_r125_31, q_r125_32, q_r125_33, q_r125_35, q_r125_36, q_r125_37, q_r125_41, q_r125_42, q_r125_43, q_r125_44, q_r125_45, q_r125_46, q_r125_47, q_r125_48, q_r125_49, q_r125_55, q_ln126, q_ld126, q_st126, q_ln127, q_ld127, q_st127, q_ln128, q_ld128, q_st128, q_ln129, q_ld129, q_st129, q_ln130, q_ld130, q_st130, q_ln131, q_ld131, q_st131, q_ln132, q_ld132, q_st132, q_ln133, q_ld133, q_st133, q_ln134, q_ld134, q_st134, q_ln135, q_ld135, q_st135, q_ln136, q_ld136, q_st136, q_ln137, q_ld137, q_st137, q_ln138, q_ld138, q_st138, q_ln139, q_ld139, q_st139, q_ln140, q_ld140, q_st140, q_ln141, q_ld141, q_st141, q_ln142, q_ld142, q_st142, q_ln143, q_ld143, q_st143, q_ln144, q_ld144, q_st144, q_ln145, q_ld145, q_st145, q_ln146, q_ld146, q_st146, q_ln147, q_ld147, q_st147, q_ln148, q_ld148, q_st148, q_ln149, q_ld149, q_st149, q_ln150, q_ld150, q_st150, q_ln151, q_ld151, q_st151, q_ln152, q_ld152, q_st152, q_ln153, q_ld153, q_st153, q_ln154, q_ld154, q_st154, q_ln155, q_ld155, q_st155, rw_0, rw_1, rw_2, rw_3, rw_4, rw_5, rw_6, rw_7, rw_8, rw_9, rw_10, rs_0, rs_1, rs_2, rs_3, rs_4, rs_5, rs_6, rs_7, rs_8, rs_9, rs_10]
        · have v2 : hgR R p = R (40 + p.toNatClampNeg) := if_neg p1
          have lp := lp p1
          simp (disch := first | assumption | omega | (simp only [SK_zsi, SK_zsj, HK_zsi, HK_zsj]; assumption) | decide) only [s_X9_tells, s_X9_tells_j119, s_X9_tells_j159, l6, hhr, nj, i1, e24, f1, p1, v1, v2, m1, r127b, zi_zsj, lp, st143_1, st143_2, st143_3, st143_4, st143_5, st143_6, st143_7, st143_8, st143_9, cb_some, Option.bind_some, if_true, if_false, zi_hit, zi_miss, zi_ne, zj_hit, zj_miss, zj_ne, zi_zsj, zj_zsi, zr_zsi, zr_zsj, bind_ok, ite_self, q_ck125, q_i125, q_j125, q_w125, q_wj125, q_wz125, q_r125_2, q_r125_3, q_r125_4, q_r125_5, q_r125_6, q_r125_7, q_r125_9, q_r125_10, q_r125_12, q_r125_22, q_r125_24, q_r125_25, q_r125_27, q_r125_28, q_r125_31, q_r125_32, q_r125_33, q_r125_35, q_r125_36, q_r125_37, q_r125_41, q_r125_42, q_r125_43, q_r125_44, q_r125_45, q_r125_46, q_r125_47, q_r125_48, q_r125_49, q_r125_55, q_ln126, q_ld126, q_st126, q_ln127, q_ld127, q_st127, q_ln128, q_ld128, q_st128, q_ln129, q_ld129, q_st129, q_ln130, q_ld130, q_st130, q_ln131, q_ld131, q_st131, q_ln132, q_ld132, q_st132, q_ln133, q_ld133, q_st133, q_ln134, q_ld134, q_st134, q_ln135, q_ld135, q_st135, q_ln136, q_ld136, q_st136, q_ln137, q_ld137, q_st137, q_ln138, q_ld138, q_st138, q_ln139, q_ld139, q_st139, q_ln140, q_ld140, q_st140, q_ln141, q_ld141, q_st141, q_ln142, q_ld142, q_st142, q_ln143, q_ld143, q_st143, q_ln144, q_ld144, q_st144, q_ln145, q_ld145, q_st145, q_ln146, q_ld146, q_st146, q_ln147, q_ld147, q_st147, q_ln148, q_ld148, q_st148, q_ln149, q_ld149, q_st149, q_ln150, q_ld150, q_st150, q_ln151, q_ld151, q_st151, q_ln152, q_ld152, q_st152, q_ln153, q_ld153, q_st153, q_ln154, q_ld154, q_st154, q_ln155, q_ld155, q_st155, rw_0, rw_1, rw_2, rw_3, rw_4, rw_5, rw_6, rw_7, rw_8, rw_9, rw_10, rs_0, rs_1, rs_2, rs_3, rs_4, rs_5, rs_6, rs_7, rs_8, rs_9, rs_10]
      · have v1 : lgR R f = R (150 + f.toNatClampNeg) := if_neg f1
        have lg := lg f1
        by_cases p1 : p = -1
        · have v2 : hgR R (-1) = -1 := if_pos rfl
          simp (disch := first | assumption | omega | (simp only [SK_zsi, SK_zsj, HK_zsi, HK_zsj]; assumption) | decide) only [s_X9_tells, s_X9_tells_j119, s_X9_tells_j159, l6, hhr, nj, i1, e24, f1, p1, v1, v2, m1, r127b, zi_zsj, lg, st143_1, st143_2, st143_3, st143_4, st143_5, st143_6, st143_7, st143_8, st143_9, cb_some, Option.bind_some, if_true, if_false, zi_hit, zi_miss, zi_ne, zj_hit, zj_miss, zj_ne, zi_zsj, zj_zsi, zr_zsi, zr_zsj, bind_ok, ite_self, q_ck125, q_i125, q_j125, q_w125, q_wj125, q_wz125, q_r125_2, q_r125_3, q_r125_4, q_r125_5, q_r125_6, q_r125_7, q_r125_9, q_r125_10, q_r125_12, q_r125_22, q_r125_24, q_r125_25, q_r125_27, q_r125_28, q_r125_31, q_r125_32, q_r125_33, q_r125_35, q_r125_36, q_r125_37, q_r125_41, q_r125_42, q_r125_43, q_r125_44, q_r125_45, q_r125_46, q_r125_47, q_r125_48, q_r125_49, q_r125_55, q_ln126, q_ld126, q_st126, q_ln127, q_ld127, q_st127, q_ln128, q_ld128, q_st128, q_ln129, q_ld129, q_st129, q_ln130, q_ld130, q_st130, q_ln131, q_ld131, q_st131, q_ln132, q_ld132, q_st132, q_ln133, q_ld133, q_st133, q_ln134, q_ld134, q_st134, q_ln135, q_ld135, q_st135, q_ln136, q_ld136, q_st136, q_ln137, q_ld137, q_st137, q_ln138, q_ld138, q_st138, q_ln139, q_ld139, q_st139, q_ln140, q_ld140, q_st140, q_ln141, q_ld141, q_st141, q_ln142, q_ld142, q_st142, q_ln143, q_ld143, q_st143, q_ln144, q_ld144, q_st144, q_ln145, q_ld145, q_st145, q_ln146, q_ld146, q_st146, q_ln147, q_ld147, q_st147, q_ln148, q_ld148, q_st148, q_ln149, q_ld149, q_st149, q_ln150, q_ld150, q_st150, q_ln151, q_ld151, q_st151, q_ln152, q_ld152, q_st152, q_ln153, q_ld153, q_st153, q_ln154, q_ld154, q_st154, q_ln155, q_ld155, q_st155, rw_0, rw_1, rw_2, rw_3, rw_4, rw_5, rw_6, rw_7, rw_8, rw_9, rw_10, rs_0, rs_1, rs_2, rs_3, rs_4, rs_5, rs_6, rs_7, rs_8, rs_9, rs_10]
        · have v2 : hgR R p = R (40 + p.toNatClampNeg) := if_neg p1
          have lp := lp p1
          simp (disch := first | assumption | omega | (simp only [SK_zsi, SK_zsj, HK_zsi, HK_zsj]; assumption) | decide) only [s_X9_tells, s_X9_tells_j119, s_X9_tells_j159, l6, hhr, nj, i1, e24, f1, p1, v1, v2, m1, r127b, zi_zsj, lg, lp, st143_1, st143_2, st143_3, st143_4, st143_5, st143_6, st143_7, st143_8, st143_9, cb_some, Option.bind_some, if_true, if_false, zi_hit, zi_miss, zi_ne, zj_hit, zj_miss, zj_ne, zi_zsj, zj_zsi, zr_zsi, zr_zsj, bind_ok, ite_self, q_ck125, q_i125, q_j125, q_w125, q_wj125, q_wz125, q_r125_2, q_r125_3, q_r125_4, q_r125_5, q_r125_6, q_r125_7, q_r125_9, q_r125_10, q_r125_12, q_r125_22, q_r125_24, q_r125_25, q_r125_27, q_r125_28, q_r125_31, q_r125_32, q_r125_33, q_r125_35, q_r125_36, q_r125_37, q_r125_41, q_r125_42, q_r125_43, q_r125_44, q_r125_45, q_r125_46, q_r125_47, q_r125_48, q_r125_49, q_r125_55, q_ln126, q_ld126, q_st126, q_ln127, q_ld127, q_st127, q_ln128, q_ld128, q_st128, q_ln129, q_ld129, q_st129, q_ln130, q_ld130, q_st130, q_ln131, q_ld131, q_st131, q_ln132, q_ld132, q_st132, q_ln133, q_ld133, q_st133, q_ln134, q_ld134, q_st134, q_ln135, q_ld135, q_st135, q_ln136, q_ld136, q_st136, q_ln137, q_ld137, q_st137, q_ln138, q_ld138, q_st138, q_ln139, q_ld139, q_st139, q_ln140, q_ld140, q_st140, q_ln141, q_ld141, q_st141, q_ln142, q_ld142, q_st142, q_ln143, q_ld143, q_st143, q_ln144, q_ld144, q_st144, q_ln145, q_ld145, q_st145, q_ln146, q_ld146, q_st146, q_ln147, q_ld147, q_st147, q_ln148, q_ld148, q_st148, q_ln149, q_ld149, q_st149, q_ln150, q_ld150, q_st150, q_ln151, q_ld151, q_st151, q_ln152, q_ld152, q_st152, q_ln153, q_ld153, q_st153, q_ln154, q_ld154, q_st154, q_ln155, q_ld155, q_st155, rw_0, rw_1, rw_2, rw_3, rw_4, rw_5, rw_6, rw_7, rw_8, rw_9, rw_10, rs_0, rs_1, rs_2, rs_3, rs_4, rs_5, rs_6, rs_7, rs_8, rs_9, rs_10]
end V11
