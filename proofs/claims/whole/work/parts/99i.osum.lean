/-! ===== the reference reckons an order's sum ===== -/
section OSM
variable {σ : Hp} {nF nB nT fin : Nat} {R : Nat → Int32} {e : Env}
theorem guard_t {c lim base rb f : Nat} (hc : c ≤ lim) (hl : lim < 1000) (h : ∀ f, f < lim → e (base + f) = if f < c then R (rb + f) else -1) (hf : f < c) : (if 0 ≤ iN f ∧ iN f < iN lim then e (base + (iN f).toNatClampNeg) else -1) = R (rb + f) := by
  rw [if_pos ⟨Int32.not_lt.mp (iN_nn (by omega)), (iN_lt (by omega) (by omega)).mpr (by omega)⟩, iN_nat (by omega), h f (by omega), if_pos hf]
theorem guard_f {c lim base rb : Nat} {a : Int32} (hc : c ≤ lim) (hl : lim < 1000) (h : ∀ f, f < lim → e (base + f) = if f < c then R (rb + f) else -1) (ha : no a c) : (if 0 ≤ a ∧ a < iN lim then e (base + a.toNatClampNeg) else -1) = -1 := by
  by_cases q : 0 ≤ a ∧ a < iN lim
  · obtain ⟨f, hf, rfl⟩ := iN_of (x := a) (Int32.not_lt.mpr q.1)
    have lt : f < lim := (iN_lt hf (by omega)).mp q.2
    have ge : ¬ f < c := fun z => by
      rcases ha with w | w
      · exact iN_nn hf w
      · have := (iN_le (by omega) hf).mp w
        omega
    rw [if_pos q, iN_nat hf, h f lt, if_neg ge]
  · rw [if_neg q]
theorem Osrc (hS : SK σ) (h20 : zi σ 125 20 = 1) (h127 : zi σ 127 = R) (w1 : R 1 = iN nF) (w2 : R 2 = iN nB) (w3 : R 3 = iN nT) (hF : nF ≤ 4) (hB : nB ≤ 3) (hT : nT ≤ 6)
    (he : ∀ k, k < 5 → zj σ 144 (k + 1) = Int32.toInt64 (e k)) (ef : ∀ f, f < 4 → e (5 + f) = if f < nF then R (17 + f) else -1) (eb : ∀ f, f < 3 → e (9 + f) = if f < nB then R (21 + f) else -1) (et : ∀ f, f < 6 → e (12 + f) = if f < nT then R (24 + f) else -1) (hfin : fin ≤ 400) : Src (zsi σ 125 38 0) (zi σ 136) (zi σ 137) (lfO e) fin := by
  intro σ1 hA h38 k l hk hl
  have hS1 : SK σ1 := SK.ag (σ := zsi σ 125 38 0) hS hA
  have cell : ∀ a, a ≠ 145 → a ≠ 125 → zi σ1 a = zi σ a := fun a h1 h2 => funext fun i => (hA.2.2.2.2 a i (by rintro (h | ⟨h, -⟩) <;> omega)).1.trans (congrFun (zi_ne (by omega)) i)
  have a127 : zi σ1 127 = R := (cell 127 (by decide) (by decide)).trans h127
  have a20 : zi σ1 125 20 = 1 := ((hA.2.2.2.2 125 20 (by rintro (h | ⟨-, h | h⟩) <;> omega)).1.trans (zi_miss (by decide))).trans h20
  have a144 : ∀ i, zj σ1 144 i = zj σ 144 i := fun i => (hA.2.2.2.2 144 i (by rintro (h | ⟨h, -⟩) <;> omega)).2
  have f1 : ¬ iN fin ≤ iN k := (fun h => absurd ((iN_le (by omega) (by omega)).mp h) (by omega))
  have b38 := q_i125 (k := 38) hS1
  have b20 := q_i125 (k := 20) hS1
  have b24 := q_r125_24 hS1
  have b25 := q_r125_25 hS1
  have b36 := q_r125_36 hS1
  have b37 := q_r125_37 hS1
  have b3 := q_r125_3 hS1
  have bk := q_ck125 hS1
  rw [h38] at b38
  rw [a20] at b20
  have l1 := q_ld136 (n := k) (by omega) hS1
  rw [cell 136 (by decide) (by decide)] at l1
  have l2 := q_ld137 (n := k) (by omega) hS1
  rw [cell 137 (by decide) (by decide)] at l2
  have i3 : iN l + 1 = iN (l + 1) := iN_add _ 1
  have i4 : iN k + 1 = iN (k + 1) := iN_add _ 1
  constructor
  · simp only [s_X9_reckonAll_b10, s_X9_reckonAll_j57, f1, b38, b20, b24, b25, l1, l2, z10', if_true, if_false, bos]
  · intro c1 c2 c3
    obtain ⟨o, ho, eo⟩ := iN_lt_of c2 (m := 10) c3 (by decide)
    rw [eo]
    generalize zi σ 137 k = a
    have g20 : ¬ (20 : Int32) ≤ iN o := fun q => absurd ((iN_le (a := 20) (by decide) (by omega)).mp q) (by omega)
    have s1 := fun v => q_st145 (n := l) (v := v) hl hS1
    by_cases o0 : o = 0
    · subst o0
      have e0 : lfO e (iN 0) a = Int32.toInt64 a := rfl
      have q0 : (iN 0 = 0) = True := eq_true rfl
      rw [e0]
      simp only [s_X9_reckonAll_j95, s_X9_reckonAll_j251, s_X9_reckonAll_j397, g20, q0, b37, s1, i3, i4, if_true, if_false, bos]
    · have n0 : ¬ iN o = 0 := fun q => o0 ((iN_inj (b := 0) (by omega) (by decide)).mp q)
      by_cases o6 : o < 6
      · have g6 : ¬ (6 : Int32) ≤ iN o := fun q => absurd ((iN_le (a := 6) (by decide) (by omega)).mp q) (by omega)
        have l3 : ldJ σ1 144 (iN o) = some (Int32.toInt64 (e (o - 1))) := (q_ld144 (by omega) hS1).trans (by
          rw [a144, show o = (o - 1) + 1 by omega, he _ (by omega)]
          rfl)
        have e1 : lfO e (iN o) a = Int32.toInt64 (e (o - 1)) := lf_word (lw := false) (by omega) (by omega) (Or.inr o6)
        rw [e1]
        simp only [s_X9_reckonAll_j95, s_X9_reckonAll_j251, s_X9_reckonAll_j397, g20, n0, g6, b37, b20, b36, l3, s1, i3, i4, z10', if_true, if_false, bos]
      · have g6 : (6 : Int32) ≤ iN o := (iN_le (a := 6) (by decide) (by omega)).mpr (by omega)
        have n6 : ¬ iN o < 6 := Int32.not_lt.mpr g6
        have el : lfO e (iN o) a = if iN o = 6 then Int32.toInt64 (if 0 ≤ a ∧ a < 4 then e (5 + a.toNatClampNeg) else -1) else if iN o = 7 then Int32.toInt64 (if 0 ≤ a ∧ a < 3 then e (9 + a.toNatClampNeg) else -1) else Int32.toInt64 (if 0 ≤ a ∧ a < 6 then e (12 + a.toNatClampNeg) else -1) := by
          show (if iN o = 0 then _ else if iN o < 6 then _ else _) = _
          rw [if_neg n0, if_neg n6]
        rw [el]
        by_cases q6 : o = 6
        · have q6' : (iN o = 6) = True := eq_true (by rw [q6]; rfl)
          simp only [q6', if_true]
          rcases nx a (c := nF) (by omega) with ⟨f, hf, rfl⟩ | hx
          · have gt : (if 0 ≤ iN f ∧ iN f < 4 then e (5 + (iN f).toNatClampNeg) else -1) = R (17 + f) := guard_t hF (by decide) ef hf
            have fk := fk9_t hS1 (by rw [a127]; exact w1) (by omega) hf
            have l17 : ldI 11 σ1 127 (17 + iN f) = some (R (17 + f)) := by
              rw [show (17 : Int32) = iN 17 from rfl, iN_add, q_ld127 (by omega) hS1, a127]
            rw [gt]
            simp only [s_X9_reckonAll_j95, s_X9_reckonAll_j187, s_X9_reckonAll_j251, s_X9_reckonAll_j397, g20, n0, g6, q6', b37, b20, bk, fk, b3, l17, s1, i3, i4, z10', if_true, if_false, bos, cbs]
          · have gt : (if 0 ≤ a ∧ a < 4 then e (5 + a.toNatClampNeg) else -1) = -1 := guard_f hF (by decide) ef hx
            have fk := fk9_f hS1 (by rw [a127]; exact w1) (by omega) hx
            rw [gt]
            simp only [s_X9_reckonAll_j95, s_X9_reckonAll_j187, s_X9_reckonAll_j251, s_X9_reckonAll_j397, g20, n0, g6, q6', b37, b20, bk, fk, s1, i3, i4, z10', if_true, if_false, bos, cbs]
        · have q6' : ¬ iN o = 6 := fun z => q6 ((iN_inj (b := 6) (by omega) (by decide)).mp z)
          by_cases q7 : o = 7
          · have q7' : (iN o = 7) = True := eq_true (by rw [q7]; rfl)
            simp only [q6', q7', if_true, if_false]
            rcases nx a (c := nB) (by omega) with ⟨f, hf, rfl⟩ | hx
            · have gt : (if 0 ≤ iN f ∧ iN f < 3 then e (9 + (iN f).toNatClampNeg) else -1) = R (21 + f) := guard_t hB (by decide) eb hf
              have fk := bg9_t hS1 (by rw [a127]; exact w2) (by omega) hf
              have l17 : ldI 11 σ1 127 (21 + iN f) = some (R (21 + f)) := by
                rw [show (21 : Int32) = iN 21 from rfl, iN_add, q_ld127 (by omega) hS1, a127]
              rw [gt]
              simp only [s_X9_reckonAll_j95, s_X9_reckonAll_j221, s_X9_reckonAll_j251, s_X9_reckonAll_j397, g20, n0, g6, q6', q7', b37, b20, bk, fk, b3, l17, s1, i3, i4, z10', if_true, if_false, bos, cbs]
            · have gt : (if 0 ≤ a ∧ a < 3 then e (9 + a.toNatClampNeg) else -1) = -1 := guard_f hB (by decide) eb hx
              have fk := bg9_f hS1 (by rw [a127]; exact w2) (by omega) hx
              rw [gt]
              simp only [s_X9_reckonAll_j95, s_X9_reckonAll_j221, s_X9_reckonAll_j251, s_X9_reckonAll_j397, g20, n0, g6, q6', q7', b37, b20, bk, fk, s1, i3, i4, z10', if_true, if_false, bos, cbs]
          · have q7' : ¬ iN o = 7 := fun z => q7 ((iN_inj (b := 7) (by omega) (by decide)).mp z)
            simp only [q6', q7', if_false]
            rcases nx a (c := nT) (by omega) with ⟨f, hf, rfl⟩ | hx
            · have gt : (if 0 ≤ iN f ∧ iN f < 6 then e (12 + (iN f).toNatClampNeg) else -1) = R (24 + f) := guard_t hT (by decide) et hf
              have fk := th9_t hS1 (by rw [a127]; exact w3) (by omega) hf
              have l17 : ldI 11 σ1 127 (24 + iN f) = some (R (24 + f)) := by
                rw [show (24 : Int32) = iN 24 from rfl, iN_add, q_ld127 (by omega) hS1, a127]
              rw [gt]
              simp only [s_X9_reckonAll_j95, s_X9_reckonAll_j251, s_X9_reckonAll_j397, g20, n0, g6, q6', q7', b37, b20, bk, fk, b3, l17, s1, i3, i4, z10', if_true, if_false, bos, cbs]
            · have gt : (if 0 ≤ a ∧ a < 6 then e (12 + a.toNatClampNeg) else -1) = -1 := guard_f hT (by decide) et hx
              have fk := th9_f hS1 (by rw [a127]; exact w3) (by omega) hx
              have m1 : Int32.toInt64 (-1) = -1 := by decide
              rw [gt, m1]
              simp only [s_X9_reckonAll_j95, s_X9_reckonAll_j251, s_X9_reckonAll_j397, g20, n0, g6, q6', q7', b37, b20, bk, fk, s1, i3, i4, z10', if_true, if_false, bos, cbs]
end OSM
