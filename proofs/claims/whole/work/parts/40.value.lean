/-! ===== the class's reckoner ===== -/
section V8
theorem j140_ {z : Int64} {σ : Hp} : s_X5_joined_j140 z σ = some ((if 1000000000 < z ∨ z < -1000000000 then none else some z : Option Int64).getD 9000000000, σ) := by
  unfold s_X5_joined_j140
  simp only [lg_cmp_gt, lg_cmp_ge]
  by_cases h1 : (1000000000 : Int64) < z
  · rw [if_pos h1, if_pos (Or.inl h1)]
    rfl
  · rw [if_neg h1]
    by_cases h2 : (-1000000000 : Int64) ≤ z
    · rw [if_pos h2, if_neg]
      · rfl
      · rintro (h | h)
        · exact h1 h
        · exact absurd h (Int64.not_lt.mpr h2)
    · rw [if_neg h2, if_pos (Or.inr (Int64.not_le.mp h2))]
      rfl
theorem joined8 {o : Nat} (h1 : 2 ≤ o) (h2 : o < 10) {x y : Int64} {σ : Hp} : s_X5_joined (iN o) x y σ = some ((jo (o - 2) x y).getD 9000000000, σ) := by
  have ho : o = 2 ∨ o = 3 ∨ o = 4 ∨ o = 5 ∨ o = 6 ∨ o = 7 ∨ o = 8 ∨ o = 9 := by omega
  unfold s_X5_joined
  rcases ho with rfl | rfl | rfl | rfl | rfl | rfl | rfl | rfl
  · rw [if_pos (by decide), j140_]
    rfl
  · rw [if_neg (by decide), if_pos (by decide), j140_]
    rfl
  · rw [if_neg (by decide), if_neg (by decide), if_pos (by decide), j140_]
    rfl
  · rw [if_neg (by decide), if_neg (by decide), if_neg (by decide), if_pos (by decide)]
    simp only [lg_cmp_eq]
    by_cases hy : y = 0
    · rw [if_pos hy]
      simp [jo, hy]
    · rw [if_neg hy, zne, if_neg hy, Option.bind_some, j140_]
      simp only [jo, hy, if_false, Option.bind_some, Nat.reduceSub]
  · rw [if_neg (by decide), if_neg (by decide), if_neg (by decide), if_neg (by decide), if_pos (by decide)]
    simp only [lg_cmp_eq]
    by_cases hy : y = 0
    · rw [if_pos hy]
      simp [jo, hy]
    · rw [if_neg hy, zne, if_neg hy, Option.bind_some, j140_]
      simp only [jo, hy, if_false, Option.bind_some, Nat.reduceSub]
  · rw [if_neg (by decide), if_neg (by decide), if_neg (by decide), if_neg (by decide), if_neg (by decide), if_pos (by decide)]
    simp only [lg_cmp_ge]
    by_cases hy : x < y
    · rw [if_neg (Int64.not_le.mpr hy)]
      simp only [jo, hy, if_true, Option.bind_some, Nat.reduceSub]
      rfl
    · rw [if_pos (Int64.not_lt.mp hy)]
      simp only [jo, hy, if_false, Option.bind_some, Nat.reduceSub]
      rfl
  · rw [if_neg (by decide), if_neg (by decide), if_neg (by decide), if_neg (by decide), if_neg (by decide), if_neg (by decide), if_pos (by decide)]
    simp only [lg_cmp_le]
    by_cases hy : y < x
    · rw [if_neg (Int64.not_le.mpr hy)]
      simp only [jo, hy, if_true, Option.bind_some, Nat.reduceSub]
      rfl
    · rw [if_pos (Int64.not_lt.mp hy)]
      simp only [jo, hy, if_false, Option.bind_some, Nat.reduceSub]
      rfl
  · rw [if_neg (by decide), if_neg (by decide), if_neg (by decide), if_neg (by decide), if_neg (by decide), if_neg (by decide), if_neg (by decide)]
    simp only [lg_cmp_eq]
    by_cases hy : x = y
    · rw [if_pos hy]
      simp only [jo, hy, if_true, Option.bind_some, Nat.reduceSub]
      rfl
    · rw [if_neg hy]
      simp only [jo, hy, if_false, Option.bind_some, Nat.reduceSub]
      rfl
/-- what comes of a step is within bounds -/
def sm (z : Int64) : Prop := -2147483648 ≤ z.toInt ∧ z.toInt < 2147483648
theorem sm_32 (x : Int32) : sm (Int32.toInt64 x) := by
  unfold sm
  rw [l64]
  exact ⟨Int32.le_toInt x, Int32.toInt_lt x⟩
theorem sm_ne {z : Int64} (h : sm z) : z ≠ 9000000000 := by
  rintro rfl
  exact absurd h.2 (by decide)
theorem jo_sm {o : Nat} {x y z : Int64} (h : jo o x y = some z) : sm z := by
  unfold jo at h
  obtain ⟨w, -, h2⟩ := Option.bind_eq_some_iff.mp h
  by_cases c : 1000000000 < w ∨ w < -1000000000
  · rw [if_pos c] at h2
    cases h2
  · rw [if_neg c] at h2
    cases h2
    have c1 : z ≤ 1000000000 := Int64.not_lt.mp (fun q => c (Or.inl q))
    have c2 : -1000000000 ≤ z := Int64.not_lt.mp (fun q => c (Or.inr q))
    have d1 := Int64.le_iff_toInt_le.mp c1
    have d2 := Int64.le_iff_toInt_le.mp c2
    have e1 : (1000000000 : Int64).toInt = 1000000000 := by decide
    have e2 : (-1000000000 : Int64).toInt = -1000000000 := by decide
    exact ⟨by omega, by omega⟩
/-- only longs of cell p have changed -/
def AJ (p : Nat) (σ σ1 : Hp) : Prop := zn σ1 = zn σ ∧ zk σ1 = zk σ ∧ zl σ1 = zl σ ∧ zi σ1 = zi σ ∧ zr σ1 = zr σ ∧ ∀ c, c ≠ p → zj σ1 c = zj σ c
theorem AJ.refl {p : Nat} {σ : Hp} : AJ p σ σ := ⟨rfl, rfl, rfl, rfl, rfl, fun _ _ => rfl⟩
theorem AJ.trans {p : Nat} {σ1 σ2 σ3 : Hp} (h1 : AJ p σ1 σ2) (h2 : AJ p σ2 σ3) : AJ p σ1 σ3 :=
  ⟨h2.1.trans h1.1, h2.2.1.trans h1.2.1, h2.2.2.1.trans h1.2.2.1, h2.2.2.2.1.trans h1.2.2.2.1, h2.2.2.2.2.1.trans h1.2.2.2.2.1, fun c hc => (h2.2.2.2.2.2 c hc).trans (h1.2.2.2.2.2 c hc)⟩
theorem AJ.zsj {p k : Nat} {σ : Hp} {v : Int64} : AJ p σ (zsj σ p k v) := ⟨rfl, rfl, rfl, rfl, rfl, fun _ hc => zj_ne hc⟩
theorem AJ.ag {p : Nat} {σ σ1 : Hp} {S : Nat → Nat → Prop} (h : AJ p σ σ1) (hs : ∀ k, S p k) : Ag S σ σ1 :=
  ⟨h.1, h.2.1, h.2.2.1, h.2.2.2.2.1, fun a k hn => ⟨by rw [h.2.2.2.1], by rw [h.2.2.2.2.2 a (fun e => hn (e ▸ hs k))]⟩⟩
/-- a reckoner at r: its words at w, its pile at p -/
def RK (r w p : Nat) (σ : Hp) : Prop := zk σ r = 5 ∧ zr σ r 0 = some w ∧ zr σ r 1 = some p ∧ zk σ w = 11 ∧ zl σ w = 18 ∧ zk σ p = 12 ∧ zl σ p = 64
theorem RK.aj {r w p : Nat} {σ σ1 : Hp} (h : RK r w p σ) (e : AJ p σ σ1) : RK r w p σ1 := by
  unfold RK at *
  rw [e.2.1, e.2.2.1, e.2.2.2.2.1]
  exact h
theorem RK.ag {r w p : Nat} {σ σ1 : Hp} {S : Nat → Nat → Prop} (h : RK r w p σ) (e : Ag S σ σ1) : RK r w p σ1 := by
  unfold RK at *
  rw [e.2.1, e.2.2.1, e.2.2.2.1]
  exact h
def Pl (p : Nat) (σ : Hp) : List Int64 → Prop
  | [] => True
  | x :: r => zj σ p r.length = x ∧ Pl p σ r
theorem Pl.set {p k : Nat} {σ : Hp} {v : Int64} : ∀ {st : List Int64}, Pl p σ st → st.length ≤ k → Pl p (zsj σ p k v) st
  | [], _, _ => trivial
  | x :: r, h, hk => by
    have hk2 : r.length + 1 ≤ k := hk
    exact ⟨(zj_miss (by omega)).trans h.1, Pl.set h.2 (by omega)⟩
theorem Pl.push {p : Nat} {σ : Hp} {st : List Int64} {v : Int64} (h : Pl p σ st) : Pl p (zsj σ p st.length v) (v :: st) := ⟨zj_hit, h.set (Nat.le_refl _)⟩
theorem k10a : ((10 : Int32) = 0) = False := by decide
theorem k10b : ((10 : Int32) = 1) = False := by decide
theorem k10c : ((10 : Int32) < 10) = False := by decide
theorem k11a : ((11 : Int32) = 0) = False := by decide
theorem k11b : ((11 : Int32) = 1) = False := by decide
theorem k11c : ((11 : Int32) < 10) = False := by decide
theorem k11d : ((11 : Int32) = 10) = False := by decide
theorem nat_neg {x : Int32} (h : x < 0) : x.toNatClampNeg = 0 := by
  have : x.toInt < 0 := Int32.lt_iff_toInt_lt.mp h
  show x.toInt.toNat = 0
  omega
theorem kk_m1_0 : (((-1) : Int32) = 0) = False := by decide
theorem kk_m1_1 : (((-1) : Int32) = 1) = False := by decide
theorem kk_m1_2 : (((-1) : Int32) = 2) = False := by decide
theorem kk_m1_3 : (((-1) : Int32) = 3) = False := by decide
theorem kk_m1_4 : (((-1) : Int32) = 4) = False := by decide
theorem kk_0_m1 : ((0 : Int32) = (-1)) = False := by decide
theorem kk_0_1 : ((0 : Int32) = 1) = False := by decide
theorem kk_0_2 : ((0 : Int32) = 2) = False := by decide
theorem kk_0_3 : ((0 : Int32) = 3) = False := by decide
theorem kk_0_4 : ((0 : Int32) = 4) = False := by decide
theorem kk_1_m1 : ((1 : Int32) = (-1)) = False := by decide
theorem kk_1_0 : ((1 : Int32) = 0) = False := by decide
theorem kk_1_2 : ((1 : Int32) = 2) = False := by decide
theorem kk_1_3 : ((1 : Int32) = 3) = False := by decide
theorem kk_1_4 : ((1 : Int32) = 4) = False := by decide
theorem kk_2_m1 : ((2 : Int32) = (-1)) = False := by decide
theorem kk_2_0 : ((2 : Int32) = 0) = False := by decide
theorem kk_2_1 : ((2 : Int32) = 1) = False := by decide
theorem kk_2_3 : ((2 : Int32) = 3) = False := by decide
theorem kk_2_4 : ((2 : Int32) = 4) = False := by decide
theorem kk_3_m1 : ((3 : Int32) = (-1)) = False := by decide
theorem kk_3_0 : ((3 : Int32) = 0) = False := by decide
theorem kk_3_1 : ((3 : Int32) = 1) = False := by decide
theorem kk_3_2 : ((3 : Int32) = 2) = False := by decide
theorem kk_3_4 : ((3 : Int32) = 4) = False := by decide
theorem kk_4_m1 : ((4 : Int32) = (-1)) = False := by decide
theorem kk_4_0 : ((4 : Int32) = 0) = False := by decide
theorem kk_4_1 : ((4 : Int32) = 1) = False := by decide
theorem kk_4_2 : ((4 : Int32) = 2) = False := by decide
theorem kk_4_3 : ((4 : Int32) = 3) = False := by decide
section VB
variable {r w p a L fin i : Nat} {σ : Hp} {st : List Int64}
theorem and15 (x : Int32) : ∃ o, o < 16 ∧ x &&& 15 = iN o := by
  have h1 : (x &&& 15).toBitVec.toNat ≤ 15 := by
    rw [Int32.toBitVec_and, show (15 : Int32).toBitVec = 15#32 from rfl, BitVec.toNat_and]
    exact Nat.and_le_right
  exact ⟨(x &&& 15).toBitVec.toNat, by omega, (Int32.ofNat_bitVecToNat (x &&& 15).toBitVec).symm⟩
theorem rk_p (h : RK r w p σ) : rdR 5 σ r 1 = some (some p) := (rdR_t h.1).trans (congrArg some h.2.2.1)
theorem rk_w (h : RK r w p σ) : rdR 5 σ r 0 = some (some w) := (rdR_t h.1).trans (congrArg some h.2.1)
theorem rk_ck (h : RK r w p σ) : ck 5 σ r = some () := ck_t h.1
theorem rk_lp (h : RK r w p σ) : lnA 12 σ p = some (iN 64) := (if_pos h.2.2.2.2.2.1).trans (congrArg (fun n => some (Int32.ofNat n)) h.2.2.2.2.2.2)
theorem rk_lw (h : RK r w p σ) : lnA 11 σ w = some (iN 18) := (if_pos h.2.2.2.1).trans (congrArg (fun n => some (Int32.ofNat n)) h.2.2.2.2.1)
theorem rk_ldp (h : RK r w p σ) {n : Nat} (hn : n < 64) : ldJ σ p (iN n) = some (zj σ p n) := ldJ_n h.2.2.2.2.2.1 h.2.2.2.2.2.2 hn (by decide)
theorem rk_stp (h : RK r w p σ) {n : Nat} {v : Int64} (hn : n < 64) : stJ σ p (iN n) v = some (zsj σ p n v) := stJ_n h.2.2.2.2.2.1 h.2.2.2.2.2.2 hn (by decide)
theorem rk_ldw (h : RK r w p σ) {n : Nat} (hn : n < 18) : ldI 11 σ w (iN n) = some (zi σ w n) := ldI_n h.2.2.2.1 h.2.2.2.2.1 hn (by decide)
theorem rk_stw (h : RK r w p σ) {n : Nat} {v : Int32} (hn : n < 18) : stI σ w (iN n) v = some (zsi σ w n v) := stI_n h.2.2.2.1 h.2.2.2.2.1 hn (by decide)
theorem iN_dec {n : Nat} (h : 1 ≤ n) : iN n + (-1) = iN (n - 1) := by
  rw [show (-1 : Int32) = -1 from rfl, ← Int32.sub_eq_add_neg, show (1 : Int32) = iN 1 from rfl, iN_sub h]
theorem shr_int (x : Int32) : (x >>> 4).toInt = x.toInt / 16 := by
  show (x.toBitVec.sshiftRight' ((4 : Int32).toBitVec.smod 32)).toInt = _
  rw [BitVec.toInt_sshiftRight', show ((4 : Int32).toBitVec.smod 32).toNat = 4 by decide, Int.shiftRight_eq_div_pow]
  rfl
theorem shr4 (x : Int32) (h : ¬ x >>> 4 < 0) : ∃ n, n < 134217728 ∧ x >>> 4 = iN n := by
  obtain ⟨n, hn, e⟩ := iN_of h
  refine ⟨n, ?_, e⟩
  have h2 := congrArg Int32.toInt e
  rw [iN_int hn, shr_int] at h2
  have h3 := Int32.toInt_lt x
  omega
/-- one step of the class's reckoner -/
theorem vb_step (h : RK r w p σ) (hp : Pl p σ st) (h64 : st.length ≤ 64) (ha : zk σ a = 11) (hl : zl σ a = L) (hL : L ≤ 600) (hf : fin ≤ L) (hi : i < fin) :
    ∃ x σ1, s_X5_value_b10 r (some a) (iN fin) (iN st.length) (iN i) σ = some (x, σ1) ∧ AJ p σ σ1 ∧ ((cStep (zi σ a) (zi σ w) i st = none ∧ x = Sum.inr (Sum.inr 9000000000)) ∨ ∃ i2 st2, cStep (zi σ a) (zi σ w) i st = some (i2, st2) ∧ i < i2 ∧ i2 < 134217729 ∧ x = Sum.inl (r, some a, iN fin, iN st2.length, iN i2) ∧ Pl p σ1 st2 ∧ st2.length ≤ 64 ∧ ((∀ v ∈ st, sm v) → ∀ v ∈ st2, sm v)) := by
  have f1 : ¬ iN fin ≤ iN i := (fun h => absurd ((iN_le (by omega) (by omega)).mp h) (by omega))
  have f2 : ¬ iN L ≤ iN i := (fun h => absurd ((iN_le (by omega) (by omega)).mp h) (by omega))
  have f3 : lnA 11 σ a = some (iN L) := (if_pos ha).trans (congrArg (fun n => some (Int32.ofNat n)) hl)
  have f4 : ldI 11 σ a (iN i) = some (zi σ a i) := ldI_n ha hl (by omega) (by omega)
  have f5 : (4 : Int32) &&& 31 = 4 := by decide
  have f6 : iN i + 1 = iN (i + 1) := iN_add i 1
  have f7 : iN st.length + 1 = iN (st.length + 1) := iN_add _ 1
  have e1 := rk_p h
  have e2 := rk_w h
  have e3 := rk_lp h
  have e4 := rk_lw h
  obtain ⟨o, ho, eo⟩ := and15 (zi σ a i)
  unfold cStep
  rw [eo]
  by_cases o0 : o = 0
  · subst o0
    have g0 : iN 0 = (0 : Int32) := rfl
    by_cases c : st.length < 64
    · have c1 : ¬ iN 64 ≤ iN st.length := (fun h => absurd ((iN_le (by omega) (by omega)).mp h) (by omega))
      have c2 := rk_stp h (v := Int32.toInt64 (zi σ a i >>> 4)) c
      refine ⟨_, zsj σ p st.length (Int32.toInt64 (zi σ a i >>> 4)), ?_, AJ.zsj, Or.inr ⟨i + 1, Int32.toInt64 (zi σ a i >>> 4) :: st, ?_, by omega, by omega, rfl, hp.push, ?_, ?_⟩⟩
      · simp only [s_X5_value_b10, s_X5_value_j51, s_X5_value_j86, s_X5_value_j114, s_X5_value_j285, f1, f2, f3, f4, f5, f6, f7, e1, e3, eo, g0, c1, c2, if_true, if_false, kk_m1_0, kk_m1_1, kk_m1_2, kk_m1_3, kk_m1_4, kk_0_m1, kk_0_1, kk_0_2, kk_0_3, kk_0_4, kk_1_m1, kk_1_0, kk_1_2, kk_1_3, kk_1_4, kk_2_m1, kk_2_0, kk_2_1, kk_2_3, kk_2_4, kk_3_m1, kk_3_0, kk_3_1, kk_3_2, kk_3_4, kk_4_m1, kk_4_0, kk_4_1, kk_4_2, kk_4_3, bind_ok, Option.bind_some, List.length_cons]
      · rw [if_pos g0, if_pos c]
      · exact c
      · intro q v hv
        rcases List.mem_cons.mp hv with rfl | hv
        · exact sm_32 _
        · exact q v hv
    · have c1 : iN 64 ≤ iN st.length := ((iN_le (by omega) (by omega)).mpr (by omega))
      refine ⟨_, σ, ?_, AJ.refl, Or.inl ⟨?_, rfl⟩⟩
      · simp only [s_X5_value_b10, s_X5_value_j51, f1, f2, f3, f4, f5, e1, e3, eo, g0, c1, if_true, if_false, kk_m1_0, kk_m1_1, kk_m1_2, kk_m1_3, kk_m1_4, kk_0_m1, kk_0_1, kk_0_2, kk_0_3, kk_0_4, kk_1_m1, kk_1_0, kk_1_2, kk_1_3, kk_1_4, kk_2_m1, kk_2_0, kk_2_1, kk_2_3, kk_2_4, kk_3_m1, kk_3_0, kk_3_1, kk_3_2, kk_3_4, kk_4_m1, kk_4_0, kk_4_1, kk_4_2, kk_4_3, bind_ok, Option.bind_some]
      · rw [if_pos g0, if_neg c]
  have n0 : ¬ iN o = 0 := fun q => o0 ((iN_inj (b := 0) (by omega) (by omega)).mp q)
  by_cases o1 : o = 1
  · subst o1
    have g1 : iN 1 = (1 : Int32) := rfl
    rw [if_neg n0, if_pos g1]
    by_cases c : st.length < 64
    · have c1 : ¬ iN 64 ≤ iN st.length := (fun h => absurd ((iN_le (by omega) (by omega)).mp h) (by omega))
      by_cases d1 : zi σ a i >>> 4 < 0
      · refine ⟨_, σ, ?_, AJ.refl, Or.inl ⟨if_neg (fun q => q.2.1 d1), rfl⟩⟩
        simp only [s_X5_value_b10, s_X5_value_j51, f1, f2, f3, f4, f5, e1, e3, eo, g1, c1, d1, if_true, if_false, kk_m1_0, kk_m1_1, kk_m1_2, kk_m1_3, kk_m1_4, kk_0_m1, kk_0_1, kk_0_2, kk_0_3, kk_0_4, kk_1_m1, kk_1_0, kk_1_2, kk_1_3, kk_1_4, kk_2_m1, kk_2_0, kk_2_1, kk_2_3, kk_2_4, kk_3_m1, kk_3_0, kk_3_1, kk_3_2, kk_3_4, kk_4_m1, kk_4_0, kk_4_1, kk_4_2, kk_4_3, bind_ok, Option.bind_some]
      obtain ⟨n, hn, en⟩ := shr4 _ d1
      rw [en]
      have d1b : ¬ iN n < 0 := iN_nn (by omega)
      by_cases d2 : n < 18
      · have d3 : iN n < iN 18 := (iN_lt (b := (18)) (by omega) (by omega)).mpr (by omega)
        have d4 : iN n < (18 : Int32) := d3
        have c2 := rk_stp h (v := Int32.toInt64 (zi σ w n)) c
        have c3 := rk_ldw h d2
        rw [if_pos ⟨c, d1b, d4⟩, iN_nat (by omega)]
        refine ⟨_, zsj σ p st.length (Int32.toInt64 (zi σ w n)), ?_, AJ.zsj, Or.inr ⟨i + 1, _, rfl, by omega, by omega, rfl, hp.push, c, ?_⟩⟩
        · simp only [s_X5_value_b10, s_X5_value_j51, s_X5_value_j86, s_X5_value_j114, s_X5_value_j285, f1, f2, f3, f4, f5, f6, f7, e1, e2, e3, e4, eo, en, g1, c1, c2, c3, d1b, d3, if_true, if_false, kk_m1_0, kk_m1_1, kk_m1_2, kk_m1_3, kk_m1_4, kk_0_m1, kk_0_1, kk_0_2, kk_0_3, kk_0_4, kk_1_m1, kk_1_0, kk_1_2, kk_1_3, kk_1_4, kk_2_m1, kk_2_0, kk_2_1, kk_2_3, kk_2_4, kk_3_m1, kk_3_0, kk_3_1, kk_3_2, kk_3_4, kk_4_m1, kk_4_0, kk_4_1, kk_4_2, kk_4_3, bind_ok, Option.bind_some, List.length_cons]
        · intro q v hv
          rcases List.mem_cons.mp hv with rfl | hv
          · exact sm_32 _
          · exact q v hv
      · have d3 : ¬ iN n < iN 18 := fun h => absurd ((iN_lt (b := (18)) (by omega) (by omega)).mp h) (by omega)
        refine ⟨_, σ, ?_, AJ.refl, Or.inl ⟨if_neg (fun q => d3 q.2.2), rfl⟩⟩
        simp only [s_X5_value_b10, s_X5_value_j51, f1, f2, f3, f4, f5, e1, e2, e3, e4, eo, en, g1, c1, d1b, d3, if_true, if_false, kk_m1_0, kk_m1_1, kk_m1_2, kk_m1_3, kk_m1_4, kk_0_m1, kk_0_1, kk_0_2, kk_0_3, kk_0_4, kk_1_m1, kk_1_0, kk_1_2, kk_1_3, kk_1_4, kk_2_m1, kk_2_0, kk_2_1, kk_2_3, kk_2_4, kk_3_m1, kk_3_0, kk_3_1, kk_3_2, kk_3_4, kk_4_m1, kk_4_0, kk_4_1, kk_4_2, kk_4_3, bind_ok, Option.bind_some]
    · have c1 : iN 64 ≤ iN st.length := ((iN_le (by omega) (by omega)).mpr (by omega))
      refine ⟨_, σ, ?_, AJ.refl, Or.inl ⟨if_neg (fun q => c q.1), rfl⟩⟩
      simp only [s_X5_value_b10, s_X5_value_j51, f1, f2, f3, f4, f5, e1, e3, eo, g1, c1, if_true, if_false, kk_m1_0, kk_m1_1, kk_m1_2, kk_m1_3, kk_m1_4, kk_0_m1, kk_0_1, kk_0_2, kk_0_3, kk_0_4, kk_1_m1, kk_1_0, kk_1_2, kk_1_3, kk_1_4, kk_2_m1, kk_2_0, kk_2_1, kk_2_3, kk_2_4, kk_3_m1, kk_3_0, kk_3_1, kk_3_2, kk_3_4, kk_4_m1, kk_4_0, kk_4_1, kk_4_2, kk_4_3, bind_ok, Option.bind_some]
  have n1 : ¬ iN o = 1 := fun q => o1 ((iN_inj (b := 1) (by omega) (by omega)).mp q)
  rw [if_neg n0, if_neg n1]
  by_cases o9 : o < 10
  · have g9 : iN o < (10 : Int32) := (iN_lt (b := (10)) (by omega) (by omega)).mpr (by omega)
    rw [if_pos g9, iN_nat (by omega)]
    match st, hp, h64 with
    | [], _, _ =>
      have c1 : ¬ (2 : Int32) ≤ iN ([] : List Int64).length := by decide
      refine ⟨_, σ, ?_, AJ.refl, Or.inl ⟨rfl, rfl⟩⟩
      simp only [s_X5_value_b10, f1, f2, f3, f4, f5, eo, n0, n1, g9, c1, if_true, if_false, kk_m1_0, kk_m1_1, kk_m1_2, kk_m1_3, kk_m1_4, kk_0_m1, kk_0_1, kk_0_2, kk_0_3, kk_0_4, kk_1_m1, kk_1_0, kk_1_2, kk_1_3, kk_1_4, kk_2_m1, kk_2_0, kk_2_1, kk_2_3, kk_2_4, kk_3_m1, kk_3_0, kk_3_1, kk_3_2, kk_3_4, kk_4_m1, kk_4_0, kk_4_1, kk_4_2, kk_4_3, bind_ok, Option.bind_some]
    | [x], _, _ =>
      have c1 : ¬ (2 : Int32) ≤ iN ([x] : List Int64).length := by
        show ¬ (2 : Int32) ≤ iN 1
        decide
      refine ⟨_, σ, ?_, AJ.refl, Or.inl ⟨rfl, rfl⟩⟩
      simp only [s_X5_value_b10, f1, f2, f3, f4, f5, eo, n0, n1, g9, c1, if_true, if_false, kk_m1_0, kk_m1_1, kk_m1_2, kk_m1_3, kk_m1_4, kk_0_m1, kk_0_1, kk_0_2, kk_0_3, kk_0_4, kk_1_m1, kk_1_0, kk_1_2, kk_1_3, kk_1_4, kk_2_m1, kk_2_0, kk_2_1, kk_2_3, kk_2_4, kk_3_m1, kk_3_0, kk_3_1, kk_3_2, kk_3_4, kk_4_m1, kk_4_0, kk_4_1, kk_4_2, kk_4_3, bind_ok, Option.bind_some]
    | y :: x :: rs, hp, h64 =>
      have h64b : rs.length + 1 + 1 ≤ 64 := h64
      have c0 : (y :: x :: rs).length = rs.length + 2 := rfl
      have c1 : (2 : Int32) ≤ iN (rs.length + 2) := (iN_le (a := 2) (by omega) (by omega)).mpr (by omega)
      have c2 : iN (rs.length + 2) + (-1) = iN (rs.length + 1) := iN_dec (by omega)
      have c3 : iN (rs.length + 1) - 1 = iN rs.length := iN_sub (b := 1) (by omega)
      have p1 : zj σ p (rs.length + 1) = y := hp.1
      have p2 : zj σ p rs.length = x := hp.2.1
      have l1 := rk_ldp h (n := rs.length + 1) (by omega)
      have l2 := rk_ldp h (n := rs.length) (by omega)
      have jn := joined8 (o := o) (x := x) (y := y) (σ := σ) (by omega) o9
      have s2 := fun v => rk_stp h (n := rs.length) (v := v) (by omega)
      have k2 := fun v => rk_p (h.aj (AJ.zsj (p := p) (k := rs.length) (v := v)))
      have l3 := fun v => rk_ldp (h.aj (AJ.zsj (p := p) (k := rs.length) (v := v))) (n := rs.length) (by omega)
      cases hj : jo (o - 2) x y with
      | none =>
        rw [hj] at jn
        refine ⟨_, zsj σ p rs.length 9000000000, ?_, AJ.zsj, Or.inl ⟨by simp only [hj, Option.map_none], rfl⟩⟩
        simp only [s_X5_value_b10, f1, f2, f3, f4, f5, eo, n0, n1, g9, c0, c1, c2, c3, e1, l1, l2, p1, p2, jn, s2, k2, l3, zj_hit, lg_cmp_eq, cb_some, Option.getD_none, if_true, if_false, kk_m1_0, kk_m1_1, kk_m1_2, kk_m1_3, kk_m1_4, kk_0_m1, kk_0_1, kk_0_2, kk_0_3, kk_0_4, kk_1_m1, kk_1_0, kk_1_2, kk_1_3, kk_1_4, kk_2_m1, kk_2_0, kk_2_1, kk_2_3, kk_2_4, kk_3_m1, kk_3_0, kk_3_1, kk_3_2, kk_3_4, kk_4_m1, kk_4_0, kk_4_1, kk_4_2, kk_4_3, bind_ok, Option.bind_some]
      | some z =>
        rw [hj] at jn
        have hz : ¬ z = 9000000000 := sm_ne (jo_sm hj)
        refine ⟨_, zsj σ p rs.length z, ?_, AJ.zsj, Or.inr ⟨i + 1, z :: rs, by simp only [hj, Option.map_some], by omega, by omega, rfl, (hp.2.2).push, by simp only [List.length_cons]; omega, ?_⟩⟩
        · simp only [s_X5_value_b10, s_X5_value_j285, f1, f2, f3, f4, f5, f6, eo, n0, n1, g9, c0, c1, c2, c3, e1, l1, l2, p1, p2, jn, s2, k2, l3, zj_hit, hz, lg_cmp_eq, cb_some, Option.getD_some, if_true, if_false, kk_m1_0, kk_m1_1, kk_m1_2, kk_m1_3, kk_m1_4, kk_0_m1, kk_0_1, kk_0_2, kk_0_3, kk_0_4, kk_1_m1, kk_1_0, kk_1_2, kk_1_3, kk_1_4, kk_2_m1, kk_2_0, kk_2_1, kk_2_3, kk_2_4, kk_3_m1, kk_3_0, kk_3_1, kk_3_2, kk_3_4, kk_4_m1, kk_4_0, kk_4_1, kk_4_2, kk_4_3, bind_ok, Option.bind_some, List.length_cons]
        · intro q v hv
          rcases List.mem_cons.mp hv with rfl | hv
          · exact jo_sm hj
          · exact q v (List.mem_cons_of_mem _ (List.mem_cons_of_mem _ hv))
  · have g9 : ¬ iN o < (10 : Int32) := fun h => absurd ((iN_lt (b := (10)) (by omega) (by omega)).mp h) (by omega)
    rw [if_neg g9]
    match st, hp, h64 with
    | [], _, _ =>
      have c1 : ¬ (1 : Int32) ≤ iN ([] : List Int64).length := by decide
      refine ⟨_, σ, ?_, AJ.refl, Or.inl ⟨rfl, rfl⟩⟩
      simp only [s_X5_value_b10, f1, f2, f3, f4, f5, eo, n0, n1, g9, c1, if_true, if_false, kk_m1_0, kk_m1_1, kk_m1_2, kk_m1_3, kk_m1_4, kk_0_m1, kk_0_1, kk_0_2, kk_0_3, kk_0_4, kk_1_m1, kk_1_0, kk_1_2, kk_1_3, kk_1_4, kk_2_m1, kk_2_0, kk_2_1, kk_2_3, kk_2_4, kk_3_m1, kk_3_0, kk_3_1, kk_3_2, kk_3_4, kk_4_m1, kk_4_0, kk_4_1, kk_4_2, kk_4_3, bind_ok, Option.bind_some]
    | x :: rs, hp, h64 =>
      have h64b : rs.length + 1 ≤ 64 := h64
      have c0 : (x :: rs).length = rs.length + 1 := rfl
      have c1 : (1 : Int32) ≤ iN (rs.length + 1) := (iN_le (a := 1) (by omega) (by omega)).mpr (by omega)
      have c3 : iN (rs.length + 1) - 1 = iN rs.length := iN_sub (b := 1) (by omega)
      have c4 : iN (rs.length + 1) + (-1) = iN rs.length := iN_dec (by omega)
      have p2 : zj σ p rs.length = x := hp.1
      have l2 := rk_ldp h (n := rs.length) (by omega)
      have s2 := fun v => rk_stp h (n := rs.length) (v := v) (by omega)
      have z0 : ¬ (1 : Int32) = 0 := by decide
      by_cases o10 : o = 10
      · subst o10
        have g10 : iN 10 = (10 : Int32) := rfl
        refine ⟨_, zsj σ p rs.length (if x = 1 then 0 else 1), ?_, AJ.zsj, Or.inr ⟨i + 1, (if x = 1 then 0 else 1) :: rs, ?_, by omega, by omega, rfl, (hp.2).push, by simp only [List.length_cons]; omega, ?_⟩⟩
        · by_cases hx : x = 1
          · simp only [s_X5_value_b10, s_X5_value_j154, s_X5_value_j181, s_X5_value_j219, s_X5_value_j285, f1, f2, f3, f4, f5, f6, eo, k10a, k10b, k10c, g10, c0, c1, c3, e1, l2, p2, s2, hx, z0, lg_cmp_eq, if_true, if_false, kk_m1_0, kk_m1_1, kk_m1_2, kk_m1_3, kk_m1_4, kk_0_m1, kk_0_1, kk_0_2, kk_0_3, kk_0_4, kk_1_m1, kk_1_0, kk_1_2, kk_1_3, kk_1_4, kk_2_m1, kk_2_0, kk_2_1, kk_2_3, kk_2_4, kk_3_m1, kk_3_0, kk_3_1, kk_3_2, kk_3_4, kk_4_m1, kk_4_0, kk_4_1, kk_4_2, kk_4_3, bind_ok, Option.bind_some, List.length_cons]
          · simp only [s_X5_value_b10, s_X5_value_j154, s_X5_value_j181, s_X5_value_j219, s_X5_value_j285, f1, f2, f3, f4, f5, f6, eo, k10a, k10b, k10c, g10, c0, c1, c3, e1, l2, p2, s2, hx, lg_cmp_eq, if_true, if_false, kk_m1_0, kk_m1_1, kk_m1_2, kk_m1_3, kk_m1_4, kk_0_m1, kk_0_1, kk_0_2, kk_0_3, kk_0_4, kk_1_m1, kk_1_0, kk_1_2, kk_1_3, kk_1_4, kk_2_m1, kk_2_0, kk_2_1, kk_2_3, kk_2_4, kk_3_m1, kk_3_0, kk_3_1, kk_3_2, kk_3_4, kk_4_m1, kk_4_0, kk_4_1, kk_4_2, kk_4_3, bind_ok, Option.bind_some, List.length_cons]
        · simp only [g10, if_true]
        · intro q v hv
          rcases List.mem_cons.mp hv with rfl | hv
          · by_cases hx : x = 1
            · rw [if_pos hx]
              exact ⟨by decide, by decide⟩
            · rw [if_neg hx]
              exact ⟨by decide, by decide⟩
          · exact q v (List.mem_cons_of_mem _ hv)
      · have g10 : ¬ iN o = (10 : Int32) := fun q => o10 ((iN_inj (b := 10) (by omega) (by omega)).mp q)
        have hT : ∀ {j : Int32} (_ : j = (if iN i < zi σ a i >>> 4 - 1 then zi σ a i >>> 4 - 1 else iN i)), ∃ i2, i2 = max (i + 1) (zi σ a i >>> 4).toNatClampNeg ∧ i < i2 ∧ i2 < 134217729 ∧ j + 1 = iN i2 := by
          intro j hj
          refine ⟨_, rfl, by omega, ?_, ?_⟩
          · by_cases d1 : zi σ a i >>> 4 < 0
            · rw [nat_neg d1]
              omega
            · obtain ⟨n, hn, en⟩ := shr4 _ d1
              rw [en, iN_nat (by omega)]
              omega
          · by_cases d1 : zi σ a i >>> 4 < 0
            · rw [nat_neg d1, hj, if_neg, Nat.max_eq_left (by omega), f6]
              intro q
              have q1 := Int32.lt_iff_toInt_lt.mp q
              have q2 := Int32.lt_iff_toInt_lt.mp d1
              have q3 : -134217728 ≤ (zi σ a i >>> 4).toInt := by
                rw [shr_int]
                have := Int32.le_toInt (zi σ a i)
                omega
              rw [iN_int (by omega), Int32.toInt_sub, show (1 : Int32).toInt = 1 from rfl, show (0 : Int32).toInt = 0 from rfl] at *
              rw [Int.bmod_eq_of_le (by omega) (by omega)] at q1
              omega
            · obtain ⟨n, hn, en⟩ := shr4 _ d1
              rw [en] at hj ⊢
              rw [iN_nat (by omega)]
              by_cases n1 : n = 0
              · subst n1
                rw [hj, if_neg, Nat.max_eq_left (by omega), f6]
                intro q
                have q1 := Int32.lt_iff_toInt_lt.mp q
                rw [iN_int (by omega), show (iN 0 - 1).toInt = -1 by decide] at q1
                omega
              · rw [hj, show iN n - 1 = iN (n - 1) from iN_sub (b := 1) (by omega)]
                by_cases c : i < n - 1
                · rw [if_pos ((iN_lt (by omega) (by omega)).mpr c), show iN (n - 1) + 1 = iN (n - 1 + 1) from iN_add _ 1]
                  congr 1
                  omega
                · rw [if_neg (fun q => c ((iN_lt (by omega) (by omega)).mp q)), f6]
                  congr 1
                  omega
        obtain ⟨i2, ei2, hi2, hi3, ej⟩ := hT rfl
        have zt : ¬ (0 : Int32) = 1 := by decide
        simp only [g10, if_false]
        by_cases hc : (x = 1 ↔ iN o = 11)
        · refine ⟨_, σ, ?_, AJ.refl, Or.inr ⟨i2, x :: rs, by rw [if_pos hc, ei2], hi2, hi3, rfl, hp, h64, fun q => q⟩⟩
          by_cases hx : x = 1
          · have g11 := hc.mp hx
            simp only [s_X5_value_b10, s_X5_value_j154, s_X5_value_j199, s_X5_value_j219, s_X5_value_j285, f1, f2, f3, f4, f5, ej, eo, n0, n1, g9, g10, g11, k11a, k11b, k11c, k11d, c0, c1, c3, e1, l2, p2, hx, lg_cmp_eq, if_true, if_false, kk_m1_0, kk_m1_1, kk_m1_2, kk_m1_3, kk_m1_4, kk_0_m1, kk_0_1, kk_0_2, kk_0_3, kk_0_4, kk_1_m1, kk_1_0, kk_1_2, kk_1_3, kk_1_4, kk_2_m1, kk_2_0, kk_2_1, kk_2_3, kk_2_4, kk_3_m1, kk_3_0, kk_3_1, kk_3_2, kk_3_4, kk_4_m1, kk_4_0, kk_4_1, kk_4_2, kk_4_3, bind_ok, Option.bind_some, List.length_cons]
            first | done | simp only [show ¬ (11 : Int32) = 10 by decide, show ¬ (11 : Int32) = 1 by decide, show ¬ (11 : Int32) = 0 by decide, show ¬ (11 : Int32) < 10 by decide, if_true, if_false, kk_m1_0, kk_m1_1, kk_m1_2, kk_m1_3, kk_m1_4, kk_0_m1, kk_0_1, kk_0_2, kk_0_3, kk_0_4, kk_1_m1, kk_1_0, kk_1_2, kk_1_3, kk_1_4, kk_2_m1, kk_2_0, kk_2_1, kk_2_3, kk_2_4, kk_3_m1, kk_3_0, kk_3_1, kk_3_2, kk_3_4, kk_4_m1, kk_4_0, kk_4_1, kk_4_2, kk_4_3, ej]
          · have g11 : ¬ iN o = 11 := fun q => hx (hc.mpr q)
            simp only [s_X5_value_b10, s_X5_value_j154, s_X5_value_j199, s_X5_value_j219, s_X5_value_j285, f1, f2, f3, f4, f5, ej, eo, n0, n1, g9, g10, g11, k11a, k11b, k11c, k11d, c0, c1, c3, e1, l2, p2, hx, lg_cmp_eq, if_true, if_false, kk_m1_0, kk_m1_1, kk_m1_2, kk_m1_3, kk_m1_4, kk_0_m1, kk_0_1, kk_0_2, kk_0_3, kk_0_4, kk_1_m1, kk_1_0, kk_1_2, kk_1_3, kk_1_4, kk_2_m1, kk_2_0, kk_2_1, kk_2_3, kk_2_4, kk_3_m1, kk_3_0, kk_3_1, kk_3_2, kk_3_4, kk_4_m1, kk_4_0, kk_4_1, kk_4_2, kk_4_3, bind_ok, Option.bind_some, List.length_cons]
        · refine ⟨_, σ, ?_, AJ.refl, Or.inr ⟨i + 1, rs, if_neg hc, by omega, by omega, rfl, hp.2, by omega, fun q v hv => q v (List.mem_cons_of_mem _ hv)⟩⟩
          by_cases hx : x = 1
          · have g11 : ¬ iN o = 11 := fun q => hc ⟨fun _ => q, fun _ => hx⟩
            simp only [s_X5_value_b10, s_X5_value_j154, s_X5_value_j199, s_X5_value_j219, s_X5_value_j285, f1, f2, f3, f4, f5, f6, eo, n0, n1, g9, g10, g11, k11a, k11b, k11c, k11d, c0, c1, c3, c4, e1, l2, p2, hx, z0, zt, lg_cmp_eq, if_true, if_false, kk_m1_0, kk_m1_1, kk_m1_2, kk_m1_3, kk_m1_4, kk_0_m1, kk_0_1, kk_0_2, kk_0_3, kk_0_4, kk_1_m1, kk_1_0, kk_1_2, kk_1_3, kk_1_4, kk_2_m1, kk_2_0, kk_2_1, kk_2_3, kk_2_4, kk_3_m1, kk_3_0, kk_3_1, kk_3_2, kk_3_4, kk_4_m1, kk_4_0, kk_4_1, kk_4_2, kk_4_3, bind_ok, Option.bind_some, List.length_cons]
          · have g11 : iN o = 11 := Classical.byContradiction (fun q => hc ⟨fun e => absurd e hx, fun e => absurd e q⟩)
            simp only [s_X5_value_b10, s_X5_value_j154, s_X5_value_j199, s_X5_value_j219, s_X5_value_j285, f1, f2, f3, f4, f5, f6, eo, n0, n1, g9, g10, g11, k11a, k11b, k11c, k11d, c0, c1, c3, c4, e1, l2, p2, hx, z0, zt, lg_cmp_eq, if_true, if_false, kk_m1_0, kk_m1_1, kk_m1_2, kk_m1_3, kk_m1_4, kk_0_m1, kk_0_1, kk_0_2, kk_0_3, kk_0_4, kk_1_m1, kk_1_0, kk_1_2, kk_1_3, kk_1_4, kk_2_m1, kk_2_0, kk_2_1, kk_2_3, kk_2_4, kk_3_m1, kk_3_0, kk_3_1, kk_3_2, kk_3_4, kk_4_m1, kk_4_0, kk_4_1, kk_4_2, kk_4_3, bind_ok, Option.bind_some, List.length_cons]
            first | done | simp only [show ¬ (11 : Int32) = 10 by decide, show ¬ (11 : Int32) = 1 by decide, show ¬ (11 : Int32) = 0 by decide, show ¬ (11 : Int32) < 10 by decide, zt, if_true, if_false, kk_m1_0, kk_m1_1, kk_m1_2, kk_m1_3, kk_m1_4, kk_0_m1, kk_0_1, kk_0_2, kk_0_3, kk_0_4, kk_1_m1, kk_1_0, kk_1_2, kk_1_3, kk_1_4, kk_2_m1, kk_2_0, kk_2_1, kk_2_3, kk_2_4, kk_3_m1, kk_3_0, kk_3_1, kk_3_2, kk_3_4, kk_4_m1, kk_4_0, kk_4_1, kk_4_2, kk_4_3, f6, c4]
end VB
end V8
