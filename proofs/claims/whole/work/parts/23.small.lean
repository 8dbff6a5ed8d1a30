/-! ===== the small ones of both sides ===== -/
def no (x : Int32) (c : Nat) : Prop := x < 0 ∨ iN c ≤ x
theorem nx (x : Int32) {c : Nat} (hc : c < 2147483648) : (∃ n, n < c ∧ x = iN n) ∨ no x c := by
  by_cases h0 : x < 0
  · exact Or.inr (Or.inl h0)
  · by_cases h1 : x < iN c
    · exact Or.inl (iN_lt_of h0 h1 hc)
    · exact Or.inr (Or.inr (Int32.not_lt.mp h1))
theorem i64_lt0 {x : Int32} (h : x < 0) : Int32.toInt64 x < 0 := by
  have : Int32.toInt64 x < Int32.toInt64 0 := Int32.toInt64_lt.mpr h
  exact this
theorem iN64 {n : Nat} (h : n < 2147483648) : (Int32.toInt64 (iN n)).toInt = (n : Int) := by
  rw [Int32.toInt_toInt64, iN_int h]
theorem l64 {x : Int32} : (Int32.toInt64 x).toInt = x.toInt := Int32.toInt_toInt64 x
theorem x_in (p lo hi : Int64) (σ : Hp) : s_X9_in p lo hi σ = some (if lo ≤ p ∧ p ≤ hi then 1 else 0, σ) := by
  unfold s_X9_in
  by_cases h1 : p < lo
  · rw [if_pos ((lg_cmp_lt _ _).mpr h1), if_neg]
    rintro ⟨h2, -⟩
    exact absurd h1 (Int64.not_lt.mpr h2)
  · rw [if_neg (fun h => h1 ((lg_cmp_lt _ _).mp h))]
    by_cases h2 : hi < p
    · rw [if_pos ((lg_cmp_gt _ _).mpr h2), if_neg]
      rintro ⟨-, h3⟩
      exact absurd h2 (Int64.not_lt.mpr h3)
    · rw [if_neg (fun h => h2 ((lg_cmp_gt _ _).mp h)), if_pos ⟨Int64.not_lt.mp h1, Int64.not_lt.mp h2⟩]
theorem in_t {p lo hi : Int64} {σ : Hp} (h1 : lo.toInt ≤ p.toInt) (h2 : p.toInt ≤ hi.toInt) : s_X9_in p lo hi σ = some (1, σ) := by
  rw [x_in, if_pos ⟨Int64.le_iff_toInt_le.mpr h1, Int64.le_iff_toInt_le.mpr h2⟩]
theorem in_f {p lo hi : Int64} {σ : Hp} (h : p.toInt < lo.toInt ∨ hi.toInt < p.toInt) : s_X9_in p lo hi σ = some (0, σ) := by
  rw [x_in, if_neg]
  rintro ⟨h1, h2⟩
  have := Int64.le_iff_toInt_le.mp h1
  have := Int64.le_iff_toInt_le.mp h2
  omega
theorem no_int {x : Int32} {c : Nat} (hc : c < 2147483648) (h : no x c) : x.toInt < 0 ∨ (c : Int) ≤ x.toInt := by
  rcases h with h | h
  · exact Or.inl (Int32.lt_iff_toInt_lt.mp h)
  · have := Int32.le_iff_toInt_le.mp h
    rw [iN_int hc] at this
    exact Or.inr this
theorem lt64 (a : Int) (h1 : -9223372036854775808 ≤ a) (h2 : a < 9223372036854775808) : a.bmod (2 ^ 64) = a := Int.bmod_eq_of_le (by omega) (by omega)
theorem sub1 {c : Nat} (hc : c < 2147483648) : (Int32.toInt64 (iN c) - 1).toInt = (c : Int) - 1 := by
  rw [Int64.toInt_sub, iN64 hc, show (1 : Int64).toInt = 1 from rfl, lt64 _ (by omega) (by omega)]
section SM
variable {σ : Hp} {b n c : Nat} {x : Int32}
theorem rm9_t (hn : n < 6) : s_X9_isRoom (Int32.toInt64 (iN n)) σ = some (1, σ) := by
  unfold s_X9_isRoom
  rw [in_t (by rw [iN64 (by omega)]; show (0 : Int) ≤ _; omega) (by rw [iN64 (by omega)]; show _ ≤ (5 : Int); omega)]
  rfl
theorem rm9_f (h : no x 6) : s_X9_isRoom (Int32.toInt64 x) σ = some (0, σ) := by
  have h1 := no_int (by decide) h
  unfold s_X9_isRoom
  rw [in_f (by rw [l64]; show _ < (0 : Int) ∨ (5 : Int) < _; omega)]
  rfl
theorem inl_t {lo hi : Nat} {p : Int64} {q r : Int64} (h : q.toInt = lo) (h2 : r.toInt = hi) (h3 : p.toInt = (n : Int)) (h4 : lo ≤ n) (h5 : n ≤ hi) : s_X9_in p q r σ = some (1, σ) := in_t (by omega) (by omega)
theorem in9_t {m : Nat} {q r : Int64} (hn : n < 2147483648) (h1 : q.toInt ≤ n) (h2 : (n : Int) ≤ r.toInt) : s_X9_in (Int32.toInt64 (iN n)) q r σ = some (1, σ) := in_t (by rw [iN64 hn]; exact h1) (by rw [iN64 hn]; exact h2)
theorem pc9_t (h : SK σ) (hc : zi σ 127 0 = iN c) (hm : c ≤ 10) (hn : n < c) : s_X9_isPerch 125 (iN n) σ = some (1, σ) := by
  unfold s_X9_isPerch
  rw [q_r125_3 h, Option.bind_some, Option.bind_some, show (0 : Int32) = iN 0 from rfl, q_ld127 (by decide) h, Option.bind_some, hc, in_t (by rw [iN64 (by omega)]; show (0 : Int) ≤ _; omega) (by rw [iN64 (by omega), sub1 (by omega)]; omega)]
  rfl
theorem pc9_f (h : SK σ) (hc : zi σ 127 0 = iN c) (hm : c ≤ 10) (hx : no x c) : s_X9_isPerch 125 x σ = some (0, σ) := by
  have h1 := no_int (by omega) hx
  unfold s_X9_isPerch
  rw [q_r125_3 h, Option.bind_some, Option.bind_some, show (0 : Int32) = iN 0 from rfl, q_ld127 (by decide) h, Option.bind_some, hc, in_f (by rw [l64, sub1 (by omega)]; show _ < (0 : Int) ∨ _; omega)]
  rfl
theorem fk9_t (h : SK σ) (hc : zi σ 127 1 = iN c) (hm : c ≤ 10) (hn : n < c) : s_X9_isFolk 125 (iN n) σ = some (1, σ) := by
  unfold s_X9_isFolk
  rw [q_r125_3 h, Option.bind_some, Option.bind_some, show (1 : Int32) = iN 1 from rfl, q_ld127 (by decide) h, Option.bind_some, hc, in_t (by rw [iN64 (by omega)]; show (0 : Int) ≤ _; omega) (by rw [iN64 (by omega), sub1 (by omega)]; omega)]
  rfl
theorem fk9_f (h : SK σ) (hc : zi σ 127 1 = iN c) (hm : c ≤ 10) (hx : no x c) : s_X9_isFolk 125 x σ = some (0, σ) := by
  have h1 := no_int (by omega) hx
  unfold s_X9_isFolk
  rw [q_r125_3 h, Option.bind_some, Option.bind_some, show (1 : Int32) = iN 1 from rfl, q_ld127 (by decide) h, Option.bind_some, hc, in_f (by rw [l64, sub1 (by omega)]; show _ < (0 : Int) ∨ _; omega)]
  rfl
theorem bg9_t (h : SK σ) (hc : zi σ 127 2 = iN c) (hm : c ≤ 10) (hn : n < c) : s_X9_isBadger 125 (iN n) σ = some (1, σ) := by
  unfold s_X9_isBadger
  rw [q_r125_3 h, Option.bind_some, Option.bind_some, show (2 : Int32) = iN 2 from rfl, q_ld127 (by decide) h, Option.bind_some, hc, in_t (by rw [iN64 (by omega)]; show (0 : Int) ≤ _; omega) (by rw [iN64 (by omega), sub1 (by omega)]; omega)]
  rfl
theorem bg9_f (h : SK σ) (hc : zi σ 127 2 = iN c) (hm : c ≤ 10) (hx : no x c) : s_X9_isBadger 125 x σ = some (0, σ) := by
  have h1 := no_int (by omega) hx
  unfold s_X9_isBadger
  rw [q_r125_3 h, Option.bind_some, Option.bind_some, show (2 : Int32) = iN 2 from rfl, q_ld127 (by decide) h, Option.bind_some, hc, in_f (by rw [l64, sub1 (by omega)]; show _ < (0 : Int) ∨ _; omega)]
  rfl
theorem th9_t (h : SK σ) (hc : zi σ 127 3 = iN c) (hm : c ≤ 10) (hn : n < c) : s_X9_isThing 125 (iN n) σ = some (1, σ) := by
  unfold s_X9_isThing
  rw [q_r125_3 h, Option.bind_some, Option.bind_some, show (3 : Int32) = iN 3 from rfl, q_ld127 (by decide) h, Option.bind_some, hc, in_t (by rw [iN64 (by omega)]; show (0 : Int) ≤ _; omega) (by rw [iN64 (by omega), sub1 (by omega)]; omega)]
  rfl
theorem th9_f (h : SK σ) (hc : zi σ 127 3 = iN c) (hm : c ≤ 10) (hx : no x c) : s_X9_isThing 125 x σ = some (0, σ) := by
  have h1 := no_int (by omega) hx
  unfold s_X9_isThing
  rw [q_r125_3 h, Option.bind_some, Option.bind_some, show (3 : Int32) = iN 3 from rfl, q_ld127 (by decide) h, Option.bind_some, hc, in_f (by rw [l64, sub1 (by omega)]; show _ < (0 : Int) ∨ _; omega)]
  rfl
theorem rm8_t (hn : n < 6) : s_X8_isRoom (Int32.toInt64 (iN n)) σ = some (1, σ) := by
  unfold s_X8_isRoom
  rw [if_neg, if_neg]
  · intro h
    have := Int64.le_iff_toInt_le.mp ((lg_cmp_ge _ _).mp h)
    rw [iN64 (by omega), show (6 : Int64).toInt = 6 from rfl] at this
    omega
  · intro h
    have := Int64.lt_iff_toInt_lt.mp ((lg_cmp_lt _ _).mp h)
    rw [iN64 (by omega), show (0 : Int64).toInt = 0 from rfl] at this
    omega
theorem rm8_f (h : no x 6) : s_X8_isRoom (Int32.toInt64 x) σ = some (0, σ) := by
  have h1 := no_int (by decide) h
  unfold s_X8_isRoom
  by_cases h2 : x.toInt < 0
  · rw [if_pos]
    refine (lg_cmp_lt _ _).mpr (Int64.lt_iff_toInt_lt.mpr ?_)
    rw [l64]
    exact h2
  · rw [if_neg, if_pos]
    · refine (lg_cmp_ge _ _).mpr (Int64.le_iff_toInt_le.mpr ?_)
      rw [l64]
      show (6 : Int) ≤ _
      omega
    · intro h3
      have := Int64.lt_iff_toInt_lt.mp ((lg_cmp_lt _ _).mp h3)
      rw [l64] at this
      exact h2 this
theorem one_t (h : HK b σ) (hc : zi σ (b + 1) 3 = iN c) (h10 : c ≤ 10) (hn : n < c) : s_X3_isOne (b + 1) (iN n) σ = some (1, σ) := by
  unfold s_X3_isOne
  rw [if_neg (iN_nn (by omega)), h_i1 h, Option.bind_some, hc, if_neg (by rw [iN_le (by omega) (by omega)]; omega), if_neg (by rw [show (10 : Int32) = iN 10 from rfl, iN_le (by omega) (by omega)]; omega)]
theorem one_f (h : HK b σ) (hc : zi σ (b + 1) 3 = iN c) (hx : no x c) : s_X3_isOne (b + 1) x σ = some (0, σ) := by
  unfold s_X3_isOne
  rcases hx with hx | hx
  · rw [if_pos hx]
  · by_cases h0 : x < 0
    · rw [if_pos h0]
    · rw [if_neg h0, h_i1 h, Option.bind_some, hc, if_pos hx]
theorem fk8_t (h : HK b σ) (hc : zi σ b 13 = iN c) (hm : c ≤ 4) (hn : n < c) : s_X1_isFolk b (iN n) σ = some (1, σ) := by
  unfold s_X1_isFolk
  rw [if_neg (iN_nn (by omega)), h_i0 h, Option.bind_some, hc, if_neg (by rw [iN_le (by omega) (by omega)]; omega), if_neg (by rw [show (4 : Int32) = iN 4 from rfl, iN_le (by omega) (by omega)]; omega)]
theorem fk8_f (h : HK b σ) (hc : zi σ b 13 = iN c) (hx : no x c) : s_X1_isFolk b x σ = some (0, σ) := by
  unfold s_X1_isFolk
  rcases hx with hx | hx
  · rw [if_pos hx]
  · by_cases h0 : x < 0
    · rw [if_pos h0]
    · rw [if_neg h0, h_i0 h, Option.bind_some, hc, if_pos hx]
theorem bg8_t (h : HK b σ) (hc : zi σ b 14 = iN c) (hm : c ≤ 3) (hn : n < c) : s_X1_isBadger b (iN n) σ = some (1, σ) := by
  unfold s_X1_isBadger
  rw [if_neg (iN_nn (by omega)), h_i0 h, Option.bind_some, hc, if_neg (by rw [iN_le (by omega) (by omega)]; omega), if_neg (by rw [show (3 : Int32) = iN 3 from rfl, iN_le (by omega) (by omega)]; omega)]
theorem bg8_f (h : HK b σ) (hc : zi σ b 14 = iN c) (hx : no x c) : s_X1_isBadger b x σ = some (0, σ) := by
  unfold s_X1_isBadger
  rcases hx with hx | hx
  · rw [if_pos hx]
  · by_cases h0 : x < 0
    · rw [if_pos h0]
    · rw [if_neg h0, h_i0 h, Option.bind_some, hc, if_pos hx]
theorem th8_t (h : HK b σ) (hc : zi σ b 15 = iN c) (hm : c ≤ 6) (hn : n < c) : s_X1_isThing b (iN n) σ = some (1, σ) := by
  unfold s_X1_isThing
  rw [if_neg (iN_nn (by omega)), h_i0 h, Option.bind_some, hc, if_neg (by rw [iN_le (by omega) (by omega)]; omega), if_neg (by rw [show (6 : Int32) = iN 6 from rfl, iN_le (by omega) (by omega)]; omega)]
theorem th8_f (h : HK b σ) (hc : zi σ b 15 = iN c) (hx : no x c) : s_X1_isThing b x σ = some (0, σ) := by
  unfold s_X1_isThing
  rcases hx with hx | hx
  · rw [if_pos hx]
  · by_cases h0 : x < 0
    · rw [if_pos h0]
    · rw [if_neg h0, h_i0 h, Option.bind_some, hc, if_pos hx]
theorem lw8_t (h : HK b σ) (hc : zi σ b 17 = iN c) (hm : c ≤ 6) (hn : n < c) : s_X1_isLaw b (iN n) σ = some (1, σ) := by
  unfold s_X1_isLaw
  rw [if_neg (iN_nn (by omega)), h_i0 h, Option.bind_some, hc, if_neg (by rw [iN_le (by omega) (by omega)]; omega), if_neg (by rw [show (6 : Int32) = iN 6 from rfl, iN_le (by omega) (by omega)]; omega)]
theorem lw8_f (h : HK b σ) (hc : zi σ b 17 = iN c) (hx : no x c) : s_X1_isLaw b x σ = some (0, σ) := by
  unfold s_X1_isLaw
  rcases hx with hx | hx
  · rw [if_pos hx]
  · by_cases h0 : x < 0
    · rw [if_pos h0]
    · rw [if_neg h0, h_i0 h, Option.bind_some, hc, if_pos hx]
theorem tell9 (h : SK σ) (hn : n < 2147483648) : s_X9_tell 125 (iN n) σ = some (iN n, zsi σ 125 1 0) := by
  have h0 : (0 : Int32) ≤ iN n := Int32.not_lt.mp (iN_nn hn)
  simp only [s_X9_tell, s_X9_tell_j10, h0, if_true, Option.bind_some, q_w125 h]
theorem tell9_1 (h : SK σ) : s_X9_tell 125 (-1) σ = some (-1, zsi (zsi σ 125 1 (-1)) 126 1 (zi σ 126 1 + 1)) := by
  have h1 : SK (zsi σ 125 1 (-1)) := h
  have e0 : ¬ (0 : Int32) ≤ -1 := by decide
  have e1 : -(-1 : Int32) = iN 1 := by decide
  simp only [s_X9_tell, s_X9_tell_j10, e0, if_false, Option.bind_some, q_w125 h, q_r125_2 h1, e1, q_ld126 (show 1 < 7 by decide) h1, q_st126 (show 1 < 7 by decide) h1, zi_ne (show 126 ≠ 125 by decide)]
theorem ref8_1 (h : SK σ) : s_X8_refuse 0 (-1) σ = some (-1, zsi (zsi σ 0 18 (-1)) 124 0 (zi σ 124 0 + 1)) := by
  have h1 : SK (zsi σ 0 18 (-1)) := h
  have e0 : s_X8_kindOfRefusal (-1) (zsi σ 0 18 (-1)) = some (iN 0, zsi σ 0 18 (-1)) := rfl
  have e1 : ¬ iN 0 < 0 := by decide
  have e2 : ¬ iN 5 ≤ iN 0 := by decide
  simp only [s_X8_refuse, q_w0 h, Option.bind_some, e0, cb_some, e1, e2, if_false, q_r0_11 h1, q_ln124 h1, q_ld124 (show 0 < 5 by decide) h1, q_st124 (show 0 < 5 by decide) h1, zi_ne (show 124 ≠ 0 by decide)]
theorem last9_1 (h : SK σ) : s_X9_lasting 125 (-1) σ = some (-1, zsi (zsi (zsi σ 125 8 (zi σ 125 8)) 125 1 (-1)) 126 1 (zi σ 126 1 + 1)) := by
  have h1 : SK (zsi σ 125 8 (zi σ 125 8)) := h
  have e0 : ¬ (0 : Int32) ≤ -1 := by decide
  simp only [s_X9_lasting, s_X9_lasting_j13, e0, if_false, q_i125 h, Option.bind_some, q_w125 h, q_ck125 h1, tell9_1 h1, cb_some, zi_ne (show 126 ≠ 125 by decide)]
theorem tell9_2 (h : SK σ) : s_X9_tell 125 (-2) σ = some (-2, zsi (zsi σ 125 1 (-2)) 126 2 (zi σ 126 2 + 1)) := by
  have h1 : SK (zsi σ 125 1 (-2)) := h
  have e0 : ¬ (0 : Int32) ≤ -2 := by decide
  have e1 : -(-2 : Int32) = iN 2 := by decide
  simp only [s_X9_tell, s_X9_tell_j10, e0, if_false, Option.bind_some, q_w125 h, q_r125_2 h1, e1, q_ld126 (show 2 < 7 by decide) h1, q_st126 (show 2 < 7 by decide) h1, zi_ne (show 126 ≠ 125 by decide)]
theorem ref8_2 (h : SK σ) : s_X8_refuse 0 (-2) σ = some (-2, zsi (zsi σ 0 18 (-2)) 124 1 (zi σ 124 1 + 1)) := by
  have h1 : SK (zsi σ 0 18 (-2)) := h
  have e0 : s_X8_kindOfRefusal (-2) (zsi σ 0 18 (-2)) = some (iN 1, zsi σ 0 18 (-2)) := rfl
  have e1 : ¬ iN 1 < 0 := by decide
  have e2 : ¬ iN 5 ≤ iN 1 := by decide
  simp only [s_X8_refuse, q_w0 h, Option.bind_some, e0, cb_some, e1, e2, if_false, q_r0_11 h1, q_ln124 h1, q_ld124 (show 1 < 5 by decide) h1, q_st124 (show 1 < 5 by decide) h1, zi_ne (show 124 ≠ 0 by decide)]
theorem last9_2 (h : SK σ) : s_X9_lasting 125 (-2) σ = some (-2, zsi (zsi (zsi σ 125 8 (zi σ 125 8)) 125 1 (-2)) 126 2 (zi σ 126 2 + 1)) := by
  have h1 : SK (zsi σ 125 8 (zi σ 125 8)) := h
  have e0 : ¬ (0 : Int32) ≤ -2 := by decide
  simp only [s_X9_lasting, s_X9_lasting_j13, e0, if_false, q_i125 h, Option.bind_some, q_w125 h, q_ck125 h1, tell9_2 h1, cb_some, zi_ne (show 126 ≠ 125 by decide)]
theorem tell9_3 (h : SK σ) : s_X9_tell 125 (-3) σ = some (-3, zsi (zsi σ 125 1 (-3)) 126 3 (zi σ 126 3 + 1)) := by
  have h1 : SK (zsi σ 125 1 (-3)) := h
  have e0 : ¬ (0 : Int32) ≤ -3 := by decide
  have e1 : -(-3 : Int32) = iN 3 := by decide
  simp only [s_X9_tell, s_X9_tell_j10, e0, if_false, Option.bind_some, q_w125 h, q_r125_2 h1, e1, q_ld126 (show 3 < 7 by decide) h1, q_st126 (show 3 < 7 by decide) h1, zi_ne (show 126 ≠ 125 by decide)]
theorem ref8_3 (h : SK σ) : s_X8_refuse 0 (-3) σ = some (-3, zsi (zsi σ 0 18 (-3)) 124 2 (zi σ 124 2 + 1)) := by
  have h1 : SK (zsi σ 0 18 (-3)) := h
  have e0 : s_X8_kindOfRefusal (-3) (zsi σ 0 18 (-3)) = some (iN 2, zsi σ 0 18 (-3)) := rfl
  have e1 : ¬ iN 2 < 0 := by decide
  have e2 : ¬ iN 5 ≤ iN 2 := by decide
  simp only [s_X8_refuse, q_w0 h, Option.bind_some, e0, cb_some, e1, e2, if_false, q_r0_11 h1, q_ln124 h1, q_ld124 (show 2 < 5 by decide) h1, q_st124 (show 2 < 5 by decide) h1, zi_ne (show 124 ≠ 0 by decide)]
theorem last9_3 (h : SK σ) : s_X9_lasting 125 (-3) σ = some (-3, zsi (zsi (zsi σ 125 8 (zi σ 125 8)) 125 1 (-3)) 126 3 (zi σ 126 3 + 1)) := by
  have h1 : SK (zsi σ 125 8 (zi σ 125 8)) := h
  have e0 : ¬ (0 : Int32) ≤ -3 := by decide
  simp only [s_X9_lasting, s_X9_lasting_j13, e0, if_false, q_i125 h, Option.bind_some, q_w125 h, q_ck125 h1, tell9_3 h1, cb_some, zi_ne (show 126 ≠ 125 by decide)]
theorem tell9_5 (h : SK σ) : s_X9_tell 125 (-5) σ = some (-5, zsi (zsi σ 125 1 (-5)) 126 5 (zi σ 126 5 + 1)) := by
  have h1 : SK (zsi σ 125 1 (-5)) := h
  have e0 : ¬ (0 : Int32) ≤ -5 := by decide
  have e1 : -(-5 : Int32) = iN 5 := by decide
  simp only [s_X9_tell, s_X9_tell_j10, e0, if_false, Option.bind_some, q_w125 h, q_r125_2 h1, e1, q_ld126 (show 5 < 7 by decide) h1, q_st126 (show 5 < 7 by decide) h1, zi_ne (show 126 ≠ 125 by decide)]
theorem ref8_5 (h : SK σ) : s_X8_refuse 0 (-5) σ = some (-5, zsi (zsi σ 0 18 (-5)) 124 3 (zi σ 124 3 + 1)) := by
  have h1 : SK (zsi σ 0 18 (-5)) := h
  have e0 : s_X8_kindOfRefusal (-5) (zsi σ 0 18 (-5)) = some (iN 3, zsi σ 0 18 (-5)) := rfl
  have e1 : ¬ iN 3 < 0 := by decide
  have e2 : ¬ iN 5 ≤ iN 3 := by decide
  simp only [s_X8_refuse, q_w0 h, Option.bind_some, e0, cb_some, e1, e2, if_false, q_r0_11 h1, q_ln124 h1, q_ld124 (show 3 < 5 by decide) h1, q_st124 (show 3 < 5 by decide) h1, zi_ne (show 124 ≠ 0 by decide)]
theorem last9_5 (h : SK σ) : s_X9_lasting 125 (-5) σ = some (-5, zsi (zsi (zsi σ 125 8 (zi σ 125 8)) 125 1 (-5)) 126 5 (zi σ 126 5 + 1)) := by
  have h1 : SK (zsi σ 125 8 (zi σ 125 8)) := h
  have e0 : ¬ (0 : Int32) ≤ -5 := by decide
  simp only [s_X9_lasting, s_X9_lasting_j13, e0, if_false, q_i125 h, Option.bind_some, q_w125 h, q_ck125 h1, tell9_5 h1, cb_some, zi_ne (show 126 ≠ 125 by decide)]
theorem tell9_6 (h : SK σ) : s_X9_tell 125 (-6) σ = some (-6, zsi (zsi σ 125 1 (-6)) 126 6 (zi σ 126 6 + 1)) := by
  have h1 : SK (zsi σ 125 1 (-6)) := h
  have e0 : ¬ (0 : Int32) ≤ -6 := by decide
  have e1 : -(-6 : Int32) = iN 6 := by decide
  simp only [s_X9_tell, s_X9_tell_j10, e0, if_false, Option.bind_some, q_w125 h, q_r125_2 h1, e1, q_ld126 (show 6 < 7 by decide) h1, q_st126 (show 6 < 7 by decide) h1, zi_ne (show 126 ≠ 125 by decide)]
theorem ref8_6 (h : SK σ) : s_X8_refuse 0 (-6) σ = some (-6, zsi (zsi σ 0 18 (-6)) 124 4 (zi σ 124 4 + 1)) := by
  have h1 : SK (zsi σ 0 18 (-6)) := h
  have e0 : s_X8_kindOfRefusal (-6) (zsi σ 0 18 (-6)) = some (iN 4, zsi σ 0 18 (-6)) := rfl
  have e1 : ¬ iN 4 < 0 := by decide
  have e2 : ¬ iN 5 ≤ iN 4 := by decide
  simp only [s_X8_refuse, q_w0 h, Option.bind_some, e0, cb_some, e1, e2, if_false, q_r0_11 h1, q_ln124 h1, q_ld124 (show 4 < 5 by decide) h1, q_st124 (show 4 < 5 by decide) h1, zi_ne (show 124 ≠ 0 by decide)]
theorem last9_6 (h : SK σ) : s_X9_lasting 125 (-6) σ = some (-6, zsi (zsi (zsi σ 125 8 (zi σ 125 8)) 125 1 (-6)) 126 6 (zi σ 126 6 + 1)) := by
  have h1 : SK (zsi σ 125 8 (zi σ 125 8)) := h
  have e0 : ¬ (0 : Int32) ≤ -6 := by decide
  simp only [s_X9_lasting, s_X9_lasting_j13, e0, if_false, q_i125 h, Option.bind_some, q_w125 h, q_ck125 h1, tell9_6 h1, cb_some, zi_ne (show 126 ≠ 125 by decide)]
theorem last9 (h : SK σ) (hn : n < 2147483648) : s_X9_lasting 125 (iN n) σ = some (iN n, zsi (zsi σ 125 8 0) 125 1 0) := by
  have h0 : (0 : Int32) ≤ iN n := Int32.not_lt.mp (iN_nn hn)
  have h1 : SK (zsi σ 125 8 0) := h
  simp only [s_X9_lasting, s_X9_lasting_j13, h0, if_true, Option.bind_some, q_w125 h, q_ck125 h1, tell9 h1 hn, cb_some]
theorem grant8 (h : SK σ) {v : Int32} : s_X8_grant 0 v σ = some (v, zsi σ 0 18 0) := by
  simp only [s_X8_grant, q_w0 h, Option.bind_some]
theorem clear8 (h : SK σ) : s_X0_clear 109 σ = some ((), zsi σ 109 1 0) := by
  simp only [s_X0_clear, q_w109 h, Option.bind_some]
end SM
