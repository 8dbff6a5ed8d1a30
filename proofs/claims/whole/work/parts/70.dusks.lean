/-! ===== dusks ===== -/
section V38
variable {σ : Hp}
def jN (n : Nat) : Int64 := Int64.ofNat n
theorem jN_mul (a b : Nat) : jN a * jN b = jN (a * b) := (Int64.ofNat_mul a b).symm
theorem jN_add (a b : Nat) : jN a + jN b = jN (a + b) := (Int64.ofNat_add a b).symm
theorem jN_sub {a b : Nat} (h : b ≤ a) : jN a - jN b = jN (a - b) := (Int64.ofNat_sub a b h).symm
theorem jN_int {n : Nat} (h : n < 9223372036854775808) : (jN n).toInt = n := Int64.toInt_ofNat_of_lt h
theorem jN_div {a b : Nat} (ha : a < 9223372036854775808) (hb : b < 9223372036854775808) : jN a / jN b = jN (a / b) := by
  apply Int64.toInt_inj.mp
  rw [Int64.toInt_div_of_ne_right _ _ (by
    intro q
    have := congrArg Int64.toInt q
    rw [jN_int hb] at this
    have h2 : (-1 : Int64).toInt = -1 := rfl
    omega), jN_int ha, jN_int hb, jN_int (Nat.lt_of_le_of_lt (Nat.div_le_self a b) ha)]
  exact Int.ofNat_tdiv a b
theorem jN_mod {a b : Nat} (ha : a < 9223372036854775808) (hb : b < 9223372036854775808) : jN a - jN a / jN b * jN b = jN (a % b) := by
  rw [jN_div ha hb, jN_mul, jN_sub (Nat.div_mul_le_self a b)]
  have := Nat.div_add_mod a b
  rw [Nat.mul_comm] at this
  rw [show a - a / b * b = a % b by omega]
theorem j_iN {n : Nat} (h : n < 2147483648) : Int32.toInt64 (iN n) = jN n := by
  apply Int64.toInt_inj.mp
  rw [iN64 h, jN_int (by omega)]
theorem j_back {n : Nat} (h : n < 2147483648) : Int64.toInt32 (jN n) = iN n := by
  rw [← j_iN h, Int32.toInt32_toInt64]
/-- the next seed -/
def nxS (s : Nat) : Nat := (s * 1103 + 12345) % 1000003
theorem nxS_lt (s : Nat) : nxS s < 1000003 := Nat.mod_lt _ (by decide)
theorem drawn8 {s : Nat} (h : s < 1000003) : s_X8_drawnFrom (iN s) σ = some (iN (nxS s), σ) := by
  have e : Int32.toInt64 (iN s) * 1103 + 12345 - (Int32.toInt64 (iN s) * 1103 + 12345) / 1000003 * 1000003 = jN (nxS s) := by
    rw [j_iN (by omega), show (1103 : Int64) = jN 1103 from rfl, show (12345 : Int64) = jN 12345 from rfl, show (1000003 : Int64) = jN 1000003 from rfl, jN_mul, jN_add, jN_mod (by omega) (by decide)]
    rfl
  have := nxS_lt s
  unfold s_X8_drawnFrom
  rw [e, j_back (by omega)]
theorem drawn9 {s c : Nat} (hS : SK σ) (h : s < 1000003) (hs : zj σ 125 54 = jN s) (hc : 0 < c) (hc2 : c < 2147483648) :
    s_X9_draw 125 (iN c) σ = some (iN (nxS s % c), zsj σ 125 54 (jN (nxS s))) := by
  have e : zj σ 125 54 * 1103 + 12345 - (zj σ 125 54 * 1103 + 12345) / 1000003 * 1000003 = jN (nxS s) := by
    rw [hs, show (1103 : Int64) = jN 1103 from rfl, show (12345 : Int64) = jN 12345 from rfl, show (1000003 : Int64) = jN 1000003 from rfl, jN_mul, jN_add, jN_mod (by omega) (by decide)]
    rfl
  have hn := nxS_lt s
  have r1 := q_j125 (k := 54) hS
  have w1 := q_wj125 (k := 54) (v := jN (nxS s)) hS
  have S1 : SK (zsj σ 125 54 (jN (nxS s))) := hS
  have r2 := q_j125 (k := 54) S1
  rw [zj_hit] at r2
  have nz : ¬ jN c = 0 := fun q => by
    have := congrArg Int64.toInt q
    rw [jN_int (by omega)] at this
    have h2 : (0 : Int64).toInt = 0 := rfl
    omega
  have m : nxS s % c < 2147483648 := Nat.lt_trans (Nat.mod_lt _ hc) hc2
  have e2 : jN (nxS s) - jN (nxS s) / jN c * jN c = jN (nxS s % c) := jN_mod (by omega) (by omega)
  have bk := j_back m
  have jc := j_iN hc2
  have zz : zne (jN c = 0) = some () := if_neg nz
  simp only [s_X9_draw, r1, e, w1, r2, jc, zz, e2, bk, bind_ok, Option.bind_some]
section DS
variable {nP nF nB nT nS nL H hr : Nat} {B : Book} {R : Nat → Int32}
/-- the row after the stride that was drawn, if it is one -/
def stR2 (B : Book) (R : Nat → Int32) (nP nF hr s : Nat) : Nat → Int32 :=
  if nxS (nxS (nxS s)) % 4 = 3 then R
  else if cnP B R (nxS s % nF) (R (17 + nxS s % nF)).toNatClampNeg (nxS (nxS s) % nP) hr = true then up R (17 + nxS s % nF) (iN (nxS (nxS s) % nP)) else R
theorem okQ {f p : Nat} (hP : nP ≤ 10) (hp : p < nP) (hf : f < 4) : okI nP nF nT H (17 + f) (iN p) := okI_on hf ⟨p, by omega, rfl⟩ ((iN_lt (by omega) (by omega)).mpr hp)
theorem stR2_wf (h : WF nP nF nB nT nS nL H R) (hF : 0 < nF) (hP : 0 < nP) {s : Nat} : WF nP nF nB nT nS nL H (stR2 B R nP nF hr s) := by
  have h1 := h.1.1
  have h2 := h.1.2.1
  have hf := Nat.mod_lt (nxS s) hF
  have hp := Nat.mod_lt (nxS (nxS s)) hP
  unfold stR2
  generalize nxS (nxS (nxS s)) % 4 = k
  generalize nxS (nxS s) % nP = p at hp ⊢
  generalize nxS s % nF = f at hf ⊢
  split
  · exact h
  · split
    · exact h.put (by omega) (okQ h1 hp (by omega))
    · exact h
end DS
end V38
