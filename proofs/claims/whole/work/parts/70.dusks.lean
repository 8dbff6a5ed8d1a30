/-! ===== dusks ===== -/
section V38
variable {σ : Hp}
def jN (n : Nat) : Int64 := Int64.ofNat n
theorem jN_mul (a b : Nat) : jN a * jN b = jN (a * b) := (Int64.ofNat_mul a b).symm
theorem jN_add (a b : Nat) : jN a + jN b = jN (a + b) := (Int64.ofNat_add a b).symm
theorem jN_sub {a b : Nat} (h : b ≤ a) : jN a - jN b = jN (a - b) := (Int64.ofNat_sub a b h).symm
theorem jN_int {n : Nat} (h : n < 9223372036854775808) : (jN n).toInt = n := Int64.toInt_ofNat_of_lt h
theorem jN_div {a b : Nat} (ha : a < 9223372036854775808) (hb : b < 9223372036854775808) : jN a / jN b = jN (a / b) := by
  apply Int64.toInt_inj.mp
  rw [Int64.toInt_div_of_ne_right _ _ (by
    intro q
    have := congrArg Int64.toInt q
    rw [jN_int hb] at this
    have h2 : (-1 : Int64).toInt = -1 := rfl
    omega), jN_int ha, jN_int hb, jN_int (Nat.lt_of_le_of_lt (Nat.div_le_self a b) ha)]
  exact Int.ofNat_tdiv a b
theorem jN_mod {a b : Nat} (ha : a < 9223372036854775808) (hb : b < 9223372036854775808) : jN a - jN a / jN b * jN b = jN (a % b) := by
  rw [jN_div ha hb, jN_mul, jN_sub (Nat.div_mul_le_self a b)]
  have := Nat.div_add_mod a b
  rw [Nat.mul_comm] at this
  rw [show a - a / b * b = a % b by omega]
theorem j_iN {n : Nat} (h : n < 2147483648) : Int32.toInt64 (iN n) = jN n := by
  apply Int64.toInt_inj.mp
  rw [iN64 h, jN_int (by omega)]
theorem j_back {n : Nat} (h : n < 2147483648) : Int64.toInt32 (jN n) = iN n := by
  rw [← j_iN h, Int32.toInt32_toInt64]
/-- the next seed -/
def nxS (s : Nat) : Nat := (s * 1103 + 12345) % 1000003
theorem nxS_lt (s : Nat) : nxS s < 1000003 := Nat.mod_lt _ (by decide)
theorem drawn8 {s : Nat} (h : s < 1000003) : s_X8_drawnFrom (iN s) σ = some (iN (nxS s), σ) := by
  have e : Int32.toInt64 (iN s) * 1103 + 12345 - (Int32.toInt64 (iN s) * 1103 + 12345) / 1000003 * 1000003 = jN (nxS s) := by
    rw [j_iN (by omega), show (1103 : Int64) = jN 1103 from rfl, show (12345 : Int64) = jN 12345 from rfl, show (1000003 : Int64) = jN 1000003 from rfl, jN_mul, jN_add, jN_mod (by omega) (by decide)]
    rfl
  have := nxS_lt s
  unfold s_X8_drawnFrom
  rw [e, j_back (by omega)]
theorem drawn9 {s c : Nat} (hS : SK σ) (h : s < 1000003) (hs : zj σ 125 54 = jN s) (hc : 0 < c) (hc2 : c < 2147483648) :
    s_X9_draw 125 (iN c) σ = some (iN (nxS s % c), zsj σ 125 54 (jN (nxS s))) := by
  have e : zj σ 125 54 * 1103 + 12345 - (zj σ 125 54 * 1103 + 12345) / 1000003 * 1000003 = jN (nxS s) := by
    rw [hs, show (1103 : Int64) = jN 1103 from rfl, show (12345 : Int64) = jN 12345 from rfl, show (1000003 : Int64) = jN 1000003 from rfl, jN_mul, jN_add, jN_mod (by omega) (by decide)]
    rfl
  have hn := nxS_lt s
  have r1 := q_j125 (k := 54) hS
  have w1 := q_wj125 (k := 54) (v := jN (nxS s)) hS
  have S1 : SK (zsj σ 125 54 (jN (nxS s))) := hS
  have r2 := q_j125 (k := 54) S1
  rw [zj_hit] at r2
  have nz : ¬ jN c = 0 := fun q => by
    have := congrArg Int64.toInt q
    rw [jN_int (by omega)] at this
    have h2 : (0 : Int64).toInt = 0 := rfl
    omega
  have m : nxS s % c < 2147483648 := Nat.lt_trans (Nat.mod_lt _ hc) hc2
  have e2 : jN (nxS s) - jN (nxS s) / jN c * jN c = jN (nxS s % c) := jN_mod (by omega) (by omega)
  have bk := j_back m
  have jc := j_iN hc2
  have zz : zne (jN c = 0) = some () := if_neg nz
  simp only [s_X9_draw, r1, e, w1, r2, jc, zz, e2, bk, bind_ok, Option.bind_some]
section DS
variable {nP nF nB nT nS nL H hr : Nat} {B : Book} {R : Nat → Int32}
/-- the row after the stride that was drawn, if it is one -/
def stR2 (B : Book) (R : Nat → Int32) (nP nF hr s : Nat) : Nat → Int32 :=
  if nxS (nxS (nxS s)) % 4 = 3 then R
  else if cnP B R (nxS s % nF) (R (17 + nxS s % nF)).toNatClampNeg (nxS (nxS s) % nP) hr = true then up R (17 + nxS s % nF) (iN (nxS (nxS s) % nP)) else R
theorem okQ {f p : Nat} (hP : nP ≤ 10) (hp : p < nP) (hf : f < 4) : okI nP nF nT H (17 + f) (iN p) := okI_on hf ⟨p, by omega, rfl⟩ ((iN_lt (by omega) (by omega)).mpr hp)
theorem stR2_wf (h : WF nP nF nB nT nS nL H R) (hF : 0 < nF) (hP : 0 < nP) {s : Nat} : WF nP nF nB nT nS nL H (stR2 B R nP nF hr s) := by
  have h1 := h.1.1
  have h2 := h.1.2.1
  have hf := Nat.mod_lt (nxS s) hF
  have hp := Nat.mod_lt (nxS (nxS s)) hP
  unfold stR2
  generalize nxS (nxS (nxS s)) % 4 = k
  generalize nxS (nxS s) % nP = p at hp ⊢
  generalize nxS s % nF = f at hf ⊢
  split
  · exact h
  · split
    · exact h.put (by omega) (okQ h1 hp (by omega))
    · exact h
/-- one dusk of the class's -/
theorem dusk8 (m8 : M8 39 nP nF nB nT nS nL 999 B R σ) (hS : SK σ) (c13 : zi σ 1 13 = iN nF) (c3 : zi σ 2 3 = iN nP) (hF : 0 < nF) (hP : 0 < nP) (h7 : R 7 = iN hr) (hh : hr < 999) {s N i : Nat} (hs : s < 1000003) (hi : i < N) (hN : N < 2147483648) :
    ∃ t, s_X8_dusks_b81 0 (iN N) (iN s) (iN i) σ = some (Sum.inl (0, iN N, iN (nxS (nxS (nxS s))), iN (i + 1)), t) ∧ Ag (fun a k => Sb 39 a k ∨ a = 46) σ t ∧ M8 39 nP nF nB nT nS nL 999 B (psR B (stR2 B R nP nF hr s) nF nB hr) t := by
  have hF4 := m8.f4
  have hP10 := m8.p10
  have f1 : ¬ iN N ≤ iN i := (fun h => absurd ((iN_le (by omega) (by omega)).mp h) (by omega))
  have r2 := q_r0_2 hS
  have r10 := h_r0_10 m8.2.1
  have l14 := h_ld14 (n := 0) (by decide) m8.2.1
  rw [m8.2.2.1.g7, h7] at l14
  have l14 : ldI 11 σ (39 + 14) 0 = _ := l14
  have f2 : ¬ 999 ≤ iN hr := fun q => absurd ((iN_le (a := 999) (by decide) (by omega)).mp q) (by omega)
  have n1 := nxS_lt s
  have n2 := nxS_lt (nxS s)
  have n3 := nxS_lt (nxS (nxS s))
  have d1 := drawn8 (σ := σ) hs
  have d2 := drawn8 (σ := σ) n1
  have d3 := drawn8 (σ := σ) n2
  have r0 := q_r0_0 hS
  have i13 := h_i0 (k := 13) hS.hk1
  rw [c13] at i13
  have h0 := h_r0_0 hS.hk1
  have i3 := h_i1 (k := 3) hS.hk1
  rw [show zi σ (1 + 1) 3 = iN nP from c3] at i3
  have z1 : zne (iN nF = 0) = some () := if_neg (fun q => absurd ((iN_inj (b := 0) (by omega) (by decide)).mp q) (by omega))
  have z2 : zne (iN nP = 0) = some () := if_neg (fun q => absurd ((iN_inj (b := 0) (by omega) (by decide)).mp q) (by omega))
  have e1 : iN (nxS s) - iN (nxS s) / iN nF * iN nF = iN (nxS s % nF) := iN_mod (by omega) (by omega)
  have e2 : iN (nxS (nxS s)) - iN (nxS (nxS s)) / iN nP * iN nP = iN (nxS (nxS s) % nP) := iN_mod (by omega) (by omega)
  have e3 : iN (nxS (nxS (nxS s))) - iN (nxS (nxS (nxS s))) / 4 * 4 = iN (nxS (nxS (nxS s)) % 4) := iN_mod (b := 4) (by omega) (by decide)
  have hf := Nat.mod_lt (nxS s) hF
  have hp := Nat.mod_lt (nxS (nxS s)) hP
  obtain ⟨f, ef⟩ : ∃ f, nxS s % nF = f := ⟨_, rfl⟩
  obtain ⟨q, eq⟩ : ∃ q, nxS (nxS s) % nP = q := ⟨_, rfl⟩
  rw [ef] at e1 hf
  rw [eq] at e2 hp
  have h4 := Nat.mod_lt (nxS (nxS (nxS s))) (show 0 < 4 by decide)
  have k39 := h_ck0 m8.2.1
  have ip : iN i + 1 = iN (i + 1) := iN_add i 1
  have pass : ∀ (u : Hp) (R2 : Nat → Int32), M8 39 nP nF nB nT nS nL 999 B R2 u → SK u → R2 7 = iN hr → ∃ t, s_X8_dusks_j175 0 (iN N) (iN (nxS (nxS (nxS s)))) (iN i) u = some (Sum.inl (0, iN N, iN (nxS (nxS (nxS s))), iN (i + 1)), t) ∧ Ag (Sb 39) u t ∧ M8 39 nP nF nB nT nS nL 999 B (psR B R2 nF nB hr) t := fun u R2 mu hSu e7 => by
    obtain ⟨t, p1, p2, p3⟩ := passHour8 mu (hr := hr) (by omega) e7 (H2 := 999) (Nat.le_refl _) (by omega)
    have r2 := q_r0_2 hSu
    have ck := h_ck0 mu.2.1
    exact ⟨t, by simp only [s_X8_dusks_j175, r2, ck, p1, ip, z10', if_true, if_false, bind_ok, Option.bind_some, cb_some], p2, p3⟩
  by_cases c3' : nxS (nxS (nxS s)) % 4 = 3
  · have q3 : iN (nxS (nxS (nxS s)) % 4) = 3 := by rw [c3']; rfl
    obtain ⟨t, p1, p2, p3⟩ := pass σ R m8 hS h7
    rw [show stR2 B R nP nF hr s = R from if_pos c3']
    refine ⟨t, ?_, p2.mono (fun _ _ q => Or.inl q), p3⟩
    simp only [s_X8_dusks_b81, f1, r2, r10, l14, f2, d1, d2, d3, r0, i13, h0, i3, z1, z2, e3, q3, p1, z10', if_true, if_false, bind_ok, Option.bind_some, cb_some]
  · have q3 : ¬ iN (nxS (nxS (nxS s)) % 4) = 3 := fun q => c3' ((iN_inj (b := 3) (by omega) (by decide)).mp q)
    obtain ⟨p, hp', on⟩ := on_n m8.2.2.2.1 hf
    obtain ⟨u, u1, u2⟩ := may8 m8 (hr := hr) (by omega) h7 hf hp on hp'
    have mu := m8.ag u2
    have hSu := hS.ag u2
    have ec : stR2 B R nP nF hr s = if cnP B R (f) p (q) hr = true then up R (17 + f) (iN (q)) else R := by
      unfold stR2
      rw [if_neg c3', ef, eq, on, iN_nat (by omega)]
    rw [ec]
    cases c : cnP B R (f) p (q) hr with
    | false =>
      rw [c] at u1
      have u1 : s_X1_mayStride 39 (iN (f)) (iN (q)) σ = some (0, u) := u1
      obtain ⟨t, p1, p2, p3⟩ := pass u R mu hSu h7
      rw [if_neg (by decide)]
      refine ⟨t, ?_, (u2.mono (fun _ _ q => Or.inl (Or.inl q))).trans (p2.mono (fun _ _ q => Or.inl q)), p3⟩
      simp only [s_X8_dusks_b81, f1, r2, r10, l14, f2, d1, d2, d3, r0, i13, h0, i3, z1, z2, e1, e2, e3, q3, k39, u1, p1, z10', if_true, if_false, bind_ok, Option.bind_some, cb_some]
    | true =>
      rw [c] at u1
      have u1 : s_X1_mayStride 39 (iN (f)) (iN (q)) σ = some (1, u) := u1
      rw [if_pos rfl]
      have r2u := q_r0_2 hSu
      have r3u := h_r0_3 mu.2.1
      have st : stI u (39 + 7) (iN (f)) (iN (q)) = some (zsi u 46 (f) (iN (q))) := h_st7 (by omega) mu.2.1
      have ok : okI nP nF nT 999 (17 + f) (iN q) := okQ hP10 hp (by omega)
      have mv := m8_set mu (i := 17 + f) (by omega) (by omega) (loc_on _ (by omega)) (v := iN (q)) ok
      obtain ⟨t, p1, p2, p3⟩ := pass (zsi u 46 (f) (iN (q))) _ mv hSu ((up_ne (by omega)).trans h7)
      refine ⟨t, ?_, ((u2.mono (T := fun a k => Sb 39 a k ∨ a = 46) (fun _ _ q => Or.inl (Or.inl q))).trans (Ag.zsi (Or.inr rfl))).trans (p2.mono (fun _ _ q => Or.inl q)), p3⟩
      simp only [s_X8_dusks_b81, f1, r2, r10, l14, f2, d1, d2, d3, r0, i13, h0, i3, z1, z2, e1, e2, e3, q3, k39, u1, r2u, r3u, st, p1, z10', if_true, if_false, bind_ok, Option.bind_some, cb_some]
end DS
end V38
