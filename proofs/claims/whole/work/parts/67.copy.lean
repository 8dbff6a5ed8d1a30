/-! ===== a House copied from another ===== -/
section V35
variable {σ : Hp} {d c nP nF nB nT nS nL H : Nat} {B : Book} {R : Nat → Int32}
theorem stR_n {x e a n L : Nat} {v : Option Nat} (h : zk σ a = x) (hl : zl σ a = L) (hn : n < L) (hL : L < 2147483648) (hv : v = none ∨ ∃ b, v = some b ∧ zk σ b = e) : stR x e σ a (iN n) v = some (zsr σ a n v) := by
  unfold stR
  rw [if_pos ⟨h, by rw [hl]; exact iN_inb' hn hL, hv⟩, iN_nat (by omega)]
theorem copyRow8 {a b L : Nat} (ka : zk σ a = 11) (kb : zk σ b = 11) (hab : a ≠ b) (la : zl σ a = L) (lb : zl σ b = L) (hL : L < 2147483648) :
    ∃ s, s_X8_copyRow (some a) (some b) σ = some ((), s) ∧ Ag (Cp b 0 L) σ s ∧ ∀ i, i < L → zi s b i = zi σ a i := by
  have l1 : lnA 11 σ a = some (iN L) := (if_pos ka).trans (congrArg (fun n => some (Int32.ofNat n)) la)
  have l2 : lnA 11 σ b = some (iN L) := (if_pos kb).trans (congrArg (fun n => some (Int32.ofNat n)) lb)
  have f : ¬ iN L < iN L := Int32.lt_irrefl
  obtain ⟨s, h1, h2, h3⟩ := acopy_n (σ := σ) (a := a) (b := b) (sp := 0) (dp := 0) (n := L) ka kb hab la lb (by omega) (by omega) hL hL
  have h1 : acopy σ a 0 b 0 (iN L) = some s := h1
  refine ⟨s, ?_, h2, fun i hi => ?_⟩
  · simp only [s_X8_copyRow, l1, l2, f, h1, z10', if_true, if_false, bind_ok, Option.bind_some, cb_some]
  · have := h3 i hi
    rwa [show 0 + i = i by omega] at this
/-- two Houses apart -/
def Apart (d c : Nat) : Prop := (d + 19 ≤ c ∨ c + 19 ≤ d) ∧ d + 19 ≤ 156 ∧ c + 19 ≤ 156
def SD (d a : Nat) : Prop := d ≤ a ∧ a < d + 15
/-- the rows up to m are copied -/
def Qc (d c m : Nat) (σ s : Hp) : Prop := Ag (fun a _ => SD d a) σ s ∧ (∀ o, 2 ≤ o → o < m → ∀ k, k < hlL.getD o 0 → zi s (d + o) k = zi σ (c + o) k) ∧ (5 < m → zi s (d + 1) 3 = zi σ (c + 1) 3)
theorem hk_row : ∀ o, o < 15 → 2 ≤ o → hkL.getD o 0 = 11 ∧ hlL.getD o 0 < 2147483648 := by decide
theorem Qc.hk {s : Hp} {m b : Nat} (h : Qc d c m σ s) (hb : HK b σ) : HK b s := hb.ag h.1
theorem row_step {s : Hp} {m : Nat} (hd : HK d σ) (hc : HK c σ) (hA : Apart d c) (h2 : 2 ≤ m) (h15 : m < 15) (h5 : m = 5 → zi s (d + 1) 3 = zi σ (c + 1) 3) (hQ : Qc d c m σ s) :
    ∃ s1, s_X8_copyRow (some (c + m)) (some (d + m)) s = some ((), s1) ∧ Qc d c (m + 1) σ s1 := by
  obtain ⟨q1, q2, q3⟩ := hQ
  have hkm := hk_row m h15 h2
  have kc := (hc.ag q1).1 m (by omega)
  have kd := (hd.ag q1).1 m (by omega)
  rw [hkm.1] at kc kd
  unfold Apart at hA
  obtain ⟨s1, g1, g2, g3⟩ := copyRow8 (σ := s) kc.1 kd.1 (by omega) kc.2 kd.2 hkm.2
  refine ⟨s1, g1, q1.trans (g2.mono (fun a k q => by unfold SD; have := q.1; omega)), fun o ho1 ho2 k hk => ?_, fun hm => ?_⟩
  · by_cases e : o = m
    · subst e
      rw [g3 k hk]
      exact (q1.2.2.2.2 (c + o) k (by unfold SD; omega)).1
    · rw [(g2.2.2.2.2 (d + o) k (fun q => by have := q.1; omega)).1]
      exact q2 o ho1 (by omega) k hk
  · rw [(g2.2.2.2.2 (d + 1) 3 (fun q => by have := q.1; omega)).1]
    by_cases e : m = 5
    · exact h5 e
    · exact q3 (by omega)
/-- what a copying changes -/
def Ac (d : Nat) (σ s : Hp) : Prop := zn s = zn σ ∧ zk s = zk σ ∧ zl s = zl σ ∧ (∀ a k, ¬ SD d a → zi s a k = zi σ a k ∧ zj s a k = zj σ a k) ∧ ∀ a k, a ≠ d + 15 → zr s a k = zr σ a k
/-- the heap as if no text were copied -/
def mask (σ s : Hp) : Hp := (zn s, zk s, zl s, zi s, zj s, zr σ)
theorem Ac.ag {s : Hp} (h : Ac d σ s) : Ag (fun a _ => SD d a) σ (mask σ s) := ⟨h.1, h.2.1, h.2.2.1, rfl, h.2.2.2.1⟩
theorem hr_15 : ∀ t ∈ hrL, t.1 < 17 ∧ t.1 ≠ 15 := by decide
theorem hk_zr {b : Nat} {s : Hp} (h : HK b σ) (e1 : zk s = zk σ) (e2 : zl s = zl σ) (e3 : ∀ a k, a ≠ d + 15 → zr s a k = zr σ a k) (hb : b = d ∨ b + 19 ≤ d ∨ d + 19 ≤ b) : HK b s := by
  refine ⟨fun a ha => by rw [e1, e2]; exact h.1 a ha, fun t ht => ?_⟩
  have := hr_15 t ht
  rw [e3 _ _ (by omega)]
  exact h.2 t ht
theorem loc_ok : ∀ i, i < 178 → ((loc i).1 = 0 ∧ 13 ≤ (loc i).2 ∧ (loc i).2 ≤ 19) ∨ ((loc i).1 = 1 ∧ (loc i).2 = 3) ∨ (2 ≤ (loc i).1 ∧ (loc i).1 < 15 ∧ (loc i).2 < hlL.getD (loc i).1 0) := by decide +kernel
theorem copyFrom8 (hd : HK d σ) (hc : HK c σ) (hA : Apart d c) (hx : ∀ j, j < 6 → zr σ (c + 15) j = none ∨ ∃ t, zr σ (c + 15) j = some t ∧ zk σ t = 7) :
    ∃ s, s_X1_copyFrom d (some c) σ = some ((), s) ∧ Ac d σ s ∧ (∀ R, HHm c σ R → HHm d s R) ∧ ∀ j, j < 6 → zr s (d + 15) j = zr σ (c + 15) j := by
  have Q2 : Qc d c 2 σ σ := ⟨Ag.refl, fun o h1 h2 => by omega, fun h => by omega⟩
  have ap := hA
  unfold Apart at ap
  obtain ⟨s2, a2, Q3⟩ := row_step hd hc hA (by decide) (by decide) (by omega) Q2
  have d2 := Q3.hk hd
  have c2 := Q3.hk hc
  obtain ⟨s3, a3, Q4⟩ := row_step hd hc hA (by decide) (by decide) (by omega) Q3
  have d3 := Q4.hk hd
  have c3 := Q4.hk hc
  obtain ⟨s4, a4, Q5⟩ := row_step hd hc hA (by decide) (by decide) (by omega) Q4
  have d4 := Q5.hk hd
  have c4 := Q5.hk hc
  have i13 := h_i1 (k := 3) c4
  rw [(Q5.1.2.2.2.2 (c + 1) 3 (by unfold SD; omega)).1] at i13
  have w13 := h_w1 (k := 3) (v := zi σ (c + 1) 3) d4
  have Q5' : Qc d c 5 σ (zsi s4 (d + 1) 3 (zi σ (c + 1) 3)) := ⟨Q5.1.trans (Ag.zsi (by unfold SD; omega)), fun o h1 h2 k hk => by
    rw [zi_ne (by omega)]
    exact Q5.2.1 o h1 h2 k hk, fun h => by omega⟩
  have e13 : zi (zsi s4 (d + 1) 3 (zi σ (c + 1) 3)) (d + 1) 3 = zi σ (c + 1) 3 := zi_hit
  have x3 : s_X3_copyFrom (d + 1) (some (c + 1)) σ = some ((), zsi s4 (d + 1) 3 (zi σ (c + 1) 3)) := by
    have p1 := h_r1_0 hc
    have p2 := h_r1_0 hd
    have p3 := h_r1_1 c2
    have p4 := h_r1_1 d2
    have p5 := h_r1_2 c3
    have p6 := h_r1_2 d3
    simp only [s_X3_copyFrom, p1, p2, a2, p3, p4, a3, p5, p6, a4, i13, w13, z10', if_true, if_false, bind_ok, Option.bind_some, cb_some]
  generalize zsi s4 (d + 1) 3 (zi σ (c + 1) 3) = s5 at Q5' e13 x3
  have dd5 := Q5'.hk hd
  have cc5 := Q5'.hk hc
  obtain ⟨s6, a6, Q6⟩ := row_step hd hc hA (by decide) (by decide) (fun _ => e13) Q5'
  have dd6 := Q6.hk hd
  have cc6 := Q6.hk hc
  obtain ⟨s7, a7, Q7⟩ := row_step hd hc hA (by decide) (by decide) (by omega) Q6
  have dd7 := Q7.hk hd
  have cc7 := Q7.hk hc
  obtain ⟨s8, a8, Q8⟩ := row_step hd hc hA (by decide) (by decide) (by omega) Q7
  have dd8 := Q8.hk hd
  have cc8 := Q8.hk hc
  obtain ⟨s9, a9, Q9⟩ := row_step hd hc hA (by decide) (by decide) (by omega) Q8
  have dd9 := Q9.hk hd
  have cc9 := Q9.hk hc
  obtain ⟨s10, a10, Q10⟩ := row_step hd hc hA (by decide) (by decide) (by omega) Q9
  have dd10 := Q10.hk hd
  have cc10 := Q10.hk hc
  obtain ⟨s11, a11, Q11⟩ := row_step hd hc hA (by decide) (by decide) (by omega) Q10
  have dd11 := Q11.hk hd
  have cc11 := Q11.hk hc
  obtain ⟨s12, a12, Q12⟩ := row_step hd hc hA (by decide) (by decide) (by omega) Q11
  have dd12 := Q12.hk hd
  have cc12 := Q12.hk hc
  obtain ⟨s13, a13, Q13⟩ := row_step hd hc hA (by decide) (by decide) (by omega) Q12
  have dd13 := Q13.hk hd
  have cc13 := Q13.hk hc
  obtain ⟨s14, a14, Q14⟩ := row_step hd hc hA (by decide) (by decide) (by omega) Q13
  have dd14 := Q14.hk hd
  have cc14 := Q14.hk hc
  obtain ⟨s15, a15, Q15⟩ := row_step hd hc hA (by decide) (by decide) (by omega) Q14
  have dd15 := Q15.hk hd
  have cc15 := Q15.hk hc
  -- the texts
  obtain ⟨t, g1, g2, g3, g4, g5, g6, g7, g8⟩ := loop_to (body := fun v => s_X1_copyFrom_b123 (v.1) (v.2.1) (v.2.2)) (fun i t => zn t = zn σ ∧ zk t = zk σ ∧ zl t = zl σ ∧ zi t = zi s15 ∧ zj t = zj s15 ∧ (∀ a k, a ≠ d + 15 → zr t a k = zr σ a k) ∧ ∀ j, j < i → zr t (d + 15) j = zr σ (c + 15) j) (fun t => zn t = zn σ ∧ zk t = zk σ ∧ zl t = zl σ ∧ zi t = zi s15 ∧ zj t = zj s15 ∧ (∀ a k, a ≠ d + 15 → zr t a k = zr σ a k) ∧ ∀ j, j < 6 → zr t (d + 15) j = zr σ (c + 15) j) (fun i => (d, some c, iN i)) (d, some c) 6 (fun i t hi ht => by
    obtain ⟨t1, t2, t3, t4, t5, t6, t7⟩ := ht
    have kd : HK d t := hk_zr hd t2 t3 t6 (Or.inl rfl)
    have kc : HK c t := hk_zr hc t2 t3 t6 (by omega)
    have f1 : ¬ (6 : Int32) ≤ iN i := fun q => absurd ((iN_le (a := 6) (by decide) (by omega)).mp q) (by omega)
    have i1 : iN i + 1 = iN (i + 1) := iN_add i 1
    have r1 := h_r0_11 kd
    have r2 := h_r0_11 kc
    have l := h_ld15 (n := i) hi kc
    rw [t6 _ _ (by omega)] at l
    have st := stR_n (e := 7) (v := zr σ (c + 15) i) (h_k15 kd) (h_l15 kd) hi (by decide) (by
      rw [t2]
      exact hx i hi)
    refine ⟨zsr t (d + 15) i (zr σ (c + 15) i), by simp only [s_X1_copyFrom_b123, f1, r1, r2, l, st, i1, z10', if_true, if_false, bind_ok, Option.bind_some, cb_some], t1, t2, t3, t4, t5, fun a k ha => ?_, fun j hj => ?_⟩
    · show up2 (zr t) (d + 15) i _ a k = _
      rw [up2_ne ha]
      exact t6 a k ha
    · show up2 (zr t) (d + 15) i _ (d + 15) j = _
      rw [up2_up]
      by_cases e : j = i
      · subst e
        exact up_eq
      · rw [up_ne e]
        exact t7 j (by omega)) (fun t ht => by
    have f1 : (6 : Int32) ≤ iN 6 := by decide
    exact ⟨t, by simp only [s_X1_copyFrom_b123, f1, z10', if_true, if_false, bind_ok, Option.bind_some, cb_some], ht⟩) (σ := s15) ⟨Q15.1.1, Q15.1.2.1, Q15.1.2.2.1, rfl, rfl, fun a k _ => by rw [Q15.1.2.2.2.1], fun j hj => by omega⟩
  have g1 : s_X1_copyFrom_l123 (d, some c, 0) s15 = _ := g1
  have kd : HK d t := hk_zr hd g3 g4 g7 (Or.inl rfl)
  have kc : HK c t := hk_zr hc g3 g4 g7 (by omega)
  have ci : ∀ k, zi t c k = zi σ c k := fun k => by
    rw [g5]
    exact (Q15.1.2.2.2.2 c k (by unfold SD; omega)).1
  -- the fields
  have fi : ∀ (s : Hp) (k : Nat), HK c s → zi s c k = zi σ c k → rdI 1 s c k = some (zi σ c k) := fun s k h e => (h_i0 h).trans (congrArg some e)
  have z1 := fi t 13 kc (ci 13)
  have y1 := h_w0 (k := 13) (v := zi σ c 13) kd
  have z2 := fi (zsi t d 13 (zi σ c 13)) 14 kc ((congrFun (zi_ne (by omega)) 14).trans (ci 14))
  have y2 := h_w0 (σ := zsi t d 13 (zi σ c 13)) (k := 14) (v := zi σ c 14) kd
  have z3 := fi (zsi (zsi t d 13 (zi σ c 13)) d 14 (zi σ c 14)) 15 kc (by rw [zi_ne (by omega), zi_ne (by omega)]; exact ci 15)
  have y3 := h_w0 (σ := zsi (zsi t d 13 (zi σ c 13)) d 14 (zi σ c 14)) (k := 15) (v := zi σ c 15) kd
  have z4 := fi (zsi (zsi (zsi t d 13 (zi σ c 13)) d 14 (zi σ c 14)) d 15 (zi σ c 15)) 16 kc (by rw [zi_ne (by omega), zi_ne (by omega), zi_ne (by omega)]; exact ci 16)
  have y4 := h_w0 (σ := zsi (zsi (zsi t d 13 (zi σ c 13)) d 14 (zi σ c 14)) d 15 (zi σ c 15)) (k := 16) (v := zi σ c 16) kd
  have z5 := fi (zsi (zsi (zsi (zsi t d 13 (zi σ c 13)) d 14 (zi σ c 14)) d 15 (zi σ c 15)) d 16 (zi σ c 16)) 17 kc (by rw [zi_ne (by omega), zi_ne (by omega), zi_ne (by omega), zi_ne (by omega)]; exact ci 17)
  have y5 := h_w0 (σ := zsi (zsi (zsi (zsi t d 13 (zi σ c 13)) d 14 (zi σ c 14)) d 15 (zi σ c 15)) d 16 (zi σ c 16)) (k := 17) (v := zi σ c 17) kd
  have z6 := fi (zsi (zsi (zsi (zsi (zsi t d 13 (zi σ c 13)) d 14 (zi σ c 14)) d 15 (zi σ c 15)) d 16 (zi σ c 16)) d 17 (zi σ c 17)) 18 kc (by rw [zi_ne (by omega), zi_ne (by omega), zi_ne (by omega), zi_ne (by omega), zi_ne (by omega)]; exact ci 18)
  have y6 := h_w0 (σ := zsi (zsi (zsi (zsi (zsi t d 13 (zi σ c 13)) d 14 (zi σ c 14)) d 15 (zi σ c 15)) d 16 (zi σ c 16)) d 17 (zi σ c 17)) (k := 18) (v := zi σ c 18) kd
  have z7 := fi (zsi (zsi (zsi (zsi (zsi (zsi t d 13 (zi σ c 13)) d 14 (zi σ c 14)) d 15 (zi σ c 15)) d 16 (zi σ c 16)) d 17 (zi σ c 17)) d 18 (zi σ c 18)) 19 kc (by rw [zi_ne (by omega), zi_ne (by omega), zi_ne (by omega), zi_ne (by omega), zi_ne (by omega), zi_ne (by omega)]; exact ci 19)
  have y7 := h_w0 (σ := zsi (zsi (zsi (zsi (zsi (zsi t d 13 (zi σ c 13)) d 14 (zi σ c 14)) d 15 (zi σ c 15)) d 16 (zi σ c 16)) d 17 (zi σ c 17)) d 18 (zi σ c 18)) (k := 19) (v := zi σ c 19) kd
  refine ⟨zsi (zsi (zsi (zsi (zsi (zsi (zsi t d 13 (zi σ c 13)) d 14 (zi σ c 14)) d 15 (zi σ c 15)) d 16 (zi σ c 16)) d 17 (zi σ c 17)) d 18 (zi σ c 18)) d 19 (zi σ c 19), ?_, ⟨g2, g3, g4, fun a k hn => ⟨?_, ?_⟩, g7⟩, fun R hR i hi => ?_, g8⟩
  · have b0 := h_r0_0 hd
    have b1 := h_r0_0 hc
    have b2 := h_ck1 hd
    have b3 := h_r0_1 cc5
    have b4 := h_r0_1 dd5
    have b5 := h_r0_2 cc6
    have b6 := h_r0_2 dd6
    have b7 := h_r0_3 cc7
    have b8 := h_r0_3 dd7
    have b9 := h_r0_4 cc8
    have b10 := h_r0_4 dd8
    have b11 := h_r0_5 cc9
    have b12 := h_r0_5 dd9
    have b13 := h_r0_6 cc10
    have b14 := h_r0_6 dd10
    have b15 := h_r0_7 cc11
    have b16 := h_r0_7 dd11
    have b17 := h_r0_8 cc12
    have b18 := h_r0_8 dd12
    have b19 := h_r0_9 cc13
    have b20 := h_r0_9 dd13
    have b21 := h_r0_10 cc14
    have b22 := h_r0_10 dd14
    simp only [s_X1_copyFrom, b0, b1, b2, x3, b3, b4, a6, b5, b6, a7, b7, b8, a8, b9, b10, a9, b11, b12, a10, b13, b14, a11, b15, b16, a12, b17, b18, a13, b19, b20, a14, b21, b22, a15, g1, z1, y1, z2, y2, z3, y3, z4, y4, z5, y5, z6, y6, z7, y7, z10', if_true, if_false, bind_ok, Option.bind_some, cb_some]
  · have hna : a ≠ d := fun e => hn (by unfold SD; omega)
    rw [zi_ne hna, zi_ne hna, zi_ne hna, zi_ne hna, zi_ne hna, zi_ne hna, zi_ne hna, g5]
    exact (Q15.1.2.2.2.2 a k hn).1
  · show zj t a k = zj σ a k
    rw [g6]
    exact (Q15.1.2.2.2.2 a k hn).2
  · rw [← hR i hi]
    rcases loc_ok i hi with ⟨h1, h2, h3⟩ | ⟨h1, h2⟩ | ⟨h1, h2, h3⟩
    · rw [h1, Nat.add_zero, Nat.add_zero]
      have h4 : (loc i).2 = 13 ∨ (loc i).2 = 14 ∨ (loc i).2 = 15 ∨ (loc i).2 = 16 ∨ (loc i).2 = 17 ∨ (loc i).2 = 18 ∨ (loc i).2 = 19 := by omega
      rcases h4 with h4 | h4 | h4 | h4 | h4 | h4 | h4 <;> (rw [h4]; simp (disch := decide) only [zi_hit, zi_miss])
    · rw [h1, h2, zi_ne (by omega), zi_ne (by omega), zi_ne (by omega), zi_ne (by omega), zi_ne (by omega), zi_ne (by omega), zi_ne (by omega), g5]
      exact Q15.2.2 (by decide)
    · rw [zi_ne (by omega), zi_ne (by omega), zi_ne (by omega), zi_ne (by omega), zi_ne (by omega), zi_ne (by omega), zi_ne (by omega), g5]
      exact Q15.2.1 _ h1 h2 _ h3
end V35
