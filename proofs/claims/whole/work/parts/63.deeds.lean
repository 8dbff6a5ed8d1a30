/-! ===== both remember a deed ===== -/
section V31
variable {σ : Hp}
theorem acopy_n {a b sp dp n La Lb : Nat} (ka : zk σ a = 11) (kb : zk σ b = 11) (hab : a ≠ b) (la : zl σ a = La) (lb : zl σ b = Lb) (h1 : sp + n ≤ La) (h2 : dp + n ≤ Lb) (hLa : La < 2147483648) (hLb : Lb < 2147483648) :
    ∃ s, acopy σ a (iN sp) b (iN dp) (iN n) = some s ∧ Ag (Cp b dp n) σ s ∧ ∀ i, i < n → zi s b (dp + i) = zi σ a (sp + i) := by
  have c : zk σ a = 11 ∧ zk σ b = 11 ∧ a ≠ b ∧ ¬ iN sp < 0 ∧ ¬ iN dp < 0 ∧ ¬ iN n < 0 ∧ (iN sp).toNatClampNeg + (iN n).toNatClampNeg ≤ zl σ a ∧ (iN dp).toNatClampNeg + (iN n).toNatClampNeg ≤ zl σ b :=
    ⟨ka, kb, hab, iN_nn (by omega), iN_nn (by omega), iN_nn (by omega), by rw [iN_nat (by omega), iN_nat (by omega), la]; exact h1, by rw [iN_nat (by omega), iN_nat (by omega), lb]; exact h2⟩
  refine ⟨_, if_pos c, ⟨rfl, rfl, rfl, rfl, fun x k hn => ⟨?_, rfl⟩⟩, fun i hi => ?_⟩
  · show va_up (zi σ) b _ x k = _
    by_cases e : x = b
    · subst e
      rw [va_up_self, iN_nat (by omega), iN_nat (by omega), iN_nat (by omega)]
      exact if_neg (fun q => hn ⟨rfl, q.1, q.2⟩)
    · rw [va_up_ne _ _ e]
  · show va_up (zi σ) b _ b (dp + i) = _
    rw [va_up_self, iN_nat (by omega), iN_nat (by omega), iN_nat (by omega)]
    refine (if_pos ⟨by omega, by omega⟩).trans ?_
    rw [show dp + i - dp = i by omega]
def S110 (a k : Nat) : Prop := a = 110 ∨ (a = 109 ∧ k = 1)
/-- how many deeds stay -/
def stay (n : Nat) : Nat := if n = 16 then 15 else n
theorem stay_lt {n : Nat} (h : n ≤ 16) : stay n < 16 ∧ (n = 16 ∨ n < 16) := by
  unfold stay
  split <;> omega
/-- the place a kept deed had -/
def was (n k : Nat) : Nat := if n = 16 then k + 1 else k
theorem slide8 (hS : SK σ) {p1 p2 p3 : Int32} {r : Option Nat} :
    ∃ s, s_X0_add_l12 (109, p1, p2, p3, r, 0) σ = some ((109, p1, p2, p3, r), s) ∧ Ag (fun a _ => a = 110) σ s ∧ ∀ i, i < 105 → zi s 110 i = zi σ 110 (i + 7) := by
  obtain ⟨s, g1, g2, g3, g4⟩ := loop_copy (body := fun v => s_X0_add_b12 (v.1) (v.2.1) (v.2.2.1) (v.2.2.2.1) (v.2.2.2.2.1) (v.2.2.2.2.2)) 110 0 110 7 105 (fun i => (109, p1, p2, p3, r, iN i)) (109, p1, p2, p3, r) (Or.inr (by decide)) hS (fun i t hi ht => by
    have r0 := q_r109_0 ht
    have ln := q_ln110 ht
    have a7 : iN i + 7 = iN (i + 7) := iN_add i 7
    have f1 : ¬ iN 112 ≤ iN (i + 7) := (fun h => absurd ((iN_le (by omega) (by omega)).mp h) (by omega))
    have i1 : iN i + 1 = iN (i + 1) := iN_add i 1
    have l := q_ld110 (n := i + 7) (by omega) ht
    have st := q_st110 (n := i) (v := zi t 110 (i + 7)) (by omega) ht
    rw [show 0 + i = i by omega, show 7 + i = i + 7 by omega]
    simp only [s_X0_add_b12, r0, ln, a7, f1, l, st, i1, z10', if_true, if_false, bind_ok, Option.bind_some, cb_some]) (fun t ht => by
    have r0 := q_r109_0 ht
    have ln := q_ln110 ht
    have f1 : iN 112 ≤ iN 105 + 7 := by decide
    simp only [s_X0_add_b12, r0, ln, f1, z10', if_true, if_false, bind_ok, Option.bind_some, cb_some])
  refine ⟨s, g1, g2.mono (fun a k q => q.1), fun i hi => ?_⟩
  have := g3 i hi
  rwa [show 0 + i = i by omega, show 7 + i = i + 7 by omega] at this
/-- the new deed -/
def newD (k a b : Int32) (σ : Hp) : Nat → Int32
  | 0 => k
  | 1 => a
  | 2 => b
  | 3 => zi σ 1 18
  | m + 4 => zi σ 9 m
theorem write8 (hS : SK σ) {n : Nat} (hn : zi σ 109 1 = iN n) (h : n < 16) {k a b : Int32} :
    ∃ s, s_X0_add_j54 109 k a b (some 1) σ = some ((), s) ∧ Ag S110 σ s ∧ zi s 109 1 = iN (n + 1) ∧ (∀ i, i < 7 * n → zi s 110 i = zi σ 110 i) ∧ ∀ m, m < 7 → zi s 110 (7 * n + m) = newD k a b σ m := by
  have i1 := q_i109 (k := 1) hS
  rw [hn] at i1
  have r0 := q_r109_0 hS
  have m7 : ∀ m, m < 8 → iN n * 7 + iN m = iN (7 * n + m) := fun m _ => by rw [show (7 : Int32) = iN 7 from rfl, iN_mul, iN_add, Nat.mul_comm]
  have ms0 := m7 0 (by decide)
  have ms1 := m7 1 (by decide)
  have ms2 := m7 2 (by decide)
  have ms3 := m7 3 (by decide)
  have ms4 := m7 4 (by decide)
  have ms0 : iN n * 7 + 0 = _ := ms0
  have ms1 : iN n * 7 + 1 = _ := ms1
  have ms2 : iN n * 7 + 2 = _ := ms2
  have ms3 : iN n * 7 + 3 = _ := ms3
  have ms4 : iN n * 7 + 4 = _ := ms4
  have A0 : Ag S110 σ (zsi σ 110 (7 * n + 0) k) := Ag.zsi (Or.inl rfl)
  have S0 := hS.ag A0
  have A1 : Ag S110 σ (zsi (zsi σ 110 (7 * n + 0) k) 110 (7 * n + 1) a) := A0.trans (Ag.zsi (Or.inl rfl))
  have S1 := hS.ag A1
  have A2 : Ag S110 σ (zsi (zsi (zsi σ 110 (7 * n + 0) k) 110 (7 * n + 1) a) 110 (7 * n + 2) b) := A1.trans (Ag.zsi (Or.inl rfl))
  have S2 := hS.ag A2
  have st0 := q_st110 (n := 7 * n + 0) (v := k) (by omega) hS
  have st1 := q_st110 (n := 7 * n + 1) (v := a) (by omega) S0
  have st2 := q_st110 (n := 7 * n + 2) (v := b) (by omega) S1
  have st3 := q_st110 (n := 7 * n + 3) (v := zi σ 1 18) (by omega) S2
  have r1 := q_r109_0 S0
  have r2 := q_r109_0 S1
  have r3 := q_r109_0 S2
  have c18 := h_i0 (k := 18) S2.hk1
  have no : ∀ {x j : Nat}, x ≠ 110 → x ≠ 109 → ¬ S110 x j := fun h1 h2 q => q.elim h1 (fun e => h2 e.1)
  rw [(A2.2.2.2.2 1 18 (no (by decide) (by decide))).1] at c18
  have A3 : Ag S110 σ (zsi (zsi (zsi (zsi σ 110 (7 * n + 0) k) 110 (7 * n + 1) a) 110 (7 * n + 2) b) 110 (7 * n + 3) (zi σ 1 18)) := A2.trans (Ag.zsi (Or.inl rfl))
  have S3 := hS.ag A3
  have r4 := q_r109_0 S3
  have h4 := h_r0_4 S3.hk1
  have hk9 := S3.hk1.1 8 (by decide)
  obtain ⟨s4, c1, c2, c3⟩ := acopy_n (σ := zsi (zsi (zsi (zsi σ 110 (7 * n + 0) k) 110 (7 * n + 1) a) 110 (7 * n + 2) b) 110 (7 * n + 3) (zi σ 1 18)) (a := 1 + 8) (b := 110) (sp := 0) (dp := 7 * n + 4) (n := 3) (La := 3) (Lb := 112) (S3.hk1.1 8 (by decide)).1 (S3.2.1 110 (by decide)).1 (by decide) (S3.hk1.1 8 (by decide)).2 (S3.2.1 110 (by decide)).2 (by decide) (by omega) (by decide) (by decide)
  have c1 : acopy (zsi (zsi (zsi (zsi σ 110 (7 * n + 0) k) 110 (7 * n + 1) a) 110 (7 * n + 2) b) 110 (7 * n + 3) (zi σ 1 18)) (1 + 8) 0 110 (iN (7 * n + 4)) 3 = some s4 := c1
  have A4 : Ag S110 σ s4 := A3.trans (c2.mono (fun x j q => Or.inl q.1))
  have S4 := hS.ag A4
  have i4 := q_i109 (k := 1) S4
  have e109 : zi s4 109 1 = iN n := by
    rw [(c2.2.2.2.2 109 1 (fun q => absurd q.1 (by decide))).1, zi_ne (by decide), zi_ne (by decide), zi_ne (by decide), zi_ne (by decide)]
    exact hn
  rw [e109] at i4
  have ip : iN n + 1 = iN (n + 1) := iN_add n 1
  have w4 := q_w109 (k := 1) (v := iN (n + 1)) S4
  have e9 : ∀ j, zi (zsi (zsi (zsi (zsi σ 110 (7 * n + 0) k) 110 (7 * n + 1) a) 110 (7 * n + 2) b) 110 (7 * n + 3) (zi σ 1 18)) (1 + 8) j = zi σ 9 j := fun j => (A3.2.2.2.2 9 j (no (by decide) (by decide))).1
  have lo : ∀ j, ¬ (7 * n + 4 ≤ j ∧ j < 7 * n + 7) → zi (zsi s4 109 1 (iN (n + 1))) 110 j = zi (zsi (zsi (zsi (zsi σ 110 (7 * n + 0) k) 110 (7 * n + 1) a) 110 (7 * n + 2) b) 110 (7 * n + 3) (zi σ 1 18)) 110 j := fun j hj => by
    rw [zi_ne (by decide), (c2.2.2.2.2 110 j (fun q => hj ⟨q.2.1, by have := q.2.2; omega⟩)).1]
  refine ⟨zsi s4 109 1 (iN (n + 1)), ?_, A4.trans (Ag.zsi (Or.inr ⟨rfl, rfl⟩)), zi_hit, fun i hi => ?_, fun m hm => ?_⟩
  · simp only [s_X0_add_j54, i1, r0, ms0, ms1, ms2, ms3, ms4, st0, st1, st2, st3, r1, r2, r3, c18, r4, h4, c1, i4, ip, w4, z10', if_true, if_false, bind_ok, Option.bind_some, cb_some]
  · rw [lo i (by omega), zi_miss (by omega), zi_miss (by omega), zi_miss (by omega), zi_miss (by omega)]
  · match m, hm with
    | 0, _ => rw [lo _ (by omega), zi_miss (by omega), zi_miss (by omega), zi_miss (by omega), zi_hit]; rfl
    | 1, _ => rw [lo _ (by omega), zi_miss (by omega), zi_miss (by omega), zi_hit]; rfl
    | 2, _ => rw [lo _ (by omega), zi_miss (by omega), zi_hit]; rfl
    | 3, _ => rw [lo _ (by omega), zi_hit]; rfl
    | 4, _ => rw [zi_ne (by decide), show 7 * n + 4 = 7 * n + 4 + 0 by omega, c3 0 (by decide), e9]; rfl
    | 5, _ => rw [zi_ne (by decide), show 7 * n + 5 = 7 * n + 4 + 1 by omega, c3 1 (by decide), e9]; rfl
    | 6, _ => rw [zi_ne (by decide), show 7 * n + 6 = 7 * n + 4 + 2 by omega, c3 2 (by decide), e9]; rfl
    | m + 7, hm => exact absurd hm (by omega)
theorem deed8 (hS : SK σ) {n : Nat} (hn : zi σ 109 1 = iN n) (h : n ≤ 16) {k a b : Int32} :
    ∃ s, s_X0_add 109 k a b (some 1) σ = some ((), s) ∧ Ag S110 σ s ∧ zi s 109 1 = iN (stay n + 1) ∧ (∀ j m, j < stay n → m < 7 → zi s 110 (7 * j + m) = zi σ 110 (7 * was n j + m)) ∧ ∀ m, m < 7 → zi s 110 (7 * stay n + m) = newD k a b σ m := by
  have i1 := q_i109 (k := 1) hS
  rw [hn] at i1
  by_cases c : n = 16
  · have f1 : ¬ iN n < 16 := fun q => absurd ((iN_lt (b := 16) (by omega) (by decide)).mp q) (by omega)
    obtain ⟨s1, g1, g2, g3⟩ := slide8 hS (p1 := k) (p2 := a) (p3 := b) (r := some 1)
    have S1 := hS.ag g2
    have w := q_w109 (k := 1) (v := 15) S1
    have w : wrI 0 s1 109 1 15 = some (zsi s1 109 1 (iN 15)) := w
    have A1 : Ag S110 σ (zsi s1 109 1 (iN 15)) := (g2.mono (fun _ _ q => Or.inl q)).trans (Ag.zsi (Or.inr ⟨rfl, rfl⟩))
    have S2 := hS.ag A1
    obtain ⟨s2, k1, k2, k3, k4, k5⟩ := write8 S2 (n := 15) zi_hit (by decide) (k := k) (a := a) (b := b)
    have e1 : stay n = 15 := if_pos c
    refine ⟨s2, ?_, A1.trans k2, by rw [e1]; exact k3, fun j m hj hm => ?_, fun m hm => ?_⟩
    · simp only [s_X0_add, i1, f1, g1, w, k1, z10', if_true, if_false, bind_ok, Option.bind_some, cb_some]
    · rw [e1] at hj
      rw [k4 _ (by omega), zi_ne (by decide), g3 _ (by omega), show was n j = j + 1 from if_pos c, show 7 * (j + 1) + m = 7 * j + m + 7 by omega]
    · rw [e1, k5 m hm]
      have e9 : ∀ x j, x ≠ 110 → x ≠ 109 → zi (zsi s1 109 1 (iN 15)) x j = zi σ x j := fun x j h1 h2 => (A1.2.2.2.2 x j (fun q => q.elim h1 (fun e => h2 e.1))).1
      match m with
      | 0 => rfl
      | 1 => rfl
      | 2 => rfl
      | 3 => exact e9 1 18 (by decide) (by decide)
      | m + 4 => exact e9 9 m (by decide) (by decide)
  · have f1 : iN n < 16 := (iN_lt (b := 16) (by omega) (by decide)).mpr (by omega)
    have e1 : stay n = n := if_neg c
    obtain ⟨s2, k1, k2, k3, k4, k5⟩ := write8 hS (n := n) hn (by omega) (k := k) (a := a) (b := b)
    refine ⟨s2, ?_, k2, by rw [e1]; exact k3, fun j m hj hm => ?_, fun m hm => by rw [e1]; exact k5 m hm⟩
    · simp only [s_X0_add, i1, f1, k1, z10', if_true, if_false, bind_ok, Option.bind_some, cb_some]
    · rw [e1] at hj
      rw [k4 _ (by omega), show was n j = j from if_neg c]
/-! the reference -/
def S131 (a k : Nat) : Prop := (a = 130 ∧ k < 368) ∨ a = 131 ∨ (a = 125 ∧ k = 8)
theorem note9 (hS : SK σ) {n : Nat} (hn : zi σ 125 8 = iN n) (h : n < 16) {k : Int32} :
    ∃ s, s_X9_remember_j77 125 k σ = some ((), s) ∧ Ag S131 σ s ∧ zi s 125 8 = iN (n + 1) ∧ (∀ i, i < 23 * n → zi s 130 i = zi σ 130 i) ∧ (∀ i, i < 23 → zi s 130 (23 * n + i) = zi σ 127 (7 + i)) ∧ (∀ j, j < n → zi s 131 j = zi σ 131 j) ∧ zi s 131 n = k := by
  have i1 := q_i125 (k := 8) hS
  rw [hn] at i1
  have bk := q_ck125 hS
  obtain ⟨s1, g1, g2, g3, g4⟩ := keep9 hS (k := n) (by omega)
  have S1 := hS.ag g2
  have r7 := q_r125_7 S1
  have i2 := q_i125 (k := 8) S1
  rw [(g2.2.2.2.2 125 8 (fun q => absurd q.1 (by decide))).1, hn] at i2
  have st := q_st131 (n := n) (v := k) h S1
  have A2 : Ag S131 σ (zsi s1 131 n k) := (g2.mono (T := S131) (fun a j q => Or.inl ⟨q.1, by have := q.2.2; omega⟩)).trans (Ag.zsi (Or.inr (Or.inl rfl)))
  have S2 := hS.ag A2
  have i3 := q_i125 (k := 8) S2
  rw [zi_ne (by decide), (g2.2.2.2.2 125 8 (fun q => absurd q.1 (by decide))).1, hn] at i3
  have ip : iN n + 1 = iN (n + 1) := iN_add n 1
  have w := q_w125 (k := 8) (v := iN (n + 1)) S2
  refine ⟨zsi (zsi s1 131 n k) 125 8 (iN (n + 1)), ?_, A2.trans (Ag.zsi (Or.inr (Or.inr ⟨rfl, rfl⟩))), zi_hit, fun i hi => ?_, fun i hi => ?_, fun j hj => ?_, ?_⟩
  · simp only [s_X9_remember_j77, i1, bk, g1, r7, i2, st, i3, ip, w, z10', if_true, if_false, bind_ok, Option.bind_some, cb_some]
  · rw [zi_ne (by decide), zi_ne (by decide), (g2.2.2.2.2 130 i (fun q => by have := q.2.1; omega)).1]
  · rw [zi_ne (by decide), zi_ne (by decide), g3 i hi]
  · rw [zi_ne (by decide), zi_miss (by omega), (g2.2.2.2.2 131 j (fun q => absurd q.1 (by decide))).1]
  · rw [zi_ne (by decide), zi_hit]
theorem remember9 (hS : SK σ) {n : Nat} (hn : zi σ 125 8 = iN n) (h : n ≤ 16) {k : Int32} :
    ∃ s, s_X9_remember 125 k σ = some ((), s) ∧ Ag S131 σ s ∧ zi s 125 8 = iN (stay n + 1) ∧ (∀ j i, j < stay n → i < 23 → zi s 130 (23 * j + i) = zi σ 130 (23 * was n j + i)) ∧ (∀ i, i < 23 → zi s 130 (23 * stay n + i) = zi σ 127 (7 + i)) ∧ (∀ j, j < stay n → zi s 131 j = zi σ 131 (was n j)) ∧ zi s 131 (stay n) = k := by
  have i1 := q_i125 (k := 8) hS
  rw [hn] at i1
  by_cases c : n = 16
  · have e1 : stay n = 15 := if_pos c
    have f1 : iN n = 16 := by rw [c]; rfl
    obtain ⟨s1, g1, g2, g3, g4⟩ := loop_copy (body := fun v => s_X9_remember_b11 (v.1) (v.2.1) (v.2.2)) 130 0 130 23 345 (fun i => (125, k, iN i)) (125, k) (Or.inr (by decide)) hS (fun i t hi ht => by
      have f1 : ¬ (345 : Int32) ≤ iN i := fun q => absurd ((iN_le (a := 345) (by decide) (by omega)).mp q) (by omega)
      have r6 := q_r125_6 ht
      have a7 : iN i + 23 = iN (i + 23) := iN_add i 23
      have i1 : iN i + 1 = iN (i + 1) := iN_add i 1
      have l := q_ld130 (n := i + 23) (by omega) ht
      have st := q_st130 (n := i) (v := zi t 130 (i + 23)) (by omega) ht
      rw [show 0 + i = i by omega, show 23 + i = i + 23 by omega]
      simp only [s_X9_remember_b11, f1, r6, a7, l, st, i1, z10', if_true, if_false, bind_ok, Option.bind_some, cb_some]) (fun t ht => by
      have f1 : (345 : Int32) ≤ iN 345 := by decide
      simp only [s_X9_remember_b11, f1, z10', if_true, if_false, bind_ok, Option.bind_some, cb_some])
    have g1 : s_X9_remember_l11 (125, k, 0) σ = _ := g1
    have S1 := hS.ag g2
    obtain ⟨s2, k1, k2, k3, k4⟩ := loop_copy (body := fun v => s_X9_remember_b41 (v.1) (v.2.1) (v.2.2)) 131 0 131 1 15 (fun i => (125, k, iN i)) (125, k) (Or.inr (by decide)) S1 (fun i t hi ht => by
      have f1 : ¬ (15 : Int32) ≤ iN i := fun q => absurd ((iN_le (a := 15) (by decide) (by omega)).mp q) (by omega)
      have r6 := q_r125_7 ht
      have i1 : iN i + 1 = iN (i + 1) := iN_add i 1
      have l := q_ld131 (n := i + 1) (by omega) ht
      have st := q_st131 (n := i) (v := zi t 131 (i + 1)) (by omega) ht
      rw [show 0 + i = i by omega, show 1 + i = i + 1 by omega]
      simp only [s_X9_remember_b41, f1, r6, i1, l, st, z10', if_true, if_false, bind_ok, Option.bind_some, cb_some]) (fun t ht => by
      have f1 : (15 : Int32) ≤ iN 15 := by decide
      simp only [s_X9_remember_b41, f1, z10', if_true, if_false, bind_ok, Option.bind_some, cb_some])
    have k1 : s_X9_remember_l41 (125, k, 0) s1 = _ := k1
    have A2 : Ag S131 σ s2 := (g2.mono (fun a j q => Or.inl ⟨q.1, by have := q.2.2; omega⟩)).trans (k2.mono (fun a j q => Or.inr (Or.inl q.1)))
    have S2 := hS.ag A2
    have i2 := q_i125 (k := 8) S2
    rw [(k2.2.2.2.2 125 8 (fun q => absurd q.1 (by decide))).1, (g2.2.2.2.2 125 8 (fun q => absurd q.1 (by decide))).1, hn, f1] at i2
    have w := q_w125 (k := 8) (v := 16 - 1) S2
    have A3 : Ag S131 σ (zsi s2 125 8 (16 - 1)) := A2.trans (Ag.zsi (Or.inr (Or.inr ⟨rfl, rfl⟩)))
    have S3 := hS.ag A3
    obtain ⟨s4, m1, m2, m3, m4, m5, m6, m7⟩ := note9 S3 (n := 15) zi_hit (by decide) (k := k)
    rw [e1]
    refine ⟨s4, ?_, A3.trans m2, m3, fun j i hj hi => ?_, fun i hi => ?_, fun j hj => ?_, m7⟩
    · simp only [s_X9_remember, i1, f1, g1, k1, i2, w, m1, z10', if_true, if_false, bind_ok, Option.bind_some, cb_some]
    · rw [m4 _ (by omega), zi_ne (by decide), (k2.2.2.2.2 130 _ (fun q => absurd q.1 (by decide))).1]
      have := g3 (23 * j + i) (by omega)
      rw [show 0 + (23 * j + i) = 23 * j + i by omega] at this
      rw [this, show was n j = j + 1 from if_pos c, show 23 * (j + 1) + i = 23 + (23 * j + i) by omega]
    · rw [m5 i hi, zi_ne (by decide), (A2.2.2.2.2 127 (7 + i) (by
        rintro (q | q | q)
        · exact absurd q.1 (by decide)
        · exact absurd q (by decide)
        · exact absurd q.1 (by decide))).1]
    · rw [m6 j hj, zi_ne (by decide)]
      have := k3 j hj
      rw [show 0 + j = j by omega] at this
      rw [this, (g2.2.2.2.2 131 _ (fun q => absurd q.1 (by decide))).1, show was n j = j + 1 from if_pos c, show 1 + j = j + 1 by omega]
  · have e1 : stay n = n := if_neg c
    have f1 : ¬ iN n = 16 := fun q => c ((iN_inj (b := 16) (by omega) (by decide)).mp q)
    obtain ⟨s4, m1, m2, m3, m4, m5, m6, m7⟩ := note9 hS (n := n) hn (by omega) (k := k)
    rw [e1]
    refine ⟨s4, ?_, m2, m3, fun j i hj hi => ?_, m5, fun j hj => ?_, m7⟩
    · simp only [s_X9_remember, i1, f1, m1, z10', if_true, if_false, bind_ok, Option.bind_some, cb_some]
    · rw [m4 _ (by omega), show was n j = j from if_neg c]
    · rw [m6 j hj, show was n j = j from if_neg c]
theorem UStep.congr {nP nF nT : Nat} {d d1 : Nat → Int32} {s s1 : Int32} {A A1 C C1 : Nat → Int32} (h : UStep nP nF nT d s A C) (ed : ∀ m, m < 7 → d1 m = d m) (es : s1 = s) (eA : ∀ i, i < 23 → A1 i = A i) (eC : ∀ i, i < 23 → C1 i = C i) : UStep nP nF nT d1 s1 A1 C1 := by
  subst es
  obtain ⟨h1, h2, h3⟩ := h
  have up1 : ∀ {i x : Nat} {v : Int32} {f g : Nat → Int32}, f i = g i → up f x v i = up g x v i := fun {i x v f g} e => by
    by_cases c : i = x
    · subst c; rw [up_eq, up_eq]
    · rw [up_ne c, up_ne c]; exact e
  refine ⟨(ed 0 (by decide)).trans h1, fun i hi => by rw [eA i hi]; exact h2 i hi, ?_⟩
  rcases h3 with ⟨q, f, hf, q1, q2⟩ | ⟨q, t, ht, q1, q2⟩ | ⟨q, x, y, hx, hy, hxy, q1, q2, q3⟩ | ⟨q, q1⟩
  · exact Or.inl ⟨q, f, hf, (ed 1 (by decide)).trans q1, fun i hi => by rw [eA i hi, q2 i hi, ed 2 (by decide)]; exact up1 (eC i hi).symm⟩
  · exact Or.inr (Or.inl ⟨q, t, ht, (ed 1 (by decide)).trans q1, fun i hi => by rw [eA i hi, q2 i hi, ed 2 (by decide)]; exact up1 (eC i hi).symm⟩)
  · exact Or.inr (Or.inr (Or.inl ⟨q, x, y, hx, hy, hxy, (ed 1 (by decide)).trans q1, (ed 2 (by decide)).trans q2, fun i hi => by rw [eA i hi, q3 i hi, eC _ (by omega), eC _ (by omega)]; exact up1 (up1 (eC i hi).symm)⟩))
  · exact Or.inr (Or.inr (Or.inr ⟨q, fun i hi => by rw [eA i hi, q1 i hi, ed 3 (by decide), ed 4 (by decide), ed 5 (by decide), ed 6 (by decide), eC 0 (by decide)]; exact up1 (up1 (up1 (up1 (up1 (eC i hi).symm))))⟩))
/-- a deed more -/
theorem UnF.more {nP nF nT n : Nat} {l1 l2 m1 m2 : Int32} {d so u R d1 so1 u1 R1 : Nat → Int32} (h : UnF nP nF nT n l1 l2 d so u R) (hm1 : m1 = iN (stay n + 1)) (hm2 : m2 = iN (stay n + 1))
    (hd : ∀ j m, j < stay n → m < 7 → d1 (7 * j + m) = d (7 * was n j + m)) (hso : ∀ j, j < stay n → so1 j = so (was n j))
    (hu : ∀ j i, j < stay n → i < 23 → u1 (23 * j + i) = u (23 * was n j + i)) (hR : ∀ i, i < 23 → u1 (23 * stay n + i) = R (7 + i))
    (hl : UStep nP nF nT (fun m => d1 (7 * stay n + m)) (so1 (stay n)) (fun i => R (7 + i)) (fun i => R1 (7 + i))) : UnF nP nF nT (stay n + 1) m1 m2 d1 so1 u1 R1 := by
  obtain ⟨h1, h2, h3, h4⟩ := h
  have hst := stay_lt h1
  refine ⟨by omega, hm1, hm2, fun k hk => ?_⟩
  by_cases c : k = stay n
  · subst c
    refine hl.congr (fun _ _ => rfl) rfl (fun i hi => ?_) (fun i hi => ?_)
    · show snap (stay n + 1) R1 u1 (stay n) i = _
      unfold snap
      rw [if_neg (by omega), hR i hi]
    · show snap (stay n + 1) R1 u1 (stay n + 1) i = _
      unfold snap
      rw [if_pos rfl]
  · have hw : was n k < n ∧ was n (k + 1) = was n k + 1 ∧ (k + 1 = stay n → was n k + 1 = n) ∧ (k + 1 < stay n → was n k + 1 < n) := by
      unfold was stay at *
      by_cases e : n = 16
      · rw [if_pos e] at *
        rw [if_pos e] at *
        rw [if_pos e]
        omega
      · rw [if_neg e] at *
        rw [if_neg e] at *
        rw [if_neg e]
        omega
    refine (h4 (was n k) hw.1).congr (fun m hm => hd k m (by omega) hm) (hso k (by omega)) (fun i hi => ?_) (fun i hi => ?_)
    · unfold snap
      rw [if_neg (by omega), if_neg (by omega), hu k i (by omega) hi]
    · unfold snap
      by_cases c2 : k + 1 = stay n
      · rw [if_neg (by omega), if_pos (hw.2.2.1 c2), c2, hR i hi]
      · rw [if_neg (by omega), if_neg (by have := hw.2.2.2 (by omega); omega), hu (k + 1) i (by omega) hi, hw.2.1]
end V31
