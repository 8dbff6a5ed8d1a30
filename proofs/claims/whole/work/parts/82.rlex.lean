/-! ===== the reference's lexer ===== -/
section RX
variable {σ : Hp} {tb : Nat → Nat} {L : Nat}
def TB9 (tb : Nat → Nat) (L : Nat) (σ : Hp) : Prop := L ≤ 400 ∧ (∀ i, tb i ≤ 255) ∧ (∀ i, i < 400 → zi σ 134 i = iN (tb i)) ∧ zi σ 125 13 = iN L
theorem TB9.ag {S : Nat → Nat → Prop} {σ1 : Hp} (h : TB9 tb L σ) (e : Ag S σ σ1) (hs : ∀ k, ¬ S 134 k) (h13 : ¬ S 125 13) : TB9 tb L σ1 := ⟨h.1, h.2.1, fun i hi => by rw [(e.2.2.2.2 134 i (hs i)).1]; exact h.2.2.1 i hi, by rw [(e.2.2.2.2 125 13 h13).1]; exact h.2.2.2⟩
theorem small9_t {c : Nat} (hc : clsN c = 1) : s_X9_isSmall (iN c) σ = some (1, σ) := by
  have := cls1.mp hc
  have f1 : ¬ iN c < 97 := fun q => absurd ((iN_lt (b := 97) (by omega) (by decide)).mp q) (by omega)
  have f2 : ¬ 122 < iN c := fun q => absurd ((iN_lt (a := 122) (by decide) (by omega)).mp q) (by omega)
  simp only [s_X9_isSmall, f1, f2, if_false]
theorem small9_f {c : Nat} (h : c ≤ 255) (hc : ¬ clsN c = 1) : s_X9_isSmall (iN c) σ = some (0, σ) := by
  have : ¬ (97 ≤ c ∧ c ≤ 122) := fun q => hc (cls1.mpr q)
  by_cases f1 : iN c < 97
  · simp only [s_X9_isSmall, f1, if_true]
  · have h1 : ¬ c < 97 := fun q => f1 ((iN_lt (b := 97) (by omega) (by decide)).mpr q)
    have f2 : 122 < iN c := (iN_lt (a := 122) (by decide) (by omega)).mpr (by omega)
    simp only [s_X9_isSmall, f1, f2, if_true, if_false]
theorem digit9_t {c : Nat} (hc : clsN c = 2) : s_X9_isDigit (iN c) σ = some (1, σ) := by
  have := cls2.mp hc
  have f1 : ¬ iN c < 48 := fun q => absurd ((iN_lt (b := 48) (by omega) (by decide)).mp q) (by omega)
  have f2 : ¬ 57 < iN c := fun q => absurd ((iN_lt (a := 57) (by decide) (by omega)).mp q) (by omega)
  simp only [s_X9_isDigit, f1, f2, if_false]
theorem digit9_f {c : Nat} (h : c ≤ 255) (hc : ¬ clsN c = 2) : s_X9_isDigit (iN c) σ = some (0, σ) := by
  have : ¬ (48 ≤ c ∧ c ≤ 57) := fun q => hc (cls2.mpr q)
  by_cases f1 : iN c < 48
  · simp only [s_X9_isDigit, f1, if_true]
  · have h1 : ¬ c < 48 := fun q => f1 ((iN_lt (b := 48) (by omega) (by decide)).mpr q)
    have f2 : 57 < iN c := (iN_lt (a := 57) (by decide) (by omega)).mpr (by omega)
    simp only [s_X9_isDigit, f1, f2, if_true, if_false]
theorem jN_le {a b : Nat} (ha : a < 9223372036854775808) (hb : b < 9223372036854775808) : jN a ≤ jN b ↔ a ≤ b := by
  rw [Int64.le_iff_toInt_le, jN_int ha, jN_int hb]
  omega
theorem jN_inj {a b : Nat} (ha : a < 9223372036854775808) (hb : b < 9223372036854775808) : jN a = jN b ↔ a = b := by
  constructor
  · intro h
    have := congrArg Int64.toInt h
    rw [jN_int ha, jN_int hb] at this
    omega
  · intro h
    rw [h]
/-! blanks -/
theorem blank9 : ∀ (n e : Nat) (σ : Hp), e + n = L → SK σ → TB9 tb L σ → zi σ 125 14 = iN e → ∃ σ1, s_X9_next_l8 125 σ = some (125, σ1) ∧ Ag (fun a k => a = 125 ∧ k = 14) σ σ1 ∧ zi σ1 125 14 = iN (runN (blN tb) n e)
  | 0, e, σ, he, hS, hB, h14 => by
    have hL := hB.1
    have i14 := q_i125 (k := 14) hS
    rw [h14] at i14
    have i13 := q_i125 (k := 13) hS
    rw [hB.2.2.2] at i13
    have f : iN L ≤ iN e := (iN_le (by omega) (by omega)).mpr (by omega)
    refine ⟨σ, loopF_out (body := fun v => s_X9_next_b8 v) (v := 125) ?_, Ag.refl, h14⟩
    simp only [s_X9_next_b8, i14, i13, f, bos, cbs, if_true, if_false]
  | n + 1, e, σ, he, hS, hB, h14 => by
    have hL := hB.1
    have i14 := q_i125 (k := 14) hS
    rw [h14] at i14
    have i13 := q_i125 (k := 13) hS
    rw [hB.2.2.2] at i13
    have f : ¬ iN L ≤ iN e := fun z => absurd ((iN_le (by omega) (by omega)).mp z) (by omega)
    have r := q_r125_12 hS
    have l := q_ld134 (n := e) (by omega) hS
    rw [hB.2.2.1 e (by omega)] at l
    have hb := hB.2.1 e
    by_cases c : tb e = 32
    · have q : iN (tb e) = 32 := by rw [c]; rfl
      have w := q_w125 (k := 14) (v := iN (e + 1)) hS
      have i1 : iN e + 1 = iN (e + 1) := iN_add e 1
      have eN : Ag (fun a k => a = 125 ∧ k = 14) σ (zsi σ 125 14 (iN (e + 1))) := Ag.zsi ⟨rfl, rfl⟩
      have h2 : zi (zsi σ 125 14 (iN (e + 1))) 125 14 = iN (e + 1) := zi_hit
      generalize zsi σ 125 14 (iN (e + 1)) = σ1 at w eN h2
      obtain ⟨σ2, x1, x2, x3⟩ := blank9 n (e + 1) σ1 (by omega) (hS.ag eN) (hB.ag eN (fun k z => by omega) (fun z => by omega)) h2
      rw [runN_t (show blN tb e = true from decide_eq_true c)]
      refine ⟨σ2, (loopF_in (body := fun v => s_X9_next_b8 v) (v := 125) (v' := 125) (σ' := σ1) ?_).trans x1, eN.trans x2, x3⟩
      simp only [s_X9_next_b8, i14, i13, f, r, l, q, i1, w, bos, cbs, if_true, if_false]
    · have q : ¬ iN (tb e) = 32 := fun z => c ((iN_inj (b := 32) (by omega) (by decide)).mp z)
      rw [runN_f (show blN tb e = false from decide_eq_false c)]
      refine ⟨σ, loopF_out (body := fun v => s_X9_next_b8 v) (v := 125) ?_, Ag.refl, h14⟩
      simp only [s_X9_next_b8, i14, i13, f, r, l, q, bos, cbs, if_true, if_false]
/-! words -/
def hsN (l : List Nat) : Nat := l.foldl (fun a c => a * 32 + (c - 96)) 0
theorem ltN_s {p m : Nat} : ltN tb p (m + 1) = ltN tb p m ++ [tb (p + m)] := by
  unfold ltN
  rw [List.range_succ, List.map_append]
  rfl
theorem hsN_s {l : List Nat} {c : Nat} : hsN (l ++ [c]) = hsN l * 32 + (c - 96) := by
  unfold hsN
  rw [List.foldl_append]
  rfl
theorem hsN_inj : ∀ (a b : List Nat), (∀ x ∈ a, 97 ≤ x ∧ x ≤ 122) → (∀ x ∈ b, 97 ≤ x ∧ x ≤ 122) → hsN a = hsN b → a = b := by
  have key : ∀ (n : Nat) (a b : List Nat), a.length = n → (∀ x ∈ a, 97 ≤ x ∧ x ≤ 122) → (∀ x ∈ b, 97 ≤ x ∧ x ≤ 122) → hsN a = hsN b → a = b := by
    intro n
    induction n with
    | zero =>
      intro a b hl ha hb h
      have e : a = [] := List.length_eq_zero_iff.mp hl
      subst e
      rcases List.eq_nil_or_concat b with rfl | ⟨c, x, rfl⟩
      · rfl
      · rw [List.concat_eq_append, hsN_s] at h
        have := hb x (by simp)
        have h0 : hsN [] = 0 := rfl
        omega
    | succ n ih =>
      intro a b hl ha hb h
      rcases List.eq_nil_or_concat a with rfl | ⟨a', x, rfl⟩
      · simp at hl
      · have hx := ha x (by simp)
        rw [List.concat_eq_append] at h ha hl ⊢
        rw [hsN_s] at h
        rcases List.eq_nil_or_concat b with rfl | ⟨b', y, rfl⟩
        · have h0 : hsN [] = 0 := rfl
          omega
        · have hy := hb y (by simp)
          rw [List.concat_eq_append] at h hb ⊢
          rw [hsN_s] at h
          have e1 : x = y := by omega
          have e2 : hsN a' = hsN b' := by omega
          rw [e1, ih a' b' (by simpa using hl) (fun z hz => ha z (by simp [hz])) (fun z hz => hb z (by simp [hz])) e2]
  intro a b
  exact key a.length a b rfl
theorem hsN_lt : ∀ (n : Nat) (l : List Nat), l.length = n → (∀ x ∈ l, x ≤ 122) → hsN l < 32 ^ n := by
  intro n
  induction n with
  | zero =>
    intro l hl _
    have e : l = [] := List.length_eq_zero_iff.mp hl
    subst e
    decide
  | succ n ih =>
    intro l hl h
    rcases List.eq_nil_or_concat l with rfl | ⟨a, x, rfl⟩
    · simp at hl
    · rw [List.concat_eq_append] at hl h ⊢
      rw [hsN_s]
      have hx := h x (by simp)
      have := ih a (by simpa using hl) (fun z hz => h z (by simp [hz]))
      have e : (32 : Nat) ^ (n + 1) = 32 ^ n * 32 := Nat.pow_succ 32 n
      omega
def kwN (w : Nat) : Nat := kwT.getD w 0
theorem kwT_all : (List.range 28).all (fun w => decide (hsN (wlN w) = kwN w ∧ kwN w < 1125899906842624)) = true := by decide +kernel
theorem kwN_ok {w : Nat} (h : w < 28) : hsN (wlN w) = kwN w ∧ kwN w < 1125899906842624 := of_decide_eq_true (List.all_eq_true.mp kwT_all w (List.mem_range.mpr h))
def wvN (tb : Nat → Nat) (p m : Nat) : Int64 := if m ≤ 10 then jN (hsN (ltN tb p m)) else -1
theorem wvN_iff {p m w : Nat} (hl : ∀ x, p ≤ x → x < p + m → clsN (tb x) = 1) (hw : w < 28) : wvN tb p m = jN (kwN w) ↔ ltN tb p m = wlN w := by
  obtain ⟨k1, k2⟩ := kwN_ok hw
  have hle : ∀ x ∈ ltN tb p m, 97 ≤ x ∧ x ≤ 122 := fun x hx => by
    obtain ⟨i, hi, rfl⟩ := List.mem_map.mp hx
    exact cls1.mp (hl (p + i) (by omega) (by have := List.mem_range.mp hi; omega))
  unfold wvN
  by_cases c : m ≤ 10
  · rw [if_pos c]
    have b := hsN_lt m (ltN tb p m) ltN_len (fun x hx => (hle x hx).2)
    have b2 : (32 : Nat) ^ m ≤ 32 ^ 10 := Nat.pow_le_pow_right (by decide) c
    have b3 : (32 : Nat) ^ 10 = 1125899906842624 := by decide
    rw [jN_inj (by omega) (by omega)]
    constructor
    · intro h
      exact hsN_inj _ _ hle (fun x hx => ((wlN_ok hw).1.2 x hx).2) (by rw [h, k1])
    · intro h
      rw [h, k1]
  · rw [if_neg c]
    constructor
    · intro h
      have := congrArg Int64.toInt h
      rw [jN_int (by omega)] at this
      have h2 : (-1 : Int64).toInt = -1 := rfl
      omega
    · intro h
      have := (wlN_ok hw).1.1
      rw [← h, ltN_len] at this
      omega
def ltB (tb : Nat → Nat) (e : Nat) : Bool := decide (clsN (tb e) = 1)
def dgB (tb : Nat → Nat) (e : Nat) : Bool := decide (clsN (tb e) = 2)
def Sw9 (a k : Nat) : Prop := a = 125 ∧ (k = 15 ∨ k = 17)
theorem words9 {p : Nat} : ∀ (n e : Nat) (σ : Hp), e + n = L → p ≤ e → SK σ → TB9 tb L σ → zi σ 125 14 = iN p → zi σ 125 15 = iN e → zi σ 125 16 = 1 → zj σ 125 17 = wvN tb p (e - p) → ∃ σ1, s_X9_next_l149 125 σ = some (125, σ1) ∧ Ag Sw9 σ σ1 ∧ zi σ1 125 15 = iN (runN (ltB tb) n e) ∧ zj σ1 125 17 = wvN tb p (runN (ltB tb) n e - p)
  | 0, e, σ, he, hp, hS, hB, h14, h15, h16, h17 => by
    have hL := hB.1
    have i16 := q_i125 (k := 16) hS
    rw [h16] at i16
    have i15 := q_i125 (k := 15) hS
    rw [h15] at i15
    have i13 := q_i125 (k := 13) hS
    rw [hB.2.2.2] at i13
    have f : iN L ≤ iN e := (iN_le (by omega) (by omega)).mpr (by omega)
    refine ⟨σ, loopF_out (body := fun v => s_X9_next_b149 v) (v := 125) ?_, Ag.refl, h15, h17⟩
    simp only [s_X9_next_b149, i16, i15, i13, f, bos, cbs, if_true, if_false]
  | n + 1, e, σ, he, hp, hS, hB, h14, h15, h16, h17 => by
    have hL := hB.1
    have i16 := q_i125 (k := 16) hS
    rw [h16] at i16
    have i15 := q_i125 (k := 15) hS
    rw [h15] at i15
    have i14 := q_i125 (k := 14) hS
    rw [h14] at i14
    have i13 := q_i125 (k := 13) hS
    rw [hB.2.2.2] at i13
    have f : ¬ iN L ≤ iN e := fun z => absurd ((iN_le (by omega) (by omega)).mp z) (by omega)
    have r := q_r125_12 hS
    have l := q_ld134 (n := e) (by omega) hS
    rw [hB.2.2.1 e (by omega)] at l
    have hb := hB.2.1 e
    by_cases c : clsN (tb e) = 1
    · have s1 := small9_t (σ := σ) c
      have cc := cls1.mp c
      have d : iN e - iN p = iN (e - p) := iN_sub hp
      have j17 := q_j125 (k := 17) hS
      rw [h17] at j17
      have i1 : iN e + 1 = iN (e + 1) := iN_add e 1
      have wj := q_wj125 (k := 17) (v := wvN tb p (e + 1 - p)) hS
      have S1 : SK (zsj σ 125 17 (wvN tb p (e + 1 - p))) := hS
      have i15b := q_i125 (k := 15) S1
      have i15b : rdI 9 (zsj σ 125 17 (wvN tb p (e + 1 - p))) 125 15 = some (zi σ 125 15) := i15b
      rw [h15] at i15b
      have w := q_w125 (k := 15) (v := iN (e + 1)) S1
      have eN : Ag Sw9 σ (zsi (zsj σ 125 17 (wvN tb p (e + 1 - p))) 125 15 (iN (e + 1))) := (Ag.zsj ⟨rfl, Or.inr rfl⟩).trans (Ag.zsi ⟨rfl, Or.inl rfl⟩)
      have g15 : zi (zsi (zsj σ 125 17 (wvN tb p (e + 1 - p))) 125 15 (iN (e + 1))) 125 15 = iN (e + 1) := zi_hit
      have g17 : zj (zsi (zsj σ 125 17 (wvN tb p (e + 1 - p))) 125 15 (iN (e + 1))) 125 17 = wvN tb p (e + 1 - p) := by
        rw [zj_zsi]
        exact zj_hit
      generalize zsj σ 125 17 (wvN tb p (e + 1 - p)) = τ at wj i15b w eN g15 g17
      generalize zsi τ 125 15 (iN (e + 1)) = σ1 at w eN g15 g17
      obtain ⟨σ2, x1, x2, x3⟩ := words9 n (e + 1) σ1 (by omega) (by omega) (hS.ag eN) (hB.ag eN (fun k z => by unfold Sw9 at z; omega) (fun z => by unfold Sw9 at z; omega)) (by rw [(eN.2.2.2.2 125 14 (by unfold Sw9; omega)).1]; exact h14) g15 (by rw [(eN.2.2.2.2 125 16 (by unfold Sw9; omega)).1]; exact h16) g17
      rw [runN_t (show ltB tb e = true from decide_eq_true c)]
      refine ⟨σ2, (loopF_in (body := fun v => s_X9_next_b149 v) (v := 125) (v' := 125) (σ' := σ1) ?_).trans x1, eN.trans x2, x3⟩
      simp only [s_X9_next_b149, i16, i15, i13, f, r, l, s1, z10', i14, d, bos, cbs, if_true, if_false]
      by_cases c2 : 10 ≤ e - p
      · have f2 : 10 ≤ iN (e - p) := (iN_le (a := 10) (by decide) (by omega)).mpr c2
        have ev : wvN tb p (e + 1 - p) = -1 := by
          unfold wvN
          rw [if_neg (by omega)]
        rw [if_pos f2]
        unfold s_X9_next_j227
        rw [ev] at wj
        rw [bos, wj, bos, i15b, bos, i1, w, bos]
      · have f2 : ¬ 10 ≤ iN (e - p) := fun z => c2 ((iN_le (a := 10) (by decide) (by omega)).mp z)
        have ev : wvN tb p (e - p) * 32 + Int32.toInt64 (iN (tb e)) - 96 = wvN tb p (e + 1 - p) := by
          unfold wvN
          rw [if_pos (show e - p ≤ 10 by omega), if_pos (show e + 1 - p ≤ 10 by omega), show e + 1 - p = (e - p) + 1 by omega, ltN_s, hsN_s, show p + (e - p) = e by omega, j_iN (by omega), show (32 : Int64) = jN 32 from rfl, show (96 : Int64) = jN 96 from rfl, jN_mul, jN_add, jN_sub (by omega)]
          congr 1
          omega
        rw [if_neg f2, j17, bos, ev]
        simp only [s_X9_next_j227, wj, i15b, i1, w, bos, cbs, if_true, if_false]
    · have s1 := small9_f (σ := σ) hb c
      rw [runN_f (show ltB tb e = false from decide_eq_false c)]
      refine ⟨σ, loopF_out (body := fun v => s_X9_next_b149 v) (v := 125) ?_, Ag.refl, h15, h17⟩
      simp only [s_X9_next_b149, i16, i15, i13, f, r, l, s1, bos, cbs, if_true, if_false]
theorem words9_no (hS : SK σ) (h : zi σ 125 16 ≠ 1) : s_X9_next_l149 125 σ = some (125, σ) := by
  have i16 := q_i125 (k := 16) hS
  refine loopF_out (body := fun v => s_X9_next_b149 v) (v := 125) ?_
  simp only [s_X9_next_b149, i16, h, bos, cbs, if_true, if_false]
/-! digits -/
def capN (w : Nat) : Nat := if 1001 < w then 1001 else w
theorem digits9 : ∀ (n e w : Nat) (σ : Hp), e + n = L → SK σ → TB9 tb L σ → zi σ 125 15 = iN e → zi σ 125 16 = 2 → zj σ 125 17 = jN w → w ≤ 10000009 → ∃ σ1 w1, s_X9_next_l243 125 σ = some ((), σ1) ∧ Ag Sw9 σ σ1 ∧ zi σ1 125 15 = iN (runN (dgB tb) n e) ∧ zj σ1 125 17 = jN w1 ∧ w1 ≤ 10000009 ∧ capN w1 = numN tb (runN (dgB tb) n e - e) e (capN w)
  | 0, e, w, σ, he, hS, hB, h15, h16, h17, hw => by
    have hL := hB.1
    have i16 := q_i125 (k := 16) hS
    rw [h16] at i16
    have i15 := q_i125 (k := 15) hS
    rw [h15] at i15
    have i13 := q_i125 (k := 13) hS
    rw [hB.2.2.2] at i13
    have f : iN L ≤ iN e := (iN_le (by omega) (by omega)).mpr (by omega)
    refine ⟨σ, w, loopF_out (body := fun v => s_X9_next_b243 v) (v := 125) ?_, Ag.refl, h15, h17, hw, ?_⟩
    · simp only [s_X9_next_b243, i16, i15, i13, f, bos, cbs, if_true, if_false]
    · show capN w = numN tb (e - e) e (capN w)
      rw [Nat.sub_self]
      rfl
  | n + 1, e, w, σ, he, hS, hB, h15, h16, h17, hw => by
    have hL := hB.1
    have i16 := q_i125 (k := 16) hS
    rw [h16] at i16
    have i15 := q_i125 (k := 15) hS
    rw [h15] at i15
    have i13 := q_i125 (k := 13) hS
    rw [hB.2.2.2] at i13
    have f : ¬ iN L ≤ iN e := fun z => absurd ((iN_le (by omega) (by omega)).mp z) (by omega)
    have r := q_r125_12 hS
    have l := q_ld134 (n := e) (by omega) hS
    rw [hB.2.2.1 e (by omega)] at l
    have hb := hB.2.1 e
    by_cases c : clsN (tb e) = 2
    · have s1 := digit9_t (σ := σ) c
      have cc := cls2.mp c
      have j17 := q_j125 (k := 17) hS
      rw [h17] at j17
      have i1 : iN e + 1 = iN (e + 1) := iN_add e 1
      obtain ⟨w1, hw1⟩ : ∃ w1, w1 = if w ≤ 1000000 then w * 10 + tb e - 48 else w := ⟨_, rfl⟩
      have hwb : w1 ≤ 10000009 := by
        rw [hw1]
        split <;> omega
      have wj := q_wj125 (k := 17) (v := jN w1) hS
      have S1 : SK (zsj σ 125 17 (jN w1)) := hS
      have i15b := q_i125 (k := 15) S1
      have i15b : rdI 9 (zsj σ 125 17 (jN w1)) 125 15 = some (zi σ 125 15) := i15b
      rw [h15] at i15b
      have ww := q_w125 (k := 15) (v := iN (e + 1)) S1
      have eN : Ag Sw9 σ (zsi (zsj σ 125 17 (jN w1)) 125 15 (iN (e + 1))) := (Ag.zsj ⟨rfl, Or.inr rfl⟩).trans (Ag.zsi ⟨rfl, Or.inl rfl⟩)
      have g15 : zi (zsi (zsj σ 125 17 (jN w1)) 125 15 (iN (e + 1))) 125 15 = iN (e + 1) := zi_hit
      have g17 : zj (zsi (zsj σ 125 17 (jN w1)) 125 15 (iN (e + 1))) 125 17 = jN w1 := by
        rw [zj_zsi]
        exact zj_hit
      generalize zsj σ 125 17 (jN w1) = τ at wj i15b ww eN g15 g17
      generalize zsi τ 125 15 (iN (e + 1)) = σ1 at ww eN g15 g17
      obtain ⟨σ2, w2, x1, x2, x3, x4, x5, x6⟩ := digits9 n (e + 1) w1 σ1 (by omega) (hS.ag eN) (hB.ag eN (fun k z => by unfold Sw9 at z; omega) (fun z => by unfold Sw9 at z; omega)) g15 (by rw [(eN.2.2.2.2 125 16 (by unfold Sw9; omega)).1]; exact h16) g17 hwb
      rw [runN_t (show dgB tb e = true from decide_eq_true c)]
      have rl := runN_le (f := dgB tb) n (e + 1)
      refine ⟨σ2, w2, (loopF_in (body := fun v => s_X9_next_b243 v) (v := 125) (v' := 125) (σ' := σ1) ?_).trans x1, eN.trans x2, x3, x4, x5, ?_⟩
      · simp only [s_X9_next_b243, i16, i15, i13, f, r, l, s1, z10', j17, bos, cbs, if_true, if_false]
        by_cases c2 : w ≤ 1000000
        · have f2 : lg_cmp (jN w) 1000000 ≤ 0 := (lg_cmp_le _ _).mpr ((jN_le (b := 1000000) (by omega) (by decide)).mpr c2)
          have ev : jN w * 10 + Int32.toInt64 (iN (tb e)) - 48 = jN w1 := by
            rw [hw1, if_pos c2, j_iN (by omega), show (10 : Int64) = jN 10 from rfl, show (48 : Int64) = jN 48 from rfl, jN_mul, jN_add, jN_sub (by omega)]
          rw [if_pos f2, ev]
          simp only [s_X9_next_j319, wj, i15b, i1, ww, bos, cbs, if_true, if_false]
        · have f2 : ¬ lg_cmp (jN w) 1000000 ≤ 0 := fun z => c2 ((jN_le (b := 1000000) (by omega) (by decide)).mp ((lg_cmp_le _ _).mp z))
          have ev : jN w = jN w1 := by rw [hw1, if_neg c2]
          rw [if_neg f2, ev]
          simp only [s_X9_next_j319, wj, i15b, i1, ww, bos, cbs, if_true, if_false]
      · rw [x6, show runN (dgB tb) n (e + 1) - e = (runN (dgB tb) n (e + 1) - (e + 1)) + 1 by omega]
        show numN tb _ (e + 1) (capN w1) = numN tb _ (e + 1) (if 1001 < capN w * 10 + tb e - 48 then 1001 else capN w * 10 + tb e - 48)
        congr 1
        rw [hw1]
        unfold capN
        by_cases c2 : w ≤ 1000000
        · rw [if_pos c2]
          by_cases c3 : 1001 < w
          · rw [if_pos c3, if_pos (by omega), if_pos (by omega)]
          · rw [if_neg c3]
        · rw [if_neg c2, if_pos (by omega), if_pos (by omega)]
    · have s1 := digit9_f (σ := σ) hb c
      rw [runN_f (show dgB tb e = false from decide_eq_false c)]
      refine ⟨σ, w, loopF_out (body := fun v => s_X9_next_b243 v) (v := 125) ?_, Ag.refl, h15, h17, hw, ?_⟩
      · simp only [s_X9_next_b243, i16, i15, i13, f, r, l, s1, bos, cbs, if_true, if_false]
      · rw [Nat.sub_self]
        rfl
theorem digits9_no (hS : SK σ) (h : zi σ 125 16 ≠ 2) : s_X9_next_l243 125 σ = some ((), σ) := by
  have i16 := q_i125 (k := 16) hS
  refine loopF_out (body := fun v => s_X9_next_b243 v) (v := 125) ?_
  simp only [s_X9_next_b243, i16, h, bos, cbs, if_true, if_false]
/-- the token that begins at p, as the reference holds it -/
def TokR (tb : Nat → Nat) (L p : Nat) (σ : Hp) : Prop := zi σ 125 14 = iN p ∧ zi σ 125 15 = iN (if p < L then teN tb L p else L) ∧
  ((p = L ∧ zi σ 125 16 = 0) ∨ (p < L ∧ clsN (tb p) = 1 ∧ zi σ 125 16 = 1 ∧ zj σ 125 17 = wvN tb p (teN tb L p - p)) ∨ (p < L ∧ clsN (tb p) = 2 ∧ zi σ 125 16 = 2 ∧ ∃ w, w ≤ 10000009 ∧ zj σ 125 17 = jN w ∧ capN w = nmbN tb L p) ∨ (p < L ∧ clsN (tb p) = 0 ∧ zi σ 125 16 = 3 ∧ zj σ 125 17 = jN (tb p)))
def Sn9 (a k : Nat) : Prop := a = 125 ∧ (k = 14 ∨ k = 15 ∨ k = 16 ∨ k = 17)
theorem te_run {p c : Nat} (hp : p < L) (h0 : c ≠ 0) (hc : clsN (tb p) = c) : runN (fun e => decide (clsN (tb e) = c)) (L - p) p = teN tb L p := by
  rw [show L - p = (L - (p + 1)) + 1 by omega, runN_t (decide_eq_true hc)]
  unfold teN
  congr 1
  funext e
  unfold smN
  rw [hc]
  congr 1
  exact propext ⟨fun q => ⟨h0, q⟩, fun q => q.2⟩
theorem te_sign {p : Nat} (hc : clsN (tb p) = 0) : teN tb L p = p + 1 := by
  unfold teN
  cases hn : L - (p + 1) with
  | zero => rfl
  | succ m => exact runN_f (decide_eq_false (fun q => q.1 hc))
theorem next9 (hS : SK σ) (hB : TB9 tb L σ) {e : Nat} (he : e ≤ L) (h15 : zi σ 125 15 = iN e) : ∃ σ1, s_X9_next 125 σ = some ((), σ1) ∧ Ag Sn9 σ σ1 ∧ TokR tb L (skN tb L e) σ1 := by
  have hL := hB.1
  have i15 := q_i125 (k := 15) hS
  rw [h15] at i15
  have w14 := q_w125 (k := 14) (v := iN e) hS
  have e1 : Ag Sn9 σ (zsi σ 125 14 (iN e)) := Ag.zsi ⟨rfl, Or.inl rfl⟩
  have g14 : zi (zsi σ 125 14 (iN e)) 125 14 = iN e := zi_hit
  generalize zsi σ 125 14 (iN e) = σ1 at w14 e1 g14
  have tbag : ∀ {s t : Hp}, TB9 tb L s → Ag Sn9 s t → TB9 tb L t := fun h e => h.ag e (fun k z => by unfold Sn9 at z; omega) (fun z => by unfold Sn9 at z; omega)
  obtain ⟨σ2, b1, b2, b3⟩ := blank9 (L - e) e σ1 (by omega) (hS.ag e1) (tbag hB e1) g14
  have e2 : Ag Sn9 σ σ2 := e1.trans (b2.mono (fun a k z => ⟨z.1, Or.inl z.2⟩))
  have b3 : zi σ2 125 14 = iN (skN tb L e) := b3
  have hp := (skN_le (tb := tb) he).2
  have start : s_X9_next 125 σ = s_X9_next_j46 125 σ2 := by
    simp only [s_X9_next, i15, w14, b1, bos, cbs, if_true, if_false]
  rw [start]
  generalize skN tb L e = p at b3 hp
  have S2 := hS.ag e2
  have B2 := tbag hB e2
  have i14 := q_i125 (k := 14) S2
  rw [b3] at i14
  have w15 := q_w125 (k := 15) (v := iN p) S2
  have S3 : SK (zsi σ2 125 15 (iN p)) := S2
  have w17 := q_wj125 (k := 17) (v := 0) S3
  have S4 : SK (zsj (zsi σ2 125 15 (iN p)) 125 17 0) := S2
  have e4 : Ag Sn9 σ2 (zsj (zsi σ2 125 15 (iN p)) 125 17 0) := (Ag.zsi ⟨rfl, Or.inr (Or.inl rfl)⟩).trans (Ag.zsj ⟨rfl, Or.inr (Or.inr (Or.inr rfl))⟩)
  have x14 : zi (zsj (zsi σ2 125 15 (iN p)) 125 17 0) 125 14 = iN p := by
    show zi (zsi σ2 125 15 (iN p)) 125 14 = _
    rw [zi_miss (by decide), b3]
  have x15 : zi (zsj (zsi σ2 125 15 (iN p)) 125 17 0) 125 15 = iN p := by
    show zi (zsi σ2 125 15 (iN p)) 125 15 = _
    exact zi_hit
  have x17 : zj (zsj (zsi σ2 125 15 (iN p)) 125 17 0) 125 17 = 0 := zj_hit
  generalize zsi σ2 125 15 (iN p) = σ3 at w15 w17 S4 e4 x14 x15 x17
  generalize zsj σ3 125 17 0 = σ4 at w17 S4 e4 x14 x15 x17
  have B4 := tbag B2 e4
  have i14b := q_i125 (k := 14) S4
  rw [x14] at i14b
  have i13b := q_i125 (k := 13) S4
  rw [B4.2.2.2] at i13b
  have r4 := q_r125_12 S4
  -- the sort
  have sorted : ∀ (s : Int32), ∃ σ5, wrI 9 σ4 125 16 s = some σ5 ∧ SK σ5 ∧ TB9 tb L σ5 ∧ Ag Sn9 σ σ5 ∧ zi σ5 125 14 = iN p ∧ zi σ5 125 15 = iN p ∧ zi σ5 125 16 = s ∧ zj σ5 125 17 = 0 := fun s => by
    have w := q_w125 (k := 16) (v := s) S4
    have e5 : Ag Sn9 σ4 (zsi σ4 125 16 s) := Ag.zsi ⟨rfl, Or.inr (Or.inr (Or.inl rfl))⟩
    refine ⟨_, w, S4, tbag B4 e5, (e2.trans e4).trans e5, by rw [zi_miss (by decide)]; exact x14, by rw [zi_miss (by decide)]; exact x15, zi_hit, by rw [zj_zsi]; exact x17⟩
  have mono : ∀ {s t : Hp}, Ag Sw9 s t → Ag Sn9 s t := fun h => h.mono (fun a k z => by unfold Sw9 at z; unfold Sn9; omega)
  by_cases c : p = L
  · have q : (iN p = iN L) = True := eq_true (by rw [c])
    obtain ⟨σ5, y1, y2, y3, y4, y5, y6, y7, y8⟩ := sorted 0
    have n1 := words9_no y2 (by rw [y7]; decide)
    have n2 := digits9_no y2 (by rw [y7]; decide)
    have i16 := q_i125 (k := 16) y2
    rw [y7] at i16
    refine ⟨σ5, ?_, y4, y5, ?_, Or.inl ⟨c, y7⟩⟩
    · simp only [s_X9_next_j46, s_X9_next_j114, s_X9_next_j149, s_X9_next_j243, i14, w15, w17, i14b, i13b, q, y1, i16, (show ¬ (0 : Int32) = 3 by decide), n1, n2, bos, cbs, if_true, if_false]
    · rw [if_neg (by omega), y6, c]
  · have hpl : p < L := by omega
    have q : ¬ iN p = iN L := fun z => c ((iN_inj (by omega) (by omega)).mp z)
    have l4 := q_ld134 (n := p) (by omega) S4
    rw [B4.2.2.1 p (by omega)] at l4
    have hb := hB.2.1 p
    have te := teN_le (tb := tb) hpl
    rcases cls_3 (tb p) with d | d | d
    · have s1 := small9_f (σ := σ4) hb (by omega)
      have s2 := digit9_f (σ := σ4) hb (by omega)
      obtain ⟨σ5, y1, y2, y3, y4, y5, y6, y7, y8⟩ := sorted 3
      have i16 := q_i125 (k := 16) y2
      rw [y7] at i16
      have r5 := q_r125_12 y2
      have i14c := q_i125 (k := 14) y2
      rw [y5] at i14c
      have l5 := q_ld134 (n := p) (by omega) y2
      rw [y3.2.2.1 p (by omega)] at l5
      have w17b := q_wj125 (k := 17) (v := Int32.toInt64 (iN (tb p))) y2
      have S6 : SK (zsj σ5 125 17 (Int32.toInt64 (iN (tb p)))) := y2
      have i15c := q_i125 (k := 15) S6
      have i15c : rdI 9 (zsj σ5 125 17 (Int32.toInt64 (iN (tb p)))) 125 15 = some (zi σ5 125 15) := i15c
      rw [y6] at i15c
      have i1 : iN p + 1 = iN (p + 1) := iN_add p 1
      have w15b := q_w125 (k := 15) (v := iN (p + 1)) S6
      have e6 : Ag Sn9 σ5 (zsi (zsj σ5 125 17 (Int32.toInt64 (iN (tb p)))) 125 15 (iN (p + 1))) := (Ag.zsj ⟨rfl, Or.inr (Or.inr (Or.inr rfl))⟩).trans (Ag.zsi ⟨rfl, Or.inr (Or.inl rfl)⟩)
      have v14 : zi (zsi (zsj σ5 125 17 (Int32.toInt64 (iN (tb p)))) 125 15 (iN (p + 1))) 125 14 = iN p := by
        rw [zi_miss (by decide)]
        exact y5
      have v15 : zi (zsi (zsj σ5 125 17 (Int32.toInt64 (iN (tb p)))) 125 15 (iN (p + 1))) 125 15 = iN (p + 1) := zi_hit
      have v16 : zi (zsi (zsj σ5 125 17 (Int32.toInt64 (iN (tb p)))) 125 15 (iN (p + 1))) 125 16 = 3 := by
        rw [zi_miss (by decide)]
        exact y7
      have v17 : zj (zsi (zsj σ5 125 17 (Int32.toInt64 (iN (tb p)))) 125 15 (iN (p + 1))) 125 17 = jN (tb p) := by
        rw [zj_zsi, zj_hit, j_iN (by omega)]
      have S7 : SK (zsi (zsj σ5 125 17 (Int32.toInt64 (iN (tb p)))) 125 15 (iN (p + 1))) := y2
      generalize zsj σ5 125 17 (Int32.toInt64 (iN (tb p))) = σ6 at w17b i15c w15b e6 v14 v15 v16 v17 S7
      generalize zsi σ6 125 15 (iN (p + 1)) = σ7 at w15b e6 v14 v15 v16 v17 S7
      have n1 := words9_no S7 (by rw [v16]; decide)
      have n2 := digits9_no S7 (by rw [v16]; decide)
      refine ⟨σ7, ?_, y4.trans e6, v14, ?_, Or.inr (Or.inr (Or.inr ⟨hpl, d, v16, v17⟩))⟩
      · simp only [s_X9_next_j46, s_X9_next_j114, s_X9_next_j149, s_X9_next_j243, i14, w15, w17, i14b, i13b, q, r4, l4, s1, s2, y1, i16, r5, i14c, l5, w17b, i15c, i1, w15b, n1, n2, bos, cbs, if_true, if_false]
      · rw [if_pos hpl, v15, te_sign d]
    · have s1 := small9_t (σ := σ4) d
      obtain ⟨σ5, y1, y2, y3, y4, y5, y6, y7, y8⟩ := sorted 1
      have i16 := q_i125 (k := 16) y2
      rw [y7] at i16
      obtain ⟨σ6, z1, z2, z3, z4⟩ := words9 (p := p) (L - p) p σ5 (by omega) (Nat.le_refl _) y2 y3 y5 y6 y7 (by
        rw [y8, Nat.sub_self]
        rfl)
      have er : runN (ltB tb) (L - p) p = teN tb L p := te_run hpl (by decide) d
      rw [er] at z3 z4
      have S6 := y2.ag z2
      have v16 : zi σ6 125 16 = 1 := by rw [(z2.2.2.2.2 125 16 (by unfold Sw9; omega)).1, y7]
      have n2 := digits9_no S6 (by rw [v16]; decide)
      refine ⟨σ6, ?_, y4.trans (mono z2), by rw [(z2.2.2.2.2 125 14 (by unfold Sw9; omega)).1, y5], by rw [if_pos hpl, z3], Or.inr (Or.inl ⟨hpl, d, v16, z4⟩)⟩
      simp only [s_X9_next_j46, s_X9_next_j114, s_X9_next_j149, s_X9_next_j243, i14, w15, w17, i14b, i13b, q, r4, l4, s1, z10', y1, i16, (show ¬ (1 : Int32) = 3 by decide), z1, n2, bos, cbs, if_true, if_false]
    · have s1 := small9_f (σ := σ4) hb (by omega)
      have s2 := digit9_t (σ := σ4) d
      obtain ⟨σ5, y1, y2, y3, y4, y5, y6, y7, y8⟩ := sorted 2
      have i16 := q_i125 (k := 16) y2
      rw [y7] at i16
      have n1 := words9_no y2 (by rw [y7]; decide)
      obtain ⟨σ6, w1, z1, z2, z3, z4, z5, z6⟩ := digits9 (L - p) p 0 σ5 (by omega) y2 y3 y6 y7 y8 (by omega)
      have er : runN (dgB tb) (L - p) p = teN tb L p := te_run hpl (by decide) d
      rw [er] at z3 z6
      have v16 : zi σ6 125 16 = 2 := by rw [(z2.2.2.2.2 125 16 (by unfold Sw9; omega)).1, y7]
      refine ⟨σ6, ?_, y4.trans (mono z2), by rw [(z2.2.2.2.2 125 14 (by unfold Sw9; omega)).1, y5], by rw [if_pos hpl, z3], Or.inr (Or.inr (Or.inl ⟨hpl, d, v16, w1, z5, z4, ?_⟩))⟩
      · simp only [s_X9_next_j46, s_X9_next_j114, s_X9_next_j149, s_X9_next_j243, i14, w15, w17, i14b, i13b, q, r4, l4, s1, s2, z10', y1, i16, (show ¬ (2 : Int32) = 3 by decide), n1, z1, bos, cbs, if_true, if_false]
      · rw [z6]
        unfold nmbN
        rw [if_pos d]
        rfl
end RX
