/-! ===== whither, barred, leads, safe: both sides ===== -/
section V13
variable {σ : Hp}
def bI (x : Bool) : Int32 := if x = true then 1 else 0
theorem bI_0 {x : Bool} : bI x = 0 ↔ x = false := by
  cases x <;> decide
theorem bI_1 {x : Bool} : bI x = 1 ↔ x = true := by
  cases x <;> decide
theorem bI_t : bI true = 1 := rfl
theorem bI_f : bI false = 0 := rfl
theorem z10' : ¬ (1 : Int32) = 0 := by decide
def hbP (x k : Int32) : Bool := decide ((x >>> (k &&& 31)) &&& 1 = 1)
theorem hb8 {x k : Int32} : s_X8_hasBit x k σ = some (bI (hbP x k), σ) := by
  unfold s_X8_hasBit hbP bI
  by_cases c : (x >>> (k &&& 31)) &&& 1 = 1
  · simp [c]
  · simp [c]
theorem hb9 {x k : Int32} : s_X9_is x k σ = some (bI (hbP x k), σ) := by
  unfold s_X9_is hbP bI
  by_cases c : (x >>> (k &&& 31)) &&& 1 = 1
  · simp [c]
  · simp [c]
def rmQ (v : Int64) : Bool := decide (0 ≤ v ∧ v < 6)
theorem rm8 {v : Int64} : s_X8_isRoom v σ = some (bI (rmQ v), σ) := by
  unfold s_X8_isRoom rmQ bI
  simp only [lg_cmp_lt, lg_cmp_ge]
  by_cases c1 : v < 0
  · rw [if_pos c1, if_neg (by simp only [decide_eq_true_eq]; exact fun q => absurd c1 (Int64.not_lt.mpr q.1))]
  · rw [if_neg c1]
    by_cases c2 : 6 ≤ v
    · rw [if_pos c2, if_neg (by simp only [decide_eq_true_eq]; exact fun q => absurd q.2 (Int64.not_lt.mpr c2))]
    · rw [if_neg c2, if_pos (by simp only [decide_eq_true_eq]; exact ⟨Int64.not_lt.mp c1, Int64.not_le.mp c2⟩)]
theorem rm9 {v : Int64} : s_X9_isRoom v σ = some (bI (rmQ v), σ) := by
  have e : (Int32.toInt64 6 - 1 : Int64) = 5 := by decide
  unfold s_X9_isRoom rmQ bI
  rw [x_in]
  by_cases c : 0 ≤ v ∧ v < 6
  · have : v.toInt < 6 := Int64.lt_iff_toInt_lt.mp c.2
    have c1 : 0 ≤ v ∧ v ≤ 5 := ⟨c.1, Int64.le_iff_toInt_le.mpr (by show v.toInt ≤ 5; omega)⟩
    rw [if_pos c1, if_pos (by simpa using c)]
    rfl
  · have c1 : ¬ (0 ≤ v ∧ v ≤ 5) := by
      rintro ⟨q1, q2⟩
      have : v.toInt ≤ 5 := Int64.le_iff_toInt_le.mp q2
      exact c ⟨q1, Int64.lt_iff_toInt_lt.mpr (by show v.toInt < 6; omega)⟩
    rw [if_neg c1, if_neg (by simpa using c)]
    rfl
theorem rmQ_of {v : Int64} (h : rmQ v = true) : ∃ n, n < 6 ∧ Int64.toInt32 v = iN n ∧ v = Int32.toInt64 (iN n) := by
  have h1 : 0 ≤ v ∧ v < 6 := by simpa [rmQ] using h
  have h2 : 0 ≤ v.toInt := Int64.le_iff_toInt_le.mp h1.1
  have h3 : v.toInt < 6 := Int64.lt_iff_toInt_lt.mp h1.2
  have e1 : (Int64.toInt32 v).toInt = v.toInt := by
    rw [Int64.toInt_toInt32]
    exact Int.bmod_eq_of_le (by omega) (by omega)
  refine ⟨v.toInt.toNat, by omega, ?_, ?_⟩
  · apply Int32.toInt_inj.mp
    rw [e1, iN_int (by omega)]
    omega
  · apply Int64.toInt_inj.mp
    rw [iN64 (by omega)]
    omega
theorem rmQ_n {n : Nat} (h : n < 6) : rmQ (Int32.toInt64 (iN n)) = true := by
  simp only [rmQ, decide_eq_true_eq]
  constructor
  · apply Int64.le_iff_toInt_le.mpr
    rw [iN64 (by omega)]
    show (0 : Int) ≤ _
    omega
  · apply Int64.lt_iff_toInt_lt.mpr
    rw [iN64 (by omega)]
    show _ < (6 : Int)
    omega
theorem bd9 {v : Int64} : s_X9_bounded v 0 10 σ = some (clamp v, σ) := by
  have e0 : Int32.toInt64 0 = 0 := rfl
  have e10 : Int32.toInt64 10 = 10 := rfl
  unfold s_X9_bounded clamp
  simp only [e0, e10, lg_cmp_ge, lg_cmp_le]
  by_cases c1 : 0 ≤ v
  · rw [if_pos c1]
    by_cases c2 : v ≤ 10
    · rw [if_pos c2]
      have h3 : (if v < 10 then v else 10) = v := by
        by_cases c3 : v < 10
        · rw [if_pos c3]
        · rw [if_neg c3]
          exact Int64.le_antisymm (Int64.not_lt.mp c3) c2
      rw [h3, if_neg (Int64.not_lt.mpr c1)]
    · rw [if_neg c2, if_neg (fun q => c2 (Int64.le_of_lt q))]
      rfl
  · rw [if_neg c1]
    have c2 : v < 10 := Int64.lt_trans (Int64.not_le.mp c1) (by decide)
    rw [if_pos c2, if_pos (Int64.not_le.mp c1)]
    rfl
section ON
variable {b nP nF nB nT nS nL H hr : Nat} {B : Book} {R : Nat → Int32}
theorem thin9 (h : M9 nP nF nB nT nS nL H B R σ) (h3 : hr < 100000) (h7 : R 7 = iN hr) {rm : Nat} :
    ∃ σ1, s_X9_theirsIn 125 (iN rm) σ = some (thP B R (lawR R) rm hr, σ1) ∧ Ag S9 σ σ1 := by
  have hS := h.1
  have b3 := q_r125_3 hS
  have bk := q_ck125 hS
  have l7 : ldI 11 σ 127 7 = some (iN hr) := (rw_7 hS).trans (by rw [h.2.1, h7])
  have e24 : iN hr - iN hr / 24 * 24 = iN (hr % 24) := iN_mod (by omega) (by decide)
  have hm : hr % 24 < 24 := Nat.mod_lt _ (by decide)
  obtain ⟨σ1, k1, k2⟩ := tells9 (h := 0) (rm := iN rm) (b := -1) (f := -1) (p := -1) (wo := baseP hr) h h3 h7 (by decide) (Or.inl rfl) (Or.inl rfl)
  have v1 : lgR R (-1) = -1 := if_pos rfl
  have v2 : hgR R (-1) = -1 := if_pos rfl
  rw [v1, v2] at k1
  have k1 : s_X9_tells 125 0 (iN rm) (-1) (-1) (-1) (baseP hr) σ = _ := k1
  refine ⟨σ1, ?_, k2⟩
  unfold thP
  by_cases c1 : 18 ≤ hr % 24
  · have d1 : (17 : Int32) < iN (hr % 24) := (iN_lt (a := 17) (by decide) (by omega)).mpr (by omega)
    have d2 : baseP hr = 2 := if_pos (Or.inl c1)
    rw [d2] at k1
    simp only [s_X9_theirsIn, s_X9_theirsIn_j29, s_X9_theirsIn_j36, b3, bk, l7, e24, d1, k1, bd9, d2, if_true, bind_ok, Option.bind_some, cb_some]
  · have d1 : ¬ (17 : Int32) < iN (hr % 24) := fun q => absurd ((iN_lt (a := 17) (by decide) (by omega)).mp q) (by omega)
    by_cases c2 : hr % 24 ≤ 5
    · have d3 : ¬ (6 : Int32) ≤ iN (hr % 24) := fun q => absurd ((iN_le (a := 6) (by decide) (by omega)).mp q) (by omega)
      have d2 : baseP hr = 2 := if_pos (Or.inr c2)
      rw [d2] at k1
      simp only [s_X9_theirsIn, s_X9_theirsIn_j29, s_X9_theirsIn_j36, b3, bk, l7, e24, d1, d3, k1, bd9, d2, if_false, bind_ok, Option.bind_some, cb_some]
    · have d3 : (6 : Int32) ≤ iN (hr % 24) := (iN_le (a := 6) (by decide) (by omega)).mpr (by omega)
      have d2 : baseP hr = 0 := if_neg (by omega)
      rw [d2] at k1
      simp only [s_X9_theirsIn, s_X9_theirsIn_j29, s_X9_theirsIn_j36, b3, bk, l7, e24, d1, d3, k1, bd9, d2, if_true, if_false, bind_ok, Option.bind_some, cb_some]
/-- theirs by the law in force: class -/
theorem thf8 (h : M8 b nP nF nB nT nS nL H B R σ) (hr2 : hr < 2147483648) : ∃ t, s_X1_lawInForce b σ = some (t, σ) ∧ ∀ σ0, Ag S8 σ σ0 → ∀ rm : Nat, ∃ σ1, s_X1_theirsBy b t (iN rm) (iN hr) σ0 = some (thP B R (lawR R) rm hr, σ1) ∧ Ag S8 σ0 σ1 := by
  rcases lif8 h with ⟨h1, h2⟩ | ⟨j, t, h1, h2, h3, h4, h5⟩
  · exact ⟨none, h2, fun σ0 q rm => thb8 (h.ag q) hr2 (Or.inl ⟨h1, rfl⟩)⟩
  · exact ⟨some t, h4, fun σ0 q rm => thb8 (h.ag q) hr2 (Or.inr ⟨j, t, h1, h2, rfl, by rw [q.2.2.2.1]; exact h3, by rw [q.2.1]; exact h5⟩)⟩
/-- is a perch safe -/
def sfP (B : Book) (R : Nat → Int32) (p hr : Nat) : Bool := decide (thP B R (lawR R) (R (30 + p)).toNatClampNeg hr ≤ R (40 + p))
theorem room_n {p : Nat} (h : WF nP nF nB nT nS nL H R) (hp : p < 10) : ∃ r, r < 6 ∧ R (30 + p) = iN r := by
  obtain ⟨r, q1, q2⟩ := h.room hp
  exact ⟨r, by omega, q2⟩
theorem safe9 (h : M9 nP nF nB nT nS nL H B R σ) (h3 : hr < 100000) (h7 : R 7 = iN hr) {p : Nat} (hp : p < 10) :
    ∃ σ1, s_X9_isSafe 125 (iN p) σ = some (bI (sfP B R p hr), σ1) ∧ Ag S9 σ σ1 := by
  have hS := h.1
  have b3 := q_r125_3 hS
  have bk := q_ck125 hS
  obtain ⟨r, hr1, hr2⟩ := room_n h.2.2.1 hp
  have l1 : ldI 11 σ 127 (40 + iN p) = some (R (40 + p)) := by
    rw [show (40 : Int32) = iN 40 from rfl, iN_add, q_ld127 (by omega) hS, h.2.1]
  have l2 : ldI 11 σ 127 (30 + iN p) = some (iN r) := by
    rw [show (30 : Int32) = iN 30 from rfl, iN_add, q_ld127 (by omega) hS, h.2.1, hr2]
  obtain ⟨σ1, k1, k2⟩ := thin9 h h3 h7 (rm := r)
  refine ⟨σ1, ?_, k2⟩
  unfold sfP
  rw [hr2, iN_nat (by omega)]
  by_cases c : thP B R (lawR R) r hr ≤ R (40 + p)
  · have c1 : ¬ R (40 + p) < thP B R (lawR R) r hr := Int32.not_lt.mpr c
    simp only [s_X9_isSafe, b3, bk, l1, l2, k1, c, c1, decide_true, bI_t, if_false, bind_ok, Option.bind_some, cb_some]
  · have c1 : R (40 + p) < thP B R (lawR R) r hr := Int32.not_le.mp c
    simp only [s_X9_isSafe, b3, bk, l1, l2, k1, c, c1, decide_false, bI_f, if_true, bind_ok, Option.bind_some, cb_some]
theorem M8.c3 (h : M8 b nP nF nB nT nS nL H B R σ) : zi σ (b + 1) 3 = iN nP := h.2.2.1.g0.trans h.2.2.2.1.2.1.1
theorem M8.p10 (h : M8 b nP nF nB nT nS nL H B R σ) : nP ≤ 10 := h.2.2.2.1.1.1
theorem M8.f4 (h : M8 b nP nF nB nT nS nL H B R σ) : nF ≤ 4 := h.2.2.2.1.1.2.1
theorem M8.b3 (h : M8 b nP nF nB nT nS nL H B R σ) : nB ≤ 3 := h.2.2.2.1.1.2.2.1
theorem roomOf8 (h : M8 b nP nF nB nT nS nL H B R σ) {p : Nat} (hp : p < nP) : s_X3_roomOf (b + 1) (iN p) σ = some (R (30 + p), σ) := by
  have o1 := one_t h.2.1 h.c3 h.p10 hp
  have k1 := h_ck1 h.2.1
  have r1 := h_r1_0 h.2.1
  have l1 := h_ld2 (n := p) (by have := h.p10; omega) h.2.1
  rw [h.2.2.1.room (by have := h.p10; omega)] at l1
  simp only [s_X3_roomOf, k1, o1, r1, l1, z10', if_false, bind_ok, Option.bind_some, cb_some]
theorem highOf8 (h : M8 b nP nF nB nT nS nL H B R σ) {p : Nat} (hp : p < nP) : s_X3_highOf (b + 1) (iN p) σ = some (R (40 + p), σ) := by
  have o1 := one_t h.2.1 h.c3 h.p10 hp
  have k1 := h_ck1 h.2.1
  have r1 := h_r1_1 h.2.1
  have l1 := h_ld3 (n := p) (by have := h.p10; omega) h.2.1
  rw [h.2.2.1.high (by have := h.p10; omega)] at l1
  simp only [s_X3_highOf, k1, o1, r1, l1, z10', if_false, bind_ok, Option.bind_some, cb_some]
theorem safe8 (h : M8 b nP nF nB nT nS nL H B R σ) (hr2 : hr < 2147483648) {p : Nat} (hp : p < nP) :
    ∃ σ1, s_X1_isSafe b (iN p) (iN hr) σ = some (bI (sfP B R p hr), σ1) ∧ Ag S8 σ σ1 := by
  have hp10 := h.p10
  have o1 := one_t h.2.1 h.c3 hp10 hp
  obtain ⟨t, t1, t2⟩ := thf8 h hr2
  obtain ⟨r, hr1, hr3⟩ := room_n h.2.2.2.1 (p := p) (by omega)
  have ro := roomOf8 h hp
  have hi := highOf8 h hp
  rw [hr3] at ro
  obtain ⟨σ1, k1, k2⟩ := t2 σ Ag.refl r
  have r0 := h_r0_0 h.2.1
  have k0 := h_ck0 h.2.1
  have kk := h_ck1 h.2.1
  refine ⟨σ1, ?_, k2⟩
  unfold sfP
  rw [hr3, iN_nat (by omega)]
  by_cases c : thP B R (lawR R) r hr ≤ R (40 + p)
  · have c1 : ¬ R (40 + p) < thP B R (lawR R) r hr := Int32.not_lt.mpr c
    simp only [s_X1_isSafe, r0, k0, kk, o1, hi, t1, ro, k1, c, c1, z10', decide_true, bI_t, if_false, bind_ok, Option.bind_some, cb_some]
  · have c1 : R (40 + p) < thP B R (lawR R) r hr := Int32.not_le.mp c
    simp only [s_X1_isSafe, r0, k0, kk, o1, hi, t1, ro, k1, c, c1, z10', decide_false, bI_f, if_true, if_false, bind_ok, Option.bind_some, cb_some]
/-- whither a badger goes -/
def toP (B : Book) (R : Nat → Int32) (rm bd hr : Nat) : Int64 := (askP B (lawR R) 1 (ev (iN rm) (iN (hr % 24)) (iN hr) (iN bd) (-1) (-1) (-1) (-1) (R 9))).getD (Int32.toInt64 (iN ((rm + 1) % 6)))
def goP (B : Book) (R : Nat → Int32) (rm bd hr : Nat) : Int32 := if rmQ (toP B R rm bd hr) = true ∧ hbP (R (11 + rm)) (Int64.toInt32 (toP B R rm bd hr)) = true then Int64.toInt32 (toP B R rm bd hr) else iN rm
theorem goP_n {rm bd : Nat} (h : rm < 6) : ∃ n, n < 6 ∧ goP B R rm bd hr = iN n := by
  unfold goP
  by_cases c : rmQ (toP B R rm bd hr) = true ∧ hbP (R (11 + rm)) (Int64.toInt32 (toP B R rm bd hr)) = true
  · rw [if_pos c]
    obtain ⟨n, h1, h2, -⟩ := rmQ_of c.1
    exact ⟨n, h1, h2⟩
  · rw [if_neg c]
    exact ⟨rm, h, rfl⟩
theorem goes9 (h : M9 nP nF nB nT nS nL H B R σ) (h3 : hr < 100000) (h7 : R 7 = iN hr) {bd rm : Nat} (hb : bd < 3) (hrm : rm < 6) (hR : R (21 + bd) = iN rm) :
    ∃ σ1, s_X9_goesTo 125 (iN bd) σ = some (goP B R rm bd hr, σ1) ∧ Ag S9 σ σ1 := by
  have hS := h.1
  have b3 := q_r125_3 hS
  have bk := q_ck125 hS
  have l1 : ldI 11 σ 127 (21 + iN bd) = some (iN rm) := by
    rw [show (21 : Int32) = iN 21 from rfl, iN_add, q_ld127 (by omega) hS, h.2.1, hR]
  have e6 : iN rm + 1 - (iN rm + 1) / 6 * 6 = iN ((rm + 1) % 6) := by
    rw [show iN rm + 1 = iN (rm + 1) from iN_add _ 1]
    exact iN_mod (by omega) (by decide)
  obtain ⟨σ1, k1, k2⟩ := tells9 (h := 1) (rm := iN rm) (b := iN bd) (f := -1) (p := -1) (wo := Int32.toInt64 (iN ((rm + 1) % 6))) h h3 h7 (by decide) (Or.inl rfl) (Or.inl rfl)
  have v1 : lgR R (-1) = -1 := if_pos rfl
  have v2 : hgR R (-1) = -1 := if_pos rfl
  rw [v1, v2] at k1
  have k1 : s_X9_tells 125 1 (iN rm) (iN bd) (-1) (-1) (Int32.toInt64 (iN ((rm + 1) % 6))) σ = some (toP B R rm bd hr, σ1) := k1
  have h1 := h.ag k2
  have b3b := q_r125_3 h1.1
  have l2 : ldI 11 σ1 127 (11 + iN rm) = some (R (11 + rm)) := by
    rw [show (11 : Int32) = iN 11 from rfl, iN_add, q_ld127 (by omega) h1.1, h1.2.1]
  refine ⟨σ1, ?_, k2⟩
  unfold goP
  cases c1 : rmQ (toP B R rm bd hr) with
  | false => simp only [s_X9_goesTo, b3, bk, l1, e6, k1, rm9, c1, bI_f, if_true, Bool.false_eq_true, false_and, if_false, bind_ok, Option.bind_some, cb_some]
  | true =>
    cases c2 : hbP (R (11 + rm)) (Int64.toInt32 (toP B R rm bd hr)) with
    | false => simp only [s_X9_goesTo, b3, bk, b3b, l1, l2, e6, k1, rm9, hb9, c1, c2, bI_f, bI_t, z10', if_true, Bool.false_eq_true, and_false, if_false, bind_ok, Option.bind_some, cb_some]
    | true => simp only [s_X9_goesTo, b3, bk, b3b, l1, l2, e6, k1, rm9, hb9, c1, c2, bI_t, z10', if_true, and_self, if_false, bind_ok, Option.bind_some, cb_some]
theorem open8 (h : M8 b nP nF nB nT nS nL H B R σ) {r q : Nat} (hr0 : r < 6) (hq : q < 6) : s_X1_isOpen b (iN r) (iN q) σ = some (bI (hbP (R (11 + r)) (iN q)), σ) := by
  have r1 := h_r0_1 h.2.1
  have l1 := h_ld5 (n := r) hr0 h.2.1
  rw [h.2.2.1.doors hr0] at l1
  cases c2 : hbP (R (11 + r)) (iN q) with
  | false => simp only [s_X1_isOpen, rm8, rmQ_n hr0, rmQ_n hq, r1, l1, hb8, c2, bI_t, bI_f, z10', if_true, if_false, bind_ok, Option.bind_some, cb_some]
  | true => simp only [s_X1_isOpen, rm8, rmQ_n hr0, rmQ_n hq, r1, l1, hb8, c2, bI_t, z10', if_false, bind_ok, Option.bind_some, cb_some]
theorem HK_word {w : Nat} (h : HK b σ) : rdR 5 σ (b + 16) 0 = some (some (b + 17)) := h_r16_0 h
theorem goes8 (h : M8 b nP nF nB nT nS nL H B R σ) (hr2 : hr < 2147483648) {bd rm : Nat} (hrm : rm < 6) :
    ∃ σ1, s_X1_whither b (iN bd) (iN rm) (iN hr) σ = some (goP B R rm bd hr, σ1) ∧ Ag S8 σ σ1 := by
  have h2 := h.2.1
  have k0 := h_ck0 h2
  have e6 : iN rm + 1 - (iN rm + 1) / 6 * 6 = iN ((rm + 1) % 6) := by
    rw [show iN rm + 1 = iN (rm + 1) from iN_add _ 1]
    exact iN_mod (by omega) (by decide)
  have tail : ∀ σ1, M8 b nP nF nB nT nS nL H B R σ1 → s_X1_whither_j77 b (iN rm) (toP B R rm bd hr) σ1 = some (goP B R rm bd hr, σ1) := by
    intro σ1 h1
    have k1 := h_ck0 h1.2.1
    unfold goP
    cases c1 : rmQ (toP B R rm bd hr) with
    | false => simp only [s_X1_whither_j77, rm8, c1, bI_f, if_true, Bool.false_eq_true, false_and, if_false, bind_ok, Option.bind_some, cb_some]
    | true =>
      obtain ⟨n, n1, n2, n3⟩ := rmQ_of c1
      have o1 := open8 h1 hrm n1
      rw [n2]
      cases c2 : hbP (R (11 + rm)) (iN n) with
      | false =>
        rw [c2] at o1
        simp only [s_X1_whither_j77, rm8, c1, n2, k1, o1, bI_f, bI_t, z10', if_true, Bool.false_eq_true, and_false, if_false, bind_ok, Option.bind_some, cb_some]
      | true =>
        rw [c2] at o1
        simp only [s_X1_whither_j77, rm8, c1, n2, k1, o1, bI_t, z10', and_self, if_true, if_false, bind_ok, Option.bind_some, cb_some]
  rcases lif8 h with ⟨g1, g2⟩ | ⟨j, t, g1, g2, g3, g4, g5⟩
  · refine ⟨σ, ?_, Ag.refl⟩
    have e1 : toP B R rm bd hr = Int32.toInt64 (iN ((rm + 1) % 6)) := by
      unfold toP
      rw [g1]
      rfl
    have t1 := tail σ h
    rw [e1] at t1
    simp only [s_X1_whither, k0, g2, e6, t1, if_true, bind_ok, Option.bind_some, cb_some]
  · have r12 := h_r0_12 h2
    have r10 := h_r0_10 h2
    have l2 := ht_2 h2
    rw [show zi σ (b + 14) 2 = R 9 from h.2.2.1.g9] at l2
    have k16 := h_ck16 h2
    obtain ⟨σ1, m1, m2, m3⟩ := tlw8 h.rk (rm := iN rm) (md := R 9) hr2
    have A1 : Ag S8 σ σ1 := m2.mono (fun a k q => q ▸ (h.1.s17 k).1)
    have h1 := h.ag A1
    have r12b := h_r0_12 h1.2.1
    have r16b := h_r16_0 h1.2.1
    have st := rk_st3 h1.rk (v := iN bd)
    have A2 : Ag S8 σ (zsi σ1 (b + 17) 3 (iN bd)) := A1.trans (Ag.zsi (h.1.s17 3).1)
    have h1b := h.ag A2
    have r12c := h_r0_12 h1b.2.1
    have kt : ck 7 (zsi σ1 (b + 17) 3 (iN bd)) t = some () := ck_t (by rw [A2.2.1]; exact g5)
    have hw : ∀ k, k < 18 → zi (zsi σ1 (b + 17) 3 (iN bd)) (b + 17) k = ev (iN rm) (iN (hr % 24)) (iN hr) (iN bd) (-1) (-1) (-1) (-1) (R 9) k := fun k hk => by
      rw [zi_zsi, ← ev_3 (bd := -1), m3 k hk]
      simp only [true_and]
    obtain ⟨σ2, u1, u2, u3⟩ := ask8 h1b g1 (hd := 1) (by decide) ev_hi hw (by rw [A2.2.2.2.1]; exact g3)
    have u1 : s_X7_told t 301 (some (b + 16)) (zsi σ1 (b + 17) 3 (iN bd)) = _ := u1
    have h4 := h1b.ag u2
    have t1 := tail σ2 h4
    refine ⟨σ2, ?_, A2.trans u2⟩
    have eT : toP B R rm bd hr = (askP B (some j) 1 (ev (iN rm) (iN (hr % 24)) (iN hr) (iN bd) (-1) (-1) (-1) (-1) (R 9))).getD (Int32.toInt64 (iN ((rm + 1) % 6))) := by
      unfold toP
      rw [g2]
    cases hv : askP B (some j) 1 (ev (iN rm) (iN (hr % 24)) (iN hr) (iN bd) (-1) (-1) (-1) (-1) (R 9)) with
    | none =>
      rw [hv] at u1 eT
      rw [eT] at t1
      have t1 : s_X1_whither_j77 b (iN rm) (Int32.toInt64 (iN ((rm + 1) % 6))) σ2 = _ := t1
      simp only [s_X1_whither, s_X1_whither_j75, k0, g4, e6, r12, r10, l2, k16, m1, r12b, r16b, st, r12c, kt, u1, t1, reduceCtorEq, lg_cmp_eq, Option.getD_none, if_true, if_false, bind_ok, Option.bind_some, cb_some]
    | some v =>
      rw [hv] at u1 eT
      rw [eT] at t1
      have t1 : s_X1_whither_j77 b (iN rm) v σ2 = _ := t1
      have hs := sm_ne (u3 v hv)
      simp only [s_X1_whither, s_X1_whither_j75, k0, g4, e6, r12, r10, l2, k16, m1, r12b, r16b, st, r12c, kt, u1, t1, reduceCtorEq, lg_cmp_eq, hs, Option.getD_some, if_false, bind_ok, Option.bind_some, cb_some]
end ON
end V13
