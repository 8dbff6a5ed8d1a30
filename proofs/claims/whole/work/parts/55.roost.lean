/-! ===== roost ===== -/
section V23
variable {σ : Hp}
theorem low8 {S : Nat → Bool} : s_X2_lowestOf (iN (setN S 10)) σ = some (match firstP S 10 0 with | some p => iN p | none => -1, σ) := by
  obtain ⟨σ1, g1, g2⟩ := loop_first (body := fun v => s_X2_lowestOf_b2 (v.1) (v.2)) (fun _ s => s = σ) (fun s => s = σ) (fun i => (iN (setN S 10), iN i)) S (fun o => match o with | some p => iN p | none => -1) 10 (fun i s hi hs => by
    subst hs
    have f1 : ¬ (10 : Int32) ≤ iN i := fun q => absurd ((iN_le (a := 10) (by decide) (by omega)).mp q) (by omega)
    have i1 : iN i + 1 = iN (i + 1) := iN_add _ _
    have hb := hb_set (f := S) (n := 10) (k := i) (by decide) (by omega)
    rw [decide_eq_true hi, Bool.true_and] at hb
    constructor
    · intro c
      rw [c] at hb
      exact ⟨s, by simp only [s_X2_lowestOf_b2, f1, hb8, hb, bI_t, z10', if_true, if_false, bind_ok, Option.bind_some, cb_some], rfl⟩
    · intro c
      rw [c] at hb
      exact ⟨s, by simp only [s_X2_lowestOf_b2, f1, hb8, hb, bI_f, i1, z10', if_true, if_false, bind_ok, Option.bind_some, cb_some], rfl⟩) (fun s hs => by
    subst hs
    have f1 : (10 : Int32) ≤ iN 10 := by decide
    exact ⟨s, by simp only [s_X2_lowestOf_b2, f1, z10', if_true, if_false, bind_ok, Option.bind_some, cb_some], rfl⟩) (σ := σ) rfl
  subst g2
  have g1 : s_X2_lowestOf_l2 (iN (setN S 10), 0) σ1 = _ := g1
  simp only [s_X2_lowestOf, g1, cb_some]
section ON
variable {nP nF nB nT nS nL H hr : Nat} {B : Book} {R : Nat → Int32}
/-- the safe perches -/
def sfQ (B : Book) (R : Nat → Int32) (nP hr : Nat) : Nat → Bool := fun p => decide (p < nP) && sfP B R p hr
theorem safes8 (h : M8 1 nP nF nB nT nS nL H B R σ) (hr2 : hr < 2147483648) :
    ∃ σ1, s_X1_safePerches 1 (iN hr) σ = some (iN (setN (sfQ B R nP hr) 10), σ1) ∧ Ag S8 σ σ1 := by
  have hp10 := h.p10
  have room : ∀ p, p < nP → ∃ r, r < 6 ∧ R (30 + p) = iN r := fun p hp => room_n h.2.2.2.1 (by omega)
  obtain ⟨σ1, g1, g2⟩ := loop_to (body := fun v => s_X1_safePerches_b4 (v.1) (v.2.1) (v.2.2.1) (v.2.2.2)) (fun _ s => Ag S8 σ s) (fun s => Ag S8 σ s) (fun i => (1, iN hr, iN (setN (fun p => decide (p < nP) && (decide ((R (30 + p)).toNatClampNeg < i) && sfP B R p hr)) 10), iN i)) (iN (setN (sfQ B R nP hr) 10)) 6 (fun i s hi hs => by
    have n8 := h.ag hs
    have f1 : ¬ (6 : Int32) ≤ iN i := fun q => absurd ((iN_le (a := 6) (by decide) (by omega)).mp q) (by omega)
    have k0 := h_ck0 n8.2.1
    have i1 : iN i + 1 = iN (i + 1) := iN_add _ _
    obtain ⟨t, t1, t2⟩ := thf8 n8 hr2
    obtain ⟨s2, u1, u2⟩ := t2 s Ag.refl i
    have n82 := n8.ag u2
    obtain ⟨s3, k1, k2⟩ := loop_to (body := fun v => s_X1_safePerches_b25 (v.1) (v.2.1) (v.2.2.1) (v.2.2.2.1) (v.2.2.2.2.1) (v.2.2.2.2.2)) (fun _ t => t = s2) (fun t => t = s2) (fun j => (1, iN hr, iN (setN (fun p => (decide (p < nP) && (decide ((R (30 + p)).toNatClampNeg < i) && sfP B R p hr)) || (decide (p < j) && (decide ((R (30 + p)).toNatClampNeg = i) && sfP B R p hr))) 10), iN i, thP B R (lawR R) i hr, iN j)) (1, iN hr, iN (setN (fun p => (decide (p < nP) && (decide ((R (30 + p)).toNatClampNeg < i) && sfP B R p hr)) || (decide (p < nP) && (decide ((R (30 + p)).toNatClampNeg = i) && sfP B R p hr))) 10), iN i) nP (fun j t hj ht => by
      subst ht
      have r0 := h_r0_0 n82.2.1
      have c3 := h_i1 (k := 3) n82.2.1
      rw [n82.c3] at c3
      have k1 := h_ck1 n82.2.1
      have f2 : ¬ iN nP ≤ iN j := (fun h => absurd ((iN_le (by omega) (by omega)).mp h) (by omega))
      have j1 : iN j + 1 = iN (j + 1) := iN_add _ _
      obtain ⟨r, hr1, er⟩ := room j hj
      have ro := roomOf8 n82 hj
      rw [er] at ro
      have hi8 := highOf8 n82 hj
      refine ⟨t, ?_, rfl⟩
      rw [setN_add (show j < 10 by omega)]
      rw [er, iN_nat (by omega)]
      by_cases c : r = i
      · have cb : iN r = iN i := by rw [c]
        have es : sfP B R j hr = decide (thP B R (lawR R) i hr ≤ R (40 + j)) := by
          unfold sfP
          rw [er, iN_nat (by omega), c]
        by_cases c2 : thP B R (lawR R) i hr ≤ R (40 + j)
        · have c2b : ¬ R (40 + j) < thP B R (lawR R) i hr := Int32.not_lt.mpr c2
          rw [if_pos (by rw [es]; simp [c, c2]), ← iN_or, ← shl1 j (by omega)]
          simp only [s_X1_safePerches_b25, s_X1_safePerches_j71, r0, c3, k1, f2, ro, hi8, cb, c2b, j1, z10', if_true, if_false, bind_ok, Option.bind_some, cb_some]
        · have c2b : R (40 + j) < thP B R (lawR R) i hr := Int32.not_le.mp c2
          rw [if_neg (by rw [es]; simp [c, c2])]
          simp only [s_X1_safePerches_b25, s_X1_safePerches_j71, r0, c3, k1, f2, ro, hi8, cb, c2b, j1, z10', if_true, if_false, bind_ok, Option.bind_some, cb_some]
      · have cb : ¬ iN r = iN i := (fun h => absurd ((iN_inj (by omega) (by omega)).mp h) (by omega))
        rw [if_neg (by simp [c])]
        simp only [s_X1_safePerches_b25, s_X1_safePerches_j71, r0, c3, k1, f2, ro, cb, j1, z10', if_true, if_false, bind_ok, Option.bind_some, cb_some]) (fun t ht => by
      subst ht
      have r0 := h_r0_0 n82.2.1
      have c3 := h_i1 (k := 3) n82.2.1
      rw [n82.c3] at c3
      have f2 : iN nP ≤ iN nP := Int32.le_refl _
      exact ⟨t, by simp only [s_X1_safePerches_b25, r0, c3, f2, z10', if_true, if_false, bind_ok, Option.bind_some, cb_some], rfl⟩) (σ := s2) rfl
    subst k2
    have e0 : setN (fun p => (decide (p < nP) && (decide ((R (30 + p)).toNatClampNeg < i) && sfP B R p hr)) || (decide (p < 0) && (decide ((R (30 + p)).toNatClampNeg = i) && sfP B R p hr))) 10 = setN (fun p => decide (p < nP) && (decide ((R (30 + p)).toNatClampNeg < i) && sfP B R p hr)) 10 := setN_congr (fun p _ => by simp)
    have e1 : setN (fun p => (decide (p < nP) && (decide ((R (30 + p)).toNatClampNeg < i) && sfP B R p hr)) || (decide (p < nP) && (decide ((R (30 + p)).toNatClampNeg = i) && sfP B R p hr))) 10 = setN (fun p => decide (p < nP) && (decide ((R (30 + p)).toNatClampNeg < i + 1) && sfP B R p hr)) 10 := setN_congr (fun p _ => by
      have : decide ((R (30 + p)).toNatClampNeg < i + 1) = (decide ((R (30 + p)).toNatClampNeg < i) || decide ((R (30 + p)).toNatClampNeg = i)) := by
        rw [Bool.eq_iff_iff, decide_eq_true_eq, Bool.or_eq_true, decide_eq_true_eq, decide_eq_true_eq]
        omega
      rw [this]
      cases decide (p < nP) <;> cases decide ((R (30 + p)).toNatClampNeg < i) <;> cases decide ((R (30 + p)).toNatClampNeg = i) <;> cases sfP B R p hr <;> rfl)
    rw [e0, e1] at k1
    have k1 : s_X1_safePerches_l25 (1, iN hr, iN (setN (fun p => decide (p < nP) && (decide ((R (30 + p)).toNatClampNeg < i) && sfP B R p hr)) 10), iN i, thP B R (lawR R) i hr, 0) s3 = _ := k1
    refine ⟨s3, ?_, hs.trans u2⟩
    simp only [s_X1_safePerches_b4, f1, k0, t1, u1, k1, i1, z10', if_true, if_false, bind_ok, Option.bind_some, cb_some]) (fun s hs => by
    have f1 : (6 : Int32) ≤ iN 6 := by decide
    have e : setN (fun p => decide (p < nP) && (decide ((R (30 + p)).toNatClampNeg < 6) && sfP B R p hr)) 10 = setN (sfQ B R nP hr) 10 := setN_congr (fun p _ => by
      unfold sfQ
      by_cases c : p < nP
      · obtain ⟨r, r1, r2⟩ := room p c
        rw [r2, iN_nat (by omega), decide_eq_true r1, Bool.true_and]
      · simp [c])
    rw [← e]
    exact ⟨s, by simp only [s_X1_safePerches_b4, f1, z10', if_true, if_false, bind_ok, Option.bind_some, cb_some], hs⟩) (σ := σ) Ag.refl
  have e0 : iN (setN (fun p => decide (p < nP) && (decide ((R (30 + p)).toNatClampNeg < 0) && sfP B R p hr)) 10) = 0 := by
    rw [setN_z.mpr (fun p _ => by simp)]
    rfl
  rw [e0] at g1
  have g1 : s_X1_safePerches_l4 (1, iN hr, 0, 0) σ = _ := g1
  refine ⟨σ1, ?_, g2⟩
  simp only [s_X1_safePerches, g1, cb_some]
/-- safe in so many hours from now on -/
def dayP (B : Book) (R : Nat → Int32) (p hr : Nat) : Nat → Bool
  | 0 => true
  | n + 1 => dayP B R p hr n && sfP B R p (hr + n)
theorem day9 (h : M9 nP nF nB nT nS nL 999 B R σ) (h3 : hr ≤ 999) (h7 : R 7 = iN hr) {p : Nat} (hp : p < 10) :
    ∃ σ1, s_X9_isSafeAllDay 125 (iN p) σ = some (bI (dayP B R p hr 24), σ1) ∧ Ag S9 σ σ1 := by
  have qh := h.hi (H2 := 2000) (by decide)
  have b3 := q_r125_3 h.1
  have l7 : ldI 11 σ 127 7 = some (iN hr) := (rw_7 h.1).trans (by rw [h.2.1, h7])
  have W : ∀ {s : Hp}, Ag (fun a k => S9 a k ∨ (a = 127 ∧ k = 7)) σ s → Ag S9w σ s := fun e => e.mono (fun a k q => q.elim (fun w => Or.inl (Or.inl w)) (fun w => Or.inr ⟨w.1, by omega, by omega⟩))
  obtain ⟨σ1, g1, g2⟩ := loop_to (body := fun v => s_X9_isSafeAllDay_b13 (v.1) (v.2.1) (v.2.2.1) (v.2.2.2.1) (v.2.2.2.2)) (fun i s => Ag (fun a k => S9 a k ∨ (a = 127 ∧ k = 7)) σ s ∧ (∃ v, v ≤ 2000 ∧ zi s 127 = up R 7 (iN v)) ∧ zj s 127 = zj σ 127) (fun s => Ag S9 σ s) (fun i => (125, iN p, iN hr, bI (dayP B R p hr i), iN i)) (bI (dayP B R p hr 24)) 24 (fun i s hi hs => by
    obtain ⟨hs1, ⟨v, hv, hs2⟩, hs3⟩ := hs
    have n9 := qh.hour hv (W hs1) hs2
    have bb3 := q_r125_3 n9.1
    have f1 : ¬ (24 : Int32) ≤ iN i := fun q => absurd ((iN_le (a := 24) (by decide) (by omega)).mp q) (by omega)
    have i1 : iN i + 1 = iN (i + 1) := iN_add _ _
    have i0 : iN hr + iN i = iN (hr + i) := iN_add _ _
    have s7 := rs_7 (v := iN (hr + i)) n9.1
    have A2 : Ag (fun a k => S9 a k ∨ (a = 127 ∧ k = 7)) σ (zsi s 127 7 (iN (hr + i))) := hs1.trans (Ag.zsi (Or.inr ⟨rfl, rfl⟩))
    have e2 : zi (zsi s 127 7 (iN (hr + i))) 127 = up R 7 (iN (hr + i)) := by rw [zi_up, hs2, up_up]
    have n92 := qh.hour (n := hr + i) (by omega) (W A2) e2
    cases c : dayP B R p hr i with
    | false =>
      have e1 : dayP B R p hr (i + 1) = false := by
        unfold dayP
        rw [c, Bool.false_and]
      rw [e1]
      exact ⟨_, by simp only [s_X9_isSafeAllDay_b13, s_X9_isSafeAllDay_j47, s_X9_isSafeAllDay_j48, bb3, f1, i0, s7, i1, bI_f, z10', if_true, if_false, bind_ok, Option.bind_some, cb_some], A2, ⟨_, by omega, e2⟩, hs3⟩
    | true =>
      have bk := q_ck125 n92.1
      obtain ⟨s3, u1, u2⟩ := safe9 n92 (hr := hr + i) (by omega) up_eq (p := p) hp
      rw [up7_sq.sf] at u1
      have e1 : dayP B R p hr (i + 1) = sfP B R p (hr + i) := by
        show (dayP B R p hr i && sfP B R p (hr + i)) = _
        rw [c, Bool.true_and]
      rw [e1]
      have j3 : zj s3 127 = zj σ 127 := (funext fun k => (u2.2.2.2.2 127 k (S9.n (by decide) (Or.inl (by decide)))).2).trans hs3
      refine ⟨s3, ?_, A2.trans (u2.mono (fun a k q => Or.inl q)), ⟨_, by omega, u2.row.trans e2⟩, j3⟩
      cases c2 : sfP B R p (hr + i) with
      | false =>
        rw [c2] at u1
        simp only [s_X9_isSafeAllDay_b13, s_X9_isSafeAllDay_j47, s_X9_isSafeAllDay_j48, bb3, f1, i0, s7, bk, u1, i1, bI_t, bI_f, z10', if_true, if_false, bind_ok, Option.bind_some, cb_some]
      | true =>
        rw [c2] at u1
        simp only [s_X9_isSafeAllDay_b13, s_X9_isSafeAllDay_j47, s_X9_isSafeAllDay_j48, bb3, f1, i0, s7, bk, u1, i1, bI_t, z10', if_true, if_false, bind_ok, Option.bind_some, cb_some]) (fun s hs => by
    obtain ⟨hs1, ⟨v, hv, hs2⟩, hs3⟩ := hs
    have n9 := qh.hour hv (W hs1) hs2
    have bb3 := q_r125_3 n9.1
    have s7 := rs_7 (v := iN hr) n9.1
    have f1 : (24 : Int32) ≤ iN 24 := by decide
    have zb : zbo (bI (dayP B R p hr 24)) = some () := if_pos bI_b
    refine ⟨zsi s 127 7 (iN hr), by simp only [s_X9_isSafeAllDay_b13, bb3, f1, s7, zb, z10', if_true, if_false, bind_ok, Option.bind_some, cb_some], ?_⟩
    have A3 : Ag (fun a k => S9 a k ∨ (a = 127 ∧ k = 7)) σ (zsi s 127 7 (iN hr)) := hs1.trans (Ag.zsi (Or.inr ⟨rfl, rfl⟩))
    refine ⟨A3.1, A3.2.1, A3.2.2.1, A3.2.2.2.1, fun a k hn => ?_⟩
    by_cases c : a = 127 ∧ k = 7
    · obtain ⟨rfl, rfl⟩ := c
      exact ⟨zi_hit.trans (by rw [h.2.1, h7]), congrFun hs3 7⟩
    · exact A3.2.2.2.2 a k (fun q => q.elim hn c)) (σ := σ) ⟨Ag.refl, ⟨hr, by omega, by rw [h.2.1]; exact (up_self h7).symm⟩, rfl⟩
  refine ⟨σ1, ?_, g2⟩
  have g1 : s_X9_isSafeAllDay_l13 (125, iN p, iN hr, 1, 0) σ = _ := g1
  simp only [s_X9_isSafeAllDay, b3, l7, g1, z10', if_true, if_false, bind_ok, Option.bind_some, cb_some]
/-- perches to which n strides lead and that are safe all day -/
def gdP (B : Book) (R : Nat → Int32) (nP f u hr n : Nat) : Nat → Bool := fun p => decide (p < nP) && (itN (stq (fun p q => cnP B R f p q hr) (fun _ => false) nP) (one u) n p && dayP B R p hr 24)
/-- the lowest of the nearest -/
def rsP (B : Book) (R : Nat → Int32) (nP f u hr : Nat) : Option Nat := match firstP (fun n => anyN 10 (gdP B R nP f u hr n)) 11 0 with
  | none => none
  | some n => firstP (gdP B R nP f u hr n) 10 0
theorem firstP_any {S : Nat → Bool} : ∀ (d i : Nat), firstP S d i = none ↔ ∀ k, i ≤ k → k < i + d → S k = false
  | 0, i => ⟨fun _ k h1 h2 => by omega, fun _ => rfl⟩
  | d + 1, i => by
    rw [firstP]
    by_cases c : S i = true
    · rw [if_pos c]
      constructor
      · intro h
        cases h
      · intro h
        rw [h i (Nat.le_refl _) (by omega)] at c
        cases c
    · rw [if_neg c, firstP_any d (i + 1)]
      constructor
      · intro h k h1 h2
        by_cases ck : k = i
        · subst ck
          simpa using c
        · exact h k (by omega) (by omega)
      · intro h k h1 h2
        exact h k (by omega) (by omega)
/-- a walk from above keeps the lowest -/
theorem firstP_last {S : Nat → Bool} : ∀ (m : Nat), firstP S (m + 1) 0 = match firstP S m 0 with | some k => some k | none => if S m = true then some m else none := by
  have key : ∀ (d i : Nat), firstP S (d + 1) i = match firstP S d i with | some k => some k | none => if S (i + d) = true then some (i + d) else none := by
    intro d
    induction d with
    | zero =>
      intro i
      rw [firstP]
      rfl
    | succ d ih =>
      intro i
      rw [firstP]
      by_cases c : S i = true
      · rw [if_pos c, firstP, if_pos c]
      · rw [if_neg c, ih (i + 1), show i + 1 + d = i + (d + 1) by omega]
        rw [show firstP S (d + 1) i = firstP S d (i + 1) by rw [firstP, if_neg c]]
  intro m
  rw [key m 0, Nat.zero_add]
end ON
end V23
