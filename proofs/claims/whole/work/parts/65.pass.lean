/-! ===== an hour passes ===== -/
section V33
variable {σ : Hp} {b nP nF nB nT nS nL H hr : Nat} {B : Book} {R : Nat → Int32}
/-- how many are caught -/
def pcS (B : Book) (R : Nat → Int32) (nB hr f : Nat) : Bool := decide (bdP R nB (R (30 + (R (17 + f)).toNatClampNeg)) ≤ 0) || sfP B R (R (17 + f)).toNatClampNeg hr
def pcN (B : Book) (R : Nat → Int32) (nB hr m : Nat) : Nat := foldN (fun f a => if pcS B R nB hr f = true then a else a + 1) m 0
theorem pcN_s {m : Nat} : pcN B R nB hr (m + 1) = if pcS B R nB hr m = true then pcN B R nB hr m else pcN B R nB hr m + 1 := rfl
theorem pcN_le : ∀ m, pcN B R nB hr m ≤ m
  | 0 => Nat.le_refl 0
  | m + 1 => by
    have := pcN_le m
    rw [pcN_s]
    split <;> omega
/-- all that were ever caught -/
def cgP (B : Book) (R : Nat → Int32) (nF nB hr : Nat) : Int32 := if 999 < R 10 + iN (pcN B R nB hr nF) then 999 else R 10 + iN (pcN B R nB hr nF)
theorem cg_n (h : WF nP nF nB nT nS nL H R) : ∃ c, c ≤ 999 ∧ cgP B R nF nB hr = iN c ∧ ∃ a, a ≤ 999 ∧ R 10 = iN a ∧ (a + pcN B R nB hr nF ≤ 999 → c = a + pcN B R nB hr nF) ∧ (999 < a + pcN B R nB hr nF → c = 999) := by
  obtain ⟨a, ha, ea⟩ := h.caught
  have h4 := h.1.2.1
  have p4 := pcN_le (B := B) (R := R) (nB := nB) (hr := hr) nF
  unfold cgP
  rw [ea, iN_add]
  by_cases c : 999 < a + pcN B R nB hr nF
  · have q : (999 : Int32) < iN (a + pcN B R nB hr nF) := (iN_lt (a := 999) (by decide) (by omega)).mpr c
    rw [if_pos q]
    exact ⟨999, by decide, rfl, a, ha, rfl, fun q => by omega, fun _ => rfl⟩
  · have q : ¬ (999 : Int32) < iN (a + pcN B R nB hr nF) := fun q => c ((iN_lt (a := 999) (by decide) (by omega)).mp q)
    rw [if_neg q]
    exact ⟨_, by omega, rfl, a, ha, rfl, fun _ => rfl, fun q => by omega⟩
/-- the row an hour later -/
def psR (B : Book) (R : Nat → Int32) (nF nB hr : Nat) : Nat → Int32 := goR B (up R 10 (cgP B R nF nB hr)) nB hr
theorem pc_row (h : WF nP nF nB nT nS nL H R) : WF nP nF nB nT nS nL H (up R 10 (cgP B R nF nB hr)) := h.put (by decide) (by
  obtain ⟨c, h1, h2, -⟩ := cg_n (B := B) (hr := hr) h
  exact ⟨c, h1, h2⟩)
theorem psR_wf {H2 : Nat} (h : WF nP nF nB nT nS nL H R) (hH : H ≤ H2) (h1 : hr + 1 ≤ H2) : WF nP nF nB nT nS nL H2 (psR B R nF nB hr) := goR_wf (pc_row h) hH h1
theorem passIt9 (h : M9 nP nF nB nT nS nL H B R σ) (h3 : hr < 100000) (h7 : R 7 = iN hr) {H2 : Nat} (hH : H ≤ H2) (h1 : hr + 1 ≤ H2) :
    ∃ s, s_X9_passIt 125 σ = some (iN (pcN B R nB hr nF), s) ∧ Ag S9t σ s ∧ M9 nP nF nB nT nS nL H2 B (psR B R nF nB hr) s := by
  have hF4 := h.2.2.1.1.2.1
  have hP10 := h.2.2.1.1.1
  have M : ∀ {s : Hp}, Ag S9 σ s → M9 nP nF nB nT nS nL H B R s := fun {s} e => h.ag e
  obtain ⟨s1, g1, g2⟩ := loop_to (body := fun v => s_X9_passIt_b4 (v.1) (v.2.1) (v.2.2)) (fun _ s => Ag S9 σ s) (fun s => Ag S9 σ s) (fun i => (125, iN (pcN B R nB hr i), iN i)) (125, iN (pcN B R nB hr nF)) nF (fun i s hi hs => by
    have n9 := M hs
    have b3 := q_r125_3 n9.1
    have bk := q_ck125 n9.1
    have l1 : ldI 11 s 127 1 = some (iN nF) := (rw_1 n9.1).trans (by rw [n9.c1])
    have f1 : ¬ iN nF ≤ iN i := (fun h => absurd ((iN_le (by omega) (by omega)).mp h) (by omega))
    obtain ⟨p, hp, ep⟩ := on_n n9.2.2.1 hi
    have l17 := n9.ld17 (n := i) (by omega)
    rw [ep] at l17
    obtain ⟨s2, u1, u2⟩ := safe9 n9 h3 h7 (p := p) (by omega)
    have n92 := n9.ag u2
    have b32 := q_r125_3 n92.1
    have bk2 := q_ck125 n92.1
    have l30 := n92.ld30 (n := p) (by omega)
    have bn := bin9 n92 (rm := R (30 + p))
    have i1 : iN i + 1 = iN (i + 1) := iN_add i 1
    have z1 : iN (pcN B R nB hr i) + 1 = iN (pcN B R nB hr i + 1) := iN_add _ 1
    refine ⟨s2, ?_, hs.trans u2⟩
    rw [pcN_s]
    unfold pcS
    rw [ep, iN_nat (by omega)]
    cases c : sfP B R p hr with
    | true =>
      rw [c] at u1
      rw [Bool.or_true, if_pos rfl]
      simp only [s_X9_passIt_b4, s_X9_passIt_j53, s_X9_passIt_j54, b3, l1, f1, l17, bk, u1, bI_t, i1, Int32.add_zero, z10', if_true, if_false, bind_ok, Option.bind_some, cb_some]
    | false =>
      rw [c] at u1
      rw [Bool.or_false]
      by_cases d : bdP R nB (R (30 + p)) ≤ 0
      · rw [if_pos (decide_eq_true d)]
        simp only [s_X9_passIt_b4, s_X9_passIt_j53, s_X9_passIt_j54, b3, l1, f1, l17, bk, u1, bI_f, b32, l30, bk2, bn, d, i1, Int32.add_zero, z10', if_true, if_false, bind_ok, Option.bind_some, cb_some]
      · rw [if_neg (by rw [decide_eq_true_eq]; exact d)]
        simp only [s_X9_passIt_b4, s_X9_passIt_j53, s_X9_passIt_j54, b3, l1, f1, l17, bk, u1, bI_f, b32, l30, bk2, bn, d, i1, z1, z10', if_true, if_false, bind_ok, Option.bind_some, cb_some]) (fun s hs => by
    have n9 := M hs
    have b3 := q_r125_3 n9.1
    have l1 : ldI 11 s 127 1 = some (iN nF) := (rw_1 n9.1).trans (by rw [n9.c1])
    have f1 : iN nF ≤ iN nF := Int32.le_refl _
    exact ⟨s, by simp only [s_X9_passIt_b4, b3, l1, f1, z10', if_true, if_false, bind_ok, Option.bind_some, cb_some], hs⟩) (σ := σ) Ag.refl
  have g1 : s_X9_passIt_l4 (125, 0, 0) σ = _ := g1
  have n1 := M g2
  have b3 := q_r125_3 n1.1
  have l10 := n1.k (k := 10) (by decide)
  have l10 : ldI 11 s1 127 10 = some (R 10) := l10
  obtain ⟨c, hc1, hc2, a, ha, ea, ca, cb⟩ := cg_n (B := B) (hr := hr) h.2.2.1
  have p4 := pcN_le (B := B) (R := R) (nB := nB) (hr := hr) nF
  have bo : s_X9_bounded (Int32.toInt64 (R 10 + iN (pcN B R nB hr nF))) 0 999 s1 = some (iN c, s1) := by
    rw [ea, iN_add]
    have e0 : 0 ≤ lg_cmp (Int32.toInt64 (iN (a + pcN B R nB hr nF))) (Int32.toInt64 0) := by
      refine (lg_cmp_ge _ _).mpr (Int64.le_iff_toInt_le.mpr ?_)
      rw [iN64 (by omega)]
      show (0 : Int) ≤ _
      omega
    by_cases d : a + pcN B R nB hr nF ≤ 999
    · have e1 : lg_cmp (Int32.toInt64 (iN (a + pcN B R nB hr nF))) (Int32.toInt64 999) ≤ 0 := by
        refine (lg_cmp_le _ _).mpr (Int64.le_iff_toInt_le.mpr ?_)
        rw [iN64 (by omega)]
        show _ ≤ (999 : Int)
        omega
      rw [ca d]
      simp only [s_X9_bounded, e0, e1, Int32.toInt32_toInt64, z10', if_true, if_false, bind_ok, Option.bind_some, cb_some]
    · have e1 : ¬ lg_cmp (Int32.toInt64 (iN (a + pcN B R nB hr nF))) (Int32.toInt64 999) ≤ 0 := fun q => by
        have := Int64.le_iff_toInt_le.mp ((lg_cmp_le _ _).mp q)
        rw [iN64 (by omega)] at this
        have h9 : (Int32.toInt64 999).toInt = 999 := rfl
        omega
      rw [cb (by omega)]
      simp only [s_X9_bounded, e0, e1, z10', if_true, if_false, bind_ok, Option.bind_some, cb_some]
      rfl
  have st := q_st127 (n := 10) (v := iN c) (by decide) n1.1
  have st : stI s1 127 10 (iN c) = _ := st
  have E2 : Ag S9w s1 (zsi s1 127 10 (iN c)) := Ag.zsi (Or.inr ⟨rfl, by decide, by decide⟩)
  have n2 : M9 nP nF nB nT nS nL H B (up R 10 (cgP B R nF nB hr)) (zsi s1 127 10 (iN c)) := n1.row E2 (by rw [zi_up, n1.2.1, hc2]) (pc_row h.2.2.1)
  have bk2 := q_ck125 n2.1
  obtain ⟨s3, k1, k2, k3, k4⟩ := allGo9 n2 h3 ((up_ne (by decide)).trans h7) hH h1
  refine ⟨s3, ?_, ((g2.mono (T := S9t) (fun _ _ q => Or.inl q)).trans (Ag.zsi (Or.inr (Or.inr ⟨rfl, by decide, by decide⟩)))).trans k2, k4⟩
  simp only [s_X9_passIt, g1, b3, l10, bo, st, bk2, k1, z10', if_true, if_false, bind_ok, Option.bind_some, cb_some]
/-! the class -/
def Sb (b a k : Nat) : Prop := S8 a k ∨ (a = b ∧ k = 18) ∨ a = b + 8 ∨ (a = b + 14 ∧ k = 0)
theorem m8_set {i o k : Nat} {v : Int32} (h : M8 b nP nF nB nT nS nL H B R σ) (h6 : 6 < i) (hi : i < 178) (e : loc i = (o, k)) (hv : okI nP nF nT H i v) : M8 b nP nF nB nT nS nL H B (up R i v) (CLowerHalfLaw_law_r4637_57a93e.zsi σ (b + o) k v) :=
  ⟨h.1, h.2.1, h.2.2.1.set hi e v, h.2.2.2.1.put h6 hv, h.2.2.2.2.1.zsi (by
    have := loc_lt i hi
    rw [e] at this
    have hb := h.1
    unfold Hb at hb
    show b + o < 156
    have : o < 15 := this
    omega), h.2.2.2.2.2.up hi⟩
theorem m8_hi {H2 : Nat} (h : M8 b nP nF nB nT nS nL H B R σ) (hH : H ≤ H2) : M8 b nP nF nB nT nS nL H2 B R σ := ⟨h.1, h.2.1, h.2.2.1, h.2.2.2.1.hi hH, h.2.2.2.2⟩
def skR (B : Book) (R : Nat → Int32) (hr m : Nat) : Nat → Int32 := fun i => if 21 ≤ i ∧ i < 21 + m then goP B R (R i).toNatClampNeg (i - 21) hr else R i
theorem skR_0 : skR B R hr 0 = R := funext fun i => if_neg (by omega)
theorem skR_s {m : Nat} : skR B R hr (m + 1) = up (skR B R hr m) (21 + m) (goP B R (R (21 + m)).toNatClampNeg m hr) := funext fun i => by
  by_cases c : i = 21 + m
  · subst c
    rw [up_eq]
    unfold skR
    rw [if_pos (by omega), show 21 + m - 21 = m by omega]
  · rw [up_ne c]
    unfold skR
    by_cases d : 21 ≤ i ∧ i < 21 + m
    · rw [if_pos d, if_pos (by omega)]
    · rw [if_neg d, if_neg (by omega)]
theorem skR_sq {m : Nat} (hm : m ≤ 3) : SQ R (skR B R hr m) := fun i h1 h2 => by
  unfold skR
  rw [if_neg (by omega)]
theorem passHour8 (h : M8 b nP nF nB nT nS nL H B R σ) (h3 : hr < 100000) (h7 : R 7 = iN hr) {H2 : Nat} (hH : H ≤ H2) (h1 : hr + 1 ≤ H2) :
    ∃ s, s_X1_passHour b σ = some (iN (pcN B R nB hr nF), s) ∧ Ag (Sb b) σ s ∧ M8 b nP nF nB nT nS nL H2 B (psR B R nF nB hr) s := by
  have hF4 := h.f4
  have hB3 := h.b3
  have hP10 := h.p10
  have hb := h.1
  have r10 := h_r0_10 h.2.1
  have l14 := h_ld14 (n := 0) (by decide) h.2.1
  rw [h.2.2.1.g7, h7] at l14
  have l14 : ldI 11 σ (b + 14) 0 = _ := l14
  have c13 : ∀ {s}, Ag S8 σ s → zi s b 13 = iN nF := fun e => (h.ag e).2.2.1.g1.trans h.2.2.2.1.2.1.2.1
  obtain ⟨s1, g1, g2⟩ := loop_to (body := fun v => s_X1_passHour_b11 (v.1) (v.2.1) (v.2.2.1) (v.2.2.2)) (fun _ s => Ag S8 σ s) (fun s => Ag S8 σ s) (fun i => (b, iN hr, iN (pcN B R nB hr i), iN i)) (b, iN hr, iN (pcN B R nB hr nF)) nF (fun i s hi hs => by
    have n8 := h.ag hs
    have i0 := h_i0 (k := 13) n8.2.1
    rw [c13 hs] at i0
    have f1 : ¬ iN nF ≤ iN i := (fun h => absurd ((iN_le (by omega) (by omega)).mp h) (by omega))
    have f2 : ¬ (4 : Int32) ≤ iN i := fun q => absurd ((iN_le (a := 4) (by decide) (by omega)).mp q) (by omega)
    obtain ⟨p, hp, ep⟩ := on_n n8.2.2.2.1 hi
    have r3 := h_r0_3 n8.2.1
    have l7 := h_ld7 (n := i) (by omega) n8.2.1
    rw [n8.2.2.1.on (by omega), ep] at l7
    have r0 := h_r0_0 n8.2.1
    have kk := h_ck1 n8.2.1
    have k0 := h_ck0 n8.2.1
    have ro := roomOf8 n8 hp
    obtain ⟨r, hr1, er⟩ := room_n n8.2.2.2.1 (p := p) (by omega)
    have bn := bin8 n8 (rm := R (30 + p))
    have hi8 := highOf8 n8 hp
    obtain ⟨t, t1, t2⟩ := thf8 n8 (hr := hr) (by omega)
    obtain ⟨s2, u1, u2⟩ := t2 s Ag.refl r
    have i1 : iN i + 1 = iN (i + 1) := iN_add i 1
    have z1 : iN (pcN B R nB hr i) + 1 = iN (pcN B R nB hr i + 1) := iN_add _ 1
    rw [pcN_s]
    unfold pcS
    rw [ep, iN_nat (by omega)]
    by_cases d : bdP R nB (R (30 + p)) ≤ 0
    · rw [if_pos (by rw [decide_eq_true d]; rfl)]
      exact ⟨s, by simp only [s_X1_passHour_b11, s_X1_passHour_j78, i0, f1, f2, r3, l7, r0, kk, ro, k0, bn, d, i1, z10', if_true, if_false, bind_ok, Option.bind_some, cb_some], hs⟩
    · rw [decide_eq_false d, Bool.false_or]
      refine ⟨s2, ?_, hs.trans u2⟩
      unfold sfP
      rw [er] at ro bn d ⊢
      rw [iN_nat (by omega)]
      by_cases e : thP B R (lawR R) r hr ≤ R (40 + p)
      · rw [decide_eq_true e, if_pos rfl]
        simp only [s_X1_passHour_b11, s_X1_passHour_j78, i0, f1, f2, r3, l7, r0, kk, ro, k0, bn, d, hi8, t1, u1, e, i1, z10', if_true, if_false, bind_ok, Option.bind_some, cb_some]
      · rw [decide_eq_false e, if_neg (by decide)]
        simp only [s_X1_passHour_b11, s_X1_passHour_j78, i0, f1, f2, r3, l7, r0, kk, ro, k0, bn, d, hi8, t1, u1, e, i1, z1, z10', if_true, if_false, bind_ok, Option.bind_some, cb_some]) (fun s hs => by
    have n8 := h.ag hs
    have i0 := h_i0 (k := 13) n8.2.1
    rw [c13 hs] at i0
    have f1 : iN nF ≤ iN nF := Int32.le_refl _
    exact ⟨s, by simp only [s_X1_passHour_b11, i0, f1, z10', if_true, if_false, bind_ok, Option.bind_some, cb_some], hs⟩) (σ := σ) Ag.refl
  have g1 : s_X1_passHour_l11 (b, iN hr, 0, 0) σ = _ := g1
  have n1 := h.ag g2
  have i18 := h_i0 (k := 18) n1.2.1
  rw [n1.2.2.1.g10] at i18
  have w18 : ∀ v, wrI 1 s1 b 18 v = some (CLowerHalfLaw_law_r4637_57a93e.zsi s1 b 18 v) := fun v => h_w0 n1.2.1
  obtain ⟨c, hc1, hc2, -⟩ := cg_n (B := B) (hr := hr) h.2.2.2.1
  have n2 : M8 b nP nF nB nT nS nL H B (up R 10 (cgP B R nF nB hr)) (CLowerHalfLaw_law_r4637_57a93e.zsi s1 (b + 0) 18 (cgP B R nF nB hr)) := m8_set n1 (by decide) (by decide) (by decide +kernel) ⟨c, hc1, hc2⟩
  have E2 : Ag (Sb b) σ (CLowerHalfLaw_law_r4637_57a93e.zsi s1 b 18 (cgP B R nF nB hr)) := (g2.mono (fun _ _ q => Or.inl q)).trans (Ag.zsi (Or.inr (Or.inl ⟨rfl, rfl⟩)))
  have n2 : M8 b nP nF nB nT nS nL H B (up R 10 (cgP B R nF nB hr)) (CLowerHalfLaw_law_r4637_57a93e.zsi s1 b 18 (cgP B R nF nB hr)) := n2
  generalize hR1 : up R 10 (cgP B R nF nB hr) = R1 at n2
  generalize hs2 : CLowerHalfLaw_law_r4637_57a93e.zsi s1 b 18 (cgP B R nF nB hr) = s2 at n2 E2
  obtain ⟨s3, k1, k2, k3⟩ := loop_to (body := fun v => s_X1_passHour_b102 (v.1) (v.2.1) (v.2.2.1) (v.2.2.2)) (fun i s => Ag (Sb b) σ s ∧ M8 b nP nF nB nT nS nL H B (skR B R1 hr i) s) (fun s => Ag (Sb b) σ s ∧ M8 b nP nF nB nT nS nL H B (skR B R1 hr nB) s) (fun i => (b, iN hr, iN (pcN B R nB hr nF), iN i)) (b, iN hr, iN (pcN B R nB hr nF)) nB (fun i s hi hs => by
    obtain ⟨v1, v2⟩ := hs
    have i0 := h_i0 (k := 14) v2.2.1
    rw [show zi s b 14 = iN nB from v2.2.2.1.g2.trans v2.2.2.2.1.2.1.2.2.1] at i0
    have f1 : ¬ iN nB ≤ iN i := (fun h => absurd ((iN_le (by omega) (by omega)).mp h) (by omega))
    have f2 : ¬ (3 : Int32) ≤ iN i := fun q => absurd ((iN_le (a := 3) (by decide) (by omega)).mp q) (by omega)
    have r4 := h_r0_4 v2.2.1
    have k0 := h_ck0 v2.2.1
    have l8 := h_ld8 (n := i) (by omega) v2.2.1
    have e21 : skR B R1 hr i (21 + i) = R1 (21 + i) := if_neg (by omega)
    obtain ⟨r, r1, r2⟩ := sow_n n2.2.2.2.1 (k := i) (by omega)
    rw [v2.2.2.1.sow (by omega), e21, r2] at l8
    obtain ⟨s4, u1, u2⟩ := goes8 v2 (hr := hr) (by omega) (bd := i) r1
    rw [(skR_sq (by omega)).go r1] at u1
    have n4 := v2.ag u2
    have st := h_st8 (n := i) (v := goP B R1 r i hr) (by omega) n4.2.1
    have i1 : iN i + 1 = iN (i + 1) := iN_add i 1
    obtain ⟨n, hn1, hn2⟩ := goP_n (B := B) (R := R1) (hr := hr) (bd := i) r1
    have n5 := m8_set n4 (i := 21 + i) (by omega) (by omega) (loc_sow i (by omega)) (v := goP B R1 r i hr) (by
      unfold okI
      rw [if_neg (by omega), if_neg (by omega), if_neg (by omega), if_neg (by omega), if_neg (by omega), if_neg (by omega), if_pos (by omega)]
      exact ⟨n, by omega, hn2⟩)
    refine ⟨CLowerHalfLaw_law_r4637_57a93e.zsi s4 (b + 8) i (goP B R1 r i hr), ?_, (v1.trans (u2.mono (fun _ _ q => Or.inl q))).trans (Ag.zsi (Or.inr (Or.inr (Or.inl rfl)))), ?_⟩
    · simp only [s_X1_passHour_b102, i0, f1, f2, r4, l8, k0, u1, st, i1, z10', if_true, if_false, bind_ok, Option.bind_some, cb_some]
    · rw [skR_s, r2, iN_nat (by omega)]
      exact n5) (fun s hs => by
    obtain ⟨v1, v2⟩ := hs
    have i0 := h_i0 (k := 14) v2.2.1
    rw [show zi s b 14 = iN nB from v2.2.2.1.g2.trans v2.2.2.2.1.2.1.2.2.1] at i0
    have f1 : iN nB ≤ iN nB := Int32.le_refl _
    exact ⟨s, by simp only [s_X1_passHour_b102, i0, f1, z10', if_true, if_false, bind_ok, Option.bind_some, cb_some], v1, v2⟩) (σ := s2) ⟨E2, by rw [skR_0]; exact n2⟩
  have k1 : s_X1_passHour_l102 (b, iN hr, iN (pcN B R nB hr nF), 0) s2 = _ := k1
  have r10' := h_r0_10 k3.2.1
  have hp1 : iN hr + 1 = iN (hr + 1) := iN_add hr 1
  have st14 := h_st14 (n := 0) (v := iN (hr + 1)) (by decide) k3.2.1
  have st14 : stI s3 (b + 14) 0 (iN (hr + 1)) = _ := st14
  have n9 := m8_set (m8_hi k3 hH) (i := 7) (o := 14) (k := 0) (by decide) (by decide) (by decide +kernel) (v := iN (hr + 1)) ⟨hr + 1, h1, rfl⟩
  refine ⟨CLowerHalfLaw_law_r4637_57a93e.zsi s3 (b + 14) 0 (iN (hr + 1)), ?_, k2.trans (Ag.zsi (Or.inr (Or.inr (Or.inr ⟨rfl, rfl⟩)))), ?_⟩
  · have w := w18 (cgP B R nF nB hr)
    rw [hs2] at w
    unfold cgP at w
    simp only [s_X1_passHour, s_X1_passHour_j84, s_X1_passHour_j139, r10, l14, g1, i18, w, k1, r10', hp1, st14, z10', if_true, if_false, bind_ok, Option.bind_some, cb_some]
  · have e : psR B R nF nB hr = up (skR B R1 hr nB) 7 (iN (hr + 1)) := funext fun i => by
      unfold psR goR
      rw [hR1]
      by_cases c : i = 7
      · subst c
        rw [if_pos rfl, up_eq]
      · rw [if_neg c, up_ne c]
        rfl
    rw [e]
    exact n9
theorem psR_ne {i : Nat} (hb : nB ≤ 3) (h7 : i ≠ 7) (h10 : i ≠ 10) (h21 : ¬ (21 ≤ i ∧ i < 24)) : psR B R nF nB hr i = R i := by
  unfold psR
  rw [goR_sq hb i h7 h21, up_ne h10]
theorem ustep3 {d : Nat → Int32} (h : WF nP nF nB nT nS nL 999 R) (hb : nB ≤ 3) (h7 : R 7 = iN hr) (d0 : d 0 = 3) (d3 : d 3 = R 10) (d4 : d 4 = R 21) (d5 : d 5 = R 22) (d6 : d 6 = R 23) : UStep nP nF nT d 3 (fun i => R (7 + i)) (fun i => psR B R nF nB hr (7 + i)) := by
  refine ⟨d0, fun i hi => h.2.2.2 _ (by omega) (by omega), Or.inr (Or.inr (Or.inr ⟨rfl, fun i hi => ?_⟩))⟩
  by_cases c16 : i = 16
  · subst c16; rw [up_eq, d6]
  rw [up_ne c16]
  by_cases c15 : i = 15
  · subst c15; rw [up_eq, d5]
  rw [up_ne c15]
  by_cases c14 : i = 14
  · subst c14; rw [up_eq, d4]
  rw [up_ne c14]
  by_cases c3 : i = 3
  · subst c3; rw [up_eq, d3]
  rw [up_ne c3]
  by_cases c0 : i = 0
  · subst c0
    rw [up_eq]
    show R 7 = psR B R nF nB hr 7 - 1
    rw [h7, show psR B R nF nB hr 7 = iN (hr + 1) by unfold psR goR; exact if_pos rfl]
    exact (iN_sub (a := hr + 1) (b := 1) (by omega)).symm
  · rw [up_ne c0]
    exact (psR_ne hb (by omega) (by omega) (by omega)).symm
theorem b_pass (hr : Rel σ) : Both (s_X8_pass 0) (s_X9_pass 125) σ := by
  obtain ⟨⟨hS, -, -, hM, -, -, -⟩, nP, nF, nB, nT, nS, nL, B, n, hC, hU⟩ := id hr
  have m8 : M8 1 nP nF nB nT nS nL 999 B (zi σ 127) σ := ⟨Or.inl rfl, hS.hk1, hC.2.1, hC.1, hC.2.2.2, hC.2.2.1⟩
  have m9 : M9 nP nF nB nT nS nL 999 B (zi σ 127) σ := ⟨hS, rfl, hC.1, hC.2.2.1, hM.2.2.2⟩
  obtain ⟨hh, hh1, hh2⟩ := bd_hour m8
  have k8 := q_ck0 hS
  have r0 := q_r0_0 hS
  have r10 := h_r0_10 m8.2.1
  have l14 := h_ld14 (n := 0) (by decide) m8.2.1
  rw [m8.2.2.1.g7, hh2] at l14
  have l14 : ldI 11 σ (1 + 14) 0 = _ := l14
  by_cases full : hh = 999
  · have f1 : ¬ iN hh < 999 := fun q => absurd ((iN_lt (b := 999) (by omega) (by decide)).mp q) (by omega)
    have st := settle_3 hS
    refine Both.bad (s := -3) (x := 2) (y := 3) hr (by decide) ?_ (fun t ht e1 => ?_)
    · simp only [s_X8_pass, s_X8_tryPass, k8, r0, r10, l14, f1, st, z10', if_true, if_false, bind_ok, Option.bind_some, cb_some]
    · have w := q_w125 (k := 0) (v := 0) ht
      have th : SK (zsi t 125 0 0) := ht
      have bk := q_ck125 th
      have b3 := q_r125_3 th
      have e7 : iN hh = 999 := by rw [full]; rfl
      have l7 : ldI 11 (zsi t 125 0 0) 127 7 = some (iN hh) := by
        rw [show (7 : Int32) = iN 7 from rfl, q_ld127 (by omega) th, zi_ne (by decide), e1, hh2]
      have tl := tell9_3 th
      rw [zi_ne (by decide)] at tl
      simp only [s_X9_pass, s_X9_passNow, w, bk, b3, l7, e7, tl, z10', if_true, if_false, bind_ok, Option.bind_some, cb_some]
  · have f1 : iN hh < 999 := (iN_lt (b := 999) (by omega) (by decide)).mpr (by omega)
    have f9 : ¬ iN hh = 999 := fun q => full ((iN_inj (b := 999) (by omega) (by decide)).mp q)
    have hn16 := hU.1
    obtain ⟨sB, d0, d1, d2, d3, d4⟩ := deed8 hS hU.2.1 hn16 (k := 3) (a := 0) (b := 0)
    have SB := hS.ag d1
    have EB : Ag TD σ sB := d1.mono (fun _ _ q => Or.inr (Or.inr (Or.inl q)))
    have ho : ∀ o, o < 15 → zi sB (1 + o) = zi σ (1 + o) := fun o ho => funext fun k => (d1.2.2.2.2 (1 + o) k (by rintro (q | q) <;> omega)).1
    have m8B := m8.low SB EB (m8.2.2.1.congr ho) hC.1 (fun _ _ => rfl)
    obtain ⟨sD, p1, p2, p3⟩ := passHour8 m8B (hr := hh) (by omega) hh2 (H2 := 999) (by omega) (by omega)
    have SD := SB.ag p2
    have SE2 : Ag SH sB sD := p2.mono (fun a k q => by
      rcases q with q | q | q | q
      · exact Or.inl (Or.inl q)
      · exact Or.inr (by omega)
      · exact Or.inr (by omega)
      · exact Or.inr (by omega))
    have E8 : Ag (fun a k => SH a k ∨ S110 a k) σ sD := (d1.mono (fun _ _ q => Or.inr q)).trans (SE2.mono (fun _ _ q => Or.inl q))
    have m9E := m9_after m9 E8
    have SE : SK (zsi sD 0 18 0) := SD
    have w := q_w125 (k := 0) (v := 0) SE
    have bk := q_ck125 m9E.1
    have b3 := q_r125_3 m9E.1
    have l7 := q_ld127 (n := 7) (by decide) m9E.1
    rw [m9E.2.1, hh2] at l7
    have l7 : ldI 11 (zsi (zsi sD 0 18 0) 125 0 0) 127 7 = _ := l7
    have n2 : zi (zsi (zsi sD 0 18 0) 125 0 0) 125 8 = iN n := by
      rw [zi_miss (by decide), zi_ne (by decide), (E8.2.2.2.2 125 8 (by
        rintro ((q | q) | q)
        · exact S8p.n rfl q
        · omega
        · rcases q with q | q <;> omega)).1]
      exact hU.2.2.1
    obtain ⟨t2, g0, r1, r2, r3, r4, r5, r6⟩ := remember9 m9E.1 n2 hn16 (k := 3)
    have e127 : zi t2 127 = zi σ 127 := by
      rw [← m9E.2.1]
      exact funext fun k => (r1.2.2.2.2 127 k (by rintro (q | q | q) <;> omega)).1
    have m9t2 := m9E.low (r1.mono (fun _ _ q => Or.inr (Or.inr (Or.inr (Or.inl q))))) e127 hC.1
    have bk2 := q_ck125 m9t2.1
    obtain ⟨tE, x1, x2, x3⟩ := passIt9 m9t2 (hr := hh) (by omega) hh2 (H2 := 999) (by omega) (by omega)
    have bk3 := q_ck125 x3.1
    have p4 := pcN_le (B := B) (R := zi σ 127) (nB := nB) (hr := hh) nF
    have hF4 := m8.f4
    have gr := settle_n SD (n := pcN B (zi σ 127) nB hh nF) (by omega)
    have tl := tell9 x3.1 (n := pcN B (zi σ 127) nB hh nF) (by omega)
    have r8 := q_r0_8 hS
    have k109 := q_ck109 hS
    have r0B := q_r0_0 SB
    have k0B := h_ck0 SB.hk1
    have k8D := q_ck0 SD
    refine Both.mk (r := iN (pcN B (zi σ 127) nB hh nF)) (σ1 := zsi sD 0 18 0) (σ2 := zsi tE 125 1 0) ?_ ?_ (hr.did hC hU Ag.refl d1 d2 d3 d4 SE2 Ag.refl r1 r2 r3 r4 r5 r6 ?_ ?_ ?_ ?_) (SE.2.1 125 (by decide)).1
    · simp only [s_X8_pass, s_X8_tryPass, k8, r0, r10, l14, f1, r8, k109, d0, r0B, k0B, p1, k8D, gr, z10', if_true, if_false, bind_ok, Option.bind_some, cb_some]
    · simp only [s_X9_pass, s_X9_passNow, w, bk, b3, l7, f9, g0, bk2, x1, bk3, tl, z10', if_true, if_false, bind_ok, Option.bind_some, cb_some]
    · exact x2.mono (fun a k q => by
        rcases q with q | q | q
        · exact Or.inl (Or.inl q)
        · exact Or.inl (Or.inr (Or.inl (by omega)))
        · exact Or.inr q)
    · rw [x3.2.1]
      exact p3.2.2.1
    · rw [x3.2.1]
      exact x3.2.2.1
    · rw [x3.2.1]
      exact ustep3 hC.1 m8.b3 hh2 rfl (m8.2.2.1.g10) (m8.2.2.1.sow (k := 0) (by decide)) (m8.2.2.1.sow (k := 1) (by decide)) (m8.2.2.1.sow (k := 2) (by decide))
end V33
