/-! ===== sow, room, low, free, compare ===== -/
section V16
variable {σ : Hp}
theorem rmQ_no {x : Int32} (h : no x 6) : rmQ (Int32.toInt64 x) = false := by
  have h1 := no_int (by decide) h
  simp only [rmQ, decide_eq_false_iff_not]
  rintro ⟨q1, q2⟩
  have q3 := Int64.le_iff_toInt_le.mp q1
  have q4 := Int64.lt_iff_toInt_lt.mp q2
  rw [l64] at q3 q4
  have e0 : (0 : Int64).toInt = 0 := rfl
  have e6 : (6 : Int64).toInt = 6 := rfl
  omega
theorem no2_in {x : Int32} (h0 : ¬ x = 0) (h1 : ¬ x = 1) {σ : Hp} : s_X9_in (Int32.toInt64 x) 0 1 σ = some (0, σ) := ino_f (c := 2) (by decide) (no2_of h0 h1) rfl rfl
theorem in01_0 {σ : Hp} : s_X9_in (Int32.toInt64 0) 0 1 σ = some (1, σ) := in_t (by decide) (by decide)
theorem in01_1 {σ : Hp} : s_X9_in (Int32.toInt64 1) 0 1 σ = some (1, σ) := in_t (by decide) (by decide)
section ON
variable {b nP nF nB nT nS nL H hr : Nat} {B : Book} {R : Nat → Int32}
theorem sow_n {k : Nat} (h : WF nP nF nB nT nS nL H R) (hk : k < 3) : ∃ r, r < 6 ∧ R (21 + k) = iN r := by
  obtain ⟨r, q1, q2⟩ := h.sow hk
  exact ⟨r, by omega, q2⟩
/-- how many badgers are in a room -/
def bdP (R : Nat → Int32) (nB : Nat) (rm : Int32) : Int32 := foldN (fun k a => if R (21 + k) = rm then a + 1 else a) nB 0
theorem bin8 (h : M8 b nP nF nB nT nS nL H B R σ) {rm : Int32} : s_X1_badgersIn b rm σ = some (bdP R nB rm, σ) := by
  have h2 := h.2.1
  have hb3 := h.b3
  have c14 : zi σ b 14 = iN nB := h.2.2.1.g2.trans h.2.2.2.1.2.1.2.2.1
  have i0 := h_i0 (k := 14) h2
  rw [c14] at i0
  have r4 := h_r0_4 h2
  obtain ⟨σ1, h3, h4⟩ := loop_fold (body := fun v => s_X1_badgersIn_b4 (v.1) (v.2.1) (v.2.2.1) (v.2.2.2)) (fun s => s = σ) (fun i a => (b, rm, a, iN i)) (fun k a => if R (21 + k) = rm then a + 1 else a) (fun a => a) nB 0 (fun i a s hi hs => by
    subst hs
    have f1 : ¬ iN nB ≤ iN i := (fun h => absurd ((iN_le (by omega) (by omega)).mp h) (by omega))
    have f2 : ¬ (3 : Int32) ≤ iN i := fun q => absurd ((iN_le (a := 3) (by decide) (by omega)).mp q) (by omega)
    have l8 := h_ld8 (n := i) (by omega) h2
    rw [h.2.2.1.sow (by omega)] at l8
    have i1 : iN i + 1 = iN (i + 1) := iN_add i 1
    refine ⟨s, ?_, rfl⟩
    by_cases c : R (21 + i) = rm
    · simp only [s_X1_badgersIn_b4, s_X1_badgersIn_j30, i0, f1, f2, r4, l8, c, i1, z10', if_true, if_false, bind_ok, Option.bind_some, cb_some]
    · simp only [s_X1_badgersIn_b4, s_X1_badgersIn_j30, i0, f1, f2, r4, l8, c, i1, z10', if_true, if_false, bind_ok, Option.bind_some, cb_some]) (fun a s hs => by
    subst hs
    have f1 : iN nB ≤ iN nB := Int32.le_refl _
    exact ⟨s, by simp only [s_X1_badgersIn_b4, i0, f1, z10', if_true, if_false, bind_ok, Option.bind_some, cb_some], rfl⟩) (σ := σ) rfl
  subst h4
  unfold s_X1_badgersIn s_X1_badgersIn_l4
  rw [show ((b, rm, 0, 0) : Nat × Int32 × Int32 × Int32) = (b, rm, 0, iN 0) from rfl, h3, cb_some]
  rfl
theorem bin9 (h : M9 nP nF nB nT nS nL H B R σ) {rm : Int32} : s_X9_badgersIn 125 rm σ = some (bdP R nB rm, σ) := by
  have hb3 := h.2.2.1.1.2.2.1
  have b3 := q_r125_3 h.1
  have l2 : ldI 11 σ 127 2 = some (iN nB) := (rw_2 h.1).trans (by rw [h.c2])
  obtain ⟨σ1, h3, h4⟩ := loop_fold (body := fun v => s_X9_badgersIn_b4 (v.1) (v.2.1) (v.2.2.1) (v.2.2.2)) (fun s => s = σ) (fun i a => (125, rm, a, iN i)) (fun k a => if R (21 + k) = rm then a + 1 else a) (fun a => a) nB 0 (fun i a s hi hs => by
    subst hs
    have f1 : ¬ iN nB ≤ iN i := (fun h => absurd ((iN_le (by omega) (by omega)).mp h) (by omega))
    have l8 := h.ld21 (n := i) (by omega)
    have i1 : iN i + 1 = iN (i + 1) := iN_add i 1
    refine ⟨s, ?_, rfl⟩
    by_cases c : R (21 + i) = rm
    · simp only [s_X9_badgersIn_b4, s_X9_badgersIn_j33, b3, l2, f1, l8, c, i1, z10', if_true, if_false, bind_ok, Option.bind_some, cb_some]
    · simp only [s_X9_badgersIn_b4, s_X9_badgersIn_j33, b3, l2, f1, l8, c, i1, Int32.add_zero, z10', if_true, if_false, bind_ok, Option.bind_some, cb_some]) (fun a s hs => by
    subst hs
    have f1 : iN nB ≤ iN nB := Int32.le_refl _
    exact ⟨s, by simp only [s_X9_badgersIn_b4, b3, l2, f1, z10', if_true, if_false, bind_ok, Option.bind_some, cb_some], rfl⟩) (σ := σ) rfl
  subst h4
  unfold s_X9_badgersIn s_X9_badgersIn_l4
  rw [show ((125, rm, 0, 0) : Nat × Int32 × Int32 × Int32) = (125, rm, 0, iN 0) from rfl, h3, cb_some]
  rfl
end ON
theorem b_sow {p1 p2 : Int32} (hr : Rel σ) : Both (s_X8_sow 0 p1 p2) (s_X9_sow 125 p1 p2) σ := by
  have hS := hr.1.1
  refine hr.both (fun nP nF nB nT nS nL B m8 m9 => ?_)
  have hb3 := m8.b3
  obtain ⟨hh, hh1, hh2⟩ := bd_hour m8
  have r0 := q_r0_0 hS
  have k0 := h_ck0 hS.hk1
  have r4 := h_r0_4 hS.hk1
  have r10 := h_r0_10 hS.hk1
  have cB := m8.2.2.1.g2.trans m8.2.2.2.1.2.1.2.2.1
  rcases nx p1 (c := nB) (by omega) with ⟨k, hk, rfl⟩ | hx
  · have of8 := bg8_t m8.2.1 cB hb3 hk
    obtain ⟨r, hr1, er⟩ := sow_n m8.2.2.2.1 (k := k) (by omega)
    have l8 := h_ld8 (n := k) (by omega) m8.2.1
    rw [m8.2.2.1.sow (by omega), er] at l8
    by_cases c0 : p2 = 0
    · subst c0
      refine ⟨iN r, ⟨σ, ?_, Ag.refl⟩, fun σ1 q => ⟨_, ?_, q.thrown.1⟩⟩
      · simp only [s_X8_sow, r0, k0, of8, r4, l8, z10', if_true, if_false, bind_ok, Option.bind_some, cb_some]
      · have w := q_w125 (k := 0) (v := 0) q.1; have q2 := q.thrown.2; have bk := q_ck125 q2.1; have b3 := q_r125_3 q2.1
        have of9 := bg9_t q2.1 q2.c2 (Nat.le_trans hb3 (by decide)) hk
        have l := q2.ld21 (n := k) (by omega)
        rw [er] at l
        simp only [s_X9_sow, w, bk, b3, of9, in01_0, l, z10', if_true, if_false, bind_ok, Option.bind_some, cb_some]
    by_cases c1 : p2 = 1
    · subst c1
      refine ⟨goP B (zi σ 127) r k hh, ?_, fun σ1 q => ?_⟩
      · obtain ⟨σ1, g1, g2⟩ := goes8 m8 (hr := hh) (by omega) (bd := k) hr1
        refine ⟨σ1, ?_, g2⟩
        have t0 := ht_0 hS.hk1
        rw [show zi σ (1 + 14) 0 = iN hh from m8.2.2.1.g7.trans hh2] at t0
        simp only [s_X8_sow, r0, k0, of8, r4, l8, r10, t0, g1, z10', if_true, if_false, bind_ok, Option.bind_some, cb_some]
      · have w := q_w125 (k := 0) (v := 0) q.1; have q2 := q.thrown.2; have bk := q_ck125 q2.1; have b3 := q_r125_3 q2.1
        have of9 := bg9_t q2.1 q2.c2 (Nat.le_trans hb3 (by decide)) hk
        obtain ⟨σ2, g1, g2⟩ := goes9 q2 (hr := hh) (by omega) hh2 (bd := k) (by omega) hr1 er
        refine ⟨σ2, ?_, q.thrown.1.trans g2⟩
        simp only [s_X9_sow, w, bk, of9, in01_1, g1, z10', if_true, if_false, bind_ok, Option.bind_some, cb_some]
    · refine ⟨-1, ⟨σ, ?_, Ag.refl⟩, fun σ1 q => ⟨_, ?_, q.thrown.1⟩⟩
      · simp only [s_X8_sow, r0, k0, of8, c0, c1, z10', if_true, if_false, bind_ok, Option.bind_some, cb_some]
      · have w := q_w125 (k := 0) (v := 0) q.1; have q2 := q.thrown.2; have bk := q_ck125 q2.1; have b3 := q_r125_3 q2.1
        have of9 := bg9_t q2.1 q2.c2 (Nat.le_trans hb3 (by decide)) hk
        have i9 := no2_in (σ := zsi σ1 125 0 0) c0 c1
        simp only [s_X9_sow, w, bk, of9, i9, z10', if_true, if_false, bind_ok, Option.bind_some, cb_some]
  · have of8 := bg8_f m8.2.1 cB hx
    refine ⟨-1, ⟨σ, ?_, Ag.refl⟩, fun σ1 q => ⟨_, ?_, q.thrown.1⟩⟩
    · simp only [s_X8_sow, r0, k0, of8, z10', if_true, if_false, bind_ok, Option.bind_some, cb_some]
    · have w := q_w125 (k := 0) (v := 0) q.1; have q2 := q.thrown.2; have bk := q_ck125 q2.1; have b3 := q_r125_3 q2.1
      have of9 := bg9_f q2.1 q2.c2 (Nat.le_trans hb3 (by decide)) hx
      simp only [s_X9_sow, w, bk, of9, z10', if_true, if_false, bind_ok, Option.bind_some, cb_some]
theorem b_room {p1 p2 : Int32} (hr : Rel σ) : Both (s_X8_room 0 p1 p2) (s_X9_room 125 p1 p2) σ := by
  have hS := hr.1.1
  refine hr.both (fun nP nF nB nT nS nL B m8 m9 => ?_)
  obtain ⟨hh, hh1, hh2⟩ := bd_hour m8
  have r0 := q_r0_0 hS
  have k0 := h_ck0 hS.hk1
  rcases nx p1 (c := 6) (by omega) with ⟨k, hk, rfl⟩ | hx
  · have rq := rmQ_n hk
    by_cases c0 : p2 = 0
    · subst c0
      refine ⟨thP B (zi σ 127) (lawR (zi σ 127)) k hh, ?_, fun σ1 q => ?_⟩
      · obtain ⟨t, t1, t2⟩ := thf8 m8 (hr := hh) (by omega)
        obtain ⟨σ1, g1, g2⟩ := t2 σ Ag.refl k
        refine ⟨σ1, ?_, g2⟩
        have r10 := h_r0_10 hS.hk1
        have t0 := ht_0 hS.hk1
        rw [show zi σ (1 + 14) 0 = iN hh from m8.2.2.1.g7.trans hh2] at t0
        simp only [s_X8_room, rm8, rq, bI_t, r0, k0, t1, r10, t0, g1, z10', if_true, if_false, bind_ok, Option.bind_some, cb_some]
      · have w := q_w125 (k := 0) (v := 0) q.1; have q2 := q.thrown.2; have bk := q_ck125 q2.1; have b3 := q_r125_3 q2.1
        obtain ⟨σ2, g1, g2⟩ := thin9 q2 (hr := hh) (by omega) hh2 (rm := k)
        refine ⟨σ2, ?_, q.thrown.1.trans g2⟩
        simp only [s_X9_room, w, bk, rm9, rq, bI_t, g1, z10', if_true, if_false, bind_ok, Option.bind_some, cb_some]
    by_cases c1 : p2 = 1
    · subst c1
      refine ⟨zi σ 127 (11 + k), ⟨σ, ?_, Ag.refl⟩, fun σ1 q => ⟨_, ?_, q.thrown.1⟩⟩
      · have r1 := h_r0_1 hS.hk1
        have l5 := h_ld5 (n := k) hk m8.2.1
        rw [m8.2.2.1.doors hk] at l5
        simp only [s_X8_room, rm8, rq, bI_t, r0, r1, l5, z10', if_true, if_false, bind_ok, Option.bind_some, cb_some]
      · have w := q_w125 (k := 0) (v := 0) q.1; have q2 := q.thrown.2; have bk := q_ck125 q2.1; have b3 := q_r125_3 q2.1
        have l := q2.ld1 (n := k) (by omega)
        simp only [s_X9_room, w, b3, rm9, rq, bI_t, l, z10', if_true, if_false, bind_ok, Option.bind_some, cb_some]
    by_cases c2 : p2 = 2
    · subst c2
      refine ⟨bdP (zi σ 127) nB (iN k), ⟨σ, ?_, Ag.refl⟩, fun σ1 q => ⟨_, ?_, q.thrown.1⟩⟩
      · have g := bin8 m8 (rm := iN k)
        simp only [s_X8_room, rm8, rq, bI_t, r0, k0, g, kk_2_0, kk_2_1, z10', if_true, if_false, bind_ok, Option.bind_some, cb_some]
      · have w := q_w125 (k := 0) (v := 0) q.1; have q2 := q.thrown.2; have bk := q_ck125 q2.1; have b3 := q_r125_3 q2.1
        have g := bin9 q2 (rm := iN k)
        simp only [s_X9_room, w, bk, rm9, rq, bI_t, g, kk_2_0, kk_2_1, z10', if_true, if_false, bind_ok, Option.bind_some, cb_some]
    · refine ⟨-1, ⟨σ, ?_, Ag.refl⟩, fun σ1 q => ⟨_, ?_, q.thrown.1⟩⟩
      · simp only [s_X8_room, rm8, rq, bI_t, c0, c1, c2, z10', if_true, if_false, bind_ok, Option.bind_some, cb_some]
      · have w := q_w125 (k := 0) (v := 0) q.1; have q2 := q.thrown.2; have bk := q_ck125 q2.1; have b3 := q_r125_3 q2.1
        simp only [s_X9_room, w, rm9, rq, bI_t, c0, c1, c2, z10', if_true, if_false, bind_ok, Option.bind_some, cb_some]
  · have rq := rmQ_no hx
    refine ⟨-1, ⟨σ, ?_, Ag.refl⟩, fun σ1 q => ⟨_, ?_, q.thrown.1⟩⟩
    · simp only [s_X8_room, rm8, rq, bI_f, z10', if_true, if_false, bind_ok, Option.bind_some, cb_some]
    · have w := q_w125 (k := 0) (v := 0) q.1; have q2 := q.thrown.2; have bk := q_ck125 q2.1; have b3 := q_r125_3 q2.1
      simp only [s_X9_room, w, rm9, rq, bI_f, z10', if_true, if_false, bind_ok, Option.bind_some, cb_some]
/-- what lies too low in a room -/
def lowF (B : Book) (R : Nat → Int32) (rm : Int32) (hr : Nat) (k : Nat) (a : Int32) : Int32 := if R (30 + (R (24 + k)).toNatClampNeg) = rm then (if sfP B R (R (24 + k)).toNatClampNeg hr = true then a else a ||| ((1 : Int32) <<< (iN k &&& 31))) else a
theorem lies_n {nP nF nB nT nS nL H k : Nat} {R : Nat → Int32} (h : WF nP nF nB nT nS nL H R) (hk : k < nT) : ∃ p, p < nP ∧ R (24 + k) = iN p := by
  have ht := h.1.2.2.2.1
  have hp := h.1.1
  obtain ⟨⟨p, h1, h2⟩, h3⟩ := h.lies (t := k) (by omega)
  have h4 := h3 hk
  rw [h2] at h4
  exact ⟨p, (iN_lt (by omega) (by omega)).mp h4, h2⟩
theorem b_low {p1 : Int32} (hr : Rel σ) : Both (s_X8_low 0 p1) (s_X9_low 125 p1) σ := by
  have hS := hr.1.1
  refine hr.both (fun nP nF nB nT nS nL B m8 m9 => ?_)
  obtain ⟨hh, hh1, hh2⟩ := bd_hour m8
  have hp10 := m8.p10
  have ht6 := m8.2.2.2.1.1.2.2.2.1
  have r0 := q_r0_0 hS
  have k0 := h_ck0 hS.hk1
  rcases nx p1 (c := 6) (by omega) with ⟨rm, hk, rfl⟩ | hx
  · have rq := rmQ_n hk
    refine ⟨foldN (lowF B (zi σ 127) (iN rm) hh) nT 0, ?_, fun σ1 q => ?_⟩
    · obtain ⟨t, t1, t2⟩ := thf8 m8 (hr := hh) (by omega)
      obtain ⟨σ1, g1, g2⟩ := t2 σ Ag.refl rm
      have r10 := h_r0_10 hS.hk1
      have t0 := ht_0 hS.hk1
      rw [show zi σ (1 + 14) 0 = iN hh from m8.2.2.1.g7.trans hh2] at t0
      obtain ⟨σ2, h3, h4⟩ := loop_fold (body := fun v => s_X8_low_b40 (v.1) (v.2.1) (v.2.2.1) (v.2.2.2.1) (v.2.2.2.2)) (fun s => s = σ1) (fun i a => (0, iN rm, thP B (zi σ 127) (lawR (zi σ 127)) rm hh, a, iN i)) (lowF B (zi σ 127) (iN rm) hh) (fun a => a) nT 0 (fun i a s hi hs => by
        subst hs
        have n8 := m8.ag g2
        have hS1 := hS.ag g2
        have f1 : ¬ iN nT ≤ iN i := (fun h => absurd ((iN_le (by omega) (by omega)).mp h) (by omega))
        have f2 : ¬ (6 : Int32) ≤ iN i := fun q => absurd ((iN_le (a := 6) (by decide) (by omega)).mp q) (by omega)
        have x0 := q_r0_0 hS1
        have x1 := h_i0 (k := 15) n8.2.1
        rw [n8.2.2.1.g3.trans n8.2.2.2.1.2.1.2.2.2.1] at x1
        have x5 := h_r0_5 n8.2.1
        have l9 := h_ld9 (n := i) (by omega) n8.2.1
        obtain ⟨p, hp, ep⟩ := lies_n n8.2.2.2.1 hi
        rw [n8.2.2.1.lies (by omega), ep] at l9
        have y0 := h_r0_0 n8.2.1
        have y1 := h_ck1 n8.2.1
        have ro := roomOf8 n8 hp
        have hi8 := highOf8 n8 hp
        have i1 : iN i + 1 = iN (i + 1) := iN_add i 1
        refine ⟨s, ?_, rfl⟩
        unfold lowF sfP
        rw [ep, iN_nat (by omega)]
        by_cases c : zi σ 127 (30 + p) = iN rm
        · rw [c, iN_nat (by omega)]
          rw [c] at ro
          by_cases c2 : thP B (zi σ 127) (lawR (zi σ 127)) rm hh ≤ zi σ 127 (40 + p)
          · simp only [s_X8_low_b40, s_X8_low_j110, x0, x1, f1, f2, x5, l9, y0, y1, ro, hi8, c2, i1, decide_true, z10', if_true, if_false, bind_ok, Option.bind_some, cb_some]
          · simp only [s_X8_low_b40, s_X8_low_j110, x0, x1, f1, f2, x5, l9, y0, y1, ro, hi8, c2, i1, decide_false, Bool.false_eq_true, z10', if_true, if_false, bind_ok, Option.bind_some, cb_some]
        · simp only [s_X8_low_b40, s_X8_low_j110, x0, x1, f1, f2, x5, l9, y0, y1, ro, c, i1, z10', if_true, if_false, bind_ok, Option.bind_some, cb_some]) (fun a s hs => by
        subst hs
        have n8 := m8.ag g2
        have x0 := q_r0_0 (hS.ag g2)
        have x1 := h_i0 (k := 15) n8.2.1
        rw [n8.2.2.1.g3.trans n8.2.2.2.1.2.1.2.2.2.1] at x1
        have f1 : iN nT ≤ iN nT := Int32.le_refl _
        exact ⟨s, by simp only [s_X8_low_b40, x0, x1, f1, z10', if_true, if_false, bind_ok, Option.bind_some, cb_some], rfl⟩) (σ := σ1) rfl
      subst h4
      refine ⟨σ2, ?_, g2⟩
      have h3 : s_X8_low_l40 (0, iN rm, thP B (zi σ 127) (lawR (zi σ 127)) rm hh, 0, 0) σ2 = _ := h3
      simp only [s_X8_low, rm8, rq, bI_t, r0, k0, t1, r10, t0, g1, h3, z10', if_true, if_false, bind_ok, Option.bind_some, cb_some]
    · have w := q_w125 (k := 0) (v := 0) q.1; have q2 := q.thrown.2; have bk := q_ck125 q2.1; have b3 := q_r125_3 q2.1
      obtain ⟨σ2, h3, h4⟩ := loop_fold (body := fun v => s_X9_low_b19 (v.1) (v.2.1) (v.2.2.1) (v.2.2.2)) (fun s => Ag S9 σ1 s ∧ M9 nP nF nB nT nS nL 999 B (zi σ 127) s) (fun i a => (125, iN rm, a, iN i)) (lowF B (zi σ 127) (iN rm) hh) (fun a => a) nT 0 (fun i a s hi hs => by
        obtain ⟨hs1, n9⟩ := hs
        have b3 := q_r125_3 n9.1
        have bk := q_ck125 n9.1
        have l3 : ldI 11 s 127 3 = some (iN nT) := (rw_3 n9.1).trans (by rw [n9.c3])
        have f1 : ¬ iN nT ≤ iN i := (fun h => absurd ((iN_le (by omega) (by omega)).mp h) (by omega))
        obtain ⟨p, hp, ep⟩ := lies_n n9.2.2.1 hi
        have l24 := n9.ld24 (n := i) (by omega)
        rw [ep] at l24
        have l30 := n9.ld30 (n := p) (by omega)
        have i1 : iN i + 1 = iN (i + 1) := iN_add i 1
        unfold lowF
        rw [ep, iN_nat (by omega)]
        by_cases c : zi σ 127 (30 + p) = iN rm
        · obtain ⟨s2, u1, u2⟩ := safe9 n9 (hr := hh) (by omega) hh2 (p := p) (by omega)
          refine ⟨s2, ?_, hs1.trans u2, n9.ag u2⟩
          cases c2 : sfP B (zi σ 127) p hh with
          | true =>
            rw [c2] at u1
            simp only [s_X9_low_b19, s_X9_low_j70, s_X9_low_j71, b3, bk, l3, f1, l24, l30, c, u1, i1, bI_t, Int32.or_zero, z10', if_true, if_false, bind_ok, Option.bind_some, cb_some]
          | false =>
            rw [c2] at u1
            simp only [s_X9_low_b19, s_X9_low_j70, s_X9_low_j71, b3, bk, l3, f1, l24, l30, c, u1, i1, bI_f, Bool.false_eq_true, z10', if_true, if_false, bind_ok, Option.bind_some, cb_some]
        · refine ⟨s, ?_, hs1, n9⟩
          simp only [s_X9_low_b19, s_X9_low_j70, s_X9_low_j71, b3, l3, f1, l24, l30, c, i1, Int32.or_zero, z10', if_true, if_false, bind_ok, Option.bind_some, cb_some]) (fun a s hs => by
        obtain ⟨hs1, n9⟩ := hs
        have b3 := q_r125_3 n9.1
        have l3 : ldI 11 s 127 3 = some (iN nT) := (rw_3 n9.1).trans (by rw [n9.c3])
        have f1 : iN nT ≤ iN nT := Int32.le_refl _
        exact ⟨s, by simp only [s_X9_low_b19, b3, l3, f1, z10', if_true, if_false, bind_ok, Option.bind_some, cb_some], hs1, n9⟩) (σ := zsi σ1 125 0 0) ⟨q.thrown.1, q2⟩
      refine ⟨σ2, ?_, h4.1⟩
      have h3 : s_X9_low_l19 (125, iN rm, 0, 0) (zsi σ1 125 0 0) = _ := h3
      simp only [s_X9_low, w, rm9, rq, bI_t, h3, z10', if_true, if_false, bind_ok, Option.bind_some, cb_some]
  · have rq := rmQ_no hx
    refine ⟨-1, ⟨σ, ?_, Ag.refl⟩, fun σ1 q => ⟨_, ?_, q.thrown.1⟩⟩
    · simp only [s_X8_low, rm8, rq, bI_f, z10', if_true, if_false, bind_ok, Option.bind_some, cb_some]
    · have w := q_w125 (k := 0) (v := 0) q.1; have q2 := q.thrown.2; have bk := q_ck125 q2.1; have b3 := q_r125_3 q2.1
      simp only [s_X9_low, w, rm9, rq, bI_f, z10', if_true, if_false, bind_ok, Option.bind_some, cb_some]
end V16
