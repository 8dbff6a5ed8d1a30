/-! ===== free, compare, where, meeting ===== -/
section V18
variable {σ : Hp}
/-- what all badgers' going writes -/
theorem clamp_n (v : Int64) : ∃ n, n ≤ 10 ∧ clamp v = iN n := by
  unfold clamp
  by_cases c1 : v < 10
  · rw [if_pos c1]
    by_cases c2 : v < 0
    · rw [if_pos c2]
      exact ⟨0, by decide, rfl⟩
    · rw [if_neg c2]
      have h1 := Int64.lt_iff_toInt_lt.mp c1
      have h2 := Int64.le_iff_toInt_le.mp (Int64.not_lt.mp c2)
      have e0 : (0 : Int64).toInt = 0 := rfl
      have e10 : (10 : Int64).toInt = 10 := rfl
      refine ⟨v.toInt.toNat, by omega, ?_⟩
      apply Int32.toInt_inj.mp
      rw [iN_int (by omega), Int64.toInt_toInt32, Int.bmod_eq_of_le (by omega) (by omega)]
      omega
  · rw [if_neg c1, if_neg (by decide)]
    exact ⟨10, by decide, rfl⟩
theorem thP_n {B : Book} {R : Nat → Int32} {j : Option Nat} {rm hr : Nat} : ∃ n, n ≤ 10 ∧ thP B R j rm hr = iN n := clamp_n _
section ON
variable {b nP nF nB nT nS nL H hr : Nat} {B : Book} {R : Nat → Int32}
/-- only the hour of the row is another -/
theorem up7_sq {v : Int32} : SQ R (up R 7 v) := fun _ h1 _ => up_ne h1
theorem M9.hour (h : M9 nP nF nB nT nS nL H B R σ) {n : Nat} (hn : n ≤ H) {s : Hp} (e : Ag S9w σ s) (h2 : zi s 127 = up R 7 (iN n)) : M9 nP nF nB nT nS nL H B (up R 7 (iN n)) s :=
  h.row e h2 (h.2.2.1.put (by decide) ⟨n, hn, rfl⟩)
theorem M9.hi (h : M9 nP nF nB nT nS nL H B R σ) {H2 : Nat} (hH : H ≤ H2) : M9 nP nF nB nT nS nL H2 B R σ := ⟨h.1, h.2.1, h.2.2.1.hi hH, h.2.2.2⟩
theorem up_self {R : Nat → Int32} {i : Nat} {v : Int32} (h : R i = v) : up R i v = R := by
  funext k
  unfold up
  by_cases c : k = i
  · rw [if_pos c, c, h]
  · rw [if_neg c]
theorem up_up {R : Nat → Int32} {i : Nat} {v w : Int32} : up (up R i v) i w = up R i w := by
  funext k
  unfold up
  by_cases c : k = i
  · rw [if_pos c, if_pos c]
  · rw [if_neg c, if_neg c, if_neg c]
/-- the hour (or another place) put back -/
theorem hourBack {s : Hp} {v : Int32} (e : Ag S9w σ s) (h2 : zi s 127 = up (zi σ 127) 7 v) (h3 : zj s 127 = zj σ 127) {w : Int32} (hw : zi σ 127 7 = w) : Ag S9p σ (zsi s 127 7 w) := by
  refine Ag.unrow (e.trans (Ag.zsi (Or.inr ⟨rfl, by decide, by decide⟩))) (fun i h7 h8 => ?_) (fun i _ _ => congrFun h3 i)
  rw [zi_up, h2, up_up, up_self hw]
end ON
theorem b_free {p1 : Int32} (hr : Rel σ) : Both (s_X8_free 0 p1) (s_X9_free 125 p1) σ := by
  have hS := hr.1.1
  refine hr.both2 (fun nP nF nB nT nS nL B m8 m9 => ?_)
  obtain ⟨hh, hh1, hh2⟩ := bd_hour m8
  rcases nx p1 (c := 6) (by omega) with ⟨rm, hk, rfl⟩ | hx
  · have rq := rmQ_n hk
    refine ⟨match firstP (fun n => decide (thP B (zi σ 127) (lawR (zi σ 127)) rm (hh + n) = 0)) 49 0 with | some n => iN n | none => -1, ?_, fun σ1 q => ?_⟩
    · obtain ⟨σ2, h3, h4⟩ := loop_first (body := fun v => s_X8_free_b12 (v.1) (v.2.1) (v.2.2)) (fun _ s => Ag S8 σ s) (fun s => Ag S8 σ s) (fun i => (0, iN rm, iN i)) (fun n => decide (thP B (zi σ 127) (lawR (zi σ 127)) rm (hh + n) = 0)) (fun o => match o with | some n => iN n | none => -1) 49 (fun i s hi hs => by
        have n8 := m8.ag hs
        have r0 := q_r0_0 (hS.ag hs)
        have k0 := h_ck0 n8.2.1
        have r10 := h_r0_10 n8.2.1
        have t0 := ht_0 n8.2.1
        rw [show zi s (1 + 14) 0 = iN hh from n8.2.2.1.g7.trans hh2] at t0
        have f1 : ¬ (48 : Int32) < iN i := fun q => absurd ((iN_lt (a := 48) (by decide) (by omega)).mp q) (by omega)
        have i0 : iN hh + iN i = iN (hh + i) := iN_add _ _
        have i1 : iN i + 1 = iN (i + 1) := iN_add _ _
        obtain ⟨t, t1, t2⟩ := thf8 n8 (hr := hh + i) (by omega)
        obtain ⟨s2, g1, g2⟩ := t2 s Ag.refl rm
        constructor
        · intro c
          have c := of_decide_eq_true c
          refine ⟨s2, ?_, hs.trans g2⟩
          simp only [s_X8_free_b12, r0, k0, r10, t0, f1, i0, t1, g1, c, z10', if_true, if_false, bind_ok, Option.bind_some, cb_some]
        · intro c
          have c := of_decide_eq_false c
          refine ⟨s2, ?_, hs.trans g2⟩
          simp only [s_X8_free_b12, r0, k0, r10, t0, f1, i0, i1, t1, g1, c, z10', if_true, if_false, bind_ok, Option.bind_some, cb_some]) (fun s hs => by
        have f1 : (48 : Int32) < iN 49 := by decide
        exact ⟨s, by simp only [s_X8_free_b12, f1, z10', if_true, if_false, bind_ok, Option.bind_some, cb_some], hs⟩) (σ := σ) Ag.refl
      refine ⟨σ2, ?_, h4.p8⟩
      have h3 : s_X8_free_l12 (0, iN rm, 0) σ = _ := h3
      simp only [s_X8_free, rm8, rq, bI_t, h3, z10', if_true, if_false, bind_ok, Option.bind_some, cb_some]
    · have w := q_w125 (k := 0) (v := 0) q.1; have q2 := q.thrown.2; have bk := q_ck125 q2.1; have b3 := q_r125_3 q2.1
      have l7 : ldI 11 (zsi σ1 125 0 0) 127 7 = some (iN hh) := (rw_7 q2.1).trans (by rw [q2.2.1, hh2])
      have qh := q2.hi (H2 := 2000) (by decide)
      obtain ⟨σ2, h3, h4⟩ := loop_first (body := fun v => s_X9_free_b25 (v.1) (v.2.1) (v.2.2.1) (v.2.2.2)) (fun i s => Ag S9w (zsi σ1 125 0 0) s ∧ zi s 127 = up (zi σ 127) 7 (iN (hh + i)) ∧ zj s 127 = zj (zsi σ1 125 0 0) 127) (fun s => Ag S9w (zsi σ1 125 0 0) s ∧ (∃ v, zi s 127 = up (zi σ 127) 7 v) ∧ zj s 127 = zj (zsi σ1 125 0 0) 127) (fun i => (125, iN rm, iN hh, iN i)) (fun n => decide (thP B (zi σ 127) (lawR (zi σ 127)) rm (hh + n) = 0)) (fun o => (125, iN hh, match o with | some n => iN n | none => iN 49)) 49 (fun i s hi hs => by
        obtain ⟨hs1, hs2, hs3⟩ := hs
        have n9 := qh.hour (n := hh + i) (by omega) hs1 hs2
        have bk := q_ck125 n9.1
        have f1 : ¬ (48 : Int32) < iN i := fun q => absurd ((iN_lt (a := 48) (by decide) (by omega)).mp q) (by omega)
        obtain ⟨s2, g1, g2⟩ := thin9 n9 (hr := hh + i) (by omega) up_eq (rm := rm)
        rw [up7_sq.th] at g1
        have e127 : zi s2 127 = up (zi σ 127) 7 (iN (hh + i)) := g2.row.trans hs2
        have j127 : zj s2 127 = zj (zsi σ1 125 0 0) 127 := (funext fun k => (g2.2.2.2.2 127 k (S9.n (by decide) (Or.inl (by decide)))).2).trans hs3
        obtain ⟨z, z1, z2⟩ := thP_n (B := B) (R := zi σ 127) (j := lawR (zi σ 127)) (rm := rm) (hr := hh + i)
        constructor
        · intro c
          have c := of_decide_eq_true c
          rw [c] at g1
          refine ⟨s2, ?_, hs1.trans g2.w, ⟨_, e127⟩, j127⟩
          simp only [s_X9_free_b25, bk, f1, g1, Int32.le_refl, z10', if_true, if_false, bind_ok, Option.bind_some, cb_some]
        · intro c
          have c := of_decide_eq_false c
          have b3 := q_r125_3 (n9.ag g2).1
          have c1 : ¬ thP B (zi σ 127) (lawR (zi σ 127)) rm (hh + i) ≤ 0 := by
            rw [z2] at c ⊢
            intro w
            have := (iN_le (b := 0) (by omega) (by decide)).mp w
            exact c (by rw [show z = 0 by omega]; rfl)
          have i1 : iN i + 1 = iN (i + 1) := iN_add _ _
          have i0 : iN hh + iN (i + 1) = iN (hh + (i + 1)) := iN_add _ _
          have s7 := rs_7 (v := iN (hh + (i + 1))) (n9.ag g2).1
          refine ⟨zsi s2 127 7 (iN (hh + (i + 1))), ?_, (hs1.trans g2.w).trans (Ag.zsi (Or.inr ⟨rfl, by decide, by decide⟩)), ?_, j127⟩
          · simp only [s_X9_free_b25, bk, b3, f1, g1, c1, i1, i0, s7, z10', if_true, if_false, bind_ok, Option.bind_some, cb_some]
          · rw [zi_up, e127, up_up]) (fun s hs => by
        have f1 : (48 : Int32) < iN 49 := by decide
        exact ⟨s, by simp only [s_X9_free_b25, f1, z10', if_true, if_false, bind_ok, Option.bind_some, cb_some], hs.1, ⟨_, hs.2.1⟩, hs.2.2⟩) (σ := zsi σ1 125 0 0) ⟨Ag.refl, by rw [q2.2.1]; exact (up_self hh2).symm, rfl⟩
      obtain ⟨h4, ⟨v, h5⟩, h6⟩ := h4
      have hS2 : SK σ2 := q2.1.ag h4
      have b3b := q_r125_3 hS2
      have s7 := rs_7 (v := iN hh) hS2
      have h3 : s_X9_free_l25 (125, iN rm, iN hh, 0) (zsi σ1 125 0 0) = _ := h3
      refine ⟨zsi σ2 127 7 (iN hh), ?_, q.thrown.1.p.trans (hourBack h4 (v := v) (by rw [q2.2.1]; exact h5) h6 (by rw [q2.2.1]; exact hh2))⟩
      cases hf : firstP (fun n => decide (thP B (zi σ 127) (lawR (zi σ 127)) rm (hh + n) = 0)) 49 0 with
      | none =>
        rw [hf] at h3
        have f2 : ¬ iN 49 ≤ 48 := by decide
        simp only [s_X9_free, s_X9_free_j55, w, rm9, rq, bI_t, b3, l7, h3, b3b, s7, f2, z10', if_true, if_false, bind_ok, Option.bind_some, cb_some]
      | some n =>
        rw [hf] at h3
        have hn := firstP_lt hf
        have f2 : iN n ≤ (48 : Int32) := (iN_le (b := 48) (by omega) (by decide)).mpr (by omega)
        simp only [s_X9_free, s_X9_free_j55, w, rm9, rq, bI_t, b3, l7, h3, b3b, s7, f2, z10', if_true, if_false, bind_ok, Option.bind_some, cb_some]
  · have rq := rmQ_no hx
    refine ⟨-1, ⟨σ, ?_, Ag.refl⟩, fun σ1 q => ⟨_, ?_, q.thrown.1.p⟩⟩
    · simp only [s_X8_free, rm8, rq, bI_f, z10', if_true, if_false, bind_ok, Option.bind_some, cb_some]
    · have w := q_w125 (k := 0) (v := 0) q.1; have q2 := q.thrown.2; have bk := q_ck125 q2.1; have b3 := q_r125_3 q2.1
      simp only [s_X9_free, w, rm9, rq, bI_f, z10', if_true, if_false, bind_ok, Option.bind_some, cb_some]
/-- compare: another law in force for a while -/
theorem cmp9 {nP nF nB nT nS nL hr : Nat} {B : Book} {R : Nat → Int32} (h : M9 nP nF nB nT nS nL 999 B R σ) (h3 : hr < 100000) (h7 : R 7 = iN hr) {x : Int32} (hx : x = -1 ∨ ∃ j, j < nL ∧ x = iN j) {rm : Nat} :
    ∃ σ1, s_X9_theirsIn 125 (iN rm) (zsi σ 127 6 x) = some (thP B R (lawR (up R 6 x)) rm hr, σ1) ∧ Ag S9 σ (zsi σ1 127 6 (R 6)) ∧ SK σ1 := by
  have e : zi (zsi σ 127 6 x) 127 = up R 6 x := by rw [zi_up, h.2.1]
  have m : M9 nP nF nB nT nS nL 999 B (up R 6 x) (zsi σ 127 6 x) := ⟨h.1, e, h.2.2.1.inF hx, h.2.2.2.1.up (by decide), by rw [zi_ne (by decide)]; exact h.2.2.2.2⟩
  obtain ⟨σ1, g1, g2⟩ := thin9 m h3 (rm := rm) (by rw [up_ne (by decide)]; exact h7)
  refine ⟨σ1, g1, ?_, m.1.ag g2⟩
  refine ⟨g2.1, g2.2.1, g2.2.2.1, g2.2.2.2.1, fun a k hn => ?_⟩
  have q := g2.2.2.2.2 a k hn
  by_cases c : a = 127 ∧ k = 6
  · obtain ⟨rfl, rfl⟩ := c
    exact ⟨zi_hit.trans (by rw [← h.2.1]), q.2⟩
  · rw [zi_free (by simpa using c)]
    rw [zi_free (by simpa using c)] at q
    exact q
theorem b_compare {p1 p2 : Int32} (hr : Rel σ) : Both (s_X8_compare 0 p1 p2) (s_X9_compare 125 p1 p2) σ := by
  have hS := hr.1.1
  refine hr.both (fun nP nF nB nT nS nL B m8 m9 => ?_)
  obtain ⟨hh, hh1, hh2⟩ := bd_hour m8
  have hn6 := m8.2.2.2.1.1.2.2.2.2.2
  have r0 := q_r0_0 hS
  have k0 := h_ck0 hS.hk1
  have r10 := h_r0_10 hS.hk1
  have r11 := h_r0_11 hS.hk1
  have t0 := ht_0 hS.hk1
  rw [show zi σ (1 + 14) 0 = iN hh from m8.2.2.1.g7.trans hh2] at t0
  have c17 : zi σ 1 17 = iN nL := m8.2.2.1.g5.trans m8.2.2.2.1.2.1.2.2.2.2.2
  have run9 : ∀ σ1 x rm, M9 nP nF nB nT nS nL 999 B (zi σ 127) σ1 → (x = -1 ∨ ∃ j, j < nL ∧ x = iN j) → rm < 6 → s_X9_isLaw 125 x (zsi σ1 125 0 0) = some (1, zsi σ1 125 0 0) → ∃ σ2, s_X9_compare 125 x (iN rm) σ1 = some (thP B (zi σ 127) (lawR (up (zi σ 127) 6 x)) rm hh, σ2) ∧ Ag S9 σ1 σ2 := fun σ1 x rm q hx hrm hl => by
    have w := q_w125 (k := 0) (v := 0) q.1; have q2 := q.thrown.2; have bk := q_ck125 q2.1; have b3 := q_r125_3 q2.1
    have rq := rmQ_n hrm
    have l6 : ldI 11 (zsi σ1 125 0 0) 127 6 = some (zi σ 127 6) := (rw_6 q2.1).trans (by rw [q2.2.1])
    have s6 := rs_6 (v := x) q2.1
    obtain ⟨σ2, g1, g2, g3⟩ := cmp9 q2 (hr := hh) (by omega) hh2 hx (rm := rm)
    have bk2 : ck 9 (zsi (zsi σ1 125 0 0) 127 6 x) 125 = some () := q_ck125 (σ := zsi (zsi σ1 125 0 0) 127 6 x) q2.1.fz
    have b32 := q_r125_3 g3
    have s62 := rs_6 (v := zi σ 127 6) g3
    refine ⟨_, ?_, q.thrown.1.trans g2⟩
    simp only [s_X9_compare, w, bk, b3, hl, rm9, rq, bI_t, l6, s6, bk2, g1, b32, s62, z10', if_true, if_false, bind_ok, Option.bind_some, cb_some]
  rcases nx p2 (c := 6) (by omega) with ⟨rm, hk, rfl⟩ | hx2
  · have rq := rmQ_n hk
    by_cases c1 : p1 = -1
    · subst c1
      have eL : lawR (up (zi σ 127) 6 (-1)) = none := if_pos up_eq
      refine ⟨thP B (zi σ 127) none rm hh, ?_, fun σ1 q => ?_⟩
      · obtain ⟨σ1, g1, g2⟩ := thb8 m8 (rm := rm) (hr := hh) (by omega) (j := none) (t := none) (Or.inl ⟨rfl, rfl⟩)
        refine ⟨σ1, ?_, g2⟩
        simp only [s_X8_compare, s_X8_compare_j26, s_X8_compare_j44, rm8, rq, bI_t, r0, k0, r10, t0, g1, z10', if_true, if_false, bind_ok, Option.bind_some, cb_some]
      · have := run9 σ1 (-1) rm q (Or.inl rfl) hk (by unfold s_X9_isLaw; rw [if_pos rfl])
        rw [eL] at this
        exact this
    · rcases nx p1 (c := nL) (by omega) with ⟨j, hj, rfl⟩ | hx1
      · have eL : lawR (up (zi σ 127) 6 (iN j)) = some j := by
          unfold lawR
          rw [up_eq, if_neg (iN_ne (by omega)), iN_nat (by omega)]
        obtain ⟨t, t1, t2⟩ := m8.2.2.2.2.1 j hj
        have l15 := h_ld15 (n := j) (by omega) hS.hk1
        rw [t1] at l15
        have isl := lw8_t m8.2.1 c17 hn6 hj
        refine ⟨thP B (zi σ 127) (some j) rm hh, ?_, fun σ1 q => ?_⟩
        · obtain ⟨σ1, g1, g2⟩ := thb8 m8 (rm := rm) (hr := hh) (by omega) (j := some j) (t := some t) (Or.inr ⟨j, t, hj, rfl, rfl, t1, t2.2.2.1⟩)
          refine ⟨σ1, ?_, g2⟩
          simp only [s_X8_compare, s_X8_compare_j26, s_X8_compare_j44, rm8, rq, bI_t, r0, k0, r10, r11, t0, l15, isl, c1, g1, z10', if_true, if_false, bind_ok, Option.bind_some, cb_some]
        · have := run9 σ1 (iN j) rm q (Or.inr ⟨j, hj, rfl⟩) hk (lw9_t q.thrown.2.1 q.thrown.2.c5 hn6 hj)
          rw [eL] at this
          exact this
      · have isl := lw8_f m8.2.1 c17 hx1
        refine ⟨-1, ⟨σ, ?_, Ag.refl⟩, fun σ1 q => ⟨_, ?_, q.thrown.1⟩⟩
        · simp only [s_X8_compare, rm8, rq, bI_t, r0, k0, isl, c1, z10', if_true, if_false, bind_ok, Option.bind_some, cb_some]
        · have w := q_w125 (k := 0) (v := 0) q.1; have q2 := q.thrown.2; have bk := q_ck125 q2.1; have b3 := q_r125_3 q2.1
          have isl9 := lw9_f q2.1 q2.c5 hn6 hx1 c1
          simp only [s_X9_compare, w, bk, isl9, z10', if_true, if_false, bind_ok, Option.bind_some, cb_some]
  · have rq := rmQ_no hx2
    refine ⟨-1, ⟨σ, ?_, Ag.refl⟩, fun σ1 q => ⟨_, ?_, q.thrown.1⟩⟩
    · simp only [s_X8_compare, rm8, rq, bI_f, z10', if_true, if_false, bind_ok, Option.bind_some, cb_some]
    · have w := q_w125 (k := 0) (v := 0) q.1; have q2 := q.thrown.2; have bk := q_ck125 q2.1; have b3 := q_r125_3 q2.1
      have hl : ∃ v, s_X9_isLaw 125 p1 (zsi σ1 125 0 0) = some (v, zsi σ1 125 0 0) ∧ (v = 0 ∨ v = 1) := by
        by_cases c1 : p1 = -1
        · exact ⟨1, by unfold s_X9_isLaw; rw [if_pos c1], Or.inr rfl⟩
        · rcases nx p1 (c := nL) (by omega) with ⟨j, hj, rfl⟩ | hx1
          · exact ⟨1, lw9_t q2.1 q2.c5 hn6 hj, Or.inr rfl⟩
          · exact ⟨0, lw9_f q2.1 q2.c5 hn6 hx1 c1, Or.inl rfl⟩
      obtain ⟨v, hl, hv⟩ := hl
      rcases hv with rfl | rfl
      · simp only [s_X9_compare, w, bk, hl, z10', if_true, if_false, bind_ok, Option.bind_some, cb_some]
      · simp only [s_X9_compare, w, bk, hl, rm9, rq, bI_f, z10', if_true, if_false, bind_ok, Option.bind_some, cb_some]
end V18
