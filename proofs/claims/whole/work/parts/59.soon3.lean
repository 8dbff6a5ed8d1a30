/-! ===== soonest: the call ===== -/
section V27
variable {σ : Hp}
section ON
variable {nP nF nB nT nS nL H hr : Nat} {B : Book} {R : Nat → Int32}
theorem hrs8 (m8 : M8 1 nP nF nB nT nS nL H B R σ) (hS : SK σ) (hr2 : hr < 100000) (h7 : R 7 = iN hr) {f u z : Nat} (hf : f < nF) (hu : u < nP) (eu : R (17 + f) = iN u) (hz : z < nP) :
    ∃ s2, s_X2_hoursTo 113 (some 1) (iN f) (iN z) σ = some (fI (firstP (fun n => anP B R nP f u hr n z) 49 0), s2) ∧ Ag Sf σ s2 ∧ ∀ n, firstP (fun n => anP B R nP f u hr n z) 49 0 = some n → ∀ t, t < n → zi s2 114 t = iN (wkP B R nP f u z hr n (t + 1)) := by
  have hp10 := m8.p10
  have hf4 := m8.f4
  have x3 := h_r0_3 m8.2.1
  have l7 := h_ld7 (n := f) (by omega) m8.2.1
  rw [m8.2.2.1.on (by omega), eu] at l7
  by_cases cu : u = z
  · subst cu
    have e0 : firstP (fun n => anP B R nP f u hr n u) 49 0 = some 0 := by
      rw [firstP, if_pos (show anP B R nP f u hr 0 u = true from decide_eq_true rfl)]
    rw [e0]
    refine ⟨σ, ?_, Ag.refl, fun n hn t ht => by cases hn; omega⟩
    simp only [s_X2_hoursTo, x3, l7, z10', if_true, if_false, bind_ok, Option.bind_some, cb_some]
    rfl
  · have cub : ¬ iN u = iN z := (fun h => absurd ((iN_inj (by omega) (by omega)).mp h) (by omega))
    have k113 := q_ck113 hS
    obtain ⟨s1, d1, d2, d3⟩ := draw8 m8 hS hf
    have A1 : Ag Sf σ s1 := d2.mono (fun a k w => Or.inr (Or.inl w))
    have n8 := m8.agp (sf_p A1)
    have hS1 := hS.ag d2
    have x10 := h_r0_10 n8.2.1
    have t0 := ht_0 n8.2.1
    rw [show zi s1 (1 + 14) 0 = iN hr from n8.2.2.1.g7.trans h7] at t0
    have r4 := q_r113_4 hS1
    have st : stI s1 121 0 (iN (setN (one u) 10)) = some (zsi s1 121 0 (iN (setN (one u) 10))) := q_st121 (n := 0) (by decide) hS1
    have A2 : Ag Sf σ (zsi s1 121 0 (iN (setN (one u) 10))) := A1.trans (Ag.zsi (Or.inr (Or.inr (Or.inr (Or.inl rfl)))))
    have hS2 := hS.ag A2
    have L2 : Lay (zsi s1 121 0 (iN (setN (one u) 10))) (ldQ R nP f) := fun p hp => by
      rw [zi_ne (by decide)]
      exact d3 p hp
    obtain ⟨s3, g1, g2, g3, g4⟩ := hours8 (σ := zsi s1 121 0 (iN (setN (one u) 10))) (m8.agp (sf_p A2)) hS2 hr2 hf hu hz L2 48 0 _ (by omega) Ag.refl L2 (fun j hj => by
      have : j = 0 := by omega
      subst this
      exact zi_hit) (fun j hj => by omega)
    have g1 : s_X2_hoursTo_l43 (113, some 1, iN f, iN z, iN u, iN hr, 0) (zsi s1 121 0 (iN (setN (one u) 10))) = _ := g1
    have e1 : firstP (fun n => anP B R nP f u hr n z) 49 0 = firstP (fun n => anP B R nP f u hr n z) 48 (0 + 1) := firstP_f (p := fun n => anP B R nP f u hr n z) (show anP B R nP f u hr 0 z = false from decide_eq_false (fun e => cu e.symm))
    rw [e1]
    cases c : firstP (fun n => anP B R nP f u hr n z) 48 (0 + 1) with
    | none =>
      rw [c] at g1
      refine ⟨s3, ?_, A2.trans g2, fun n hn => by cases hn⟩
      simp only [s_X2_hoursTo, x3, l7, cub, k113, d1, x10, t0, r4, shl_one (show u < 10 by omega), st, g1, fI, z10', if_true, if_false, bind_ok, Option.bind_some, cb_some]
    | some n =>
      rw [c] at g1
      have hn := firstP_lt c
      obtain ⟨y1, y2⟩ := g4 n c
      have hS3 := hS2.ag g2
      have kk3 := q_ck113 hS3
      have en : iN (n - 1) + 1 = iN n := by
        rw [show (1 : Int32) = iN 1 from rfl, iN_add]
        congr 1
        omega
      obtain ⟨s4, v1, v2, v3⟩ := keep8 (n := n) hS3 (show z < 10 by omega) (by omega) g3 y1 y2
      have hS4 := hS3.ag v2
      have kk4 := q_ck113 hS4
      obtain ⟨s5, w1, w2, w3⟩ := way8 (n := n) hS4 hp10 hu hz (by omega) hn.2.2 (fun p hp => by rw [(v2.2.2.2.2 119 p (show ¬ ((119 : Nat) = 121) by decide)).1]; exact g3 p hp) v3 (fun j hj => by rw [(v2.2.2.2.2 120 j (show ¬ ((120 : Nat) = 121) by decide)).1]; exact y2 j hj)
      refine ⟨s5, ?_, ((A2.trans g2).trans (v2.mono (fun a k q => Or.inr (Or.inr (Or.inr (Or.inl q)))))).trans (w2.mono (fun a k q => Or.inr (Or.inr (Or.inr (Or.inr q))))), fun n2 hn2 => by cases hn2; exact w3⟩
      simp only [s_X2_hoursTo, x3, l7, cub, k113, d1, x10, t0, r4, shl_one (show u < 10 by omega), st, g1, kk3, en, v1, kk4, w1, fI, z10', if_true, if_false, bind_ok, Option.bind_some, cb_some]
/-- the reference walks the way -/
theorem walk9 (h : M9 nP nF nB nT nS nL 999 B R σ) (h3 : hr ≤ 999) (h7 : R 7 = iN hr) {f u z n i : Nat} (hf : f < nF) (hu : u < nP) (hz : z < nP) (hn : n ≤ 48) (hi : i < n) (hnz : anP B R nP f u hr n z = true) (hC : ∀ d, d ≤ n → ∀ p, p < nP → zi σ 148 (10 * (n - d) + p) = bI (ccP B R nP f z hr n d p)) :
    ∃ σ1, s_X9_soonest_l80 (125, iN f, iN i, iN u, 0) σ = some (iN (wkP B R nP f u z hr n (i + 1)), σ1) ∧ Ag S9 σ σ1 := by
  have hp10 := h.2.2.1.1.1
  obtain ⟨s9, g1, g2⟩ := loop_to (body := fun v => s_X9_soonest_b80 (v.1) (v.2.1) (v.2.2.1) (v.2.2.2.1) (v.2.2.2.2)) (fun _ s => Ag S9 σ s) (fun s => Ag S9 σ s) (fun t => (125, iN f, iN i, iN (wkP B R nP f u z hr n t), iN t)) (iN (wkP B R nP f u z hr n (i + 1))) (i + 1) (fun t s ht hs => by
    obtain ⟨w1, w2, w3, w4⟩ := wk_inv (z := z) hp10 hu hz hnz t (by omega)
    have w4 := w4 (by omega)
    have wl := firstP_lt w4
    have wn := (wk_inv (z := z) hp10 hu hz hnz (t + 1) (by omega)).1
    generalize wkP B R nP f u z hr n t = w at w1 w2 w3 w4 wl ⊢
    generalize wkP B R nP f u z hr n (t + 1) = q0 at w4 wl wn ⊢
    have f1 : ¬ iN i < iN t := (fun h => absurd ((iN_lt (by omega) (by omega)).mp h) (by omega))
    have t1 : iN t + 1 = iN (t + 1) := iN_add _ _
    have cc : ∀ q, q < nP → ∀ s, Ag S9 σ s → zi s 148 (10 * (t + 1) + q) = bI (ccP B R nP f z hr n (n - (t + 1)) q) := fun q hq s e => by
      rw [S9.c (by decide) e]
      have := hC (n - (t + 1)) (by omega) q hq
      rwa [show n - (n - (t + 1)) = t + 1 by omega] at this
    have key : ∀ (d q : Nat) (s : Hp), q + d = q0 → Ag S9 σ s → ∃ s2, s_X9_soonest_l89 (125, iN f, iN i, iN w, iN t, iN q) s = some ((125, iN f, iN i, iN t, iN q0), s2) ∧ Ag S9 σ s2 := by
      intro d
      have body : ∀ (q : Nat) (s : Hp), q < nP → Ag S9 σ s → ∃ s2, Ag S9 σ s2 ∧ s_X9_soonest_b89 125 (iN f) (iN i) (iN w) (iN t) (iN q) s = some (if nxP B R nP f z hr n t w q = true then Sum.inr (125, iN f, iN i, iN t, iN q) else Sum.inl (125, iN f, iN i, iN w, iN t, iN (q + 1)), s2) := by
        intro q s hq hs
        have n9 := h.ag hs
        have b43 := q_r125_43 n9.1
        have b3 := q_r125_3 n9.1
        have bk := q_ck125 n9.1
        have l7 : ldI 11 s 127 7 = some (iN hr) := (rw_7 n9.1).trans (by rw [n9.2.1, h7])
        have q1 : iN q + 1 = iN (q + 1) := iN_add _ _
        have ld := ld148 n9.1 (t := t + 1) (q := q) (by omega)
        rw [cc q hq s hs] at ld
        unfold nxP
        rw [decide_eq_true hq, Bool.true_and]
        cases c1 : ccP B R nP f z hr n (n - (t + 1)) q with
        | false =>
          rw [c1] at ld
          exact ⟨s, hs, by simp only [s_X9_soonest_b89, s_X9_soonest_j128, b43, t1, ld, bI_f, q1, Bool.false_and, Bool.false_eq_true, z10', if_true, if_false, bind_ok, Option.bind_some, cb_some]⟩
        | true =>
          rw [c1] at ld
          obtain ⟨s2, u1, u2⟩ := goes_on9 n9 h3 h7 (t := t) hf w1 hq (by omega)
          refine ⟨s2, hs.trans u2, ?_⟩
          cases c2 : gsP B R f w q (hr + t) with
          | false =>
            rw [c2] at u1
            simp only [s_X9_soonest_b89, s_X9_soonest_j128, b43, b3, bk, l7, t1, ld, u1, bI_t, bI_f, q1, Bool.and_false, Bool.false_eq_true, z10', if_true, if_false, bind_ok, Option.bind_some, cb_some]
          | true =>
            rw [c2] at u1
            simp only [s_X9_soonest_b89, b43, b3, bk, l7, t1, ld, u1, bI_t, Bool.and_true, z10', if_true, if_false, bind_ok, Option.bind_some, cb_some]
      induction d with
      | zero =>
        intro q s hq hs
        have e : q = q0 := by omega
        subst e
        obtain ⟨s2, m1, m2⟩ := body q s wn hs
        rw [if_pos wl.2.2] at m2
        exact ⟨s2, loopF_out m2, m1⟩
      | succ d ih =>
        intro q s hq hs
        obtain ⟨s2, m1, m2⟩ := body q s (by omega) hs
        have nf : nxP B R nP f z hr n t w q = false := by
          have e10 : (10 : Nat) = q + (10 - q) := by omega
          cases c : nxP B R nP f z hr n t w q with
          | false => rfl
          | true =>
            have x : firstP (nxP B R nP f z hr n t w) (q + 1) 0 ≠ none := fun e => by
              have := (firstP_any _ _).mp e q (by omega) (by omega)
              rw [c] at this
              cases this
            rw [show (10 : Nat) = (q + 1) + (10 - (q + 1)) by omega, firstP_app] at w4
            cases c3 : firstP (nxP B R nP f z hr n t w) (q + 1) 0 with
            | none => exact absurd c3 x
            | some k =>
              rw [c3] at w4
              cases w4
              have := firstP_lt c3
              omega
        rw [nf, if_neg (by decide)] at m2
        obtain ⟨s3, k1, k2⟩ := ih (q + 1) s2 (by omega) m1
        exact ⟨s3, (loopF_in m2).trans k1, k2⟩
    obtain ⟨s2, k1, k2⟩ := key q0 0 s (by omega) hs
    have k1 : s_X9_soonest_l89 (125, iN f, iN i, iN w, iN t, 0) s = _ := k1
    exact ⟨s2, by simp only [s_X9_soonest_b80, f1, k1, t1, z10', if_true, if_false, bind_ok, Option.bind_some, cb_some], k2⟩) (fun s hs => by
    have f1 : iN i < iN (i + 1) := ((iN_lt (by omega) (by omega)).mpr (by omega))
    exact ⟨s, by simp only [s_X9_soonest_b80, f1, z10', if_true, if_false, bind_ok, Option.bind_some, cb_some], hs⟩) (σ := σ) Ag.refl
  exact ⟨s9, g1, g2⟩
end ON
theorem b_soonest {p1 p2 p3 : Int32} (hr : Rel σ) : Both (s_X8_soonest 0 p1 p2 p3) (s_X9_soonest 125 p1 p2 p3) σ := by
  have hS := hr.1.1
  refine hr.both2 (fun nP nF nB nT nS nL B m8 m9 => ?_)
  have hf4 := m8.f4
  have hp10 := m8.p10
  obtain ⟨hh, hh1, hh2⟩ := bd_hour m8
  have r0 := q_r0_0 hS
  have k0 := h_ck0 hS.hk1
  have h0 := h_r0_0 hS.hk1
  have h1 := h_ck1 hS.hk1
  have r10 := q_r0_10 hS
  have k113 := q_ck113 hS
  have cF := m8.2.2.1.g1.trans m8.2.2.2.1.2.1.2.1
  rcases nx p1 (c := nF) (by omega) with ⟨f, hf, rfl⟩ | hx
  · have isf := fk8_t m8.2.1 cF hf4 hf
    have isf9 : ∀ s, M9 nP nF nB nT nS nL 999 B (zi σ 127) s → s_X9_isFolk 125 (iN f) s = some (1, s) := fun s q => fk9_t q.1 q.c1 (Nat.le_trans hf4 (by decide)) hf
    rcases nx p2 (c := nP) (by omega) with ⟨z, hz, rfl⟩ | hx2
    · have isp := one_t m8.2.1 m8.c3 hp10 hz
      have isp9 : ∀ s, M9 nP nF nB nT nS nL 999 B (zi σ 127) s → s_X9_isPerch 125 (iN z) s = some (1, s) := fun s q => pc9_t q.1 q.c0 hp10 hz
      obtain ⟨u, hu, eu⟩ := on_n m8.2.2.2.1 hf
      obtain ⟨s8, g1, g2, g3⟩ := hrs8 m8 hS (hr := hh) (by omega) hh2 hf hu eu hz
      have r10b := q_r0_10 (hS.ag g2)
      have r0b := q_r113_0 (hS.ag g2)
      have ln := q_ln114 (hS.ag g2)
      have L9 : ∀ σ1, M9 nP nF nB nT nS nL 999 B (zi σ 127) σ1 → ∃ s9, s_X9_laySoonest 125 (iN f) (iN z) (zsi σ1 125 0 0) = some (fI (firstP (fun n => anP B (zi σ 127) nP f u hh n z) 49 0), s9) ∧ Ag S9p σ1 s9 ∧ M9 nP nF nB nT nS nL 999 B (zi σ 127) s9 := fun σ1 q => by
        obtain ⟨s9, m1, m2, m3⟩ := lay_s9 q.thrown.2 hh1 hh2 hf hu eu hz
        exact ⟨s9, m1, q.thrown.1.p.trans m2, m3⟩
      by_cases c1 : p3 = -1
      · subst c1
        refine ⟨fI (firstP (fun n => anP B (zi σ 127) nP f u hh n z) 49 0), ⟨s8, ?_, sf_p g2⟩, fun σ1 q => ?_⟩
        · simp only [s_X8_soonest, r0, k0, isf, h0, h1, isp, r10, k113, g1, z10', if_true, if_false, bind_ok, Option.bind_some, cb_some]
        · obtain ⟨s9, m1, m2, m3⟩ := L9 σ1 q
          have w := q_w125 (k := 0) (v := 0) q.1; have q2 := q.thrown.2; have bk := q_ck125 q2.1; have b3 := q_r125_3 q2.1
          have ia := isf9 _ q2
          have ib := isp9 _ q2
          refine ⟨s9, ?_, m2⟩
          cases c : firstP (fun n => anP B (zi σ 127) nP f u hh n z) 49 0 with
          | none =>
            rw [c] at m1
            simp only [s_X9_soonest, w, bk, ia, ib, m1, fI, Int32.le_refl, z10', if_true, if_false, bind_ok, Option.bind_some, cb_some]
          | some n =>
            rw [c] at m1
            have hn := firstP_lt c
            have n1 : ¬ iN n = -1 := iN_ne (by omega)
            have n2 : (-1 : Int32) < iN n := by
              apply Int32.lt_iff_toInt_lt.mpr
              rw [iN_int (by omega)]
              show (-1 : Int) < _
              omega
            simp only [s_X9_soonest, w, bk, ia, ib, m1, fI, n1, n2, Int32.le_refl, z10', if_true, if_false, bind_ok, Option.bind_some, cb_some]
      · by_cases c0 : p3 < 0
        · have c2 : ¬ (-1 : Int32) ≤ p3 := fun q => by
            have a1 := Int32.le_iff_toInt_le.mp q
            have a2 := Int32.lt_iff_toInt_lt.mp c0
            have a3 : (-1 : Int32).toInt = -1 := rfl
            have a4 : (0 : Int32).toInt = 0 := rfl
            exact c1 (Int32.toInt_inj.mp (by omega))
          refine ⟨-1, ⟨s8, ?_, sf_p g2⟩, fun σ1 q => ⟨_, ?_, q.thrown.1.p⟩⟩
          · simp only [s_X8_soonest, r0, k0, isf, h0, h1, isp, r10, k113, g1, c1, c0, z10', if_true, if_false, bind_ok, Option.bind_some, cb_some]
          · have w := q_w125 (k := 0) (v := 0) q.1; have q2 := q.thrown.2; have bk := q_ck125 q2.1; have b3 := q_r125_3 q2.1
            have ia := isf9 _ q2
            have ib := isp9 _ q2
            simp only [s_X9_soonest, w, bk, ia, ib, c2, z10', if_true, if_false, bind_ok, Option.bind_some, cb_some]
        · obtain ⟨i, hi, rfl⟩ := iN_of c0
          have c2 : (-1 : Int32) ≤ iN i := by
            apply Int32.le_iff_toInt_le.mpr
            rw [iN_int hi]
            show (-1 : Int) ≤ _
            omega
          cases c : firstP (fun n => anP B (zi σ 127) nP f u hh n z) 49 0 with
          | none =>
            rw [c] at g1 L9
            have d1 : fI none ≤ iN i := c2
            refine ⟨-1, ⟨s8, ?_, sf_p g2⟩, fun σ1 q => ?_⟩
            · simp only [s_X8_soonest, r0, k0, isf, h0, h1, isp, r10, k113, g1, c1, c0, d1, z10', if_true, if_false, bind_ok, Option.bind_some, cb_some]
            · obtain ⟨s9, m1, m2, m3⟩ := L9 σ1 q
              have w := q_w125 (k := 0) (v := 0) q.1; have q2 := q.thrown.2; have bk := q_ck125 q2.1; have b3 := q_r125_3 q2.1
              have ia := isf9 _ q2
              have ib := isp9 _ q2
              exact ⟨s9, by simp only [s_X9_soonest, w, bk, ia, ib, m1, fI, c2, z10', if_true, if_false, bind_ok, Option.bind_some, cb_some], m2⟩
          | some n =>
            rw [c] at g1 L9
            have hn := firstP_lt c
            have n1 : ¬ iN n = -1 := iN_ne (by omega)
            by_cases ci : i < n
            · have d1 : ¬ iN n ≤ iN i := (fun h => absurd ((iN_le (by omega) (by omega)).mp h) (by omega))
              have d2 : iN i < iN n := ((iN_lt (by omega) (by omega)).mpr (by omega))
              have d3 : ¬ iN 48 ≤ iN i := (fun h => absurd ((iN_le (by omega) (by omega)).mp h) (by omega))
              have lw := q_ld114 (n := i) (by omega) (hS.ag g2)
              rw [g3 n c i ci] at lw
              refine ⟨iN (wkP B (zi σ 127) nP f u z hh n (i + 1)), ⟨s8, ?_, sf_p g2⟩, fun σ1 q => ?_⟩
              · simp only [s_X8_soonest, r0, k0, isf, h0, h1, isp, r10, k113, g1, fI, c1, c0, d1, d3, r10b, r0b, ln, lw, z10', if_true, if_false, bind_ok, Option.bind_some, cb_some]
              · obtain ⟨s9, m1, m2, m3⟩ := L9 σ1 q
                have w := q_w125 (k := 0) (v := 0) q.1; have q2 := q.thrown.2; have bk := q_ck125 q2.1; have b3 := q_r125_3 q2.1
                have ia := isf9 _ q2
                have ib := isp9 _ q2
                have bkb := q_ck125 m3.1
                obtain ⟨sc, y1, y2, y3, y4⟩ := lay_c9 m3 hh1 hh2 (f := f) (z := z) (n := n) hf hz (by omega)
                have bc3 := q_r125_3 y3.1
                have la := y3.ld17 (n := f) (by omega)
                rw [eu] at la
                obtain ⟨sd, v1, v2⟩ := walk9 y3 hh1 hh2 hf hu hz (by omega) ci hn.2.2 y4
                exact ⟨sd, by simp only [s_X9_soonest, w, bk, ia, ib, m1, fI, c1, c2, n1, d2, bkb, y1, bc3, la, v1, z10', if_true, if_false, bind_ok, Option.bind_some, cb_some], (m2.trans y2).trans v2.p⟩
            · have d1 : iN n ≤ iN i := ((iN_le (by omega) (by omega)).mpr (by omega))
              have d2 : ¬ iN i < iN n := (fun h => absurd ((iN_lt (by omega) (by omega)).mp h) (by omega))
              refine ⟨-1, ⟨s8, ?_, sf_p g2⟩, fun σ1 q => ?_⟩
              · simp only [s_X8_soonest, r0, k0, isf, h0, h1, isp, r10, k113, g1, fI, c1, c0, d1, z10', if_true, if_false, bind_ok, Option.bind_some, cb_some]
              · obtain ⟨s9, m1, m2, m3⟩ := L9 σ1 q
                have w := q_w125 (k := 0) (v := 0) q.1; have q2 := q.thrown.2; have bk := q_ck125 q2.1; have b3 := q_r125_3 q2.1
                have ia := isf9 _ q2
                have ib := isp9 _ q2
                exact ⟨s9, by simp only [s_X9_soonest, w, bk, ia, ib, m1, fI, c2, n1, d2, z10', if_true, if_false, bind_ok, Option.bind_some, cb_some], m2⟩
    · have isp := one_f m8.2.1 m8.c3 hx2
      refine ⟨-1, ⟨σ, ?_, Ag.refl⟩, fun σ1 q => ⟨_, ?_, q.thrown.1.p⟩⟩
      · simp only [s_X8_soonest, r0, k0, h0, h1, isf, isp, z10', if_true, if_false, bind_ok, Option.bind_some, cb_some]
      · have w := q_w125 (k := 0) (v := 0) q.1; have q2 := q.thrown.2; have bk := q_ck125 q2.1; have b3 := q_r125_3 q2.1
        have ia := isf9 _ q2
        have ib := pc9_f q2.1 q2.c0 hp10 hx2
        simp only [s_X9_soonest, w, bk, ia, ib, z10', if_true, if_false, bind_ok, Option.bind_some, cb_some]
  · have isf := fk8_f m8.2.1 cF hx
    refine ⟨-1, ⟨σ, ?_, Ag.refl⟩, fun σ1 q => ⟨_, ?_, q.thrown.1.p⟩⟩
    · simp only [s_X8_soonest, r0, k0, isf, z10', if_true, if_false, bind_ok, Option.bind_some, cb_some]
    · have w := q_w125 (k := 0) (v := 0) q.1; have q2 := q.thrown.2; have bk := q_ck125 q2.1; have b3 := q_r125_3 q2.1
      have isf9 := fk9_f q2.1 q2.c1 (Nat.le_trans hf4 (by decide)) hx
      simp only [s_X9_soonest, w, bk, isf9, z10', if_true, if_false, bind_ok, Option.bind_some, cb_some]
end V27
