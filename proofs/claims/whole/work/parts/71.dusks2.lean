/-! ===== dusks: one dusk of the reference's, both loops ===== -/
section V39
variable {σ : Hp} {nP nF nB nT nS nL H hr : Nat} {B : Book} {R : Nat → Int32}
def S9d (a k : Nat) : Prop := S9t a k ∨ (a = 125 ∧ k = 54)
theorem S9t.no54 : ¬ S9t 125 54 := by
  rintro (q | q | q)
  · exact S9.n (by decide) (Or.inr (by decide)) q
  · omega
  · omega
theorem psR_7 : psR B R nF nB hr 7 = iN (hr + 1) := by
  unfold psR goR
  exact if_pos rfl
theorem m9_j {v : Int64} (h : M9 nP nF nB nT nS nL H B R σ) : M9 nP nF nB nT nS nL H B R (zsj σ 125 54 v) := h
theorem dusk9 (m9 : M9 nP nF nB nT nS nL 999 B R σ) (hF : 0 < nF) (hP : 0 < nP) (h7 : R 7 = iN hr) (hh : hr < 999) {s N i : Nat} {l3 : Int32} (hs : s < 1000003) (hj : zj σ 125 54 = jN s) (hi : i < N) (hN : N < 2147483648) :
    ∃ t, s_X9_dusks_b74 125 (iN N) l3 (iN i) σ = some (Sum.inl (125, iN N, l3, iN (i + 1)), t) ∧ Ag S9d σ t ∧ zj t 125 54 = jN (nxS (nxS (nxS s))) ∧ M9 nP nF nB nT nS nL 999 B (psR B (stR2 B R nP nF hr s) nF nB hr) t := by
  have hF4 := m9.2.2.1.1.2.1
  have hP10 := m9.2.2.1.1.1
  have f1 : ¬ iN N ≤ iN i := (fun h => absurd ((iN_le (by omega) (by omega)).mp h) (by omega))
  have b3 := q_r125_3 m9.1
  have l7 : ldI 11 σ 127 7 = some (iN hr) := by
    rw [show (7 : Int32) = iN 7 from rfl, q_ld127 (by omega) m9.1, m9.2.1, h7]
  have f2 : ¬ 999 ≤ iN hr := fun q => absurd ((iN_le (a := 999) (by decide) (by omega)).mp q) (by omega)
  have l1 : ldI 11 σ 127 1 = some (iN nF) := by
    rw [show (1 : Int32) = iN 1 from rfl, q_ld127 (by omega) m9.1, m9.2.1, m9.2.2.1.2.1.2.1]
  have bk := q_ck125 m9.1
  have n1 := nxS_lt s
  have n2 := nxS_lt (nxS s)
  have n3 := nxS_lt (nxS (nxS s))
  have d1 := drawn9 (c := nF) m9.1 hs hj hF (by omega)
  have ma := m9_j (v := jN (nxS s)) m9
  have ea : Ag S9d σ (zsj σ 125 54 (jN (nxS s))) := Ag.zsj (Or.inr ⟨rfl, rfl⟩)
  have j1 : zj (zsj σ 125 54 (jN (nxS s))) 125 54 = jN (nxS s) := zj_hit
  generalize zsj σ 125 54 (jN (nxS s)) = ua at d1 ma j1 ea
  have b3a := q_r125_3 ma.1
  have l0 : ldI 11 ua 127 0 = some (iN nP) := by
    rw [show (0 : Int32) = iN 0 from rfl, q_ld127 (by omega) ma.1, ma.2.1, ma.2.2.1.2.1.1]
  have bka := q_ck125 ma.1
  have d2 := drawn9 (c := nP) ma.1 n1 j1 hP (by omega)
  have mb := m9_j (v := jN (nxS (nxS s))) ma
  have eb : Ag S9d ua (zsj ua 125 54 (jN (nxS (nxS s)))) := Ag.zsj (Or.inr ⟨rfl, rfl⟩)
  have j2 : zj (zsj ua 125 54 (jN (nxS (nxS s)))) 125 54 = jN (nxS (nxS s)) := zj_hit
  generalize zsj ua 125 54 (jN (nxS (nxS s))) = ub at d2 mb j2 eb
  have bkb := q_ck125 mb.1
  have d3 := drawn9 (c := 4) mb.1 n2 j2 (by decide) (by decide)
  have d3 : s_X9_draw 125 4 ub = _ := d3
  have mc := m9_j (v := jN (nxS (nxS (nxS s)))) mb
  have ec : Ag S9d ub (zsj ub 125 54 (jN (nxS (nxS (nxS s))))) := Ag.zsj (Or.inr ⟨rfl, rfl⟩)
  have j3 : zj (zsj ub 125 54 (jN (nxS (nxS (nxS s))))) 125 54 = jN (nxS (nxS (nxS s))) := zj_hit
  generalize zsj ub 125 54 (jN (nxS (nxS (nxS s)))) = uc at d3 mc j3 ec
  have E := (ea.trans eb).trans ec
  have b3c := q_r125_3 mc.1
  have bkc := q_ck125 mc.1
  have hf := Nat.mod_lt (nxS s) hF
  have hp := Nat.mod_lt (nxS (nxS s)) hP
  have h4 := Nat.mod_lt (nxS (nxS (nxS s))) (show 0 < 4 by decide)
  have ip : iN i + 1 = iN (i + 1) := iN_add i 1
  have pass : ∀ (u : Hp) (R2 : Nat → Int32), M9 nP nF nB nT nS nL 999 B R2 u → R2 7 = iN hr → ∃ t, s_X9_dusks_j163 125 (iN N) l3 (iN i) u = some (Sum.inl (125, iN N, l3, iN (i + 1)), t) ∧ Ag S9t u t ∧ M9 nP nF nB nT nS nL 999 B (psR B R2 nF nB hr) t := fun u R2 mu e7 => by
    obtain ⟨t, p1, p2, p3⟩ := passIt9 mu (hr := hr) (by omega) e7 (H2 := 999) (Nat.le_refl _) (by omega)
    have ck := q_ck125 mu.1
    exact ⟨t, by simp only [s_X9_dusks_j163, ck, p1, ip, bind_ok, Option.bind_some, cb_some], p2, p3⟩
  have j54 : ∀ {u t : Hp}, Ag S9t u t → zj t 125 54 = zj u 125 54 := fun e => (e.2.2.2.2 125 54 S9t.no54).2
  obtain ⟨f, ef⟩ : ∃ f, nxS s % nF = f := ⟨_, rfl⟩
  obtain ⟨q, eq⟩ : ∃ q, nxS (nxS s) % nP = q := ⟨_, rfl⟩
  rw [ef] at d1 hf
  rw [eq] at d2 hp
  by_cases c3' : nxS (nxS (nxS s)) % 4 = 3
  · have q3 : (3 : Int32) ≤ iN (nxS (nxS (nxS s)) % 4) := by rw [c3']; decide
    obtain ⟨t, p1, p2, p3⟩ := pass uc R mc h7
    rw [show stR2 B R nP nF hr s = R from if_pos c3']
    refine ⟨t, ?_, E.trans (p2.mono (fun _ _ q => Or.inl q)), (j54 p2).trans j3, p3⟩
    simp only [s_X9_dusks_b74, f1, b3, l7, f2, l1, bk, d1, b3a, l0, bka, d2, bkb, d3, q3, p1, z10', if_true, if_false, bind_ok, Option.bind_some, cb_some]
  · have q3 : ¬ (3 : Int32) ≤ iN (nxS (nxS (nxS s)) % 4) := fun q => c3' (by
      have := (iN_le (a := 3) (by decide) (by omega)).mp q
      omega)
    obtain ⟨p, hp', on⟩ := on_n m9.2.2.1 hf
    have l17 : ldI 11 uc 127 (17 + iN f) = some (iN p) := by
      rw [show (17 : Int32) = iN 17 from rfl, iN_add, q_ld127 (by omega) mc.1, mc.2.1, on]
    obtain ⟨u, u1, u2⟩ := can9 mc (hr := hr) (by omega) h7 hf hp' hp
    have mu := mc.ag u2
    have u2t : Ag S9t uc u := u2.mono (fun _ _ q => Or.inl q)
    have ec : stR2 B R nP nF hr s = if cnP B R (f) p (q) hr = true then up R (17 + f) (iN (q)) else R := by
      unfold stR2
      rw [if_neg c3', ef, eq, on, iN_nat (by omega)]
    rw [ec]
    cases c : cnP B R (f) p (q) hr with
    | false =>
      rw [c] at u1
      have u1 : s_X9_canStride 125 (iN f) (iN p) (iN q) uc = some (0, u) := u1
      obtain ⟨t, p1, p2, p3⟩ := pass u R mu h7
      rw [if_neg (by decide)]
      refine ⟨t, ?_, E.trans ((u2t.trans p2).mono (fun _ _ q => Or.inl q)), (j54 (u2t.trans p2)).trans j3, p3⟩
      simp only [s_X9_dusks_b74, f1, b3, l7, f2, l1, bk, d1, b3a, l0, bka, d2, bkb, d3, q3, b3c, l17, bkc, u1, p1, z10', if_true, if_false, bind_ok, Option.bind_some, cb_some]
    | true =>
      rw [c] at u1
      have u1 : s_X9_canStride 125 (iN f) (iN p) (iN q) uc = some (1, u) := u1
      rw [if_pos rfl]
      have b3u := q_r125_3 mu.1
      have st : stI u 127 (17 + iN f) (iN q) = some (zsi u 127 (17 + f) (iN q)) := by
        rw [show (17 : Int32) = iN 17 from rfl, iN_add, q_st127 (by omega) mu.1]
      have ok : okI nP nF nT 999 (17 + f) (iN q) := okQ hP10 hp (by omega)
      have e3 : Ag S9t u (zsi u 127 (17 + f) (iN q)) := Ag.zsi (Or.inr (Or.inr (by omega)))
      have mv : M9 nP nF nB nT nS nL 999 B (up R (17 + f) (iN q)) (zsi u 127 (17 + f) (iN q)) := mu.row (e3.mono (fun _ _ q => q.v.w)) (by rw [zi_up, mu.2.1]) (mu.2.2.1.put (by omega) ok)
      obtain ⟨t, p1, p2, p3⟩ := pass (zsi u 127 (17 + f) (iN q)) _ mv ((up_ne (by omega)).trans h7)
      refine ⟨t, ?_, E.trans (((u2t.trans e3).trans p2).mono (fun _ _ q => Or.inl q)), (j54 ((u2t.trans e3).trans p2)).trans j3, p3⟩
      simp only [s_X9_dusks_b74, f1, b3, l7, f2, l1, bk, d1, b3a, l0, bka, d2, bkb, d3, q3, b3c, l17, bkc, u1, b3u, st, p1, z10', if_true, if_false, bind_ok, Option.bind_some, cb_some]
/-- the row behind so many dusks -/
def dkR (B : Book) (nP nF nB : Nat) : Nat → (Nat → Int32) → Nat → Nat → Nat → Int32
  | 0, R, _, _ => R
  | k + 1, R, s, hr => if hr < 999 then dkR B nP nF nB k (psR B (stR2 B R nP nF hr s) nF nB hr) (nxS (nxS (nxS s))) (hr + 1) else R
theorem stR2_10 {s : Nat} (hf : nF ≤ 4) (h0 : 0 < nF) : stR2 B R nP nF hr s 10 = R 10 := by
  have hf := Nat.mod_lt (nxS s) h0
  unfold stR2
  generalize nxS (nxS (nxS s)) % 4 = k
  generalize nxS (nxS s) % nP = p at hf ⊢
  generalize nxS s % nF = f at hf ⊢
  split
  · rfl
  · split
    · exact up_ne (by omega)
    · rfl
theorem stR2_7 {s : Nat} : stR2 B R nP nF hr s 7 = R 7 := by
  unfold stR2
  generalize nxS (nxS (nxS s)) % 4 = k
  generalize nxS (nxS s) % nP = p
  generalize nxS s % nF = f
  split
  · rfl
  · split
    · exact up_ne (by omega)
    · rfl
theorem psR_10 : psR B R nF nB hr 10 = cgP B R nF nB hr := by
  unfold psR goR
  rw [if_neg (by decide), if_neg (by omega)]
  exact up_eq
theorem dkR_10 (hF : 0 < nF) (hP : 0 < nP) : ∀ (k : Nat) (R : Nat → Int32) (s hr c : Nat), WF nP nF nB nT nS nL 999 R → c ≤ 999 → R 10 = iN c → ∃ c2, c ≤ c2 ∧ c2 ≤ 999 ∧ dkR B nP nF nB k R s hr 10 = iN c2
  | 0, R, s, hr, c, _, h9, h => ⟨c, Nat.le_refl _, h9, h⟩
  | k + 1, R, s, hr, c, hw, h9, h => by
    unfold dkR
    by_cases c9 : hr < 999
    · rw [if_pos c9]
      have w2 := stR2_wf (B := B) (hr := hr) hw hF hP (s := s)
      obtain ⟨d, d1, d2, a, a1, a2, a3, a4⟩ := cg_n (B := B) (hr := hr) w2
      have h10 : stR2 B R nP nF hr s 10 = iN c := (stR2_10 hw.1.2.1 hF).trans h
      have ea : a = c := by
        rw [h10] at a2
        exact ((iN_inj (by omega) (by omega)).mp a2).symm
      have w3 := psR_wf (B := B) w2 (H2 := 999) (Nat.le_refl _) (show hr + 1 ≤ 999 by omega)
      obtain ⟨c2, e1, e2, e3⟩ := dkR_10 hF hP k _ (nxS (nxS (nxS s))) (hr + 1) d w3 d1 (psR_10.trans d2)
      exact ⟨c2, by omega, e2, e3⟩
    · rw [if_neg c9]
      exact ⟨c, Nat.le_refl _, h9, h⟩
def S8d (a k : Nat) : Prop := Sb 39 a k ∨ a = 46
theorem duskL8 (hF : 0 < nF) (hP : 0 < nP) {N : Nat} (hN : N < 2147483648) : ∀ (k : Nat) (R : Nat → Int32) (s hr i : Nat) (σ : Hp), i + k = N → M8 39 nP nF nB nT nS nL 999 B R σ → SK σ → zi σ 1 13 = iN nF → zi σ 2 3 = iN nP → R 7 = iN hr → hr ≤ 999 → s < 1000003 →
    ∃ t, s_X8_dusks_l81 (0, iN N, iN s, iN i) σ = some (0, t) ∧ Ag S8d σ t ∧ M8 39 nP nF nB nT nS nL 999 B (dkR B nP nF nB k R s hr) t
  | 0, R, s, hr, i, σ, hi, m8, hS, c13, c3, h7, hh, hs => by
    have f1 : iN N ≤ iN i := (iN_le (by omega) (by omega)).mpr (by omega)
    exact ⟨σ, loopF_out (body := fun v => s_X8_dusks_b81 (v.1) (v.2.1) (v.2.2.1) (v.2.2.2)) (v := (0, iN N, iN s, iN i)) (by simp only [s_X8_dusks_b81, f1, if_true]), Ag.refl, m8⟩
  | k + 1, R, s, hr, i, σ, hi, m8, hS, c13, c3, h7, hh, hs => by
    by_cases c9 : hr < 999
    · obtain ⟨t, g1, g2, g3⟩ := dusk8 m8 hS c13 c3 hF hP h7 c9 hs (show i < N by omega) hN
      have n13 : zi t 1 13 = iN nF := (g2.2.2.2.2 1 13 (by unfold Sb S8; omega)).1.trans c13
      have n3 : zi t 2 3 = iN nP := (g2.2.2.2.2 2 3 (by unfold Sb S8; omega)).1.trans c3
      obtain ⟨u, e1, e2, e3⟩ := duskL8 hF hP hN k _ (nxS (nxS (nxS s))) (hr + 1) (i + 1) t (by omega) g3 (hS.ag g2) n13 n3 psR_7 (by omega) (nxS_lt _)
      refine ⟨u, ?_, g2.trans e2, ?_⟩
      · exact (loopF_in (body := fun v => s_X8_dusks_b81 (v.1) (v.2.1) (v.2.2.1) (v.2.2.2)) (v := (0, iN N, iN s, iN i)) g1).trans e1
      · unfold dkR
        rw [if_pos c9]
        exact e3
    · have eh : hr = 999 := by omega
      subst eh
      have f1 : ¬ iN N ≤ iN i := (fun h => absurd ((iN_le (by omega) (by omega)).mp h) (by omega))
      have r2 := q_r0_2 hS
      have r10 := h_r0_10 m8.2.1
      have l14 := h_ld14 (n := 0) (by decide) m8.2.1
      rw [m8.2.2.1.g7, h7] at l14
      have l14 : ldI 11 σ (39 + 14) 0 = _ := l14
      have f2 : (999 : Int32) ≤ iN 999 := by decide
      refine ⟨σ, loopF_out (body := fun v => s_X8_dusks_b81 (v.1) (v.2.1) (v.2.2.1) (v.2.2.2)) (v := (0, iN N, iN s, iN i)) (by simp only [s_X8_dusks_b81, f1, r2, r10, l14, f2, if_true, if_false, Option.bind_some, bind_ok]), Ag.refl, ?_⟩
      unfold dkR
      rw [if_neg c9]
      exact m8
theorem duskL9 (hF : 0 < nF) (hP : 0 < nP) {N : Nat} {l3 : Int32} (hN : N < 2147483648) : ∀ (k : Nat) (R : Nat → Int32) (s hr i : Nat) (σ : Hp), i + k = N → M9 nP nF nB nT nS nL 999 B R σ → zj σ 125 54 = jN s → R 7 = iN hr → hr ≤ 999 → s < 1000003 →
    ∃ t, s_X9_dusks_l74 (125, iN N, l3, iN i) σ = some ((125, l3), t) ∧ Ag S9d σ t ∧ M9 nP nF nB nT nS nL 999 B (dkR B nP nF nB k R s hr) t
  | 0, R, s, hr, i, σ, hi, m9, hj, h7, hh, hs => by
    have f1 : iN N ≤ iN i := (iN_le (by omega) (by omega)).mpr (by omega)
    exact ⟨σ, loopF_out (body := fun v => s_X9_dusks_b74 (v.1) (v.2.1) (v.2.2.1) (v.2.2.2)) (v := (125, iN N, l3, iN i)) (by simp only [s_X9_dusks_b74, f1, if_true]), Ag.refl, m9⟩
  | k + 1, R, s, hr, i, σ, hi, m9, hj, h7, hh, hs => by
    by_cases c9 : hr < 999
    · obtain ⟨t, g1, g2, g3, g4⟩ := dusk9 m9 hF hP h7 c9 (l3 := l3) hs hj (show i < N by omega) hN
      obtain ⟨u, e1, e2, e3⟩ := duskL9 hF hP hN k _ (nxS (nxS (nxS s))) (hr + 1) (i + 1) t (by omega) g4 g3 psR_7 (by omega) (nxS_lt _)
      refine ⟨u, ?_, g2.trans e2, ?_⟩
      · exact (loopF_in (body := fun v => s_X9_dusks_b74 (v.1) (v.2.1) (v.2.2.1) (v.2.2.2)) (v := (125, iN N, l3, iN i)) g1).trans e1
      · unfold dkR
        rw [if_pos c9]
        exact e3
    · have eh : hr = 999 := by omega
      subst eh
      have f1 : ¬ iN N ≤ iN i := (fun h => absurd ((iN_le (by omega) (by omega)).mp h) (by omega))
      have b3 := q_r125_3 m9.1
      have l7 : ldI 11 σ 127 7 = some (iN 999) := by
        rw [show (7 : Int32) = iN 7 from rfl, q_ld127 (by omega) m9.1, m9.2.1, h7]
      have f2 : (999 : Int32) ≤ iN 999 := by decide
      refine ⟨σ, loopF_out (body := fun v => s_X9_dusks_b74 (v.1) (v.2.1) (v.2.2.1) (v.2.2.2)) (v := (125, iN N, l3, iN i)) (by simp only [s_X9_dusks_b74, f1, b3, l7, f2, if_true, if_false, Option.bind_some, bind_ok]), Ag.refl, ?_⟩
      unfold dkR
      rw [if_neg c9]
      exact m9
/-- the drawn row is kept -/
theorem dusk_keep (hS : SK σ) {l3 : Int32} : ∃ t, s_X9_dusks_l177 (125, l3, 0) σ = some ((125, l3), t) ∧ Ag (Cp 155 0 23) σ t ∧ ∀ i, i < 23 → zi t 155 i = zi σ 127 (7 + i) := by
  obtain ⟨t, h1, h2, h3, -⟩ := loop_copy (body := fun v => s_X9_dusks_b177 (v.1) (v.2.1) (v.2.2)) 155 0 127 7 23 (fun i => (125, l3, iN i)) (125, l3) (Or.inl (by decide)) hS (fun i t hi ht => by
    have f1 : ¬ (23 : Int32) ≤ iN i := fun q => absurd ((iN_le (a := 23) (by decide) (by omega)).mp q) (by omega)
    have b55 := q_r125_55 ht
    have b3 := q_r125_3 ht
    have i1 : iN i + 1 = iN (i + 1) := iN_add i 1
    have l : ldI 11 t 127 (7 + iN i) = some (zi t 127 (7 + i)) := by rw [show (7 : Int32) = iN 7 from rfl, iN_add, q_ld127 (by omega) ht]
    have st : ∀ v, stI t 155 (iN i) v = some (zsi t 155 i v) := fun v => q_st155 hi ht
    rw [show 0 + i = i by omega]
    simp only [s_X9_dusks_b177, f1, b55, b3, l, st, i1, z10', if_true, if_false, bind_ok, Option.bind_some, cb_some]) (fun t ht => by
    have f1 : (23 : Int32) ≤ iN 23 := by decide
    simp only [s_X9_dusks_b177, f1, z10', if_true, if_false, bind_ok, Option.bind_some, cb_some])
  refine ⟨t, h1, h2, fun i hi => ?_⟩
  have := h3 i hi
  rwa [show 0 + i = i by omega] at this
theorem Un.pp {nP nF nT n : Nat} {t : Hp} (h : Un nP nF nT n σ) (e1 : zi t 109 1 = zi σ 109 1) (e2 : zi t 125 8 = zi σ 125 8) (e3 : zi t 110 = zi σ 110) (e4 : zi t 131 = zi σ 131) (e5 : zi t 127 = zi σ 127) (e6 : ∀ k, k < 368 → zi t 130 k = zi σ 130 k) : Un nP nF nT n t := by
  have A : Ag S9p σ (zn σ, zk σ, zl σ, (fun a k => if a = 130 then zi t a k else zi σ a k), zj σ, zr σ) := ⟨rfl, rfl, rfl, rfl, fun a k hn => ⟨by
    show (if a = 130 then zi t a k else zi σ a k) = _
    by_cases c : a = 130
    · subst c
      rw [if_pos rfl]
      refine e6 k ?_
      have : ¬ 368 ≤ k := fun q => hn (Or.inr (Or.inr ⟨rfl, q⟩))
      omega
    · rw [if_neg c], rfl⟩⟩
  have h2 := h.p A
  unfold Un at h2 ⊢
  rw [e1, e2, e3, e4, e5]
  exact h2
end V39
