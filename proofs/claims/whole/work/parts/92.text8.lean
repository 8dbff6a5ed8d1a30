/-! ===== the class's reader: a clause, a text ===== -/
section C92
variable {σ : Hp} {tb : Nat → Nat} {L nT k q sc i : Nat} {lw : Bool}
theorem link8 {c : Nat} (hc : c < 400) : s_X4_linkOf (iN c) σ = some ((match lnkN c with | none => -1 | some w => iN w), σ) := by
  by_cases h1 : c = 316
  · subst h1; rfl
  by_cases h2 : c = 317
  · subst h2; rfl
  by_cases h3 : c = 318
  · subst h3; rfl
  by_cases h4 : c = 319
  · subst h4; rfl
  by_cases h5 : c = 320
  · subst h5; rfl
  have n1 : ¬ iN c = 316 := fun q => absurd ((iN_inj (b := 316) (by omega) (by decide)).mp q) h1
  have n2 : ¬ iN c = 317 := fun q => absurd ((iN_inj (b := 317) (by omega) (by decide)).mp q) h2
  have n3 : ¬ iN c = 318 := fun q => absurd ((iN_inj (b := 318) (by omega) (by decide)).mp q) h3
  have n4 : ¬ iN c = 319 := fun q => absurd ((iN_inj (b := 319) (by omega) (by decide)).mp q) h4
  have n5 : ¬ iN c = 320 := fun q => absurd ((iN_inj (b := 320) (by omega) (by decide)).mp q) h5
  have e : lnkN c = none := by unfold lnkN; rw [if_neg h1, if_neg h3, if_neg h5]
  rw [e]
  simp only [s_X4_linkOf, n1, n2, n3, n4, n5, if_false]
theorem lnk_lt {c w : Nat} (h : lnkN c = some w) : 316 ≤ w ∧ w < 322 := by
  unfold lnkN at h
  split at h
  · rw [← Option.some.inj h]; decide
  · split at h
    · rw [← Option.some.inj h]; decide
    · split at h
      · rw [← Option.some.inj h]; decide
      · cases h
/-- what stands in the row of a clause behind its first sum -/
def Row2 (R s : Nat → Int32) (i sc sc1 c : Nat) (t : Sem × Nat × Option Sem) : Prop := ∃ f3, sc ≤ f3 ∧ R (6 * i + 2) = iN sc ∧ R (6 * i + 3) = iN f3 ∧ R (6 * i + 4) = iN sc1 ∧ R (6 * i + 5) = iN t.2.1 ∧ t.2.1 ≤ 20 ∧ (lnkN c = none → f3 = sc) ∧ (lnkN c ≠ none → ∃ q, q ≤ 50 ∧ CSeg s sc f3 q t.1) ∧ TSeg s f3 sc1 t.2.2
theorem cl98 (h : CP tb L nT lw k q sc σ) (h8 : zi σ 100 8 = iN i) (hi : i < 12) (hk : k ≤ nT) (hq : q ≤ 50) (hsc : sc ≤ k) {c : Nat} (hc : c < 400) : StR tb L nT lw sc i σ k q (s_X4_readClause_j98 100 (iN c) (iN (6 * i)) σ) (secP (kdN tb L) (nmN tb L) lw nT c k q) (fun t sc1 σ1 => Row2 (zi σ1 105) (zi σ1 104) i sc sc1 c t ∧ (∀ x, x < 6 * i + 2 → zi σ1 105 x = zi σ 105 x)) := by
  have hE := h.2.1.kE
  have hL := h.2.1.2.1
  have hnL := h.2.1.1
  have r4 := q_r100_4 h.1
  have i7 := q_i100 (k := 7) h.1
  rw [h.2.2.2.1] at i7
  obtain ⟨st, e1, p1, v1, v2, v3, v4⟩ := row8 h hi (j := 2) (by decide) (iN sc)
  have st : stI σ 105 (iN (6 * i) + 2) (iN sc) = _ := st
  generalize zsi σ 105 (6 * i + 2) (iN sc) = σ1 at st e1 p1 v1 v2 v3 v4
  have kk1 := q_ck100 p1.1
  have lk := link8 (σ := σ1) hc
  have b8 : zi σ1 100 8 = iN i := by rw [v4]; exact h8
  unfold secP
  cases hl : lnkN c with
  | none =>
    rw [hl] at lk
    have lk : s_X4_linkOf (iN c) σ1 = some (-1, σ1) := lk
    have eq : s_X4_readClause_j98 100 (iN c) (iN (6 * i)) σ = s_X4_readClause_j139 100 (iN (6 * i)) σ1 := by
      simp only [s_X4_readClause_j98, r4, i7, st, lk, bos, cbs, if_true]
    rw [eq]
    have hr := cl139 p1 b8 hi hk hq hsc
    show StR tb L nT lw sc i σ k q _ (match timP (kdN tb L) (nmN tb L) lw nT k q with
        | (k1, q1, none) => (k1, q1, none)
        | (k1, q1, some t) => (k1, q1, some (one1, t))) _
    generalize timP (kdN tb L) (nmN tb L) lw nT k q = r at hr
    obtain ⟨k1, q1, oa⟩ := r
    cases oa with
    | none =>
      obtain ⟨σ2, x1, x2, x3⟩ := hr
      exact ⟨σ2, x1, (agC e1).trans x2, x3⟩
    | some t =>
      obtain ⟨σ2, sc1, x1, x2, x3, x4, x5, x6, x7, x8, y1, y2, y3, y4, y5, y6⟩ := hr
      exact ⟨σ2, sc1, x1, e1.trans x2, x3, x4, x5, x6, x7, x8, ⟨sc, Nat.le_refl _, by rw [y5 _ (by omega)]; exact v1, y1, y2, y3, y4, fun _ => rfl, fun z => absurd hl z, y6⟩, fun x hx => by rw [y5 x (by omega), v2 x (by omega)]⟩
  | some w =>
    rw [hl] at lk
    have lk : s_X4_linkOf (iN c) σ1 = some (iN w, σ1) := lk
    have hw := lnk_lt hl
    have nm1 : ¬ iN w = -1 := iN_ne (by omega)
    show StR tb L nT lw sc i σ k q _ (if kdN tb L k = w then (match lvS (kdN tb L) (nmN tb L) lw nT 8 (k + 1) q with
      | (k1, q1, none) => (k1, q1, none)
      | (k1, q1, some b) => (match timP (kdN tb L) (nmN tb L) lw nT k1 q1 with
        | (k2, q2, none) => (k2, q2, none)
        | (k2, q2, some t) => (k2, q2, some (b, t)))) else (k, q, none)) _
    by_cases c1 : kdN tb L k = w
    · rw [if_pos c1]
      have hkl : k < nT := kd_lt hE hk c1 (by omega)
      have tk := take8_t p1 hk c1
      obtain ⟨eN, hN⟩ := p1.next
      have g8 := Sp_8 eN
      have g5 := Sp_105 eN
      generalize zsi σ1 100 6 (iN (k + 1)) = σ2 at tk eN hN g8 g5
      have kk2 := q_ck100 hN.1
      have hr := lvS8 (lw := lw) hE 8 80 (Nat.le_refl _) (by decide) (k + 1) q sc σ2 (by omega) hq (by omega) hN
      have hr : CRes tb L nT lw sc σ2 (k + 1) q (s_parse 80 2 100 0 0 σ2) (lvS (kdN tb L) (nmN tb L) lw nT 8 (k + 1) q) := hr
      have hg := good_lvS (nm := nmN tb L) (lw := lw) hE 8 (k + 1) q (by omega) hq
      have e12 : Ag (Spc sc i) σ σ2 := e1.trans (eN.mono (fun a j z => z.c (Nat.le_refl _)))
      generalize lvS (kdN tb L) (nmN tb L) lw nT 8 (k + 1) q = r at hr hg
      obtain ⟨k1, q1, oa⟩ := r
      cases oa with
      | none =>
        obtain ⟨σ3, x1, x2, x3⟩ := hr
        refine ⟨σ3, ?_, (agC e12).trans (x2.mono (fun a j z => z.c (Nat.le_refl _))), x3⟩
        simp only [s_X4_readClause_j98, r4, i7, st, lk, nm1, kk1, tk, z10', kk2, x1, bos, cbs, if_true, if_false]
      | some b =>
        obtain ⟨σ3, sc3, x1, x2, x3, x4, x5⟩ := hr
        obtain ⟨g1, g2, g3⟩ := hg
        have g1 : k + 1 ≤ k1 := g1
        have g2 : k1 ≤ nT := g2
        obtain ⟨-, g4, g5', -⟩ := g3 b rfl
        have g4 : q < q1 := g4
        have g5' : q1 ≤ 50 := g5'
        have x5s := x5.1
        have eq : s_X4_readClause_j98 100 (iN c) (iN (6 * i)) σ = s_X4_readClause_j139 100 (iN (6 * i)) σ3 := by
          simp only [s_X4_readClause_j98, r4, i7, st, lk, nm1, kk1, tk, z10', kk2, x1, bos, cbs, if_true, if_false]
        rw [eq]
        have hr2 := cl139 x3 (by rw [Sp_8 x2, g8]; exact b8) hi g2 g5' (by omega)
        have e13 : Ag (Spc sc i) σ σ3 := e12.trans (x2.mono (fun a j z => z.c (Nat.le_refl _)))
        have low : ∀ x, zi σ3 105 x = zi σ1 105 x := fun x => by rw [Sp_105 x2, g5]
        show StR tb L nT lw sc i σ k q _ (match timP (kdN tb L) (nmN tb L) lw nT k1 q1 with
        | (k2, q2, none) => (k2, q2, none)
        | (k2, q2, some t) => (k2, q2, some (b, t))) _
        generalize timP (kdN tb L) (nmN tb L) lw nT k1 q1 = r2 at hr2
        obtain ⟨k2, q2, ot⟩ := r2
        cases ot with
        | none =>
          obtain ⟨σ4, y1, y2, y3⟩ := hr2
          exact ⟨σ4, y1, (agC e13).trans (y2.mono (fun a j z => z.mono (by omega))), y3⟩
        | some t =>
          obtain ⟨σ4, sc4, y1, y2, y3, y4, y5, y6, y7, y8, z1, z2, z3, z4, z5, z6⟩ := hr2
          refine ⟨σ4, sc4, y1, e13.trans (y2.mono (fun a j z => z.mono (by omega))), y3, y4, by omega, y6, by omega, y8, ⟨sc3, by omega, by rw [z5 _ (by omega), low]; exact v1, z1, z2, z3, z4, fun z => (by rw [hl] at z; cases z), fun _ => ⟨q1 - q, by omega, ?_⟩, z6⟩, fun x hx => by rw [z5 x (by omega), low, v2 x (by omega)]⟩
          exact x5.congr (fun x _ h2 => (y2.2.2.2.2 104 x (by unfold Spc; omega)).1)
    · rw [if_neg c1]
      have tk := take8_f p1 hk (c := w) (by omega) c1
      refine ⟨_, ?_, (agC e1).trans ((failed8 p1).1.mono (fun a j z => z.c (Nat.le_refl _))), (failed8 p1).2⟩
      generalize zsi σ1 100 11 (iN (psN tb L k)) = σ2 at tk
      simp only [s_X4_readClause_j98, r4, i7, st, lk, nm1, kk1, tk, bos, cbs, if_true, if_false]
/-- the whole row of a clause -/
def RowC (R s : Nat → Int32) (i sc sc1 : Nat) (cl : Cl) : Prop := R (6 * i) = iN cl.1 ∧ R (6 * i + 1) = iN sc ∧ ∃ f2, sc ≤ f2 ∧ (noSum cl.1 = true → f2 = sc) ∧ (noSum cl.1 = false → ∃ q, q ≤ 50 ∧ CSeg s sc f2 q cl.2.1) ∧ Row2 R s i f2 sc1 cl.1 cl.2.2
theorem begins8 {c : Nat} (hc : c < 400) (h : zi σ 100 10 = bI lw) (hS : SK σ) : s_X4_beginsClause 100 (iN c) σ = some (bI (begN lw c), σ) := by
  have i10 := q_i100 (k := 10) hS
  rw [h] at i10
  have ne : ∀ v, v < 400 → c ≠ v → ¬ iN c = iN v := fun v hv hne z => hne ((iN_inj (by omega) (by omega)).mp z)
  cases lw with
  | true =>
    have i10 : rdI 4 σ 100 10 = some 1 := i10
    by_cases h1 : c = 300
    · subst h1
      simp only [s_X4_beginsClause, i10, z10', bos, if_false]
      rfl
    by_cases h2 : c = 301
    · subst h2
      simp only [s_X4_beginsClause, i10, z10', bos, if_false]
      rfl
    by_cases h3 : c = 302
    · subst h3
      simp only [s_X4_beginsClause, i10, z10', bos, if_false]
      rfl
    have n1 : ¬ iN c = 300 := ne 300 (by decide) h1
    have n2 : ¬ iN c = 301 := ne 301 (by decide) h2
    have n3 : ¬ iN c = 302 := ne 302 (by decide) h3
    have e : begN true c = false := by
      unfold begN
      rw [if_pos rfl]
      exact decide_eq_false (by omega)
    rw [e]
    simp only [s_X4_beginsClause, i10, z10', n1, n2, n3, bos, if_false]
    rfl
  | false =>
    have i10 : rdI 4 σ 100 10 = some 0 := i10
    by_cases h1 : c = 316
    · subst h1
      simp only [s_X4_beginsClause, i10, bos, if_true]
      rfl
    by_cases h2 : c = 318
    · subst h2
      simp only [s_X4_beginsClause, i10, bos, if_true]
      rfl
    by_cases h3 : c = 320
    · subst h3
      simp only [s_X4_beginsClause, i10, bos, if_true]
      rfl
    by_cases h4 : c = 322
    · subst h4
      simp only [s_X4_beginsClause, i10, bos, if_true]
      rfl
    have n1 : ¬ iN c = 316 := ne 316 (by decide) h1
    have n2 : ¬ iN c = 318 := ne 318 (by decide) h2
    have n3 : ¬ iN c = 320 := ne 320 (by decide) h3
    have n4 : ¬ iN c = 322 := ne 322 (by decide) h4
    have e : begN false c = false := by
      unfold begN
      rw [if_neg (by decide)]
      exact decide_eq_false (by omega)
    rw [e]
    simp only [s_X4_beginsClause, i10, n1, n2, n3, n4, bos, if_true, if_false]
    rfl
theorem clause8 (h : CP tb L nT lw k q sc σ) (h8 : zi σ 100 8 = iN i) (hi : i < 12) (hk : k ≤ nT) (hq : q ≤ 50) (hsc : sc ≤ k) : StR tb L nT lw sc i σ k q (s_X4_readClause 100 σ) (clauP (kdN tb L) (nmN tb L) lw nT k q) (fun cl sc1 σ1 => RowC (zi σ1 105) (zi σ1 104) i sc sc1 cl) := by
  have hE := h.2.1.kE
  have hL := h.2.1.2.1
  have hnL := h.2.1.1
  have kk := q_ck100 h.1
  have kd := kind8 h hk
  have hlt := kdN_lt (L := L) (k := k) h.2.1.2.2.1
  have i8 := q_i100 (k := 8) h.1
  rw [h8] at i8
  have bg := begins8 (lw := lw) (σ := σ) (c := kdN tb L k) (by omega) h.2.2.2.2.2 h.1
  unfold clauP
  cases hb : begN lw (kdN tb L k) with
  | false =>
    rw [hb] at bg
    have bg : s_X4_beginsClause 100 (iN (kdN tb L k)) σ = some (0, σ) := bg
    have fl := fail8 h hk
    rw [if_neg (by decide)]
    refine ⟨_, ?_, (failed8 h).1.mono (fun a j z => z.c (Nat.le_refl _)), (failed8 h).2⟩
    generalize zsi σ 100 11 (iN (psN tb L k)) = σ2 at fl
    simp only [s_X4_readClause, s_X4_readClause_j37, kk, kd, i8, bg, fl, zbo_0, bos, cbs, if_true]
  | true =>
    rw [hb] at bg
    have bg : s_X4_beginsClause 100 (iN (kdN tb L k)) σ = some (1, σ) := bg
    rw [if_pos rfl]
    have hkl : k < nT := kd_lt hE hk rfl (fun z => by
      rw [z] at hb
      cases lw <;> exact absurd hb (by decide))
    have m6 : iN i * 6 = iN (6 * i) := by rw [show (6 : Int32) = iN 6 from rfl, iN_mul, Nat.mul_comm]
    have f1 : ¬ iN (6 * i) < 0 := iN_nn (by omega)
    have r4 := q_r100_4 h.1
    have ln := q_ln105 h.1
    have f2 : iN (6 * i) + 6 ≤ iN 72 := by
      rw [show (6 : Int32) = iN 6 from rfl, iN_add]
      exact (iN_le (by omega) (by omega)).mpr (by omega)
    have i6 := q_i100 (k := 6) h.1
    rw [h.2.2.1] at i6
    have w := q_w100 (k := 6) (v := iN (k + 1)) h.1
    have i1 : iN k + 1 = iN (k + 1) := iN_add k 1
    obtain ⟨eN, hN⟩ := h.next
    have g8 := Sp_8 eN
    have g5 := Sp_105 eN
    generalize zsi σ 100 6 (iN (k + 1)) = σ1 at w eN hN g8 g5
    have r4b := q_r100_4 hN.1
    obtain ⟨st, e2, p2, v1, v2, v3, v4⟩ := row8 hN hi (j := 0) (by decide) (iN (kdN tb L k))
    have st : stI σ1 105 (iN (6 * i) + 0) (iN (kdN tb L k)) = _ := st
    generalize zsi σ1 105 (6 * i + 0) (iN (kdN tb L k)) = σ2 at st e2 p2 v1 v2 v3 v4
    have r4c := q_r100_4 p2.1
    have i7 := q_i100 (k := 7) p2.1
    rw [p2.2.2.2.1] at i7
    obtain ⟨st2, e3, p3, u1, u2, u3, u4⟩ := row8 p2 hi (j := 1) (by decide) (iN sc)
    have st2 : stI σ2 105 (iN (6 * i) + 1) (iN sc) = _ := st2
    generalize zsi σ2 105 (6 * i + 1) (iN sc) = σ3 at st2 e3 p3 u1 u2 u3 u4
    have e13 : Ag (Spc sc i) σ σ3 := ((eN.mono (fun a j z => z.c (Nat.le_refl _))).trans e2).trans e3
    have b8 : zi σ3 100 8 = iN i := by rw [u4, v4, g8]; exact h8
    have b0 : zi σ3 105 (6 * i) = iN (kdN tb L k) := by rw [u2 _ (by omega)]; exact v1
    have kk3 := q_ck100 p3.1
    -- behind the first sum
    have go : ∀ (k2 q2 f2 : Nat) (a : Sem) (τ : Hp), k + 1 ≤ k2 → k2 ≤ nT → q2 ≤ 50 → sc ≤ f2 → f2 + k + 1 ≤ sc + k2 → CP tb L nT lw k2 q2 f2 τ → Ag (Sp sc) σ3 τ → (noSum (kdN tb L k) = true → f2 = sc) → (noSum (kdN tb L k) = false → ∃ q, q ≤ 50 ∧ CSeg (zi τ 104) sc f2 q a) → s_X4_readClause 100 σ = s_X4_readClause_j98 100 (iN (kdN tb L k)) (iN (6 * i)) τ →
        StR tb L nT lw sc i σ k q (s_X4_readClause 100 σ) (match secP (kdN tb L) (nmN tb L) lw nT (kdN tb L k) k2 q2 with
          | (k1, q1, none) => (k1, q1, none)
          | (k1, q1, some t) => (k1, q1, some (kdN tb L k, a, t))) (fun cl sc1 σ1 => RowC (zi σ1 105) (zi σ1 104) i sc sc1 cl) := by
      intro k2 q2 f2 a τ y1 y2 y3 y4 y5 hP eP hs1 hs2 eq
      rw [eq]
      have hr := cl98 hP (by rw [Sp_8 eP]; exact b8) hi y2 y3 (by omega) (c := kdN tb L k) (by omega)
      generalize secP (kdN tb L) (nmN tb L) lw nT (kdN tb L k) k2 q2 = r at hr
      obtain ⟨k1, q1, oa⟩ := r
      cases oa with
      | none =>
        obtain ⟨σ5, x1, x2, x3⟩ := hr
        exact ⟨σ5, x1, (agC (e13.trans (eP.mono (fun a j z => z.c (Nat.le_refl _))))).trans (x2.mono (fun a j z => z.mono y4)), x3⟩
      | some t =>
        obtain ⟨σ5, sc5, x1, x2, x3, x4, x5, x6, x7, x8, x9, x10⟩ := hr
        refine ⟨σ5, sc5, x1, (e13.trans (eP.mono (fun a j z => z.c (Nat.le_refl _)))).trans (x2.mono (fun a j z => z.mono y4)), x3, x4, by omega, x6, by omega, x8, ?_, ?_, f2, y4, hs1, fun z => ?_, x9⟩
        · rw [x10 _ (by omega), Sp_105 eP]
          exact b0
        · rw [x10 _ (by omega), Sp_105 eP]
          exact u1
        · obtain ⟨qq, z1, z2⟩ := hs2 z
          exact ⟨qq, z1, z2.congr (fun x _ h2 => (x2.2.2.2.2 104 x (by unfold Spc; omega)).1)⟩
    cases hns : noSum (kdN tb L k) with
    | true =>
      rw [if_pos rfl]
      have hor : kdN tb L k = 302 ∨ kdN tb L k = 322 := of_decide_eq_true hns
      refine go (k + 1) q sc one1 σ3 (Nat.le_refl _) (by omega) hq (Nat.le_refl _) (by omega) p3 Ag.refl (fun _ => rfl) (fun z => by rw [hns] at z; cases z) ?_
      by_cases d1 : kdN tb L k = 302
      · have q302 : (iN (kdN tb L k) = 302) = True := eq_true (by rw [d1]; rfl)
        simp only [s_X4_readClause, kk, kd, i8, bg, m6, f1, r4, ln, f2, i6, i1, w, r4b, st, r4c, i7, st2, q302, z10', bos, cbs, if_true, if_false]
      · have d2 : kdN tb L k = 322 := hor.resolve_left d1
        have q302 : ¬ iN (kdN tb L k) = 302 := fun z => d1 ((iN_inj (b := 302) (by omega) (by decide)).mp z)
        have q322 : (iN (kdN tb L k) = 322) = True := eq_true (by rw [d2]; rfl)
        simp only [s_X4_readClause, kk, kd, i8, bg, m6, f1, r4, ln, f2, i6, i1, w, r4b, st, r4c, i7, st2, q302, q322, z10', bos, cbs, if_true, if_false]
    | false =>
      rw [if_neg (by decide)]
      have hnor : ¬ (kdN tb L k = 302 ∨ kdN tb L k = 322) := of_decide_eq_false hns
      have q302 : ¬ iN (kdN tb L k) = 302 := fun z => hnor (Or.inl ((iN_inj (b := 302) (by omega) (by decide)).mp z))
      have q322 : ¬ iN (kdN tb L k) = 322 := fun z => hnor (Or.inr ((iN_inj (b := 322) (by omega) (by decide)).mp z))
      have hr := lvS8 (lw := lw) hE 8 80 (Nat.le_refl _) (by decide) (k + 1) q sc σ3 (by omega) hq (by omega) p3
      have hr : CRes tb L nT lw sc σ3 (k + 1) q (s_parse 80 2 100 0 0 σ3) (lvS (kdN tb L) (nmN tb L) lw nT 8 (k + 1) q) := hr
      have hg := good_lvS (nm := nmN tb L) (lw := lw) hE 8 (k + 1) q (by omega) hq
      generalize lvS (kdN tb L) (nmN tb L) lw nT 8 (k + 1) q = r at hr hg
      obtain ⟨k1, q1, oa⟩ := r
      cases oa with
      | none =>
        obtain ⟨σ4, x1, x2, x3⟩ := hr
        refine ⟨σ4, ?_, (agC e13).trans (x2.mono (fun a j z => z.c (Nat.le_refl _))), x3⟩
        simp only [s_X4_readClause, kk, kd, i8, bg, m6, f1, r4, ln, f2, i6, i1, w, r4b, st, r4c, i7, st2, q302, q322, kk3, x1, z10', bos, cbs, if_true, if_false]
      | some a =>
        obtain ⟨σ4, sc4, x1, x2, x3, x4, x5⟩ := hr
        obtain ⟨g1, g2, g3⟩ := hg
        have g1 : k + 1 ≤ k1 := g1
        have g2 : k1 ≤ nT := g2
        obtain ⟨-, g4, g5', -⟩ := g3 a rfl
        have g4 : q < q1 := g4
        have g5' : q1 ≤ 50 := g5'
        have x5s := x5.1
        refine go k1 q1 sc4 a σ4 g1 g2 g5' (by omega) (by omega) x3 x2 (fun z => by rw [hns] at z; cases z) (fun _ => ⟨q1 - q, by omega, x5⟩) ?_
        simp only [s_X4_readClause, kk, kd, i8, bg, m6, f1, r4, ln, f2, i6, i1, w, r4b, st, r4c, i7, st2, q302, q322, kk3, x1, z10', bos, cbs, if_true, if_false]
end C92
