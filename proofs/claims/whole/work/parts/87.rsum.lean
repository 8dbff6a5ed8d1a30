/-! ===== the reference's reader: parts, sums ===== -/
section RQ
variable {σ : Hp} {tb : Nat → Nat} {L nT k b q c n o : Nat} {lw : Bool} {tst : Int32}
theorem j99_bad {its is op ar : Int32} (h : RS tb L nT lw k b q c n o σ) (hl : s_X9_leaf 125 is op ar σ = some ((), badH tb L k σ)) : s_X9_readPart_j99 125 its (some 125) is op ar σ = some (3, badH tb L k σ) := by
  obtain ⟨m, bs, -⟩ := h.fail
  have bk := q_ck125 h.1.1
  have i20 := q_i125 (k := 20) bs.1
  have i19 := q_i125 (k := 19) bs.1
  rw [bs.2.1] at i19
  have z20 : zi (badH tb L k σ) 125 20 = bI (!lw) := by
    rw [(badH.ag.2.2.2.2 125 20 (by omega)).1]
    exact h.2.2.1
  rw [z20] at i20
  cases lw with
  | true =>
    have i20 : rdI 9 (badH tb L k σ) 125 20 = some 0 := i20
    simp only [s_X9_readPart_j99, bk, hl, i20, bos, cbs, if_true]
  | false =>
    have i20 : rdI 9 (badH tb L k σ) 125 20 = some 1 := i20
    by_cases c6 : its < 6
    · simp only [s_X9_readPart_j99, bk, hl, i20, c6, z10', bos, cbs, if_true, if_false]
    · simp only [s_X9_readPart_j99, bk, hl, i20, c6, i19, z10', bos, cbs, if_true, if_false]
theorem j60_eq {its dg : Int32} (hS : SK σ) (hd : dg = 0 ∨ dg = 1) : s_X9_readPart_j60 125 its dg σ = s_X9_readPart_j99 125 its (some 125) (if its = -1 ∧ dg = 0 then 0 else 1) (if its = -1 then 0 else its) (if dg = 0 then 0 else Int64.toInt32 (zj σ 125 17)) σ := by
  have j17 := q_j125 (k := 17) hS
  have f10 : ¬ (1 : Int32) = 0 := z10'
  by_cases c : its = -1
  · rcases hd with rfl | rfl
    · simp only [s_X9_readPart_j60, s_X9_readPart_j76, s_X9_readPart_j86, c, and_self, if_true]
    · simp only [s_X9_readPart_j60, s_X9_readPart_j71, s_X9_readPart_j76, s_X9_readPart_j86, c, f10, and_false, j17, bos, if_true, if_false]
  · rcases hd with rfl | rfl
    · simp only [s_X9_readPart_j60, s_X9_readPart_j71, s_X9_readPart_j76, s_X9_readPart_j86, c, false_and, if_true, if_false]
    · simp only [s_X9_readPart_j60, s_X9_readPart_j71, s_X9_readPart_j76, s_X9_readPart_j86, c, f10, false_and, j17, bos, if_true, if_false]
theorem j35_eq {its : Int32} (h : RT tb L nT k σ) : s_X9_readPart_j35 125 its σ = s_X9_readPart_j60 125 its (if kdN tb L k = 256 ∧ nmN tb L k ≤ 1000 then 1 else 0) σ := by
  have i16 := q_i125 (k := 16) h.1
  by_cases c : kdN tb L k = 256
  · obtain ⟨d1, w, d2, d3, d4⟩ := (digits_k h).1 c
    rw [d1] at i16
    have j17 := q_j125 (k := 17) h.1
    rw [d3] at j17
    by_cases c2 : nmN tb L k ≤ 1000
    · rw [if_pos ⟨c, c2⟩]
      have hw : w ≤ 1000 := by
        unfold capN at d4
        split at d4 <;> omega
      have f : ¬ 0 < lg_cmp (jN w) 1000 := fun z => by
        have z2 := (lg_cmp_gt _ _).mp z
        have := (jN_le (b := 1000) (by omega) (by decide)).mpr hw
        exact absurd z2 (Int64.not_lt.mpr this)
      simp only [s_X9_readPart_j35, i16, j17, f, bos, if_true, if_false]
    · rw [if_neg (fun z => c2 z.2)]
      have hw : ¬ w ≤ 1000 := by
        unfold capN at d4
        split at d4 <;> omega
      have f : 0 < lg_cmp (jN w) 1000 := (lg_cmp_gt _ _).mpr (Int64.not_le.mp (fun z => hw ((jN_le (b := 1000) (by omega) (by decide)).mp z)))
      simp only [s_X9_readPart_j35, s_X9_readPart_j59, i16, j17, f, bos, if_true]
  · rw [if_neg (fun z => c z.1)]
    have n2 := (digits_k h).2 c
    simp only [s_X9_readPart_j35, s_X9_readPart_j59, i16, n2, bos, if_false]
theorem leaf_ops {c : Nat} {p : Nat × Nat} (h : leafW lw c = some p) : ∃ oo, opW lw c = some oo ∧ 0 < oo ∧ oo < 9 + 1 ∧ (p.2 = 0 → (lw = true ∨ oo < 6) ∧ p.1 = oo - 1) ∧ (p.2 ≠ 0 → lw = false ∧ ((oo = 6 ∧ p = (5, 4)) ∨ (oo = 7 ∧ p = (9, 3)) ∨ (oo = 8 ∧ p = (12, 6)))) := by
  cases lw with
  | true =>
    unfold leafW at h
    rw [if_pos rfl] at h
    by_cases q : 307 ≤ c ∧ c ≤ 315
    · rw [if_pos q] at h
      have e := Option.some.inj h
      refine ⟨c - 306, ?_, by omega, by omega, fun _ => ⟨Or.inl rfl, ?_⟩, fun z => ?_⟩
      · unfold opW
        rw [if_pos rfl, if_pos q]
      · rw [← e]
        show c - 307 = c - 306 - 1
        omega
      · rw [← e] at z
        exact absurd rfl z
    · rw [if_neg q] at h
      cases h
  | false =>
    by_cases h0 : c = 309
    · subst h0; cases h; exact ⟨1, rfl, by decide, by decide, fun _ => ⟨Or.inr (by decide), rfl⟩, fun z => absurd rfl z⟩
    by_cases h1 : c = 324
    · subst h1; cases h; exact ⟨2, rfl, by decide, by decide, fun _ => ⟨Or.inr (by decide), rfl⟩, fun z => absurd rfl z⟩
    by_cases h2 : c = 325
    · subst h2; cases h; exact ⟨3, rfl, by decide, by decide, fun _ => ⟨Or.inr (by decide), rfl⟩, fun z => absurd rfl z⟩
    by_cases h3 : c = 326
    · subst h3; cases h; exact ⟨4, rfl, by decide, by decide, fun _ => ⟨Or.inr (by decide), rfl⟩, fun z => absurd rfl z⟩
    by_cases h4 : c = 308
    · subst h4; cases h; exact ⟨5, rfl, by decide, by decide, fun _ => ⟨Or.inr (by decide), rfl⟩, fun z => absurd rfl z⟩
    by_cases h5 : c = 319
    · subst h5; cases h; exact ⟨6, rfl, by decide, by decide, fun z => absurd z (by decide), fun _ => ⟨rfl, Or.inl ⟨rfl, rfl⟩⟩⟩
    by_cases h6 : c = 307
    · subst h6; cases h; exact ⟨7, rfl, by decide, by decide, fun z => absurd z (by decide), fun _ => ⟨rfl, Or.inr (Or.inl ⟨rfl, rfl⟩)⟩⟩
    by_cases h7 : c = 327
    · subst h7; cases h; exact ⟨8, rfl, by decide, by decide, fun z => absurd z (by decide), fun _ => ⟨rfl, Or.inr (Or.inr ⟨rfl, rfl⟩)⟩⟩
    unfold leafW at h
    rw [if_neg (by decide), if_neg h0, if_neg h1, if_neg h2, if_neg h3, if_neg h4, if_neg h5, if_neg h6, if_neg h7] at h
    cases h
theorem lf_num {e : Env} {m : Nat} : lfB lw e (iN 0) (iN m) = Int32.toInt64 (iN m) := by
  cases lw <;> rfl
theorem lf_word {e : Env} {oo : Nat} {a : Int32} (h0 : 0 < oo) (h1 : oo < 10) (h : lw = true ∨ oo < 6) : lfB lw e (iN oo) a = Int32.toInt64 (e (oo - 1)) := by
  have n0 : ¬ iN oo = 0 := fun z => by have := (iN_inj (b := 0) (by omega) (by decide)).mp z; omega
  cases lw with
  | true =>
    show (if iN oo = 0 then _ else Int32.toInt64 (e ((iN oo).toNatClampNeg - 1))) = _
    rw [if_neg n0, iN_nat (by omega)]
  | false =>
    have h6 : oo < 6 := by
      rcases h with z | z
      · cases z
      · exact z
    show (if iN oo = 0 then _ else if iN oo < 6 then Int32.toInt64 (e ((iN oo).toNatClampNeg - 1)) else _) = _
    have l6 : iN oo < 6 := (iN_lt (b := 6) (by omega) (by decide)).mpr h6
    rw [if_neg n0, if_pos l6, iN_nat (by omega)]
theorem lf_ord {e : Env} {oo m : Nat} {p : Nat × Nat} (hm : m < p.2) (h : (oo = 6 ∧ p = (5, 4)) ∨ (oo = 7 ∧ p = (9, 3)) ∨ (oo = 8 ∧ p = (12, 6))) : lfB false e (iN oo) (iN m) = Int32.toInt64 (e (p.1 + m)) := by
  rcases h with ⟨rfl, rfl⟩ | ⟨rfl, rfl⟩ | ⟨rfl, rfl⟩
  · have hm : m < 4 := hm
    show Int32.toInt64 (if 0 ≤ iN m ∧ iN m < 4 then e (5 + (iN m).toNatClampNeg) else -1) = _
    rw [if_pos ⟨Int32.not_lt.mp (iN_nn (by omega)), (iN_lt (b := 4) (by omega) (by decide)).mpr hm⟩, iN_nat (by omega)]
  · have hm : m < 3 := hm
    show Int32.toInt64 (if 0 ≤ iN m ∧ iN m < 3 then e (9 + (iN m).toNatClampNeg) else -1) = _
    rw [if_pos ⟨Int32.not_lt.mp (iN_nn (by omega)), (iN_lt (b := 3) (by omega) (by decide)).mpr hm⟩, iN_nat (by omega)]
  · have hm : m < 6 := hm
    show Int32.toInt64 (if 0 ≤ iN m ∧ iN m < 6 then e (12 + (iN m).toNatClampNeg) else -1) = _
    rw [if_pos ⟨Int32.not_lt.mp (iN_nn (by omega)), (iN_lt (b := 6) (by omega) (by decide)).mpr hm⟩, iN_nat (by omega)]
theorem part9 {f : Option (Nat → Nat → Res)} (ho : o ≤ 8) (hn : f = none → o = 8) (hs : ∀ g, f = some g → o < 8 ∧ RFn tb L nT lw tst 1 3 5 5 noC (o + 1) g ∧ EndS (kdN tb L) g ∧ Good nT false g) : RFn tb L nT lw tst 1 3 6 7 noC o (partP (kdN tb L) (nmN tb L) lw f) := by
  intro k q c n σ h hq hK hC
  have hle := h.le
  have bk := q_ck125 h.1.1
  obtain ⟨fm, fb, fe⟩ := h.fail
  have s91 := iss9 h.1 (c := 91) (by decide) (by decide)
  have s91 : s_X9_isSign 125 91 σ = _ := s91
  by_cases c1 : kdN tb L k = 91
  · have hk := h.1.lt c1 (by decide)
    rw [decide_eq_true c1] at s91
    have s91 : s_X9_isSign 125 91 σ = some (1, σ) := s91
    have eP : partP (kdN tb L) (nmN tb L) lw f k q = brP (kdN tb L) 93 f k q := if_pos c1
    rw [eP]
    cases f with
    | none =>
      have op := open9_f (ob := 32) h (by have := hn rfl; omega) (by omega)
      have r : s_X9_readPart 125 σ = some (1, badH tb L k σ) := by
        simp only [s_X9_readPart, bk, s91, op, z10', bos, cbs, if_false]
      exact RRes.bad (RdL_part h.1.1 h.2.1 r) fe fb
    | some g =>
      obtain ⟨h8, hg, hE, hG⟩ := hs g rfl
      obtain ⟨σ3, op, e3, h3, y1, y2, y3, y4⟩ := open9_t (ob := 32) h hk h8 (by decide) (by decide)
      have op : s_X9_openBracket 125 32 σ = _ := op
      have r : s_X9_readPart 125 σ = some (1, σ3) := by
        simp only [s_X9_readPart, bk, s91, op, z10', bos, cbs, if_false]
      have L1 := RdL_part (tst := tst) h.1.1 h.2.1 r
      have hr := hg (k + 1) q c (n + 1) σ3 h3 hq (Or.inr ⟨32, by decide, by decide, y1, by decide⟩) trivial
      have hgd := hG (k + 1) q (by omega) hq
      show RRes tb L nT lw tst 1 3 6 c n σ q o (bindR (g (k + 1) q) _)
      generalize hge : g (k + 1) q = res at hr hgd
      obtain ⟨k1, q1, oa⟩ := res
      cases oa with
      | none =>
        obtain ⟨σ4, x1, x2, x3⟩ := hr
        exact ⟨σ4, L1.trans x1, e3.trans (x2.mono (fun a j z => z.mono (Nat.le_refl _) (by omega))), x3⟩
      | some a =>
        obtain ⟨σ4, c4, t, x1, x2, x3, x4, x5, x6⟩ := hr
        obtain ⟨en1, en2⟩ := hE _ _ _ _ _ hge
        have hk1 : k1 ≤ nT := hgd.2.1
        have x3i := x3.2.2.2.2.2.1
        have hbp : bopN (kdN tb L k1) = -1 := by
          unfold bopN
          rw [en1, en2]
        have bs := behindSum9 (tst := tst) x3.1
        rw [hbp] at bs
        have p32 : zi σ4 138 n = 32 := by
          rw [(x2.2.2.2.2 138 n (by unfold Sm9; omega)).1, y1]
          rfl
        have inn := inner9 x3.1.1 x3i (by have := x3.2.2.2.2.2.2.2.2.2.1; have := x3.le; omega)
        have e32 : innN (zi σ4 138) (n + 1 + t) = 32 := by
          rw [inn_up t x5.lt31]
          show (if zi σ4 138 n < 31 then _ else zi σ4 138 n) = 32
          rw [p32]
          rfl
        rw [e32] at inn
        have bk4 := q_ck125 x3.1.1
        have s93 := iss9 x3.1 (c := 93) (by decide) (by decide)
        have s93 : s_X9_isSign 125 93 σ4 = _ := s93
        show RRes tb L nT lw tst 1 3 6 c n σ q o (if kdN tb L k1 = 93 then (k1 + 1, q1, some a) else (k1, q1, none))
        have ea : Ag (Sm9 c n) σ σ4 := e3.trans (x2.mono (fun a j z => z.mono (Nat.le_refl _) (by omega)))
        by_cases c2 : kdN tb L k1 = 93
        · rw [if_pos c2]
          rw [decide_eq_true c2] at s93
          have s93 : s_X9_isSign 125 93 σ4 = some (1, σ4) := s93
          have hk1l := x3.1.lt c2 (by decide)
          obtain ⟨σ5, m5, e5, h5⟩ := x3.must hk1l
          have i19 := q_i125 (k := 19) h5.1.1
          rw [h5.2.1] at i19
          have bk5 := q_ck125 h5.1.1
          have z5 : ∀ a, a ≠ 125 → zi σ5 a = zi σ4 a := fun a ha => funext fun i => (e5.2.2.2.2 a i (by unfold Sn9; omega)).1
          have K5 : KB 5 (n + 1) σ5 := Or.inr ⟨32, by decide, by decide, by rw [z5 138 (by decide)]; exact p32, by decide⟩
          have P5 : Pnd 5 c (n + 1) t σ5 := x5.congr (fun i _ _ => by rw [z5 138 (by decide), z5 139 (by decide)]; exact ⟨rfl, rfl⟩)
          obtain ⟨σ6, c6, st, e6, h6, hc6, eq6, z138, z139⟩ := h5.settle (least := 5) (by decide) P5 K5 x4
          have st : s_X9_settle 125 5 σ5 = _ := st
          have i29 := q_i125 (k := 29) h6.1.1
          rw [h6.2.2.2.2.2.1] at i29
          obtain ⟨w29, e7, h7, v1, v2, v3, v4⟩ := h6.pop
          generalize zsi σ6 125 29 (iN n) = σ7 at w29 e7 h7 v1 v2 v3 v4
          have i30 := q_i125 (k := 30) h7.1.1
          rw [h7.2.2.2.2.2.2.1] at i30
          have d30 : iN (o + 1) - 1 = iN o := iN_sub (b := 1) (by omega)
          have w30 := q_w125 (k := 30) (v := iN o) h7.1.1
          obtain ⟨e8, h8', u1, u2, u3, u4⟩ := h7.set (j := 30) (v := iN o) (Or.inr rfl)
          have h8 := h8' q1 o (fun z => by cases z) (fun _ => ⟨rfl, rfl⟩)
          generalize zsi σ7 125 30 (iN o) = σ8 at w30 e8 h8 u1 u2 u3 u4
          have r2 : s_X9_behindSum 125 tst σ4 = some (3, σ8) := by
            rw [bs]
            simp only [s_X9_behindSum_j71, bk4, inn, s93, m5, i19, bk5, st, i29, w29, i30, d30, w30, bos, cbs, if_true]
          have L2 := RdL_sum (tst := tst) x3.1.1 x3.2.1 r2
          have key : setN1 (zi σ4 138) (zi σ4 139) (n + 1) t (zi σ4 136, zi σ4 137, c4) = (zi σ8 136, zi σ8 137, c6) := by
            rw [z5 136 (by decide), z5 137 (by decide), z5 138 (by decide), z5 139 (by decide)] at eq6
            rw [← eq6, u1, u2, v1, v2]
          rw [key] at x6
          refine ⟨σ8, c6, 0, (L1.trans x1).trans L2, (((ea.trans (e5.mono (fun a j z => z.sm))).trans (e6.mono (fun a j z => z.mono (Nat.le_refl _) (by omega)))).trans (e7.mono (fun a j z => z.mono (by omega) (Nat.le_refl _)))).trans (e8.mono (fun a j z => z.mono (by omega) (Nat.le_refl _))), h8.up (by omega) (Nat.le_refl _), by omega, fun i z1 z2 => by omega, x6⟩
        · rw [if_neg c2]
          rw [decide_eq_false c2] at s93
          have s93 : s_X9_isSign 125 93 σ4 = some (0, σ4) := s93
          obtain ⟨m5, b5, e5⟩ := x3.fail
          have i19 := q_i125 (k := 19) b5.1
          rw [b5.2.1] at i19
          have r2 : s_X9_behindSum 125 tst σ4 = some (3, badH tb L k1 σ4) := by
            rw [bs]
            simp only [s_X9_behindSum_j71, bk4, inn, s93, m5, i19, z10', bos, cbs, if_true, if_false]
          exact RRes.bad ((L1.trans x1).trans (RdL_sum x3.1.1 x3.2.1 r2)) (ea.trans (e5.mono (fun a j z => z.mono (by omega) (by omega)))) b5
  · rw [decide_eq_false c1] at s91
    have s91 : s_X9_isSign 125 91 σ = some (0, σ) := s91
    have eP : partP (kdN tb L) (nmN tb L) lw f k q = (if 50 ≤ q then (k, q, none) else if kdN tb L k = 256 then (if nmN tb L k ≤ 1000 then (k + 1, q + 1, some (numS (nmN tb L k))) else (k, q, none)) else match leafW lw (kdN tb L k) with
      | none => (k, q, none)
      | some p => if p.2 = 0 then (k + 1, q + 1, some (wordS p.1)) else if kdN tb L (k + 1) = 256 ∧ nmN tb L (k + 1) < p.2 then (k + 2, q + 1, some (wordS (p.1 + nmN tb L (k + 1)))) else (k + 1, q, none)) := if_neg c1
    rw [eP]
    have i20 := q_i125 (k := 20) h.1.1
    rw [h.2.2.1] at i20
    -- down to the leaf
    have rp : ∀ X, (∀ dg : Int32, dg = (if kdN tb L k = 256 ∧ nmN tb L k ≤ 1000 then 1 else 0) → s_X9_readPart_j99 125 (opI (opW lw (kdN tb L k))) (some 125) (if opI (opW lw (kdN tb L k)) = -1 ∧ dg = 0 then 0 else 1) (if opI (opW lw (kdN tb L k)) = -1 then 0 else opI (opW lw (kdN tb L k))) (if dg = 0 then 0 else Int64.toInt32 (zj σ 125 17)) σ = X) → s_X9_readPart 125 σ = X := by
      intro X hX
      have hX := hX _ rfl
      have pa : s_X9_readPart 125 σ = s_X9_readPart_j35 125 (opI (opW lw (kdN tb L k))) σ := by
        cases lw with
        | true =>
          have i20 : rdI 9 σ 125 20 = some 0 := i20
          have p1 := partAt9 h.1
          rw [pick_law] at p1
          simp only [s_X9_readPart, bk, s91, i20, p1, bos, cbs, if_true]
        | false =>
          have i20 : rdI 9 σ 125 20 = some 1 := i20
          have p1 := orderPartAt9 h.1
          rw [pick_ord] at p1
          simp only [s_X9_readPart, bk, s91, i20, p1, z10', bos, cbs, if_true, if_false]
      rw [pa, j35_eq h.1, j60_eq h.1.1 (by split <;> simp)]
      exact hX
    have failed : (∀ dg : Int32, dg = (if kdN tb L k = 256 ∧ nmN tb L k ≤ 1000 then 1 else 0) → (if opI (opW lw (kdN tb L k)) = -1 ∧ dg = 0 then (0 : Int32) else 1) = 0 ∨ 50 ≤ q) → RRes tb L nT lw tst 1 3 6 c n σ q o (k, q, none) := by
      intro hh
      have r := rp _ (fun dg hdg => j99_bad h (leaf9_f h (by omega) (hh dg hdg)))
      exact RRes.bad (RdL_part h.1.1 h.2.1 r) fe fb
    by_cases c2 : 50 ≤ q
    · rw [if_pos c2]
      exact failed (fun _ _ => Or.inr c2)
    · rw [if_neg c2]
      by_cases c3 : kdN tb L k = 256
      · rw [if_pos c3]
        have hk := h.1.lt c3 (by decide)
        have ow : opW lw (kdN tb L k) = none := by
          rw [c3]
          cases lw <;> rfl
        by_cases c4 : nmN tb L k ≤ 1000
        · rw [if_pos c4]
          obtain ⟨d1, w, d2, d3, d4⟩ := (digits_k h.1).1 c3
          have ew : w = nmN tb L k := by
            unfold capN at d4
            split at d4 <;> omega
          have jb := j_back (n := w) (by omega)
          obtain ⟨σ1, lf, e1, h1, v1, v2⟩ := leaf9_t (op := 0) (ar := iN (nmN tb L k)) h hk (by omega)
          have i20b := q_i125 (k := 20) h1.1.1
          rw [h1.2.2.1] at i20b
          have r : s_X9_readPart 125 σ = some (3, σ1) := by
            refine rp _ (fun dg hdg => ?_)
            rw [if_pos ⟨c3, c4⟩] at hdg
            subst hdg
            rw [ow]
            show s_X9_readPart_j99 125 (-1) (some 125) 1 0 (Int64.toInt32 (zj σ 125 17)) σ = _
            rw [d3, jb, ew]
            cases lw with
            | true =>
              have i20b : rdI 9 σ1 125 20 = some 0 := i20b
              simp only [s_X9_readPart_j99, bk, lf, i20b, bos, cbs, if_true]
            | false =>
              have i20b : rdI 9 σ1 125 20 = some 1 := i20b
              simp only [s_X9_readPart_j99, bk, lf, i20b, z10', (show (-1 : Int32) < 6 by decide), bos, cbs, if_true, if_false]
          refine ⟨σ1, c + 1, 0, RdL_part h.1.1 h.2.1 r, e1, h1, by omega, fun i z1 z2 => by omega, ?_⟩
          have sg := r_leaf (ar := zi σ1 137) (lf := lfB lw) (i := c) (op := zi σ1 136) (o := 0) v1 (by decide)
          rw [show q + 1 - q = 1 by omega]
          have ef : (fun e => some (lfB lw e (zi σ1 136 c) (zi σ1 137 c))) = numS (nmN tb L k) := by
            funext e
            rw [v1, v2]
            exact congrArg some lf_num
          rw [ef] at sg
          exact sg
        · rw [if_neg c4]
          exact failed (fun dg hdg => Or.inl (by
            rw [if_neg (fun z => c4 z.2)] at hdg
            rw [ow, hdg]
            exact if_pos ⟨rfl, rfl⟩))
      · rw [if_neg c3]
        cases c4 : leafW lw (kdN tb L k) with
        | none =>
          have ow := opW_leaf.mpr c4
          exact failed (fun dg hdg => Or.inl (by
            rw [if_neg (fun z => c3 z.1)] at hdg
            rw [ow, hdg]
            exact if_pos ⟨rfl, rfl⟩))
        | some p =>
          have hk := h.1.lt rfl (leafW_ne c4)
          obtain ⟨oo, ow, oo0, oo9, w1, w2⟩ := leaf_ops c4
          have nm1 : ¬ iN oo = -1 := iN_ne (by omega)
          obtain ⟨σ1, lf, e1, h1, v1, v2⟩ := leaf9_t (op := iN oo) (ar := 0) h hk (by omega)
          have i20b := q_i125 (k := 20) h1.1.1
          rw [h1.2.2.1] at i20b
          have r0 : ∀ X, s_X9_readPart_j99 125 (iN oo) (some 125) 1 (iN oo) 0 σ = X → s_X9_readPart 125 σ = X := by
            intro X hX
            refine rp _ (fun dg hdg => ?_)
            rw [if_neg (fun z => c3 z.1)] at hdg
            subst hdg
            rw [ow]
            show s_X9_readPart_j99 125 (iN oo) (some 125) (if iN oo = -1 ∧ (0 : Int32) = 0 then 0 else 1) (if iN oo = -1 then 0 else iN oo) 0 σ = X
            rw [if_neg (fun z => nm1 z.1), if_neg nm1]
            exact hX
          show RRes tb L nT lw tst 1 3 6 c n σ q o (if p.2 = 0 then (k + 1, q + 1, some (wordS p.1)) else if kdN tb L (k + 1) = 256 ∧ nmN tb L (k + 1) < p.2 then (k + 2, q + 1, some (wordS (p.1 + nmN tb L (k + 1)))) else (k + 1, q, none))
          by_cases c5 : p.2 = 0
          · rw [if_pos c5]
            obtain ⟨w3, w4⟩ := w1 c5
            have r : s_X9_readPart 125 σ = some (3, σ1) := by
              refine r0 _ ?_
              cases lw with
              | true =>
                have i20b : rdI 9 σ1 125 20 = some 0 := i20b
                simp only [s_X9_readPart_j99, bk, lf, i20b, bos, cbs, if_true]
              | false =>
                have i20b : rdI 9 σ1 125 20 = some 1 := i20b
                have l6 : iN oo < 6 := (iN_lt (b := 6) (by omega) (by decide)).mpr (w3.resolve_left (by decide))
                simp only [s_X9_readPart_j99, bk, lf, i20b, z10', l6, bos, cbs, if_true, if_false]
            refine ⟨σ1, c + 1, 0, RdL_part h.1.1 h.2.1 r, e1, h1, by omega, fun i z1 z2 => by omega, ?_⟩
            have sg := r_leaf (ar := zi σ1 137) (lf := lfB lw) (i := c) (op := zi σ1 136) (o := oo) v1 (by omega)
            rw [show q + 1 - q = 1 by omega]
            have ef : (fun e => some (lfB lw e (zi σ1 136 c) (zi σ1 137 c))) = wordS p.1 := by
              funext e
              rw [v1, lf_word oo0 (by omega) w3, w4]
              rfl
            rw [ef] at sg
            exact sg
          · rw [if_neg c5]
            obtain ⟨elw, w3⟩ := w2 c5
            subst elw
            have i20b : rdI 9 σ1 125 20 = some 1 := i20b
            have n6 : ¬ iN oo < 6 := fun z => by have := (iN_lt (b := 6) (by omega) (by decide)).mp z; omega
            have i19b := q_i125 (k := 19) h1.1.1
            rw [h1.2.1] at i19b
            have i23 := q_i125 (k := 23) h1.1.1
            rw [h1.2.2.2.2.1] at i23
            have c1' : iN (c + 1) - 1 = iN c := iN_sub (b := 1) (by omega)
            have r25 := q_r125_25 h1.1.1
            have bk1 := q_ck125 h1.1.1
            have hc400 : c < 400 := by
              have := h.2.2.2.2.2.2.2.2.1
              omega
            -- the number
            have num : ∀ (v : Int32) (σ2 : Hp), s_X9_number 125 (jN 0) (jN (p.2 - 1)) σ1 = some (v, σ2) → SK σ2 → s_X9_readPart 125 σ = some (3, zsi σ2 137 c v) := by
              intro v σ2 hv hS2
              have st := q_st137 (n := c) (v := v) hc400 hS2
              refine r0 _ ?_
              rcases w3 with ⟨rfl, rfl⟩ | ⟨rfl, rfl⟩ | ⟨rfl, rfl⟩
              · have hv : s_X9_number 125 0 3 σ1 = some (v, σ2) := hv
                have q6 : (iN 6 = 6) = True := eq_true rfl
                simp only [s_X9_readPart_j99, s_X9_readPart_j163, bk, lf, i20b, z10', n6, i19b, i23, r25, q6, c1', bk1, hv, st, bos, cbs, if_true, if_false]
              · have hv : s_X9_number 125 0 2 σ1 = some (v, σ2) := hv
                have q6 : ¬ iN 7 = 6 := by decide
                have q7 : (iN 7 = 7) = True := eq_true rfl
                simp only [s_X9_readPart_j99, s_X9_readPart_j163, bk, lf, i20b, z10', n6, i19b, i23, r25, q6, q7, c1', bk1, hv, st, bos, cbs, if_true, if_false]
              · have hv : s_X9_number 125 0 5 σ1 = some (v, σ2) := hv
                have q6 : ¬ iN 8 = 6 := by decide
                have q7 : ¬ iN 8 = 7 := by decide
                simp only [s_X9_readPart_j99, s_X9_readPart_j163, bk, lf, i20b, z10', n6, i19b, i23, r25, q6, q7, c1', bk1, hv, st, bos, cbs, if_true, if_false]
            have hp2 : p.2 ≤ 6 ∧ 0 < p.2 := by
              rcases w3 with ⟨-, rfl⟩ | ⟨-, rfl⟩ | ⟨-, rfl⟩ <;> decide
            by_cases c6 : kdN tb L (k + 1) = 256 ∧ nmN tb L (k + 1) < p.2
            · rw [if_pos c6]
              obtain ⟨σ2, nv, e2, t2⟩ := number9_t h1.1 h1.2.1 (lo := 0) (hi := p.2 - 1) (by omega) c6.1 (Nat.zero_le _) (by omega)
              have r := num _ _ nv t2.1
              have z2 : ∀ a, a ≠ 125 → zi σ2 a = zi σ1 a := fun a ha => funext fun i => (e2.2.2.2.2 a i (by unfold Sn9; omega)).1
              have g2 : ∀ j, (j ≠ 14 ∧ j ≠ 15 ∧ j ≠ 16 ∧ j ≠ 17) → zi σ2 125 j = zi σ1 125 j := fun j hj => (e2.2.2.2.2 125 j (by unfold Sn9; omega)).1
              have e3 : Ag (fun a j => a = 137 ∧ j = c) σ2 (zsi σ2 137 c (iN (nmN tb L (k + 1)))) := Ag.zsi ⟨rfl, rfl⟩
              have v3 : zi (zsi σ2 137 c (iN (nmN tb L (k + 1)))) 137 c = iN (nmN tb L (k + 1)) := zi_hit
              generalize zsi σ2 137 c (iN (nmN tb L (k + 1))) = σ3 at r e3 v3
              have z3 : ∀ a, a ≠ 137 → zi σ3 a = zi σ2 a := fun a ha => funext fun i => (e3.2.2.2.2 a i (by omega)).1
              have t3 : RT tb L nT (k + 1 + 1) σ3 := t2.ag e3 (fun a j z => by omega)
              obtain ⟨g1', g2', g3, g4, g5, g6, g7, g8, g9, g10, g11⟩ := h1
              have h3 : RS tb L nT false (k + 2) (k + 2) (q + 1) (c + 1) n o σ3 := by
                have t34 := t3.2.2.2.1
                refine ⟨t3, ?_, ?_, ?_, ?_, ?_, ?_, g8.congr (fun i _ => ?_), ?_, by omega, by omega⟩
                · rw [z3 125 (by decide), g2 19 (by omega)]; exact g2'
                · rw [z3 125 (by decide), g2 20 (by omega)]; exact g3
                · rw [z3 125 (by decide), g2 26 (by omega)]; exact g4
                · rw [z3 125 (by decide), g2 23 (by omega)]; exact g5
                · rw [z3 125 (by decide), g2 29 (by omega)]; exact g6
                · rw [z3 125 (by decide), g2 30 (by omega)]; exact g7
                · rw [z3 138 (by decide), z2 138 (by decide), z3 139 (by decide), z2 139 (by decide)]; exact ⟨rfl, rfl⟩
                · rw [z3 138 (by decide), z2 138 (by decide)]; omega
              refine ⟨σ3, c + 1, 0, RdL_part h.1.1 h.2.1 r, (e1.trans (e2.mono (fun a j z => z.sm))).trans (e3.mono (fun a j z => by unfold Sm9; omega)), h3, by omega, fun i z1 z2 => by omega, ?_⟩
              have v1' : zi σ3 136 c = iN oo := by rw [z3 136 (by decide), z2 136 (by decide)]; exact v1
              have sg := r_leaf (ar := zi σ3 137) (lf := lfB false) (i := c) (op := zi σ3 136) (o := oo) v1' (by omega)
              rw [show q + 1 - q = 1 by omega]
              have ef : (fun e => some (lfB false e (zi σ3 136 c) (zi σ3 137 c))) = wordS (p.1 + nmN tb L (k + 1)) := by
                funext e
                rw [v1', v3, lf_ord c6.2 w3]
                rfl
              rw [ef] at sg
              exact sg
            · rw [if_neg c6]
              obtain ⟨v, nv⟩ := number9_f h1.1 h1.2.1 (lo := 0) (hi := p.2 - 1) (by omega) (by omega) (fun z => c6 ⟨z.1, by omega⟩)
              obtain ⟨m2, b2, e2⟩ := h1.fail
              have r := num _ _ nv b2.1
              have e3 : Ag (fun a j => a = 137 ∧ j = c) (badH tb L (k + 1) σ1) (zsi (badH tb L (k + 1) σ1) 137 c v) := Ag.zsi ⟨rfl, rfl⟩
              generalize zsi (badH tb L (k + 1) σ1) 137 c v = σ3 at r e3
              generalize badH tb L (k + 1) σ1 = σ2 at r e3 b2 e2
              have z3 : ∀ a, a ≠ 137 → zi σ3 a = zi σ2 a := fun a ha => funext fun i => (e3.2.2.2.2 a i (by omega)).1
              obtain ⟨b21, b22, b23, cc, nn, b24, b25, b26, b27, b28⟩ := b2
              have z139 : zi σ3 139 = zi σ2 139 := z3 139 (by decide)
              have b3 : BadS tb L (k + 1) σ3 := ⟨b21.ag e3, by rw [z3 125 (by decide)]; exact b22, by rw [z3 125 (by decide)]; exact b23, cc, nn, by rw [z3 125 (by decide)]; exact b24, by rw [z3 125 (by decide)]; exact b25, b26.congr (fun i _ => by rw [z3 138 (by decide), z139]; exact ⟨rfl, rfl⟩), b27, by rw [z3 138 (by decide)]; exact b28⟩
              exact RRes.bad (RdL_part h.1.1 h.2.1 r) ((e1.trans (e2.mono (fun a j z => z.mono (by omega) (Nat.le_refl _)))).trans (e3.mono (fun a j z => by unfold Sm9; omega))) b3
end RQ
