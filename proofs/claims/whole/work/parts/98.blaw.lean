/-! ===== law ===== -/
section V42
variable {σ : Hp} {nP nF nB nT nS nL n nt : Nat} {B : Book}
def tbO (σ : Hp) (i : Nat) : Nat := if i < 400 then (zi σ 134 i).toNatClampNeg else 0
theorem tbO_eq (h : Tp nt σ) {i : Nat} (hi : i < 400) : tbO σ i ≤ 255 ∧ zi σ 134 i = iN (tbO σ i) := by
  obtain ⟨m, h1, h2⟩ := (h.2.2.2 i hi).2
  have e : tbO σ i = m := by
    unfold tbO
    rw [if_pos hi, h2, iN_nat (by omega)]
  rw [e]
  exact ⟨h1, h2⟩
theorem tbO_le (h : Tp nt σ) (i : Nat) : tbO σ i ≤ 255 := by
  by_cases hi : i < 400
  · exact (tbO_eq h hi).1
  · unfold tbO
    rw [if_neg hi]
    omega
theorem tb8 (h : Tp nt σ) : TB8 (tbO σ) σ := ⟨tbO_le h, fun i hi => (h.2.2.2 i hi).1.trans (tbO_eq h hi).2⟩
theorem tb9 (h : Tp nt σ) : TB9 (tbO σ) nt σ := ⟨h.1, tbO_le h, fun i hi => (tbO_eq h hi).2, h.2.2.1⟩
theorem RfF.b3 {s s1 s2 : Int32} {r1 r2 r1' r2' : Nat → Int32} (h : RfF s1 s2 r1 r2) (a : ∀ j, j ≠ 3 → r1' j = r1 j) (a3 : r1' 3 = r1 3 + 1) (b : ∀ j, j ≠ 5 → r2' j = r2 j) (b5 : r2' 5 = r2 5 + 1) : RfF s s r1' r2' := by
  obtain ⟨h1, h2, h3, h4, h5, h6⟩ := h
  unfold RfF
  rw [a 0 (by decide), a 1 (by decide), a 2 (by decide), a3, a 4 (by decide), b 1 (by decide), b 2 (by decide), b 3 (by decide), b5, b 6 (by decide), h5]
  exact ⟨rfl, h2, h3, h4, rfl, h6⟩
theorem RfF.b4 {s s1 s2 : Int32} {r1 r2 r1' r2' : Nat → Int32} (h : RfF s1 s2 r1 r2) (a : ∀ j, j ≠ 4 → r1' j = r1 j) (a4 : r1' 4 = r1 4 + 1) (b : ∀ j, j ≠ 6 → r2' j = r2 j) (b6 : r2' 6 = r2 6 + 1) : RfF s s r1' r2' := by
  obtain ⟨h1, h2, h3, h4, h5, h6⟩ := h
  unfold RfF
  rw [a 0 (by decide), a 1 (by decide), a 2 (by decide), a 3 (by decide), a4, b 1 (by decide), b 2 (by decide), b 3 (by decide), b 5 (by decide), b6, h6]
  exact ⟨rfl, h2, h3, h4, h5, rfl⟩
theorem Slt.lf {a k : Nat} (h : Slt a k) : LF a k := by
  unfold Slt Stx Slw Sm9 at h
  unfold LF
  omega
theorem Srd.lf {a k : Nat} (h : Srd a k) : LF a k := by
  unfold Srd at h
  unfold LF
  omega
/-- the start of both -/
theorem law_full (hr : Rel σ) (hC : Cr 1 σ nP nF nB nT nS 6 999 B (zi σ 127)) (hT : Tp nt σ) : Both (s_X8_law 0) (s_X9_law 125) σ := by
  obtain ⟨hS, -, hR, hM, hW, hD, hI⟩ := hr.1
  have g5 : zi σ 1 17 = iN 6 := hC.2.1.g5.trans hC.1.2.1.2.2.2.2.2
  have R5 : zi σ 127 5 = iN 6 := hC.1.2.1.2.2.2.2.2
  have r5 := q_r0_5 hS
  have l98 := q_i98 (k := 1) hS
  have w98 := q_w98 (k := 1) (v := 0) hS
  have S1 : SK (zsi σ 98 1 0) := hS
  have r0 := q_r0_0 S1
  have i17 := h_i0 (k := 17) S1.hk1
  rw [zi_ne (by decide), g5] at i17
  have f1 : ¬ iN 6 < 0 := by decide
  have f2 : ¬ iN 6 < 6 := by decide
  have k8 := q_ck0 S1
  have rf := ref8_5 S1
  have S2 : SK (zsi (zsi (zsi σ 98 1 0) 0 18 (-5)) 124 3 (zi (zsi σ 98 1 0) 124 3 + 1)) := hS
  have w0 := q_w125 (k := 0) (v := 0) S2
  have S3 : SK (zsi (zsi (zsi (zsi σ 98 1 0) 0 18 (-5)) 124 3 (zi (zsi σ 98 1 0) 124 3 + 1)) 125 0 0) := hS
  have r3 := q_r125_3 S3
  have l5 : ldI 11 (zsi (zsi (zsi (zsi σ 98 1 0) 0 18 (-5)) 124 3 (zi (zsi σ 98 1 0) 124 3 + 1)) 125 0 0) 127 5 = some (iN 6) := by
    have e5 : zi (zsi (zsi (zsi (zsi σ 98 1 0) 0 18 (-5)) 124 3 (zi (zsi σ 98 1 0) 124 3 + 1)) 125 0 0) 127 5 = iN 6 := by
      rw [zi_ne (by decide), zi_ne (by decide), zi_ne (by decide), zi_ne (by decide), R5]
    exact (q_ld127 (n := 5) (by omega) S3).trans (congrArg some e5)
  have w13 := q_w125 (k := 13) (v := 0) S3
  have S4 : SK (zsi (zsi (zsi (zsi (zsi σ 98 1 0) 0 18 (-5)) 124 3 (zi (zsi σ 98 1 0) 124 3 + 1)) 125 0 0) 125 13 0) := hS
  have bk := q_ck125 S4
  have tl := tell9_5 S4
  have E : Ag LF σ (zsi (zsi (zsi (zsi (zsi (zsi (zsi σ 98 1 0) 0 18 (-5)) 124 3 (zi (zsi σ 98 1 0) 124 3 + 1)) 125 0 0) 125 13 0) 125 1 (-5)) 126 5 (zi (zsi (zsi (zsi (zsi (zsi σ 98 1 0) 0 18 (-5)) 124 3 (zi (zsi σ 98 1 0) 124 3 + 1)) 125 0 0) 125 13 0) 126 5 + 1)) :=
    ((((((Ag.zsi (by unfold LF; omega)).trans (Ag.zsi (by unfold LF; omega))).trans (Ag.zsi (by unfold LF; omega))).trans (Ag.zsi (by unfold LF; omega))).trans (Ag.zsi (by unfold LF; omega))).trans (Ag.zsi (by unfold LF; omega))).trans (Ag.zsi (by unfold LF; omega))
  refine Both.mk (r := -5) (σ1 := zsi (zsi (zsi σ 98 1 0) 0 18 (-5)) 124 3 (zi (zsi σ 98 1 0) 124 3 + 1)) ?_ ?_ (relF hr (GG.ofAg E) (fun j => by rw [E.2.2.2.1]) ?_ ?_ ?_ ?_ ?_ ?_) (S2.2.1 125 (by decide)).1
  · unfold s_X8_law s_X8_law_j34
    simp only [r5, l98, w98, r0, i17, f1, f2, k8, rf, bos, cbs, if_false]
  · have six : (iN 6 = 6) = True := eq_true rfl
    unfold s_X9_law
    simp only [w0, r3, l5, six, w13, bk, tl, bos, cbs, if_true]
  · rw [zi_ne (by decide), zi_ne (by decide), zi_ne (by decide), zi_ne (by decide), zi_ne (by decide), zi_ne (by decide), zi_hit]
  · rw [zi_ne (by decide), zi_miss (by decide), zi_hit]
  · rw [zi_ne (by decide), zi_ne (by decide), zi_ne (by decide), zi_ne (by decide), zi_ne (by decide), zi_miss (by decide), zi_ne (by decide), zi_ne (by decide), zi_miss (by decide), zi_miss (by decide), zi_miss (by decide), zi_ne (by decide), zi_ne (by decide), zi_ne (by decide)]
    exact hM.2.1
  · rw [zi_ne (by decide), zi_ne (by decide), zi_ne (by decide), zi_ne (by decide), zi_ne (by decide), zi_miss (by decide), zi_ne (by decide), zi_ne (by decide), zi_miss (by decide), zi_miss (by decide), zi_miss (by decide), zi_ne (by decide), zi_ne (by decide), zi_ne (by decide)]
    exact hM.2.2.1
  · rw [zi_ne (by decide), zi_miss (by decide), zi_miss (by decide), zi_miss (by decide), zi_ne (by decide), zi_ne (by decide), zi_ne (by decide)]
    exact hM.2.2.2
  · unfold Rf
    have q : RfF (-5) (-5) (zi (zsi (zsi (zsi (zsi (zsi (zsi (zsi σ 98 1 0) 0 18 (-5)) 124 3 (zi (zsi σ 98 1 0) 124 3 + 1)) 125 0 0) 125 13 0) 125 1 (-5)) 126 5 (zi (zsi (zsi (zsi (zsi (zsi σ 98 1 0) 0 18 (-5)) 124 3 (zi (zsi σ 98 1 0) 124 3 + 1)) 125 0 0) 125 13 0) 126 5 + 1)) 124) (zi (zsi (zsi (zsi (zsi (zsi (zsi (zsi σ 98 1 0) 0 18 (-5)) 124 3 (zi (zsi σ 98 1 0) 124 3 + 1)) 125 0 0) 125 13 0) 125 1 (-5)) 126 5 (zi (zsi (zsi (zsi (zsi (zsi σ 98 1 0) 0 18 (-5)) 124 3 (zi (zsi σ 98 1 0) 124 3 + 1)) 125 0 0) 125 13 0) 126 5 + 1)) 126) := by
      refine RfF.b3 hR (fun j hj => ?_) ?_ (fun j hj => ?_) ?_
      · rw [zi_ne (by decide), zi_ne (by decide), zi_ne (by decide), zi_ne (by decide), zi_miss hj, zi_ne (by decide), zi_ne (by decide)]
      · rw [zi_ne (by decide), zi_ne (by decide), zi_ne (by decide), zi_ne (by decide), zi_hit, zi_ne (by decide)]
      · rw [zi_miss hj, zi_ne (by decide), zi_ne (by decide), zi_ne (by decide), zi_ne (by decide), zi_ne (by decide), zi_ne (by decide)]
      · rw [zi_hit, zi_ne (by decide), zi_ne (by decide), zi_ne (by decide), zi_ne (by decide), zi_ne (by decide)]
    have e1 : zi (zsi (zsi (zsi (zsi (zsi (zsi (zsi σ 98 1 0) 0 18 (-5)) 124 3 (zi (zsi σ 98 1 0) 124 3 + 1)) 125 0 0) 125 13 0) 125 1 (-5)) 126 5 (zi (zsi (zsi (zsi (zsi (zsi σ 98 1 0) 0 18 (-5)) 124 3 (zi (zsi σ 98 1 0) 124 3 + 1)) 125 0 0) 125 13 0) 126 5 + 1)) 0 18 = -5 := by
      rw [zi_ne (by decide), zi_ne (by decide), zi_ne (by decide), zi_ne (by decide), zi_ne (by decide), zi_hit]
    have e2 : zi (zsi (zsi (zsi (zsi (zsi (zsi (zsi σ 98 1 0) 0 18 (-5)) 124 3 (zi (zsi σ 98 1 0) 124 3 + 1)) 125 0 0) 125 13 0) 125 1 (-5)) 126 5 (zi (zsi (zsi (zsi (zsi (zsi σ 98 1 0) 0 18 (-5)) 124 3 (zi (zsi σ 98 1 0) 124 3 + 1)) 125 0 0) 125 13 0) 126 5 + 1)) 125 1 = -5 := by
      rw [zi_ne (by decide), zi_hit]
    rw [e1, e2]
    exact q
/-- the class's text kept: old laws stand -/
theorem law_kept {t : Hp} {c1 : Nat} {l : List Cl} (h : Rest σ) (hC : Cr 1 σ nP nF nB nT nS nL 999 B (zi σ 127)) (hU : Un nP nF nT n σ) (hn : nL < 6) (E : GG LSw σ t)
    (hz : ∀ j, zr t 16 j = if j = nL then some (zn σ) else zr σ 16 j) (hT : TextOK (zn σ) l t) (h17 : zi t 1 17 = iN (nL + 1)) (hc1 : ∀ k, k ≠ 17 → zi t 1 k = zi σ 1 k)
    (h5 : zi t 127 5 = iN (nL + 1)) (hlo : ∀ i, i < 178 → i ≠ 5 → zi t 127 i = zi σ 127 i) (hol : ∀ j, j < nL → ∀ x, x < 900 → zi t 127 (178 + 900 * j + x) = zi σ 127 (178 + 900 * j + x))
    (hl : l.length ≤ 12) (hc : c1 ≤ 400) {Rn op ar : Nat → Int32} (hrow : RRows RRowL Rn op ar 0 0 c1 l) (d1 : zi t 127 (178 + 900 * nL + 1) = iN l.length) (d2 : ∀ x, x < 8 * l.length → zi t 127 (178 + 900 * nL + 2 + x) = Rn x) (d3 : ∀ k, k < c1 → opL (zi t 127) nL k = op k ∧ arL (zi t 127) nL k = ar k)
    (h98 : zi t 98 1 = 0) (h13 : zi t 125 13 = 0) (hf : zi t 0 15 = zi t 125 18) (h52 : zi t 0 17 = zi t 125 52) (h20 : zi t 125 20 = 0) (hRf : Rf t) : Rel t := by
  have z := h.1.1
  obtain ⟨q1, q2, q3, q4⟩ := hC
  have hB : ∀ j, j < nL → up B nL (bkOf l) j = B j := fun j hj => up_ne (by omega)
  have hBn : up B nL (bkOf l) nL = bkOf l := up_eq
  have hk : ∀ (c : Nat) (cl : Cl), l[c]? = some cl → 300 ≤ cl.1 ∧ cl.1 ≤ 302 := fun c cl g => by
    obtain ⟨a, b, -, -, -, y1, y2, -⟩ := hrow.get l 0 0 c1 c cl g
    exact ⟨y1, y2⟩
  have ts : zk t (zn σ) = 7 ∧ zn σ < zn t := ⟨by obtain ⟨a, r, sc1, t1, t2, t3, -⟩ := hT; exact t3, by obtain ⟨a, r, sc1, t1, t2, -⟩ := hT; exact t2⟩
  have hW : WF nP nF nB nT nS (nL + 1) 999 (zi t 127) := by
    obtain ⟨w1, w2, w3, w4⟩ := q1.mL hn
    have e : ∀ i, i < 178 → zi t 127 i = up (zi σ 127) 5 (iN (nL + 1)) i := fun i hi => by
      by_cases c : i = 5
      · subst c
        rw [up_eq, h5]
      · rw [up_ne c, hlo i hi c]
    refine ⟨w1, ?_, ?_, fun i h1 h2 => ?_⟩
    · rw [e 0 (by decide), e 1 (by decide), e 2 (by decide), e 3 (by decide), e 4 (by decide), e 5 (by decide)]
      exact w2
    · rw [e 6 (by decide)]
      exact w3
    · rw [e i h2]
      exact w4 i h1 h2
  refine ⟨restG h E h98 h13 hf h52 h20 hRf (fun j hj => ?_), nP, nF, nB, nT, nS, nL + 1, up B nL (bkOf l), n, ⟨hW, fun i hi => ?_, fun j hj => ?_, fun j hj => ?_⟩, unG E z hU⟩
  · rw [hz j]
    by_cases c : j = nL
    · rw [if_pos c]
      exact Or.inr ⟨zn σ, rfl, ts.1, ts.2⟩
    · rw [if_neg c]
      rcases h.2.2.2.2.2.2.2.2 1 (Or.inl rfl) j hj with q | ⟨u, q1, q2, q3⟩
      · exact Or.inl q
      · exact Or.inr ⟨u, q1, by rw [(E.2.1 u q3).1]; exact q2, Nat.lt_of_lt_of_le q3 E.1⟩
  · have lt := loc_lt i hi
    by_cases c : i = 5
    · subst c
      rw [h5]
      exact h17
    · rw [hlo i hi c, ← q2 i hi]
      by_cases c0 : (loc i).1 = 0
      · rw [c0]
        refine hc1 _ (fun z => c (loc_inj i hi 5 (by decide) ?_))
        rw [show loc 5 = (0, 17) from rfl]
        exact Prod.ext c0 z
      · exact (E.2.2.2 _ _ (by omega) (by unfold LSw LF; omega)).1
  · by_cases c : j = nL
    · subst c
      exact lr_new hl hc hn hrow hBn d1 d2 d3
    · exact ((q3 j (by omega)).loc (hol j (by omega))).bk (hB j (by omega))
  · by_cases c : j = nL
    · subst c
      exact ⟨zn σ, by show zr t 16 j = _; rw [hz j, if_pos rfl], lc_new hT hk hBn⟩
    · obtain ⟨u, u1, u2⟩ := q4 j (by omega)
      exact ⟨u, by show zr t 16 j = _; rw [hz j, if_neg c]; exact u1, (E.lc (fun a k q => q.lt) u2).bk (hB j (by omega))⟩
end V42
