/-! ===== shares, few ===== -/
section V29
variable {σ : Hp}
section SH
variable {nP nF nB nT nS nL H : Nat} {B : Book} {R : Nat → Int32}
def shI (f : Nat → Int32) (w m : Nat) : Int32 := foldN (fun k a => if w.testBit k = true then a + f k else a) m 0
theorem shI_s {f : Nat → Int32} {w m : Nat} : shI f w (m + 1) = if w.testBit m = true then shI f w m + f m else shI f w m := rfl
def shO (f : Nat → Int32) (w m : Nat) : Int32 := foldN (fun k a => if w.testBit k = true then a else a + f k) m 0
theorem shO_s {f : Nat → Int32} {w m : Nat} : shO f w (m + 1) = if w.testBit m = true then shO f w m else shO f w m + f m := rfl
theorem shI_0 {f : Nat → Int32} : ∀ m, shI f 0 m = 0
  | 0 => rfl
  | m + 1 => by
    rw [shI_s, Nat.zero_testBit, if_neg (by decide)]
    exact shI_0 m
theorem shO_n {f : Nat → Int32} {w : Nat} : ∀ m, (∀ k, k < m → bd (f k) 9) → ∃ n, n ≤ 9 * m ∧ shO f w m = iN n
  | 0, _ => ⟨0, Nat.le_refl 0, rfl⟩
  | m + 1, h => by
    obtain ⟨n, h1, h2⟩ := shO_n m (fun k hk => h k (by omega))
    rw [shO_s, h2]
    split
    · exact ⟨n, by omega, rfl⟩
    · obtain ⟨c, h3, h4⟩ := h m (by omega)
      rw [h4, iN_add]
      exact ⟨n + c, by omega, rfl⟩
/-- the lesser share of a part -/
def shP (R : Nat → Int32) (nT w : Nat) : Int32 := if shO (fun k => R (160 + k)) w nT < shI (fun k => R (154 + k)) w nT then shO (fun k => R (160 + k)) w nT else shI (fun k => R (154 + k)) w nT
theorem shP_0 (h : WF nP nF nB nT nS nL H R) : shP R nT 0 = 0 := by
  obtain ⟨n, h1, h2⟩ := shO_n (w := 0) (f := fun k => R (160 + k)) nT (fun k hk => h.bd9 (by omega) (by have := h.1.2.2.2.1; omega))
  have := h.1.2.2.2.1
  unfold shP
  rw [h2, shI_0, if_neg (iN_nn (by omega))]
def bsF (t : Nat → Int32) (m : Nat) : Int32 × Int32 := foldN (fun k q => if t (k + 1) ≤ q.2 then q else (iN (k + 1), t (k + 1))) m (0, t 0)
theorem bsF_s {t : Nat → Int32} {m : Nat} : bsF t (m + 1) = if t (m + 1) ≤ (bsF t m).2 then bsF t m else (iN (m + 1), t (m + 1)) := rfl
theorem lesser8 (m8 : M8 1 nP nF nB nT nS nL H B R σ) {w : Nat} (hw : w < 64) : s_X1_lesserShare 1 (iN w) σ = some (shP R nT w, σ) := by
  have hb := m8.2.2.2.1.1.2.2.2.1
  have c15 : zi σ 1 15 = iN nT := m8.2.2.1.g3.trans m8.2.2.2.1.2.1.2.2.2.1
  have i0 := h_i0 (k := 15) m8.2.1
  rw [c15] at i0
  have r6 := h_r0_6 m8.2.1
  have r7 := h_r0_7 m8.2.1
  obtain ⟨s9, g1, g2⟩ := loop_to (body := fun v => s_X1_lesserShare_b7 (v.1) (v.2.1) (v.2.2.1) (v.2.2.2.1) (v.2.2.2.2)) (fun _ t => t = σ) (fun t => t = σ) (fun k => (1, iN w, shI (fun k => R (154 + k)) w k, shO (fun k => R (160 + k)) w k, iN k)) (shI (fun k => R (154 + k)) w nT, shO (fun k => R (160 + k)) w nT) nT (fun k t hk ht => by
    subst ht
    have f1 : ¬ iN nT ≤ iN k := (fun h => absurd ((iN_le (by omega) (by omega)).mp h) (by omega))
    have f2 : ¬ (6 : Int32) ≤ iN k := fun q => absurd ((iN_le (a := 6) (by decide) (by omega)).mp q) (by omega)
    have k1 : iN k + 1 = iN (k + 1) := iN_add _ _
    have hb' : hbP (iN w) (iN k) = w.testBit k := hbP_iN (by omega) (by omega)
    have l10 := h_ld10 (n := k) (by omega) m8.2.1
    rw [m8.2.2.1.folks (by omega)] at l10
    have l11 := h_ld11 (n := k) (by omega) m8.2.1
    rw [m8.2.2.1.badgers (by omega)] at l11
    refine ⟨t, ?_, rfl⟩
    rw [shI_s, shO_s]
    cases c : w.testBit k with
    | false =>
      rw [c] at hb'
      rw [if_neg (by decide), if_neg (by decide)]
      simp only [s_X1_lesserShare_b7, s_X1_lesserShare_j55, i0, f1, f2, hb8, hb', bI_f, r7, l11, k1, z10', if_true, if_false, bind_ok, Option.bind_some, cb_some]
    | true =>
      rw [c] at hb'
      rw [if_pos rfl, if_pos rfl]
      simp only [s_X1_lesserShare_b7, s_X1_lesserShare_j55, i0, f1, f2, hb8, hb', bI_t, r6, l10, k1, z10', if_true, if_false, bind_ok, Option.bind_some, cb_some]) (fun t ht => by
    subst ht
    have f1 : iN nT ≤ iN nT := Int32.le_refl _
    exact ⟨t, by simp only [s_X1_lesserShare_b7, i0, f1, z10', if_true, if_false, bind_ok, Option.bind_some, cb_some], rfl⟩) (σ := σ) rfl
  subst g2
  have g1 : s_X1_lesserShare_l7 (1, iN w, 0, 0, 0) s9 = _ := g1
  simp only [s_X1_lesserShare, s_X1_lesserShare_j61, g1, cb_some]
  rfl
theorem le_or {a b : Int32} : (if a ≤ b then a else b) = if a < b then a else b := by
  by_cases c : a < b
  · rw [if_pos c, if_pos (Int32.le_of_lt c)]
  · rw [if_neg c]
    by_cases d : a ≤ b
    · rw [if_pos d]
      exact Int32.le_antisymm d (Int32.not_lt.mp c)
    · rw [if_neg d]
theorem in9 (h : M9 nP nF nB nT nS nL H B R σ) {p a b : Int32} {w : Nat} (hw : w < 64) :
    s_X9_shares_l46 (125, p, a, b, iN w, 0, 0, 0) σ = some ((125, p, a, b, iN w, shI (fun k => R (154 + k)) w nT, shO (fun k => R (160 + k)) w nT), σ) := by
  have hb := h.2.2.1.1.2.2.2.1
  have b3 := q_r125_3 h.1
  have l3 : ldI 11 σ 127 3 = some (iN nT) := (rw_3 h.1).trans (by rw [h.c3])
  obtain ⟨s9, g1, g2⟩ := loop_to (body := fun v => s_X9_shares_b46 (v.1) (v.2.1) (v.2.2.1) (v.2.2.2.1) (v.2.2.2.2.1) (v.2.2.2.2.2.1) (v.2.2.2.2.2.2.1) (v.2.2.2.2.2.2.2)) (fun _ t => t = σ) (fun t => t = σ) (fun k => (125, p, a, b, iN w, shI (fun k => R (154 + k)) w k, shO (fun k => R (160 + k)) w k, iN k)) (125, p, a, b, iN w, shI (fun k => R (154 + k)) w nT, shO (fun k => R (160 + k)) w nT) nT (fun k t hk ht => by
    subst ht
    have f1 : ¬ iN nT ≤ iN k := (fun h => absurd ((iN_le (by omega) (by omega)).mp h) (by omega))
    have k1 : iN k + 1 = iN (k + 1) := iN_add _ _
    have hb' : hbP (iN w) (iN k) = w.testBit k := hbP_iN (by omega) (by omega)
    have la := h.ld154 (n := k) (by omega)
    have lb := h.ld160 (n := k) (by omega)
    refine ⟨t, ?_, rfl⟩
    rw [shI_s, shO_s]
    cases c : w.testBit k with
    | false =>
      rw [c] at hb'
      rw [if_neg (by decide), if_neg (by decide)]
      simp only [s_X9_shares_b46, s_X9_shares_j84, s_X9_shares_j114, b3, l3, f1, hb9, hb', bI_f, lb, k1, Int32.add_zero, z10', if_true, if_false, bind_ok, Option.bind_some, cb_some]
    | true =>
      rw [c] at hb'
      rw [if_pos rfl, if_pos rfl]
      simp only [s_X9_shares_b46, s_X9_shares_j84, s_X9_shares_j114, b3, l3, f1, hb9, hb', bI_t, la, k1, Int32.add_zero, z10', if_true, if_false, bind_ok, Option.bind_some, cb_some]) (fun t ht => by
    subst ht
    have f1 : iN nT ≤ iN nT := Int32.le_refl _
    exact ⟨t, by simp only [s_X9_shares_b46, b3, l3, f1, z10', if_true, if_false, bind_ok, Option.bind_some, cb_some], rfl⟩) (σ := σ) rfl
  subst g2
  exact g1
def bsM (t : Nat → Int32) (p : Int32) : Nat → Nat × Int32 × Int32 × Int32 × Int32
  | 0 => (125, p, -1, 0, 0)
  | m + 1 => (125, p, (bsF t m).2, (bsF t m).1, iN (m + 1))
theorem pow6 {n : Nat} (h : n ≤ 6) : ∃ N, N < 64 ∧ 2 ^ n = N + 1 := by
  have hq : n = 0 ∨ n = 1 ∨ n = 2 ∨ n = 3 ∨ n = 4 ∨ n = 5 ∨ n = 6 := by omega
  rcases hq with rfl | rfl | rfl | rfl | rfl | rfl | rfl
  · exact ⟨0, by decide, rfl⟩
  · exact ⟨1, by decide, rfl⟩
  · exact ⟨3, by decide, rfl⟩
  · exact ⟨7, by decide, rfl⟩
  · exact ⟨15, by decide, rfl⟩
  · exact ⟨31, by decide, rfl⟩
  · exact ⟨63, by decide, rfl⟩
theorem shares9 (h : M9 nP nF nB nT nS nL H B R σ) {p : Int32} {N : Nat} (hN : N < 64) (e : 2 ^ nT = N + 1) :
    s_X9_shares_l24 (125, p, -1, 0, 0) σ = some ((p, (bsF (shP R nT) N).2, (bsF (shP R nT) N).1), σ) := by
  have hb := h.2.2.1.1.2.2.2.1
  have b3 := q_r125_3 h.1
  have l3 : ldI 11 σ 127 3 = some (iN nT) := (rw_3 h.1).trans (by rw [h.c3])
  have sh := shl1 nT (by omega)
  rw [e] at sh
  obtain ⟨s9, g1, g2⟩ := loop_to (body := fun v => s_X9_shares_b24 (v.1) (v.2.1) (v.2.2.1) (v.2.2.2.1) (v.2.2.2.2)) (fun _ t => t = σ) (fun t => t = σ) (bsM (shP R nT) p) (p, (bsF (shP R nT) N).2, (bsF (shP R nT) N).1) (N + 1) (fun i t hi ht => by
    subst ht
    have f1 : ¬ iN (N + 1) ≤ iN i := (fun h => absurd ((iN_le (by omega) (by omega)).mp h) (by omega))
    have i1 : iN i + 1 = iN (i + 1) := iN_add _ _
    refine ⟨t, ?_, rfl⟩
    have sp : (if shO (fun k => R (160 + k)) i nT ≤ shI (fun k => R (154 + k)) i nT then shO (fun k => R (160 + k)) i nT else shI (fun k => R (154 + k)) i nT) = shP R nT i := le_or
    cases i with
    | zero =>
      have gi := in9 h (p := p) (a := -1) (b := 0) (w := 0) (by omega)
      have gi : s_X9_shares_l46 (125, p, -1, 0, 0, 0, 0, 0) t = _ := gi
      have f1 : ¬ iN (N + 1) ≤ 0 := f1
      have d1 : ¬ shP R nT 0 ≤ -1 := by
        rw [shP_0 h.2.2.1]
        decide
      generalize shO (fun k => R (160 + k)) 0 nT = O at gi sp
      generalize shI (fun k => R (154 + k)) 0 nT = I at gi sp
      by_cases c : O ≤ I
      · rw [if_pos c] at sp; subst sp
        simp only [bsM, s_X9_shares_b24, s_X9_shares_j137, s_X9_shares_j151, s_X9_shares_j164, b3, l3, sh, f1, gi, c, d1, z10', if_true, if_false, bind_ok, Option.bind_some, cb_some]
        rfl
      · rw [if_neg c] at sp; subst sp
        simp only [bsM, s_X9_shares_b24, s_X9_shares_j137, s_X9_shares_j151, s_X9_shares_j164, b3, l3, sh, f1, gi, c, d1, z10', if_true, if_false, bind_ok, Option.bind_some, cb_some]
        rfl
    | succ m =>
      have gi := in9 h (p := p) (a := (bsF (shP R nT) m).2) (b := (bsF (shP R nT) m).1) (w := m + 1) (by omega)
      simp only [bsM]
      rw [bsF_s]
      generalize shO (fun k => R (160 + k)) (m + 1) nT = O at gi sp
      generalize shI (fun k => R (154 + k)) (m + 1) nT = I at gi sp
      by_cases c : O ≤ I
      · rw [if_pos c] at sp; subst sp
        by_cases d : shP R nT (m + 1) ≤ (bsF (shP R nT) m).2
        · rw [if_pos d]
          simp only [s_X9_shares_b24, s_X9_shares_j137, s_X9_shares_j151, s_X9_shares_j164, b3, l3, sh, f1, gi, c, d, i1, z10', if_true, if_false, bind_ok, Option.bind_some, cb_some]
        · rw [if_neg d]
          simp only [s_X9_shares_b24, s_X9_shares_j137, s_X9_shares_j151, s_X9_shares_j164, b3, l3, sh, f1, gi, c, d, i1, z10', if_true, if_false, bind_ok, Option.bind_some, cb_some]
      · rw [if_neg c] at sp; subst sp
        by_cases d : shP R nT (m + 1) ≤ (bsF (shP R nT) m).2
        · rw [if_pos d]
          simp only [s_X9_shares_b24, s_X9_shares_j137, s_X9_shares_j151, s_X9_shares_j164, b3, l3, sh, f1, gi, c, d, i1, z10', if_true, if_false, bind_ok, Option.bind_some, cb_some]
        · rw [if_neg d]
          simp only [s_X9_shares_b24, s_X9_shares_j137, s_X9_shares_j151, s_X9_shares_j164, b3, l3, sh, f1, gi, c, d, i1, z10', if_true, if_false, bind_ok, Option.bind_some, cb_some]) (fun t ht => by
    subst ht
    have f1 : iN (N + 1) ≤ iN (N + 1) := Int32.le_refl _
    refine ⟨t, ?_, rfl⟩
    simp only [bsM, s_X9_shares_b24, b3, l3, sh, f1, z10', if_true, if_false, bind_ok, Option.bind_some, cb_some]) (σ := σ) rfl
  subst g2
  exact g1
theorem shares8 (m8 : M8 1 nP nF nB nT nS nL H B R σ) (hS : SK σ) {p : Int32} {N : Nat} (hN : N < 64) (e : 2 ^ nT = N + 1) :
    s_X8_shares_l25 (0, p, 0, shP R nT 0, 1) σ = some ((p, (bsF (shP R nT) N).1, (bsF (shP R nT) N).2), σ) := by
  have hb := m8.2.2.2.1.1.2.2.2.1
  have c15 : zi σ 1 15 = iN nT := m8.2.2.1.g3.trans m8.2.2.2.1.2.1.2.2.2.1
  have i0 := h_i0 (k := 15) m8.2.1
  rw [c15] at i0
  have sh := shl1 nT (by omega)
  rw [e] at sh
  have r0 := q_r0_0 hS
  have k0 := h_ck0 m8.2.1
  obtain ⟨s9, g1, g2⟩ := loop_to (body := fun v => s_X8_shares_b25 (v.1) (v.2.1) (v.2.2.1) (v.2.2.2.1) (v.2.2.2.2)) (fun _ t => t = σ) (fun t => t = σ) (fun m => (0, p, (bsF (shP R nT) m).1, (bsF (shP R nT) m).2, iN (m + 1))) (p, (bsF (shP R nT) N).1, (bsF (shP R nT) N).2) N (fun m t hm ht => by
    subst ht
    have f1 : ¬ iN (N + 1) ≤ iN (m + 1) := (fun h => absurd ((iN_le (by omega) (by omega)).mp h) (by omega))
    have i1 : iN (m + 1) + 1 = iN (m + 1 + 1) := iN_add _ _
    have ls := lesser8 m8 (w := m + 1) (by omega)
    refine ⟨t, ?_, rfl⟩
    rw [bsF_s]
    by_cases d : shP R nT (m + 1) ≤ (bsF (shP R nT) m).2
    · rw [if_pos d]
      simp only [s_X8_shares_b25, s_X8_shares_j62, r0, k0, i0, sh, f1, ls, d, i1, z10', if_true, if_false, bind_ok, Option.bind_some, cb_some]
    · rw [if_neg d]
      simp only [s_X8_shares_b25, s_X8_shares_j62, r0, k0, i0, sh, f1, ls, d, i1, z10', if_true, if_false, bind_ok, Option.bind_some, cb_some]) (fun t ht => by
    subst ht
    have f1 : iN (N + 1) ≤ iN (N + 1) := Int32.le_refl _
    exact ⟨t, by simp only [s_X8_shares_b25, r0, i0, sh, f1, z10', if_true, if_false, bind_ok, Option.bind_some, cb_some], rfl⟩) (σ := σ) rfl
  subst g2
  exact g1
end SH
theorem b_shares {p : Int32} (hr : Rel σ) : Both (s_X8_shares 0 p) (s_X9_shares 125 p) σ := by
  have hS := hr.1.1
  refine hr.both (fun nP nF nB nT nS nL B m8 m9 => ?_)
  have hT := m8.2.2.2.1.1.2.2.2.1
  have r0 := q_r0_0 hS
  have k0 := h_ck0 m8.2.1
  obtain ⟨N, hN, e⟩ := pow6 hT
  have ls := lesser8 m8 (w := 0) (by decide)
  have ls : s_X1_lesserShare 1 0 σ = _ := ls
  have s8 := shares8 m8 hS (p := p) hN e
  by_cases c01 : p = 0 ∨ p = 1
  · have i9 : ∀ t : Hp, s_X9_in (Int32.toInt64 p) 0 1 t = some (1, t) := fun t => by
      rcases c01 with rfl | rfl
      · exact in01_0
      · exact in01_1
    have p0 : ¬ p < 0 := by rcases c01 with rfl | rfl <;> decide
    have p1 : p ≤ 1 := by rcases c01 with rfl | rfl <;> decide
    rcases c01 with rfl | rfl
    · refine ⟨(bsF (shP (zi σ 127) nT) N).2, ⟨σ, ?_, Ag.refl⟩, fun σ1 q => ⟨_, ?_, q.thrown.1⟩⟩
      · simp only [s_X8_shares, p0, p1, r0, k0, ls, s8, z10', if_true, if_false, bind_ok, Option.bind_some, cb_some]
      · have w := q_w125 (k := 0) (v := 0) q.1; have q2 := q.thrown.2; have bk := q_ck125 q2.1; have b3 := q_r125_3 q2.1
        have s9 := shares9 q2 (p := 0) hN e
        simp only [s_X9_shares, w, i9, s9, z10', if_true, if_false, bind_ok, Option.bind_some, cb_some]
    · refine ⟨(bsF (shP (zi σ 127) nT) N).1, ⟨σ, ?_, Ag.refl⟩, fun σ1 q => ⟨_, ?_, q.thrown.1⟩⟩
      · simp only [s_X8_shares, p0, p1, r0, k0, ls, s8, z10', if_true, if_false, bind_ok, Option.bind_some, cb_some]
      · have w := q_w125 (k := 0) (v := 0) q.1; have q2 := q.thrown.2; have bk := q_ck125 q2.1; have b3 := q_r125_3 q2.1
        have s9 := shares9 q2 (p := 1) hN e
        simp only [s_X9_shares, w, i9, s9, z10', if_true, if_false, bind_ok, Option.bind_some, cb_some]
  · have c0 : ¬ p = 0 := fun e => c01 (Or.inl e)
    have c1 : ¬ p = 1 := fun e => c01 (Or.inr e)
    refine ⟨-1, ⟨σ, ?_, Ag.refl⟩, fun σ1 q => ⟨_, ?_, q.thrown.1⟩⟩
    · by_cases n0 : p < 0
      · simp only [s_X8_shares, n0, z10', if_true, if_false, bind_ok, Option.bind_some, cb_some]
      · have n1 : ¬ p ≤ 1 := fun e => by
          rcases no2_of c0 c1 with e2 | e2
          · exact n0 e2
          · exact absurd (Int32.le_trans e2 e) (by decide)
        simp only [s_X8_shares, n0, n1, z10', if_true, if_false, bind_ok, Option.bind_some, cb_some]
    · have w := q_w125 (k := 0) (v := 0) q.1; have q2 := q.thrown.2; have bk := q_ck125 q2.1; have b3 := q_r125_3 q2.1
      have i9 := no2_in (σ := zsi σ1 125 0 0) c0 c1
      simp only [s_X9_shares, w, i9, z10', if_true, if_false, bind_ok, Option.bind_some, cb_some]
end V29
