/-! ===== shares, few ===== -/
section V29
variable {σ : Hp}
section SH
variable {nP nF nB nT nS nL H : Nat} {B : Book} {R : Nat → Int32}
def shI (f : Nat → Int32) (w m : Nat) : Int32 := foldN (fun k a => if w.testBit k = true then a + f k else a) m 0
theorem shI_s {f : Nat → Int32} {w m : Nat} : shI f w (m + 1) = if w.testBit m = true then shI f w m + f m else shI f w m := rfl
def shO (f : Nat → Int32) (w m : Nat) : Int32 := foldN (fun k a => if w.testBit k = true then a else a + f k) m 0
theorem shO_s {f : Nat → Int32} {w m : Nat} : shO f w (m + 1) = if w.testBit m = true then shO f w m else shO f w m + f m := rfl
theorem shI_0 {f : Nat → Int32} : ∀ m, shI f 0 m = 0
  | 0 => rfl
  | m + 1 => by
    rw [shI_s, Nat.zero_testBit, if_neg (by decide)]
    exact shI_0 m
theorem shO_n {f : Nat → Int32} {w : Nat} : ∀ m, (∀ k, k < m → bd (f k) 9) → ∃ n, n ≤ 9 * m ∧ shO f w m = iN n
  | 0, _ => ⟨0, Nat.le_refl 0, rfl⟩
  | m + 1, h => by
    obtain ⟨n, h1, h2⟩ := shO_n m (fun k hk => h k (by omega))
    rw [shO_s, h2]
    split
    · exact ⟨n, by omega, rfl⟩
    · obtain ⟨c, h3, h4⟩ := h m (by omega)
      rw [h4, iN_add]
      exact ⟨n + c, by omega, rfl⟩
/-- the lesser share of a part -/
def shP (R : Nat → Int32) (nT w : Nat) : Int32 := if shO (fun k => R (160 + k)) w nT < shI (fun k => R (154 + k)) w nT then shO (fun k => R (160 + k)) w nT else shI (fun k => R (154 + k)) w nT
theorem shP_0 (h : WF nP nF nB nT nS nL H R) : shP R nT 0 = 0 := by
  obtain ⟨n, h1, h2⟩ := shO_n (w := 0) (f := fun k => R (160 + k)) nT (fun k hk => h.bd9 (by omega) (by have := h.1.2.2.2.1; omega))
  have := h.1.2.2.2.1
  unfold shP
  rw [h2, shI_0, if_neg (iN_nn (by omega))]
def bsF (t : Nat → Int32) (m : Nat) : Int32 × Int32 := foldN (fun k q => if t (k + 1) ≤ q.2 then q else (iN (k + 1), t (k + 1))) m (0, t 0)
theorem bsF_s {t : Nat → Int32} {m : Nat} : bsF t (m + 1) = if t (m + 1) ≤ (bsF t m).2 then bsF t m else (iN (m + 1), t (m + 1)) := rfl
theorem lesser8 (m8 : M8 1 nP nF nB nT nS nL H B R σ) {w : Nat} (hw : w < 64) : s_X1_lesserShare 1 (iN w) σ = some (shP R nT w, σ) := by
  have hb := m8.2.2.2.1.1.2.2.2.1
  have c15 : zi σ 1 15 = iN nT := m8.2.2.1.g3.trans m8.2.2.2.1.2.1.2.2.2.1
  have i0 := h_i0 (k := 15) m8.2.1
  rw [c15] at i0
  have r6 := h_r0_6 m8.2.1
  have r7 := h_r0_7 m8.2.1
  obtain ⟨s9, g1, g2⟩ := loop_to (body := fun v => s_X1_lesserShare_b7 (v.1) (v.2.1) (v.2.2.1) (v.2.2.2.1) (v.2.2.2.2)) (fun _ t => t = σ) (fun t => t = σ) (fun k => (1, iN w, shI (fun k => R (154 + k)) w k, shO (fun k => R (160 + k)) w k, iN k)) (shI (fun k => R (154 + k)) w nT, shO (fun k => R (160 + k)) w nT) nT (fun k t hk ht => by
    subst ht
    have f1 : ¬ iN nT ≤ iN k := (fun h => absurd ((iN_le (by omega) (by omega)).mp h) (by omega))
    have f2 : ¬ (6 : Int32) ≤ iN k := fun q => absurd ((iN_le (a := 6) (by decide) (by omega)).mp q) (by omega)
    have k1 : iN k + 1 = iN (k + 1) := iN_add _ _
    have hb' : hbP (iN w) (iN k) = w.testBit k := hbP_iN (by omega) (by omega)
    have l10 := h_ld10 (n := k) (by omega) m8.2.1
    rw [m8.2.2.1.folks (by omega)] at l10
    have l11 := h_ld11 (n := k) (by omega) m8.2.1
    rw [m8.2.2.1.badgers (by omega)] at l11
    refine ⟨t, ?_, rfl⟩
    rw [shI_s, shO_s]
    cases c : w.testBit k with
    | false =>
      rw [c] at hb'
      rw [if_neg (by decide), if_neg (by decide)]
      simp only [s_X1_lesserShare_b7, s_X1_lesserShare_j55, i0, f1, f2, hb8, hb', bI_f, r7, l11, k1, z10', if_true, if_false, bind_ok, Option.bind_some, cb_some]
    | true =>
      rw [c] at hb'
      rw [if_pos rfl, if_pos rfl]
      simp only [s_X1_lesserShare_b7, s_X1_lesserShare_j55, i0, f1, f2, hb8, hb', bI_t, r6, l10, k1, z10', if_true, if_false, bind_ok, Option.bind_some, cb_some]) (fun t ht => by
    subst ht
    have f1 : iN nT ≤ iN nT := Int32.le_refl _
    exact ⟨t, by simp only [s_X1_lesserShare_b7, i0, f1, z10', if_true, if_false, bind_ok, Option.bind_some, cb_some], rfl⟩) (σ := σ) rfl
  subst g2
  have g1 : s_X1_lesserShare_l7 (1, iN w, 0, 0, 0) s9 = _ := g1
  simp only [s_X1_lesserShare, s_X1_lesserShare_j61, g1, cb_some]
  rfl
theorem le_or {a b : Int32} : (if a ≤ b then a else b) = if a < b then a else b := by
  by_cases c : a < b
  · rw [if_pos c, if_pos (Int32.le_of_lt c)]
  · rw [if_neg c]
    by_cases d : a ≤ b
    · rw [if_pos d]
      exact Int32.le_antisymm d (Int32.not_lt.mp c)
    · rw [if_neg d]
theorem in9 (h : M9 nP nF nB nT nS nL H B R σ) {p a b : Int32} {w : Nat} (hw : w < 64) :
    s_X9_shares_l46 (125, p, a, b, iN w, 0, 0, 0) σ = some ((125, p, a, b, iN w, shI (fun k => R (154 + k)) w nT, shO (fun k => R (160 + k)) w nT), σ) := by
  have hb := h.2.2.1.1.2.2.2.1
  have b3 := q_r125_3 h.1
  have l3 : ldI 11 σ 127 3 = some (iN nT) := (rw_3 h.1).trans (by rw [h.c3])
  obtain ⟨s9, g1, g2⟩ := loop_to (body := fun v => s_X9_shares_b46 (v.1) (v.2.1) (v.2.2.1) (v.2.2.2.1) (v.2.2.2.2.1) (v.2.2.2.2.2.1) (v.2.2.2.2.2.2.1) (v.2.2.2.2.2.2.2)) (fun _ t => t = σ) (fun t => t = σ) (fun k => (125, p, a, b, iN w, shI (fun k => R (154 + k)) w k, shO (fun k => R (160 + k)) w k, iN k)) (125, p, a, b, iN w, shI (fun k => R (154 + k)) w nT, shO (fun k => R (160 + k)) w nT) nT (fun k t hk ht => by
    subst ht
    have f1 : ¬ iN nT ≤ iN k := (fun h => absurd ((iN_le (by omega) (by omega)).mp h) (by omega))
    have k1 : iN k + 1 = iN (k + 1) := iN_add _ _
    have hb' : hbP (iN w) (iN k) = w.testBit k := hbP_iN (by omega) (by omega)
    have la := h.ld154 (n := k) (by omega)
    have lb := h.ld160 (n := k) (by omega)
    refine ⟨t, ?_, rfl⟩
    rw [shI_s, shO_s]
    cases c : w.testBit k with
    | false =>
      rw [c] at hb'
      rw [if_neg (by decide), if_neg (by decide)]
      simp only [s_X9_shares_b46, s_X9_shares_j84, s_X9_shares_j114, b3, l3, f1, hb9, hb', bI_f, lb, k1, Int32.add_zero, z10', if_true, if_false, bind_ok, Option.bind_some, cb_some]
    | true =>
      rw [c] at hb'
      rw [if_pos rfl, if_pos rfl]
      simp only [s_X9_shares_b46, s_X9_shares_j84, s_X9_shares_j114, b3, l3, f1, hb9, hb', bI_t, la, k1, Int32.add_zero, z10', if_true, if_false, bind_ok, Option.bind_some, cb_some]) (fun t ht => by
    subst ht
    have f1 : iN nT ≤ iN nT := Int32.le_refl _
    exact ⟨t, by simp only [s_X9_shares_b46, b3, l3, f1, z10', if_true, if_false, bind_ok, Option.bind_some, cb_some], rfl⟩) (σ := σ) rfl
  subst g2
  exact g1
def bsM (t : Nat → Int32) (p : Int32) : Nat → Nat × Int32 × Int32 × Int32 × Int32
  | 0 => (125, p, -1, 0, 0)
  | m + 1 => (125, p, (bsF t m).2, (bsF t m).1, iN (m + 1))
theorem pow6 {n : Nat} (h : n ≤ 6) : ∃ N, N < 64 ∧ 2 ^ n = N + 1 := by
  have hq : n = 0 ∨ n = 1 ∨ n = 2 ∨ n = 3 ∨ n = 4 ∨ n = 5 ∨ n = 6 := by omega
  rcases hq with rfl | rfl | rfl | rfl | rfl | rfl | rfl
  · exact ⟨0, by decide, rfl⟩
  · exact ⟨1, by decide, rfl⟩
  · exact ⟨3, by decide, rfl⟩
  · exact ⟨7, by decide, rfl⟩
  · exact ⟨15, by decide, rfl⟩
  · exact ⟨31, by decide, rfl⟩
  · exact ⟨63, by decide, rfl⟩
theorem shares9 (h : M9 nP nF nB nT nS nL H B R σ) {p : Int32} {N : Nat} (hN : N < 64) (e : 2 ^ nT = N + 1) :
    s_X9_shares_l24 (125, p, -1, 0, 0) σ = some ((p, (bsF (shP R nT) N).2, (bsF (shP R nT) N).1), σ) := by
  have hb := h.2.2.1.1.2.2.2.1
  have b3 := q_r125_3 h.1
  have l3 : ldI 11 σ 127 3 = some (iN nT) := (rw_3 h.1).trans (by rw [h.c3])
  have sh := shl1 nT (by omega)
  rw [e] at sh
  obtain ⟨s9, g1, g2⟩ := loop_to (body := fun v => s_X9_shares_b24 (v.1) (v.2.1) (v.2.2.1) (v.2.2.2.1) (v.2.2.2.2)) (fun _ t => t = σ) (fun t => t = σ) (bsM (shP R nT) p) (p, (bsF (shP R nT) N).2, (bsF (shP R nT) N).1) (N + 1) (fun i t hi ht => by
    subst ht
    have f1 : ¬ iN (N + 1) ≤ iN i := (fun h => absurd ((iN_le (by omega) (by omega)).mp h) (by omega))
    have i1 : iN i + 1 = iN (i + 1) := iN_add _ _
    refine ⟨t, ?_, rfl⟩
    have sp : (if shO (fun k => R (160 + k)) i nT ≤ shI (fun k => R (154 + k)) i nT then shO (fun k => R (160 + k)) i nT else shI (fun k => R (154 + k)) i nT) = shP R nT i := le_or
    cases i with
    | zero =>
      have gi := in9 h (p := p) (a := -1) (b := 0) (w := 0) (by omega)
      have gi : s_X9_shares_l46 (125, p, -1, 0, 0, 0, 0, 0) t = _ := gi
      have f1 : ¬ iN (N + 1) ≤ 0 := f1
      have d1 : ¬ shP R nT 0 ≤ -1 := by
        rw [shP_0 h.2.2.1]
        decide
      generalize shO (fun k => R (160 + k)) 0 nT = O at gi sp
      generalize shI (fun k => R (154 + k)) 0 nT = I at gi sp
      by_cases c : O ≤ I
      · rw [if_pos c] at sp; subst sp
        simp only [bsM, s_X9_shares_b24, s_X9_shares_j137, s_X9_shares_j151, s_X9_shares_j164, b3, l3, sh, f1, gi, c, d1, z10', if_true, if_false, bind_ok, Option.bind_some, cb_some]
        rfl
      · rw [if_neg c] at sp; subst sp
        simp only [bsM, s_X9_shares_b24, s_X9_shares_j137, s_X9_shares_j151, s_X9_shares_j164, b3, l3, sh, f1, gi, c, d1, z10', if_true, if_false, bind_ok, Option.bind_some, cb_some]
        rfl
    | succ m =>
      have gi := in9 h (p := p) (a := (bsF (shP R nT) m).2) (b := (bsF (shP R nT) m).1) (w := m + 1) (by omega)
      simp only [bsM]
      rw [bsF_s]
      generalize shO (fun k => R (160 + k)) (m + 1) nT = O at gi sp
      generalize shI (fun k => R (154 + k)) (m + 1) nT = I at gi sp
      by_cases c : O ≤ I
      · rw [if_pos c] at sp; subst sp
        by_cases d : shP R nT (m + 1) ≤ (bsF (shP R nT) m).2
        · rw [if_pos d]
          simp only [s_X9_shares_b24, s_X9_shares_j137, s_X9_shares_j151, s_X9_shares_j164, b3, l3, sh, f1, gi, c, d, i1, z10', if_true, if_false, bind_ok, Option.bind_some, cb_some]
        · rw [if_neg d]
          simp only [s_X9_shares_b24, s_X9_shares_j137, s_X9_shares_j151, s_X9_shares_j164, b3, l3, sh, f1, gi, c, d, i1, z10', if_true, if_false, bind_ok, Option.bind_some, cb_some]
      · rw [if_neg c] at sp; subst sp
        by_cases d : shP R nT (m + 1) ≤ (bsF (shP R nT) m).2
        · rw [if_pos d]
          simp only [s_X9_shares_b24, s_X9_shares_j137, s_X9_shares_j151, s_X9_shares_j164, b3, l3, sh, f1, gi, c, d, i1, z10', if_true, if_false, bind_ok, Option.bind_some, cb_some]
        · rw [if_neg d]
          simp only [s_X9_shares_b24, s_X9_shares_j137, s_X9_shares_j151, s_X9_shares_j164, b3, l3, sh, f1, gi, c, d, i1, z10', if_true, if_false, bind_ok, Option.bind_some, cb_some]) (fun t ht => by
    subst ht
    have f1 : iN (N + 1) ≤ iN (N + 1) := Int32.le_refl _
    refine ⟨t, ?_, rfl⟩
    simp only [bsM, s_X9_shares_b24, b3, l3, sh, f1, z10', if_true, if_false, bind_ok, Option.bind_some, cb_some]) (σ := σ) rfl
  subst g2
  exact g1
theorem shares8 (m8 : M8 1 nP nF nB nT nS nL H B R σ) (hS : SK σ) {p : Int32} {N : Nat} (hN : N < 64) (e : 2 ^ nT = N + 1) :
    s_X8_shares_l25 (0, p, 0, shP R nT 0, 1) σ = some ((p, (bsF (shP R nT) N).1, (bsF (shP R nT) N).2), σ) := by
  have hb := m8.2.2.2.1.1.2.2.2.1
  have c15 : zi σ 1 15 = iN nT := m8.2.2.1.g3.trans m8.2.2.2.1.2.1.2.2.2.1
  have i0 := h_i0 (k := 15) m8.2.1
  rw [c15] at i0
  have sh := shl1 nT (by omega)
  rw [e] at sh
  have r0 := q_r0_0 hS
  have k0 := h_ck0 m8.2.1
  obtain ⟨s9, g1, g2⟩ := loop_to (body := fun v => s_X8_shares_b25 (v.1) (v.2.1) (v.2.2.1) (v.2.2.2.1) (v.2.2.2.2)) (fun _ t => t = σ) (fun t => t = σ) (fun m => (0, p, (bsF (shP R nT) m).1, (bsF (shP R nT) m).2, iN (m + 1))) (p, (bsF (shP R nT) N).1, (bsF (shP R nT) N).2) N (fun m t hm ht => by
    subst ht
    have f1 : ¬ iN (N + 1) ≤ iN (m + 1) := (fun h => absurd ((iN_le (by omega) (by omega)).mp h) (by omega))
    have i1 : iN (m + 1) + 1 = iN (m + 1 + 1) := iN_add _ _
    have ls := lesser8 m8 (w := m + 1) (by omega)
    refine ⟨t, ?_, rfl⟩
    rw [bsF_s]
    by_cases d : shP R nT (m + 1) ≤ (bsF (shP R nT) m).2
    · rw [if_pos d]
      simp only [s_X8_shares_b25, s_X8_shares_j62, r0, k0, i0, sh, f1, ls, d, i1, z10', if_true, if_false, bind_ok, Option.bind_some, cb_some]
    · rw [if_neg d]
      simp only [s_X8_shares_b25, s_X8_shares_j62, r0, k0, i0, sh, f1, ls, d, i1, z10', if_true, if_false, bind_ok, Option.bind_some, cb_some]) (fun t ht => by
    subst ht
    have f1 : iN (N + 1) ≤ iN (N + 1) := Int32.le_refl _
    exact ⟨t, by simp only [s_X8_shares_b25, r0, i0, sh, f1, z10', if_true, if_false, bind_ok, Option.bind_some, cb_some], rfl⟩) (σ := σ) rfl
  subst g2
  exact g1
end SH
theorem b_shares {p : Int32} (hr : Rel σ) : Both (s_X8_shares 0 p) (s_X9_shares 125 p) σ := by
  have hS := hr.1.1
  refine hr.both (fun nP nF nB nT nS nL B m8 m9 => ?_)
  have hT := m8.2.2.2.1.1.2.2.2.1
  have r0 := q_r0_0 hS
  have k0 := h_ck0 m8.2.1
  obtain ⟨N, hN, e⟩ := pow6 hT
  have ls := lesser8 m8 (w := 0) (by decide)
  have ls : s_X1_lesserShare 1 0 σ = _ := ls
  have s8 := shares8 m8 hS (p := p) hN e
  by_cases c01 : p = 0 ∨ p = 1
  · have i9 : ∀ t : Hp, s_X9_in (Int32.toInt64 p) 0 1 t = some (1, t) := fun t => by
      rcases c01 with rfl | rfl
      · exact in01_0
      · exact in01_1
    have p0 : ¬ p < 0 := by rcases c01 with rfl | rfl <;> decide
    have p1 : p ≤ 1 := by rcases c01 with rfl | rfl <;> decide
    rcases c01 with rfl | rfl
    · refine ⟨(bsF (shP (zi σ 127) nT) N).2, ⟨σ, ?_, Ag.refl⟩, fun σ1 q => ⟨_, ?_, q.thrown.1⟩⟩
      · simp only [s_X8_shares, p0, p1, r0, k0, ls, s8, z10', if_true, if_false, bind_ok, Option.bind_some, cb_some]
      · have w := q_w125 (k := 0) (v := 0) q.1; have q2 := q.thrown.2; have bk := q_ck125 q2.1; have b3 := q_r125_3 q2.1
        have s9 := shares9 q2 (p := 0) hN e
        simp only [s_X9_shares, w, i9, s9, z10', if_true, if_false, bind_ok, Option.bind_some, cb_some]
    · refine ⟨(bsF (shP (zi σ 127) nT) N).1, ⟨σ, ?_, Ag.refl⟩, fun σ1 q => ⟨_, ?_, q.thrown.1⟩⟩
      · simp only [s_X8_shares, p0, p1, r0, k0, ls, s8, z10', if_true, if_false, bind_ok, Option.bind_some, cb_some]
      · have w := q_w125 (k := 0) (v := 0) q.1; have q2 := q.thrown.2; have bk := q_ck125 q2.1; have b3 := q_r125_3 q2.1
        have s9 := shares9 q2 (p := 1) hN e
        simp only [s_X9_shares, w, i9, s9, z10', if_true, if_false, bind_ok, Option.bind_some, cb_some]
  · have c0 : ¬ p = 0 := fun e => c01 (Or.inl e)
    have c1 : ¬ p = 1 := fun e => c01 (Or.inr e)
    refine ⟨-1, ⟨σ, ?_, Ag.refl⟩, fun σ1 q => ⟨_, ?_, q.thrown.1⟩⟩
    · by_cases n0 : p < 0
      · simp only [s_X8_shares, n0, z10', if_true, if_false, bind_ok, Option.bind_some, cb_some]
      · have n1 : ¬ p ≤ 1 := fun e => by
          rcases no2_of c0 c1 with e2 | e2
          · exact n0 e2
          · exact absurd (Int32.le_trans e2 e) (by decide)
        simp only [s_X8_shares, n0, n1, z10', if_true, if_false, bind_ok, Option.bind_some, cb_some]
    · have w := q_w125 (k := 0) (v := 0) q.1; have q2 := q.thrown.2; have bk := q_ck125 q2.1; have b3 := q_r125_3 q2.1
      have i9 := no2_in (σ := zsi σ1 125 0 0) c0 c1
      simp only [s_X9_shares, w, i9, z10', if_true, if_false, bind_ok, Option.bind_some, cb_some]
/-! few -/
section FW
variable {nP nF nB nT nS nL H : Nat} {B : Book} {R : Nat → Int32}
theorem fillJ {a L : Nat} {v : Int64} (ha : zk σ a = 12) (hl : zl σ a = L) (hL : L < 2147483648) :
    ∃ σ1, s_J7_fill_d0a16 (some a) v σ = some ((), σ1) ∧ Ag (fun c _ => c = a) σ σ1 ∧ ∀ k, k < L → zj σ1 a k = v := by
  obtain ⟨s, g1, g2, g3⟩ := loop_to (body := fun v => s_J7_fill_d0a16_b6 (v.1) (v.2.1) (v.2.2.1) (v.2.2.2)) (fun i t => Ag (fun c _ => c = a) σ t ∧ ∀ k, k < i → zj t a k = v) (fun t => Ag (fun c _ => c = a) σ t ∧ ∀ k, k < L → zj t a k = v) (fun i => (some a, v, iN i, iN L)) () L (fun i t hi ht => by
    obtain ⟨t1, t2⟩ := ht
    have f1 : ¬ iN L ≤ iN i := (fun h => absurd ((iN_le (by omega) (by omega)).mp h) (by omega))
    have i1 : iN i + 1 = iN (i + 1) := iN_add _ 1
    have s1 := stJ_n (v := v) (σ := t) (a := a) (L := L) (by rw [t1.2.1]; exact ha) (by rw [t1.2.2.1]; exact hl) (n := i) (by omega) hL
    refine ⟨zsj t a i v, by simp only [s_J7_fill_d0a16_b6, f1, s1, i1, z10', if_true, if_false, bind_ok, Option.bind_some, cb_some], t1.trans (Ag.zsj rfl), fun k hk => ?_⟩
    by_cases c : k = i
    · subst c
      exact zj_hit
    · rw [zj_miss (by omega)]
      exact t2 k (by omega)) (fun t ht => by
    have f1 : iN L ≤ iN L := Int32.le_refl _
    exact ⟨t, by simp only [s_J7_fill_d0a16_b6, f1, z10', if_true, if_false, bind_ok, Option.bind_some, cb_some], ht⟩) (σ := σ) ⟨Ag.refl, fun k hk => by omega⟩
  have g1 : s_J7_fill_d0a16_l6 (some a, v, 0, iN L) σ = _ := g1
  have l1 : lnA 12 σ a = some (iN L) := (if_pos ha).trans (congrArg (fun n => some (Int32.ofNat n)) hl)
  exact ⟨s, by simp only [s_J7_fill_d0a16, l1, g1, z10', if_true, if_false, bind_ok, Option.bind_some, cb_some], g2, g3⟩
/-- the part that stays -/
def stF (c : Int32) (f : Nat → Int64) (i : Nat) : Int64 := f i * Int32.toInt64 (10 - c) / 10
def nxF (c : Int32) (f : Nat → Int64) : Nat → Int64
  | 0 => stF c f 0
  | i + 1 => stF c f (i + 1) + f i * Int32.toInt64 c / 10
def rdF (c : Int32) : Nat → Nat → Int64
  | 0 => fun i => if i = 0 then 1000000000000 else 0
  | r + 1 => nxF c (rdF c r)
def smJ (f : Nat → Int64) (m : Nat) : Int64 := foldN (fun k a => a + f k) m 0
theorem smJ_s {f : Nat → Int64} {m : Nat} : smJ f (m + 1) = smJ f m + f m := rfl
theorem dn1 {m : Nat} (_ : m < 2147483648) : iN (m + 1) - 1 = iN m := iN_sub (b := 1) (by omega)
theorem dn2 {m : Nat} : iN m + -1 = iN m - 1 := (Int32.sub_eq_add_neg (iN m) 1).symm
theorem round8 {s : Hp} (hS : SK s) {K : Nat} (hK : K ≤ 20) {c r l2 : Int32} {f : Nat → Int64} (hf : ∀ j, j < K → zj s 123 j = f j) :
    ∃ s1, s_X2_chanceOfFew_l43 (113, l2, c, iN K, r, iN K - 1) s = some ((113, l2, c, iN K, r), s1) ∧ Ag (fun a _ => a = 123) s s1 ∧ ∀ j, j < K → zj s1 123 j = nxF c f j := by
  obtain ⟨s1, g1, g2⟩ := loop_to (body := fun v => s_X2_chanceOfFew_b43 (v.1) (v.2.1) (v.2.2.1) (v.2.2.2.1) (v.2.2.2.2.1) (v.2.2.2.2.2)) (fun d t => Ag (fun a _ => a = 123) s t ∧ ∀ j, j < K → zj t 123 j = if j < K - d then f j else nxF c f j) (fun t => Ag (fun a _ => a = 123) s t ∧ ∀ j, j < K → zj t 123 j = nxF c f j) (fun d => (113, l2, c, iN K, r, iN (K - d) - 1)) (113, l2, c, iN K, r) K (fun d t hd ht => by
    obtain ⟨t1, t2⟩ := ht
    have hSt := hS.ag t1
    obtain ⟨m, hm⟩ : ∃ m, K - d = m + 1 := ⟨K - d - 1, by omega⟩
    rw [hm] at t2
    have hm2 : K - (d + 1) = m := by omega
    have r6 := q_r113_6 hSt
    have x0 := dn1 (m := m) (by omega)
    have n0 : ¬ iN m < 0 := iN_nn (by omega)
    have lm := q_ld123 (n := m) (by omega) hSt
    rw [t2 m (by omega), if_pos (by omega)] at lm
    have fin : Ag (fun a _ => a = 123) s (zsj t 123 m (nxF c f m)) ∧ ∀ j, j < K → zj (zsj t 123 m (nxF c f m)) 123 j = if j < K - (d + 1) then f j else nxF c f j := by
      refine ⟨t1.trans (Ag.zsj rfl), fun j hj => ?_⟩
      rw [hm2]
      by_cases e : j = m
      · subst e
        rw [zj_hit, if_neg (by omega)]
      · rw [zj_miss (by omega), t2 j hj]
        by_cases e2 : j < m
        · rw [if_pos (by omega), if_pos e2]
        · rw [if_neg (by omega), if_neg e2]
    refine ⟨zsj t 123 m (nxF c f m), ?_, fin⟩
    have st := q_st123 (n := m) (v := nxF c f m) (by omega) hSt
    simp only [hm, hm2, x0]
    cases m with
    | zero =>
      have e : f 0 * Int32.toInt64 (10 - c) / 10 + 0 = nxF c f 0 := Int64.add_zero _
      have z0 : iN 0 ≤ 0 := by decide
      simp only [s_X2_chanceOfFew_b43, s_X2_chanceOfFew_j73, n0, z0, r6, lm, e, st, dn2, z10', if_true, if_false, bind_ok, Option.bind_some, cb_some]
    | succ m =>
      have z0 : ¬ iN (m + 1) ≤ 0 := fun q => absurd ((iN_le (b := 0) (by omega) (by decide)).mp q) (by omega)
      have x1 := dn1 (m := m) (by omega)
      have lm2 := q_ld123 (n := m) (by omega) hSt
      rw [t2 m (by omega), if_pos (by omega)] at lm2
      have e : f (m + 1) * Int32.toInt64 (10 - c) / 10 + f m * Int32.toInt64 c / 10 = nxF c f (m + 1) := rfl
      simp only [s_X2_chanceOfFew_b43, s_X2_chanceOfFew_j73, n0, z0, r6, lm, lm2, x1, e, st, dn2, z10', if_true, if_false, bind_ok, Option.bind_some, cb_some]) (fun t ht => by
    have x0 : iN 0 - 1 < 0 := by decide
    obtain ⟨t1, t2⟩ := ht
    refine ⟨t, ?_, t1, fun j hj => ?_⟩
    · simp only [Nat.sub_self, s_X2_chanceOfFew_b43, x0, z10', if_true, if_false, bind_ok, Option.bind_some, cb_some]
    · rw [t2 j hj, if_neg (by omega)]) (σ := s) ⟨Ag.refl, fun j hj => by rw [if_pos (by omega)]; exact hf j hj⟩
  exact ⟨s1, g1, g2⟩
theorem few8 (hS : SK σ) {K r : Nat} (h1 : 1 ≤ K) (hK : K ≤ 20) (hr : r < 100) {c : Int32} :
    ∃ s, s_X2_chanceOfFew 113 (iN K) (iN r) c σ = some (smJ (rdF c r) K, s) ∧ Ag (fun a _ => a = 123) σ s := by
  have r6 := q_r113_6 hS
  have ln := q_ln123 hS
  obtain ⟨sa, u1, u2, u3⟩ := fillJ (v := 0) (L := 20) (hS.2.1 123 (by decide)).1 (hS.2.1 123 (by decide)).2 (by decide)
  have hSa := hS.ag u2
  have r6a := q_r113_6 hSa
  have st := q_st123 (n := 0) (v := 1000000000000) (by decide) hSa
  have st : stJ sa 123 0 1000000000000 = _ := st
  have A1 : Ag (fun a _ => a = 123) σ (zsj sa 123 0 1000000000000) := u2.trans (Ag.zsj rfl)
  have mn : (if iN 20 < iN K then iN 20 else iN K) = iN K := if_neg (fun h => absurd ((iN_lt (by omega) (by omega)).mp h) (by omega))
  obtain ⟨sb, v1, v2, v3⟩ := loop_to (body := fun v => s_X2_chanceOfFew_b31 (v.1) (v.2.1) (v.2.2.1) (v.2.2.2.1) (v.2.2.2.2)) (fun i t => Ag (fun a _ => a = 123) σ t ∧ ∀ j, j < K → zj t 123 j = rdF c i j) (fun t => Ag (fun a _ => a = 123) σ t ∧ ∀ j, j < K → zj t 123 j = rdF c r j) (fun i => (113, iN r, c, iN K, iN i)) (113, iN K) r (fun i t hi ht => by
    obtain ⟨t1, t2⟩ := ht
    have f1 : ¬ iN r ≤ iN i := (fun h => absurd ((iN_le (by omega) (by omega)).mp h) (by omega))
    have i1 : iN i + 1 = iN (i + 1) := iN_add _ 1
    obtain ⟨s1, g1, g2, g3⟩ := round8 (hS.ag t1) hK (c := c) (r := iN i) (l2 := iN r) t2
    exact ⟨s1, by simp only [s_X2_chanceOfFew_b31, f1, g1, i1, z10', if_true, if_false, bind_ok, Option.bind_some, cb_some], t1.trans g2, g3⟩) (fun t ht => by
    have f1 : iN r ≤ iN r := Int32.le_refl _
    exact ⟨t, by simp only [s_X2_chanceOfFew_b31, f1, z10', if_true, if_false, bind_ok, Option.bind_some, cb_some], ht⟩) (σ := zsj sa 123 0 1000000000000) ⟨A1, fun j hj => by
      by_cases e : j = 0
      · subst e
        exact zj_hit
      · rw [zj_miss (by omega), u3 j (by omega)]
        exact (if_neg e).symm⟩
  have v1 : s_X2_chanceOfFew_l31 (113, iN r, c, iN K, 0) (zsj sa 123 0 1000000000000) = _ := v1
  obtain ⟨sc, w1, w2⟩ := loop_to (body := fun v => s_X2_chanceOfFew_b120 (v.1) (v.2.1) (v.2.2.1) (v.2.2.2)) (fun _ t => t = sb) (fun t => t = sb) (fun i => (113, iN K, smJ (rdF c r) i, iN i)) (smJ (rdF c r) K) K (fun i t hi ht => by
    subst ht
    have hSt := hS.ag v2
    have f1 : ¬ iN K ≤ iN i := (fun h => absurd ((iN_le (by omega) (by omega)).mp h) (by omega))
    have i1 : iN i + 1 = iN (i + 1) := iN_add _ 1
    have r6 := q_r113_6 hSt
    have lm := q_ld123 (n := i) (by omega) hSt
    rw [v3 i hi] at lm
    exact ⟨t, by simp only [s_X2_chanceOfFew_b120, f1, r6, lm, i1, smJ_s, z10', if_true, if_false, bind_ok, Option.bind_some, cb_some], rfl⟩) (fun t ht => by
    subst ht
    have f1 : iN K ≤ iN K := Int32.le_refl _
    exact ⟨t, by simp only [s_X2_chanceOfFew_b120, f1, z10', if_true, if_false, bind_ok, Option.bind_some, cb_some], rfl⟩) (σ := sb) rfl
  subst w2
  have w1 : s_X2_chanceOfFew_l120 (113, iN K, 0, 0) sc = _ := w1
  exact ⟨sc, by simp only [s_X2_chanceOfFew, r6, ln, u1, r6a, st, mn, v1, w1, z10', if_true, if_false, bind_ok, Option.bind_some, cb_some], v2⟩
theorem round9 {s : Hp} (hS : SK s) {K : Nat} (hK : K ≤ 20) {c r l2 : Int32} {f : Nat → Int64} (hf : ∀ j, j < K → zj s 151 j = f j) :
    ∃ s1, s_X9_few_l86 (125, iN K, l2, c, r, iN K - 1) s = some ((125, iN K, l2, c, r), s1) ∧ Ag (fun a _ => a = 151) s s1 ∧ ∀ j, j < K → zj s1 151 j = nxF c f j := by
  obtain ⟨s1, g1, g2⟩ := loop_to (body := fun v => s_X9_few_b86 (v.1) (v.2.1) (v.2.2.1) (v.2.2.2.1) (v.2.2.2.2.1) (v.2.2.2.2.2)) (fun d t => Ag (fun a _ => a = 151) s t ∧ ∀ j, j < K → zj t 151 j = if j < K - d then f j else if j = K - d then stF c f j else nxF c f j) (fun t => Ag (fun a _ => a = 151) s t ∧ ∀ j, j < K → zj t 151 j = nxF c f j) (fun d => (125, iN K, l2, c, r, iN (K - d) - 1)) (125, iN K, l2, c, r) K (fun d t hd ht => by
    obtain ⟨t1, t2⟩ := ht
    have hSt := hS.ag t1
    obtain ⟨m, hm⟩ : ∃ m, K - d = m + 1 := ⟨K - d - 1, by omega⟩
    rw [hm] at t2
    have hm2 : K - (d + 1) = m := by omega
    have r46 := q_r125_46 hSt
    have x0 := dn1 (m := m) (by omega)
    have n0 : ¬ iN m < 0 := iN_nn (by omega)
    have lm := q_ld151 (n := m) (by omega) hSt
    rw [t2 m (by omega), if_pos (by omega)] at lm
    have st : stJ t 151 (iN m) (f m * Int32.toInt64 (10 - c) / 10) = some (zsj t 151 m (stF c f m)) := q_st151 (by omega) hSt
    have A1 : Ag (fun a _ => a = 151) s (zsj t 151 m (stF c f m)) := t1.trans (Ag.zsj rfl)
    have hS1 := hS.ag A1
    have r46b := q_r125_46 hS1
    have i1 : iN m + 1 = iN (m + 1) := iN_add _ 1
    have ln := q_ld151 (n := m + 1) (by omega) hS1
    rw [zj_miss (by omega)] at ln
    have st2 := q_st151 (n := m + 1) (v := zj t 151 (m + 1) + f m * Int32.toInt64 c / 10) (by omega) hS1
    refine ⟨zsj (zsj t 151 m (stF c f m)) 151 (m + 1) (zj t 151 (m + 1) + f m * Int32.toInt64 c / 10), ?_, A1.trans (Ag.zsj rfl), fun j hj => ?_⟩
    · simp only [hm, hm2, x0, s_X9_few_b86, n0, r46, lm, st, r46b, i1, ln, st2, dn2, z10', if_true, if_false, bind_ok, Option.bind_some, cb_some]
    · rw [hm2]
      by_cases e : j = m + 1
      · subst e
        rw [zj_hit, t2 (m + 1) hj, if_neg (by omega), if_pos rfl, if_neg (by omega), if_neg (by omega)]
        rfl
      · rw [zj_miss (by omega)]
        by_cases e1 : j = m
        · subst e1
          rw [zj_hit, if_neg (by omega), if_pos rfl]
        · rw [zj_miss (by omega), t2 j hj]
          by_cases e2 : j < m
          · rw [if_pos (by omega), if_pos e2]
          · rw [if_neg (by omega), if_neg e, if_neg e2, if_neg e1]) (fun t ht => by
    have x0 : iN 0 - 1 < 0 := by decide
    obtain ⟨t1, t2⟩ := ht
    refine ⟨t, ?_, t1, fun j hj => ?_⟩
    · simp only [Nat.sub_self, s_X9_few_b86, x0, z10', if_true, if_false, bind_ok, Option.bind_some, cb_some]
    · rw [t2 j hj, if_neg (by omega)]
      by_cases e : j = 0
      · subst e
        rw [if_pos (by omega)]
        rfl
      · rw [if_neg (by omega)]) (σ := s) ⟨Ag.refl, fun j hj => by rw [if_pos (by omega)]; exact hf j hj⟩
  exact ⟨s1, g1, g2⟩
theorem few9 (h : M9 nP nF nB nT nS nL H B R σ) {K r : Nat} (h1 : 1 ≤ K) (hK : K ≤ 20) (hr : r < 100) :
    ∃ s s1, s_X9_few_l35 (125, iN K, iN r, 0) σ = some ((125, iN K, iN r), s) ∧ Ag (fun a _ => a = 151) σ s ∧ s_X9_few_l75 (125, iN K, iN r, R 8, 0) s = some ((125, iN K), s1) ∧ Ag (fun a _ => a = 151) σ s1 ∧ s_X9_few_l158 (125, iN K, 0, 0) s1 = some (smJ (rdF (R 8) r) K, s1) := by
  have hS := h.1
  obtain ⟨sa, u1, u2, u3⟩ := loop_to (body := fun v => s_X9_few_b35 (v.1) (v.2.1) (v.2.2.1) (v.2.2.2)) (fun i t => Ag (fun a _ => a = 151) σ t ∧ ∀ j, j < i → zj t 151 j = rdF (R 8) 0 j) (fun t => Ag (fun a _ => a = 151) σ t ∧ ∀ j, j < 21 → zj t 151 j = rdF (R 8) 0 j) (fun i => (125, iN K, iN r, iN i)) (125, iN K, iN r) 21 (fun i t hi ht => by
    obtain ⟨t1, t2⟩ := ht
    have hSt := hS.ag t1
    have f1 : ¬ (21 : Int32) ≤ iN i := fun q => absurd ((iN_le (a := 21) (by decide) (by omega)).mp q) (by omega)
    have i1 : iN i + 1 = iN (i + 1) := iN_add _ 1
    have r46 := q_r125_46 hSt
    have st := fun v => q_st151 (n := i) (v := v) (by omega) hSt
    have fin : Ag (fun a _ => a = 151) σ (zsj t 151 i (rdF (R 8) 0 i)) ∧ ∀ j, j < i + 1 → zj (zsj t 151 i (rdF (R 8) 0 i)) 151 j = rdF (R 8) 0 j := ⟨t1.trans (Ag.zsj rfl), fun j hj => by
      by_cases e : j = i
      · subst e
        exact zj_hit
      · rw [zj_miss (by omega)]
        exact t2 j (by omega)⟩
    refine ⟨_, ?_, fin⟩
    by_cases e : i = 0
    · subst e
      have z : iN 0 = 0 := rfl
      have st := st 1000000000000
      simp only [s_X9_few_b35, s_X9_few_j57, f1, z, r46, z10', if_true, if_false, bind_ok, Option.bind_some, cb_some]
      rw [show (0 : Int32) = iN 0 from rfl, st]
      rfl
    · have z : ¬ iN i = 0 := fun q => e ((iN_inj (b := 0) (by omega) (by decide)).mp q)
      have st := st 0
      have v0 : rdF (R 8) 0 i = 0 := if_neg e
      rw [v0]
      simp only [s_X9_few_b35, s_X9_few_j57, f1, z, r46, st, i1, z10', if_true, if_false, bind_ok, Option.bind_some, cb_some]) (fun t ht => by
    have f1 : (21 : Int32) ≤ iN 21 := by decide
    exact ⟨t, by simp only [s_X9_few_b35, f1, z10', if_true, if_false, bind_ok, Option.bind_some, cb_some], ht⟩) (σ := σ) ⟨Ag.refl, fun j hj => by omega⟩
  obtain ⟨sb, v1, v2, v3⟩ := loop_to (body := fun v => s_X9_few_b75 (v.1) (v.2.1) (v.2.2.1) (v.2.2.2.1) (v.2.2.2.2)) (fun i t => Ag (fun a _ => a = 151) σ t ∧ ∀ j, j < K → zj t 151 j = rdF (R 8) i j) (fun t => Ag (fun a _ => a = 151) σ t ∧ ∀ j, j < K → zj t 151 j = rdF (R 8) r j) (fun i => (125, iN K, iN r, R 8, iN i)) (125, iN K) r (fun i t hi ht => by
    obtain ⟨t1, t2⟩ := ht
    have f1 : ¬ iN r ≤ iN i := (fun h => absurd ((iN_le (by omega) (by omega)).mp h) (by omega))
    have i1 : iN i + 1 = iN (i + 1) := iN_add _ 1
    obtain ⟨s1, g1, g2, g3⟩ := round9 (hS.ag t1) hK (c := R 8) (r := iN i) (l2 := iN r) t2
    exact ⟨s1, by simp only [s_X9_few_b75, f1, g1, i1, z10', if_true, if_false, bind_ok, Option.bind_some, cb_some], t1.trans g2, g3⟩) (fun t ht => by
    have f1 : iN r ≤ iN r := Int32.le_refl _
    exact ⟨t, by simp only [s_X9_few_b75, f1, z10', if_true, if_false, bind_ok, Option.bind_some, cb_some], ht⟩) (σ := sa) ⟨u2, fun j hj => u3 j (by omega)⟩
  obtain ⟨sc, w1, w2⟩ := loop_to (body := fun v => s_X9_few_b158 (v.1) (v.2.1) (v.2.2.1) (v.2.2.2)) (fun _ t => t = sb) (fun t => t = sb) (fun i => (125, iN K, smJ (rdF (R 8) r) i, iN i)) (smJ (rdF (R 8) r) K) K (fun i t hi ht => by
    subst ht
    have hSt := hS.ag v2
    have f1 : ¬ iN K ≤ iN i := (fun h => absurd ((iN_le (by omega) (by omega)).mp h) (by omega))
    have i1 : iN i + 1 = iN (i + 1) := iN_add _ 1
    have r6 := q_r125_46 hSt
    have lm := q_ld151 (n := i) (by omega) hSt
    rw [v3 i hi] at lm
    exact ⟨t, by simp only [s_X9_few_b158, f1, r6, lm, i1, smJ_s, z10', if_true, if_false, bind_ok, Option.bind_some, cb_some], rfl⟩) (fun t ht => by
    subst ht
    have f1 : iN K ≤ iN K := Int32.le_refl _
    exact ⟨t, by simp only [s_X9_few_b158, f1, z10', if_true, if_false, bind_ok, Option.bind_some, cb_some], rfl⟩) (σ := sb) rfl
  subst w2
  exact ⟨sa, sc, u1, u2, v1, v2, w1⟩
end FW
theorem b_few {p1 p2 : Int32} (hr : Rel σ) : Both (s_X8_few 0 p1 p2) (s_X9_few 125 p1 p2) σ := by
  have hS := hr.1.1
  refine hr.both2 (fun nP nF nB nT nS nL B m8 m9 => ?_)
  have r0 := q_r0_0 hS
  have r10 := q_r0_10 hS
  have kk := q_ck113 hS
  rcases nx1 p1 (c := 21) (by omega) with ⟨K, hK1, hK2, rfl⟩ | hx
  · have a0 : ∀ t, s_X9_in (Int32.toInt64 (iN K)) 1 20 t = some (1, t) := fun t => in_t (by rw [iN64 (by omega)]; show (1 : Int) ≤ _; omega) (by rw [iN64 (by omega)]; show _ ≤ (20 : Int); omega)
    have p0 : ¬ iN K < 1 := fun q => absurd ((iN_lt (b := 1) (by omega) (by decide)).mp q) (by omega)
    have p1 : ¬ 20 < iN K := fun q => absurd ((iN_lt (a := 20) (by decide) (by omega)).mp q) (by omega)
    rcases nx p2 (c := 100) (by omega) with ⟨r, hr2, rfl⟩ | hx
    · have a1 : ∀ t, s_X9_in (Int32.toInt64 (iN r)) 0 99 t = some (1, t) := fun t => in_t (by rw [iN64 (by omega)]; show (0 : Int) ≤ _; omega) (by rw [iN64 (by omega)]; show _ ≤ (99 : Int); omega)
      have p2 : ¬ iN r < 0 := iN_nn (by omega)
      have p3 : iN r ≤ 99 := (iN_le (b := 99) (by omega) (by decide)).mpr (by omega)
      obtain ⟨s, g1, g2⟩ := few8 hS hK1 (by omega) hr2 (c := zi σ 127 8)
      refine ⟨smJ (rdF (zi σ 127 8) r) K, ⟨s, ?_, g2.mono (fun a k q => Or.inr (by omega))⟩, fun σ1 q => ?_⟩
      · have h10 := h_r0_10 m8.2.1
        have l14 := h_ld14 (n := 1) (by decide) m8.2.1
        rw [m8.2.2.1.g8] at l14
        have l14 : ldI 11 σ (1 + 14) 1 = _ := l14
        simp only [s_X8_few, p0, p1, p2, p3, r10, r0, h10, l14, kk, g1, z10', if_true, if_false, bind_ok, Option.bind_some, cb_some]
      · have w := q_w125 (k := 0) (v := 0) q.1; have q2 := q.thrown.2; have bk := q_ck125 q2.1; have b3 := q_r125_3 q2.1
        obtain ⟨s, s1, g1, g2, g3, g4, g5⟩ := few9 q2 hK1 (by omega) hr2
        have b3' := q_r125_3 (q2.1.ag g2)
        have l8 := q_ld127 (n := 8) (by decide) (q2.1.ag g2)
        rw [(g2.2.2.2.2 127 8 (show ¬ ((127 : Nat) = 151) by decide)).1, q2.2.1] at l8
        have l8 : ldI 11 s 127 8 = _ := l8
        exact ⟨s1, by simp only [s_X9_few, w, a0, a1, g1, b3', l8, g3, g5, z10', if_true, if_false, bind_ok, Option.bind_some, cb_some], q.thrown.1.p.trans (g4.mono (fun a k q => Or.inr (Or.inl (by omega))))⟩
    · refine ⟨-1, ⟨σ, ?_, Ag.refl⟩, fun σ1 q => ⟨_, ?_, q.thrown.1.p⟩⟩
      · by_cases n0 : p2 < 0
        · simp only [s_X8_few, p0, p1, n0, z10', if_true, if_false, bind_ok, Option.bind_some, cb_some]
        · have n1 : ¬ p2 ≤ 99 := fun e => by
            rcases hx with e2 | e2
            · exact n0 e2
            · exact absurd (Int32.le_trans e2 e) (by decide)
          simp only [s_X8_few, p0, p1, n0, n1, z10', if_true, if_false, bind_ok, Option.bind_some, cb_some]
      · have w := q_w125 (k := 0) (v := 0) q.1; have q2 := q.thrown.2; have bk := q_ck125 q2.1; have b3 := q_r125_3 q2.1
        have a1 := ino_f (σ := zsi σ1 125 0 0) (c := 100) (lo := 0) (hi := 99) (by decide) hx rfl rfl
        simp only [s_X9_few, w, a0, a1, z10', if_true, if_false, bind_ok, Option.bind_some, cb_some]
  · refine ⟨-1, ⟨σ, ?_, Ag.refl⟩, fun σ1 q => ⟨_, ?_, q.thrown.1.p⟩⟩
    · by_cases n0 : p1 < 1
      · simp only [s_X8_few, n0, z10', if_true, if_false, bind_ok, Option.bind_some, cb_some]
      · have n1 : 20 < p1 := Int32.not_le.mp (no1_le hx n0 (d := 20) (by decide) (by decide))
        simp only [s_X8_few, n0, n1, z10', if_true, if_false, bind_ok, Option.bind_some, cb_some]
    · have w := q_w125 (k := 0) (v := 0) q.1; have q2 := q.thrown.2; have bk := q_ck125 q2.1; have b3 := q_r125_3 q2.1
      have a1 := in1_f (σ := zsi σ1 125 0 0) (c := 21) (lo := 1) (hi := 20) (by decide) hx rfl rfl
      simp only [s_X9_few, w, a1, z10', if_true, if_false, bind_ok, Option.bind_some, cb_some]
end V29
