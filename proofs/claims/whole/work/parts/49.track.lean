/-! ===== the reference's paper: the row changed and put back; tracks ===== -/
section V17
variable {σ : Hp}
theorem loop_to {V Ex : Type} {body : V → Hp → Option ((V ⊕ Ex) × Hp)} (I : Nat → Hp → Prop) (J : Hp → Prop) (pk : Nat → V) (e : Ex) (n : Nat)
    (hb : ∀ i σ, i < n → I i σ → ∃ σ1, body (pk i) σ = some (Sum.inl (pk (i + 1)), σ1) ∧ I (i + 1) σ1)
    (he : ∀ σ, I n σ → ∃ σ1, body (pk n) σ = some (Sum.inr e, σ1) ∧ J σ1) {σ : Hp} (h0 : I 0 σ) :
    ∃ σ1, loopF body (pk 0) σ = some (e, σ1) ∧ J σ1 := by
  have key : ∀ (d i : Nat) (σ : Hp), i + d = n → I i σ → ∃ σ1, loopF body (pk i) σ = some (e, σ1) ∧ J σ1 := by
    intro d
    induction d with
    | zero =>
      intro i σ hi h
      have : i = n := by omega
      subst this
      obtain ⟨σ1, h1, h2⟩ := he σ h
      exact ⟨σ1, loopF_out h1, h2⟩
    | succ d ih =>
      intro i σ hi h
      obtain ⟨σ1, h1, h2⟩ := hb i σ (by omega) h
      obtain ⟨σ2, h3, h4⟩ := ih (i + 1) σ1 (by omega) h2
      exact ⟨σ2, (loopF_in h1).trans h3, h4⟩
  exact key n 0 σ (by omega) h0
/-- a loop that copies n numbers from place so of cell s to place d0 of cell d -/
def Cp (d d0 n : Nat) (a k : Nat) : Prop := a = d ∧ d0 ≤ k ∧ k < d0 + n
theorem loop_copy {V Ex : Type} {body : V → Hp → Option ((V ⊕ Ex) × Hp)} (d d0 s s0 n : Nat) (pk : Nat → V) (e : Ex) (hds : d ≠ s ∨ d0 ≤ s0) {σ : Hp} (hS : SK σ)
    (hb : ∀ i σ1, i < n → SK σ1 → body (pk i) σ1 = some (Sum.inl (pk (i + 1)), zsi σ1 d (d0 + i) (zi σ1 s (s0 + i))))
    (he : ∀ σ1, SK σ1 → body (pk n) σ1 = some (Sum.inr e, σ1)) :
    ∃ σ1, loopF body (pk 0) σ = some (e, σ1) ∧ Ag (Cp d d0 n) σ σ1 ∧ (∀ i, i < n → zi σ1 d (d0 + i) = zi σ s (s0 + i)) ∧ zj σ1 = zj σ := by
  refine loop_to (fun i σ1 => SK σ1 ∧ Ag (Cp d d0 i) σ σ1 ∧ (∀ j, j < i → zi σ1 d (d0 + j) = zi σ s (s0 + j)) ∧ zj σ1 = zj σ) (fun σ1 => Ag (Cp d d0 n) σ σ1 ∧ (∀ i, i < n → zi σ1 d (d0 + i) = zi σ s (s0 + i)) ∧ zj σ1 = zj σ) pk e n ?_ ?_ ⟨hS, Ag.refl, fun j hj => by omega, rfl⟩
  · rintro i σ1 hi ⟨h0, h1, h2, h3⟩
    refine ⟨_, hb i σ1 hi h0, h0, ?_, ?_, h3⟩
    · exact (h1.mono (fun a k q => ⟨q.1, q.2.1, by have := q.2.2; omega⟩)).trans (Ag.zsi ⟨rfl, by omega, by omega⟩)
    · intro j hj
      by_cases c : j = i
      · subst c
        rw [zi_hit]
        exact (h1.2.2.2.2 s (s0 + j) (fun w => hds.elim (fun q => q w.1.symm) (fun q => by have := w.2.2; omega))).1
      · rw [zi_miss (by omega)]
        exact h2 j (by omega)
  · rintro σ1 ⟨h0, h1, h2, h3⟩
    exact ⟨σ1, he σ1 h0, h1, h2, h3⟩
theorem keep9 (hS : SK σ) {k : Nat} (hk : k < 18) : ∃ σ1, s_X9_keepAll 125 (iN k) σ = some ((), σ1) ∧ Ag (Cp 130 (23 * k) 23) σ σ1 ∧ (∀ i, i < 23 → zi σ1 130 (23 * k + i) = zi σ 127 (7 + i)) ∧ zj σ1 = zj σ := by
  obtain ⟨σ1, h1, h2⟩ := loop_copy (body := fun v => s_X9_keepAll_b2 (v.1) (v.2.1) (v.2.2)) 130 (23 * k) 127 7 23 (fun i => (125, iN k, iN i)) () (Or.inl (by decide)) hS (fun i σ1 hi h => by
    have f1 : ¬ (23 : Int32) ≤ iN i := fun q => absurd ((iN_le (a := 23) (by decide) (by omega)).mp q) (by omega)
    have b6 := q_r125_6 h
    have b3 := q_r125_3 h
    have l : ldI 11 σ1 127 (7 + iN i) = some (zi σ1 127 (7 + i)) := by rw [show (7 : Int32) = iN 7 from rfl, iN_add, q_ld127 (by omega) h]
    have s : ∀ v, stI σ1 130 (23 * iN k + iN i) v = some (zsi σ1 130 (23 * k + i) v) := fun v => by rw [show (23 : Int32) = iN 23 from rfl, iN_mul, iN_add, q_st130 (by omega) h]
    have i1 : iN i + 1 = iN (i + 1) := iN_add i 1
    simp only [s_X9_keepAll_b2, f1, b6, b3, l, s, i1, z10', if_true, if_false, bind_ok, Option.bind_some, cb_some]) (fun σ1 h => by
    have f1 : (23 : Int32) ≤ iN 23 := by decide
    simp only [s_X9_keepAll_b2, f1, z10', if_true, if_false, bind_ok, Option.bind_some, cb_some])
  refine ⟨σ1, ?_, h2⟩
  have h1 : s_X9_keepAll_l2 (125, iN k, 0) σ = some ((), σ1) := h1
  simp only [s_X9_keepAll, h1, cb_some]
theorem put9 (hS : SK σ) {k : Nat} (hk : k < 18) : ∃ σ1, s_X9_putBack 125 (iN k) σ = some ((), σ1) ∧ Ag (Cp 127 7 23) σ σ1 ∧ (∀ i, i < 23 → zi σ1 127 (7 + i) = zi σ 130 (23 * k + i)) ∧ zj σ1 = zj σ := by
  obtain ⟨σ1, h1, h2⟩ := loop_copy (body := fun v => s_X9_putBack_b2 (v.1) (v.2.1) (v.2.2)) 127 7 130 (23 * k) 23 (fun i => (125, iN k, iN i)) () (Or.inl (by decide)) hS (fun i σ1 hi h => by
    have f1 : ¬ (23 : Int32) ≤ iN i := fun q => absurd ((iN_le (a := 23) (by decide) (by omega)).mp q) (by omega)
    have b6 := q_r125_6 h
    have b3 := q_r125_3 h
    have l : ldI 11 σ1 130 (23 * iN k + iN i) = some (zi σ1 130 (23 * k + i)) := by rw [show (23 : Int32) = iN 23 from rfl, iN_mul, iN_add, q_ld130 (by omega) h]
    have s : ∀ v, stI σ1 127 (7 + iN i) v = some (zsi σ1 127 (7 + i) v) := fun v => by rw [show (7 : Int32) = iN 7 from rfl, iN_add, q_st127 (by omega) h]
    have i1 : iN i + 1 = iN (i + 1) := iN_add i 1
    simp only [s_X9_putBack_b2, f1, b6, b3, l, s, i1, z10', if_true, if_false, bind_ok, Option.bind_some, cb_some]) (fun σ1 h => by
    have f1 : (23 : Int32) ≤ iN 23 := by decide
    simp only [s_X9_putBack_b2, f1, z10', if_true, if_false, bind_ok, Option.bind_some, cb_some])
  refine ⟨σ1, ?_, h2⟩
  have h1 : s_X9_putBack_l2 (125, iN k, 0) σ = some ((), σ1) := h1
  simp only [s_X9_putBack, h1, cb_some]
/-- the paper and the row's changing part -/
def S9p (a k : Nat) : Prop := S9 a k ∨ (146 ≤ a ∧ a ≤ 151) ∨ (a = 130 ∧ 368 ≤ k)
def S9w (a k : Nat) : Prop := S9p a k ∨ (a = 127 ∧ 7 ≤ k ∧ k < 30)
theorem fr_S9p {a k : Nat} (h : S9p a k) : free a k = true ∨ (a = 130 ∧ 368 ≤ k) := by
  rcases h with h | h | h
  · exact Or.inl (fr_S9 a k h)
  · have h2 : a = 146 ∨ a = 147 ∨ a = 148 ∨ a = 149 ∨ a = 150 ∨ a = 151 := by omega
    refine Or.inl ?_
    rcases h2 with rfl | rfl | rfl | rfl | rfl | rfl <;> simp [free, fTp, fRf, fDk, fSm, fUn, fCr, fIm, fCW]
  · exact Or.inr h
theorem S9p.n {a k : Nat} (h1 : free a k = false) (h2 : a ≠ 130 ∨ k < 368) : ¬ S9p a k := by
  intro h
  rcases fr_S9p h with q | q
  · rw [q] at h1
    cases h1
  · omega
theorem fr_127 {k : Nat} : free 127 k = false := by simp [free, fUn]
theorem fr_130 {k : Nat} : free 130 k = false := by simp [free, fUn]
theorem Ag.unrow {σ1 : Hp} (h : Ag S9w σ σ1) (h2 : ∀ i, 7 ≤ i → i < 30 → zi σ1 127 i = zi σ 127 i) (h3 : ∀ i, 7 ≤ i → i < 30 → zj σ1 127 i = zj σ 127 i) : Ag S9p σ σ1 :=
  ⟨h.1, h.2.1, h.2.2.1, h.2.2.2.1, fun a k hn => by
    by_cases c : a = 127 ∧ 7 ≤ k ∧ k < 30
    · obtain ⟨rfl, q1, q2⟩ := c
      exact ⟨h2 k q1 q2, h3 k q1 q2⟩
    · exact h.2.2.2.2 a k (fun q => q.elim hn c)⟩
theorem Un.p {nP nF nT n : Nat} {σ1 : Hp} (h : Un nP nF nT n σ) (e : Ag S9p σ σ1) : Un nP nF nT n σ1 := by
  have ne : ∀ a k, free a k = false → a ≠ 130 ∨ k < 368 → zi σ1 a k = zi σ a k := fun a k q1 q2 => (e.2.2.2.2 a k (S9p.n q1 q2)).1
  unfold Un at *
  have e127 : zi σ1 127 = zi σ 127 := funext fun k => ne 127 k (by simp [free, fUn]) (Or.inl (by decide))
  rw [ne 109 1 rfl (Or.inl (by decide)), ne 125 8 rfl (Or.inl (by decide)), show zi σ1 110 = zi σ 110 from funext fun k => ne 110 k (by simp [free, fUn]) (Or.inl (by decide)), show zi σ1 131 = zi σ 131 from funext fun k => ne 131 k (by simp [free, fUn]) (Or.inl (by decide)), e127]
  obtain ⟨h1, h2, h3, h4⟩ := h
  refine ⟨h1, h2, h3, fun k hk => ?_⟩
  have es : ∀ k, k ≤ n → ∀ i, i < 23 → snap n (zi σ 127) (zi σ1 130) k i = snap n (zi σ 127) (zi σ 130) k i := fun k hk i hi => by
    unfold snap
    by_cases c : k = n
    · rw [if_pos c, if_pos c]
    · rw [if_neg c, if_neg c, ne 130 (23 * k + i) (by simp [free, fUn]) (Or.inr (by omega))]
  obtain ⟨g1, g2, g3⟩ := h4 k hk
  have eA := es k (by omega)
  have eB := es (k + 1) (by omega)
  refine ⟨g1, fun i hi => by rw [eA i hi]; exact g2 i hi, ?_⟩
  have eu : ∀ (f g : Nat → Int32) (a i : Nat) (v : Int32), f i = g i → up f a v i = up g a v i := fun f g a i v q => by
    unfold up
    rw [q]
  rcases g3 with ⟨q, f, q1, q2, q3⟩ | ⟨q, f, q1, q2, q3⟩ | ⟨q, x, y, q1, q2, q3, q4, q5, q6⟩ | ⟨q, q3⟩
  · exact Or.inl ⟨q, f, q1, q2, fun i hi => by rw [eA i hi, q3 i hi]; exact (eu _ _ _ _ _ (eB i hi)).symm⟩
  · exact Or.inr (Or.inl ⟨q, f, q1, q2, fun i hi => by rw [eA i hi, q3 i hi]; exact (eu _ _ _ _ _ (eB i hi)).symm⟩)
  · refine Or.inr (Or.inr (Or.inl ⟨q, x, y, q1, q2, q3, q4, q5, fun i hi => ?_⟩))
    rw [eA i hi, q6 i hi, eB (4 + x) (by omega), eB (4 + y) (by omega)]
    exact (eu _ _ _ _ _ (eu _ _ _ _ _ (eB i hi))).symm
  · refine Or.inr (Or.inr (Or.inr ⟨q, fun i hi => ?_⟩))
    rw [eA i hi, q3 i hi, eB 0 (by omega)]
    exact (eu _ _ _ _ _ (eu _ _ _ _ _ (eu _ _ _ _ _ (eu _ _ _ _ _ (eu _ _ _ _ _ (eB i hi)))))).symm
/-- back in cell 130 what was there: what else is as free as may be -/
theorem Rel.p {σ1 : Hp} (hr : Rel σ) (e : Ag S9p σ σ1) : Rel σ1 := by
  have A1 : Ag (fun a k => free a k = true) σ (zn σ1, zk σ1, zl σ1, (fun a k => if a = 130 then zi σ a k else zi σ1 a k), (fun a k => if a = 130 then zj σ a k else zj σ1 a k), zr σ1) :=
    ⟨e.1, e.2.1, e.2.2.1, e.2.2.2.1, fun a k hn => by
      show (if a = 130 then zi σ a k else zi σ1 a k) = _ ∧ (if a = 130 then zj σ a k else zj σ1 a k) = _
      by_cases c : a = 130
      · rw [if_pos c, if_pos c]
        exact ⟨rfl, rfl⟩
      · rw [if_neg c, if_neg c]
        exact e.2.2.2.2 a k (S9p.n (by simpa using hn) (Or.inl c))⟩
  have r1 := hr.ag A1 (fun a k q => q)
  obtain ⟨⟨-, -, -, -, -, -, -⟩, nP0, nF0, nB0, nT0, nS0, nL0, B0, n0, hC0, hU0⟩ := hr
  obtain ⟨⟨hS, ⟨nt, hT⟩, hR, hM, hW, hD, hI⟩, -⟩ := r1
  have e127 : zi σ1 127 = zi σ 127 := funext fun k => (e.2.2.2.2 127 k (S9p.n fr_127 (Or.inl (by decide)))).1
  have st : ∀ {b : Nat} {nP nF nB nT nS nL H : Nat} {B : Book} {R : Nat → Int32}, b + 15 ≤ 130 → Cr b (zn σ1, zk σ1, zl σ1, (fun a k => if a = 130 then zi σ a k else zi σ1 a k), (fun a k => if a = 130 then zj σ a k else zj σ1 a k), zr σ1) nP nF nB nT nS nL H B R → Cr b σ1 nP nF nB nT nS nL H B R := by
    intro b nP nF nB nT nS nL H B R hb h
    obtain ⟨h1, h2, h3, h4⟩ := h
    refine ⟨h1, h2.congr (fun o ho => funext fun k => ?_), h3, fun j hj => ?_⟩
    · show _ = (if b + o = 130 then zi σ (b + o) k else zi σ1 (b + o) k)
      rw [if_neg (by omega)]
    · obtain ⟨t, q1, q2⟩ := h4 j hj
      refine ⟨t, q1, q2.same (Nat.le_refl _) (fun a ha _ => ⟨rfl, rfl, rfl, funext fun k => ?_⟩)⟩
      show _ = (if a = 130 then zi σ a k else zi σ1 a k)
      rw [if_neg (by omega)]
  have sI : ∀ {b : Nat} {z1 z2 : Int32} {R : Nat → Int32}, b + 15 ≤ 130 → ImF b (zn σ1, zk σ1, zl σ1, (fun a k => if a = 130 then zi σ a k else zi σ1 a k), (fun a k => if a = 130 then zj σ a k else zj σ1 a k), zr σ1) z1 z2 R → ImF b σ1 z1 z2 R := by
    intro b z1 z2 R hb h
    refine ⟨h.1, ?_⟩
    rcases h.2 with h1 | ⟨h1, nP, nF, nB, nT, nS, nL, B, h2⟩
    · exact Or.inl h1
    · exact Or.inr ⟨h1, nP, nF, nB, nT, nS, nL, B, st hb h2⟩
  refine ⟨⟨hS, ⟨nt, hT⟩, hR, hM, hW, hD, ⟨sI (by decide) hI.1, sI (by decide) hI.2.1, hI.2.2⟩⟩, nP0, nF0, nB0, nT0, nS0, nL0, B0, n0, ?_, hU0.p e⟩
  rw [e127]
  exact st (by decide) (hC0.ag A1 (fun a k q => q) (by decide))
theorem Rel.both2 {α : Type} {f g : Hp → Option (α × Hp)} (hr : Rel σ) (h : ∀ nP nF nB nT nS nL B, M8 1 nP nF nB nT nS nL 999 B (zi σ 127) σ → M9 nP nF nB nT nS nL 999 B (zi σ 127) σ → ∃ v, (∃ σ1, f σ = some (v, σ1) ∧ Ag S8p σ σ1) ∧ (∀ σ1, M9 nP nF nB nT nS nL 999 B (zi σ 127) σ1 → ∃ σ2, g σ1 = some (v, σ2) ∧ Ag S9p σ1 σ2)) : Both f g σ := by
  obtain ⟨⟨hS, hT, hR, hM, hW, hD, hI⟩, nP, nF, nB, nT, nS, nL, B, n, hC, hU⟩ := id hr
  have m8 : M8 1 nP nF nB nT nS nL 999 B (zi σ 127) σ := ⟨Or.inl rfl, hS.hk1, hC.2.1, hC.1, hC.2.2.2, hC.2.2.1⟩
  have m9 : M9 nP nF nB nT nS nL 999 B (zi σ 127) σ := ⟨hS, rfl, hC.1, hC.2.2.1, hM.2.2.2⟩
  obtain ⟨v, ⟨σ1, h1, h2⟩, h3⟩ := h nP nF nB nT nS nL B m8 m9
  obtain ⟨σ2, h4, h5⟩ := h3 σ1 (m9.ag8p h2)
  exact Both.mk h1 h4 ((hr.ag h2 fr_S8p).p h5) (by rw [h2.2.1]; exact (hS.2.1 125 (by decide)).1)
theorem S9.p {a k : Nat} (h : S9 a k) : S9p a k := Or.inl h
theorem S9.w {a k : Nat} (h : S9 a k) : S9w a k := Or.inl (Or.inl h)
theorem Ag.p {σ1 : Hp} (h : Ag S9 σ σ1) : Ag S9p σ σ1 := h.mono (fun _ _ q => Or.inl q)
theorem Ag.w {σ1 : Hp} (h : Ag S9 σ σ1) : Ag S9w σ σ1 := h.mono (fun _ _ q => Or.inl (Or.inl q))
section ON
variable {b nP nF nB nT nS nL H hr : Nat} {B : Book} {R : Nat → Int32}
theorem M9.row {H2 : Nat} {R2 : Nat → Int32} {σ1 : Hp} (h : M9 nP nF nB nT nS nL H B R σ) (e : Ag S9w σ σ1) (h2 : zi σ1 127 = R2) (hw : WF nP nF nB nT nS nL H2 R2) : M9 nP nF nB nT nS nL H2 B R2 σ1 := by
  have hn : ∀ i, (i < 7 ∨ 30 ≤ i) → R2 i = R i := fun i hi => by
    rw [← h2, ← h.2.1]
    refine (e.2.2.2.2 127 i ?_).1
    rintro (q | q)
    · exact S9p.n fr_127 (Or.inl (by decide)) q
    · omega
  refine ⟨h.1.ag e, h2, hw, fun j hj => (h.2.2.2.1 j hj).congr (fun i hi => hn i (by omega)), ?_⟩
  refine Eq.trans (e.2.2.2.2 125 20 ?_).1 h.2.2.2.2
  rintro (q | q)
  · exact S9p.n (by rfl) (Or.inl (by decide)) q
  · omega
/-- rows that differ in the hour and in where badgers are -/
def SQ (R R2 : Nat → Int32) : Prop := ∀ i, i ≠ 7 → ¬ (21 ≤ i ∧ i < 24) → R2 i = R i
theorem SQ.law {R2 : Nat → Int32} (h : SQ R R2) : lawR R2 = lawR R := by
  unfold lawR
  rw [h 6 (by decide) (by omega)]
theorem SQ.th {R2 : Nat → Int32} (h : SQ R R2) {rm : Nat} : thP B R2 (lawR R2) rm hr = thP B R (lawR R) rm hr := by
  unfold thP
  rw [h.law, h 9 (by decide) (by omega)]
theorem SQ.sf {R2 : Nat → Int32} (h : SQ R R2) {p : Nat} : sfP B R2 p hr = sfP B R p hr := by
  unfold sfP
  rw [h (30 + p) (by omega) (by omega), h (40 + p) (by omega) (by omega), h.th]
theorem SQ.go {R2 : Nat → Int32} (h : SQ R R2) {rm bd : Nat} (hrm : rm < 6) : goP B R2 rm bd hr = goP B R rm bd hr := by
  unfold goP toP
  rw [h.law, h 9 (by decide) (by omega), h (11 + rm) (by omega) (by omega)]
theorem SQ.ld {R2 : Nat → Int32} (h : SQ R R2) {f p q : Nat} (hp : p < 10) (hw : WF nP nF nB nT nS nL H R) : ldP R2 f p q = ldP R f p q := by
  obtain ⟨a, ha, ea⟩ := room_n hw hp
  unfold ldP
  rw [h (50 + (p * 10 + q)) (by omega) (by omega), h (150 + f) (by omega) (by omega), h (30 + p) (by omega) (by omega), h (30 + q) (by omega) (by omega), ea, iN_nat (by omega), h (11 + a) (by omega) (by omega)]
theorem SQ.bar {R2 : Nat → Int32} (h : SQ R R2) {f p : Nat} : barP B R2 f p hr = barP B R f p hr := by
  unfold barP
  rw [h.law, h 9 (by decide) (by omega), h (30 + p) (by omega) (by omega), h (40 + p) (by omega) (by omega), h (150 + f) (by omega) (by omega)]
theorem SQ.cn {R2 : Nat → Int32} (h : SQ R R2) {f p q : Nat} (hp : p < 10) (hw : WF nP nF nB nT nS nL H R) : cnP B R2 f p q hr = cnP B R f p q hr := by
  unfold cnP
  rw [h.ld hp hw, h.bar]
/-- all badgers go; it is the next hour -/
def goR (B : Book) (R : Nat → Int32) (nB hr : Nat) : Nat → Int32 := fun i => if i = 7 then iN (hr + 1) else if 21 ≤ i ∧ i < 21 + nB then goP B R (R i).toNatClampNeg (i - 21) hr else R i
theorem goR_sow {k : Nat} (hk : k < nB) : goR B R nB hr (21 + k) = goP B R (R (21 + k)).toNatClampNeg k hr := by
  unfold goR
  rw [if_neg (by omega), if_pos (by omega), show 21 + k - 21 = k by omega]
theorem goR_sq (hb : nB ≤ 3) : SQ R (goR B R nB hr) := fun i h1 h2 => by
  unfold goR
  rw [if_neg h1, if_neg (by omega)]
theorem goR_wf {H2 : Nat} (h : WF nP nF nB nT nS nL H R) (hH : H ≤ H2) (h1 : hr + 1 ≤ H2) : WF nP nF nB nT nS nL H2 (goR B R nB hr) := by
  have hb := h.1.2.2.1
  obtain ⟨g1, g2, g3, g4⟩ := h.hi hH
  have e : ∀ i, i < 7 → goR B R nB hr i = R i := fun i hi => goR_sq hb i (by omega) (by omega)
  refine ⟨g1, ⟨by rw [e 0 (by decide)]; exact g2.1, by rw [e 1 (by decide)]; exact g2.2.1, by rw [e 2 (by decide)]; exact g2.2.2.1, by rw [e 3 (by decide)]; exact g2.2.2.2.1, by rw [e 4 (by decide)]; exact g2.2.2.2.2.1, by rw [e 5 (by decide)]; exact g2.2.2.2.2.2⟩, by rw [e 6 (by decide)]; exact g3, fun i h2 h3 => ?_⟩
  by_cases c7 : i = 7
  · subst c7
    show bd _ H2
    exact ⟨hr + 1, h1, rfl⟩
  · by_cases c : 21 ≤ i ∧ i < 21 + nB
    · obtain ⟨k, rfl⟩ : ∃ k, i = 21 + k := ⟨i - 21, by omega⟩
      rw [goR_sow (by omega)]
      obtain ⟨r, r1, r2⟩ := sow_n h (k := k) (by omega)
      rw [r2, iN_nat (by omega)]
      obtain ⟨n, n1, n2⟩ := goP_n (B := B) (R := R) (hr := hr) (bd := k) r1
      rw [n2]
      exact okI_sow (by omega) ⟨n, by omega, rfl⟩
    · rw [show goR B R nB hr i = R i by unfold goR; rw [if_neg c7, if_neg c]]
      exact g4 i h2 h3
/-- going writes neither the kept rows nor long numbers of the row -/
def S9v (a k : Nat) : Prop := S9 a k ∨ (146 ≤ a ∧ a ≤ 151) ∨ (a = 127 ∧ 7 ≤ k ∧ k < 30)
theorem S9v.w {a k : Nat} (h : S9v a k) : S9w a k := by
  rcases h with h | h | h
  · exact Or.inl (Or.inl h)
  · exact Or.inl (Or.inr (Or.inl h))
  · exact Or.inr h
/-- what going itself writes -/
def S9t (a k : Nat) : Prop := S9 a k ∨ a = 146 ∨ (a = 127 ∧ 7 ≤ k ∧ k < 30)
theorem S9t.v {a k : Nat} (h : S9t a k) : S9v a k := by
  rcases h with h | h | h
  · exact Or.inl h
  · exact Or.inr (Or.inl (by omega))
  · exact Or.inr (Or.inr h)
theorem allGo9 (h : M9 nP nF nB nT nS nL H B R σ) (h3 : hr < 100000) (h7 : R 7 = iN hr) {H2 : Nat} (hH : H ≤ H2) (h1 : hr + 1 ≤ H2) :
    ∃ σ1, s_X9_allGo 125 σ = some ((), σ1) ∧ Ag S9t σ σ1 ∧ zj σ1 127 = zj σ 127 ∧ M9 nP nF nB nT nS nL H2 B (goR B R nB hr) σ1 := by
  have hb3 := h.2.2.1.1.2.2.1
  have step : ∀ k, k < nB → ∃ n, n < 6 ∧ goP B R (R (21 + k)).toNatClampNeg k hr = iN n ∧ ∃ r, r < 6 ∧ R (21 + k) = iN r := fun k hk => by
    obtain ⟨r, r1, r2⟩ := sow_n h.2.2.1 (k := k) (by omega)
    obtain ⟨n, n1, n2⟩ := goP_n (B := B) (R := R) (hr := hr) (bd := k) (rm := (R (21 + k)).toNatClampNeg) (by rw [r2, iN_nat (by omega)]; exact r1)
    exact ⟨n, n1, n2, r, r1, r2⟩
  have A9 : ∀ {s s2 : Hp}, Ag S9 s s2 → Ag (fun a k => S9 a k ∨ a = 146) s s2 := fun q => q.mono (fun _ _ w => Or.inl w)
  have M : ∀ {s : Hp}, Ag (fun a k => S9 a k ∨ a = 146) σ s → M9 nP nF nB nT nS nL H B R s := fun {s} e => by
    have ew : Ag S9w σ s := e.mono (fun a k q => q.elim (fun w => Or.inl (Or.inl w)) (fun w => Or.inl (Or.inr (Or.inl (by omega)))))
    refine h.row ew ?_ h.2.2.1
    rw [← h.2.1]
    exact funext fun k => (e.2.2.2.2 127 k (fun q => q.elim (S9.n (by decide) (Or.inl (by decide))) (by decide))).1
  obtain ⟨σ1, g1, g2, g3⟩ := loop_to (body := fun v => s_X9_allGo_b2 (v.1) (v.2)) (fun i s => Ag (fun a k => S9 a k ∨ a = 146) σ s ∧ ∀ k, k < i → zi s 146 k = goP B R (R (21 + k)).toNatClampNeg k hr) (fun s => Ag (fun a k => S9 a k ∨ a = 146) σ s ∧ ∀ k, k < nB → zi s 146 k = goP B R (R (21 + k)).toNatClampNeg k hr) (fun i => (125, iN i)) 125 nB (fun i s hi hs => by
    obtain ⟨hs1, hs2⟩ := hs
    have n9 := M hs1
    have b3 := q_r125_3 n9.1
    have bk := q_ck125 n9.1
    have b41 := q_r125_41 n9.1
    have l2 : ldI 11 s 127 2 = some (iN nB) := (rw_2 n9.1).trans (by rw [n9.c2])
    have f1 : ¬ iN nB ≤ iN i := (fun h => absurd ((iN_le (by omega) (by omega)).mp h) (by omega))
    obtain ⟨n, n1, n2, r, r1, r2⟩ := step i hi
    obtain ⟨s2, u1, u2⟩ := goes9 n9 h3 h7 (bd := i) (by omega) r1 r2
    have st := q_st146 (n := i) (v := goP B R r i hr) (by omega) (n9.ag u2).1
    have i1 : iN i + 1 = iN (i + 1) := iN_add i 1
    refine ⟨zsi s2 146 i (goP B R r i hr), ?_, (hs1.trans (A9 u2)).trans (Ag.zsi (Or.inr rfl)), fun k hk => ?_⟩
    · simp only [s_X9_allGo_b2, b3, bk, b41, l2, f1, u1, st, i1, z10', if_true, if_false, bind_ok, Option.bind_some, cb_some]
    · by_cases c : k = i
      · subst c
        rw [zi_hit, r2, iN_nat (by omega)]
      · rw [zi_miss c, ← hs2 k (by omega)]
        exact (u2.2.2.2.2 146 k (S9.n (by decide) (Or.inl (by decide)))).1) (fun s hs => by
    have n9 := M hs.1
    have b3 := q_r125_3 n9.1
    have l2 : ldI 11 s 127 2 = some (iN nB) := (rw_2 n9.1).trans (by rw [n9.c2])
    have f1 : iN nB ≤ iN nB := Int32.le_refl _
    exact ⟨s, by simp only [s_X9_allGo_b2, b3, l2, f1, z10', if_true, if_false, bind_ok, Option.bind_some, cb_some], hs⟩) (σ := σ) ⟨Ag.refl, fun k hk => by omega⟩
  have n1 := M g2
  have c2k : ∀ s, SK s → zi s 127 2 = iN nB → ldI 11 s 127 2 = some (iN nB) := fun s q1 q2 => (rw_2 q1).trans (by rw [q2])
  obtain ⟨σ2, k1, k2, k3, k4⟩ : ∃ σ2, loopF (fun v => s_X9_allGo_b31 (v.1) (v.2)) (125, iN 0) σ1 = some (125, σ2) ∧ Ag (Cp 127 21 nB) σ1 σ2 ∧ (∀ i, i < nB → zi σ2 127 (21 + i) = zi σ1 146 i) ∧ zj σ2 = zj σ1 := by
    refine loop_to (fun i s => SK s ∧ Ag (Cp 127 21 i) σ1 s ∧ (∀ j, j < i → zi s 127 (21 + j) = zi σ1 146 j) ∧ zj s = zj σ1) (fun s => Ag (Cp 127 21 nB) σ1 s ∧ (∀ i, i < nB → zi s 127 (21 + i) = zi σ1 146 i) ∧ zj s = zj σ1) (fun i => (125, iN i)) 125 nB (fun i s hi hs => ?_) (fun s hs => ?_) ⟨n1.1, Ag.refl, fun j hj => by omega, rfl⟩
    · obtain ⟨w0, w1, w2, w3⟩ := hs
      have b3 := q_r125_3 w0
      have b41 := q_r125_41 w0
      have l2 := c2k s w0 ((w1.2.2.2.2 127 2 (fun q => by have := q.2.1; omega)).1.trans n1.c2)
      have f1 : ¬ iN nB ≤ iN i := (fun h => absurd ((iN_le (by omega) (by omega)).mp h) (by omega))
      have ld := q_ld146 (n := i) (by omega) w0
      have st : ∀ v, stI s 127 (21 + iN i) v = some (zsi s 127 (21 + i) v) := fun v => by rw [show (21 : Int32) = iN 21 from rfl, iN_add, q_st127 (by omega) w0]
      have i1 : iN i + 1 = iN (i + 1) := iN_add i 1
      refine ⟨zsi s 127 (21 + i) (zi s 146 i), ?_, w0, ?_, fun j hj => ?_, w3⟩
      · simp only [s_X9_allGo_b31, b3, b41, l2, f1, ld, st, i1, z10', if_true, if_false, bind_ok, Option.bind_some, cb_some]
      · exact (w1.mono (fun a k q => ⟨q.1, q.2.1, by have := q.2.2; omega⟩)).trans (Ag.zsi ⟨rfl, by omega, by omega⟩)
      · by_cases c : j = i
        · subst c
          rw [zi_hit]
          exact (w1.2.2.2.2 146 j (fun q => absurd q.1 (by decide))).1
        · rw [zi_miss (by omega)]
          exact w2 j (by omega)
    · obtain ⟨w0, w1, w2, w3⟩ := hs
      have b3 := q_r125_3 w0
      have l2 := c2k s w0 ((w1.2.2.2.2 127 2 (fun q => by have := q.2.1; omega)).1.trans n1.c2)
      have f1 : iN nB ≤ iN nB := Int32.le_refl _
      exact ⟨s, by simp only [s_X9_allGo_b31, b3, l2, f1, z10', if_true, if_false, bind_ok, Option.bind_some, cb_some], w1, w2, w3⟩
  have hS2 : SK σ2 := n1.1.ag k2
  have b3 := q_r125_3 hS2
  have l7 : ldI 11 σ2 127 7 = some (iN hr) := (rw_7 hS2).trans (by rw [(k2.2.2.2.2 127 7 (fun q => by have := q.2.1; omega)).1, n1.2.1, h7])
  have s7 := rs_7 (v := iN (hr + 1)) hS2
  have i1 : iN hr + 1 = iN (hr + 1) := iN_add hr 1
  have g1 : s_X9_allGo_l2 (125, 0) σ = some (125, σ1) := g1
  have k1 : s_X9_allGo_l31 (125, 0) σ1 = some (125, σ2) := k1
  have Aw : Ag S9t σ (zsi σ2 127 7 (iN (hr + 1))) := by
    refine Ag.trans (Ag.trans (g2.mono ?_) (k2.mono ?_)) (Ag.zsi (Or.inr (Or.inr ⟨rfl, by decide, by decide⟩)))
    · exact fun a k q => q.elim (fun w => Or.inl w) (fun w => Or.inr (Or.inl w))
    · exact fun a k q => Or.inr (Or.inr ⟨q.1, by have := q.2.1; omega, by have := q.2.2; omega⟩)
  refine ⟨zsi σ2 127 7 (iN (hr + 1)), ?_, Aw, ?_, h.row (Aw.mono (fun _ _ q => q.v.w)) ?_ (goR_wf h.2.2.1 hH h1)⟩
  · simp only [s_X9_allGo, g1, k1, b3, l7, s7, i1, z10', if_true, if_false, bind_ok, Option.bind_some, cb_some]
  · rw [zj_zsi, k4]
    exact funext fun k => (g2.2.2.2.2 127 k (fun q => q.elim (S9.n (by decide) (Or.inl (by decide))) (by decide))).2
  · funext i
    unfold goR
    by_cases c7 : i = 7
    · subst c7
      rw [zi_hit, if_pos rfl]
    · rw [zi_miss c7, if_neg c7]
      by_cases c : 21 ≤ i ∧ i < 21 + nB
      · obtain ⟨k, rfl⟩ : ∃ k, i = 21 + k := ⟨i - 21, by omega⟩
        rw [if_pos c, k3 k (by omega), g3 k (by omega), show 21 + k - 21 = k by omega]
      · rw [if_neg c, (k2.2.2.2.2 127 i (fun q => c ⟨q.2.1, q.2.2⟩)).1, n1.2.1]
end ON
end V17
