/-! ===== the words of an order ===== -/
section OWD
variable {σ : Hp} {nP nF nB nT nS nL n : Nat} {B : Book} {R : Nat → Int32}
def ow (nF nB nT : Nat) (R : Nat → Int32) (dn lt : Int32) : Env := fun k =>
  if k = 0 then R 7 else if k = 1 then dn else if k = 2 then lt else if k = 3 then R 10 else if k = 4 then R 7 - R 7 / 24 * 24
  else if k < 9 then (if k - 5 < nF then R (17 + (k - 5)) else -1) else if k < 12 then (if k - 9 < nB then R (21 + (k - 9)) else -1) else (if k - 12 < nT then R (24 + (k - 12)) else -1)
theorem ow_f {dn lt : Int32} {f : Nat} (h : f < 4) : ow nF nB nT R dn lt (5 + f) = if f < nF then R (17 + f) else -1 := by
  unfold ow
  rw [if_neg (by omega), if_neg (by omega), if_neg (by omega), if_neg (by omega), if_neg (by omega), if_pos (by omega), show 5 + f - 5 = f by omega]
theorem ow_b {dn lt : Int32} {f : Nat} (h : f < 3) : ow nF nB nT R dn lt (9 + f) = if f < nB then R (21 + f) else -1 := by
  unfold ow
  rw [if_neg (by omega), if_neg (by omega), if_neg (by omega), if_neg (by omega), if_neg (by omega), if_neg (by omega), if_pos (by omega), show 9 + f - 9 = f by omega]
theorem ow_t {dn lt : Int32} {f : Nat} : ow nF nB nT R dn lt (12 + f) = if f < nT then R (24 + f) else -1 := by
  unfold ow
  rw [if_neg (by omega), if_neg (by omega), if_neg (by omega), if_neg (by omega), if_neg (by omega), if_neg (by omega), if_neg (by omega), show 12 + f - 12 = f by omega]
theorem ow_0 {dn lt : Int32} : ow nF nB nT R dn lt 0 = R 7 := if_pos rfl
theorem ow_1 {dn lt : Int32} : ow nF nB nT R dn lt 1 = dn := by
  unfold ow
  rw [if_neg (by decide), if_pos rfl]
theorem ow_2 {dn lt : Int32} : ow nF nB nT R dn lt 2 = lt := by
  unfold ow
  rw [if_neg (by decide), if_neg (by decide), if_pos rfl]
theorem ow_3 {dn lt : Int32} : ow nF nB nT R dn lt 3 = R 10 := by
  unfold ow
  rw [if_neg (by decide), if_neg (by decide), if_neg (by decide), if_pos rfl]
theorem ow_4 {dn lt : Int32} : ow nF nB nT R dn lt 4 = R 7 - R 7 / 24 * 24 := by
  unfold ow
  rw [if_neg (by decide), if_neg (by decide), if_neg (by decide), if_neg (by decide), if_pos rfl]
def S107 (a _k : Nat) : Prop := a = 107
theorem ow_lf8 (h : A8 nP nF nB nT nS nL B R n σ) {e : Env} (he : ∀ f, f < 4 → e (5 + f) = if f < nF then R (17 + f) else -1) : ∃ σ1, s_X8_tellOrderWords_l61 (0, some 107, iN 0) σ = some ((0, some 107), σ1) ∧ Ag S107 σ σ1 ∧ (∀ k, k < 5 → zi σ1 107 k = zi σ 107 k) ∧ ∀ f, f < 4 → zi σ1 107 (5 + f) = e (5 + f) := by
  have st : ∀ t, Ag S107 σ t → A8 nP nF nB nT nS nL B R n t := fun t e => h.agp (e.mono (fun a k q => Or.inr (Or.inl q)))
  refine loop_to (body := fun v => s_X8_tellOrderWords_b61 (v.1) (v.2.1) (v.2.2)) (fun i t => Ag S107 σ t ∧ (∀ k, k < 5 → zi t 107 k = zi σ 107 k) ∧ ∀ f, f < i → zi t 107 (5 + f) = e (5 + f)) (fun t => Ag S107 σ t ∧ (∀ k, k < 5 → zi t 107 k = zi σ 107 k) ∧ ∀ f, f < 4 → zi t 107 (5 + f) = e (5 + f)) (fun i => (0, some 107, iN i)) (0, some 107) 4 (fun i t hi q => ?_) (fun t q => ?_) ⟨Ag.refl, fun _ _ => rfl, fun _ q => absurd q (Nat.not_lt_zero _)⟩
  · obtain ⟨q1, q2, q3⟩ := q
    obtain ⟨hS, m8, -, -⟩ := st t q1
    have f4 : ¬ (4 : Int32) ≤ iN i := fun q => absurd ((iN_le (a := 4) (by decide) (by omega)).mp q) (by omega)
    have r0 := q_r0_0 hS
    have k0 := h_ck0 m8.2.1
    have c13 : zi t 1 13 = iN nF := m8.2.2.1.g1.trans m8.2.2.2.1.2.1.2.1
    have i1 : iN i + 1 = iN (i + 1) := iN_add i 1
    have a5 : (5 : Int32) + iN i = iN (5 + i) := iN_add 5 i
    have sv := fun v => q_st107 (n := 5 + i) (v := v) (by omega) hS
    have fin : ∀ v, v = e (5 + i) → (Ag S107 σ (zsi t 107 (5 + i) v) ∧ (∀ k, k < 5 → zi (zsi t 107 (5 + i) v) 107 k = zi σ 107 k) ∧ ∀ f, f < i + 1 → zi (zsi t 107 (5 + i) v) 107 (5 + f) = e (5 + f)) := fun v hv => ⟨q1.trans (Ag.zsi rfl), fun k hk => (zi_miss (by omega)).trans (q2 k hk), fun f hf => by
      by_cases c : f = i
      · subst c
        rw [zi_hit]
        exact hv
      · rw [zi_miss (by omega)]
        exact q3 f (by omega)⟩
    by_cases c : i < nF
    · have f8 := fk8_t m8.2.1 c13 m8.f4 c
      have r3 := h_r0_3 m8.2.1
      have l7 := h_ld7 (n := i) (by omega) m8.2.1
      rw [m8.2.2.1.on (by omega)] at l7
      have s := sv (R (17 + i))
      refine ⟨zsi t 107 (5 + i) (R (17 + i)), ?_, fin _ (by rw [he i hi, if_pos c])⟩
      generalize zsi t 107 (5 + i) (R (17 + i)) = t1 at s
      simp only [s_X8_tellOrderWords_b61, s_X8_tellOrderWords_j94, f4, r0, k0, f8, r3, l7, a5, s, i1, z10', bos, cbs, if_false]
    · have f8 := fk8_f m8.2.1 c13 (x := iN i) (Or.inr ((iN_le (by have := m8.f4; omega) (by omega)).mpr (by omega)))
      have s := sv (-1)
      refine ⟨zsi t 107 (5 + i) (-1), ?_, fin _ (by rw [he i hi, if_neg c])⟩
      generalize zsi t 107 (5 + i) (-1) = t1 at s
      simp only [s_X8_tellOrderWords_b61, s_X8_tellOrderWords_j94, f4, r0, k0, f8, a5, s, i1, bos, cbs, if_true, if_false]
  · have f4 : (4 : Int32) ≤ iN 4 := by decide
    exact ⟨t, by simp only [s_X8_tellOrderWords_b61, f4, if_true], q⟩
theorem ow_lb8 (h : A8 nP nF nB nT nS nL B R n σ) {e : Env} (he : ∀ f, f < 3 → e (9 + f) = if f < nB then R (21 + f) else -1) : ∃ σ1, s_X8_tellOrderWords_l103 (0, some 107, iN 0) σ = some ((0, some 107), σ1) ∧ Ag S107 σ σ1 ∧ (∀ k, k < 9 → zi σ1 107 k = zi σ 107 k) ∧ ∀ f, f < 3 → zi σ1 107 (9 + f) = e (9 + f) := by
  have st : ∀ t, Ag S107 σ t → A8 nP nF nB nT nS nL B R n t := fun t e => h.agp (e.mono (fun a k q => Or.inr (Or.inl q)))
  refine loop_to (body := fun v => s_X8_tellOrderWords_b103 (v.1) (v.2.1) (v.2.2)) (fun i t => Ag S107 σ t ∧ (∀ k, k < 9 → zi t 107 k = zi σ 107 k) ∧ ∀ f, f < i → zi t 107 (9 + f) = e (9 + f)) (fun t => Ag S107 σ t ∧ (∀ k, k < 9 → zi t 107 k = zi σ 107 k) ∧ ∀ f, f < 3 → zi t 107 (9 + f) = e (9 + f)) (fun i => (0, some 107, iN i)) (0, some 107) 3 (fun i t hi q => ?_) (fun t q => ?_) ⟨Ag.refl, fun _ _ => rfl, fun _ q => absurd q (Nat.not_lt_zero _)⟩
  · obtain ⟨q1, q2, q3⟩ := q
    obtain ⟨hS, m8, -, -⟩ := st t q1
    have hb3 := m8.2.2.2.1.1.2.2.1
    have f4 : ¬ (3 : Int32) ≤ iN i := fun q => absurd ((iN_le (a := 3) (by decide) (by omega)).mp q) (by omega)
    have r0 := q_r0_0 hS
    have k0 := h_ck0 m8.2.1
    have c14 : zi t 1 14 = iN nB := m8.2.2.1.g2.trans m8.2.2.2.1.2.1.2.2.1
    have i1 : iN i + 1 = iN (i + 1) := iN_add i 1
    have a5 : (9 : Int32) + iN i = iN (9 + i) := iN_add 9 i
    have sv := fun v => q_st107 (n := 9 + i) (v := v) (by omega) hS
    have fin : ∀ v, v = e (9 + i) → (Ag S107 σ (zsi t 107 (9 + i) v) ∧ (∀ k, k < 9 → zi (zsi t 107 (9 + i) v) 107 k = zi σ 107 k) ∧ ∀ f, f < i + 1 → zi (zsi t 107 (9 + i) v) 107 (9 + f) = e (9 + f)) := fun v hv => ⟨q1.trans (Ag.zsi rfl), fun k hk => (zi_miss (by omega)).trans (q2 k hk), fun f hf => by
      by_cases c : f = i
      · subst c
        rw [zi_hit]
        exact hv
      · rw [zi_miss (by omega)]
        exact q3 f (by omega)⟩
    by_cases c : i < nB
    · have f8 := bg8_t m8.2.1 c14 hb3 c
      have r3 := h_r0_4 m8.2.1
      have l7 := h_ld8 (n := i) (by omega) m8.2.1
      rw [m8.2.2.1.sow (by omega)] at l7
      have s := sv (R (21 + i))
      refine ⟨zsi t 107 (9 + i) (R (21 + i)), ?_, fin _ (by rw [he i hi, if_pos c])⟩
      generalize zsi t 107 (9 + i) (R (21 + i)) = t1 at s
      simp only [s_X8_tellOrderWords_b103, s_X8_tellOrderWords_j137, f4, r0, k0, f8, r3, l7, a5, s, i1, z10', bos, cbs, if_false]
    · have f8 := bg8_f m8.2.1 c14 (x := iN i) (Or.inr ((iN_le (by omega) (by omega)).mpr (by omega)))
      have s := sv (-1)
      refine ⟨zsi t 107 (9 + i) (-1), ?_, fin _ (by rw [he i hi, if_neg c])⟩
      generalize zsi t 107 (9 + i) (-1) = t1 at s
      simp only [s_X8_tellOrderWords_b103, s_X8_tellOrderWords_j137, f4, r0, k0, f8, a5, s, i1, bos, cbs, if_true, if_false]
  · have f4 : (3 : Int32) ≤ iN 3 := by decide
    exact ⟨t, by simp only [s_X8_tellOrderWords_b103, f4, if_true], q⟩
theorem ow_lt8 (h : A8 nP nF nB nT nS nL B R n σ) {e : Env} (he : ∀ f, f < 6 → e (12 + f) = if f < nT then R (24 + f) else -1) : ∃ σ1, s_X8_tellOrderWords_l146 (0, some 107, iN 0) σ = some ((), σ1) ∧ Ag S107 σ σ1 ∧ (∀ k, k < 12 → zi σ1 107 k = zi σ 107 k) ∧ ∀ f, f < 6 → zi σ1 107 (12 + f) = e (12 + f) := by
  have st : ∀ t, Ag S107 σ t → A8 nP nF nB nT nS nL B R n t := fun t e => h.agp (e.mono (fun a k q => Or.inr (Or.inl q)))
  refine loop_to (body := fun v => s_X8_tellOrderWords_b146 (v.1) (v.2.1) (v.2.2)) (fun i t => Ag S107 σ t ∧ (∀ k, k < 12 → zi t 107 k = zi σ 107 k) ∧ ∀ f, f < i → zi t 107 (12 + f) = e (12 + f)) (fun t => Ag S107 σ t ∧ (∀ k, k < 12 → zi t 107 k = zi σ 107 k) ∧ ∀ f, f < 6 → zi t 107 (12 + f) = e (12 + f)) (fun i => (0, some 107, iN i)) () 6 (fun i t hi q => ?_) (fun t q => ?_) ⟨Ag.refl, fun _ _ => rfl, fun _ q => absurd q (Nat.not_lt_zero _)⟩
  · obtain ⟨q1, q2, q3⟩ := q
    obtain ⟨hS, m8, -, -⟩ := st t q1
    have ht6 := m8.2.2.2.1.1.2.2.2.1
    have f4 : ¬ (6 : Int32) ≤ iN i := fun q => absurd ((iN_le (a := 6) (by decide) (by omega)).mp q) (by omega)
    have r0 := q_r0_0 hS
    have k0 := h_ck0 m8.2.1
    have c15 : zi t 1 15 = iN nT := m8.2.2.1.g3.trans m8.2.2.2.1.2.1.2.2.2.1
    have i1 : iN i + 1 = iN (i + 1) := iN_add i 1
    have a5 : (12 : Int32) + iN i = iN (12 + i) := iN_add 12 i
    have sv := fun v => q_st107 (n := 12 + i) (v := v) (by omega) hS
    have fin : ∀ v, v = e (12 + i) → (Ag S107 σ (zsi t 107 (12 + i) v) ∧ (∀ k, k < 12 → zi (zsi t 107 (12 + i) v) 107 k = zi σ 107 k) ∧ ∀ f, f < i + 1 → zi (zsi t 107 (12 + i) v) 107 (12 + f) = e (12 + f)) := fun v hv => ⟨q1.trans (Ag.zsi rfl), fun k hk => (zi_miss (by omega)).trans (q2 k hk), fun f hf => by
      by_cases c : f = i
      · subst c
        rw [zi_hit]
        exact hv
      · rw [zi_miss (by omega)]
        exact q3 f (by omega)⟩
    by_cases c : i < nT
    · have f8 := th8_t m8.2.1 c15 ht6 c
      have r3 := h_r0_5 m8.2.1
      have l7 := h_ld9 (n := i) (by omega) m8.2.1
      rw [m8.2.2.1.lies (by omega)] at l7
      have s := sv (R (24 + i))
      refine ⟨zsi t 107 (12 + i) (R (24 + i)), ?_, fin _ (by rw [he i hi, if_pos c])⟩
      generalize zsi t 107 (12 + i) (R (24 + i)) = t1 at s
      simp only [s_X8_tellOrderWords_b146, s_X8_tellOrderWords_j181, f4, r0, k0, f8, r3, l7, a5, s, i1, z10', bos, cbs, if_false]
    · have f8 := th8_f m8.2.1 c15 (x := iN i) (Or.inr ((iN_le (by omega) (by omega)).mpr (by omega)))
      have s := sv (-1)
      refine ⟨zsi t 107 (12 + i) (-1), ?_, fin _ (by rw [he i hi, if_neg c])⟩
      generalize zsi t 107 (12 + i) (-1) = t1 at s
      simp only [s_X8_tellOrderWords_b146, s_X8_tellOrderWords_j181, f4, r0, k0, f8, a5, s, i1, bos, cbs, if_true, if_false]
  · have f4 : (6 : Int32) ≤ iN 6 := by decide
    exact ⟨t, by simp only [s_X8_tellOrderWords_b146, f4, if_true], q⟩
theorem owpre8 (h : A8 nP nF nB nT nS nL B R n σ) : ∃ u5, Ag S107 σ u5 ∧ (∀ k, k < 5 → zi u5 107 k = ow nF nB nT R (zi σ 0 13) (zi σ 0 14) k) ∧ s_X8_tellOrderWords 0 σ = (cb (s_X8_tellOrderWords_l61 (0, some 107, 0) u5) fun e40 σ39 => match e40 with | (h25, l126) => cb (s_X8_tellOrderWords_l103 ((h25), (l126), (0)) σ39) fun e37 σ36 => match e37 with | (h28, l129) => cb (s_X8_tellOrderWords_l146 ((h28), (l129), (0)) σ36) fun r32 σ33 => some (r32, σ33)) := by
  obtain ⟨hS, m8, n1, hn⟩ := id h
  have r7 := q_r0_7 hS
  have r6 := q_r106_0 hS
  have r0 := q_r0_0 hS
  have r10 := h_r0_10 m8.2.1
  have l14 := h_ld14 (n := 0) (by decide) m8.2.1
  rw [m8.2.2.1.g7] at l14
  have l14 : ldI 11 σ (1 + 14) 0 = _ := l14
  have s0 : stI σ 107 0 (R 7) = some (zsi σ 107 0 (R 7)) := q_st107 (n := 0) (by decide) hS
  have e1 : Ag S107 σ (zsi σ 107 0 (R 7)) := Ag.zsi rfl
  have v0 : zi (zsi σ 107 0 (R 7)) 107 0 = R 7 := zi_hit
  have S1 : SK (zsi σ 107 0 (R 7)) := hS.ag e1
  generalize zsi σ 107 0 (R 7) = u1 at s0 e1 v0 S1
  have i13 := q_i0 (k := 13) S1
  rw [(e1.2.2.2.2 0 13 (by unfold S107; decide)).1] at i13
  have s1 : stI u1 107 1 (zi σ 0 13) = some (zsi u1 107 1 (zi σ 0 13)) := q_st107 (n := 1) (by decide) S1
  have e2 : Ag S107 σ (zsi u1 107 1 (zi σ 0 13)) := e1.trans (Ag.zsi rfl)
  have w0 : zi (zsi u1 107 1 (zi σ 0 13)) 107 0 = R 7 := (zi_miss (by decide)).trans v0
  have w1 : zi (zsi u1 107 1 (zi σ 0 13)) 107 1 = zi σ 0 13 := zi_hit
  have S2 : SK (zsi u1 107 1 (zi σ 0 13)) := hS.ag e2
  generalize zsi u1 107 1 (zi σ 0 13) = u2 at s1 e2 w0 w1 S2
  have i14 := q_i0 (k := 14) S2
  rw [(e2.2.2.2.2 0 14 (by unfold S107; decide)).1] at i14
  have s2 : stI u2 107 2 (zi σ 0 14) = some (zsi u2 107 2 (zi σ 0 14)) := q_st107 (n := 2) (by decide) S2
  have e3 : Ag S107 σ (zsi u2 107 2 (zi σ 0 14)) := e2.trans (Ag.zsi rfl)
  have x0 : zi (zsi u2 107 2 (zi σ 0 14)) 107 0 = R 7 := (zi_miss (by decide)).trans w0
  have x1 : zi (zsi u2 107 2 (zi σ 0 14)) 107 1 = zi σ 0 13 := (zi_miss (by decide)).trans w1
  have x2 : zi (zsi u2 107 2 (zi σ 0 14)) 107 2 = zi σ 0 14 := zi_hit
  have S3 : SK (zsi u2 107 2 (zi σ 0 14)) := hS.ag e3
  generalize zsi u2 107 2 (zi σ 0 14) = u3 at s2 e3 x0 x1 x2 S3
  have A3 : A8 nP nF nB nT nS nL B R n u3 := h.agp (e3.mono (fun a k q => Or.inr (Or.inl q)))
  have r03 := q_r0_0 S3
  have i18 := h_i0 (k := 18) S3.hk1
  rw [A3.2.1.2.2.1.g10] at i18
  have s3 : stI u3 107 3 (R 10) = some (zsi u3 107 3 (R 10)) := q_st107 (n := 3) (by decide) S3
  have e4 : Ag S107 σ (zsi u3 107 3 (R 10)) := e3.trans (Ag.zsi rfl)
  have y0 : zi (zsi u3 107 3 (R 10)) 107 0 = R 7 := (zi_miss (by decide)).trans x0
  have y1 : zi (zsi u3 107 3 (R 10)) 107 1 = zi σ 0 13 := (zi_miss (by decide)).trans x1
  have y2 : zi (zsi u3 107 3 (R 10)) 107 2 = zi σ 0 14 := (zi_miss (by decide)).trans x2
  have y3 : zi (zsi u3 107 3 (R 10)) 107 3 = R 10 := zi_hit
  have S4 : SK (zsi u3 107 3 (R 10)) := hS.ag e4
  generalize zsi u3 107 3 (R 10) = u4 at s3 e4 y0 y1 y2 y3 S4
  have A4 : A8 nP nF nB nT nS nL B R n u4 := h.agp (e4.mono (fun a k q => Or.inr (Or.inl q)))
  have r04 := q_r0_0 S4
  have r10b := h_r0_10 S4.hk1
  have l14b := h_ld14 (n := 0) (by decide) S4.hk1
  rw [A4.2.1.2.2.1.g7] at l14b
  have l14b : ldI 11 u4 (1 + 14) 0 = _ := l14b
  obtain ⟨X, hX⟩ : ∃ X, X = R 7 - R 7 / 24 * 24 := ⟨_, rfl⟩
  have s4 : stI u4 107 4 X = some (zsi u4 107 4 X) := q_st107 (n := 4) (by decide) S4
  have e5 : Ag S107 σ (zsi u4 107 4 X) := e4.trans (Ag.zsi rfl)
  have z : ∀ k, k < 5 → zi (zsi u4 107 4 X) 107 k = ow nF nB nT R (zi σ 0 13) (zi σ 0 14) k := fun k hk => by
    have : k = 0 ∨ k = 1 ∨ k = 2 ∨ k = 3 ∨ k = 4 := by omega
    rcases this with rfl | rfl | rfl | rfl | rfl
    · rw [ow_0, zi_miss (by decide), y0]
    · rw [ow_1, zi_miss (by decide), y1]
    · rw [ow_2, zi_miss (by decide), y2]
    · rw [ow_3, zi_miss (by decide), y3]
    · rw [ow_4, zi_hit, hX]
  refine ⟨_, e5, z, ?_⟩
  unfold s_X8_tellOrderWords
  rw [r7, bos, bos, r6, bos, r0, bos, bos, r10, bos, bos, l14, bos, bos, s0, bos, i13, bos, s1, bos, i14, bos, s2, bos, r03, bos, bos, i18, bos, s3, bos, r04, bos, bos, r10b, bos, bos, l14b, bos, ← hX, s4, bos]
theorem owords8 (h : A8 nP nF nB nT nS nL B R n σ) : ∃ σ1, s_X8_tellOrderWords 0 σ = some ((), σ1) ∧ Ag S107 σ σ1 ∧ ∀ k, k < 18 → zi σ1 107 k = ow nF nB nT R (zi σ 0 13) (zi σ 0 14) k := by
  obtain ⟨u5, e5, z, st⟩ := owpre8 h
  generalize ho : ow nF nB nT R (zi σ 0 13) (zi σ 0 14) = o at z ⊢
  have o5 : ∀ f, f < 4 → o (5 + f) = if f < nF then R (17 + f) else -1 := fun f hf => by
    rw [← ho]
    exact ow_f hf
  have o9 : ∀ f, f < 3 → o (9 + f) = if f < nB then R (21 + f) else -1 := fun f hf => by
    rw [← ho]
    exact ow_b hf
  have o12 : ∀ f, f < 6 → o (12 + f) = if f < nT then R (24 + f) else -1 := fun f hf => by
    rw [← ho]
    exact ow_t
  have A5 : A8 nP nF nB nT nS nL B R n u5 := h.agp (e5.mono (fun a k q => Or.inr (Or.inl q)))
  obtain ⟨u6, c6, e6, g6, f6⟩ := ow_lf8 A5 (e := o) o5
  have A6 : A8 nP nF nB nT nS nL B R n u6 := A5.agp (e6.mono (fun a k q => Or.inr (Or.inl q)))
  obtain ⟨u7, c7, e7, g7, f7⟩ := ow_lb8 A6 (e := o) o9
  have A7 : A8 nP nF nB nT nS nL B R n u7 := A6.agp (e7.mono (fun a k q => Or.inr (Or.inl q)))
  obtain ⟨u8, c8, e8, g8, f8⟩ := ow_lt8 A7 (e := o) o12
  have c6 : s_X8_tellOrderWords_l61 (0, some 107, 0) u5 = _ := c6
  have c7 : s_X8_tellOrderWords_l103 (0, some 107, 0) u6 = _ := c7
  have c8 : s_X8_tellOrderWords_l146 (0, some 107, 0) u7 = _ := c8
  refine ⟨u8, ?_, ((e5.trans e6).trans e7).trans e8, fun k hk => ?_⟩
  · rw [st, c6, cbs]
    show (cb (s_X8_tellOrderWords_l103 (0, some 107, 0) u6) fun e37 σ36 => match e37 with | (h28, l129) => cb (s_X8_tellOrderWords_l146 ((h28), (l129), (0)) σ36) fun r32 σ33 => some (r32, σ33)) = _
    rw [c7, cbs]
    show (cb (s_X8_tellOrderWords_l146 (0, some 107, 0) u7) fun r32 σ33 => some (r32, σ33)) = _
    rw [c8, cbs]
  · by_cases k5 : k < 5
    · rw [g8 k (by omega), g7 k (by omega), g6 k k5]
      exact z k k5
    · by_cases k9 : k < 9
      · have q := f6 (k - 5) (by omega)
        rw [show 5 + (k - 5) = k by omega] at q
        rw [g8 k (by omega), g7 k (by omega)]
        exact q
      · by_cases k12 : k < 12
        · have q := f7 (k - 9) (by omega)
          rw [show 9 + (k - 9) = k by omega] at q
          rw [g8 k k12]
          exact q
        · have q := f8 (k - 12) (by omega)
          rw [show 12 + (k - 12) = k by omega] at q
          exact q
end OWD
