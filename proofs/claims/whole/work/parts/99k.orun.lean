/-! ===== the reference's words before an order runs ===== -/
section ORN
variable {σ : Hp} {nP nF nB nT nS nL n : Nat} {B : Book} {R : Nat → Int32}
def S44 (a k : Nat) : Prop := a = 144 ∨ (a = 125 ∧ k = 53)
theorem owords9 (h : A9 nP nF nB nT nS nL B R n σ) {p : Int32} : ∃ u, Ag S44 σ u ∧ OW9 nF nB nT R (ow nF nB nT R (zi σ 125 50) (zi σ 125 51)) u ∧ zi u 125 53 = 0 ∧ s_X9_run 125 p σ = (rdR 9 u 125 49).bind fun r28 => (r28).bind fun a29 => (ldI 11 u a29 (p + 5)).bind fun v30 => (rdR 9 u 125 49).bind fun r31 => (r31).bind fun a32 => (ldI 11 u a32 (p + 6)).bind fun v33 => if v33 ≤ v30 then s_X9_run_j113 125 p u else (ck 9 u 125).bind fun _ => cb (s_X9_sumOf 125 (p + 5) u) fun v36 σ35 => (rdI 9 σ35 125 53).bind fun v37 => if v37 = 0 then (if v36 = 0 then some (0, σ35) else s_X9_run_j113 125 p σ35) else some (0, σ35) := by
  have m9 := h.1
  have hS := m9.1
  have hw := m9.2.2.1
  have r36 := q_r125_36 hS
  have r3 := q_r125_3 hS
  have l7 := m9.k (k := 7) (by decide)
  have l7 : ldI 11 σ 127 7 = some (R 7) := l7
  have s1 : ∀ v, stJ σ 144 1 v = some (zsj σ 144 1 v) := fun v => q_st144 (n := 1) (by decide) hS
  have s1 := s1 (Int32.toInt64 (R 7))
  have e1 : Ag S44 σ (zsj σ 144 1 (Int32.toInt64 (R 7))) := Ag.zsj (Or.inl rfl)
  have v1 : zj (zsj σ 144 1 (Int32.toInt64 (R 7))) 144 1 = Int32.toInt64 (R 7) := zj_hit
  have S1 := hS.ag e1
  generalize zsj σ 144 1 (Int32.toInt64 (R 7)) = u1 at s1 e1 v1 S1
  have r361 := q_r125_36 S1
  have i50 := q_i125 (k := 50) S1
  rw [(e1.2.2.2.2 125 50 (by unfold S44; omega)).1] at i50
  have s2 : ∀ v, stJ u1 144 2 v = some (zsj u1 144 2 v) := fun v => q_st144 (n := 2) (by decide) S1
  have s2 := s2 (Int32.toInt64 (zi σ 125 50))
  have e2 : Ag S44 σ (zsj u1 144 2 (Int32.toInt64 (zi σ 125 50))) := e1.trans (Ag.zsj (Or.inl rfl))
  have w1 : zj (zsj u1 144 2 (Int32.toInt64 (zi σ 125 50))) 144 1 = Int32.toInt64 (R 7) := (zj_miss (by decide)).trans v1
  have w2 : zj (zsj u1 144 2 (Int32.toInt64 (zi σ 125 50))) 144 2 = Int32.toInt64 (zi σ 125 50) := zj_hit
  have S2 := hS.ag e2
  generalize zsj u1 144 2 (Int32.toInt64 (zi σ 125 50)) = u2 at s2 e2 w1 w2 S2
  have r362 := q_r125_36 S2
  have i51 := q_i125 (k := 51) S2
  rw [(e2.2.2.2.2 125 51 (by unfold S44; omega)).1] at i51
  have s3 : ∀ v, stJ u2 144 3 v = some (zsj u2 144 3 v) := fun v => q_st144 (n := 3) (by decide) S2
  have s3 := s3 (Int32.toInt64 (zi σ 125 51))
  have e3 : Ag S44 σ (zsj u2 144 3 (Int32.toInt64 (zi σ 125 51))) := e2.trans (Ag.zsj (Or.inl rfl))
  have x1 : zj (zsj u2 144 3 (Int32.toInt64 (zi σ 125 51))) 144 1 = Int32.toInt64 (R 7) := (zj_miss (by decide)).trans w1
  have x2 : zj (zsj u2 144 3 (Int32.toInt64 (zi σ 125 51))) 144 2 = Int32.toInt64 (zi σ 125 50) := (zj_miss (by decide)).trans w2
  have x3 : zj (zsj u2 144 3 (Int32.toInt64 (zi σ 125 51))) 144 3 = Int32.toInt64 (zi σ 125 51) := zj_hit
  have S3 := hS.ag e3
  generalize zsj u2 144 3 (Int32.toInt64 (zi σ 125 51)) = u3 at s3 e3 x1 x2 x3 S3
  have c127 : ∀ {t : Hp}, Ag S44 σ t → zi t 127 = R := fun {t} e => (funext fun k => (e.2.2.2.2 127 k (by unfold S44; omega)).1).trans m9.2.1
  have r363 := q_r125_36 S3
  have r33 := q_r125_3 S3
  have l10 : ldI 11 u3 127 10 = some (R 10) := (q_ld127 (n := 10) (by decide) S3).trans (by rw [c127 e3])
  have s4 : ∀ v, stJ u3 144 4 v = some (zsj u3 144 4 v) := fun v => q_st144 (n := 4) (by decide) S3
  have s4 := s4 (Int32.toInt64 (R 10))
  have e4 : Ag S44 σ (zsj u3 144 4 (Int32.toInt64 (R 10))) := e3.trans (Ag.zsj (Or.inl rfl))
  have y1 : zj (zsj u3 144 4 (Int32.toInt64 (R 10))) 144 1 = Int32.toInt64 (R 7) := (zj_miss (by decide)).trans x1
  have y2 : zj (zsj u3 144 4 (Int32.toInt64 (R 10))) 144 2 = Int32.toInt64 (zi σ 125 50) := (zj_miss (by decide)).trans x2
  have y3 : zj (zsj u3 144 4 (Int32.toInt64 (R 10))) 144 3 = Int32.toInt64 (zi σ 125 51) := (zj_miss (by decide)).trans x3
  have y4 : zj (zsj u3 144 4 (Int32.toInt64 (R 10))) 144 4 = Int32.toInt64 (R 10) := zj_hit
  have S4 := hS.ag e4
  generalize zsj u3 144 4 (Int32.toInt64 (R 10)) = u4 at s4 e4 y1 y2 y3 y4 S4
  have r364 := q_r125_36 S4
  have r34 := q_r125_3 S4
  have l74 : ldI 11 u4 127 7 = some (R 7) := (q_ld127 (n := 7) (by decide) S4).trans (by rw [c127 e4])
  obtain ⟨X, hX⟩ : ∃ X, X = Int32.toInt64 (R 7 - R 7 / 24 * 24) := ⟨_, rfl⟩
  have s5 : ∀ v, stJ u4 144 5 v = some (zsj u4 144 5 v) := fun v => q_st144 (n := 5) (by decide) S4
  have s5 := s5 X
  have e5 : Ag S44 σ (zsj u4 144 5 X) := e4.trans (Ag.zsj (Or.inl rfl))
  have z1 : zj (zsj u4 144 5 X) 144 1 = Int32.toInt64 (R 7) := (zj_miss (by decide)).trans y1
  have z2 : zj (zsj u4 144 5 X) 144 2 = Int32.toInt64 (zi σ 125 50) := (zj_miss (by decide)).trans y2
  have z3 : zj (zsj u4 144 5 X) 144 3 = Int32.toInt64 (zi σ 125 51) := (zj_miss (by decide)).trans y3
  have z4 : zj (zsj u4 144 5 X) 144 4 = Int32.toInt64 (R 10) := (zj_miss (by decide)).trans y4
  have z5 : zj (zsj u4 144 5 X) 144 5 = X := zj_hit
  have S5 := hS.ag e5
  generalize zsj u4 144 5 X = u5 at s5 e5 z1 z2 z3 z4 z5 S5
  have w53 := q_wz125 (k := 53) (v := 0) (Or.inl rfl) S5
  have e6 : Ag S44 σ (zsi u5 125 53 0) := e5.trans (Ag.zsi (Or.inr ⟨rfl, rfl⟩))
  have v53 : zi (zsi u5 125 53 0) 125 53 = 0 := zi_hit
  have e56 : Ag (fun a k => a = 125 ∧ k = 53) u5 (zsi u5 125 53 0) := Ag.zsi ⟨rfl, rfl⟩
  have jj : ∀ k, zj (zsi u5 125 53 0) 144 k = zj u5 144 k := fun k => (e56.2.2.2.2 144 k (by omega)).2
  have S6 := hS.ag e6
  clear e56
  generalize zsi u5 125 53 0 = u6 at w53 e6 v53 jj S6
  refine ⟨u6, e6, ⟨S6, c127 e6, ⟨hw.2.1.2.1, hw.2.1.2.2.1, hw.2.1.2.2.2.1, hw.1.2.1, hw.1.2.2.1, hw.1.2.2.2.1⟩, fun k hk => ?_, fun f hf => ow_f hf, fun f hf => ow_b hf, fun f _ => ow_t⟩, v53, ?_⟩
  · have : k = 0 ∨ k = 1 ∨ k = 2 ∨ k = 3 ∨ k = 4 := by omega
    rcases this with rfl | rfl | rfl | rfl | rfl
    · rw [ow_0, jj, z1]
    · rw [ow_1, jj, z2]
    · rw [ow_2, jj, z3]
    · rw [ow_3, jj, z4]
    · rw [ow_4, jj, z5, hX]
  · unfold s_X9_run
    rw [r36, bos, r3, bos, bos, l7, bos, bos, s1, bos, r361, bos, i50, bos, bos, s2, bos, r362, bos, i51, bos, bos, s3, bos, r363, bos, r33, bos, bos, l10, bos, bos, s4, bos, r364, bos, r34, bos, bos, l74, bos, bos, ← hX, s5, bos, w53, bos]
end ORN
