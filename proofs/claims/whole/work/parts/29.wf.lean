/-! ===== one more of a kind ===== -/
theorem bd_iN {n m : Nat} (h : n ≤ m) : bd (iN n) m := ⟨n, h, rfl⟩
theorem okI.mono {nP nF nT nP2 nF2 nT2 H H2 i : Nat} {x : Int32} (h : okI nP nF nT H i x) (h1 : nP ≤ nP2) (h1b : nP2 ≤ 10) (h2 : i - 17 < nF2 → i - 17 < nF ∨ ¬ (17 ≤ i ∧ i < 21) ∨ x < iN nP2) (h3 : i - 24 < nT2 → i - 24 < nT ∨ ¬ (24 ≤ i ∧ i < 30) ∨ x < iN nP2) (hH : H ≤ H2) : okI nP2 nF2 nT2 H2 i x := by
  have hlt : ∀ y : Int32, y < iN nP → y < iN nP2 := fun y hy => by
    have := Int32.lt_iff_toInt_lt.mp hy
    refine Int32.lt_iff_toInt_lt.mpr ?_
    rw [iN_int (by omega)] at *
    omega
  unfold okI at *
  by_cases c1 : i = 7
  · rw [if_pos c1] at *
    obtain ⟨n, q1, q2⟩ := h
    exact ⟨n, by omega, q2⟩
  rw [if_neg c1] at *
  by_cases c2 : i = 8
  · rw [if_pos c2] at *
    exact h
  rw [if_neg c2] at *
  by_cases c3 : i = 9
  · rw [if_pos c3] at *
    exact h
  rw [if_neg c3] at *
  by_cases c4 : i = 10
  · rw [if_pos c4] at *
    exact h
  rw [if_neg c4] at *
  by_cases c5 : i < 17
  · rw [if_pos c5] at *
    exact h
  rw [if_neg c5] at *
  by_cases c6 : i < 21
  · rw [if_pos c6] at *
    refine ⟨h.1, fun q => ?_⟩
    rcases h2 q with q1 | q1 | q1
    · exact hlt _ (h.2 q1)
    · exact absurd ⟨by omega, c6⟩ q1
    · exact q1
  rw [if_neg c6] at *
  by_cases c7 : i < 24
  · rw [if_pos c7] at *
    exact h
  rw [if_neg c7] at *
  by_cases c8 : i < 30
  · rw [if_pos c8] at *
    refine ⟨h.1, fun q => ?_⟩
    rcases h3 q with q1 | q1 | q1
    · exact hlt _ (h.2 q1)
    · exact absurd ⟨by omega, c8⟩ q1
    · exact q1
  rw [if_neg c8] at *
  exact h
section NW
variable {nP nF nB nT nS nL H : Nat} {R : Nat → Int32}
theorem WF.hi (h : WF nP nF nB nT nS nL H R) {H2 : Nat} (hH : H ≤ H2) : WF nP nF nB nT nS nL H2 R :=
  ⟨h.1, h.2.1, h.2.2.1, fun i h1 h2 => (h.2.2.2 i h1 h2).mono (Nat.le_refl _) h.1.1 (fun q => Or.inl q) (fun q => Or.inl q) hH⟩
theorem WF.mP (h : WF nP nF nB nT nS nL H R) (hp : nP < 10) : WF (nP + 1) nF nB nT nS nL H (up R 0 (iN (nP + 1))) := by
  obtain ⟨⟨b1, b2, b3, b4, b5, b6⟩, ⟨e1, e2, e3, e4, e5, e6⟩, h3, h4⟩ := h
  refine ⟨⟨hp, b2, b3, b4, b5, b6⟩, ⟨up_eq, ?_, ?_, ?_, ?_, ?_⟩, ?_, fun i h1 h2 => ?_⟩
  · rw [up_ne (by decide)]; exact e2
  · rw [up_ne (by decide)]; exact e3
  · rw [up_ne (by decide)]; exact e4
  · rw [up_ne (by decide)]; exact e5
  · rw [up_ne (by decide)]; exact e6
  · rw [up_ne (by decide)]; exact h3
  · rw [up_ne (by omega)]
    exact (h4 i h1 h2).mono (by omega) (by omega) (fun q => Or.inl q) (fun q => Or.inl q) (Nat.le_refl _)
theorem WF.mF (h : WF nP nF nB nT nS nL H R) (hp : nF < 4) (hs : R (17 + nF) < iN nP) : WF nP (nF + 1) nB nT nS nL H (up R 1 (iN (nF + 1))) := by
  obtain ⟨⟨b1, b2, b3, b4, b5, b6⟩, ⟨e1, e2, e3, e4, e5, e6⟩, h3, h4⟩ := h
  refine ⟨⟨b1, hp, b3, b4, b5, b6⟩, ⟨?_, up_eq, ?_, ?_, ?_, ?_⟩, ?_, fun i h1 h2 => ?_⟩
  · rw [up_ne (by decide)]; exact e1
  · rw [up_ne (by decide)]; exact e3
  · rw [up_ne (by decide)]; exact e4
  · rw [up_ne (by decide)]; exact e5
  · rw [up_ne (by decide)]; exact e6
  · rw [up_ne (by decide)]; exact h3
  · rw [up_ne (by omega)]
    refine (h4 i h1 h2).mono (Nat.le_refl _) b1 (fun q => ?_) (fun q => Or.inl q) (Nat.le_refl _)
    by_cases c : i = 17 + nF
    · subst c
      exact Or.inr (Or.inr hs)
    · by_cases c2 : 17 ≤ i ∧ i < 21
      · exact Or.inl (by omega)
      · exact Or.inr (Or.inl c2)
theorem WF.mT (h : WF nP nF nB nT nS nL H R) (hp : nT < 6) (hs : R (24 + nT) < iN nP) : WF nP nF nB (nT + 1) nS nL H (up R 3 (iN (nT + 1))) := by
  obtain ⟨⟨b1, b2, b3, b4, b5, b6⟩, ⟨e1, e2, e3, e4, e5, e6⟩, h3, h4⟩ := h
  refine ⟨⟨b1, b2, b3, hp, b5, b6⟩, ⟨?_, ?_, ?_, up_eq, ?_, ?_⟩, ?_, fun i h1 h2 => ?_⟩
  · rw [up_ne (by decide)]; exact e1
  · rw [up_ne (by decide)]; exact e2
  · rw [up_ne (by decide)]; exact e3
  · rw [up_ne (by decide)]; exact e5
  · rw [up_ne (by decide)]; exact e6
  · rw [up_ne (by decide)]; exact h3
  · rw [up_ne (by omega)]
    refine (h4 i h1 h2).mono (Nat.le_refl _) b1 (fun q => Or.inl q) (fun q => ?_) (Nat.le_refl _)
    by_cases c : i = 24 + nT
    · subst c
      exact Or.inr (Or.inr hs)
    · by_cases c2 : 24 ≤ i ∧ i < 30
      · exact Or.inl (by omega)
      · exact Or.inr (Or.inl c2)
theorem WF.mB (h : WF nP nF nB nT nS nL H R) (hp : nB < 3) : WF nP nF (nB + 1) nT nS nL H (up R 2 (iN (nB + 1))) := by
  obtain ⟨⟨b1, b2, b3, b4, b5, b6⟩, ⟨e1, e2, e3, e4, e5, e6⟩, h3, h4⟩ := h
  refine ⟨⟨b1, b2, hp, b4, b5, b6⟩, ⟨?_, ?_, up_eq, ?_, ?_, ?_⟩, ?_, fun i h1 h2 => ?_⟩
  · rw [up_ne (by decide)]; exact e1
  · rw [up_ne (by decide)]; exact e2
  · rw [up_ne (by decide)]; exact e4
  · rw [up_ne (by decide)]; exact e5
  · rw [up_ne (by decide)]; exact e6
  · rw [up_ne (by decide)]; exact h3
  · rw [up_ne (by omega)]
    exact h4 i h1 h2
theorem WF.mS (h : WF nP nF nB nT nS nL H R) {m : Nat} (hp : m ≤ 6) : WF nP nF nB nT m nL H (up R 4 (iN m)) := by
  obtain ⟨⟨b1, b2, b3, b4, b5, b6⟩, ⟨e1, e2, e3, e4, e5, e6⟩, h3, h4⟩ := h
  refine ⟨⟨b1, b2, b3, b4, hp, b6⟩, ⟨?_, ?_, ?_, ?_, up_eq, ?_⟩, ?_, fun i h1 h2 => ?_⟩
  · rw [up_ne (by decide)]; exact e1
  · rw [up_ne (by decide)]; exact e2
  · rw [up_ne (by decide)]; exact e3
  · rw [up_ne (by decide)]; exact e4
  · rw [up_ne (by decide)]; exact e6
  · rw [up_ne (by decide)]; exact h3
  · rw [up_ne (by omega)]
    exact h4 i h1 h2
theorem WF.inF (h : WF nP nF nB nT nS nL H R) {x : Int32} (hx : x = -1 ∨ ∃ j, j < nL ∧ x = iN j) : WF nP nF nB nT nS nL H (up R 6 x) := by
  obtain ⟨h1, ⟨e1, e2, e3, e4, e5, e6⟩, h3, h4⟩ := h
  refine ⟨h1, ⟨?_, ?_, ?_, ?_, ?_, ?_⟩, ?_, fun i h1 h2 => ?_⟩
  · rw [up_ne (by decide)]; exact e1
  · rw [up_ne (by decide)]; exact e2
  · rw [up_ne (by decide)]; exact e3
  · rw [up_ne (by decide)]; exact e4
  · rw [up_ne (by decide)]; exact e5
  · rw [up_ne (by decide)]; exact e6
  · rw [up_eq]; exact hx
  · rw [up_ne (by omega)]
    exact h4 i h1 h2
theorem Un.zero {σ : Hp} (e1 : zi σ 109 1 = 0) (e2 : zi σ 125 8 = 0) : Un nP nF nT 0 σ := ⟨Nat.zero_le _, e1, e2, fun k hk => absurd hk (Nat.not_lt_zero k)⟩
/-- deeds do not feel what lies outside the places 7 to 29 -/
theorem Un.row {σ σ1 : Hp} {n : Nat} {R1 : Nat → Int32} (h : Un nP nF nT n σ) (e1 : zi σ1 109 1 = zi σ 109 1) (e2 : zi σ1 125 8 = zi σ 125 8) (e3 : zi σ1 110 = zi σ 110) (e4 : zi σ1 131 = zi σ 131) (e5 : zi σ1 130 = zi σ 130) (e6 : zi σ1 127 = R1) (e7 : ∀ i, 7 ≤ i → i < 30 → R1 i = zi σ 127 i) : Un nP nF nT n σ1 := by
  unfold Un at *
  rw [e1, e2, e3, e4, e5, e6]
  obtain ⟨h1, h2, h3, h4⟩ := h
  refine ⟨h1, h2, h3, fun k hk => ?_⟩
  have es : ∀ k, ∀ i, i < 23 → snap n R1 (zi σ 130) k i = snap n (zi σ 127) (zi σ 130) k i := fun k i hi => by
    unfold snap
    rw [e7 (7 + i) (by omega) (by omega)]
  obtain ⟨g1, g2, g3⟩ := h4 k hk
  refine ⟨g1, fun i hi => by rw [es k i hi]; exact g2 i hi, ?_⟩
  have eu : ∀ (f : Nat → Int32) (g : Nat → Int32) (a i : Nat) (v : Int32), f i = g i → up f a v i = up g a v i := fun f g a i v q => by
    unfold up
    rw [q]
  rcases g3 with ⟨q, f, q1, q2, q3⟩ | ⟨q, f, q1, q2, q3⟩ | ⟨q, x, y, q1, q2, q3, q4, q5, q6⟩ | ⟨q, q3⟩
  · exact Or.inl ⟨q, f, q1, q2, fun i hi => by rw [es k i hi, q3 i hi]; exact (eu _ _ _ _ _ (es (k + 1) i hi)).symm⟩
  · exact Or.inr (Or.inl ⟨q, f, q1, q2, fun i hi => by rw [es k i hi, q3 i hi]; exact (eu _ _ _ _ _ (es (k + 1) i hi)).symm⟩)
  · refine Or.inr (Or.inr (Or.inl ⟨q, x, y, q1, q2, q3, q4, q5, fun i hi => ?_⟩))
    rw [es k i hi, q6 i hi, es (k + 1) (4 + x) (by omega), es (k + 1) (4 + y) (by omega)]
    exact (eu _ _ _ _ _ (eu _ _ _ _ _ (es (k + 1) i hi))).symm
  · refine Or.inr (Or.inr (Or.inr ⟨q, fun i hi => ?_⟩))
    rw [es k i hi, q3 i hi, es (k + 1) 0 (by omega)]
    exact (eu _ _ _ _ _ (eu _ _ _ _ _ (eu _ _ _ _ _ (eu _ _ _ _ _ (eu _ _ _ _ _ (es (k + 1) i hi)))))).symm
theorem okI_room {i p : Nat} {x : Int32} (e : i = 30 + p) (hp : p < 10) (h : bd x 5) : okI nP nF nT H i x := by
  subst e
  unfold okI
  rwa [if_neg (by omega), if_neg (by omega), if_neg (by omega), if_neg (by omega), if_neg (by omega), if_neg (by omega), if_neg (by omega), if_neg (by omega), if_pos (by omega)]
theorem okI_high {i p : Nat} {x : Int32} (e : i = 40 + p) (hp : p < 10) (h : bd x 9) : okI nP nF nT H i x := by
  subst e
  unfold okI
  rwa [if_neg (by omega), if_neg (by omega), if_neg (by omega), if_neg (by omega), if_neg (by omega), if_neg (by omega), if_neg (by omega), if_neg (by omega), if_neg (by omega), if_pos (by omega)]
theorem okI_on {f : Nat} {x : Int32} (hf : f < 4) (h : bd x 9) (h2 : x < iN nP) : okI nP nF nT H (17 + f) x := by
  unfold okI
  rw [if_neg (by omega), if_neg (by omega), if_neg (by omega), if_neg (by omega), if_neg (by omega), if_pos (by omega)]
  exact ⟨h, fun _ => h2⟩
theorem okI_lies {t : Nat} {x : Int32} (ht : t < 6) (h : bd x 9) (h2 : x < iN nP) : okI nP nF nT H (24 + t) x := by
  unfold okI
  rw [if_neg (by omega), if_neg (by omega), if_neg (by omega), if_neg (by omega), if_neg (by omega), if_neg (by omega), if_neg (by omega), if_pos (by omega)]
  exact ⟨h, fun _ => h2⟩
theorem okI_sow {k : Nat} {x : Int32} (hk : k < 3) (h : bd x 5) : okI nP nF nT H (21 + k) x := by
  unfold okI
  rwa [if_neg (by omega), if_neg (by omega), if_neg (by omega), if_neg (by omega), if_neg (by omega), if_neg (by omega), if_pos (by omega)]
theorem okI_doors {r : Nat} {x : Int32} (hr : r < 6) (h : bd x 63) : okI nP nF nT H (11 + r) x := by
  unfold okI
  rwa [if_neg (by omega), if_neg (by omega), if_neg (by omega), if_neg (by omega), if_pos (by omega)]
theorem okI_bd9 {i : Nat} {x : Int32} (h1 : 150 ≤ i) (h2 : i < 166) (h : bd x 9) : okI nP nF nT H i x := by
  unfold okI
  rwa [if_neg (by omega), if_neg (by omega), if_neg (by omega), if_neg (by omega), if_neg (by omega), if_neg (by omega), if_neg (by omega), if_neg (by omega), if_neg (by omega), if_neg (by omega), if_neg (by omega), if_pos (by omega)]
theorem okI_link {i : Nat} {x : Int32} (hi : i < 100) (h : bd x 9) (h2 : i % 11 ≠ 0) : okI nP nF nT H (50 + i) x := by
  unfold okI
  rw [if_neg (by omega), if_neg (by omega), if_neg (by omega), if_neg (by omega), if_neg (by omega), if_neg (by omega), if_neg (by omega), if_neg (by omega), if_neg (by omega), if_neg (by omega), if_pos (by omega)]
  exact ⟨h, fun q => absurd q (by omega)⟩
theorem okI_seenH {s : Nat} {x : Int32} (hs : s < 6) (h : bd x 60) : okI nP nF nT H (166 + 2 * s) x := by
  unfold okI
  rwa [if_neg (by omega), if_neg (by omega), if_neg (by omega), if_neg (by omega), if_neg (by omega), if_neg (by omega), if_neg (by omega), if_neg (by omega), if_neg (by omega), if_neg (by omega), if_neg (by omega), if_neg (by omega), if_pos (by omega)]
theorem okI_seenR {s : Nat} {x : Int32} (hs : s < 6) (h : bd x 5) : okI nP nF nT H (167 + 2 * s) x := by
  unfold okI
  rwa [if_neg (by omega), if_neg (by omega), if_neg (by omega), if_neg (by omega), if_neg (by omega), if_neg (by omega), if_neg (by omega), if_neg (by omega), if_neg (by omega), if_neg (by omega), if_neg (by omega), if_neg (by omega), if_neg (by omega)]
end NW
