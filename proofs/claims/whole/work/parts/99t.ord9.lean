/-! ===== the reference runs orders ===== -/
section ORF
variable {σ : Hp} {L k q c nT : Nat} {tb : Nat → Nat}
def S46 (a k : Nat) : Prop := (a = 125 ∧ (k = 13 ∨ k = 20 ∨ k = 50 ∨ k = 51)) ∨ (a = 130 ∧ 368 ≤ k) ∨ a = 132 ∨ a = 133
theorem or77 (hS : SK σ) {had : Int32} : ∃ s, s_X9_orders_l77 (125, had, 0) σ = some ((125, had), s) ∧ Ag (Cp 132 0 368) σ s ∧ ∀ i, i < 368 → zi s 132 i = zi σ 130 i := by
  obtain ⟨s, h1, h2, h3, -⟩ := loop_copy (body := fun v => s_X9_orders_b77 (v.1) (v.2.1) (v.2.2)) 132 0 130 0 368 (fun i => (125, had, iN i)) (125, had) (Or.inl (by decide)) hS (fun i σ1 hi h => by
    have f : ¬ (368 : Int32) ≤ iN i := fun q => absurd ((iN_le (a := 368) (by decide) (by omega)).mp q) (by omega)
    have r1 := q_r125_9 h
    have r2 := q_r125_6 h
    have l := q_ld130 (n := i) (by omega) h
    have st := q_st132 (n := i) (v := zi σ1 130 i) (by omega) h
    have i1 : iN i + 1 = iN (i + 1) := iN_add i 1
    rw [show 0 + i = i from Nat.zero_add i]
    generalize zsi σ1 132 i (zi σ1 130 i) = s1 at st
    simp only [s_X9_orders_b77, f, r1, r2, l, st, i1, bos, if_false]) (fun σ1 h => by
    have f : (368 : Int32) ≤ iN 368 := by decide
    simp only [s_X9_orders_b77, f, if_true])
  refine ⟨s, h1, h2, fun i hi => ?_⟩
  have := h3 i hi
  rw [show 0 + i = i from Nat.zero_add i] at this
  exact this
theorem or104 (hS : SK σ) {had : Int32} : ∃ s, s_X9_orders_l104 (125, had, 0) σ = some ((125, had), s) ∧ Ag (Cp 133 0 16) σ s ∧ ∀ i, i < 16 → zi s 133 i = zi σ 131 i := by
  obtain ⟨s, h1, h2, h3, -⟩ := loop_copy (body := fun v => s_X9_orders_b104 (v.1) (v.2.1) (v.2.2)) 133 0 131 0 16 (fun i => (125, had, iN i)) (125, had) (Or.inl (by decide)) hS (fun i σ1 hi h => by
    have f : ¬ (16 : Int32) ≤ iN i := fun q => absurd ((iN_le (a := 16) (by decide) (by omega)).mp q) (by omega)
    have r1 := q_r125_10 h
    have r2 := q_r125_7 h
    have l := q_ld131 (n := i) (by omega) h
    have st := q_st133 (n := i) (v := zi σ1 131 i) (by omega) h
    have i1 : iN i + 1 = iN (i + 1) := iN_add i 1
    rw [show 0 + i = i from Nat.zero_add i]
    generalize zsi σ1 133 i (zi σ1 131 i) = s1 at st
    simp only [s_X9_orders_b104, f, r1, r2, l, st, i1, bos, if_false]) (fun σ1 h => by
    have f : (16 : Int32) ≤ iN 16 := by decide
    simp only [s_X9_orders_b104, f, if_true])
  refine ⟨s, h1, h2, fun i hi => ?_⟩
  have := h3 i hi
  rw [show 0 + i = i from Nat.zero_add i] at this
  exact this
theorem j46_go (h : RX tb L nT false k q c σ) (he : kdN tb L k = 258) : ∃ s, Ag S46 σ s ∧ zi s 125 13 = 0 ∧ zi s 125 20 = 0 ∧ zi s 125 50 = 0 ∧ zi s 125 51 = -1 ∧ (∀ i, i < 368 → zi s 132 i = zi σ 130 i) ∧ (∀ i, i < 16 → zi s 133 i = zi σ 131 i) ∧ (∀ i, i < 23 → zi s 130 (391 + i) = zi σ 127 (7 + i)) ∧ s_X9_orders_j46 125 σ = cb (s_X9_orders_l140 (125, zi σ 125 8, 0) s) fun e36 σ35 =>
    match e36 with
    | Sum.inl h17 => (rdI 9 σ35 h17 50).bind fun v19 => (ck 9 σ35 h17).bind fun _ => cb (s_X9_tell h17 (v19) σ35) fun v22 σ21 => some (v22, σ21)
    | Sum.inr (h23, l124, l225) => (ck 9 σ35 h23).bind fun _ => cb (s_X9_giveBack h23 (l124) σ35) fun _ σ28 => (wrI 9 σ28 h23 52 (l225)).bind fun σ30 => (ck 9 σ30 h23).bind fun _ => cb (s_X9_tell h23 ((-3)) σ30) fun v33 σ32 => some (v33, σ32) := by
  have bk := q_ck125 h.1.1
  obtain ⟨u1, x1, e1, v13, v20⟩ := endT_t h he
  have S1 := h.1.1.ag e1
  have i19 := q_i125 (k := 19) S1
  rw [(e1.2.2.2.2 125 19 (by omega)).1, h.2.1] at i19
  have bk1 := q_ck125 S1
  obtain ⟨u2, x2, e2, w2, -⟩ := keep9 S1 (k := 17) (by decide)
  have x2 : s_X9_keepAll 125 17 u1 = _ := x2
  have S2 := S1.ag e2
  have i8 := q_i125 (k := 8) S2
  rw [(e2.2.2.2.2 125 8 (by unfold Cp; omega)).1, (e1.2.2.2.2 125 8 (by omega)).1] at i8
  obtain ⟨u3, x3, e3, w3⟩ := or77 S2 (had := zi σ 125 8)
  have S3 := S2.ag e3
  obtain ⟨u4, x4, e4, w4⟩ := or104 S3 (had := zi σ 125 8)
  have S4 := S3.ag e4
  have w50 := q_w125 (k := 50) (v := 0) S4
  have e5 : Ag S50 u4 (zsi u4 125 50 0) := Ag.zsi ⟨rfl, Or.inl rfl⟩
  have y50 : zi (zsi u4 125 50 0) 125 50 = 0 := zi_hit
  generalize zsi u4 125 50 0 = u5 at w50 e5 y50
  have S5 := S4.ag e5
  have w51 := q_w125 (k := 51) (v := -1) S5
  have e6 : Ag S50 u4 (zsi u5 125 51 (-1)) := e5.trans (Ag.zsi ⟨rfl, Or.inr rfl⟩)
  have z50 : zi (zsi u5 125 51 (-1)) 125 50 = 0 := (zi_miss (by decide)).trans y50
  have z51 : zi (zsi u5 125 51 (-1)) 125 51 = -1 := zi_hit
  generalize zsi u5 125 51 (-1) = u6 at w51 e6 z50 z51
  have g4 : ∀ a j, a ≠ 125 → zi u6 a j = zi u4 a j := fun a j ha => (e6.2.2.2.2 a j (fun q => ha q.1)).1
  have g3 : ∀ a j, a ≠ 133 → zi u4 a j = zi u3 a j := fun a j ha => (e4.2.2.2.2 a j (fun q => ha q.1)).1
  have g2 : ∀ a j, a ≠ 132 → zi u3 a j = zi u2 a j := fun a j ha => (e3.2.2.2.2 a j (fun q => ha q.1)).1
  have g1 : ∀ a j, ¬ (a = 130 ∧ 391 ≤ j ∧ j < 414) → zi u2 a j = zi u1 a j := fun a j ha => (e2.2.2.2.2 a j (fun q => ha (by unfold Cp at q; omega))).1
  have g0 : ∀ a j, a ≠ 125 → zi u1 a j = zi σ a j := fun a j ha => (e1.2.2.2.2 a j (fun q => ha q.1)).1
  have g35 : ∀ j, (j = 13 ∨ j = 20) → zi u6 125 j = zi u1 125 j := fun j hj => by
    rw [(e6.2.2.2.2 125 j (by unfold S50; omega)).1, g3 _ _ (by decide), g2 _ _ (by decide), g1 _ _ (by omega)]
  refine ⟨u6, ?_, (g35 13 (Or.inl rfl)).trans v13, (g35 20 (Or.inr rfl)).trans v20, z50, z51, fun i hi => ?_, fun i hi => ?_, fun i hi => ?_, ?_⟩
  · exact ((((e1.mono (fun a j z => by unfold S46; omega)).trans (e2.mono (fun a j z => by unfold Cp at z; unfold S46; omega))).trans (e3.mono (fun a j z => by unfold Cp at z; unfold S46; omega))).trans (e4.mono (fun a j z => by unfold Cp at z; unfold S46; omega))).trans (e6.mono (fun a j z => by unfold S50 at z; unfold S46; omega))
  · rw [g4 _ _ (by decide), g3 _ _ (by decide), w3 i hi, g1 _ _ (by omega), g0 _ _ (by decide)]
  · rw [g4 _ _ (by decide), w4 i hi, g2 _ _ (by decide), g1 _ _ (by omega), g0 _ _ (by decide)]
  · rw [g4 _ _ (by decide), g3 _ _ (by decide), g2 _ _ (by decide)]
    have := w2 i hi
    rw [show 23 * 17 + i = 391 + i by omega] at this
    rw [this, g0 _ _ (by decide)]
  · unfold s_X9_orders_j46
    rw [bk, bos, x1, cbs, i19, bos, if_pos rfl, bk1, bos, x2, cbs, i8, bos, x3, cbs]
    show (cb (s_X9_orders_l104 (125, zi σ 125 8, 0) u3) fun e39 σ38 => _) = _
    rw [x4, cbs]
    show ((wrI 9 u4 125 50 0).bind fun σ15 => _) = _
    rw [w50, bos, w51, bos]
    (try rfl)
def Sgb (a k : Nat) : Prop := (a = 127 ∧ 7 ≤ k ∧ k < 30) ∨ (a = 130 ∧ k < 368) ∨ (a = 131 ∧ k < 16) ∨ (a = 125 ∧ k = 8)
theorem gb8 (hS : SK σ) {had : Int32} : ∃ s, s_X9_giveBack_l8 (125, had, 0) σ = some ((125, had), s) ∧ Ag (Cp 130 0 368) σ s ∧ ∀ i, i < 368 → zi s 130 i = zi σ 132 i := by
  obtain ⟨s, h1, h2, h3, -⟩ := loop_copy (body := fun v => s_X9_giveBack_b8 (v.1) (v.2.1) (v.2.2)) 130 0 132 0 368 (fun i => (125, had, iN i)) (125, had) (Or.inl (by decide)) hS (fun i σ1 hi h => by
    have f : ¬ (368 : Int32) ≤ iN i := fun q => absurd ((iN_le (a := 368) (by decide) (by omega)).mp q) (by omega)
    have r1 := q_r125_9 h
    have r2 := q_r125_6 h
    have l := q_ld132 (n := i) (by omega) h
    have st := q_st130 (n := i) (v := zi σ1 132 i) (by omega) h
    have i1 : iN i + 1 = iN (i + 1) := iN_add i 1
    rw [show 0 + i = i from Nat.zero_add i]
    generalize zsi σ1 130 i (zi σ1 132 i) = s1 at st
    simp only [s_X9_giveBack_b8, f, r1, r2, l, st, i1, bos, if_false]) (fun σ1 h => by
    have f : (368 : Int32) ≤ iN 368 := by decide
    simp only [s_X9_giveBack_b8, f, if_true])
  refine ⟨s, h1, h2, fun i hi => ?_⟩
  have := h3 i hi
  rw [show 0 + i = i from Nat.zero_add i] at this
  exact this
theorem gb35 (hS : SK σ) {had : Int32} : ∃ s, s_X9_giveBack_l35 (125, had, 0) σ = some ((), s) ∧ Ag (fun a k => (a = 131 ∧ k < 16) ∨ (a = 125 ∧ k = 8)) σ s ∧ (∀ i, i < 16 → zi s 131 i = zi σ 133 i) ∧ zi s 125 8 = had := by
  obtain ⟨s, h1, h2, h3, h4⟩ := loop_to (body := fun v => s_X9_giveBack_b35 (v.1) (v.2.1) (v.2.2)) (fun i t => Ag (fun a k => (a = 131 ∧ k < 16) ∨ (a = 125 ∧ k = 8)) σ t ∧ ∀ j, j < i → zi t 131 j = zi σ 133 j) (fun t => Ag (fun a k => (a = 131 ∧ k < 16) ∨ (a = 125 ∧ k = 8)) σ t ∧ (∀ j, j < 16 → zi t 131 j = zi σ 133 j) ∧ zi t 125 8 = had) (fun i => (125, had, iN i)) () 16 (fun i t hi ht => by
    obtain ⟨e, v⟩ := ht
    have h := hS.ag e
    have f : ¬ (16 : Int32) ≤ iN i := fun q => absurd ((iN_le (a := 16) (by decide) (by omega)).mp q) (by omega)
    have r1 := q_r125_10 h
    have r2 := q_r125_7 h
    have l := q_ld133 (n := i) (by omega) h
    rw [(e.2.2.2.2 133 i (by omega)).1] at l
    have st := q_st131 (n := i) (v := zi σ 133 i) (by omega) h
    have i1 : iN i + 1 = iN (i + 1) := iN_add i 1
    refine ⟨zsi t 131 i (zi σ 133 i), ?_, e.trans (Ag.zsi (Or.inl ⟨rfl, hi⟩)), fun j hj => ?_⟩
    · generalize zsi t 131 i (zi σ 133 i) = s1 at st
      simp only [s_X9_giveBack_b35, f, r1, r2, l, st, i1, bos, if_false]
    · by_cases cj : j = i
      · rw [cj]
        exact zi_hit
      · rw [zi_miss cj]
        exact v j (by omega)) (fun t ht => by
    obtain ⟨e, v⟩ := ht
    have h := hS.ag e
    have f : (16 : Int32) ≤ iN 16 := by decide
    have w := q_w125 (k := 8) (v := had) h
    refine ⟨zsi t 125 8 had, ?_, e.trans (Ag.zsi (Or.inr ⟨rfl, rfl⟩)), fun j hj => (congrFun (zi_ne (by decide)) j).trans (v j hj), zi_hit⟩
    generalize zsi t 125 8 had = s1 at w
    simp only [s_X9_giveBack_b35, f, w, bos, if_true]) (σ := σ) ⟨Ag.refl, fun j hj => absurd hj (Nat.not_lt_zero _)⟩
  exact ⟨s, h1, h2, h3, h4⟩
theorem give9 (hS : SK σ) {had : Int32} : ∃ s, s_X9_giveBack 125 had σ = some ((), s) ∧ Ag Sgb σ s ∧ (∀ i, i < 23 → zi s 127 (7 + i) = zi σ 130 (391 + i)) ∧ (∀ i, i < 368 → zi s 130 i = zi σ 132 i) ∧ (∀ i, i < 16 → zi s 131 i = zi σ 133 i) ∧ zi s 125 8 = had := by
  have bk := q_ck125 hS
  obtain ⟨u1, x1, e1, w1, -⟩ := put9 hS (k := 17) (by decide)
  have x1 : s_X9_putBack 125 17 σ = _ := x1
  have S1 := hS.ag e1
  obtain ⟨u2, x2, e2, w2⟩ := gb8 S1 (had := had)
  have S2 := S1.ag e2
  obtain ⟨u3, x3, e3, w3, w4⟩ := gb35 S2 (had := had)
  refine ⟨u3, ?_, ?_, fun i hi => ?_, fun i hi => ?_, fun i hi => ?_, w4⟩
  · unfold s_X9_giveBack
    rw [bk, bos, x1, cbs, x2, cbs]
    show (cb (s_X9_giveBack_l35 (125, had, 0) u2) fun r8 σ9 => some (r8, σ9)) = _
    rw [x3, cbs]
  · exact ((e1.mono (fun a j z => by unfold Cp at z; unfold Sgb; omega)).trans (e2.mono (fun a j z => by unfold Cp at z; unfold Sgb; omega))).trans (e3.mono (fun a j z => by unfold Sgb; omega))
  · rw [(e3.2.2.2.2 127 _ (by omega)).1, (e2.2.2.2.2 127 _ (by unfold Cp; omega)).1, w1 i hi]
  · rw [(e3.2.2.2.2 130 _ (by omega)).1, w2 i hi, (e1.2.2.2.2 132 _ (by unfold Cp; omega)).1]
  · rw [w3 i hi, (e2.2.2.2.2 133 _ (by unfold Cp; omega)).1, (e1.2.2.2.2 133 _ (by unfold Cp; omega)).1]
end ORF
