/-! ===== the reference keeps a law ===== -/
section V41
variable {σ : Hp} {nP nF nB nT nS nL H n k q c L len b : Nat} {tb : Nat → Nat} {B : Book} {R : Nat → Int32}
theorem law_l111 (hS : SK σ) (h21 : zi σ 125 21 = iN len) (hl : len ≤ 12) (hb : b + 900 ≤ 5578) : ∃ σ1, s_X9_law_l111 (125, iN b, iN 0) σ = some ((125, iN b), σ1) ∧ Ag (fun a k => a = 127 ∧ b + 2 ≤ k ∧ k < b + 98) σ σ1 ∧ ∀ x, x < 8 * len → zi σ1 127 (b + 2 + x) = zi σ 135 x := by
  have st : ∀ i t, i ≤ 8 * len → Ag (fun a k => a = 127 ∧ b + 2 ≤ k ∧ k < b + 98) σ t → rdI 9 t 125 21 = some (iN len) ∧ rdR 9 t 125 3 = some (some 127) ∧ rdR 9 t 125 22 = some (some 135) ∧ SK t := fun i t _ e => by
    have T := hS.ag e
    have i21 := q_i125 (k := 21) T
    rw [(e.2.2.2.2 125 21 (by omega)).1, h21] at i21
    exact ⟨i21, q_r125_3 T, q_r125_22 T, T⟩
  have m8 : (8 : Int32) * iN len = iN (8 * len) := iN_mul 8 len
  refine loop_to (body := fun v => s_X9_law_b111 (v.1) (v.2.1) (v.2.2)) (fun i t => Ag (fun a k => a = 127 ∧ b + 2 ≤ k ∧ k < b + 98) σ t ∧ ∀ x, x < i → zi t 127 (b + 2 + x) = zi σ 135 x) (fun t => Ag (fun a k => a = 127 ∧ b + 2 ≤ k ∧ k < b + 98) σ t ∧ ∀ x, x < 8 * len → zi t 127 (b + 2 + x) = zi σ 135 x) (fun i => (125, iN b, iN i)) (125, iN b) (8 * len) (fun i t hi h => ?_) (fun t h => ?_) ⟨Ag.refl, fun x hx => absurd hx (Nat.not_lt_zero _)⟩
  · obtain ⟨e, hx⟩ := h
    obtain ⟨i21, r3, r22, T⟩ := st i t (by omega) e
    have f : ¬ iN (8 * len) ≤ iN i := fun z => by have := (iN_le (by omega) (by omega)).mp z; omega
    have l := q_ld135 (n := i) (by omega) T
    rw [(e.2.2.2.2 135 i (by omega)).1] at l
    have a1 : iN b + 2 + iN i = iN (b + 2 + i) := by rw [show (2 : Int32) = iN 2 from rfl, iN_add, iN_add]
    have s := q_st127 (n := b + 2 + i) (v := zi σ 135 i) (by omega) T
    have i1 : iN i + 1 = iN (i + 1) := iN_add i 1
    refine ⟨zsi t 127 (b + 2 + i) (zi σ 135 i), ?_, e.trans (Ag.zsi (by omega)), fun x hx1 => ?_⟩
    · show s_X9_law_b111 125 (iN b) (iN i) t = _
      generalize zsi t 127 (b + 2 + i) (zi σ 135 i) = t1 at s
      simp only [s_X9_law_b111, i21, m8, f, r3, r22, l, a1, s, i1, bos, if_false]
    · by_cases hq : x = i
      · subst hq
        exact zi_hit
      · rw [zi_miss (by omega)]
        exact hx x (by omega)
  · obtain ⟨e, hx⟩ := h
    obtain ⟨i21, r3, r22, T⟩ := st (8 * len) t (Nat.le_refl _) e
    have f : iN (8 * len) ≤ iN (8 * len) := (iN_le (by omega) (by omega)).mpr (Nat.le_refl _)
    refine ⟨t, ?_, e, hx⟩
    show s_X9_law_b111 125 (iN b) (iN (8 * len)) t = _
    simp only [s_X9_law_b111, i21, m8, f, bos, if_true]
theorem law_l146 (hS : SK σ) (h23 : zi σ 125 23 = iN c) (hc : c ≤ 400) (hb : b + 900 ≤ 5578) : ∃ σ1, s_X9_law_l146 (125, iN b, iN 0) σ = some (125, σ1) ∧ Ag (fun a k => a = 127 ∧ b + 98 ≤ k ∧ k < b + 98 + 800) σ σ1 ∧ ∀ x, x < c → zi σ1 127 (b + 98 + 2 * x) = zi σ 136 x ∧ zi σ1 127 (b + 98 + 2 * x + 1) = zi σ 137 x := by
  have st : ∀ t, Ag (fun a k => a = 127 ∧ b + 98 ≤ k ∧ k < b + 98 + 800) σ t → rdI 9 t 125 23 = some (iN c) ∧ SK t := fun t e => by
    have T := hS.ag e
    have i21 := q_i125 (k := 23) T
    rw [(e.2.2.2.2 125 23 (by omega)).1, h23] at i21
    exact ⟨i21, T⟩
  refine loop_to (body := fun v => s_X9_law_b146 (v.1) (v.2.1) (v.2.2)) (fun i t => Ag (fun a k => a = 127 ∧ b + 98 ≤ k ∧ k < b + 98 + 800) σ t ∧ ∀ x, x < i → zi t 127 (b + 98 + 2 * x) = zi σ 136 x ∧ zi t 127 (b + 98 + 2 * x + 1) = zi σ 137 x) (fun t => Ag (fun a k => a = 127 ∧ b + 98 ≤ k ∧ k < b + 98 + 800) σ t ∧ ∀ x, x < c → zi t 127 (b + 98 + 2 * x) = zi σ 136 x ∧ zi t 127 (b + 98 + 2 * x + 1) = zi σ 137 x) (fun i => (125, iN b, iN i)) 125 c (fun i t hi h => ?_) (fun t h => ?_) ⟨Ag.refl, fun x hx => absurd hx (Nat.not_lt_zero _)⟩
  · obtain ⟨e, hx⟩ := h
    obtain ⟨i23, T⟩ := st t e
    have f : ¬ iN c ≤ iN i := fun z => by have := (iN_le (by omega) (by omega)).mp z; omega
    have r3 := q_r125_3 T
    have r24 := q_r125_24 T
    have l := q_ld136 (n := i) (by omega) T
    rw [(e.2.2.2.2 136 i (by omega)).1] at l
    have a1 : iN b + 98 + 2 * iN i = iN (b + 98 + 2 * i) := by rw [show (98 : Int32) = iN 98 from rfl, show (2 : Int32) = iN 2 from rfl, iN_mul, iN_add, iN_add]
    have s := q_st127 (n := b + 98 + 2 * i) (v := zi σ 136 i) (by omega) T
    have i1 : iN i + 1 = iN (i + 1) := iN_add i 1
    have a2 : iN (b + 98 + 2 * i) + 1 = iN (b + 98 + 2 * i + 1) := iN_add _ 1
    have T1 : SK (zsi t 127 (b + 98 + 2 * i) (zi σ 136 i)) := T
    have r3' := q_r125_3 T1
    have r25 := q_r125_25 T1
    have l2 := q_ld137 (n := i) (by omega) T1
    rw [zi_ne (by decide), (e.2.2.2.2 137 i (by omega)).1] at l2
    have s2 := q_st127 (n := b + 98 + 2 * i + 1) (v := zi σ 137 i) (by omega) T1
    refine ⟨zsi (zsi t 127 (b + 98 + 2 * i) (zi σ 136 i)) 127 (b + 98 + 2 * i + 1) (zi σ 137 i), ?_, (e.trans (Ag.zsi (by omega))).trans (Ag.zsi (by omega)), fun x hx1 => ?_⟩
    · show s_X9_law_b146 125 (iN b) (iN i) t = _
      generalize zsi t 127 (b + 98 + 2 * i) (zi σ 136 i) = t1 at s r3' r25 l2 s2
      generalize zsi t1 127 (b + 98 + 2 * i + 1) (zi σ 137 i) = t2 at s2
      simp only [s_X9_law_b146, i23, f, r3, r24, l, a1, s, r3', r25, l2, a2, s2, i1, bos, if_false]
    · by_cases hq : x = i
      · subst hq
        rw [zi_hit, zi_miss (by omega), zi_hit]
        exact ⟨rfl, rfl⟩
      · rw [zi_miss (by omega), zi_miss (by omega), zi_miss (by omega), zi_miss (by omega)]
        exact hx x (by omega)
  · obtain ⟨e, hx⟩ := h
    obtain ⟨i23, T⟩ := st t e
    have f : iN c ≤ iN c := (iN_le (by omega) (by omega)).mpr (Nat.le_refl _)
    refine ⟨t, ?_, e, hx⟩
    show s_X9_law_b146 125 (iN b) (iN c) t = _
    simp only [s_X9_law_b146, i23, f, bos, if_true]
/-- the cells that a law kept changes -/
def Slk (nL a k : Nat) : Prop := (a = 125 ∧ (k = 1 ∨ k = 13 ∨ k = 20)) ∨ (a = 127 ∧ (k = 5 ∨ (178 + 900 * nL ≤ k ∧ k < 178 + 900 * nL + 900)))
theorem law9_t (h : RX tb L n true k q c σ) (he : kdN tb L k = 258) (h21 : zi σ 125 21 = iN len) (hl : len ≤ 12) (hc : c ≤ 400) (h5 : zi σ 127 5 = iN nL) (hn : nL < 6) : ∃ σ1, s_X9_law_j64 125 σ = some (iN nL, σ1) ∧ Ag (Slk nL) σ σ1 ∧ zi σ1 125 1 = 0 ∧ zi σ1 125 13 = 0 ∧ zi σ1 125 20 = 0 ∧ zi σ1 127 5 = iN (nL + 1) ∧ zi σ1 127 (178 + 900 * nL + 1) = iN len ∧ (∀ x, x < 8 * len → zi σ1 127 (178 + 900 * nL + 2 + x) = zi σ 135 x) ∧ ∀ x, x < c → zi σ1 127 (178 + 900 * nL + 98 + 2 * x) = zi σ 136 x ∧ zi σ1 127 (178 + 900 * nL + 98 + 2 * x + 1) = zi σ 137 x := by
  have bk := q_ck125 h.1.1
  obtain ⟨u1, x1, e1, v13, v20⟩ := endT_t h he
  have T1 := h.1.1.ag e1
  have i19 := q_i125 (k := 19) T1
  rw [(e1.2.2.2.2 125 19 (by omega)).1, h.2.1] at i19
  have r3 := q_r125_3 T1
  have l5 : ldI 11 u1 127 5 = some (iN nL) := by
    rw [show (5 : Int32) = iN 5 from rfl, q_ld127 (by omega) T1, (e1.2.2.2.2 127 5 (by omega)).1, h5]
  have i21 := q_i125 (k := 21) T1
  rw [(e1.2.2.2.2 125 21 (by omega)).1, h21] at i21
  have a0 : (178 : Int32) + 900 * iN nL = iN (178 + 900 * nL) := by rw [show (178 : Int32) = iN 178 from rfl, show (900 : Int32) = iN 900 from rfl, iN_mul, iN_add]
  have a1 : iN (178 + 900 * nL) + 1 = iN (178 + 900 * nL + 1) := iN_add _ 1
  have s1 := q_st127 (n := 178 + 900 * nL + 1) (v := iN len) (by omega) T1
  have T2 : SK (zsi u1 127 (178 + 900 * nL + 1) (iN len)) := T1
  have e2 : Ag (Slk nL) σ (zsi u1 127 (178 + 900 * nL + 1) (iN len)) := (e1.mono (fun a j z => by unfold Slk; omega)).trans (Ag.zsi (by unfold Slk; omega))
  have w1 : zi (zsi u1 127 (178 + 900 * nL + 1) (iN len)) 127 (178 + 900 * nL + 1) = iN len := zi_hit
  have w5 : zi (zsi u1 127 (178 + 900 * nL + 1) (iN len)) 127 5 = iN nL := by
    rw [zi_miss (by omega), (e1.2.2.2.2 127 5 (by omega)).1, h5]
  have w21 : zi (zsi u1 127 (178 + 900 * nL + 1) (iN len)) 125 21 = iN len := by
    rw [zi_ne (by decide), (e1.2.2.2.2 125 21 (by omega)).1, h21]
  have w23 : zi (zsi u1 127 (178 + 900 * nL + 1) (iN len)) 125 23 = iN c := by
    rw [zi_ne (by decide), (e1.2.2.2.2 125 23 (by omega)).1, h.2.2.2.2.1]
  have w13 : zi (zsi u1 127 (178 + 900 * nL + 1) (iN len)) 125 13 = 0 := by rw [zi_ne (by decide), v13]
  have w20 : zi (zsi u1 127 (178 + 900 * nL + 1) (iN len)) 125 20 = 0 := by rw [zi_ne (by decide), v20]
  have wX : ∀ a, a = 135 ∨ a = 136 ∨ a = 137 → zi (zsi u1 127 (178 + 900 * nL + 1) (iN len)) a = zi σ a := fun a ha => by
    rw [zi_ne (by omega)]
    exact funext fun j => (e1.2.2.2.2 a j (by omega)).1
  generalize zsi u1 127 (178 + 900 * nL + 1) (iN len) = u2 at s1 T2 e2 w1 w5 w21 w23 w13 w20 wX
  obtain ⟨u3, x3, e3, d3⟩ := law_l111 (b := 178 + 900 * nL) T2 w21 hl (by omega)
  have x3 : s_X9_law_l111 (125, iN (178 + 900 * nL), 0) u2 = _ := x3
  have T3 := T2.ag e3
  obtain ⟨u4, x4, e4, d4⟩ := law_l146 (b := 178 + 900 * nL) (c := c) T3 (by rw [(e3.2.2.2.2 125 23 (by omega)).1]; exact w23) hc (by omega)
  have x4 : s_X9_law_l146 (125, iN (178 + 900 * nL), 0) u3 = _ := x4
  have T4 := T3.ag e4
  have r34 := q_r125_3 T4
  have l54 : ldI 11 u4 127 5 = some (iN nL) := by
    rw [show (5 : Int32) = iN 5 from rfl, q_ld127 (by omega) T4, (e4.2.2.2.2 127 5 (by omega)).1, (e3.2.2.2.2 127 5 (by omega)).1, w5]
  have i1 : iN nL + 1 = iN (nL + 1) := iN_add nL 1
  have s5 : stI u4 127 5 (iN (nL + 1)) = some (zsi u4 127 5 (iN (nL + 1))) := q_st127 (n := 5) (by omega) T4
  have T5 : SK (zsi u4 127 5 (iN (nL + 1))) := T4
  have r35 := q_r125_3 T5
  have l55 : ldI 11 (zsi u4 127 5 (iN (nL + 1))) 127 5 = some (iN (nL + 1)) := by
    rw [show (5 : Int32) = iN 5 from rfl, q_ld127 (by omega) T5, zi_hit]
  have bk5 := q_ck125 T5
  have i2 : iN (nL + 1) - 1 = iN nL := by rw [← i1, Int32.add_sub_cancel]
  have tl := tell9 T5 (n := nL) (by omega)
  refine ⟨zsi (zsi u4 127 5 (iN (nL + 1))) 125 1 0, ?_, ?_, zi_hit, ?_, ?_, ?_, ?_, fun x hx => ?_, fun x hx => ?_⟩
  · have rk2 : rdR 9 u1 125 3 = some (some 127) := r3
    generalize zsi (zsi u4 127 5 (iN (nL + 1))) 125 1 0 = u6 at tl
    generalize zsi u4 127 5 (iN (nL + 1)) = u5 at s5 r35 l55 bk5 tl
    unfold s_X9_law_j64
    rw [bk, bos, x1, cbs, i19, bos, if_pos rfl, r3, bos, bos, l5, bos, bos, i21, bos, bos, a0, a1, s1, bos, x3, cbs]
    show (cb (s_X9_law_l146 (125, iN (178 + 900 * nL), 0) u3) fun h15 σ28 => _) = _
    rw [x4, cbs, r34, bos, bos, l54, bos, i1, s5, bos, r35, bos, bos, l55, bos, bk5, bos, i2, tl, cbs]
  · exact (((e2.trans (e3.mono (fun a j z => by unfold Slk; omega))).trans (e4.mono (fun a j z => by unfold Slk; omega))).trans (Ag.zsi (by unfold Slk; omega))).trans (Ag.zsi (by unfold Slk; omega))
  · rw [zi_miss (by decide), zi_ne (by decide), (e4.2.2.2.2 125 13 (by omega)).1, (e3.2.2.2.2 125 13 (by omega)).1]
    exact w13
  · rw [zi_miss (by decide), zi_ne (by decide), (e4.2.2.2.2 125 20 (by omega)).1, (e3.2.2.2.2 125 20 (by omega)).1]
    exact w20
  · rw [zi_ne (by decide), zi_hit]
  · rw [zi_ne (by decide), zi_miss (by omega), (e4.2.2.2.2 127 _ (by omega)).1, (e3.2.2.2.2 127 _ (by omega)).1]
    exact w1
  · rw [zi_ne (by decide), zi_miss (by omega), (e4.2.2.2.2 127 _ (by omega)).1, d3 x hx, wX 135 (by omega)]
  · rw [zi_ne (by decide), zi_miss (by omega), zi_miss (by omega), (d4 x hx).1, (d4 x hx).2]
    rw [show zi u3 136 = zi u2 136 from funext fun j => (e3.2.2.2.2 136 j (by omega)).1, show zi u3 137 = zi u2 137 from funext fun j => (e3.2.2.2.2 137 j (by omega)).1, wX 136 (by omega), wX 137 (by omega)]
    exact ⟨rfl, rfl⟩
theorem RRowL.congr {Rn op ar Rn' op' ar' : Nat → Int32} {i c c1 : Nat} {cl : Cl} (h : RRowL Rn op ar i c c1 cl) (hR : ∀ x, 8 * i ≤ x → x < 8 * i + 8 → Rn' x = Rn x) (hs : ∀ x, c ≤ x → x < c1 → op' x = op x ∧ ar' x = ar x) : RRowL Rn' op' ar' i c c1 cl := by
  obtain ⟨a1, a2, a3, a4, c2, a5, a6, a7, a8, a9, a10⟩ := h
  have le := a10.le
  refine ⟨a1, a2, by rw [hR _ (by omega) (by omega)]; exact a3, by rw [hR _ (by omega) (by omega)]; exact a4, c2, a5, by rw [hR _ (by omega) (by omega)]; exact a6, by rw [hR _ (by omega) (by omega)]; exact a7, by rw [hR _ (by omega) (by omega)]; exact a8, fun z => ?_, a10.congr (fun x h1 h2 => hs x (by omega) h2)⟩
  obtain ⟨q, b1, b2⟩ := a9 z
  exact ⟨q, b1, b2.congr (fun x h1 h2 => hs x h1 (by omega))⟩
def Slt (a k : Nat) : Prop := Stx a k ∨ Slw 135 0 0 a k
theorem law9_read (hS : SK σ) (hB : TB9 tb L σ) (hN : TN tb L n) (hC : CW σ) : ∃ σ1, ((ck 9 σ 125).bind fun _ => cb (s_X9_beginText 125 0 σ) fun _ σ6 => (ck 9 σ6 125).bind fun _ => cb (s_X9_readLaw 125 σ6) fun _ σ9 => cb (s_X9_law_l37 125 σ9) fun h11 σ14 => s_X9_law_j64 h11 σ14) = s_X9_law_j64 125 σ1 ∧ Ag Slt σ σ1 ∧ match textP (kdN tb L) (nmN tb L) true n 12 0 0 with
    | (k1, none) => BadX tb L k1 σ1 ∨ ∃ q1 c1, RX tb L n true k1 q1 c1 σ1 ∧ kdN tb L k1 ≠ 258
    | (k1, some l) => ∃ q1 c1, RX tb L n true k1 q1 c1 σ1 ∧ kdN tb L k1 = 258 ∧ zi σ1 125 21 = iN l.length ∧ l.length ≤ 12 ∧ RRows RRowL (zi σ1 135) (zi σ1 136) (zi σ1 137) 0 0 c1 l := by
  obtain ⟨u1, x1, e1, hX, h21⟩ := begin9 (lw := true) hS hB hN hC
  have x1 : s_X9_beginText 125 0 σ = _ := x1
  have bk := q_ck125 hS
  have bk1 := q_ck125 hX.1.1
  obtain ⟨u2, x2, y2⟩ := text9 (rd := s_X9_readLaw 125) (body := fun v => s_X9_law_b37 v) (X := 135) (lw := true) (row := RRowL) (fun σ => rfl) (fun i k q c σ h hq h21 hi => readLaw9 h hq h21 hi) (fun k q c σ h h21 => readLaw9_13 h h21) (fun Rn op ar Rn' op' ar' i c c1 cl h a b => h.congr a b) (Or.inl rfl) 12 0 0 0 0 u1 (by decide) hX (by decide) h21
  have x2 : (cb (s_X9_readLaw 125 u1) fun _ s => s_X9_law_l37 125 s) = some (125, u2) := x2
  refine ⟨u2, ?_, ?_⟩
  · rw [bk, bos, x1, cbs, bk1, bos]
    cases hq : s_X9_readLaw 125 u1 with
    | none =>
      rw [hq] at x2
      cases x2
    | some p =>
      obtain ⟨u, s⟩ := p
      rw [hq, cbs] at x2
      rw [cbs, x2, cbs]
  · generalize textP (kdN tb L) (nmN tb L) true n 12 0 0 = r at y2
    obtain ⟨k1, ol⟩ := r
    have e1 : Ag Slt σ u1 := e1.mono (fun a j z => Or.inl z)
    cases ol with
    | none => exact ⟨e1.trans (y2.1.mono (fun a j z => Or.inr z)), y2.2⟩
    | some l =>
      obtain ⟨y3, q1, c1, y4, y5, y6, y7, y8⟩ := y2
      rw [Nat.zero_add] at y6
      exact ⟨e1.trans (y3.mono (fun a j z => Or.inr z)), q1, c1, y4, y5, y6, y7, y8⟩
theorem law9_f (h : BadX tb L k σ ∨ ∃ q1 c1, RX tb L n true k q1 c1 σ ∧ kdN tb L k ≠ 258) : ∃ u1, s_X9_law_j64 125 σ = some (-6, zsi (zsi u1 125 1 (-6)) 126 6 (zi u1 126 6 + 1)) ∧ Ag Ste σ u1 ∧ zi u1 125 18 = iN (psN tb L k) ∧ zi u1 125 13 = 0 ∧ zi u1 125 20 = 0 := by
  have hS : SK σ := by
    rcases h with h | ⟨q1, c1, h, -⟩
    · exact h.1
    · exact h.1.1
  have bk := q_ck125 hS
  obtain ⟨u1, x1, e1, T1, v19, v18, v13, v20⟩ := endT_f h
  have bk1 := q_ck125 T1
  have i19 := q_i125 (k := 19) T1
  rw [v19] at i19
  have tl := tell9_6 T1
  refine ⟨u1, ?_, e1, v18, v13, v20⟩
  unfold s_X9_law_j64
  rw [bk, bos, x1, cbs, i19, bos, if_neg z10', bk1, bos, tl, cbs]
end V41
