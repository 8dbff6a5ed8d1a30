/-! ===== the reference reads an order, from its word on ===== -/
section RORE
variable {σ : Hp} {tb : Nat → Nat} {L nT k q c i : Nat} {lw : Bool}
def hdO (i : Nat) : Nat := 16 + 2 * i
theorem CW.act (h : CW σ) {i : Nat} (hi : i < 4) : zj σ 152 i = jN (kwN (hdO i)) := by
  obtain ⟨-, -, -, ⟨h0, h1, h2, h3⟩, -⟩ := h
  have : i = 0 ∨ i = 1 ∨ i = 2 ∨ i = 3 := by omega
  rcases this with rfl | rfl | rfl | rfl
  · rw [h0]; rfl
  · rw [h1]; rfl
  · rw [h2]; rfl
  · rw [h3]; rfl
theorem CW.btw (h : CW σ) {i : Nat} (hi : i < 3) : zj σ 153 i = jN (kwN (17 + 2 * i)) := by
  obtain ⟨-, -, -, -, h0, h1, h2⟩ := h
  have : i = 0 ∨ i = 1 ∨ i = 2 := by omega
  rcases this with rfl | rfl | rfl
  · rw [h0]; rfl
  · rw [h1]; rfl
  · rw [h2]; rfl
theorem acts9 (h : RT tb L nT k σ) : s_X9_readOrder_l4 (125, -1, 0) σ = some ((125, pickN (kdN tb L k) hdO iN 4), σ) := by
  obtain ⟨t, g1, g2⟩ := loop_to (body := fun v => s_X9_readOrder_b4 (v.1) (v.2.1) (v.2.2)) (fun _ t => t = σ) (fun t => t = σ) (fun i => (125, pickN (kdN tb L k) hdO iN i, iN i)) (125, pickN (kdN tb L k) hdO iN 4) 4 (fun i t hi ht => by
    subst ht
    have f : ¬ (4 : Int32) ≤ iN i := fun q => absurd ((iN_le (a := 4) (by decide) (by omega)).mp q) (by omega)
    have r := q_r125_47 h.1
    have l := q_ld152 (n := i) hi h.1
    rw [h.2.2.2.2.2.1.act hi] at l
    have bk := q_ck125 h.1
    have w := wrd9 h (w := hdO i) (by unfold hdO; omega)
    have i1 : iN i + 1 = iN (i + 1) := iN_add i 1
    refine ⟨t, ?_, rfl⟩
    by_cases c : kdN tb L k = 300 + hdO i
    · have w := w.1 c
      have e : pickN (kdN tb L k) hdO iN (i + 1) = iN i := if_pos c
      rw [e]
      simp only [s_X9_readOrder_b4, s_X9_readOrder_j27, f, r, l, bk, w, i1, z10', bos, cbs, if_true, if_false]
    · have w := w.2 c
      have e : pickN (kdN tb L k) hdO iN (i + 1) = pickN (kdN tb L k) hdO iN i := if_neg c
      rw [e]
      simp only [s_X9_readOrder_b4, s_X9_readOrder_j27, f, r, l, bk, w, i1, z10', bos, cbs, if_true, if_false]) (fun t ht => by
    have f : (4 : Int32) ≤ iN 4 := by decide
    exact ⟨t, by simp only [s_X9_readOrder_b4, f, if_true], ht⟩) (σ := σ) rfl
  subst g2
  exact g1
theorem beg_act {c : Nat} (h : begN false c = true) : ∃ x, x < 4 ∧ c = 316 + 2 * x := by
  have h : decide (c = 316 ∨ c = 318 ∨ c = 320 ∨ c = 322) = true := h
  have := of_decide_eq_true h
  exact ⟨(c - 316) / 2, by omega, by omega⟩
theorem pick_act {c x : Nat} (hx : x < 4) (e : c = 316 + 2 * x) : pickN c hdO iN 4 = iN x := by
  have : x = 0 ∨ x = 1 ∨ x = 2 ∨ x = 3 := by omega
  rcases this with rfl | rfl | rfl | rfl <;> subst e <;> rfl
theorem pick_no {c : Nat} (h : begN false c = false) : pickN c hdO iN 4 = -1 := by
  have h : decide (c = 316 ∨ c = 318 ∨ c = 320 ∨ c = 322) = false := h
  have := of_decide_eq_false h
  show (if c = 300 + hdO 3 then _ else if c = 300 + hdO 2 then _ else if c = 300 + hdO 1 then _ else if c = 300 + hdO 0 then _ else -1) = _
  unfold hdO
  rw [if_neg (by omega), if_neg (by omega), if_neg (by omega), if_neg (by omega)]
theorem zero154 (hS : SK σ) (hi : i < 12) {hd : Int32} : ∃ σ1, s_X9_readOrder_l85 (125, hd, iN (8 * i), 0) σ = some ((125, hd, iN (8 * i)), σ1) ∧ Ag (fun a x => a = 154 ∧ 8 * i ≤ x ∧ x < 8 * i + 8) σ σ1 ∧ ∀ x, x < 8 → zi σ1 154 (8 * i + x) = 0 := by
  obtain ⟨t, g1, g2, g3, g4⟩ := loop_to (body := fun v => s_X9_readOrder_b85 (v.1) (v.2.1) (v.2.2.1) (v.2.2.2)) (fun m t => SK t ∧ Ag (fun a x => a = 154 ∧ 8 * i ≤ x ∧ x < 8 * i + 8) σ t ∧ ∀ x, x < m → zi t 154 (8 * i + x) = 0) (fun t => SK t ∧ Ag (fun a x => a = 154 ∧ 8 * i ≤ x ∧ x < 8 * i + 8) σ t ∧ ∀ x, x < 8 → zi t 154 (8 * i + x) = 0) (fun j => (125, hd, iN (8 * i), iN j)) (125, hd, iN (8 * i)) 8 (fun j t hj ht => by
    obtain ⟨hT, eT, vT⟩ := ht
    have f : ¬ (8 : Int32) ≤ iN j := fun q => absurd ((iN_le (a := 8) (by decide) (by omega)).mp q) (by omega)
    have r := q_r125_49 hT
    obtain ⟨s, e, v⟩ := row154 hT hi (j := j) hj 0
    have i1 : iN j + 1 = iN (j + 1) := iN_add j 1
    have hT2 : SK (zsi t 154 (8 * i + j) 0) := hT
    refine ⟨zsi t 154 (8 * i + j) 0, ?_, hT2, eT.trans (e.mono (fun a x z => ⟨z.1, by omega, by omega⟩)), fun x hx => ?_⟩
    · generalize zsi t 154 (8 * i + j) 0 = t2 at s
      simp only [s_X9_readOrder_b85, f, r, s, i1, bos, if_false]
    · by_cases c : x = j
      · rw [c]
        exact v
      · rw [zi_miss (by omega)]
        exact vT x (by omega)) (fun t ht => by
    have f : (8 : Int32) ≤ iN 8 := by decide
    exact ⟨t, by simp only [s_X9_readOrder_b85, f, if_true], ht⟩) (σ := σ) ⟨hS, Ag.refl, fun x hx => absurd hx (Nat.not_lt_zero _)⟩
  exact ⟨t, g1, g3, g4⟩
/-- what an order says in the reference's row -/
def RRowO (Rn op ar : Nat → Int32) (i c c1 : Nat) (cl : Cl) : Prop := ∃ x, x < 4 ∧ cl.1 = 316 + 2 * x ∧ Rn (8 * i) = iN x ∧ Rn (8 * i + 7) = iN cl.2.2.2.1 ∧ 1 ≤ cl.2.2.2.1 ∧ cl.2.2.2.1 ≤ 20 ∧ ∃ c2 c3, c ≤ c2 ∧ c2 ≤ c3 ∧ (x < 3 → Rn (8 * i + 1) = iN c ∧ Rn (8 * i + 2) = iN c2 ∧ Rn (8 * i + 3) = iN c2 ∧ Rn (8 * i + 4) = iN c3 ∧ (∃ q, q ≤ 50 ∧ RSeg op ar (lfB false) c c2 q cl.2.1) ∧ ∃ q, q ≤ 50 ∧ RSeg op ar (lfB false) c2 c3 q cl.2.2.1) ∧ Rn (8 * i + 5) = iN c3 ∧ Rn (8 * i + 6) = iN c1 ∧ TSegR op ar false c3 c1 cl.2.2.2.2 ∧ (x = 3 → Rn (8 * i + 1) = Rn (8 * i + 2) ∧ Rn (8 * i + 3) = Rn (8 * i + 4))
theorem RRowO.congr {Rn op ar Rn' op' ar' : Nat → Int32} {i c c1 : Nat} {cl : Cl} (h : RRowO Rn op ar i c c1 cl) (hR : ∀ x, 8 * i ≤ x → x < 8 * i + 8 → Rn' x = Rn x) (hs : ∀ x, c ≤ x → x < c1 → op' x = op x ∧ ar' x = ar x) : RRowO Rn' op' ar' i c c1 cl := by
  obtain ⟨x, a1, a2, a3, a4, a5, a6, c2, c3, l1, l2, a7, a8, a9, a10, a11⟩ := h
  have le := a10.le
  refine ⟨x, a1, a2, by rw [hR _ (by omega) (by omega)]; exact a3, by rw [hR _ (by omega) (by omega)]; exact a4, a5, a6, c2, c3, l1, l2, fun z => ?_, by rw [hR _ (by omega) (by omega)]; exact a8, by rw [hR _ (by omega) (by omega)]; exact a9, a10.congr (fun x h1 h2 => hs x (by omega) h2), fun z => by rw [hR _ (by omega) (by omega), hR _ (by omega) (by omega), hR _ (by omega) (by omega), hR _ (by omega) (by omega)]; exact a11 z⟩
  obtain ⟨b1, b2, b3, b4, ⟨q, b5, b6⟩, q', b7, b8⟩ := a7 z
  exact ⟨by rw [hR _ (by omega) (by omega)]; exact b1, by rw [hR _ (by omega) (by omega)]; exact b2, by rw [hR _ (by omega) (by omega)]; exact b3, by rw [hR _ (by omega) (by omega)]; exact b4, ⟨q, b5, b6.congr (fun x h1 h2 => hs x h1 (by omega))⟩, q', b7, b8.congr (fun x h1 h2 => hs x (by omega) (by omega))⟩
/-- the second sum and what is behind it -/
theorem ro146 (h : RX tb L nT false k q c σ) (hq : q ≤ 50) (hi : i < 12) : match lvS (kdN tb L) (nmN tb L) false nT 8 k q with
    | (k1, _, none) => ∃ σ1, s_X9_readOrder_j146 125 (iN (8 * i)) σ = some ((), σ1) ∧ Ag (Slw 154 0 i) σ σ1 ∧ BadX tb L k1 σ1
    | (k1, q1, some b) => match timP (kdN tb L) (nmN tb L) false nT k1 q1 with
      | (k2, _, none) => ∃ σ1, s_X9_readOrder_j146 125 (iN (8 * i)) σ = some ((), σ1) ∧ Ag (Slw 154 0 i) σ σ1 ∧ BadX tb L k2 σ1
      | (k2, q2, some (m, t)) => ∃ σ1 c3 c1, s_X9_readOrder_j146 125 (iN (8 * i)) σ = some ((), σ1) ∧ Ag (Slw 154 c i) σ σ1 ∧ RX tb L nT false k2 q2 c1 σ1 ∧ q2 ≤ 50 ∧ c ≤ c3 ∧ (∃ qq, qq ≤ 50 ∧ RSeg (zi σ1 136) (zi σ1 137) (lfB false) c c3 qq b) ∧ TSegR (zi σ1 136) (zi σ1 137) false c3 c1 t ∧ zi σ1 125 21 = zi σ 125 21 ∧ zi σ1 154 (8 * i + 3) = iN c ∧ zi σ1 154 (8 * i + 4) = iN c3 ∧ zi σ1 154 (8 * i + 5) = iN c3 ∧ zi σ1 154 (8 * i + 6) = iN c1 ∧ zi σ1 154 (8 * i + 7) = iN m ∧ 1 ≤ m ∧ m ≤ 20 ∧ ∀ x, x < 8 * i + 3 → zi σ1 154 x = zi σ 154 x := by
  have bk := q_ck125 h.1.1
  have hr := rsum9 (j := 3) (by decide) h hq hi
  have st : ∀ s, s_X9_readSum 125 (iN (8 * i) + iN 3) σ = some ((), s) → s_X9_readOrder_j146 125 (iN (8 * i)) σ = s_X9_readOrder_j153 125 (iN (8 * i)) s := fun s e => by
    have e : s_X9_readSum 125 (iN (8 * i) + 3) σ = _ := e
    unfold s_X9_readOrder_j146
    rw [bk, bos, e, cbs]
  generalize lvS (kdN tb L) (nmN tb L) false nT 8 k q = r at hr
  obtain ⟨k1, q1, oa⟩ := r
  cases oa with
  | none =>
    obtain ⟨σ1, x1, x2, x3⟩ := hr
    obtain ⟨σ2, y1, y2, y3⟩ := ro153_bad x3 hi
    exact ⟨σ2, (st _ x1).trans y1, x2.trans y2, y3⟩
  | some b =>
    obtain ⟨σ1, c3, x1, x2, x3, x4, ⟨qq, x5, x6⟩, x7, x8, x9, x10⟩ := hr
    have le := Nat.le_of_lt x6.1
    have hr2 := ro153 x3 x4 hi
    show match timP (kdN tb L) (nmN tb L) false nT k1 q1 with
      | (k2, _, none) => _
      | (k2, q2, some (m, t)) => _
    generalize timP (kdN tb L) (nmN tb L) false nT k1 q1 = r2 at hr2
    obtain ⟨k2, q2, ot⟩ := r2
    cases ot with
    | none =>
      obtain ⟨σ2, y1, y2, y3⟩ := hr2
      exact ⟨σ2, (st _ x1).trans y1, (x2.mono (fun a j z => z.mono (Nat.zero_le _) (Nat.le_refl _))).trans y2, y3⟩
    | some p =>
      obtain ⟨m, t⟩ := p
      obtain ⟨σ2, c1, y1, y2, y3, y4, y5, y6, y7, y8, y9, y10, y11, y12⟩ := hr2
      exact ⟨σ2, c3, c1, (st _ x1).trans y1, x2.trans (y2.mono (fun a j z => z.mono le (Nat.le_refl _))), y3, y4, le, ⟨qq, x5, x6.congr (fun x _ h2 => ⟨(y2.2.2.2.2 136 x (by unfold Slw Sm9; omega)).1, (y2.2.2.2.2 137 x (by unfold Slw Sm9; omega)).1⟩)⟩, y5, y6.trans x7, by rw [y12 _ (by omega)]; exact x8, by rw [y12 _ (by omega)]; exact x9, y7, y8, y9, y10, y11, fun x hx => by rw [y12 x (by omega), x10 x (by omega) (by omega)]⟩
theorem ro146_bad (h : BadX tb L k σ) (hi : i < 12) : ∃ σ1, s_X9_readOrder_j146 125 (iN (8 * i)) σ = some ((), σ1) ∧ Ag (Slw 154 0 i) σ σ1 ∧ BadX tb L k σ1 := by
  have bk := q_ck125 h.1
  obtain ⟨σ1, x1, x2, x3⟩ := rsum9_bad (j := 3) (by decide) h hi
  have x1 : s_X9_readSum 125 (iN (8 * i) + 3) σ = _ := x1
  obtain ⟨σ2, y1, y2, y3⟩ := ro153_bad x3 hi
  refine ⟨σ2, ?_, x2.trans y2, y3⟩
  unfold s_X9_readOrder_j146
  rw [bk, bos, x1, cbs, y1]
end RORE
