/-! ===== the reference reads an order as a whole ===== -/
section RORF
variable {σ : Hp} {tb : Nat → Nat} {L nT k q c i : Nat}
theorem lnk_act {x : Nat} (hx : x < 4) : lnkN (316 + 2 * x) = if x < 3 then some (317 + 2 * x) else none := by
  have : x = 0 ∨ x = 1 ∨ x = 2 ∨ x = 3 := by omega
  rcases this with rfl | rfl | rfl | rfl <;> rfl
theorem nos_act {x : Nat} (hx : x < 4) : noSum (316 + 2 * x) = decide (x = 3) := by
  have : x = 0 ∨ x = 1 ∨ x = 2 ∨ x = 3 := by omega
  rcases this with rfl | rfl | rfl | rfl <;> rfl
theorem readOrder9 (h : RX tb L nT false k q c σ) (hq : q ≤ 50) (h21 : zi σ 125 21 = iN i) (hi : i < 12) : ClS tb L nT false 154 c i σ (s_X9_readOrder 125 σ) RRowO (clauP (kdN tb L) (nmN tb L) false nT k q) := by
  have hd := acts9 h.1
  have bk := q_ck125 h.1.1
  have i21 := q_i125 (k := 21) h.1.1
  rw [h21] at i21
  have f12 : ¬ 12 ≤ iN i := fun z => by have := (iN_le (a := 12) (by decide) (by omega)).mp z; omega
  unfold clauP
  cases hb : begN false (kdN tb L k) with
  | false =>
    rw [pick_no hb] at hd
    rw [if_neg (by decide)]
    obtain ⟨m, b, e⟩ := h.fail (X := 154)
    have i19 := q_i125 (k := 19) b.1
    rw [b.2.1] at i19
    refine ⟨badH tb L k σ, ?_, e 0 i, b⟩
    simp only [s_X9_readOrder, s_X9_readOrder_j53, s_X9_readOrder_j54, hd, bk, m, i19, z10', bos, cbs, if_true, if_false]
  | true =>
    obtain ⟨x, hx, ex⟩ := beg_act hb
    rw [pick_act hx ex] at hd
    rw [if_pos rfl]
    have nm1 : ¬ iN x = -1 := iN_ne (by omega)
    have hk := h.1.lt (c := kdN tb L k) rfl (by omega)
    obtain ⟨σ1, mu, e1, r1⟩ := must9_t h.1 hk h.2.1
    have h1 := h.of9 e1 r1
    have g21 : zi σ1 125 21 = iN i := by rw [(e1.2.2.2.2 125 21 (by unfold Sn9; omega)).1]; exact h21
    have i19 := q_i125 (k := 19) h1.1.1
    rw [h1.2.1] at i19
    have i21b := q_i125 (k := 21) h1.1.1
    rw [g21] at i21b
    have i1 : iN i + 1 = iN (i + 1) := iN_add i 1
    have w21 := q_w125 (k := 21) (v := iN (i + 1)) h1.1.1
    have e2 : Ag (fun a j => a = 125 ∧ j = 21) σ1 (zsi σ1 125 21 (iN (i + 1))) := Ag.zsi ⟨rfl, rfl⟩
    have v21 : zi (zsi σ1 125 21 (iN (i + 1))) 125 21 = iN (i + 1) := zi_hit
    have h2 := h1.keep e2 (fun a j z => Or.inr (Or.inr z))
    generalize zsi σ1 125 21 (iN (i + 1)) = σ2 at w21 e2 v21 h2
    have m8 : (8 : Int32) * iN i = iN (8 * i) := by rw [show (8 : Int32) = iN 8 from rfl, iN_mul]
    obtain ⟨σ3, z3, e3, v3⟩ := zero154 h2.1.1 hi (hd := iN x)
    have h3 := h2.keep e3 (fun a j z => Or.inr (Or.inl z.1))
    have v21b : zi σ3 125 21 = iN (i + 1) := by rw [(e3.2.2.2.2 125 21 (by omega)).1]; exact v21
    have r49 := q_r125_49 h3.1.1
    obtain ⟨s0, e4, v0⟩ := row154 h3.1.1 hi (j := 0) (by decide) (iN x)
    have s0 : stI σ3 154 (iN (8 * i)) (iN x) = some (zsi σ3 154 (8 * i + 0) (iN x)) := by
      rw [iN_add] at s0
      exact s0
    have h4 := h3.keep e4 (fun a j z => Or.inr (Or.inl z.1))
    have o4 := one154 e4
    generalize zsi σ3 154 (8 * i + 0) (iN x) = σ4 at s0 e4 v0 h4 o4
    have v21c : zi σ4 125 21 = iN (i + 1) := by rw [o4.1 125 (by decide)]; exact v21b
    have bk4 := q_ck125 h4.1.1
    have e04 : ∀ c', Ag (Slw 154 c' i) σ σ4 := fun c' => (((e1.mono (fun a j z => z.tolw)).trans (e2.mono (fun a j z => Or.inr (Or.inr ⟨z.1, Or.inr (Or.inr z.2)⟩)))).trans (e3.mono (fun a j z => Or.inr (Or.inl ⟨z.1, z.2.1⟩)))).trans (to154 e4)
    have st : s_X9_readOrder 125 σ = if iN x = 3 then s_X9_readOrder_j153 125 (iN (8 * i)) σ4 else cb (s_X9_readSum 125 (iN (8 * i) + 1) σ4) fun _ σ17 => (rdI 9 σ17 125 19).bind fun v19 => if v19 = 0 then (rdR 9 σ17 125 48).bind fun r20 => (r20).bind fun a21 => (ldJ σ17 a21 (iN x)).bind fun v22 => (ck 9 σ17 125).bind fun _ => cb (s_X9_isWord 125 (v22) σ17) fun v25 σ24 => (ck 9 σ24 125).bind fun _ => cb (s_X9_must 125 (v25) σ24) fun _ σ27 => s_X9_readOrder_j146 125 (iN (8 * i)) σ27 else s_X9_readOrder_j146 125 (iN (8 * i)) σ17 := by
      simp only [s_X9_readOrder, s_X9_readOrder_j54, hd, nm1, i21, f12, bk, mu, i19, i21b, i1, w21, m8, z3, r49, s0, bk4, bos, cbs, if_true, if_false]
    rw [st, ex, nos_act hx]
    by_cases x3 : x = 3
    · have q3 : iN x = 3 := by rw [x3]; rfl
      rw [if_pos q3, if_pos (decide_eq_true x3)]
      have sp : ∀ k' q', secP (kdN tb L) (nmN tb L) false nT (316 + 2 * x) k' q' = (match timP (kdN tb L) (nmN tb L) false nT k' q' with
        | (k1, q1, none) => (k1, q1, none)
        | (k1, q1, some t) => (k1, q1, some (one1, t))) := fun k' q' => by
        unfold secP
        rw [lnk_act hx, if_neg (by omega)]
        rfl
      rw [sp]
      have hr := ro153 h4 hq hi
      generalize timP (kdN tb L) (nmN tb L) false nT (k + 1) q = r at hr
      obtain ⟨k1, q1, ot⟩ := r
      cases ot with
      | none =>
        obtain ⟨σ5, y1, y2, y3⟩ := hr
        exact ⟨σ5, y1, (e04 0).trans y2, y3⟩
      | some p =>
        obtain ⟨m, t⟩ := p
        obtain ⟨σ5, c1, y1, y2, y3, y4, y5, y6, y7, y8, y9, y10, y11, y12⟩ := hr
        exact ⟨σ5, c1, y1, (e04 c).trans y2, y3, y4, y6.trans v21c, y5.le, x, hx, rfl, by rw [y12 _ (by omega)]; exact v0, y9, y10, y11, c, c, Nat.le_refl _, Nat.le_refl _, fun z => absurd z (by omega), y7, y8, y5, fun _ => by
          have g : ∀ m, m < 8 → m ≠ 0 → m < 5 → zi σ5 154 (8 * i + m) = 0 := fun m h1 h2 h3 => by
            rw [y12 _ (by omega), o4.2 _ (by omega)]
            exact v3 m h1
          rw [g 1 (by decide) (by decide) (by decide), g 2 (by decide) (by decide) (by decide), g 3 (by decide) (by decide) (by decide), g 4 (by decide) (by decide) (by decide)]
          exact ⟨rfl, rfl⟩⟩
    · have q3 : ¬ iN x = 3 := fun z => x3 ((iN_inj (b := 3) (by omega) (by decide)).mp z)
      have lt3 : x < 3 := by omega
      rw [if_neg q3, if_neg (fun z => x3 (of_decide_eq_true z))]
      have hr := rsum9 (j := 1) (by decide) h4 hq hi
      have sp : ∀ k' q', secP (kdN tb L) (nmN tb L) false nT (316 + 2 * x) k' q' = (if kdN tb L k' = 317 + 2 * x then (match lvS (kdN tb L) (nmN tb L) false nT 8 (k' + 1) q' with
          | (k1, q1, none) => (k1, q1, none)
          | (k1, q1, some b) => (match timP (kdN tb L) (nmN tb L) false nT k1 q1 with
            | (k2, q2, none) => (k2, q2, none)
            | (k2, q2, some t) => (k2, q2, some (b, t))))
        else (k', q', none)) := fun k' q' => by
        unfold secP
        rw [lnk_act hx, if_pos lt3]
        rfl
      generalize lvS (kdN tb L) (nmN tb L) false nT 8 (k + 1) q = r at hr
      obtain ⟨k1, q1, oa⟩ := r
      cases oa with
      | none =>
        obtain ⟨σ5, y1, y2, y3⟩ := hr
        have y1 : s_X9_readSum 125 (iN (8 * i) + 1) σ4 = _ := y1
        obtain ⟨σ6, w1, w2, w3⟩ := ro146_bad y3 hi
        have i19 := q_i125 (k := 19) y3.1
        rw [y3.2.1] at i19
        refine ⟨σ6, ?_, ((e04 0).trans y2).trans w2, w3⟩
        rw [y1, cbs, i19, bos, if_neg z10', w1]
      | some a =>
        obtain ⟨σ5, c2, y1, y2, y3, y4, ⟨qq, y5, y6⟩, y7, y8, y9, y10⟩ := hr
        have y1 : s_X9_readSum 125 (iN (8 * i) + 1) σ4 = _ := y1
        have le2 := Nat.le_of_lt y6.1
        have i19 := q_i125 (k := 19) y3.1.1
        rw [y3.2.1] at i19
        have r48 := q_r125_48 y3.1.1
        have l := q_ld153 (n := x) lt3 y3.1.1
        rw [y3.1.2.2.2.2.2.1.btw lt3] at l
        have bk5 := q_ck125 y3.1.1
        have w := wrd9 y3.1 (w := 17 + 2 * x) (by omega)
        rw [y1, cbs, i19, bos, if_pos rfl, r48, bos, bos, l, bos, bk5, bos]
        show ClS tb L nT false 154 c i σ _ RRowO (match secP (kdN tb L) (nmN tb L) false nT (316 + 2 * x) k1 q1 with
          | (k2, q2, none) => (k2, q2, none)
          | (k2, q2, some t) => (k2, q2, some (316 + 2 * x, a, t)))
        rw [sp]
        by_cases cw : kdN tb L k1 = 317 + 2 * x
        · rw [if_pos cw, w.1 (by omega), cbs, bk5, bos]
          have hk1 := y3.1.lt cw (by omega)
          obtain ⟨σ6, mu6, e6, r6⟩ := must9_t y3.1 hk1 y3.2.1
          have h6 := y3.of9 e6 r6
          rw [mu6, cbs]
          have z154 : ∀ j, zi σ6 154 j = zi σ5 154 j := fun j => (e6.2.2.2.2 154 j (by unfold Sn9; omega)).1
          have z21 : zi σ6 125 21 = zi σ5 125 21 := (e6.2.2.2.2 125 21 (by unfold Sn9; omega)).1
          have e06 : ∀ c', c' ≤ c → Ag (Slw 154 c' i) σ σ6 := fun c' hc' => ((e04 c').trans (y2.mono (fun a j z => z.mono hc' (Nat.le_refl _)))).trans (e6.mono (fun a j z => z.tolw))
          have hr2 := ro146 h6 y4 hi
          generalize lvS (kdN tb L) (nmN tb L) false nT 8 (k1 + 1) q1 = r2 at hr2
          obtain ⟨k2, q2, ob⟩ := r2
          cases ob with
          | none =>
            obtain ⟨σ7, w1, w2, w3⟩ := hr2
            exact ⟨σ7, w1, (e06 0 (Nat.zero_le _)).trans w2, w3⟩
          | some b =>
            show ClS tb L nT false 154 c i σ _ RRowO (match (match timP (kdN tb L) (nmN tb L) false nT k2 q2 with
              | (k2, q2, none) => (k2, q2, none)
              | (k2, q2, some t) => (k2, q2, some (b, t))) with
              | (k2, q2, none) => (k2, q2, none)
              | (k2, q2, some t) => (k2, q2, some (316 + 2 * x, a, t)))
            have hr2 : match timP (kdN tb L) (nmN tb L) false nT k2 q2 with
              | (k2, _, none) => _
              | (k2, q2, some (m, t)) => _ := hr2
            generalize timP (kdN tb L) (nmN tb L) false nT k2 q2 = r3 at hr2
            obtain ⟨k3, q3, ot⟩ := r3
            cases ot with
            | none =>
              obtain ⟨σ7, w1, w2, w3⟩ := hr2
              exact ⟨σ7, w1, (e06 0 (Nat.zero_le _)).trans w2, w3⟩
            | some p =>
              obtain ⟨m, t⟩ := p
              obtain ⟨σ7, c3, c1, w1, w2, w3, w4, w5, ⟨q7, w6, w6'⟩, w7, w8, w9, w10, w11, w12, w13, w14, w15, w16⟩ := hr2
              have le1 := w7.le
              refine ⟨σ7, c1, w1, (e06 c (Nat.le_refl _)).trans (w2.mono (fun a j z => z.mono le2 (Nat.le_refl _))), w3, w4, by rw [w8, z21, y7]; exact v21c, by omega, x, hx, rfl, by rw [w16 _ (by omega), z154, y10 _ (by omega) (by omega)]; exact v0, w13, w14, w15, c2, c3, le2, w5, fun _ => ⟨by rw [w16 _ (by omega), z154]; exact y8, by rw [w16 _ (by omega), z154]; exact y9, w9, w10, ⟨qq, y5, y6.congr (fun j _ h2 => ⟨?_, ?_⟩)⟩, q7, w6, w6'⟩, w11, w12, w7, fun z => absurd z x3⟩
              · rw [(w2.2.2.2.2 136 j (by unfold Slw Sm9; omega)).1, (e6.2.2.2.2 136 j (by unfold Sn9; omega)).1]
              · rw [(w2.2.2.2.2 137 j (by unfold Slw Sm9; omega)).1, (e6.2.2.2.2 137 j (by unfold Sn9; omega)).1]
        · rw [if_neg cw, w.2 (by omega), cbs, bk5, bos]
          obtain ⟨m, b, e⟩ := y3.fail (X := 154)
          have e5 := e 0 i
          rw [m, cbs]
          generalize badH tb L k1 σ5 = σ6 at b e5
          obtain ⟨σ7, w1, w2, w3⟩ := ro146_bad b hi
          exact ⟨σ7, w1, (((e04 0).trans (y2.mono (fun a j z => z.mono (Nat.zero_le _) (Nat.le_refl _)))).trans e5).trans w2, w3⟩
/-- the 13th order -/
theorem readOrder9_13 (h : RX tb L nT false k q c σ) (h21 : zi σ 125 21 = iN 12) : ∃ σ1, s_X9_readOrder 125 σ = some ((), σ1) ∧ (∀ i, Ag (Slw 154 0 i) σ σ1) ∧ BadX tb L k σ1 := by
  have hd := acts9 h.1
  have bk := q_ck125 h.1.1
  have i21 := q_i125 (k := 21) h.1.1
  rw [h21] at i21
  have f12 : 12 ≤ iN 12 := by decide
  obtain ⟨m, b, e⟩ := h.fail (X := 154)
  have i19 := q_i125 (k := 19) b.1
  rw [b.2.1] at i19
  refine ⟨badH tb L k σ, ?_, fun i => e 0 i, b⟩
  by_cases z : pickN (kdN tb L k) hdO iN 4 = -1
  · simp only [s_X9_readOrder, s_X9_readOrder_j53, s_X9_readOrder_j54, hd, z, bk, m, i19, z10', bos, cbs, if_true, if_false]
  · simp only [s_X9_readOrder, s_X9_readOrder_j53, s_X9_readOrder_j54, hd, z, i21, f12, bk, m, i19, z10', bos, cbs, if_true, if_false]
end RORF
