/-! ===== the reference reads an order ===== -/
section RORD
variable {σ : Hp} {tb : Nat → Nat} {L nT k q c i : Nat} {lw : Bool}
theorem RX.next (h : RX tb L nT lw k q c σ) (hk : k < nT) : ∃ σ1, s_X9_next 125 σ = some ((), σ1) ∧ Ag Sn9 σ σ1 ∧ RX tb L nT lw (k + 1) q c σ1 := by
  obtain ⟨σ1, nx, e1, r1⟩ := next9k h.1 hk
  have g : ∀ j, (j ≠ 14 ∧ j ≠ 15 ∧ j ≠ 16 ∧ j ≠ 17) → zi σ1 125 j = zi σ 125 j := fun j hj => (e1.2.2.2.2 125 j (by unfold Sn9; omega)).1
  exact ⟨σ1, nx, e1, r1, by rw [g 19 (by omega)]; exact h.2.1, by rw [g 20 (by omega)]; exact h.2.2.1, by rw [g 26 (by omega)]; exact h.2.2.2.1, by rw [g 23 (by omega)]; exact h.2.2.2.2.1, by have := h.2.2.2.2.2; omega⟩
theorem RX.of9 {σ1 : Hp} (h : RX tb L nT lw k q c σ) (e1 : Ag Sn9 σ σ1) (r1 : RT tb L nT (k + 1) σ1) : RX tb L nT lw (k + 1) q c σ1 := by
  have g : ∀ j, (j ≠ 14 ∧ j ≠ 15 ∧ j ≠ 16 ∧ j ≠ 17) → zi σ1 125 j = zi σ 125 j := fun j hj => (e1.2.2.2.2 125 j (by unfold Sn9; omega)).1
  exact ⟨r1, by rw [g 19 (by omega)]; exact h.2.1, by rw [g 20 (by omega)]; exact h.2.2.1, by rw [g 26 (by omega)]; exact h.2.2.2.1, by rw [g 23 (by omega)]; exact h.2.2.2.2.1, by have := h.2.2.2.2.2; omega⟩
theorem row154 (hS : SK σ) (hi : i < 12) {j : Nat} (hj : j < 8) (v : Int32) : stI σ 154 (iN (8 * i) + iN j) v = some (zsi σ 154 (8 * i + j) v) ∧ Ag (fun a x => a = 154 ∧ x = 8 * i + j) σ (zsi σ 154 (8 * i + j) v) ∧ zi (zsi σ 154 (8 * i + j) v) 154 (8 * i + j) = v := by
  rw [iN_add]
  exact ⟨q_st154 (by omega) hS, Ag.zsi ⟨rfl, rfl⟩, zi_hit⟩
theorem one154 {j : Nat} {σ1 : Hp} (e : Ag (fun a x => a = 154 ∧ x = 8 * i + j) σ σ1) : (∀ a, a ≠ 154 → zi σ1 a = zi σ a) ∧ ∀ x, x ≠ 8 * i + j → zi σ1 154 x = zi σ 154 x :=
  ⟨fun a ha => funext fun x => (e.2.2.2.2 a x (by omega)).1, fun x hx => (e.2.2.2.2 154 x (by omega)).1⟩
theorem to154 {j c' : Nat} {σ1 : Hp} (e : Ag (fun a x => a = 154 ∧ x = 8 * i + j) σ σ1) : Ag (Slw 154 c' i) σ σ1 := e.mono (fun a x z => Or.inr (Or.inl ⟨z.1, by omega⟩))
theorem ro239 {c1 : Nat} (hS : SK σ) (hi : i < 12) (hc : zi σ 125 23 = iN c1) : s_X9_readOrder_j239 125 (iN (8 * i)) σ = some ((), zsi σ 154 (8 * i + 6) (iN c1)) := by
  have r := q_r125_49 hS
  have i3 := q_i125 (k := 23) hS
  rw [hc] at i3
  obtain ⟨s6, -, -⟩ := row154 hS hi (j := 6) (by decide) (iN c1)
  have s6 : stI σ 154 (iN (8 * i) + 6) (iN c1) = _ := s6
  unfold s_X9_readOrder_j239
  rw [r, bos, i3, bos, bos, s6, bos]
/-- behind how often -/
theorem ro201 (h : RX tb L nT lw k q c σ) (hq : q ≤ 50) (hi : i < 12) : match tstP (kdN tb L) (nmN tb L) lw nT k q with
    | (k1, q1, some t) => ∃ σ1 c1, s_X9_readOrder_j201 125 (iN (8 * i)) σ = some ((), σ1) ∧ Ag (Slw 154 c i) σ σ1 ∧ RX tb L nT lw k1 q1 c1 σ1 ∧ q1 ≤ 50 ∧ TSegR (zi σ1 136) (zi σ1 137) lw c c1 t ∧ zi σ1 125 21 = zi σ 125 21 ∧ zi σ1 154 (8 * i + 5) = iN c ∧ zi σ1 154 (8 * i + 6) = iN c1 ∧ ∀ x, x < 8 * i + 5 ∨ x = 8 * i + 7 → zi σ1 154 x = zi σ 154 x
    | (k1, _, none) => ∃ σ1, s_X9_readOrder_j201 125 (iN (8 * i)) σ = some ((), σ1) ∧ Ag (Slw 154 0 i) σ σ1 ∧ BadX tb L k1 σ1 := by
  have r49 := q_r125_49 h.1.1
  have i23 := q_i125 (k := 23) h.1.1
  rw [h.2.2.2.2.1] at i23
  obtain ⟨s5, e5, v5⟩ := row154 h.1.1 hi (j := 5) (by decide) (iN c)
  have s5 : stI σ 154 (iN (8 * i) + 5) (iN c) = _ := s5
  have h2 := h.keep e5 (fun a j z => Or.inr (Or.inl z.1))
  have o5 := one154 e5
  generalize zsi σ 154 (8 * i + 5) (iN c) = σ2 at s5 e5 v5 h2 o5
  have i19 := q_i125 (k := 19) h2.1.1
  rw [h2.2.1] at i19
  have bk2 := q_ck125 h2.1.1
  have st : s_X9_readOrder_j201 125 (iN (8 * i)) σ = cb (cb (s_X9_isWord 125 294 σ2) fun v12 σ11 => if v12 = 0 then some ((), σ11) else (ck 9 σ11 125).bind fun _ => cb (s_X9_next 125 σ11) fun _ σ14 => (ck 9 σ14 125).bind fun _ => cb (s_X9_readExpression 125 1 σ14) fun _ σ17 => some ((), σ17)) fun _ s => s_X9_readOrder_j239 125 (iN (8 * i)) s := by
    unfold s_X9_readOrder_j201
    rw [r49, bos, i23, bos, bos, s5, bos, i19, bos, if_pos rfl, bk2, bos]
    unfold cb
    cases s_X9_isWord 125 294 σ2 with
    | none => rfl
    | some p =>
      obtain ⟨v, s⟩ := p
      by_cases z : v = 0
      · simp only [bos, z, if_true]
      · simp only [bos, z, if_false]
        cases ck 9 s 125 with
        | none => rfl
        | some u =>
          simp only [bos]
          cases s_X9_next 125 s with
          | none => rfl
          | some p2 =>
            simp only [bos]
            cases ck 9 p2.2 125 with
            | none => rfl
            | some u2 =>
              simp only [bos]
              cases s_X9_readExpression 125 1 p2.2 with
              | none => rfl
              | some p3 => rfl
  have hr := rtest9 (X := 154) (i := i) h2 hq
  generalize tstP (kdN tb L) (nmN tb L) lw nT k q = r at hr
  obtain ⟨k1, q1, ot⟩ := r
  cases ot with
  | none =>
    obtain ⟨σ3, x1, x2, x3⟩ := hr
    obtain ⟨y1, y2, y3, c3, y4, y5⟩ := id x3
    have f := ro239 y1 hi y5
    obtain ⟨-, e6, -⟩ := row154 y1 hi (j := 6) (by decide) (iN c3)
    have x3' := x3.keep e6 (fun a j z => Or.inr (Or.inl z.1))
    generalize zsi σ3 154 (8 * i + 6) (iN c3) = σ4 at f e6 x3'
    refine ⟨σ4, ?_, ((to154 e5).trans x2).trans (to154 e6), x3'⟩
    rw [st, x1, cbs, f]
  | some t =>
    obtain ⟨σ3, c3, x1, x2, x3, x4, x5⟩ := hr
    have f := ro239 x3.1.1 hi x3.2.2.2.2.1
    obtain ⟨-, e6, v6⟩ := row154 x3.1.1 hi (j := 6) (by decide) (iN c3)
    have x3' := x3.keep e6 (fun a j z => Or.inr (Or.inl z.1))
    have o6 := one154 e6
    generalize zsi σ3 154 (8 * i + 6) (iN c3) = σ4 at f e6 v6 x3' o6
    have z154 : ∀ x, zi σ3 154 x = zi σ2 154 x := fun x => (x2.2.2.2.2 154 x (by unfold Sm9; omega)).1
    refine ⟨σ4, c3, ?_, ((to154 e5).trans (x2.mono (fun a j z => z.tolw))).trans (to154 e6), x3', x4, ?_, ?_, ?_, v6, fun x hx => ?_⟩
    · rw [st, x1, cbs, f]
    · rw [o6.1 136 (by decide), o6.1 137 (by decide)]
      exact x5
    · rw [o6.1 125 (by decide), (x2.2.2.2.2 125 21 (by unfold Sm9; omega)).1, o5.1 125 (by decide)]
    · rw [o6.2 _ (by omega), z154]
      exact v5
    · rw [o6.2 x (by omega), z154, o5.2 x (by omega)]
theorem ro201_bad (h : BadX tb L k σ) (hi : i < 12) : ∃ σ1, s_X9_readOrder_j201 125 (iN (8 * i)) σ = some ((), σ1) ∧ Ag (Slw 154 0 i) σ σ1 ∧ BadX tb L k σ1 := by
  obtain ⟨h1, h2, h3, c, h4, h5⟩ := id h
  have r49 := q_r125_49 h1
  have i23 := q_i125 (k := 23) h1
  rw [h5] at i23
  obtain ⟨s5, e5, v5⟩ := row154 h1 hi (j := 5) (by decide) (iN c)
  have s5 : stI σ 154 (iN (8 * i) + 5) (iN c) = _ := s5
  have b2 := h.keep e5 (fun a j z => Or.inr (Or.inl z.1))
  have o5 := one154 e5
  generalize zsi σ 154 (8 * i + 5) (iN c) = σ2 at s5 e5 v5 b2 o5
  have i19 := q_i125 (k := 19) b2.1
  rw [b2.2.1] at i19
  have f := ro239 b2.1 hi (by rw [o5.1 125 (by decide)]; exact h5)
  obtain ⟨-, e6, -⟩ := row154 b2.1 hi (j := 6) (by decide) (iN c)
  have b3 := b2.keep e6 (fun a j z => Or.inr (Or.inl z.1))
  generalize zsi σ2 154 (8 * i + 6) (iN c) = σ3 at f e6 b3
  refine ⟨σ3, ?_, (to154 e5).trans (to154 e6), b3⟩
  unfold s_X9_readOrder_j201
  rw [r49, bos, i23, bos, bos, s5, bos, i19, bos, if_neg z10', f]
/-- how often, and what is behind -/
theorem ro153 (h : RX tb L nT false k q c σ) (hq : q ≤ 50) (hi : i < 12) : match timP (kdN tb L) (nmN tb L) false nT k q with
    | (k1, q1, some (m, t)) => ∃ σ1 c1, s_X9_readOrder_j153 125 (iN (8 * i)) σ = some ((), σ1) ∧ Ag (Slw 154 c i) σ σ1 ∧ RX tb L nT false k1 q1 c1 σ1 ∧ q1 ≤ 50 ∧ TSegR (zi σ1 136) (zi σ1 137) false c c1 t ∧ zi σ1 125 21 = zi σ 125 21 ∧ zi σ1 154 (8 * i + 5) = iN c ∧ zi σ1 154 (8 * i + 6) = iN c1 ∧ zi σ1 154 (8 * i + 7) = iN m ∧ 1 ≤ m ∧ m ≤ 20 ∧ ∀ x, x < 8 * i + 5 → zi σ1 154 x = zi σ 154 x
    | (k1, _, none) => ∃ σ1, s_X9_readOrder_j153 125 (iN (8 * i)) σ = some ((), σ1) ∧ Ag (Slw 154 0 i) σ σ1 ∧ BadX tb L k1 σ1 := by
  have r49 := q_r125_49 h.1.1
  obtain ⟨s7, e7, v7⟩ := row154 h.1.1 hi (j := 7) (by decide) 1
  have s7 : stI σ 154 (iN (8 * i) + 7) 1 = _ := s7
  have h2 := h.keep e7 (fun a j z => Or.inr (Or.inl z.1))
  have o7 := one154 e7
  generalize zsi σ 154 (8 * i + 7) 1 = σ2 at s7 e7 v7 h2 o7
  have i19 := q_i125 (k := 19) h2.1.1
  rw [h2.2.1] at i19
  have bk2 := q_ck125 h2.1.1
  have w := wrd9 h2.1 (w := 23) (by decide)
  unfold timP
  by_cases c1 : kdN tb L k = 323
  · have w : s_X9_isWord 125 21279923 σ2 = some (1, σ2) := w.1 c1
    rw [if_pos ⟨rfl, c1⟩]
    have hk := h.1.lt c1 (by decide)
    obtain ⟨σ3, nx, e3, h3⟩ := h2.next hk
    have r49b := q_r125_49 h3.1.1
    have bk3 := q_ck125 h3.1.1
    have st : s_X9_readOrder_j153 125 (iN (8 * i)) σ = cb (s_X9_number 125 1 20 σ3) fun v14 σ13 => (stI σ13 154 (iN (8 * i) + 7) v14).bind fun σ16 => s_X9_readOrder_j201 125 (iN (8 * i)) σ16 := by
      unfold s_X9_readOrder_j153
      rw [r49, bos, bos, s7, bos, i19, bos, if_pos rfl, bk2, bos, w, cbs, if_neg z10', bk2, bos, nx, cbs, r49b, bos, bk3, bos]
      rfl
    by_cases c2 : kdN tb L (k + 1) = 256 ∧ 1 ≤ nmN tb L (k + 1) ∧ nmN tb L (k + 1) ≤ 20
    · rw [if_pos c2]
      obtain ⟨σ4, n1, n2, n3⟩ := number9_t (lo := 1) (hi := 20) h3.1 h3.2.1 (by decide) c2.1 c2.2.1 c2.2.2
      have n1 : s_X9_number 125 1 20 σ3 = _ := n1
      have h4 := h3.of9 n2 n3
      obtain ⟨s8, e8, v8⟩ := row154 h4.1.1 hi (j := 7) (by decide) (iN (nmN tb L (k + 1)))
      have s8 : stI σ4 154 (iN (8 * i) + 7) (iN (nmN tb L (k + 1))) = _ := s8
      have h5 := h4.keep e8 (fun a j z => Or.inr (Or.inl z.1))
      have o8 := one154 e8
      generalize zsi σ4 154 (8 * i + 7) (iN (nmN tb L (k + 1))) = σ5 at s8 e8 v8 h5 o8
      have hr := ro201 h5 hq hi
      have e05 : ∀ c', Ag (Slw 154 c' i) σ σ5 := fun c' => (((to154 e7).trans (e3.mono (fun a j z => z.tolw))).trans (n2.mono (fun a j z => z.tolw))).trans (to154 e8)
      have z5 : ∀ x, x ≠ 8 * i + 7 → zi σ5 154 x = zi σ 154 x := fun x hx => by
        rw [o8.2 x hx, (n2.2.2.2.2 154 x (by unfold Sn9; omega)).1, (e3.2.2.2.2 154 x (by unfold Sn9; omega)).1, o7.2 x hx]
      have z21 : zi σ5 125 21 = zi σ 125 21 := by
        rw [o8.1 125 (by decide), (n2.2.2.2.2 125 21 (by unfold Sn9; omega)).1, (e3.2.2.2.2 125 21 (by unfold Sn9; omega)).1, o7.1 125 (by decide)]
      rw [st, n1, cbs, s8, bos]
      generalize tstP (kdN tb L) (nmN tb L) false nT (k + 2) q = r at hr
      obtain ⟨k1, q1, ot⟩ := r
      cases ot with
      | none =>
        obtain ⟨σ6, x1, x2, x3⟩ := hr
        exact ⟨σ6, x1, (e05 0).trans x2, x3⟩
      | some t =>
        obtain ⟨σ6, c6, x1, x2, x3, x4, x5, x6, x7, x8, x9⟩ := hr
        exact ⟨σ6, c6, x1, (e05 c).trans x2, x3, x4, x5, x6.trans z21, x7, x8, by rw [x9 _ (Or.inr rfl)]; exact v8, c2.2.1, c2.2.2, fun x hx => by rw [x9 x (Or.inl hx), z5 x (by omega)]⟩
    · rw [if_neg c2]
      obtain ⟨v, n1⟩ := number9_f (lo := 1) (hi := 20) h3.1 h3.2.1 (by decide) (by decide) c2
      have n1 : s_X9_number 125 1 20 σ3 = _ := n1
      obtain ⟨-, b, e⟩ := h3.fail (X := 154)
      have e4 := e 0 i
      generalize badH tb L (k + 1) σ3 = σ4 at n1 b e4
      obtain ⟨s8, e8, v8⟩ := row154 b.1 hi (j := 7) (by decide) v
      have s8 : stI σ4 154 (iN (8 * i) + 7) v = _ := s8
      have b5 := b.keep e8 (fun a j z => Or.inr (Or.inl z.1))
      generalize zsi σ4 154 (8 * i + 7) v = σ5 at s8 e8 v8 b5
      obtain ⟨σ6, x1, x2, x3⟩ := ro201_bad b5 hi
      refine ⟨σ6, ?_, ((((to154 e7).trans (e3.mono (fun a j z => z.tolw))).trans e4).trans (to154 e8)).trans x2, x3⟩
      rw [st, n1, cbs, s8, bos, x1]
  · have w : s_X9_isWord 125 21279923 σ2 = some (0, σ2) := w.2 c1
    rw [if_neg (fun z => c1 z.2)]
    have st : s_X9_readOrder_j153 125 (iN (8 * i)) σ = s_X9_readOrder_j201 125 (iN (8 * i)) σ2 := by
      unfold s_X9_readOrder_j153
      rw [r49, bos, bos, s7, bos, i19, bos, if_pos rfl, bk2, bos, w, cbs, if_pos rfl]
    have hr := ro201 h2 hq hi
    rw [st]
    generalize tstP (kdN tb L) (nmN tb L) false nT k q = r at hr
    obtain ⟨k1, q1, ot⟩ := r
    cases ot with
    | none =>
      obtain ⟨σ6, x1, x2, x3⟩ := hr
      exact ⟨σ6, x1, (to154 e7).trans x2, x3⟩
    | some t =>
      obtain ⟨σ6, c6, x1, x2, x3, x4, x5, x6, x7, x8, x9⟩ := hr
      exact ⟨σ6, c6, x1, (to154 e7).trans x2, x3, x4, x5, by rw [x6, o7.1 125 (by decide)], x7, x8, by rw [x9 _ (Or.inr rfl)]; exact v7, by decide, by decide, fun x hx => by rw [x9 x (Or.inl hx), o7.2 x (by omega)]⟩
theorem ro153_bad (h : BadX tb L k σ) (hi : i < 12) : ∃ σ1, s_X9_readOrder_j153 125 (iN (8 * i)) σ = some ((), σ1) ∧ Ag (Slw 154 0 i) σ σ1 ∧ BadX tb L k σ1 := by
  have r49 := q_r125_49 h.1
  obtain ⟨s7, e7, v7⟩ := row154 h.1 hi (j := 7) (by decide) 1
  have s7 : stI σ 154 (iN (8 * i) + 7) 1 = _ := s7
  have b2 := h.keep e7 (fun a j z => Or.inr (Or.inl z.1))
  generalize zsi σ 154 (8 * i + 7) 1 = σ2 at s7 e7 v7 b2
  have i19 := q_i125 (k := 19) b2.1
  rw [b2.2.1] at i19
  obtain ⟨σ3, x1, x2, x3⟩ := ro201_bad b2 hi
  refine ⟨σ3, ?_, (to154 e7).trans x2, x3⟩
  unfold s_X9_readOrder_j153
  rw [r49, bos, bos, s7, bos, i19, bos, if_neg z10', x1]
/-- one of the two sums -/
theorem rsum9 {j : Nat} (hj : j < 7) (h : RX tb L nT false k q c σ) (hq : q ≤ 50) (hi : i < 12) : match lvS (kdN tb L) (nmN tb L) false nT 8 k q with
    | (k1, q1, some a) => ∃ σ1 c1, s_X9_readSum 125 (iN (8 * i) + iN j) σ = some ((), σ1) ∧ Ag (Slw 154 c i) σ σ1 ∧ RX tb L nT false k1 q1 c1 σ1 ∧ q1 ≤ 50 ∧ (∃ qq, qq ≤ 50 ∧ RSeg (zi σ1 136) (zi σ1 137) (lfB false) c c1 qq a) ∧ zi σ1 125 21 = zi σ 125 21 ∧ zi σ1 154 (8 * i + j) = iN c ∧ zi σ1 154 (8 * i + (j + 1)) = iN c1 ∧ ∀ x, x ≠ 8 * i + j → x ≠ 8 * i + (j + 1) → zi σ1 154 x = zi σ 154 x
    | (k1, _, none) => ∃ σ1, s_X9_readSum 125 (iN (8 * i) + iN j) σ = some ((), σ1) ∧ Ag (Slw 154 0 i) σ σ1 ∧ BadX tb L k1 σ1 := by
  have r49 := q_r125_49 h.1.1
  have i23 := q_i125 (k := 23) h.1.1
  rw [h.2.2.2.2.1] at i23
  obtain ⟨s1, e1, v1⟩ := row154 h.1.1 hi (j := j) (by omega) (iN c)
  have h2 := h.keep e1 (fun a j z => Or.inr (Or.inl z.1))
  have o1 := one154 e1
  generalize zsi σ 154 (8 * i + j) (iN c) = σ2 at s1 e1 v1 h2 o1
  have i19 := q_i125 (k := 19) h2.1.1
  rw [h2.2.1] at i19
  have bk2 := q_ck125 h2.1.1
  have ad : iN (8 * i) + iN j + 1 = iN (8 * i) + iN (j + 1) := by
    rw [iN_add, iN_add]
    exact iN_add _ 1
  have fin : ∀ (τ : Hp) (c1 : Nat), SK τ → zi τ 125 23 = iN c1 → s_X9_readSum_j22 125 (iN (8 * i) + iN j) τ = some ((), zsi τ 154 (8 * i + (j + 1)) (iN c1)) := by
    intro τ c1 hS hc
    have r := q_r125_49 hS
    have i3 := q_i125 (k := 23) hS
    rw [hc] at i3
    obtain ⟨s6, -, -⟩ := row154 hS hi (j := j + 1) (by omega) (iN c1)
    unfold s_X9_readSum_j22
    rw [r, bos, i3, bos, bos, ad, s6, bos]
  have st : s_X9_readSum 125 (iN (8 * i) + iN j) σ = cb (s_X9_readExpression 125 0 σ2) fun _ s => s_X9_readSum_j22 125 (iN (8 * i) + iN j) s := by
    unfold s_X9_readSum
    rw [r49, bos, i23, bos, bos, s1, bos, i19, bos, if_pos rfl, bk2, bos]
  have hr := expS9 h2 hq
  have hE := h.1.kE
  have hk := h.1.2.2.2.1
  have hg := good_lvS (nm := nmN tb L) (lw := false) hE 8 k q hk hq
  rw [st]
  generalize lvS (kdN tb L) (nmN tb L) false nT 8 k q = r at hr hg
  obtain ⟨k1, q1, oa⟩ := r
  cases oa with
  | none =>
    obtain ⟨σ3, x1, x2, x3⟩ := hr
    have b : BadX tb L k1 σ3 := x3
    obtain ⟨y1, y2, y3, c3, y4, y5⟩ := id b
    have f := fin σ3 c3 y1 y5
    obtain ⟨-, e6, -⟩ := row154 y1 hi (j := j + 1) (by omega) (iN c3)
    have b' := b.keep e6 (fun a j z => Or.inr (Or.inl z.1))
    generalize zsi σ3 154 (8 * i + (j + 1)) (iN c3) = σ4 at f e6 b'
    refine ⟨σ4, ?_, ((to154 e1).trans (x2.mono (fun a j z => z.tolw))).trans (to154 e6), b'⟩
    rw [x1, cbs, f]
  | some a =>
    obtain ⟨σ3, c3, x1, x2, x3, x4⟩ := hr
    obtain ⟨-, hq1, hq2, -⟩ := hg.2.2 a rfl
    have hq1 : q < q1 := hq1
    have hq2 : q1 ≤ 50 := hq2
    have f := fin σ3 c3 x3.1.1 x3.2.2.2.2.1
    obtain ⟨-, e6, v6⟩ := row154 x3.1.1 hi (j := j + 1) (by omega) (iN c3)
    have x3' := x3.keep e6 (fun a j z => Or.inr (Or.inl z.1))
    have o6 := one154 e6
    generalize zsi σ3 154 (8 * i + (j + 1)) (iN c3) = σ4 at f e6 v6 x3' o6
    have z154 : ∀ x, zi σ3 154 x = zi σ2 154 x := fun x => (x2.2.2.2.2 154 x (by unfold Sm9; omega)).1
    refine ⟨σ4, c3, ?_, ((to154 e1).trans (x2.mono (fun a j z => z.tolw))).trans (to154 e6), x3', hq2, ⟨q1 - q, by omega, ?_⟩, ?_, ?_, v6, fun x h1 h2 => ?_⟩
    · rw [x1, cbs, f]
    · rw [o6.1 136 (by decide), o6.1 137 (by decide)]
      exact x4
    · rw [o6.1 125 (by decide), (x2.2.2.2.2 125 21 (by unfold Sm9; omega)).1, o1.1 125 (by decide)]
    · rw [o6.2 _ (by omega), z154]
      exact v1
    · rw [o6.2 x h2, z154, o1.2 x h1]
theorem rsum9_bad {j : Nat} (hj : j < 7) (h : BadX tb L k σ) (hi : i < 12) : ∃ σ1, s_X9_readSum 125 (iN (8 * i) + iN j) σ = some ((), σ1) ∧ Ag (Slw 154 0 i) σ σ1 ∧ BadX tb L k σ1 := by
  obtain ⟨h1, h2, h3, c, h4, h5⟩ := id h
  have r49 := q_r125_49 h1
  have i23 := q_i125 (k := 23) h1
  rw [h5] at i23
  obtain ⟨s1, e1, v1⟩ := row154 h1 hi (j := j) (by omega) (iN c)
  have b2 := h.keep e1 (fun a j z => Or.inr (Or.inl z.1))
  have o1 := one154 e1
  generalize zsi σ 154 (8 * i + j) (iN c) = σ2 at s1 e1 v1 b2 o1
  have i19 := q_i125 (k := 19) b2.1
  rw [b2.2.1] at i19
  have ad : iN (8 * i) + iN j + 1 = iN (8 * i) + iN (j + 1) := by
    rw [iN_add, iN_add]
    exact iN_add _ 1
  have r49b := q_r125_49 b2.1
  have i23b := q_i125 (k := 23) b2.1
  rw [o1.1 125 (by decide), h5] at i23b
  obtain ⟨s6, e6, -⟩ := row154 b2.1 hi (j := j + 1) (by omega) (iN c)
  have b3 := b2.keep e6 (fun a j z => Or.inr (Or.inl z.1))
  generalize zsi σ2 154 (8 * i + (j + 1)) (iN c) = σ3 at s6 e6 b3
  refine ⟨σ3, ?_, (to154 e1).trans (to154 e6), b3⟩
  unfold s_X9_readSum s_X9_readSum_j22
  rw [r49, bos, i23, bos, bos, s1, bos, i19, bos, if_neg z10', r49b, bos, i23b, bos, bos, ad, s6, bos]
end RORD
