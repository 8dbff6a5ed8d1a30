/-! ===== the reference reads a clause of a law ===== -/
section RLW
variable {σ : Hp} {tb : Nat → Nat} {L nT k q c i X : Nat} {lw : Bool}
def BadX (tb : Nat → Nat) (L k : Nat) (σ : Hp) : Prop := SK σ ∧ zi σ 125 19 = 1 ∧ zi σ 125 18 = iN (psN tb L k) ∧ ∃ c1, c1 ≤ 400 ∧ zi σ 125 23 = iN c1
def Slw (X c i a k : Nat) : Prop := Sm9 c 0 a k ∨ (a = X ∧ 8 * i ≤ k) ∨ (a = 125 ∧ (k = 18 ∨ k = 19 ∨ k = 21))
theorem Slw.mono {c1 i1 a k : Nat} (h : Slw X c1 i1 a k) (hc : c ≤ c1) (hi : i ≤ i1) : Slw X c i a k := by
  unfold Slw Sm9 at *
  omega
theorem Sm9.tolw {a k n : Nat} (h : Sm9 c n a k) : Slw X c i a k := by
  unfold Sm9 at h
  unfold Slw Sm9
  omega
theorem Sn9.tolw {a k : Nat} (h : Sn9 a k) : Slw X c i a k := by
  unfold Sn9 at h
  unfold Slw Sm9
  omega
theorem RX.keep {S : Nat → Nat → Prop} {σ1 : Hp} (h : RX tb L nT lw k q c σ) (e : Ag S σ σ1) (hs : ∀ a j, S a j → a = 135 ∨ a = 154 ∨ (a = 125 ∧ j = 21)) : RX tb L nT lw k q c σ1 := by
  obtain ⟨⟨h1, h2, h3, h4, h5, h6, h7⟩, g2, g3, g4, g5, g6⟩ := h
  have n : ∀ j, j ≠ 21 → zi σ1 125 j = zi σ 125 j ∧ zj σ1 125 j = zj σ 125 j := fun j hj => e.2.2.2.2 125 j (fun z => by have := hs _ _ z; omega)
  refine ⟨⟨h1.ag e, h2.ag e (fun k z => by have := hs _ _ z; omega) (fun z => by have := hs _ _ z; omega), h3, h4, ?_, h6.gg e (fun a j z => by
    have := hs a j z
    unfold fCW
    simp
    omega), by rw [(n 18 (by decide)).1]; exact h7⟩, by rw [(n 19 (by decide)).1]; exact g2, by rw [(n 20 (by decide)).1]; exact g3, by rw [(n 26 (by decide)).1]; exact g4, by rw [(n 23 (by decide)).1]; exact g5, g6⟩
  unfold TokR
  rw [(n 14 (by decide)).1, (n 15 (by decide)).1, (n 16 (by decide)).1, (n 17 (by decide)).2]
  exact h5
theorem BadX.keep {S : Nat → Nat → Prop} {σ1 : Hp} (h : BadX tb L k σ) (e : Ag S σ σ1) (hs : ∀ a j, S a j → a = 135 ∨ a = 154 ∨ (a = 125 ∧ j = 21)) : BadX tb L k σ1 := by
  obtain ⟨h1, h2, h3, c1, h4, h5⟩ := h
  have n : ∀ j, j ≠ 21 → zi σ1 125 j = zi σ 125 j := fun j hj => (e.2.2.2.2 125 j (fun z => by have := hs _ _ z; omega)).1
  exact ⟨h1.ag e, by rw [n 19 (by decide)]; exact h2, by rw [n 18 (by decide)]; exact h3, c1, h4, by rw [n 23 (by decide)]; exact h5⟩
/-- a number of a clause's row -/
theorem row135 (hS : SK σ) (hi : i < 12) {j : Nat} (hj : j < 8) (v : Int32) : stI σ 135 (iN (8 * i) + iN j) v = some (zsi σ 135 (8 * i + j) v) ∧ Ag (fun a x => a = 135 ∧ x = 8 * i + j) σ (zsi σ 135 (8 * i + j) v) ∧ zi (zsi σ 135 (8 * i + j) v) 135 (8 * i + j) = v := by
  rw [iN_add]
  exact ⟨q_st135 (by omega) hS, Ag.zsi ⟨rfl, rfl⟩, zi_hit⟩
theorem one135 {j : Nat} {σ1 : Hp} (e : Ag (fun a x => a = 135 ∧ x = 8 * i + j) σ σ1) : (∀ a, a ≠ 135 → zi σ1 a = zi σ a) ∧ ∀ x, x ≠ 8 * i + j → zi σ1 135 x = zi σ 135 x :=
  ⟨fun a ha => funext fun x => (e.2.2.2.2 a x (by omega)).1, fun x hx => (e.2.2.2.2 135 x (by omega)).1⟩
def TSegR (op ar : Nat → Int32) (lw : Bool) (m e : Nat) : Option Sem → Prop
  | none => e = m
  | some t => isB t ∧ ∃ q, q ≤ 50 ∧ RSeg op ar (lfB lw) m e q t
theorem TSegR.congr {op ar op1 ar1 : Nat → Int32} {m e : Nat} {t : Option Sem} (h : TSegR op ar lw m e t) (hs : ∀ x, m ≤ x → x < e → op1 x = op x ∧ ar1 x = ar x) : TSegR op1 ar1 lw m e t := by
  cases t with
  | none => exact h
  | some t =>
    obtain ⟨hb, q, a, b⟩ := h
    exact ⟨hb, q, a, b.congr hs⟩
theorem TSegR.le {op ar : Nat → Int32} {m e : Nat} {t : Option Sem} (h : TSegR op ar lw m e t) : m ≤ e := by
  cases t with
  | none =>
    have : e = m := h
    omega
  | some t =>
    obtain ⟨hb, q, a, b⟩ := h
    have := b.1
    omega
/-- a test behind "if" -/
theorem rtest9 (h : RX tb L nT lw k q c σ) (hq : q ≤ 50) : match tstP (kdN tb L) (nmN tb L) lw nT k q with
    | (k1, q1, some t) => ∃ σ1 c1, (cb (s_X9_isWord 125 294 σ) fun v12 σ11 => if v12 = 0 then some ((), σ11) else (ck 9 σ11 125).bind fun _ => cb (s_X9_next 125 σ11) fun _ σ14 => (ck 9 σ14 125).bind fun _ => cb (s_X9_readExpression 125 1 σ14) fun _ σ17 => some ((), σ17)) = some ((), σ1) ∧ Ag (Sm9 c 0) σ σ1 ∧ RX tb L nT lw k1 q1 c1 σ1 ∧ q1 ≤ 50 ∧ TSegR (zi σ1 136) (zi σ1 137) lw c c1 t
    | (k1, _, none) => ∃ σ1, (cb (s_X9_isWord 125 294 σ) fun v12 σ11 => if v12 = 0 then some ((), σ11) else (ck 9 σ11 125).bind fun _ => cb (s_X9_next 125 σ11) fun _ σ14 => (ck 9 σ14 125).bind fun _ => cb (s_X9_readExpression 125 1 σ14) fun _ σ17 => some ((), σ17)) = some ((), σ1) ∧ Ag (Slw X 0 i) σ σ1 ∧ BadX tb L k1 σ1 := by
  have w := wrd9 h.1 (w := 3) (by decide)
  unfold tstP
  by_cases c1 : kdN tb L k = 303
  · have w : s_X9_isWord 125 294 σ = some (1, σ) := w.1 c1
    rw [if_pos c1, w, cbs, if_neg z10']
    have bk := q_ck125 h.1.1
    have hk := h.1.lt c1 (by decide)
    obtain ⟨σ1, nx, e1, r1⟩ := next9k h.1 hk
    have g : ∀ j, (j ≠ 14 ∧ j ≠ 15 ∧ j ≠ 16 ∧ j ≠ 17) → zi σ1 125 j = zi σ 125 j := fun j hj => (e1.2.2.2.2 125 j (by unfold Sn9; omega)).1
    have h1 : RX tb L nT lw (k + 1) q c σ1 := ⟨r1, by rw [g 19 (by omega)]; exact h.2.1, by rw [g 20 (by omega)]; exact h.2.2.1, by rw [g 26 (by omega)]; exact h.2.2.2.1, by rw [g 23 (by omega)]; exact h.2.2.2.2.1, by have := h.2.2.2.2.2; omega⟩
    have bk1 := q_ck125 h1.1.1
    have hr := expT9 h1 hq
    have hE := h.1.kE
    have hg := good_lvT (nm := nmN tb L) (lw := lw) hE 8 (k + 1) q (by omega) hq
    rw [bk, bos, nx, cbs, bk1, bos]
    generalize lvT (kdN tb L) (nmN tb L) lw nT 8 (k + 1) q = r at hr hg
    obtain ⟨k1, q1, oa⟩ := r
    cases oa with
    | none =>
      obtain ⟨σ2, x1, x2, x3, x4, x5, x6⟩ := hr
      rw [x1, cbs]
      exact ⟨σ2, rfl, (e1.mono (fun a j z => z.tolw)).trans (x2.mono (fun a j z => z.tolw)), x3, x4, x5, x6⟩
    | some t =>
      obtain ⟨σ2, c2, x1, x2, x3, x4⟩ := hr
      obtain ⟨-, hq1, hq2, hb⟩ := hg.2.2 t rfl
      have hq1 : q < q1 := hq1
      have hq2 : q1 ≤ 50 := hq2
      rw [x1, cbs]
      exact ⟨σ2, c2, rfl, (e1.mono (fun a j z => z.sm)).trans x2, x3, hq2, hb rfl, q1 - q, by omega, x4⟩
  · have w : s_X9_isWord 125 294 σ = some (0, σ) := w.2 c1
    rw [if_neg c1, w, cbs, if_pos rfl]
    exact ⟨σ, c, rfl, Ag.refl, h, hq, rfl⟩
/-- behind the sum of a law's clause -/
theorem rl135 (h : RX tb L nT lw k q c σ) (hq : q ≤ 50) (hi : i < 12) : match tstP (kdN tb L) (nmN tb L) lw nT k q with
    | (k1, q1, some t) => ∃ σ1 c1, s_X9_readLaw_j135 125 (iN (8 * i)) σ = some ((), σ1) ∧ Ag (Slw 135 c i) σ σ1 ∧ RX tb L nT lw k1 q1 c1 σ1 ∧ q1 ≤ 50 ∧ TSegR (zi σ1 136) (zi σ1 137) lw c c1 t ∧ zi σ1 125 21 = zi σ 125 21 ∧ zi σ1 135 (8 * i + 4) = iN c ∧ zi σ1 135 (8 * i + 5) = iN c ∧ zi σ1 135 (8 * i + 6) = iN c1 ∧ ∀ x, x < 8 * i + 4 → zi σ1 135 x = zi σ 135 x
    | (k1, _, none) => ∃ σ1, s_X9_readLaw_j135 125 (iN (8 * i)) σ = some ((), σ1) ∧ Ag (Slw 135 0 i) σ σ1 ∧ BadX tb L k1 σ1 := by
  have r22 := q_r125_22 h.1.1
  have i23 := q_i125 (k := 23) h.1.1
  rw [h.2.2.2.2.1] at i23
  obtain ⟨s4, e4, v4⟩ := row135 h.1.1 hi (j := 4) (by decide) (iN c)
  have s4 : stI σ 135 (iN (8 * i) + 4) (iN c) = _ := s4
  have h1 := h.keep e4 (fun a j z => Or.inl z.1)
  have o4 := one135 e4
  generalize zsi σ 135 (8 * i + 4) (iN c) = σ1 at s4 e4 v4 h1 o4
  have r22b := q_r125_22 h1.1.1
  have i23b := q_i125 (k := 23) h1.1.1
  rw [h1.2.2.2.2.1] at i23b
  obtain ⟨s5, e5, v5⟩ := row135 h1.1.1 hi (j := 5) (by decide) (iN c)
  have s5 : stI σ1 135 (iN (8 * i) + 5) (iN c) = _ := s5
  have h2 := h1.keep e5 (fun a j z => Or.inl z.1)
  have o5 := one135 e5
  generalize zsi σ1 135 (8 * i + 5) (iN c) = σ2 at s5 e5 v5 h2 o5
  have i19 := q_i125 (k := 19) h2.1.1
  rw [h2.2.1] at i19
  have bk2 := q_ck125 h2.1.1
  have e02 : ∀ c', Ag (Slw 135 c' i) σ σ2 := fun c' => (e4.mono (fun a j z => Or.inr (Or.inl ⟨z.1, by omega⟩))).trans (e5.mono (fun a j z => Or.inr (Or.inl ⟨z.1, by omega⟩)))
  -- the last number
  have fin : ∀ (τ : Hp) (c1 : Nat), SK τ → zi τ 125 23 = iN c1 → s_X9_readLaw_j185 125 (iN (8 * i)) τ = some ((), zsi τ 135 (8 * i + 6) (iN c1)) := by
    intro τ c1 hS hc
    have r := q_r125_22 hS
    have i3 := q_i125 (k := 23) hS
    rw [hc] at i3
    obtain ⟨s6, -, -⟩ := row135 hS hi (j := 6) (by decide) (iN c1)
    have s6 : stI τ 135 (iN (8 * i) + 6) (iN c1) = _ := s6
    unfold s_X9_readLaw_j185
    rw [r, bos, i3, bos, bos, s6, bos]
  have st : s_X9_readLaw_j135 125 (iN (8 * i)) σ = cb (cb (s_X9_isWord 125 294 σ2) fun v12 σ11 => if v12 = 0 then some ((), σ11) else (ck 9 σ11 125).bind fun _ => cb (s_X9_next 125 σ11) fun _ σ14 => (ck 9 σ14 125).bind fun _ => cb (s_X9_readExpression 125 1 σ14) fun _ σ17 => some ((), σ17)) fun _ s => s_X9_readLaw_j185 125 (iN (8 * i)) s := by
    unfold s_X9_readLaw_j135
    rw [r22, bos, i23, bos, bos, s4, bos, r22b, bos, i23b, bos, bos, s5, bos, i19, bos, if_pos rfl, bk2, bos]
    unfold cb
    cases s_X9_isWord 125 294 σ2 with
    | none => rfl
    | some p =>
      obtain ⟨v, s⟩ := p
      by_cases z : v = 0
      · simp only [bos, z, if_true]
      · simp only [bos, z, if_false]
        cases ck 9 s 125 with
        | none => rfl
        | some u =>
          simp only [bos]
          cases s_X9_next 125 s with
          | none => rfl
          | some p2 =>
            simp only [bos]
            cases ck 9 p2.2 125 with
            | none => rfl
            | some u2 =>
              simp only [bos]
              cases s_X9_readExpression 125 1 p2.2 with
              | none => rfl
              | some p3 => rfl
  have hr := rtest9 (X := 135) (i := i) h2 hq
  generalize tstP (kdN tb L) (nmN tb L) lw nT k q = r at hr
  obtain ⟨k1, q1, ot⟩ := r
  cases ot with
  | none =>
    obtain ⟨σ3, x1, x2, x3⟩ := hr
    obtain ⟨y1, y2, y3, c3, y4, y5⟩ := id x3
    have f := fin σ3 c3 y1 y5
    obtain ⟨-, e6, -⟩ := row135 y1 hi (j := 6) (by decide) (iN c3)
    have x3' := x3.keep e6 (fun a j z => Or.inl z.1)
    generalize zsi σ3 135 (8 * i + 6) (iN c3) = σ4 at f e6 x3'
    refine ⟨σ4, ?_, ((e02 0).trans x2).trans (e6.mono (fun a j z => Or.inr (Or.inl ⟨z.1, by omega⟩))), x3'⟩
    rw [st, x1, cbs, f]
  | some t =>
    obtain ⟨σ3, c3, x1, x2, x3, x4, x5⟩ := hr
    have f := fin σ3 c3 x3.1.1 x3.2.2.2.2.1
    obtain ⟨-, e6, v6⟩ := row135 x3.1.1 hi (j := 6) (by decide) (iN c3)
    have x3' := x3.keep e6 (fun a j z => Or.inl z.1)
    have o6 := one135 e6
    generalize zsi σ3 135 (8 * i + 6) (iN c3) = σ4 at f e6 v6 x3' o6
    have z135 : ∀ x, zi σ3 135 x = zi σ2 135 x := fun x => (x2.2.2.2.2 135 x (by unfold Sm9; omega)).1
    refine ⟨σ4, c3, ?_, ((e02 c).trans (x2.mono (fun a j z => z.tolw))).trans (e6.mono (fun a j z => Or.inr (Or.inl ⟨z.1, by omega⟩))), x3', x4, ?_, ?_, ?_, ?_, v6, fun x hx => ?_⟩
    · rw [st, x1, cbs, f]
    · rw [o6.1 136 (by decide), o6.1 137 (by decide)]
      exact x5
    · rw [o6.1 125 (by decide), (x2.2.2.2.2 125 21 (by unfold Sm9; omega)).1, o5.1 125 (by decide), o4.1 125 (by decide)]
    · rw [o6.2 _ (by omega), z135, o5.2 _ (by omega)]
      exact v4
    · rw [o6.2 _ (by omega), z135]
      exact v5
    · rw [o6.2 x (by omega), z135, o5.2 x (by omega), o4.2 x (by omega)]
theorem rl135_bad (h : BadX tb L k σ) (hi : i < 12) : ∃ σ1, s_X9_readLaw_j135 125 (iN (8 * i)) σ = some ((), σ1) ∧ Ag (Slw 135 0 i) σ σ1 ∧ BadX tb L k σ1 := by
  obtain ⟨h1, h2, h3, c, h4, h5⟩ := id h
  have r22 := q_r125_22 h1
  have i23 := q_i125 (k := 23) h1
  rw [h5] at i23
  obtain ⟨s4, e4, v4⟩ := row135 h1 hi (j := 4) (by decide) (iN c)
  have s4 : stI σ 135 (iN (8 * i) + 4) (iN c) = _ := s4
  have b1 := h.keep e4 (fun a j z => Or.inl z.1)
  have o4 := one135 e4
  generalize zsi σ 135 (8 * i + 4) (iN c) = σ1 at s4 e4 v4 b1 o4
  have r22b := q_r125_22 b1.1
  have i23b := q_i125 (k := 23) b1.1
  rw [o4.1 125 (by decide), h5] at i23b
  obtain ⟨s5, e5, v5⟩ := row135 b1.1 hi (j := 5) (by decide) (iN c)
  have s5 : stI σ1 135 (iN (8 * i) + 5) (iN c) = _ := s5
  have b2 := b1.keep e5 (fun a j z => Or.inl z.1)
  have o5 := one135 e5
  generalize zsi σ1 135 (8 * i + 5) (iN c) = σ2 at s5 e5 v5 b2 o5
  have i19 := q_i125 (k := 19) b2.1
  rw [b2.2.1] at i19
  have r22c := q_r125_22 b2.1
  have i23c := q_i125 (k := 23) b2.1
  rw [o5.1 125 (by decide), o4.1 125 (by decide), h5] at i23c
  obtain ⟨s6, e6, v6⟩ := row135 b2.1 hi (j := 6) (by decide) (iN c)
  have s6 : stI σ2 135 (iN (8 * i) + 6) (iN c) = _ := s6
  have b3 := b2.keep e6 (fun a j z => Or.inl z.1)
  generalize zsi σ2 135 (8 * i + 6) (iN c) = σ3 at s6 e6 v6 b3
  refine ⟨σ3, ?_, ((e4.mono (fun a j z => Or.inr (Or.inl ⟨z.1, by omega⟩))).trans (e5.mono (fun a j z => Or.inr (Or.inl ⟨z.1, by omega⟩)))).trans (e6.mono (fun a j z => Or.inr (Or.inl ⟨z.1, by omega⟩))), b3⟩
  simp only [s_X9_readLaw_j135, s_X9_readLaw_j185, r22, i23, s4, r22b, i23b, s5, i19, r22c, i23c, s6, z10', bos, if_false]
/-- what a law's clause says in the reference's row -/
def RRowL (Rn op ar : Nat → Int32) (i c c1 : Nat) (cl : Cl) : Prop := 300 ≤ cl.1 ∧ cl.1 ≤ 302 ∧ Rn (8 * i) = iN (cl.1 - 300) ∧ Rn (8 * i + 3) = iN c ∧ ∃ c2, c ≤ c2 ∧ Rn (8 * i + 4) = iN c2 ∧ Rn (8 * i + 5) = iN c2 ∧ Rn (8 * i + 6) = iN c1 ∧ (cl.1 ≠ 302 → ∃ q, q ≤ 50 ∧ RSeg op ar (lfB true) c c2 q cl.2.1) ∧ TSegR op ar true c2 c1 cl.2.2.2.2
def ClS (tb : Nat → Nat) (L nT : Nat) (lw : Bool) (X c i : Nat) (σ : Hp) (out : Option (Unit × Hp)) (row : (Nat → Int32) → (Nat → Int32) → (Nat → Int32) → Nat → Nat → Nat → Cl → Prop) (r : ResC) : Prop := match r with
  | (k1, q1, some cl) => ∃ σ1 c1, out = some ((), σ1) ∧ Ag (Slw X c i) σ σ1 ∧ RX tb L nT lw k1 q1 c1 σ1 ∧ q1 ≤ 50 ∧ zi σ1 125 21 = iN (i + 1) ∧ c ≤ c1 ∧ row (zi σ1 X) (zi σ1 136) (zi σ1 137) i c c1 cl
  | (k1, _, none) => ∃ σ1, out = some ((), σ1) ∧ Ag (Slw X 0 i) σ σ1 ∧ BadX tb L k1 σ1
theorem RX.fail (h : RX tb L nT lw k q c σ) : s_X9_must 125 0 σ = some ((), badH tb L k σ) ∧ BadX tb L k (badH tb L k σ) ∧ ∀ c' i', Ag (Slw X c' i') σ (badH tb L k σ) := by
  obtain ⟨g1, g2, g3, g4, g5, g6⟩ := h
  have m := must9_f g1 g2
  have e : Ag (fun a j => a = 125 ∧ (j = 18 ∨ j = 19)) σ (badH tb L k σ) := badH.ag
  obtain ⟨b1, b2⟩ := badH.bad (tb := tb) (L := L) (k := k) (σ := σ)
  have hk := g1.2.2.2.1
  have hn := g1.2.2.1.1
  have hL := g1.2.1.1
  generalize badH tb L k σ = τ at m e b1 b2
  exact ⟨m, ⟨g1.1.ag e, b1, b2, c, by omega, by rw [(e.2.2.2.2 125 23 (by omega)).1]; exact g5⟩, fun c' i' => e.mono (fun a j z => Or.inr (Or.inr (by omega)))⟩
def hdI (i : Nat) : Nat := i
theorem CW.hd (h : CW σ) {i : Nat} (hi : i < 3) : zj σ 142 i = jN (kwN (hdI i)) := by
  obtain ⟨-, -, ⟨h0, h1, h2⟩, -⟩ := h
  have : i = 0 ∨ i = 1 ∨ i = 2 := by omega
  rcases this with rfl | rfl | rfl
  · rw [h0]; rfl
  · rw [h1]; rfl
  · rw [h2]; rfl
theorem heads9 (h : RT tb L nT k σ) : s_X9_readLaw_l4 (125, -1, 0) σ = some ((125, pickN (kdN tb L k) hdI iN 3), σ) := by
  obtain ⟨t, g1, g2⟩ := loop_to (body := fun v => s_X9_readLaw_b4 (v.1) (v.2.1) (v.2.2)) (fun _ t => t = σ) (fun t => t = σ) (fun i => (125, pickN (kdN tb L k) hdI iN i, iN i)) (125, pickN (kdN tb L k) hdI iN 3) 3 (fun i t hi ht => by
    subst ht
    have f : ¬ (3 : Int32) ≤ iN i := fun q => absurd ((iN_le (a := 3) (by decide) (by omega)).mp q) (by omega)
    have r := q_r125_33 h.1
    have l := q_ld142 (n := i) hi h.1
    rw [h.2.2.2.2.2.1.hd hi] at l
    have bk := q_ck125 h.1
    have w := wrd9 h (w := hdI i) (by unfold hdI; omega)
    have i1 : iN i + 1 = iN (i + 1) := iN_add i 1
    refine ⟨t, ?_, rfl⟩
    by_cases c : kdN tb L k = 300 + hdI i
    · have w := w.1 c
      have e : pickN (kdN tb L k) hdI iN (i + 1) = iN i := if_pos c
      rw [e]
      simp only [s_X9_readLaw_b4, s_X9_readLaw_j27, f, r, l, bk, w, i1, z10', bos, cbs, if_true, if_false]
    · have w := w.2 c
      have e : pickN (kdN tb L k) hdI iN (i + 1) = pickN (kdN tb L k) hdI iN i := if_neg c
      rw [e]
      simp only [s_X9_readLaw_b4, s_X9_readLaw_j27, f, r, l, bk, w, i1, z10', bos, cbs, if_true, if_false]) (fun t ht => by
    have f : (3 : Int32) ≤ iN 3 := by decide
    exact ⟨t, by simp only [s_X9_readLaw_b4, f, if_true], ht⟩) (σ := σ) rfl
  subst g2
  exact g1
theorem pick_hd {c : Nat} : pickN c hdI iN 3 = if begN true c = true then iN (c - 300) else -1 := by
  by_cases h0 : c = 300
  · subst h0; rfl
  by_cases h1 : c = 301
  · subst h1; rfl
  by_cases h2 : c = 302
  · subst h2; rfl
  have e : begN true c = false := by
    unfold begN
    rw [if_pos rfl]
    exact decide_eq_false (by omega)
  rw [e, if_neg (by decide)]
  show (if c = 300 + hdI 2 then _ else if c = 300 + hdI 1 then _ else if c = 300 + hdI 0 then _ else -1) = _
  unfold hdI
  rw [if_neg h2, if_neg h1, if_neg h0]
/-- eight numbers of the row are emptied -/
theorem zero135 (hS : SK σ) (hi : i < 12) {hd : Int32} : ∃ σ1, s_X9_readLaw_l75 (125, hd, iN (8 * i), 0) σ = some ((125, hd, iN (8 * i)), σ1) ∧ Ag (fun a x => a = 135 ∧ 8 * i ≤ x ∧ x < 8 * i + 8) σ σ1 := by
  obtain ⟨t, g1, g2, g3⟩ := loop_to (body := fun v => s_X9_readLaw_b75 (v.1) (v.2.1) (v.2.2.1) (v.2.2.2)) (fun _ t => SK t ∧ Ag (fun a x => a = 135 ∧ 8 * i ≤ x ∧ x < 8 * i + 8) σ t) (fun t => SK t ∧ Ag (fun a x => a = 135 ∧ 8 * i ≤ x ∧ x < 8 * i + 8) σ t) (fun j => (125, hd, iN (8 * i), iN j)) (125, hd, iN (8 * i)) 8 (fun j t hj ht => by
    obtain ⟨hT, eT⟩ := ht
    have f : ¬ (8 : Int32) ≤ iN j := fun q => absurd ((iN_le (a := 8) (by decide) (by omega)).mp q) (by omega)
    have r := q_r125_22 hT
    obtain ⟨s, e, -⟩ := row135 hT hi (j := j) hj 0
    have i1 : iN j + 1 = iN (j + 1) := iN_add j 1
    have hT2 : SK (zsi t 135 (8 * i + j) 0) := hT
    refine ⟨zsi t 135 (8 * i + j) 0, ?_, hT2, eT.trans (e.mono (fun a x z => ⟨z.1, by omega, by omega⟩))⟩
    generalize zsi t 135 (8 * i + j) 0 = t2 at s
    simp only [s_X9_readLaw_b75, f, r, s, i1, bos, if_false]) (fun t ht => by
    have f : (8 : Int32) ≤ iN 8 := by decide
    exact ⟨t, by simp only [s_X9_readLaw_b75, f, if_true], ht⟩) (σ := σ) ⟨hS, Ag.refl⟩
  exact ⟨t, g1, g3⟩
theorem clauP_law {kd nm : Nat → Nat} : clauP kd nm true nT k q = (if begN true (kd k) = true then (if noSum (kd k) = true then (match tstP kd nm true nT (k + 1) q with
      | (k1, q1, none) => (k1, q1, none)
      | (k1, q1, some t) => (k1, q1, some (kd k, one1, one1, 1, t)))
    else (match lvS kd nm true nT 8 (k + 1) q with
      | (k1, q1, none) => (k1, q1, none)
      | (k1, q1, some a) => (match tstP kd nm true nT k1 q1 with
        | (k2, q2, none) => (k2, q2, none)
        | (k2, q2, some t) => (k2, q2, some (kd k, a, one1, 1, t)))))
    else (k, q, none)) := by
  unfold clauP
  cases hb : begN true (kd k) with
  | false => rfl
  | true =>
    have hl : lnkN (kd k) = none := by
      unfold begN at hb
      rw [if_pos rfl] at hb
      have := of_decide_eq_true hb
      unfold lnkN
      rw [if_neg (by omega), if_neg (by omega), if_neg (by omega)]
    have sp : ∀ k q, secP kd nm true nT (kd k) k q = secP kd nm true nT (kd k) k q := fun _ _ => rfl
    have s2 : ∀ k' q', secP kd nm true nT (kd k) k' q' = (match tstP kd nm true nT k' q' with
      | (k1, q1, none) => (k1, q1, none)
      | (k1, q1, some t) => (k1, q1, some (one1, 1, t))) := by
      intro k' q'
      unfold secP
      rw [hl]
      show (match timP kd nm true nT k' q' with
        | (k1, q1, none) => (k1, q1, none)
        | (k1, q1, some t) => (k1, q1, some (one1, t))) = _
      unfold timP
      rw [if_neg (fun z => absurd z.1 (by decide))]
      generalize tstP kd nm true nT k' q' = r
      obtain ⟨k1, q1, ot⟩ := r
      cases ot <;> rfl
    rw [if_pos rfl, if_pos rfl, s2]
    cases noSum (kd k) with
    | true =>
      rw [if_pos rfl, if_pos rfl]
      generalize tstP kd nm true nT (k + 1) q = r
      obtain ⟨k1, q1, ot⟩ := r
      cases ot <;> rfl
    | false =>
      rw [if_neg (by decide), if_neg (by decide)]
      generalize lvS kd nm true nT 8 (k + 1) q = r
      obtain ⟨k1, q1, oa⟩ := r
      cases oa with
      | none => rfl
      | some a =>
        show (match secP kd nm true nT (kd k) k1 q1 with
          | (k2, q2, none) => (k2, q2, none)
          | (k2, q2, some t) => (k2, q2, some (kd k, a, t))) = _
        rw [s2]
        show _ = (match tstP kd nm true nT k1 q1 with
        | (k2, q2, none) => (k2, q2, none)
        | (k2, q2, some t) => (k2, q2, some (kd k, a, one1, 1, t)))
        generalize tstP kd nm true nT k1 q1 = r2
        obtain ⟨k2, q2, ot⟩ := r2
        cases ot <;> rfl
theorem readLaw9 (h : RX tb L nT true k q c σ) (hq : q ≤ 50) (h21 : zi σ 125 21 = iN i) (hi : i < 12) : ClS tb L nT true 135 c i σ (s_X9_readLaw 125 σ) RRowL (clauP (kdN tb L) (nmN tb L) true nT k q) := by
  have hd := heads9 h.1
  rw [pick_hd] at hd
  have bk := q_ck125 h.1.1
  have i21 := q_i125 (k := 21) h.1.1
  rw [h21] at i21
  have f12 : ¬ 12 ≤ iN i := fun z => by have := (iN_le (a := 12) (by decide) (by omega)).mp z; omega
  rw [clauP_law]
  cases hb : begN true (kdN tb L k) with
  | false =>
    rw [hb, if_neg (by decide)] at hd
    rw [if_neg (by decide)]
    obtain ⟨m, b, e⟩ := h.fail (X := 135)
    have i19 := q_i125 (k := 19) b.1
    rw [b.2.1] at i19
    refine ⟨badH tb L k σ, ?_, e 0 i, b⟩
    simp only [s_X9_readLaw, s_X9_readLaw_j53, s_X9_readLaw_j54, hd, bk, m, i19, z10', bos, cbs, if_true, if_false]
  | true =>
    rw [hb, if_pos rfl] at hd
    rw [if_pos rfl]
    have h3 : kdN tb L k = 300 ∨ kdN tb L k = 301 ∨ kdN tb L k = 302 := by
      unfold begN at hb
      rw [if_pos rfl] at hb
      exact of_decide_eq_true hb
    have nm1 : ¬ iN (kdN tb L k - 300) = -1 := iN_ne (by omega)
    have hk := h.1.lt (c := kdN tb L k) rfl (by omega)
    obtain ⟨σ1, mu, e1, r1⟩ := must9_t h.1 hk h.2.1
    have g1 : ∀ j, (j ≠ 14 ∧ j ≠ 15 ∧ j ≠ 16 ∧ j ≠ 17) → zi σ1 125 j = zi σ 125 j := fun j hj => (e1.2.2.2.2 125 j (by unfold Sn9; omega)).1
    have h1 : RX tb L nT true (k + 1) q c σ1 := ⟨r1, by rw [g1 19 (by omega)]; exact h.2.1, by rw [g1 20 (by omega)]; exact h.2.2.1, by rw [g1 26 (by omega)]; exact h.2.2.2.1, by rw [g1 23 (by omega)]; exact h.2.2.2.2.1, by have := h.2.2.2.2.2; omega⟩
    have i19 := q_i125 (k := 19) h1.1.1
    rw [h1.2.1] at i19
    have i21b := q_i125 (k := 21) h1.1.1
    rw [g1 21 (by omega), h21] at i21b
    have m8 : (8 : Int32) * iN i = iN (8 * i) := by rw [show (8 : Int32) = iN 8 from rfl, iN_mul]
    obtain ⟨σ2, z2, e2⟩ := zero135 h1.1.1 hi (hd := iN (kdN tb L k - 300))
    have h2 := h1.keep e2 (fun a j z => Or.inl z.1)
    have g2 : zi σ2 125 = zi σ1 125 := funext fun x => (e2.2.2.2.2 125 x (by omega)).1
    have r22 := q_r125_22 h2.1.1
    obtain ⟨s0, e3, v0⟩ := row135 h2.1.1 hi (j := 0) (by decide) (iN (kdN tb L k - 300))
    have s0 : stI σ2 135 (iN (8 * i)) (iN (kdN tb L k - 300)) = some (zsi σ2 135 (8 * i + 0) (iN (kdN tb L k - 300))) := by
      rw [iN_add] at s0
      exact s0
    have h3' := h2.keep e3 (fun a j z => Or.inl z.1)
    have o3 := one135 e3
    generalize zsi σ2 135 (8 * i + 0) (iN (kdN tb L k - 300)) = σ3 at s0 e3 v0 h3' o3
    have i21c := q_i125 (k := 21) h3'.1.1
    rw [o3.1 125 (by decide), g2, g1 21 (by omega), h21] at i21c
    have i1 : iN i + 1 = iN (i + 1) := iN_add i 1
    have w21 := q_w125 (k := 21) (v := iN (i + 1)) h3'.1.1
    have e4 : Ag (fun a j => a = 125 ∧ j = 21) σ3 (zsi σ3 125 21 (iN (i + 1))) := Ag.zsi ⟨rfl, rfl⟩
    have v21 : zi (zsi σ3 125 21 (iN (i + 1))) 125 21 = iN (i + 1) := zi_hit
    have h4 := h3'.keep e4 (fun a j z => Or.inr (Or.inr z))
    have z4 : ∀ a, a ≠ 125 → zi (zsi σ3 125 21 (iN (i + 1))) a = zi σ3 a := fun a ha => zi_ne ha
    generalize zsi σ3 125 21 (iN (i + 1)) = σ4 at w21 e4 v21 h4 z4
    have r22b := q_r125_22 h4.1.1
    have i23 := q_i125 (k := 23) h4.1.1
    rw [h4.2.2.2.2.1] at i23
    obtain ⟨s3, e5, v3⟩ := row135 h4.1.1 hi (j := 3) (by decide) (iN c)
    have s3 : stI σ4 135 (iN (8 * i) + 3) (iN c) = _ := s3
    have h5 := h4.keep e5 (fun a j z => Or.inl z.1)
    have o5 := one135 e5
    generalize zsi σ4 135 (8 * i + 3) (iN c) = σ5 at s3 e5 v3 h5 o5
    have bk5 := q_ck125 h5.1.1
    have v21' : zi σ5 125 21 = iN (i + 1) := by rw [o5.1 125 (by decide)]; exact v21
    have v0' : zi σ5 135 (8 * i) = iN (kdN tb L k - 300) := by
      rw [o5.2 _ (by omega), z4 135 (by decide)]
      exact v0
    have e05 : ∀ c', Ag (Slw 135 c' i) σ σ5 := fun c' => ((((e1.mono (fun a j z => z.tolw)).trans (e2.mono (fun a j z => Or.inr (Or.inl ⟨z.1, z.2.1⟩)))).trans (e3.mono (fun a j z => Or.inr (Or.inl ⟨z.1, by omega⟩)))).trans (e4.mono (fun a j z => Or.inr (Or.inr ⟨z.1, Or.inr (Or.inr z.2)⟩)))).trans (e5.mono (fun a j z => Or.inr (Or.inl ⟨z.1, by omega⟩)))
    have st : s_X9_readLaw 125 σ = if iN (kdN tb L k - 300) = 2 then s_X9_readLaw_j135 125 (iN (8 * i)) σ5 else cb (s_X9_readExpression 125 0 σ5) fun _ s => s_X9_readLaw_j135 125 (iN (8 * i)) s := by
      simp only [s_X9_readLaw, s_X9_readLaw_j54, hd, nm1, i21, f12, bk, mu, i19, i21b, m8, z2, r22, s0, i21c, i1, w21, r22b, i23, s3, bk5, bos, cbs, if_true, if_false]
    rw [st]
    cases hns : noSum (kdN tb L k) with
    | true =>
      have d : kdN tb L k = 302 := by
        rcases h3 with z | z | z
        · rw [z] at hns; exact absurd hns (by decide)
        · rw [z] at hns; exact absurd hns (by decide)
        · exact z
      have q2 : iN (kdN tb L k - 300) = 2 := by rw [d]; rfl
      rw [if_pos q2, if_pos rfl]
      have hr := rl135 h5 hq hi
      generalize tstP (kdN tb L) (nmN tb L) true nT (k + 1) q = r at hr
      obtain ⟨k1, q1, ot⟩ := r
      cases ot with
      | none =>
        obtain ⟨σ6, x1, x2, x3⟩ := hr
        exact ⟨σ6, x1, (e05 0).trans x2, x3⟩
      | some t =>
        obtain ⟨σ6, c6, x1, x2, x3, x4, x5, x6, x7, x8, x9, x10⟩ := hr
        have le := x5.le
        refine ⟨σ6, c6, x1, (e05 c).trans x2, x3, x4, x6.trans v21', le, by show 300 ≤ kdN tb L k; omega, by show kdN tb L k ≤ 302; omega, by rw [x10 _ (by omega)]; exact v0', by rw [x10 _ (by omega)]; exact v3, c, Nat.le_refl _, x7, x8, x9, fun z => absurd d z, x5⟩
    | false =>
      have d : kdN tb L k ≠ 302 := fun z => by rw [z] at hns; exact absurd hns (by decide)
      have q2 : ¬ iN (kdN tb L k - 300) = 2 := fun z => d (by have := (iN_inj (b := 2) (by omega) (by decide)).mp z; omega)
      rw [if_neg q2, if_neg (by decide)]
      have hr := expS9 h5 hq
      have hE := h.1.kE
      have hg := good_lvS (nm := nmN tb L) (lw := true) hE 8 (k + 1) q (by omega) hq
      generalize lvS (kdN tb L) (nmN tb L) true nT 8 (k + 1) q = r at hr hg
      obtain ⟨k1, q1, oa⟩ := r
      cases oa with
      | none =>
        obtain ⟨σ6, x1, x2, x3⟩ := hr
        obtain ⟨σ7, y1, y2, y3⟩ := rl135_bad (k := k1) (x3 : BadX tb L k1 σ6) hi
        refine ⟨σ7, ?_, ((e05 0).trans (x2.mono (fun a j z => z.tolw))).trans y2, y3⟩
        rw [x1, cbs, y1]
      | some a =>
        obtain ⟨σ6, c6, x1, x2, x3, x4⟩ := hr
        obtain ⟨-, hq1, hq2, -⟩ := hg.2.2 a rfl
        have hq1 : q < q1 := hq1
        have hq2 : q1 ≤ 50 := hq2
        have x4s := x4.1
        have hr2 := rl135 x3 hq2 hi
        have z135 : ∀ x, zi σ6 135 x = zi σ5 135 x := fun x => (x2.2.2.2.2 135 x (by unfold Sm9; omega)).1
        have z21 : zi σ6 125 21 = zi σ5 125 21 := (x2.2.2.2.2 125 21 (by unfold Sm9; omega)).1
        rw [x1, cbs]
        show ClS tb L nT true 135 c i σ _ RRowL (match tstP (kdN tb L) (nmN tb L) true nT k1 q1 with
        | (k2, q2, none) => (k2, q2, none)
        | (k2, q2, some t) => (k2, q2, some (kdN tb L k, a, one1, 1, t)))
        generalize tstP (kdN tb L) (nmN tb L) true nT k1 q1 = r2 at hr2
        obtain ⟨k2, q2', ot⟩ := r2
        cases ot with
        | none =>
          obtain ⟨σ7, y1, y2, y3⟩ := hr2
          exact ⟨σ7, y1, ((e05 0).trans (x2.mono (fun a j z => (z.mono (Nat.zero_le _) (Nat.le_refl _)).tolw))).trans y2, y3⟩
        | some t =>
          obtain ⟨σ7, c7, y1, y2, y3, y4, y5, y6, y7, y8, y9, y10⟩ := hr2
          have le := y5.le
          refine ⟨σ7, c7, y1, ((e05 c).trans (x2.mono (fun a j z => z.tolw))).trans (y2.mono (fun a j z => z.mono (by omega) (Nat.le_refl _))), y3, y4, by rw [y6, z21]; exact v21', by omega, by show 300 ≤ kdN tb L k; omega, by show kdN tb L k ≤ 302; omega, by rw [y10 _ (by omega), z135]; exact v0', by rw [y10 _ (by omega), z135]; exact v3, c6, by omega, y7, y8, y9, fun _ => ⟨q1 - q, by omega, x4.congr (fun x _ h2 => ⟨(y2.2.2.2.2 136 x (by unfold Slw Sm9; omega)).1, (y2.2.2.2.2 137 x (by unfold Slw Sm9; omega)).1⟩)⟩, y5⟩
/-- the 13th clause -/
theorem readLaw9_13 (h : RX tb L nT true k q c σ) (h21 : zi σ 125 21 = iN 12) : ∃ σ1, s_X9_readLaw 125 σ = some ((), σ1) ∧ (∀ i, Ag (Slw 135 0 i) σ σ1) ∧ BadX tb L k σ1 := by
  have hd := heads9 h.1
  have bk := q_ck125 h.1.1
  have i21 := q_i125 (k := 21) h.1.1
  rw [h21] at i21
  have f12 : 12 ≤ iN 12 := by decide
  obtain ⟨m, b, e⟩ := h.fail (X := 135)
  have i19 := q_i125 (k := 19) b.1
  rw [b.2.1] at i19
  refine ⟨badH tb L k σ, ?_, fun i => e 0 i, b⟩
  by_cases z : pickN (kdN tb L k) hdI iN 3 = -1
  · simp only [s_X9_readLaw, s_X9_readLaw_j53, s_X9_readLaw_j54, hd, z, bk, m, i19, z10', bos, cbs, if_true, if_false]
  · simp only [s_X9_readLaw, s_X9_readLaw_j53, s_X9_readLaw_j54, hd, z, i21, f12, bk, m, i19, z10', bos, cbs, if_true, if_false]
end RLW
