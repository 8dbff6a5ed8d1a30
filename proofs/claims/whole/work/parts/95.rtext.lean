/-! ===== the reference reads a whole text ===== -/
section RTX
variable {σ : Hp} {tb : Nat → Nat} {L nT k q c i X : Nat} {lw : Bool}
def RRows (row : (Nat → Int32) → (Nat → Int32) → (Nat → Int32) → Nat → Nat → Nat → Cl → Prop) (Rn op ar : Nat → Int32) : Nat → Nat → Nat → List Cl → Prop
  | _, c, c1, [] => c1 = c
  | i, c, c1, cl :: l => ∃ m, c ≤ m ∧ row Rn op ar i c m cl ∧ RRows row Rn op ar (i + 1) m c1 l
def TxR (tb : Nat → Nat) (L nT : Nat) (lw : Bool) (X : Nat) (row : (Nat → Int32) → (Nat → Int32) → (Nat → Int32) → Nat → Nat → Nat → Cl → Prop) (rem i c : Nat) (σ σ1 : Hp) (r : Nat × Option (List Cl)) : Prop := match r with
  | (k1, none) => Ag (Slw X 0 i) σ σ1 ∧ (BadX tb L k1 σ1 ∨ ∃ q1 c1, RX tb L nT lw k1 q1 c1 σ1 ∧ kdN tb L k1 ≠ 258)
  | (k1, some l) => Ag (Slw X c i) σ σ1 ∧ ∃ q1 c1, RX tb L nT lw k1 q1 c1 σ1 ∧ kdN tb L k1 = 258 ∧ zi σ1 125 21 = iN (i + l.length) ∧ l.length ≤ rem ∧ RRows row (zi σ1 X) (zi σ1 136) (zi σ1 137) i c c1 l
theorem text9 {rd : Hp → Option (Unit × Hp)} {body : Nat → Hp → Option ((Nat ⊕ Nat) × Hp)} {row : (Nat → Int32) → (Nat → Int32) → (Nat → Int32) → Nat → Nat → Nat → Cl → Prop}
    (hbody : ∀ σ, body 125 σ = (rdI 9 σ 125 19).bind fun v1 => if v1 = 0 then (ck 9 σ 125).bind fun _ => cb (s_X9_isSign 125 59 σ) fun v4 σ3 => if v4 = 0 then some (Sum.inr 125, σ3) else (ck 9 σ3 125).bind fun _ => cb (s_X9_next 125 σ3) fun _ σ6 => (ck 9 σ6 125).bind fun _ => cb (rd σ6) fun _ σ9 => some (Sum.inl 125, σ9) else some (Sum.inr 125, σ))
    (hrd : ∀ i k q c σ, RX tb L nT lw k q c σ → q ≤ 50 → zi σ 125 21 = iN i → i < 12 → ClS tb L nT lw X c i σ (rd σ) row (clauP (kdN tb L) (nmN tb L) lw nT k q))
    (hrd13 : ∀ k q c σ, RX tb L nT lw k q c σ → zi σ 125 21 = iN 12 → ∃ σ1, rd σ = some ((), σ1) ∧ (∀ i, Ag (Slw X 0 i) σ σ1) ∧ BadX tb L k σ1)
    (hrow : ∀ Rn op ar Rn' op' ar' i c c1 cl, row Rn op ar i c c1 cl → (∀ x, 8 * i ≤ x → x < 8 * i + 8 → Rn' x = Rn x) → (∀ x, c ≤ x → x < c1 → op' x = op x ∧ ar' x = ar x) → row Rn' op' ar' i c c1 cl) (hX : X = 135 ∨ X = 154) :
    ∀ (rem i k q c : Nat) (σ : Hp), rem + i = 12 → RX tb L nT lw k q c σ → q ≤ 50 → zi σ 125 21 = iN i → ∃ σ1, (cb (rd σ) fun _ s => loopF body 125 s) = some (125, σ1) ∧ TxR tb L nT lw X row rem i c σ σ1 (textP (kdN tb L) (nmN tb L) lw nT rem k q)
  | 0, i, k, q, c, σ, hr, h, hq, h21 => by
    have e : i = 12 := by omega
    subst e
    obtain ⟨σ1, x1, x2, x3⟩ := hrd13 k q c σ h h21
    have i19 := q_i125 (k := 19) x3.1
    rw [x3.2.1] at i19
    refine ⟨σ1, ?_, x2 12, Or.inl x3⟩
    rw [x1, cbs]
    refine loopF_out ?_
    rw [hbody, i19, bos, if_neg z10']
  | rem + 1, i, k, q, c, σ, hr, h, hq, h21 => by
    have hc := hrd i k q c σ h hq h21 (by omega)
    show ∃ σ1, (cb (rd σ) fun _ s => loopF body 125 s) = some (125, σ1) ∧ TxR tb L nT lw X row (rem + 1) i c σ σ1 (match clauP (kdN tb L) (nmN tb L) lw nT k q with
      | (k1, _, none) => (k1, none)
      | (k1, q1, some cl) => if kdN tb L k1 = 258 then (k1, some [cl]) else if kdN tb L k1 = 59 then (match textP (kdN tb L) (nmN tb L) lw nT rem (k1 + 1) q1 with
          | (k2, none) => (k2, none)
          | (k2, some l) => (k2, some (cl :: l)))
        else (k1, none))
    generalize clauP (kdN tb L) (nmN tb L) lw nT k q = r at hc
    obtain ⟨k1, q1, oc⟩ := r
    cases oc with
    | none =>
      obtain ⟨σ1, x1, x2, x3⟩ := hc
      have i19 := q_i125 (k := 19) x3.1
      rw [x3.2.1] at i19
      refine ⟨σ1, ?_, x2, Or.inl x3⟩
      rw [x1, cbs]
      refine loopF_out ?_
      rw [hbody, i19, bos, if_neg z10']
    | some cl =>
      obtain ⟨σ1, c1, x1, x2, x3, x4, x5, x6, x7⟩ := hc
      have i19 := q_i125 (k := 19) x3.1.1
      rw [x3.2.1] at i19
      have bk := q_ck125 x3.1.1
      have s59 := sgn9 x3.1 (d := 59) (by decide) (by decide)
      show ∃ σ1, (cb (rd σ) fun _ s => loopF body 125 s) = some (125, σ1) ∧ TxR tb L nT lw X row (rem + 1) i c σ σ1 (if kdN tb L k1 = 258 then (k1, some [cl]) else if kdN tb L k1 = 59 then (match textP (kdN tb L) (nmN tb L) lw nT rem (k1 + 1) q1 with
          | (k2, none) => (k2, none)
          | (k2, some l) => (k2, some (cl :: l)))
        else (k1, none))
      have out : kdN tb L k1 ≠ 59 → loopF body 125 σ1 = some (125, σ1) := fun hne => by
        have s59 : s_X9_isSign 125 59 σ1 = some (0, σ1) := s59.2 hne
        refine loopF_out ?_
        rw [hbody, i19, bos, if_pos rfl, bk, bos, s59, cbs, if_pos rfl]
      by_cases d1 : kdN tb L k1 = 258
      · rw [if_pos d1]
        refine ⟨σ1, ?_, x2, q1, c1, x3, d1, x5, by show 1 ≤ rem + 1; omega, c1, x6, x7, rfl⟩
        rw [x1, cbs]
        exact out (by rw [d1]; decide)
      · rw [if_neg d1]
        by_cases d2 : kdN tb L k1 = 59
        · rw [if_pos d2]
          have s59 : s_X9_isSign 125 59 σ1 = some (1, σ1) := s59.1 d2
          have hk1 := x3.1.lt d2 (by decide)
          obtain ⟨σ2, nx, e2, r2⟩ := next9k x3.1 hk1
          have g : ∀ j, (j ≠ 14 ∧ j ≠ 15 ∧ j ≠ 16 ∧ j ≠ 17) → zi σ2 125 j = zi σ1 125 j := fun j hj => (e2.2.2.2.2 125 j (by unfold Sn9; omega)).1
          have h2 : RX tb L nT lw (k1 + 1) q1 c1 σ2 := ⟨r2, by rw [g 19 (by omega)]; exact x3.2.1, by rw [g 20 (by omega)]; exact x3.2.2.1, by rw [g 26 (by omega)]; exact x3.2.2.2.1, by rw [g 23 (by omega)]; exact x3.2.2.2.2.1, by have := x3.2.2.2.2.2; omega⟩
          have bk2 := q_ck125 h2.1.1
          obtain ⟨σ3, y1, y2⟩ := text9 hbody hrd hrd13 hrow hX rem (i + 1) (k1 + 1) q1 c1 σ2 (by omega) h2 x4 (by rw [g 21 (by omega)]; exact x5)
          have lp : loopF body 125 σ1 = cb (rd σ2) fun _ s => loopF body 125 s := by
            have b1 : body 125 σ1 = cb (rd σ2) fun _ σ9 => some (Sum.inl 125, σ9) := by
              rw [hbody, i19, bos, if_pos rfl, bk, bos, s59, cbs, if_neg z10', bk, bos, nx, cbs, bk2, bos]
            cases hq2 : rd σ2 with
            | none =>
              rw [hq2] at y1
              cases y1
            | some p =>
              obtain ⟨u, s⟩ := p
              rw [hq2] at b1
              rw [cbs] at b1
              rw [loopF_in b1, cbs]
          have e12 : ∀ c' i', c' ≤ c1 → Ag (Slw X c' i') σ1 σ2 := fun c' i' _ => e2.mono (fun a j z => z.tolw)
          have x20 : ∀ c', c' ≤ c → Ag (Slw X c' i) σ σ1 := fun c' hc' => x2.mono (fun a j z => z.mono hc' (Nat.le_refl _))
          generalize textP (kdN tb L) (nmN tb L) lw nT rem (k1 + 1) q1 = r at y2
          obtain ⟨k2, ol⟩ := r
          cases ol with
          | none =>
            obtain ⟨y3, y4⟩ := y2
            refine ⟨σ3, ?_, ((x20 0 (Nat.zero_le _)).trans (e12 0 i (Nat.zero_le _))).trans (y3.mono (fun a j z => z.mono (Nat.le_refl _) (by omega))), y4⟩
            rw [x1, cbs, lp, y1]
          | some l =>
            obtain ⟨y3, q3, c3, y4, y5, y6, y7, y8⟩ := y2
            refine ⟨σ3, ?_, ((x20 c (Nat.le_refl _)).trans (e12 c i x6)).trans (y3.mono (fun a j z => z.mono x6 (by omega))), q3, c3, y4, y5, ?_, by show l.length + 1 ≤ rem + 1; omega, c1, x6, ?_, y8⟩
            · rw [x1, cbs, lp, y1]
            · rw [y6]
              congr 1
              show i + 1 + l.length = i + (l.length + 1)
              omega
            · refine hrow _ _ _ _ _ _ _ _ _ _ x7 (fun x h1 h2 => ?_) (fun x h1 h2 => ?_)
              · rw [(y3.2.2.2.2 X x (by unfold Slw Sm9; omega)).1, (e2.2.2.2.2 X x (by unfold Sn9; omega)).1]
              · rw [(y3.2.2.2.2 136 x (by unfold Slw Sm9; omega)).1, (e2.2.2.2.2 136 x (by unfold Sn9; omega)).1, (y3.2.2.2.2 137 x (by unfold Slw Sm9; omega)).1, (e2.2.2.2.2 137 x (by unfold Sn9; omega)).1]
                exact ⟨rfl, rfl⟩
        · rw [if_neg d2]
          refine ⟨σ1, ?_, x2.mono (fun a j z => z.mono (Nat.zero_le _) (Nat.le_refl _)), Or.inr ⟨q1, c1, x3, d1⟩⟩
          rw [x1, cbs]
          exact out d2
/-- the start of a text -/
def Stx (a k : Nat) : Prop := a = 125 ∧ (k = 14 ∨ k = 15 ∨ k = 16 ∨ k = 17 ∨ k = 18 ∨ k = 19 ∨ k = 20 ∨ k = 21 ∨ k = 23 ∨ k = 26)
theorem begin9 (hS : SK σ) (hB : TB9 tb L σ) (hN : TN tb L nT) (hC : CW σ) : ∃ σ1, s_X9_beginText 125 (bI (!lw)) σ = some ((), σ1) ∧ Ag Stx σ σ1 ∧ RX tb L nT lw 0 0 0 σ1 ∧ zi σ1 125 21 = iN 0 := by
  have w20 := q_wz125 (k := 20) (v := bI (!lw)) (by cases lw <;> simp [bI]) hS
  have T1 : SK (zsi σ 125 20 (bI (!lw))) := hS
  have bk := q_ck125 T1
  have w15 := q_w125 (k := 15) (v := 0) T1
  have T2 : SK (zsi (zsi σ 125 20 (bI (!lw))) 125 15 0) := hS
  have w19 := q_wz125 (k := 19) (v := 0) (Or.inl rfl) T2
  have T3 : SK (zsi (zsi (zsi σ 125 20 (bI (!lw))) 125 15 0) 125 19 0) := hS
  have w18 := q_w125 (k := 18) (v := -1) T3
  have e4 : Ag Stx σ (zsi (zsi (zsi (zsi σ 125 20 (bI (!lw))) 125 15 0) 125 19 0) 125 18 (-1)) := (((Ag.zsi (by unfold Stx; omega)).trans (Ag.zsi (by unfold Stx; omega))).trans (Ag.zsi (by unfold Stx; omega))).trans (Ag.zsi (by unfold Stx; omega))
  have v20 : zi (zsi (zsi (zsi (zsi σ 125 20 (bI (!lw))) 125 15 0) 125 19 0) 125 18 (-1)) 125 20 = bI (!lw) := by rw [zi_miss (by decide), zi_miss (by decide), zi_miss (by decide), zi_hit]
  have v15 : zi (zsi (zsi (zsi (zsi σ 125 20 (bI (!lw))) 125 15 0) 125 19 0) 125 18 (-1)) 125 15 = iN 0 := by rw [zi_miss (by decide), zi_miss (by decide), zi_hit]; rfl
  have v19 : zi (zsi (zsi (zsi (zsi σ 125 20 (bI (!lw))) 125 15 0) 125 19 0) 125 18 (-1)) 125 19 = 0 := by rw [zi_miss (by decide), zi_hit]
  have v18 : zi (zsi (zsi (zsi (zsi σ 125 20 (bI (!lw))) 125 15 0) 125 19 0) 125 18 (-1)) 125 18 = -1 := zi_hit
  have T4 : SK (zsi (zsi (zsi (zsi σ 125 20 (bI (!lw))) 125 15 0) 125 19 0) 125 18 (-1)) := hS
  generalize zsi σ 125 20 (bI (!lw)) = u1 at w20 bk w15 w19 w18 e4 v20 v15 v19 v18 T4
  generalize zsi u1 125 15 0 = u2 at w15 w19 w18 e4 v20 v15 v19 v18 T4
  generalize zsi u2 125 19 0 = u3 at w19 w18 e4 v20 v15 v19 v18 T4
  generalize zsi u3 125 18 (-1) = u4 at w18 e4 v20 v15 v19 v18 T4
  have bk4 := q_ck125 T4
  have B4 := hB.ag e4 (fun k z => by unfold Stx at z; omega) (fun z => by unfold Stx at z; omega)
  obtain ⟨u5, nx, e5, tk⟩ := next9 T4 B4 (Nat.zero_le _) v15
  have g5 : ∀ j, (j ≠ 14 ∧ j ≠ 15 ∧ j ≠ 16 ∧ j ≠ 17) → zi u5 125 j = zi u4 125 j := fun j hj => (e5.2.2.2.2 125 j (by unfold Sn9; omega)).1
  have T5 := T4.ag e5
  have B5 := B4.ag e5 (fun k z => by unfold Sn9 at z; omega) (fun z => by unfold Sn9 at z; omega)
  have bg : s_X9_begin 125 u1 = some ((), u5) := by
    simp only [s_X9_begin, w15, w19, w18, bk4, nx, bos, cbs]
  have w21 := q_w125 (k := 21) (v := 0) T5
  have T6 : SK (zsi u5 125 21 0) := T5
  have w23 := q_w125 (k := 23) (v := 0) T6
  have T7 : SK (zsi (zsi u5 125 21 0) 125 23 0) := T5
  have w26 := q_w125 (k := 26) (v := 0) T7
  have e8 : Ag (fun a k => a = 125 ∧ (k = 21 ∨ k = 23 ∨ k = 26)) u5 (zsi (zsi (zsi u5 125 21 0) 125 23 0) 125 26 0) := ((Ag.zsi (by omega)).trans (Ag.zsi (by omega))).trans (Ag.zsi (by omega))
  have x21 : zi (zsi (zsi (zsi u5 125 21 0) 125 23 0) 125 26 0) 125 21 = iN 0 := by rw [zi_miss (by decide), zi_miss (by decide), zi_hit]; rfl
  have x23 : zi (zsi (zsi (zsi u5 125 21 0) 125 23 0) 125 26 0) 125 23 = iN 0 := by rw [zi_miss (by decide), zi_hit]; rfl
  have x26 : zi (zsi (zsi (zsi u5 125 21 0) 125 23 0) 125 26 0) 125 26 = iN 0 := zi_hit
  have T8 : SK (zsi (zsi (zsi u5 125 21 0) 125 23 0) 125 26 0) := T5
  generalize zsi u5 125 21 0 = u6 at w21 w23 w26 e8 x21 x23 x26 T8
  generalize zsi u6 125 23 0 = u7 at w23 w26 e8 x21 x23 x26 T8
  generalize zsi u7 125 26 0 = u8 at w26 e8 x21 x23 x26 T8
  have g8 : ∀ j, (j ≠ 21 ∧ j ≠ 23 ∧ j ≠ 26) → zi u8 125 j = zi u5 125 j ∧ zj u8 125 j = zj u5 125 j := fun j hj => e8.2.2.2.2 125 j (by omega)
  have E : Ag Stx σ u8 := (e4.trans (e5.mono (fun a j z => by unfold Sn9 at z; unfold Stx; omega))).trans (e8.mono (fun a j z => by unfold Stx; omega))
  refine ⟨u8, ?_, E, ⟨⟨T8, B5.ag e8 (fun k z => by omega) (fun z => by omega), hN, Nat.zero_le _, ?_, hC.gg E (fun a j z => by unfold Stx at z; unfold fCW; simp; omega), by rw [(g8 18 (by omega)).1, g5 18 (by omega)]; exact v18⟩, by rw [(g8 19 (by omega)).1, g5 19 (by omega)]; exact v19, by rw [(g8 20 (by omega)).1, g5 20 (by omega)]; exact v20, x26, x23, Nat.le_refl _⟩, x21⟩
  · simp only [s_X9_beginText, w20, bk, bg, w21, w23, w26, bos, cbs]
  · unfold TokR
    rw [(g8 14 (by omega)).1, (g8 15 (by omega)).1, (g8 16 (by omega)).1, (g8 17 (by omega)).2]
    exact tk
/-- the end of a text -/
theorem sort_end (h : RT tb L nT k σ) : (kdN tb L k = 258 → zi σ 125 16 = 0) ∧ (kdN tb L k ≠ 258 → zi σ 125 16 ≠ 0) := by
  obtain ⟨hS, hB, hN, hk, ⟨-, -, ht⟩, -⟩ := h
  generalize hp : psN tb L k = p at ht
  have ek : kdN tb L k = if p < L then kindN tb L p else 258 := by
    unfold kdN
    rw [hp]
  rcases ht with ⟨h1, h2⟩ | ⟨h1, h2, h3, -⟩ | ⟨h1, h2, h3, -⟩ | ⟨h1, h2, h3, -⟩
  · rw [if_neg (by omega)] at ek
    exact ⟨fun _ => h2, fun z => absurd ek z⟩
  · have e1 : kindN tb L p = kindW (ltN tb p (teN tb L p - p)) := if_pos h2
    have := kindW_rng (l := ltN tb p (teN tb L p - p))
    rw [if_pos h1, e1] at ek
    exact ⟨fun z => by omega, fun _ => by rw [h3]; decide⟩
  · have e1 : kindN tb L p = 256 := by
      unfold kindN
      rw [if_neg (by omega), if_pos h2]
    rw [if_pos h1, e1] at ek
    exact ⟨fun z => by omega, fun _ => by rw [h3]; decide⟩
  · have e1 : kindN tb L p = tb p := by
      unfold kindN
      rw [if_neg (by omega), if_neg (by omega)]
    have := hB.2.1 p
    rw [if_pos h1, e1] at ek
    exact ⟨fun z => by omega, fun _ => by rw [h3]; decide⟩
def Ste (a k : Nat) : Prop := a = 125 ∧ (k = 13 ∨ k = 18 ∨ k = 19 ∨ k = 20)
theorem endT_t (h : RX tb L nT lw k q c σ) (he : kdN tb L k = 258) : ∃ σ1, s_X9_endText 125 σ = some ((), σ1) ∧ Ag (fun a j => a = 125 ∧ (j = 13 ∨ j = 20)) σ σ1 ∧ zi σ1 125 13 = 0 ∧ zi σ1 125 20 = 0 := by
  have i19 := q_i125 (k := 19) h.1.1
  rw [h.2.1] at i19
  have i16 := q_i125 (k := 16) h.1.1
  rw [(sort_end h.1).1 he] at i16
  have w20 := q_wz125 (k := 20) (v := 0) (Or.inl rfl) h.1.1
  have T1 : SK (zsi σ 125 20 0) := h.1.1
  have w13 := q_w125 (k := 13) (v := 0) T1
  refine ⟨zsi (zsi σ 125 20 0) 125 13 0, ?_, (Ag.zsi (by omega)).trans (Ag.zsi (by omega)), zi_hit, by rw [zi_miss (by decide), zi_hit]⟩
  generalize zsi (zsi σ 125 20 0) 125 13 0 = u2 at w13
  generalize zsi σ 125 20 0 = u1 at w20 w13
  simp only [s_X9_endText, i19, i16, w20, w13, bos, if_true]
theorem endT_f (h : BadX tb L k σ ∨ ∃ q1 c1, RX tb L nT lw k q1 c1 σ ∧ kdN tb L k ≠ 258) : ∃ σ1, s_X9_endText 125 σ = some ((), σ1) ∧ Ag Ste σ σ1 ∧ SK σ1 ∧ zi σ1 125 19 = 1 ∧ zi σ1 125 18 = iN (psN tb L k) ∧ zi σ1 125 13 = 0 ∧ zi σ1 125 20 = 0 := by
  have fin : ∀ τ, BadX tb L k τ → ∃ σ1, (wrZ 9 τ 125 20 (0)).bind (fun σ2 => (wrI 9 σ2 125 13 (0)).bind fun σ3 => some ((), σ3)) = some ((), σ1) ∧ Ag Ste τ σ1 ∧ SK σ1 ∧ zi σ1 125 19 = 1 ∧ zi σ1 125 18 = iN (psN tb L k) ∧ zi σ1 125 13 = 0 ∧ zi σ1 125 20 = 0 := by
    intro τ hb
    have w20 := q_wz125 (k := 20) (v := 0) (Or.inl rfl) hb.1
    have T1 : SK (zsi τ 125 20 0) := hb.1
    have w13 := q_w125 (k := 13) (v := 0) T1
    have T2 : SK (zsi (zsi τ 125 20 0) 125 13 0) := hb.1
    refine ⟨zsi (zsi τ 125 20 0) 125 13 0, ?_, (Ag.zsi (by unfold Ste; omega)).trans (Ag.zsi (by unfold Ste; omega)), T2, by rw [zi_miss (by decide), zi_miss (by decide)]; exact hb.2.1, by rw [zi_miss (by decide), zi_miss (by decide)]; exact hb.2.2.1, zi_hit, by rw [zi_miss (by decide), zi_hit]⟩
    rw [w20, bos, w13, bos]
  rcases h with h | ⟨q1, c1, h, he⟩
  · have i19 := q_i125 (k := 19) h.1
    rw [h.2.1] at i19
    obtain ⟨σ1, x1, x2⟩ := fin σ h
    refine ⟨σ1, ?_, x2⟩
    unfold s_X9_endText
    rw [i19, bos, if_neg z10']
    exact x1
  · have i19 := q_i125 (k := 19) h.1.1
    rw [h.2.1] at i19
    have i16 := q_i125 (k := 16) h.1.1
    have n16 := (sort_end h.1).2 he
    have bk := q_ck125 h.1.1
    obtain ⟨m, b, e⟩ := h.fail (X := 135)
    have e : Ag Ste σ (badH tb L k σ) := badH.ag.mono (fun a j z => by unfold Ste; omega)
    obtain ⟨σ1, x1, x2, x3⟩ := fin _ b
    refine ⟨σ1, ?_, e.trans x2, x3⟩
    unfold s_X9_endText
    rw [i19, bos, if_pos rfl, i16, bos, if_neg n16, bk, bos, m, cbs]
    exact x1
end RTX
