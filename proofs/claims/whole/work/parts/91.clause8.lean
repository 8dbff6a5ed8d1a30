/-! ===== clauses; the class's reader of one ===== -/
/-- a clause: its first word, two sums, how often, its test -/
abbrev Cl : Type := Nat × Sem × Sem × Nat × Option Sem
abbrev ResC : Type := Nat × Nat × Option Cl
def begN (lw : Bool) (c : Nat) : Bool := if lw = true then decide (c = 300 ∨ c = 301 ∨ c = 302) else decide (c = 316 ∨ c = 318 ∨ c = 320 ∨ c = 322)
def lnkN (c : Nat) : Option Nat := if c = 316 then some 317 else if c = 318 then some 319 else if c = 320 then some 321 else none
def one1 : Sem := fun _ => some 1
/-- a test behind "if", if one stands there -/
def tstP (kd nm : Nat → Nat) (lw : Bool) (nT k q : Nat) : Nat × Nat × Option (Option Sem) :=
  if kd k = 303 then (match lvT kd nm lw nT 8 (k + 1) q with
    | (k1, q1, none) => (k1, q1, none)
    | (k1, q1, some a) => (k1, q1, some (some a)))
  else (k, q, some none)
/-- how often, and the test -/
def timP (kd nm : Nat → Nat) (lw : Bool) (nT k q : Nat) : Nat × Nat × Option (Nat × Option Sem) :=
  if lw = false ∧ kd k = 323 then (if kd (k + 1) = 256 ∧ 1 ≤ nm (k + 1) ∧ nm (k + 1) ≤ 20 then (match tstP kd nm lw nT (k + 2) q with
      | (k1, q1, none) => (k1, q1, none)
      | (k1, q1, some t) => (k1, q1, some (nm (k + 1), t)))
    else (k + 1, q, none))
  else (match tstP kd nm lw nT k q with
    | (k1, q1, none) => (k1, q1, none)
    | (k1, q1, some t) => (k1, q1, some (1, t)))
/-- the second sum, if there is one, and what is behind it -/
def secP (kd nm : Nat → Nat) (lw : Bool) (nT c k q : Nat) : Nat × Nat × Option (Sem × Nat × Option Sem) := match lnkN c with
  | none => (match timP kd nm lw nT k q with
    | (k1, q1, none) => (k1, q1, none)
    | (k1, q1, some t) => (k1, q1, some (one1, t)))
  | some w => if kd k = w then (match lvS kd nm lw nT 8 (k + 1) q with
      | (k1, q1, none) => (k1, q1, none)
      | (k1, q1, some b) => (match timP kd nm lw nT k1 q1 with
        | (k2, q2, none) => (k2, q2, none)
        | (k2, q2, some t) => (k2, q2, some (b, t))))
    else (k, q, none)
def noSum (c : Nat) : Bool := decide (c = 302 ∨ c = 322)
def clauP (kd nm : Nat → Nat) (lw : Bool) (nT k q : Nat) : ResC :=
  if begN lw (kd k) = true then
    (if noSum (kd k) = true then (match secP kd nm lw nT (kd k) (k + 1) q with
        | (k1, q1, none) => (k1, q1, none)
        | (k1, q1, some t) => (k1, q1, some (kd k, one1, t)))
      else (match lvS kd nm lw nT 8 (k + 1) q with
        | (k1, q1, none) => (k1, q1, none)
        | (k1, q1, some a) => (match secP kd nm lw nT (kd k) k1 q1 with
          | (k2, q2, none) => (k2, q2, none)
          | (k2, q2, some t) => (k2, q2, some (kd k, a, t)))))
  else (k, q, none)
section C91
variable {σ : Hp} {tb : Nat → Nat} {L nT k q sc i : Nat} {lw : Bool}
/-- what reading a clause changes: i the clause, sc the steps so far -/
def Spc (sc i a k : Nat) : Prop := (a = 100 ∧ (k = 6 ∨ k = 7 ∨ k = 8 ∨ k = 9)) ∨ (a = 104 ∧ sc ≤ k) ∨ (a = 105 ∧ 6 * i ≤ k ∧ k < 6 * i + 6)
def SpcF (sc i a k : Nat) : Prop := Spc sc i a k ∨ (a = 100 ∧ k = 11)
theorem SpF.c {sc sc1 a k : Nat} (h : SpF sc1 a k) (e : sc ≤ sc1) : SpcF sc i a k := by
  unfold SpF at h
  unfold SpcF Spc
  omega
theorem SpcF.mono {sc sc1 a k : Nat} (h : SpcF sc1 i a k) (e : sc ≤ sc1) : SpcF sc i a k := by
  unfold SpcF Spc at *
  omega
theorem agC {σ1 : Hp} (h : Ag (Spc sc i) σ σ1) : Ag (SpcF sc i) σ σ1 := h.mono (fun a k q => Or.inl q)
theorem Sp.c {sc sc1 a k : Nat} (h : Sp sc1 a k) (e : sc ≤ sc1) : Spc sc i a k := by
  unfold Sp at h
  unfold Spc
  omega
theorem Spc.mono {sc sc1 a k : Nat} (h : Spc sc1 i a k) (e : sc ≤ sc1) : Spc sc i a k := by
  unfold Spc at *
  omega
theorem CP.keep {S : Nat → Nat → Prop} {σ1 : Hp} (h : CP tb L nT lw k q sc σ) (e : Ag S σ σ1) (hs : ∀ a j, S a j → (a = 100 ∧ j = 8) ∨ 103 < a) : CP tb L nT lw k q sc σ1 := by
  have g : ∀ j, j ≠ 8 → zi σ1 100 j = zi σ 100 j := fun j hj => (e.2.2.2.2 100 j (fun z => by have := hs _ _ z; omega)).1
  exact ⟨h.1.ag e, h.2.1.ag e (fun a j z y => by have := hs a j z; unfold Sc8 at y; omega), by rw [g 6 (by decide)]; exact h.2.2.1, by rw [g 7 (by decide)]; exact h.2.2.2.1, by rw [g 9 (by decide)]; exact h.2.2.2.2.1, by rw [g 10 (by decide)]; exact h.2.2.2.2.2⟩
/-- a number of the clause's row is set -/
theorem row8 (h : CP tb L nT lw k q sc σ) (hi : i < 12) {j : Nat} (hj : j < 6) (v : Int32) : stI σ 105 (iN (6 * i) + iN j) v = some (zsi σ 105 (6 * i + j) v) ∧ Ag (Spc sc i) σ (zsi σ 105 (6 * i + j) v) ∧ CP tb L nT lw k q sc (zsi σ 105 (6 * i + j) v) ∧ zi (zsi σ 105 (6 * i + j) v) 105 (6 * i + j) = v ∧ (∀ x, x ≠ 6 * i + j → zi (zsi σ 105 (6 * i + j) v) 105 x = zi σ 105 x) ∧ zi (zsi σ 105 (6 * i + j) v) 104 = zi σ 104 ∧ zi (zsi σ 105 (6 * i + j) v) 100 = zi σ 100 := by
  refine ⟨?_, Ag.zsi (by unfold Spc; omega), h.keep (S := fun a _ => a = 105) (Ag.zsi rfl) (fun a j z => by omega), zi_hit, fun x hx => by rw [zi_miss (by omega)], zi_ne (by decide), zi_ne (by decide)⟩
  rw [iN_add]
  exact q_st105 (by omega) h.1
theorem Sp_105 {s : Nat} {σ1 : Hp} (e : Ag (Sp s) σ σ1) : zi σ1 105 = zi σ 105 := funext fun x => (e.2.2.2.2 105 x (by unfold Sp; omega)).1
theorem Sp_8 {s : Nat} {σ1 : Hp} (e : Ag (Sp s) σ σ1) : zi σ1 100 8 = zi σ 100 8 := (e.2.2.2.2 100 8 (by unfold Sp; omega)).1
theorem Sp_104 {s x : Nat} {σ1 : Hp} (e : Ag (Sp s) σ σ1) (hx : x < s) : zi σ1 104 x = zi σ 104 x := (e.2.2.2.2 104 x (by unfold Sp; omega)).1
def TSeg (s : Nat → Int32) (m e : Nat) : Option Sem → Prop
  | none => e = m
  | some t => ∃ q, q ≤ 50 ∧ CSeg s m e q t
theorem TSeg.congr {s s1 : Nat → Int32} {m e : Nat} {t : Option Sem} (h : TSeg s m e t) (hs : ∀ x, m ≤ x → x < e → s1 x = s x) : TSeg s1 m e t := by
  cases t with
  | none => exact h
  | some t =>
    obtain ⟨q, a, b⟩ := h
    exact ⟨q, a, b.congr hs⟩
theorem TSeg.le {s : Nat → Int32} {m e : Nat} {t : Option Sem} (h : TSeg s m e t) : m ≤ e := by
  cases t with
  | none =>
    have : e = m := h
    omega
  | some t =>
    obtain ⟨q, a, b⟩ := h
    have := b.1
    omega
/-- what a stage of a clause leaves -/
def StR {α : Type} (tb : Nat → Nat) (L nT : Nat) (lw : Bool) (sc i : Nat) (σ : Hp) (k0 q0 : Nat) (o : Option (Int32 × Hp)) (r : Nat × Nat × Option α) (P : α → Nat → Hp → Prop) : Prop := match r with
  | (k1, q1, some a) => ∃ σ1 sc1, o = some (1, σ1) ∧ Ag (Spc sc i) σ σ1 ∧ CP tb L nT lw k1 q1 sc1 σ1 ∧ zi σ1 100 8 = iN (i + 1) ∧ sc1 + k0 ≤ sc + k1 ∧ k1 ≤ nT ∧ k0 ≤ k1 ∧ q1 ≤ 50 ∧ P a sc1 σ1
  | (k1, _, none) => ∃ σ1, o = some (0, σ1) ∧ Ag (SpcF sc i) σ σ1 ∧ zi σ1 100 11 = iN (psN tb L k1)
/-- the test -/
theorem cl211 (h : CP tb L nT lw k q sc σ) (h8 : zi σ 100 8 = iN i) (hi : i < 12) (hk : k ≤ nT) (hq : q ≤ 50) (hsc : sc ≤ k) : StR tb L nT lw sc i σ k q (s_X4_readClause_j211 100 (iN (6 * i)) σ) (tstP (kdN tb L) (nmN tb L) lw nT k q) (fun t sc1 σ1 => zi σ1 105 (6 * i + 4) = iN sc1 ∧ (∀ x, x ≠ 6 * i + 4 → zi σ1 105 x = zi σ 105 x) ∧ TSeg (zi σ1 104) sc sc1 t) := by
  have hE := h.2.1.kE
  have hL := h.2.1.2.1
  have hnL := h.2.1.1
  have kk := q_ck100 h.1
  have kd := kind8 h hk
  have hlt := kdN_lt (L := L) (k := k) h.2.1.2.2.1
  -- the end
  have fin : ∀ (k1 q1 sc1 : Nat) (τ : Hp), CP tb L nT lw k1 q1 sc1 τ → zi τ 100 8 = iN i → Ag (Spc sc i) σ τ → sc ≤ sc1 → ∃ σ1, s_X4_readClause_j244 100 (iN (6 * i)) τ = some (1, σ1) ∧ Ag (Spc sc i) σ σ1 ∧ CP tb L nT lw k1 q1 sc1 σ1 ∧ zi σ1 100 8 = iN (i + 1) ∧ zi σ1 105 (6 * i + 4) = iN sc1 ∧ (∀ x, x ≠ 6 * i + 4 → zi σ1 105 x = zi τ 105 x) ∧ zi σ1 104 = zi τ 104 := by
    intro k1 q1 sc1 τ hP ht8 eA hs
    have r4 := q_r100_4 hP.1
    have i7 := q_i100 (k := 7) hP.1
    rw [hP.2.2.2.1] at i7
    obtain ⟨st, e1, p1, v1, v2, v3, v4⟩ := row8 hP hi (j := 4) (by decide) (iN sc1)
    have st : stI τ 105 (iN (6 * i) + 4) (iN sc1) = _ := st
    generalize zsi τ 105 (6 * i + 4) (iN sc1) = τ1 at st e1 p1 v1 v2 v3 v4
    have i8 := q_i100 (k := 8) p1.1
    rw [v4, ht8] at i8
    have i1 : iN i + 1 = iN (i + 1) := iN_add i 1
    have w8 := q_w100 (k := 8) (v := iN (i + 1)) p1.1
    have e2 : Ag (fun a j => a = 100 ∧ j = 8) τ1 (zsi τ1 100 8 (iN (i + 1))) := Ag.zsi ⟨rfl, rfl⟩
    have p2 := p1.keep e2 (fun a j z => Or.inl z)
    have v5 : zi (zsi τ1 100 8 (iN (i + 1))) 100 8 = iN (i + 1) := zi_hit
    have v6 : zi (zsi τ1 100 8 (iN (i + 1))) 105 = zi τ1 105 := zi_ne (by decide)
    have v7 : zi (zsi τ1 100 8 (iN (i + 1))) 104 = zi τ1 104 := zi_ne (by decide)
    generalize zsi τ1 100 8 (iN (i + 1)) = τ2 at w8 e2 p2 v5 v6 v7
    refine ⟨τ2, ?_, (eA.trans (e1.mono (fun a j z => z.mono hs))).trans (e2.mono (fun a j z => by unfold Spc; omega)), p2, v5, by rw [v6]; exact v1, fun x hx => by rw [v6]; exact v2 x hx, by rw [v7, v3]⟩
    simp only [s_X4_readClause_j244, r4, i7, st, i8, i1, w8, bos]
  unfold tstP
  by_cases c : kdN tb L k = 303
  · rw [if_pos c]
    have hkl : k < nT := kd_lt hE hk c (by decide)
    have q303 : (iN (kdN tb L k) = 303) = True := eq_true (by rw [c]; rfl)
    have i6 := q_i100 (k := 6) h.1
    rw [h.2.2.1] at i6
    have w := q_w100 (k := 6) (v := iN (k + 1)) h.1
    have i1 : iN k + 1 = iN (k + 1) := iN_add k 1
    obtain ⟨eN, hN⟩ := h.next
    have g8 := Sp_8 eN
    have g5 := Sp_105 eN
    generalize zsi σ 100 6 (iN (k + 1)) = σ1 at w eN hN g8 g5
    have kk1 := q_ck100 hN.1
    have hr := lvT8 (lw := lw) hE 8 80 (Nat.le_refl _) (by decide) (k + 1) q sc σ1 (by omega) hq (by omega) hN
    have hr : CRes tb L nT lw sc σ1 (k + 1) q (s_parse 80 0 100 304 0 σ1) (lvT (kdN tb L) (nmN tb L) lw nT 8 (k + 1) q) := hr
    have hg := good_lvT (nm := nmN tb L) (lw := lw) hE 8 (k + 1) q (by omega) hq
    generalize lvT (kdN tb L) (nmN tb L) lw nT 8 (k + 1) q = r at hr hg
    obtain ⟨k1, q1, oa⟩ := r
    cases oa with
    | none =>
      obtain ⟨σ2, x1, x2, x3⟩ := hr
      refine ⟨σ2, ?_, (agC (eN.mono (fun a j z => z.c (Nat.le_refl _)))).trans (x2.mono (fun a j z => z.c (Nat.le_refl _))), x3⟩
      simp only [s_X4_readClause_j211, kk, kd, q303, i6, i1, w, kk1, x1, bos, cbs, if_true]
    | some a =>
      obtain ⟨σ2, sc1, x1, x2, x3, x4, x5⟩ := hr
      obtain ⟨g1, g2, g3⟩ := hg
      have g1 : k + 1 ≤ k1 := g1
      have g2 : k1 ≤ nT := g2
      obtain ⟨-, g4, g5', -⟩ := g3 a rfl
      have g4 : q < q1 := g4
      have g5' : q1 ≤ 50 := g5'
      have x5s := x5.1
      obtain ⟨σ3, y1, y2, y3, y4, y5, y6, y7⟩ := fin k1 q1 sc1 σ2 x3 (by rw [Sp_8 x2, g8]; exact h8) ((eN.mono (fun a j z => z.c (Nat.le_refl _))).trans (x2.mono (fun a j z => z.c (Nat.le_refl _)))) (by omega)
      refine ⟨σ3, sc1, ?_, y2, y3, y4, by omega, g2, by omega, g5', y5, fun x hx => by rw [y6 x hx, Sp_105 x2, g5], q1 - q, by omega, ?_⟩
      · simp only [s_X4_readClause_j211, kk, kd, q303, i6, i1, w, kk1, x1, y1, z10', bos, cbs, if_true, if_false]
      · rw [y7]
        exact x5
  · rw [if_neg c]
    have q303 : ¬ iN (kdN tb L k) = 303 := fun z => c ((iN_inj (b := 303) (by omega) (by decide)).mp z)
    obtain ⟨σ3, y1, y2, y3, y4, y5, y6, y7⟩ := fin k q sc σ h h8 Ag.refl (Nat.le_refl _)
    refine ⟨σ3, sc, ?_, y2, y3, y4, by omega, hk, Nat.le_refl _, hq, y5, y6, rfl⟩
    simp only [s_X4_readClause_j211, kk, kd, q303, y1, bos, cbs, if_false]
/-- how often -/
theorem cl139 (h : CP tb L nT lw k q sc σ) (h8 : zi σ 100 8 = iN i) (hi : i < 12) (hk : k ≤ nT) (hq : q ≤ 50) (hsc : sc ≤ k) : StR tb L nT lw sc i σ k q (s_X4_readClause_j139 100 (iN (6 * i)) σ) (timP (kdN tb L) (nmN tb L) lw nT k q) (fun t sc1 σ1 => zi σ1 105 (6 * i + 3) = iN sc ∧ zi σ1 105 (6 * i + 4) = iN sc1 ∧ zi σ1 105 (6 * i + 5) = iN t.1 ∧ t.1 ≤ 20 ∧ (∀ x, x < 6 * i + 3 → zi σ1 105 x = zi σ 105 x) ∧ TSeg (zi σ1 104) sc sc1 t.2) := by
  have hE := h.2.1.kE
  have hL := h.2.1.2.1
  have hnL := h.2.1.1
  have r4 := q_r100_4 h.1
  have i7 := q_i100 (k := 7) h.1
  rw [h.2.2.2.1] at i7
  obtain ⟨st, e1, p1, v1, v2, v3, v4⟩ := row8 h hi (j := 3) (by decide) (iN sc)
  have st : stI σ 105 (iN (6 * i) + 3) (iN sc) = _ := st
  generalize zsi σ 105 (6 * i + 3) (iN sc) = σ1 at st e1 p1 v1 v2 v3 v4
  have r4b := q_r100_4 p1.1
  obtain ⟨st2, e2, p2, u1, u2, u3, u4⟩ := row8 p1 hi (j := 5) (by decide) 1
  have st2 : stI σ1 105 (iN (6 * i) + 5) 1 = _ := st2
  generalize zsi σ1 105 (6 * i + 5) 1 = σ2 at st2 e2 p2 u1 u2 u3 u4
  have i10 := q_i100 (k := 10) p2.1
  rw [p2.2.2.2.2.2] at i10
  have kk2 := q_ck100 p2.1
  have kd2 := kind8 p2 hk
  have hlt := kdN_lt (L := L) (k := k) h.2.1.2.2.1
  have e12 : Ag (Spc sc i) σ σ2 := e1.trans e2
  have b8 : zi σ2 100 8 = iN i := by rw [u4, v4]; exact h8
  have b3 : zi σ2 105 (6 * i + 3) = iN sc := by rw [u2 _ (by omega)]; exact v1
  have blow : ∀ x, x < 6 * i + 3 → zi σ2 105 x = zi σ 105 x := fun x hx => by rw [u2 x (by omega), v2 x (by omega)]
  -- the test behind it
  have go : ∀ (k2 : Nat) (tm : Nat) (τ : Hp), k ≤ k2 → k2 ≤ nT → tm ≤ 20 → CP tb L nT lw k2 q sc τ → zi τ 100 8 = iN i → Ag (Spc sc i) σ τ → zi τ 105 (6 * i + 3) = iN sc → zi τ 105 (6 * i + 5) = iN tm → (∀ x, x < 6 * i + 3 → zi τ 105 x = zi σ 105 x) → s_X4_readClause_j139 100 (iN (6 * i)) σ = s_X4_readClause_j211 100 (iN (6 * i)) τ →
      StR tb L nT lw sc i σ k q (s_X4_readClause_j139 100 (iN (6 * i)) σ) (match tstP (kdN tb L) (nmN tb L) lw nT k2 q with
        | (k1, q1, none) => (k1, q1, none)
        | (k1, q1, some t) => (k1, q1, some (tm, t))) (fun t sc1 σ1 => zi σ1 105 (6 * i + 3) = iN sc ∧ zi σ1 105 (6 * i + 4) = iN sc1 ∧ zi σ1 105 (6 * i + 5) = iN t.1 ∧ t.1 ≤ 20 ∧ (∀ x, x < 6 * i + 3 → zi σ1 105 x = zi σ 105 x) ∧ TSeg (zi σ1 104) sc sc1 t.2) := by
    intro k2 tm τ hk2 hk2n htm hP ht8 eA t3 t5 tl eq
    rw [eq]
    have hr := cl211 hP ht8 hi hk2n hq (by omega)
    generalize tstP (kdN tb L) (nmN tb L) lw nT k2 q = r at hr
    obtain ⟨k1, q1, oa⟩ := r
    cases oa with
    | none =>
      obtain ⟨σ3, x1, x2, x3⟩ := hr
      exact ⟨σ3, x1, (agC eA).trans x2, x3⟩
    | some t =>
      obtain ⟨σ3, sc1, x1, x2, x3, x4, x5, x6, x7, x8, x9, x10, x11⟩ := hr
      exact ⟨σ3, sc1, x1, eA.trans x2, x3, x4, by omega, x6, by omega, x8, by rw [x10 _ (by omega)]; exact t3, x9, by rw [x10 _ (by omega)]; exact t5, htm, fun x hx => by rw [x10 x (by omega)]; exact tl x hx, x11⟩
  unfold timP
  cases lw with
  | true =>
    have i10 : rdI 4 σ2 100 10 = some 1 := i10
    rw [if_neg (fun z => absurd z.1 (by decide))]
    refine go k 1 σ2 (Nat.le_refl _) hk (by decide) p2 b8 e12 b3 u1 blow ?_
    simp only [s_X4_readClause_j139, r4, i7, st, r4b, st2, i10, z10', bos, if_false]
  | false =>
    have i10 : rdI 4 σ2 100 10 = some 0 := i10
    by_cases c : kdN tb L k = 323
    · rw [if_pos ⟨rfl, c⟩]
      have hkl : k < nT := kd_lt hE hk c (by decide)
      have q323 : (iN (kdN tb L k) = 323) = True := eq_true (by rw [c]; rfl)
      have i6 := q_i100 (k := 6) p2.1
      rw [p2.2.2.1] at i6
      have w := q_w100 (k := 6) (v := iN (k + 1)) p2.1
      have i1 : iN k + 1 = iN (k + 1) := iN_add k 1
      obtain ⟨eN, hN⟩ := p2.next
      have g8 := Sp_8 eN
      have g5 := Sp_105 eN
      generalize zsi σ2 100 6 (iN (k + 1)) = σ3 at w eN hN g8 g5
      have r4c := q_r100_4 hN.1
      have kk3 := q_ck100 hN.1
      obtain ⟨nv, n1, n2⟩ : ∃ nv, s_X4_numberNow 100 σ3 = some (iN nv, σ3) ∧ (k + 1 < nT → nv = nmN tb L (k + 1)) := by
        by_cases c6 : k + 1 < nT
        · exact ⟨_, num8now hN c6, fun _ => rfl⟩
        · have e : k + 1 = nT := by omega
          rw [e] at hN
          exact ⟨0, num8now_E hN, fun z => absurd z c6⟩
      obtain ⟨st3, e3, p3, t1, t2, t3, t4⟩ := row8 hN hi (j := 5) (by decide) (iN nv)
      have st3 : stI σ3 105 (iN (6 * i) + 5) (iN nv) = _ := st3
      generalize zsi σ3 105 (6 * i + 5) (iN nv) = σ4 at st3 e3 p3 t1 t2 t3 t4
      have kk4 := q_ck100 p3.1
      have e14 : Ag (Spc sc i) σ σ4 := (e12.trans (eN.mono (fun a j z => z.c (Nat.le_refl _)))).trans e3
      by_cases c2 : kdN tb L (k + 1) = 256 ∧ 1 ≤ nmN tb L (k + 1) ∧ nmN tb L (k + 1) ≤ 20
      · rw [if_pos c2]
        have hkl2 : k + 1 < nT := kd_lt hE (by omega) c2.1 (by decide)
        have en := n2 hkl2
        have tk := takeNum8_t p3 (by omega) (lo := 1) (hi := 20) (by decide) (by decide) c2.1 c2.2.1 c2.2.2
        have tk : s_X4_takeNumber 100 1 20 σ4 = _ := tk
        obtain ⟨eM, hM⟩ := p3.next
        have m8 := Sp_8 eM
        have m5 := Sp_105 eM
        generalize zsi σ4 100 6 (iN (k + 1 + 1)) = σ5 at tk eM hM m8 m5
        refine go (k + 2) (nmN tb L (k + 1)) σ5 (by omega) (by omega) c2.2.2 hM (by rw [m8, t4, g8]; exact b8) (e14.trans (eM.mono (fun a j z => z.c (Nat.le_refl _)))) (by rw [m5, t2 _ (by omega), g5]; exact b3) (by rw [m5, t1, en]) (fun x hx => by rw [m5, t2 x (by omega), g5]; exact blow x hx) ?_
        simp only [s_X4_readClause_j139, r4, i7, st, r4b, st2, i10, kk2, kd2, q323, i6, i1, w, r4c, kk3, n1, st3, kk4, tk, z10', bos, cbs, if_true, if_false]
      · rw [if_neg c2]
        have tk := takeNum8_f p3 (by omega) (lo := 1) (hi := 20) (by decide) (by decide) c2
        have tk : s_X4_takeNumber 100 1 20 σ4 = _ := tk
        refine ⟨_, ?_, (agC e14).trans ((failed8 p3).1.mono (fun a j z => z.c (Nat.le_refl _))), (failed8 p3).2⟩
        generalize zsi σ4 100 11 (iN (psN tb L (k + 1))) = σ5 at tk
        simp only [s_X4_readClause_j139, r4, i7, st, r4b, st2, i10, kk2, kd2, q323, i6, i1, w, r4c, kk3, n1, st3, kk4, tk, bos, cbs, if_true]
    · rw [if_neg (fun z => c z.2)]
      have q323 : ¬ iN (kdN tb L k) = 323 := fun z => c ((iN_inj (b := 323) (by omega) (by decide)).mp z)
      refine go k 1 σ2 (Nat.le_refl _) hk (by decide) p2 b8 e12 b3 u1 blow ?_
      simp only [s_X4_readClause_j139, r4, i7, st, r4b, st2, i10, kk2, kd2, q323, bos, cbs, if_true, if_false]
end C91
