/-! ===== new cells; what a law's text means to both ===== -/
section GW
variable {σ : Hp} {nP nF nB nT nS nL H n : Nat} {B : Book} {R : Nat → Int32}
def LF (a k : Nat) : Prop := (a = 98 ∧ k = 1) ∨ (100 ≤ a ∧ a ≤ 105) ∨ (a = 0 ∧ (k = 15 ∨ k = 17 ∨ k = 18)) ∨ (a = 125 ∧ (k = 0 ∨ k = 1 ∨ (13 ≤ k ∧ k ≤ 21) ∨ k = 23 ∨ k = 26 ∨ k = 29 ∨ k = 30)) ∨ a = 124 ∨ a = 126 ∨ (135 ≤ a ∧ a ≤ 139) ∨ a = 154
def LSw (a k : Nat) : Prop := LF a k ∨ (a = 1 ∧ k = 17) ∨ (a = 127 ∧ (k = 5 ∨ 178 ≤ k))
def GG (S : Nat → Nat → Prop) (σ t : Hp) : Prop := zn σ ≤ zn t ∧ (∀ a, a < zn σ → zk t a = zk σ a ∧ zl t a = zl σ a) ∧ (∀ a, a < zn σ → a ≠ 16 → zr t a = zr σ a) ∧ (∀ a k, a < zn σ → ¬ S a k → zi t a k = zi σ a k ∧ zj t a k = zj σ a k)
theorem GG.ofAg {S : Nat → Nat → Prop} {t : Hp} (h : Ag S σ t) : GG S σ t := ⟨Nat.le_of_eq h.1.symm, fun a _ => by rw [h.2.1, h.2.2.1]; exact ⟨rfl, rfl⟩, fun a _ _ => by rw [h.2.2.2.1], fun a k _ hn => h.2.2.2.2 a k hn⟩
theorem GG.ofGr {S : Nat → Nat → Prop} {t : Hp} (h : Gr σ t) : GG S σ t := ⟨h.1, fun a ha => ⟨(h.2 a ha).1, (h.2 a ha).2.1⟩, fun a ha _ => (h.2 a ha).2.2.1, fun a k ha _ => by rw [(h.2 a ha).2.2.2.1, (h.2 a ha).2.2.2.2]; exact ⟨rfl, rfl⟩⟩
theorem GG.trans {S : Nat → Nat → Prop} {t u : Hp} (h1 : GG S σ t) (h2 : GG S t u) : GG S σ u := by
  obtain ⟨a1, a2, a3, a4⟩ := h1
  obtain ⟨b1, b2, b3, b4⟩ := h2
  refine ⟨Nat.le_trans a1 b1, fun a ha => ?_, fun a ha hn => ?_, fun a k ha hn => ?_⟩
  · have x := a2 a ha
    have y := b2 a (Nat.lt_of_lt_of_le ha a1)
    exact ⟨y.1.trans x.1, y.2.trans x.2⟩
  · exact (b3 a (Nat.lt_of_lt_of_le ha a1) hn).trans (a3 a ha hn)
  · have x := a4 a k ha hn
    have y := b4 a k (Nat.lt_of_lt_of_le ha a1) hn
    exact ⟨y.1.trans x.1, y.2.trans x.2⟩
theorem GG.mono {S T : Nat → Nat → Prop} {t : Hp} (h : GG S σ t) (hs : ∀ a k, S a k → T a k) : GG T σ t := ⟨h.1, h.2.1, h.2.2.1, fun a k ha hn => h.2.2.2 a k ha (fun q => hn (hs a k q))⟩
theorem GG.zsr {S : Nat → Nat → Prop} {k : Nat} {v : Option Nat} : GG S σ (CLowerHalfLaw_law_r4637_57a93e.zsr σ 16 k v) := ⟨Nat.le_refl _, fun _ _ => ⟨rfl, rfl⟩, fun a _ hn => zr_ne hn, fun _ _ _ _ => ⟨rfl, rfl⟩⟩
theorem GG.sk {S : Nat → Nat → Prop} {t : Hp} (e : GG S σ t) (h : SK σ) : SK t := by
  have z := h.1
  refine ⟨Nat.le_trans z e.1, fun a ha => by rw [(e.2.1 a (by omega)).1, (e.2.1 a (by omega)).2]; exact h.2.1 a ha, fun q hq => ?_⟩
  have d := rq_d q hq
  have l := rq_lt q hq
  rw [e.2.2.1 q.1 (by omega) d.1]
  exact h.2.2 q hq
/-- the heap with the old cells' frame -/
def mask2 (σ t : Hp) : Hp := (zn σ, zk σ, zl σ, zi t, zj t, zr σ)
theorem GG.ag {S : Nat → Nat → Prop} {t : Hp} (e : GG S σ t) : Ag (fun a k => S a k ∨ zn σ ≤ a) σ (mask2 σ t) := ⟨rfl, rfl, rfl, rfl, fun a k hn => e.2.2.2 a k (Nat.not_le.mp (fun q => hn (Or.inr q))) (fun q => hn (Or.inl q))⟩
theorem GG.lc {S : Nat → Nat → Prop} {t : Hp} (e : GG S σ t) (hs : ∀ a k, S a k → a < 156) {u j : Nat} (h : LC1 σ u B j) : LC1 t u B j :=
  h.same e.1 (fun a h1 h2 => ⟨(e.2.1 a h2).1, (e.2.1 a h2).2, e.2.2.1 a h2 (by omega), funext fun k => (e.2.2.2 a k h2 (fun q => by have := hs a k q; omega)).1⟩)
theorem GG.cr {S : Nat → Nat → Prop} {t : Hp} {b : Nat} (e : GG S σ t) (h156 : 156 ≤ zn σ) (hs : ∀ a k, S a k → (a < b ∨ b + 15 ≤ a) ∧ a < 156) (hb : b + 15 < 156) (hb1 : b + 15 ≠ 16 ∨ ∀ j, zr t 16 j = zr σ 16 j) (h : Cr b σ nP nF nB nT nS nL H B R) : Cr b t nP nF nB nT nS nL H B R := by
  refine ⟨h.1, h.2.1.congr (fun o ho => funext fun k => (e.2.2.2 (b + o) k (by omega) (fun q => by have := hs _ _ q; omega)).1), h.2.2.1, fun j hj => ?_⟩
  obtain ⟨u, q1, q2⟩ := h.2.2.2 j hj
  refine ⟨u, ?_, e.lc (fun a k q => (hs a k q).2) q2⟩
  by_cases c : b + 15 = 16
  · rcases hb1 with z | z
    · exact absurd c z
    · rw [c, z j, ← c]
      exact q1
  · rw [e.2.2.1 (b + 15) (by omega) c]
    exact q1
theorem GG.imf {S : Nat → Nat → Prop} {t : Hp} {b : Nat} {z1 z2 : Int32} (e : GG S σ t) (h156 : 156 ≤ zn σ) (hs : ∀ a k, S a k → (a < b ∨ b + 15 ≤ a) ∧ a < 156) (hb : b + 15 < 156) (hb1 : b + 15 ≠ 16) (h : ImF b σ z1 z2 R) : ImF b t z1 z2 R := by
  refine ⟨h.1, ?_⟩
  rcases h.2 with h1 | ⟨h1, nP, nF, nB, nT, nS, nL, B, h2⟩
  · exact Or.inl h1
  · exact Or.inr ⟨h1, nP, nF, nB, nT, nS, nL, B, e.cr h156 hs hb (Or.inl hb1) h2⟩
theorem LSw.lt {a k : Nat} (h : LSw a k) : a < 156 := by
  unfold LSw LF at h
  omega
/-- all but the row and the House 1, behind a text read -/
theorem restG {t : Hp} (h : Rest σ) (E : GG LSw σ t) (h98 : zi t 98 1 = 0) (h13 : zi t 125 13 = 0) (hf : zi t 0 15 = zi t 125 18) (h17 : zi t 0 17 = zi t 125 52) (h20 : zi t 125 20 = 0) (hRf : Rf t) (hx : ∀ j, j < 6 → zr t 16 j = none ∨ ∃ u, zr t 16 j = some u ∧ zk t u = 7 ∧ u < zn t) : Rest t := by
  obtain ⟨hS, ⟨nt, hT⟩, hR, hM, hW, hD, hI⟩ := h
  have z := hS.1
  have cell : ∀ a k, a < 156 → ¬ LSw a k → zi t a k = zi σ a k := fun a k ha hn => (E.2.2.2 a k (by omega) hn).1
  have P : ∀ a k, (LSw a k ∨ zn σ ≤ a) → fCW a = true ∧ fDk a k = true := fun a k q => by
    unfold LSw LF at q
    have hq : (a = 98 ∧ k = 1) ∨ (100 ≤ a ∧ a ≤ 105) ∨ (a = 0 ∧ (k = 15 ∨ k = 17 ∨ k = 18)) ∨ (a = 125 ∧ k ≤ 30) ∨ a = 124 ∨ a = 126 ∨ (135 ≤ a ∧ a ≤ 139) ∨ a = 154 ∨ a = 1 ∨ a = 127 ∨ 156 ≤ a := by omega
    have c2 : fCW a = true := by unfold fCW; simp; omega
    have c5 : fDk a k = true := by unfold fDk; simp; omega
    exact ⟨c2, c5⟩
  have hWf : CW (mask2 σ t) := hW.gg E.ag (fun a k q => (P a k q).1)
  have hDf : Dk (mask2 σ t) := hD.gg E.ag (fun a k q => (P a k q).2)
  have i59 : ∀ a k, LSw a k → (a < 59 ∨ 59 + 15 ≤ a) ∧ a < 156 := fun a k q => by unfold LSw LF at q; omega
  have i78 : ∀ a k, LSw a k → (a < 78 ∨ 78 + 15 ≤ a) ∧ a < 156 := fun a k q => by unfold LSw LF at q; omega
  refine ⟨E.sk hS, ⟨0, Nat.zero_le _, h98, h13, fun i hi => ?_⟩, hRf, ⟨?_, hf, h17, h20⟩, hWf, hDf, ?_, ?_, fun b hb j hj => ?_⟩
  · rw [cell 99 i (by decide) (by unfold LSw LF; omega), cell 134 i (by decide) (by unfold LSw LF; omega)]
    exact hT.2.2.2 i hi
  · rw [cell 0 16 (by decide) (by unfold LSw LF; omega), cell 125 11 (by decide) (by unfold LSw LF; omega)]
    exact hM.1
  · rw [cell 97 0 (by decide) (by unfold LSw LF; omega), cell 129 0 (by decide) (by unfold LSw LF; omega)]
    exact (E.imf z i59 (by decide) (by decide) hI.1).low rfl rfl (fun i _ => cell 128 i (by decide) (by unfold LSw LF; omega))
  · rw [cell 97 1 (by decide) (by unfold LSw LF; omega), cell 129 1 (by decide) (by unfold LSw LF; omega)]
    exact (E.imf z i78 (by decide) (by decide) hI.2.1).low rfl rfl (fun i _ => cell 128 _ (by decide) (by unfold LSw LF; omega))
  · rcases hb with rfl | rfl | rfl
    · exact hx j hj
    · rw [E.2.2.1 (59 + 15) (by omega) (by decide)]
      rcases hI.2.2 59 (Or.inr (Or.inl rfl)) j hj with q | ⟨u, q1, q2, q3⟩
      · exact Or.inl q
      · exact Or.inr ⟨u, q1, by rw [(E.2.1 u q3).1]; exact q2, Nat.lt_of_lt_of_le q3 E.1⟩
    · rw [E.2.2.1 (78 + 15) (by omega) (by decide)]
      rcases hI.2.2 78 (Or.inr (Or.inr rfl)) j hj with q | ⟨u, q1, q2, q3⟩
      · exact Or.inl q
      · exact Or.inr ⟨u, q1, by rw [(E.2.1 u q3).1]; exact q2, Nat.lt_of_lt_of_le q3 E.1⟩
theorem unG {t : Hp} (E : GG LSw σ t) (h156 : 156 ≤ zn σ) (h : Un nP nF nT n σ) : Un nP nF nT n t := by
  have cell : ∀ a k, a < 156 → ¬ LSw a k → zi t a k = zi σ a k := fun a k ha hn => (E.2.2.2 a k (by omega) hn).1
  exact h.row (cell 109 1 (by decide) (by unfold LSw LF; omega)) (cell 125 8 (by decide) (by unfold LSw LF; omega)) (funext fun k => cell 110 k (by decide) (by unfold LSw LF; omega)) (funext fun k => cell 131 k (by decide) (by unfold LSw LF; omega)) (funext fun k => cell 130 k (by decide) (by unfold LSw LF; omega)) rfl (fun i h1 h2 => cell 127 i (by decide) (by unfold LSw LF; omega))
/-- a call that read a text in vain -/
theorem relF {t : Hp} (hr : Rel σ) (E : GG LF σ t) (hz : ∀ j, zr t 16 j = zr σ 16 j) (h98 : zi t 98 1 = 0) (h13 : zi t 125 13 = 0) (hf : zi t 0 15 = zi t 125 18) (h17 : zi t 0 17 = zi t 125 52) (h20 : zi t 125 20 = 0) (hRf : Rf t) : Rel t := by
  obtain ⟨h, nP, nF, nB, nT, nS, nL, B, n, hC, hU⟩ := hr
  have z := h.1.1
  have EL : GG LSw σ t := E.mono (fun a k q => Or.inl q)
  have e127 : zi t 127 = zi σ 127 := funext fun k => (E.2.2.2 127 k (by omega) (by unfold LF; omega)).1
  refine ⟨restG h EL h98 h13 hf h17 h20 hRf (fun j hj => ?_), nP, nF, nB, nT, nS, nL, B, n, ?_, unG EL z hU⟩
  · rw [hz j]
    rcases h.2.2.2.2.2.2.2.2 1 (Or.inl rfl) j hj with q | ⟨u, q1, q2, q3⟩
    · exact Or.inl q
    · exact Or.inr ⟨u, q1, by rw [(E.2.1 u q3).1]; exact q2, Nat.lt_of_lt_of_le q3 E.1⟩
  · rw [e127]
    exact E.cr z (fun a k q => by unfold LF at q; omega) (by decide) (Or.inr hz) hC
/-! a law's clauses as the book has them -/
def bkOf (l : List Cl) : Nat × (Nat → Nat × Sem × Sem) := (l.length, fun c => match l[c]? with
  | some cl => (cl.1 - 300, cl.2.1, cl.2.2.2.2.getD one1)
  | none => (0, one1, one1))
theorem RRows.le {row : (Nat → Int32) → (Nat → Int32) → (Nat → Int32) → Nat → Nat → Nat → Cl → Prop} {Rn op ar : Nat → Int32} : ∀ (l : List Cl) (i c c1 : Nat), RRows row Rn op ar i c c1 l → c ≤ c1
  | [], _, c, c1, h => by
    have : c1 = c := h
    omega
  | cl :: l, i, c, c1, h => by
    obtain ⟨m, a, b, d⟩ := h
    have := RRows.le l (i + 1) m c1 d
    omega
theorem RRows.get {row : (Nat → Int32) → (Nat → Int32) → (Nat → Int32) → Nat → Nat → Nat → Cl → Prop} {Rn op ar : Nat → Int32} : ∀ (l : List Cl) (i c c1 : Nat), RRows row Rn op ar i c c1 l → ∀ m cl, l[m]? = some cl → ∃ a b, c ≤ a ∧ a ≤ b ∧ b ≤ c1 ∧ row Rn op ar (i + m) a b cl
  | [], _, _, _, _, m, cl, h => by simp at h
  | x :: l, i, c, c1, h, m, cl, hm => by
    obtain ⟨m1, a, b, d⟩ := h
    have le := RRows.le l (i + 1) m1 c1 d
    cases m with
    | zero =>
      rw [List.getElem?_cons_zero] at hm
      cases hm
      exact ⟨c, m1, Nat.le_refl _, a, le, b⟩
    | succ m =>
      rw [List.getElem?_cons_succ] at hm
      obtain ⟨p, q, h1, h2, h3, h4⟩ := RRows.get l (i + 1) m1 c1 d m cl hm
      exact ⟨p, q, by omega, h2, h3, by rw [show i + (m + 1) = i + 1 + m by omega]; exact h4⟩
theorem RowsL.get {Rn s : Nat → Int32} : ∀ (l : List Cl) (i c c1 : Nat), RowsL Rn s i c c1 l → ∀ m cl, l[m]? = some cl → ∃ a b, c ≤ a ∧ a ≤ b ∧ b ≤ c1 ∧ RowC Rn s (i + m) a b cl
  | [], _, _, _, _, m, cl, h => by simp at h
  | x :: l, i, c, c1, h, m, cl, hm => by
    obtain ⟨m1, a, b, d⟩ := h
    have le := RowsL.le l (i + 1) m1 c1 d
    cases m with
    | zero =>
      rw [List.getElem?_cons_zero] at hm
      cases hm
      exact ⟨c, m1, Nat.le_refl _, a, le, b⟩
    | succ m =>
      rw [List.getElem?_cons_succ] at hm
      obtain ⟨p, q, h1, h2, h3, h4⟩ := RowsL.get l (i + 1) m1 c1 d m cl hm
      exact ⟨p, q, by omega, h2, h3, by rw [show i + (m + 1) = i + 1 + m by omega]; exact h4⟩
theorem bk_some {l : List Cl} {c : Nat} (h : c < l.length) : ∃ cl, l[c]? = some cl ∧ (bkOf l).2 c = (cl.1 - 300, cl.2.1, cl.2.2.2.2.getD one1) := by
  refine ⟨l[c], List.getElem?_eq_getElem h, ?_⟩
  show (match l[c]? with
    | some cl => (cl.1 - 300, cl.2.1, cl.2.2.2.2.getD one1)
    | none => (0, one1, one1)) = _
  rw [List.getElem?_eq_getElem h]
/-- the reference's row of the law says what the book says -/
theorem lr_new {Rn op ar : Nat → Int32} {l : List Cl} {c1 j : Nat} (hl : l.length ≤ 12) (hc1 : c1 ≤ 400) (hj : j < 6) (h : RRows RRowL Rn op ar 0 0 c1 l) (hB : B j = bkOf l) (r1 : R (178 + 900 * j + 1) = iN l.length) (r2 : ∀ x, x < 8 * l.length → R (178 + 900 * j + 2 + x) = Rn x) (r3 : ∀ k, k < c1 → opL R j k = op k ∧ arL R j k = ar k) : LR1 R B j := by
  have e1 : (B j).1 = l.length := by rw [hB]; rfl
  refine ⟨by rw [e1]; exact hl, by rw [e1]; exact r1, fun c hc => ?_⟩
  rw [e1] at hc
  obtain ⟨cl, g1, g2⟩ := bk_some hc
  have e2 : (B j).2 c = (cl.1 - 300, cl.2.1, cl.2.2.2.2.getD one1) := by rw [hB]; exact g2
  obtain ⟨a, b, x1, x2, x3, y1, y2, y3, y4, c2, y5, y6, y7, y8, y9, y10⟩ := h.get l 0 0 c1 c cl g1
  rw [Nat.zero_add] at y3 y4 y6 y7 y8
  have le := y10.le
  rw [e2]
  refine ⟨by show cl.1 - 300 < 3; omega, by rw [r2 (8 * c) (by omega)]; exact y3, a, c2, c2, b, by omega, by omega, by omega, by omega, ?_, ?_, ?_, ?_, fun hn e => ?_, fun hk e => ?_, fun hk e => ?_, fun e v hv => ?_⟩
  · rw [show 178 + 900 * j + 2 + 8 * c + 3 = 178 + 900 * j + 2 + (8 * c + 3) by omega, r2 _ (by omega)]
    exact y4
  · rw [show 178 + 900 * j + 2 + 8 * c + 4 = 178 + 900 * j + 2 + (8 * c + 4) by omega, r2 _ (by omega)]
    exact y6
  · rw [show 178 + 900 * j + 2 + 8 * c + 5 = 178 + 900 * j + 2 + (8 * c + 5) by omega, r2 _ (by omega)]
    exact y7
  · rw [show 178 + 900 * j + 2 + 8 * c + 6 = 178 + 900 * j + 2 + (8 * c + 6) by omega, r2 _ (by omega)]
    exact y8
  · have hn : cl.1 - 300 ≠ 2 := hn
    obtain ⟨q, q1, q2⟩ := y9 (by omega)
    obtain ⟨m, hm⟩ := q2.val (by omega) e
    exact ⟨m, rV_congr (fun k hk => r3 k (by omega)) _ _ _ _ hm⟩
  · cases ht : cl.2.2.2.2 with
    | none =>
      rw [ht] at y10
      have : b = c2 := y10
      omega
    | some t =>
      rw [ht] at y10
      obtain ⟨-, q, q1, q2⟩ := y10
      obtain ⟨m, hm⟩ := q2.val (by omega) e
      exact ⟨m, rV_congr (fun k hk => r3 k (by omega)) _ _ _ _ hm⟩
  · cases ht : cl.2.2.2.2 with
    | none => rfl
    | some t =>
      rw [ht] at y10
      obtain ⟨-, q, q1, q2⟩ := y10
      exact absurd q2.1 hk
  · cases ht : cl.2.2.2.2 with
    | none =>
      have hv : (cl.2.2.2.2.getD one1) e = some v := hv
      rw [ht] at hv
      cases hv
      exact Or.inr rfl
    | some t =>
      have hv : (cl.2.2.2.2.getD one1) e = some v := hv
      rw [ht] at hv y10
      exact y10.1 e v hv
/-- the class's text says what the book says -/
theorem lc_new {t j : Nat} {l : List Cl} (h : TextOK t l σ) (hh : ∀ (c : Nat) (cl : Cl), l[c]? = some cl → 300 ≤ cl.1 ∧ cl.1 ≤ 302) (hB : B j = bkOf l) : LC1 σ t B j := by
  obtain ⟨a, r, sc1, t1, t2, t3, t4, t5, t6, t7, t8, t9, t10, t11, t12, t13, t14, t15, t16, t17⟩ := h
  have e1 : (B j).1 = l.length := by rw [hB]; rfl
  refine ⟨t1, t2, t3, a, r, t4, t5, t6, t7, t8, t9, t10, t11, by omega, by rw [e1]; exact t14, by rw [e1]; exact t15, fun c hc => ?_⟩
  rw [e1] at hc
  obtain ⟨cl, g1, g2⟩ := bk_some hc
  have e2 : (B j).2 c = (cl.1 - 300, cl.2.1, cl.2.2.2.2.getD one1) := by rw [hB]; exact g2
  obtain ⟨h1, h2⟩ := hh c cl g1
  obtain ⟨x, y, x1, x2, x3, y1, y2, f2, y3, y4, y5, f3, z1, z2, z3, z4, z5, z6, z7, z8, z9⟩ := t17.get l 0 0 sc1 c cl g1
  rw [Nat.zero_add] at y1 y2 z2 z3 z4 z5
  have lk : lnkN cl.1 = none := by unfold lnkN; rw [if_neg (by omega), if_neg (by omega), if_neg (by omega)]
  have ef := z7 lk
  have le := z9.le
  rw [e2]
  refine ⟨by show zi σ r (6 * c) = iN (300 + (cl.1 - 300)); rw [show 300 + (cl.1 - 300) = cl.1 by omega]; exact y1, x, f3, y, by omega, by omega, by omega, y2, z3, z4, fun hn w _ => ?_, fun hk w _ => ?_, fun hk w => ?_⟩
  · have hn : cl.1 - 300 ≠ 2 := hn
    obtain ⟨q, q1, q2⟩ := y5 (decide_eq_false (by omega))
    rw [ef]
    exact q2.val (by omega) w
  · cases ht : cl.2.2.2.2 with
    | none =>
      rw [ht] at z9
      have : y = f3 := z9
      omega
    | some tt =>
      rw [ht] at z9
      obtain ⟨q, q1, q2⟩ := z9
      exact q2.val (by omega) w
  · cases ht : cl.2.2.2.2 with
    | none => rfl
    | some tt =>
      rw [ht] at z9
      obtain ⟨q, q1, q2⟩ := z9
      exact absurd q2.1 hk
theorem LR1.loc {R1 : Nat → Int32} {j : Nat} (h : LR1 R B j) (e : ∀ x, x < 900 → R1 (178 + 900 * j + x) = R (178 + 900 * j + x)) : LR1 R1 B j := by
  obtain ⟨h1, h2, h3⟩ := h
  have ec : ∀ k, k < 400 → opL R1 j k = opL R j k ∧ arL R1 j k = arL R j k := fun k hk => by
    have a := e (98 + 2 * k) (by omega)
    have b := e (98 + 2 * k + 1) (by omega)
    refine ⟨?_, ?_⟩
    · show R1 (178 + 900 * j + 98 + 2 * k) = R (178 + 900 * j + 98 + 2 * k)
      rw [show 178 + 900 * j + 98 + 2 * k = 178 + 900 * j + (98 + 2 * k) by omega]
      exact a
    · show R1 (178 + 900 * j + 98 + 2 * k + 1) = R (178 + 900 * j + 98 + 2 * k + 1)
      rw [show 178 + 900 * j + 98 + 2 * k + 1 = 178 + 900 * j + (98 + 2 * k + 1) by omega]
      exact b
  have ee : ∀ x, x < 898 → R1 (178 + 900 * j + 2 + x) = R (178 + 900 * j + 2 + x) := fun x hx => by
    have := e (2 + x) (by omega)
    rwa [show 178 + 900 * j + (2 + x) = 178 + 900 * j + 2 + x by omega] at this
  refine ⟨h1, by rw [e 1 (by omega)]; exact h2, fun c hc => ?_⟩
  obtain ⟨g1, g2, k3, k4, k5, k6, b3, b4, b5, b6, c3, c4, c5, c6, r1, r2, r3, r4⟩ := h3 c hc
  refine ⟨g1, by rw [ee _ (by omega)]; exact g2, k3, k4, k5, k6, b3, b4, b5, b6, ?_, ?_, ?_, ?_, fun hn w => ?_, fun hk w => ?_, r3, r4⟩
  · rw [show 178 + 900 * j + 2 + 8 * c + 3 = 178 + 900 * j + 2 + (8 * c + 3) by omega, ee _ (by omega)]
    exact c3
  · rw [show 178 + 900 * j + 2 + 8 * c + 4 = 178 + 900 * j + 2 + (8 * c + 4) by omega, ee _ (by omega)]
    exact c4
  · rw [show 178 + 900 * j + 2 + 8 * c + 5 = 178 + 900 * j + 2 + (8 * c + 5) by omega, ee _ (by omega)]
    exact c5
  · rw [show 178 + 900 * j + 2 + 8 * c + 6 = 178 + 900 * j + 2 + (8 * c + 6) by omega, ee _ (by omega)]
    exact c6
  · obtain ⟨n, q⟩ := r1 hn w
    exact ⟨n, rV_congr (fun k hk => ec k (by omega)) _ _ _ _ q⟩
  · obtain ⟨n, q⟩ := r2 hk w
    exact ⟨n, rV_congr (fun k hk => ec k (by omega)) _ _ _ _ q⟩
theorem LR1.bk {B1 : Book} {j : Nat} (h : LR1 R B j) (e : B1 j = B j) : LR1 R B1 j := by
  unfold LR1 at *
  rw [e]
  exact h
theorem LC1.bk {B1 : Book} {t j : Nat} (h : LC1 σ t B j) (e : B1 j = B j) : LC1 σ t B1 j := by
  unfold LC1 at *
  rw [e]
  exact h
theorem WF.mL (h : WF nP nF nB nT nS nL H R) (hp : nL < 6) : WF nP nF nB nT nS (nL + 1) H (up R 5 (iN (nL + 1))) := by
  obtain ⟨⟨a1, a2, a3, a4, a5, a6⟩, ⟨b0, b1, b2, b3, b4, b5⟩, h3, h4⟩ := h
  refine ⟨⟨a1, a2, a3, a4, a5, by omega⟩, ⟨(up_ne (by decide)).trans b0, (up_ne (by decide)).trans b1, (up_ne (by decide)).trans b2, (up_ne (by decide)).trans b3, (up_ne (by decide)).trans b4, up_eq⟩, ?_, fun i h1 h2 => ?_⟩
  · rw [up_ne (by decide)]
    rcases h3 with q | ⟨j, q1, q2⟩
    · exact Or.inl q
    · exact Or.inr ⟨j, by omega, q2⟩
  · rw [up_ne (by omega)]
    exact h4 i h1 h2
end GW
