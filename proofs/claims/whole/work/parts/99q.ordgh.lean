/-! ===== what a call of orders changes ===== -/
section OGH
variable {σ : Hp} {nP nF nB nT nS nL H n : Nat} {B : Book} {R : Nat → Int32}
theorem UnF.cong {l1 l2 m1 m2 : Int32} {d so u R1 d1 so1 u1 : Nat → Int32} (h : UnF nP nF nT n l1 l2 d so u R) (e1 : m1 = l1) (e2 : m2 = l2) (ed : ∀ i, i < 112 → d1 i = d i) (es : ∀ i, i < 16 → so1 i = so i) (eu : ∀ i, i < 368 → u1 i = u i) (eR : ∀ i, 7 ≤ i → i < 30 → R1 i = R i) : UnF nP nF nT n m1 m2 d1 so1 u1 R1 := by
  obtain ⟨h1, h2, h3, h4⟩ := h
  have sn : ∀ k, k ≤ n → ∀ i, i < 23 → snap n R1 u1 k i = snap n R u k i := fun k hk i hi => by
    unfold snap
    by_cases c : k = n
    · rw [if_pos c, if_pos c]
      exact eR _ (by omega) (by omega)
    · rw [if_neg c, if_neg c]
      exact eu _ (by omega)
  exact ⟨h1, e1.trans h2, e2.trans h3, fun k hk => (h4 k hk).congr (fun m hm => ed _ (by omega)) (es k (by omega)) (sn k (by omega)) (sn (k + 1) (by omega))⟩
def LO (a k : Nat) : Prop := (a = 98 ∧ k = 1) ∨ (100 ≤ a ∧ a ≤ 105) ∨ (a = 0 ∧ (k = 13 ∨ k = 14 ∨ k = 15 ∨ k = 17 ∨ k = 18)) ∨ (1 ≤ a ∧ a ≤ 15) ∨ (18 ≤ a ∧ a ≤ 34) ∨ a = 56 ∨ a = 57 ∨ (107 ≤ a ∧ a ≤ 112) ∨ a = 114 ∨ (116 ≤ a ∧ a ≤ 124) ∨ (a = 125 ∧ (k = 0 ∨ k = 1 ∨ k = 8 ∨ (13 ≤ k ∧ k ≤ 21) ∨ k = 23 ∨ k = 26 ∨ k = 29 ∨ k = 30 ∨ k = 34 ∨ (38 ≤ k ∧ k ≤ 40) ∨ (50 ≤ k ∧ k ≤ 53))) ∨ a = 126 ∨ (a = 127 ∧ 7 ≤ k ∧ k < 30) ∨ (130 ≤ a ∧ a ≤ 133) ∨ (135 ≤ a ∧ a ≤ 139) ∨ (143 ≤ a ∧ a ≤ 146) ∨ a = 154
theorem LO.lt {a k : Nat} (h : LO a k) : a < 156 := by
  unfold LO at h
  omega
def GH (S : Nat → Nat → Prop) (σ t : Hp) : Prop := zn σ ≤ zn t ∧ (∀ a, a < zn σ → zk t a = zk σ a ∧ zl t a = zl σ a) ∧ (∀ a, a < zn σ → a ≠ 16 → a ≠ 35 → zr t a = zr σ a) ∧ (∀ a k, a < zn σ → ¬ S a k → zi t a k = zi σ a k ∧ zj t a k = zj σ a k)
theorem GH.ofAg {S : Nat → Nat → Prop} {t : Hp} (h : Ag S σ t) : GH S σ t := ⟨Nat.le_of_eq h.1.symm, fun a _ => by rw [h.2.1, h.2.2.1]; exact ⟨rfl, rfl⟩, fun a _ _ _ => by rw [h.2.2.2.1], fun a k _ hn => h.2.2.2.2 a k hn⟩
theorem GH.ofGr {S : Nat → Nat → Prop} {t : Hp} (h : Gr σ t) : GH S σ t := ⟨h.1, fun a ha => ⟨(h.2 a ha).1, (h.2 a ha).2.1⟩, fun a ha _ _ => (h.2 a ha).2.2.1, fun a k ha _ => by rw [(h.2 a ha).2.2.2.1, (h.2 a ha).2.2.2.2]; exact ⟨rfl, rfl⟩⟩
theorem GH.ofAc {S : Nat → Nat → Prop} {t : Hp} {d : Nat} (h : Ac d σ t) (hd : d = 20 ∨ d = 1) (hs : ∀ a k, SD d a → S a k) : GH S σ t := ⟨Nat.le_of_eq h.1.symm, fun a _ => by rw [h.2.1, h.2.2.1]; exact ⟨rfl, rfl⟩, fun a _ h1 h2 => funext fun k => h.2.2.2.2 a k (by omega), fun a k _ hn => h.2.2.2.1 a k (fun q => hn (hs a k q))⟩
theorem GH.trans {S : Nat → Nat → Prop} {t u : Hp} (h1 : GH S σ t) (h2 : GH S t u) : GH S σ u := by
  obtain ⟨a1, a2, a3, a4⟩ := h1
  obtain ⟨b1, b2, b3, b4⟩ := h2
  refine ⟨Nat.le_trans a1 b1, fun a ha => ?_, fun a ha hn hn2 => ?_, fun a k ha hn => ?_⟩
  · have x := a2 a ha
    have y := b2 a (Nat.lt_of_lt_of_le ha a1)
    exact ⟨y.1.trans x.1, y.2.trans x.2⟩
  · exact (b3 a (Nat.lt_of_lt_of_le ha a1) hn hn2).trans (a3 a ha hn hn2)
  · have x := a4 a k ha hn
    have y := b4 a k (Nat.lt_of_lt_of_le ha a1) hn
    exact ⟨y.1.trans x.1, y.2.trans x.2⟩
theorem GH.mono {S T : Nat → Nat → Prop} {t : Hp} (h : GH S σ t) (hs : ∀ a k, S a k → T a k) : GH T σ t := ⟨h.1, h.2.1, h.2.2.1, fun a k ha hn => h.2.2.2 a k ha (fun q => hn (hs a k q))⟩
theorem GH.sk {S : Nat → Nat → Prop} {t : Hp} (e : GH S σ t) (h : SK σ) : SK t := by
  have z := h.1
  refine ⟨Nat.le_trans z e.1, fun a ha => by rw [(e.2.1 a (by omega)).1, (e.2.1 a (by omega)).2]; exact h.2.1 a ha, fun q hq => ?_⟩
  have d := rq_d q hq
  have l := rq_lt q hq
  rw [e.2.2.1 q.1 (by omega) d.1 d.2.1]
  exact h.2.2 q hq
theorem GH.agm {S : Nat → Nat → Prop} {t : Hp} (e : GH S σ t) : Ag (fun a k => S a k ∨ zn σ ≤ a) σ (mask2 σ t) := ⟨rfl, rfl, rfl, rfl, fun a k hn => e.2.2.2 a k (Nat.not_le.mp (fun q => hn (Or.inr q))) (fun q => hn (Or.inl q))⟩
theorem GH.lc {S : Nat → Nat → Prop} {t : Hp} (e : GH S σ t) (hs : ∀ a k, S a k → a < 156) {u j : Nat} (h : LC1 σ u B j) : LC1 t u B j :=
  h.same e.1 (fun a h1 h2 => ⟨(e.2.1 a h2).1, (e.2.1 a h2).2, e.2.2.1 a h2 (by omega) (by omega), funext fun k => (e.2.2.2 a k h2 (fun q => by have := hs a k q; omega)).1⟩)
theorem GH.cr {S : Nat → Nat → Prop} {t : Hp} {b : Nat} (e : GH S σ t) (h156 : 156 ≤ zn σ) (hs : ∀ a k, S a k → (a < b ∨ b + 15 ≤ a) ∧ a < 156) (hb : b + 15 < 156) (hb1 : b + 15 ≠ 16 ∧ b + 15 ≠ 35) (h : Cr b σ nP nF nB nT nS nL H B R) : Cr b t nP nF nB nT nS nL H B R := by
  refine ⟨h.1, h.2.1.congr (fun o ho => funext fun k => (e.2.2.2 (b + o) k (by omega) (fun q => by have := hs _ _ q; omega)).1), h.2.2.1, fun j hj => ?_⟩
  obtain ⟨u, q1, q2⟩ := h.2.2.2 j hj
  refine ⟨u, ?_, e.lc (fun a k q => (hs a k q).2) q2⟩
  rw [e.2.2.1 (b + 15) (by omega) hb1.1 hb1.2]
  exact q1
theorem GH.imf {S : Nat → Nat → Prop} {t : Hp} {b : Nat} {z1 z2 : Int32} (e : GH S σ t) (h156 : 156 ≤ zn σ) (hs : ∀ a k, S a k → (a < b ∨ b + 15 ≤ a) ∧ a < 156) (hb : b + 15 < 156) (hb1 : b + 15 ≠ 16 ∧ b + 15 ≠ 35) (h : ImF b σ z1 z2 R) : ImF b t z1 z2 R := by
  refine ⟨h.1, ?_⟩
  rcases h.2 with h1 | ⟨h1, nP, nF, nB, nT, nS, nL, B, h2⟩
  · exact Or.inl h1
  · exact Or.inr ⟨h1, nP, nF, nB, nT, nS, nL, B, e.cr h156 hs hb hb1 h2⟩
theorem GH.text {S : Nat → Nat → Prop} {t : Hp} {a : Nat} {l : List Cl} (e : GH S σ t) (hs : ∀ a k, S a k → a < 156) (h : TextOK a l σ) : TextOK a l t :=
  h.same e.1 (fun a h1 h2 => ⟨(e.2.1 a h2).1, (e.2.1 a h2).2, e.2.2.1 a h2 (by omega) (by omega), funext fun k => (e.2.2.2 a k h2 (fun q => by have := hs a k q; omega)).1⟩)
theorem GH.lh {S : Nat → Nat → Prop} {t : Hp} (e : GH S σ t) (hs : ∀ a k, S a k → a < 156) (hz : ∀ j, j < 6 → zr t 16 j = zr σ 16 j) (hL : nL ≤ 6) (h : LHouse 1 σ B nL) : LHouse 1 t B nL := fun j hj => by
  obtain ⟨u, q1, q2⟩ := h j hj
  exact ⟨u, (hz j (by omega)).trans q1, e.lc hs q2⟩
theorem A8.gh {S : Nat → Nat → Prop} {t : Hp} (h : A8 nP nF nB nT nS nL B R n σ) (e : GH S σ t) (hs : ∀ a k, S a k → (a = 0 ∨ 16 ≤ a) ∧ a < 156 ∧ a ≠ 109) (hz : ∀ j, j < 6 → zr t 16 j = zr σ 16 j) : A8 nP nF nB nT nS nL B R n t := by
  obtain ⟨hS, ⟨b1, b2, b3, b4, b5, b6⟩, h3, h4⟩ := h
  have z := hS.1
  have nz : ∀ a k, a < 156 → ¬ ((a = 0 ∨ 16 ≤ a) ∧ a ≠ 109) → zi t a k = zi σ a k := fun a k ha hn => (e.2.2.2 a k (by omega) (fun q => by have := hs a k q; omega)).1
  have S1 := e.sk hS
  have l6 : nL ≤ 6 := b4.1.2.2.2.2.2
  exact ⟨S1, ⟨b1, S1.hk1, b3.congr (fun o ho => funext fun k => nz _ _ (by omega) (by omega)), b4, e.lh (fun a k q => (hs a k q).2.1) hz l6 b5, b6⟩, (nz 109 1 (by decide) (by omega)).trans h3, h4⟩
/-- all but the row, the House 1 and the deeds, behind orders -/
theorem restO {t : Hp} (h : Rest σ) (E : GH LO σ t) (h98 : zi t 98 1 = 0) (h13 : zi t 125 13 = 0) (hf : zi t 0 15 = zi t 125 18) (h17 : zi t 0 17 = zi t 125 52) (h20 : zi t 125 20 = 0) (hRf : Rf t) (hz : ∀ j, j < 6 → zr t 16 j = zr σ 16 j) : Rest t := by
  obtain ⟨hS, ⟨nt, hT⟩, hR, hM, hW, hD, hI⟩ := h
  have z := hS.1
  have cell : ∀ a k, a < 156 → ¬ LO a k → zi t a k = zi σ a k := fun a k ha hn => (E.2.2.2 a k (by omega) hn).1
  have P : ∀ a k, (LO a k ∨ zn σ ≤ a) → fCW a = true ∧ fDk a k = true := fun a k q => by
    unfold LO at q
    have c2 : fCW a = true := by unfold fCW; simp; omega
    have c5 : fDk a k = true := by unfold fDk; simp; omega
    exact ⟨c2, c5⟩
  have hWf : CW (mask2 σ t) := hW.gg E.agm (fun a k q => (P a k q).1)
  have hDf : Dk (mask2 σ t) := hD.gg E.agm (fun a k q => (P a k q).2)
  have i59 : ∀ a k, LO a k → (a < 59 ∨ 59 + 15 ≤ a) ∧ a < 156 := fun a k q => by unfold LO at q; omega
  have i78 : ∀ a k, LO a k → (a < 78 ∨ 78 + 15 ≤ a) ∧ a < 156 := fun a k q => by unfold LO at q; omega
  refine ⟨E.sk hS, ⟨0, Nat.zero_le _, h98, h13, fun i hi => ?_⟩, hRf, ⟨?_, hf, h17, h20⟩, hWf, hDf, ?_, ?_, fun b hb j hj => ?_⟩
  · rw [cell 99 i (by decide) (by unfold LO; omega), cell 134 i (by decide) (by unfold LO; omega)]
    exact hT.2.2.2 i hi
  · rw [cell 0 16 (by decide) (by unfold LO; omega), cell 125 11 (by decide) (by unfold LO; omega)]
    exact hM.1
  · rw [cell 97 0 (by decide) (by unfold LO; omega), cell 129 0 (by decide) (by unfold LO; omega)]
    exact (E.imf z i59 (by decide) (by decide) hI.1).low rfl rfl (fun i _ => cell 128 i (by decide) (by unfold LO; omega))
  · rw [cell 97 1 (by decide) (by unfold LO; omega), cell 129 1 (by decide) (by unfold LO; omega)]
    exact (E.imf z i78 (by decide) (by decide) hI.2.1).low rfl rfl (fun i _ => cell 128 _ (by decide) (by unfold LO; omega))
  · have old : (zr t (b + 15) j = zr σ (b + 15) j) → (zr t (b + 15) j = none ∨ ∃ u, zr t (b + 15) j = some u ∧ zk t u = 7 ∧ u < zn t) := fun ez => by
      rw [ez]
      rcases hI.2.2 b hb j hj with q | ⟨u, q1, q2, q3⟩
      · exact Or.inl q
      · exact Or.inr ⟨u, q1, by rw [(E.2.1 u q3).1]; exact q2, Nat.lt_of_lt_of_le q3 E.1⟩
    refine old ?_
    rcases hb with rfl | rfl | rfl
    · exact hz j hj
    · rw [E.2.2.1 (59 + 15) (by omega) (by decide) (by decide)]
    · rw [E.2.2.1 (78 + 15) (by omega) (by decide) (by decide)]
end OGH
