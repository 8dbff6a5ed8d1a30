/-! ===== each part of the relation, and what it does not feel ===== -/
section V30
variable {σ σ1 : Hp} {S : Nat → Nat → Prop} {n nP nF nT : Nat}
theorem Ag.gi {f : Nat → Nat → Bool} (e : Ag S σ σ1) (hs : ∀ a k, S a k → f a k = true) {a k : Nat} (hf : f a k = false) : zi σ1 a k = zi σ a k ∧ zj σ1 a k = zj σ a k :=
  e.2.2.2.2 a k (fun q => by rw [hs a k q] at hf; cases hf)
theorem Ag.gr {f : Nat → Nat → Bool} (e : Ag S σ σ1) (hs : ∀ a k, S a k → f a k = true) {a : Nat} (hf : ∀ k, f a k = false) : zi σ1 a = zi σ a := funext fun k => (e.gi hs (hf k)).1
theorem Ag.gj {f : Nat → Nat → Bool} (e : Ag S σ σ1) (hs : ∀ a k, S a k → f a k = true) {a : Nat} (hf : ∀ k, f a k = false) : zj σ1 a = zj σ a := funext fun k => (e.gi hs (hf k)).2
theorem Tp.gg (h : Tp n σ) (e : Ag S σ σ1) (hs : ∀ a k, S a k → fTp a k = true) : Tp n σ1 := by
  unfold Tp at *
  rw [(e.gi hs (a := 98) (k := 1) rfl).1, (e.gi hs (a := 125) (k := 13) rfl).1, e.gr hs (a := 99) (fun k => by simp [fTp]), e.gr hs (a := 134) (fun k => by simp [fTp])]
  exact h
theorem Rf.gg (h : Rf σ) (e : Ag S σ σ1) (hs : ∀ a k, S a k → fRf a k = true) : Rf σ1 := by
  unfold Rf at *
  rw [(e.gi hs (a := 0) (k := 18) rfl).1, (e.gi hs (a := 125) (k := 1) rfl).1, e.gr hs (a := 124) (fun k => by simp [fRf]), e.gr hs (a := 126) (fun k => by simp [fRf])]
  exact h
theorem Sm.gg (h : Sm σ) (e : Ag S σ σ1) (hs : ∀ a k, S a k → fSm a k = true) : Sm σ1 := by
  unfold Sm at *
  rw [(e.gi hs (a := 0) (k := 16) rfl).1, (e.gi hs (a := 125) (k := 11) rfl).1, (e.gi hs (a := 0) (k := 15) rfl).1, (e.gi hs (a := 125) (k := 18) rfl).1, (e.gi hs (a := 0) (k := 17) rfl).1, (e.gi hs (a := 125) (k := 52) rfl).1, (e.gi hs (a := 125) (k := 20) rfl).1]
  exact h
theorem CW.gg (h : CW σ) (e : Ag S σ σ1) (hs : ∀ a k, S a k → fCW a = true) : CW σ1 := by
  have g : ∀ a, fCW a = false → zj σ1 a = zj σ a := fun a ha => e.gj (f := fun a _ => fCW a) hs (fun _ => ha)
  unfold CW at *
  rw [g 140 rfl, g 141 rfl, g 142 rfl, g 152 rfl, g 153 rfl]
  exact h
theorem Dk.gg (h : Dk σ) (e : Ag S σ σ1) (hs : ∀ a k, S a k → fDk a k = true) : Dk σ1 := by
  unfold Dk at *
  rw [(e.gi hs (a := 0) (k := 12) rfl).1, (e.gi hs (a := 39) (k := 13) rfl).1, (e.gi hs (a := 39) (k := 14) rfl).1, (e.gi hs (a := 125) (k := 56) rfl).1, (e.gi hs (a := 125) (k := 57) rfl).1, e.gr hs (a := 46) (fun k => by simp [fDk]), e.gr hs (a := 47) (fun k => by simp [fDk]), e.gr hs (a := 155) (fun k => by simp [fDk])]
  exact h
theorem Un.gg (h : Un nP nF nT n σ) (e : Ag S σ σ1) (hs : ∀ a k, S a k → fUn a k = true) : Un nP nF nT n σ1 := by
  unfold Un at *
  rw [(e.gi hs (a := 109) (k := 1) rfl).1, (e.gi hs (a := 125) (k := 8) rfl).1, e.gr hs (a := 110) (fun k => by simp [fUn]), e.gr hs (a := 131) (fun k => by simp [fUn]), e.gr hs (a := 130) (fun k => by simp [fUn]), e.gr hs (a := 127) (fun k => by simp [fUn])]
  exact h
theorem Cr.gg {b nB nS nL H : Nat} {B : Book} {R : Nat → Int32} (h : Cr b σ nP nF nB nT nS nL H B R) (e : Ag S σ σ1) (hs : ∀ a k, S a k → fCr b a = true) : Cr b σ1 nP nF nB nT nS nL H B R := by
  obtain ⟨h1, h2, h3, h4⟩ := h
  have g : ∀ a, fCr b a = false → zi σ1 a = zi σ a := fun a ha => e.gr (f := fun a _ => fCr b a) hs (fun _ => ha)
  refine ⟨h1, h2.congr (fun o ho => g _ (by unfold fCr; simp; omega)), h3, fun j hj => ?_⟩
  obtain ⟨t, q1, q2⟩ := h4 j hj
  exact ⟨t, by rw [e.2.2.2.1]; exact q1, q2.same (Nat.le_of_eq e.1.symm) (fun a ha _ => ⟨by rw [e.2.1], by rw [e.2.2.1], by rw [e.2.2.2.1], g _ (by unfold fCr; simp; omega)⟩)⟩
theorem ImF.gg {b : Nat} {z1 z2 : Int32} {R : Nat → Int32} (h : ImF b σ z1 z2 R) (e : Ag S σ σ1) (hs : ∀ a k, S a k → fCr b a = true) : ImF b σ1 z1 z2 R := by
  refine ⟨h.1, ?_⟩
  rcases h.2 with h1 | ⟨h1, nP, nF, nB, nT, nS, nL, B, h2⟩
  · exact Or.inl h1
  · exact Or.inr ⟨h1, nP, nF, nB, nT, nS, nL, B, h2.gg e hs⟩
theorem Im.gg (h : Im σ) (e : Ag S σ σ1) (hs : ∀ a k, S a k → fIm a = true) : Im σ1 := by
  have g : ∀ a, fIm a = false → zi σ1 a = zi σ a := fun a ha => e.gr (f := fun a _ => fIm a) hs (fun _ => ha)
  have q : ∀ a k, S a k → fCr 59 a = true ∧ fCr 78 a = true := fun a k s => by
    have := hs a k s
    unfold fIm at this
    simp at this
    exact ⟨this.1.1.1.1, this.1.1.1.2⟩
  unfold Im at *
  rw [g 97 rfl, g 129 rfl, g 128 rfl]
  rw [e.2.2.2.1, e.2.1, e.1]
  exact ⟨h.1.gg e (fun a k s => (q a k s).1), h.2.1.gg e (fun a k s => (q a k s).2), h.2.2⟩
/-! feed -/
def Sfeed8 (a k : Nat) : Prop := (a = 98 ∧ k = 1) ∨ a = 99
def Sfeed9 (a k : Nat) : Prop := (a = 125 ∧ (k = 13 ∨ k = 0)) ∨ a = 134
/-- four places -/
def by4 (v : Int32) : Nat → Int32
  | 0 => (v >>> (24 &&& 31)) &&& 255
  | 1 => (v >>> (16 &&& 31)) &&& 255
  | 2 => (v >>> (8 &&& 31)) &&& 255
  | _ => (v >>> (0 &&& 31)) &&& 255
theorem by4_bd (v : Int32) : ∀ i, bd (by4 v i) 255
  | 0 => bd255 _
  | 1 => bd255 _
  | 2 => bd255 _
  | _ + 3 => bd255 _
def tapeP (n : Nat) (v : Int32) (f : Nat → Int32) (i : Nat) : Int32 := if n ≤ i ∧ i < n + 4 then by4 v (i - n) else f i
theorem zi98 {a k : Nat} {v : Int32} {s : Hp} (h : a ≠ 98) : zi (zsi s a k v) 98 1 = zi s 98 1 := if_neg (fun q => h q.1.symm)
theorem feed4_8 (h : SK σ) {v : Int32} (hn : zi σ 98 1 = iN n) (h4 : n + 4 ≤ 400) :
    ∃ s, s_X6_addNumber 98 v σ = some ((), s) ∧ Ag Sfeed8 σ s ∧ zi s 98 1 = iN (n + 4) ∧ ∀ i, zi s 99 i &&& 255 = tapeP n v (fun i => zi σ 99 i &&& 255) i := by
  refine ⟨_, add8 h hn h4, ?_, ?_, fun i => ?_⟩
  · exact (((((((Ag.zsi (Or.inl ⟨rfl, rfl⟩)).trans (Ag.zsi (Or.inr rfl))).trans (Ag.zsi (Or.inl ⟨rfl, rfl⟩))).trans (Ag.zsi (Or.inr rfl))).trans (Ag.zsi (Or.inl ⟨rfl, rfl⟩))).trans (Ag.zsi (Or.inr rfl))).trans (Ag.zsi (Or.inl ⟨rfl, rfl⟩))).trans (Ag.zsi (Or.inr rfl))
  · rw [zi98 (by decide), zi_hit]
  · unfold tapeP
    by_cases c0 : i = n
    · subst c0
      rw [if_pos (by omega), show i - i = 0 by omega]
      rw [zi_miss (by omega), zi_ne (by decide), zi_miss (by omega), zi_ne (by decide), zi_miss (by omega), zi_ne (by decide), zi_hit]
      exact by8_and _ _
    by_cases c1 : i = n + 1
    · subst c1
      rw [if_pos (by omega), show n + 1 - n = 1 by omega]
      rw [zi_miss (by omega), zi_ne (by decide), zi_miss (by omega), zi_ne (by decide), zi_hit]
      exact by8_and _ _
    by_cases c2 : i = n + 2
    · subst c2
      rw [if_pos (by omega), show n + 2 - n = 2 by omega]
      rw [zi_miss (by omega), zi_ne (by decide), zi_hit]
      exact by8_and _ _
    by_cases c3 : i = n + 3
    · subst c3
      rw [if_pos (by omega), show n + 3 - n = 3 by omega, zi_hit]
      exact by8_and _ _
    rw [if_neg (by omega)]
    rw [zi_miss (by omega), zi_ne (by decide), zi_miss (by omega), zi_ne (by decide), zi_miss (by omega), zi_ne (by decide), zi_miss (by omega), zi_ne (by decide)]
theorem feed4_9 (h : SK σ) {v : Int32} (hn : zi σ 125 13 = iN n) (h4 : n + 4 ≤ 400) :
    ∃ s, s_X9_four 125 v σ = some ((), s) ∧ Ag Sfeed9 σ s ∧ zi s 125 13 = iN (n + 4) ∧ ∀ i, zi s 134 i = tapeP n v (zi σ 134) i := by
  refine ⟨_, four9 h hn h4, ?_, zi_hit, fun i => ?_⟩
  · exact (((((((Ag.zsi (Or.inr rfl)).trans (Ag.zsi (Or.inl ⟨rfl, Or.inl rfl⟩))).trans (Ag.zsi (Or.inr rfl))).trans (Ag.zsi (Or.inl ⟨rfl, Or.inl rfl⟩))).trans (Ag.zsi (Or.inr rfl))).trans (Ag.zsi (Or.inl ⟨rfl, Or.inl rfl⟩))).trans (Ag.zsi (Or.inr rfl))).trans (Ag.zsi (Or.inl ⟨rfl, Or.inl rfl⟩))
  · unfold tapeP
    rw [zi_ne (by decide)]
    by_cases c0 : i = n
    · subst c0
      rw [if_pos (by omega), show i - i = 0 by omega]
      rw [zi_miss (by omega), zi_ne (by decide), zi_miss (by omega), zi_ne (by decide), zi_miss (by omega), zi_ne (by decide), zi_hit]
      rfl
    by_cases c1 : i = n + 1
    · subst c1
      rw [if_pos (by omega), show n + 1 - n = 1 by omega]
      rw [zi_miss (by omega), zi_ne (by decide), zi_miss (by omega), zi_ne (by decide), zi_hit]
      rfl
    by_cases c2 : i = n + 2
    · subst c2
      rw [if_pos (by omega), show n + 2 - n = 2 by omega]
      rw [zi_miss (by omega), zi_ne (by decide), zi_hit]
      rfl
    by_cases c3 : i = n + 3
    · subst c3
      rw [if_pos (by omega), show n + 3 - n = 3 by omega, zi_hit]
      rfl
    rw [if_neg (by omega)]
    rw [zi_miss (by omega), zi_ne (by decide), zi_miss (by omega), zi_ne (by decide), zi_miss (by omega), zi_ne (by decide), zi_miss (by omega)]
theorem tape_bd {v : Int32} {f : Nat → Int32} (h : ∀ i, i < 400 → bd (f i) 255) : ∀ i, i < 400 → bd (tapeP n v f i) 255 := fun i hi => by
  unfold tapeP
  split
  · exact by4_bd v _
  · exact h i hi
theorem tape_eq {v : Int32} {f g : Nat → Int32} (h : ∀ i, i < 400 → f i = g i) : ∀ i, i < 400 → tapeP n v f i = tapeP n v g i := fun i hi => by
  unfold tapeP
  split
  · rfl
  · exact h i hi
/-- the tape alone has changed -/
theorem Rel.tape (hr : Rel σ) (e : Ag (fun a k => Sfeed8 a k ∨ Sfeed9 a k) σ σ1) (hT : Tp n σ1) : Rel σ1 := by
  obtain ⟨⟨hS, -, hR, hM, hW, hD, hI⟩, nP, nF, nB, nT, nS, nL, B, m, hC, hU⟩ := hr
  have c : ∀ a k, Sfeed8 a k ∨ Sfeed9 a k → (a = 98 ∧ k = 1) ∨ a = 99 ∨ (a = 125 ∧ k = 13) ∨ (a = 125 ∧ k = 0) ∨ a = 134 := by
    rintro a k ((⟨rfl, rfl⟩ | rfl) | (⟨rfl, rfl | rfl⟩ | rfl))
    · exact Or.inl ⟨rfl, rfl⟩
    · exact Or.inr (Or.inl rfl)
    · exact Or.inr (Or.inr (Or.inl ⟨rfl, rfl⟩))
    · exact Or.inr (Or.inr (Or.inr (Or.inl ⟨rfl, rfl⟩)))
    · exact Or.inr (Or.inr (Or.inr (Or.inr rfl)))
  have r127 : zi σ1 127 = zi σ 127 := funext fun k => (e.2.2.2.2 127 k (fun q => by have := c _ _ q; omega)).1
  refine ⟨⟨hS.ag e, ⟨n, hT⟩, hR.gg e ?_, hM.gg e ?_, hW.gg e ?_, hD.gg e ?_, hI.gg e ?_⟩, nP, nF, nB, nT, nS, nL, B, m, ?_, hU.gg e ?_⟩
  · intro a k q; rcases c a k q with ⟨rfl, rfl⟩ | rfl | ⟨rfl, rfl⟩ | ⟨rfl, rfl⟩ | rfl <;> simp [fRf]
  · intro a k q; rcases c a k q with ⟨rfl, rfl⟩ | rfl | ⟨rfl, rfl⟩ | ⟨rfl, rfl⟩ | rfl <;> simp [fSm]
  · intro a k q; rcases c a k q with ⟨rfl, rfl⟩ | rfl | ⟨rfl, rfl⟩ | ⟨rfl, rfl⟩ | rfl <;> simp [fCW]
  · intro a k q; rcases c a k q with ⟨rfl, rfl⟩ | rfl | ⟨rfl, rfl⟩ | ⟨rfl, rfl⟩ | rfl <;> simp [fDk]
  · intro a k q; rcases c a k q with ⟨rfl, rfl⟩ | rfl | ⟨rfl, rfl⟩ | ⟨rfl, rfl⟩ | rfl <;> simp [fIm, fCr]
  · rw [r127]
    exact hC.gg e (by intro a k q; rcases c a k q with ⟨rfl, rfl⟩ | rfl | ⟨rfl, rfl⟩ | ⟨rfl, rfl⟩ | rfl <;> simp [fCr])
  · intro a k q; rcases c a k q with ⟨rfl, rfl⟩ | rfl | ⟨rfl, rfl⟩ | ⟨rfl, rfl⟩ | rfl <;> simp [fUn]
theorem b_feed {p1 p2 p3 p4 p5 : Int32} (hr : Rel σ) : Both (s_X8_feed 0 p1 p2 p3 p4 p5) (s_X9_feed 125 p1 p2 p3 p4 p5) σ := by
  obtain ⟨⟨hS, ⟨n, hT⟩, hR, hM, hW, hD, hI⟩, hC⟩ := id hr
  obtain ⟨hn, t1, t2, t3⟩ := hT
  have r5 := q_r0_5 hS
  have k98 := q_ck98 hS
  by_cases c : n + 20 ≤ 400
  · have pl := place8 (m := 20) hS t1 c
    have pl : s_X6_hasPlaceFor 98 20 σ = _ := pl
    obtain ⟨a1, u1, v1, w1, x1⟩ := feed4_8 hS (v := p1) t1 (by omega)
    have S1 := hS.ag v1
    obtain ⟨a2, u2, v2, w2, x2⟩ := feed4_8 S1 (v := p2) w1 (by omega)
    have S2 := S1.ag v2
    obtain ⟨a3, u3, v3, w3, x3⟩ := feed4_8 S2 (v := p3) w2 (by omega)
    have S3 := S2.ag v3
    obtain ⟨a4, u4, v4, w4, x4⟩ := feed4_8 S3 (v := p4) w3 (by omega)
    have S4 := S3.ag v4
    obtain ⟨a5, u5, v5, w5, x5⟩ := feed4_8 S4 (v := p5) w4 (by omega)
    have S5 := S4.ag v5
    have E8 : Ag Sfeed8 σ a5 := (((v1.trans v2).trans v3).trans v4).trans v5
    have no9 : ∀ {a k : Nat}, (a = 125 ∨ a = 134) → ¬ Sfeed8 a k := by
      intro a k h q
      unfold Sfeed8 at q
      omega
    have b13 : zi a5 125 13 = iN n := ((E8.2.2.2.2 125 13 (no9 (Or.inl rfl))).1).trans t2
    have A0 : Ag Sfeed9 a5 (zsi a5 125 0 0) := Ag.zsi (Or.inl ⟨rfl, Or.inr rfl⟩)
    have T0 := S5.ag A0
    have wr := q_w125 (k := 0) (v := 0) S5
    obtain ⟨c1, d1, e1, f1, g1⟩ := feed4_9 T0 (n := n) (v := p1) ((zi_miss (by decide)).trans b13) (by omega)
    have T1 := T0.ag e1
    obtain ⟨c2, d2, e2, f2, g2⟩ := feed4_9 T1 (v := p2) f1 (by omega)
    have T2 := T1.ag e2
    obtain ⟨c3, d3, e3, f3, g3⟩ := feed4_9 T2 (v := p3) f2 (by omega)
    have T3 := T2.ag e3
    obtain ⟨c4, d4, e4, f4, g4⟩ := feed4_9 T3 (v := p4) f3 (by omega)
    have T4 := T3.ag e4
    obtain ⟨c5, d5, e5, f5, g5⟩ := feed4_9 T4 (v := p5) f4 (by omega)
    have T5 := T4.ag e5
    have E9 : Ag Sfeed9 a5 c5 := ((((A0.trans e1).trans e2).trans e3).trans e4).trans e5
    have E := (E8.mono (T := fun a k => Sfeed8 a k ∨ Sfeed9 a k) (fun _ _ q => Or.inl q)).trans (E9.mono (fun _ _ q => Or.inr q))
    have no8 : ∀ {a k : Nat}, (a = 98 ∨ a = 99) → ¬ Sfeed9 a k := by
      intro a k h q
      unfold Sfeed9 at q
      omega
    have tp : Tp (n + 20) c5 := by
      refine ⟨c, ?_, f5, ?_⟩
      · rw [(E9.2.2.2.2 98 1 (no8 (Or.inl rfl))).1]
        exact w5
      · have k0 : ∀ i, i < 400 → zi σ 99 i &&& 255 = zi (zsi a5 125 0 0) 134 i := fun i hi => by
          rw [zi_ne (by decide), (E8.2.2.2.2 134 i (no9 (Or.inr rfl))).1]
          exact (t3 i hi).1
        have k1 : ∀ i, i < 400 → zi a1 99 i &&& 255 = zi c1 134 i := fun i hi => by rw [x1, g1]; exact tape_eq k0 i hi
        have k2 : ∀ i, i < 400 → zi a2 99 i &&& 255 = zi c2 134 i := fun i hi => by rw [x2, g2]; exact tape_eq k1 i hi
        have k3 : ∀ i, i < 400 → zi a3 99 i &&& 255 = zi c3 134 i := fun i hi => by rw [x3, g3]; exact tape_eq k2 i hi
        have k4 : ∀ i, i < 400 → zi a4 99 i &&& 255 = zi c4 134 i := fun i hi => by rw [x4, g4]; exact tape_eq k3 i hi
        have k5 : ∀ i, i < 400 → zi a5 99 i &&& 255 = zi c5 134 i := fun i hi => by rw [x5, g5]; exact tape_eq k4 i hi
        have l0 : ∀ i, i < 400 → bd (zi (zsi a5 125 0 0) 134 i) 255 := fun i hi => by
          rw [zi_ne (by decide), (E8.2.2.2.2 134 i (no9 (Or.inr rfl))).1]
          exact (t3 i hi).2
        have l1 : ∀ i, i < 400 → bd (zi c1 134 i) 255 := fun i hi => by rw [g1]; exact tape_bd l0 i hi
        have l2 : ∀ i, i < 400 → bd (zi c2 134 i) 255 := fun i hi => by rw [g2]; exact tape_bd l1 i hi
        have l3 : ∀ i, i < 400 → bd (zi c3 134 i) 255 := fun i hi => by rw [g3]; exact tape_bd l2 i hi
        have l4 : ∀ i, i < 400 → bd (zi c4 134 i) 255 := fun i hi => by rw [g4]; exact tape_bd l3 i hi
        have l5 : ∀ i, i < 400 → bd (zi c5 134 i) 255 := fun i hi => by rw [g5]; exact tape_bd l4 i hi
        intro i hi
        refine ⟨?_, l5 i hi⟩
        rw [← k5 i hi, (E9.2.2.2.2 99 i (no8 (Or.inr rfl))).1]
    refine Both.mk (r := iN (n + 20)) (σ1 := a5) (σ2 := c5) ?_ ?_ (hr.tape E tp) (by rw [E8.2.1]; exact (hS.2.1 125 (by decide)).1)
    · have q1 := q_r0_5 S1
      have q2 := q_r0_5 S2
      have q3 := q_r0_5 S3
      have q4 := q_r0_5 S4
      have q5 := q_r0_5 S5
      have p1 := q_ck98 S1
      have p2 := q_ck98 S2
      have p3 := q_ck98 S3
      have p4 := q_ck98 S4
      have i1 := q_i98 (k := 1) S5
      rw [w5] at i1
      simp only [s_X8_feed, r5, k98, pl, u1, q1, p1, u2, q2, p2, u3, q3, p3, u4, q4, p4, u5, q5, i1, z10', if_true, if_false, bind_ok, Option.bind_some, cb_some]
    · have q0 := q_i125 (k := 13) T0
      rw [zi_miss (by decide), b13] at q0
      have a20 : iN n + 20 = iN (n + 20) := iN_add n 20
      have le : iN (n + 20) ≤ 400 := (iN_le (b := 400) (by omega) (by decide)).mpr c
      have q5 := q_i125 (k := 13) T5
      rw [f5] at q5
      have p0 := q_ck125 T0
      have p1 := q_ck125 T1
      have p2 := q_ck125 T2
      have p3 := q_ck125 T3
      have p4 := q_ck125 T4
      simp only [s_X9_feed, wr, q0, a20, le, p0, d1, p1, d2, p2, d3, p3, d4, p4, d5, q5, z10', if_true, if_false, bind_ok, Option.bind_some, cb_some]
  · have pl := place8_f (m := 20) hS t1 c (by omega)
    have pl : s_X6_hasPlaceFor 98 20 σ = _ := pl
    have A0 : Ag (fun a k => Sfeed8 a k ∨ Sfeed9 a k) σ (zsi σ 125 0 0) := Ag.zsi (Or.inr (Or.inl ⟨rfl, Or.inr rfl⟩))
    have wr := q_w125 (k := 0) (v := 0) hS
    refine Both.mk (r := -1) (σ1 := σ) (σ2 := zsi σ 125 0 0) ?_ ?_ (hr.tape A0 (n := n) ?_) (hS.2.1 125 (by decide)).1
    · simp only [s_X8_feed, r5, k98, pl, z10', if_true, if_false, bind_ok, Option.bind_some, cb_some]
    · have q0 := q_i125 (k := 13) (hS.ag A0)
      rw [zi_miss (by decide), t2] at q0
      have a20 : iN n + 20 = iN (n + 20) := iN_add n 20
      have le : ¬ iN (n + 20) ≤ 400 := fun q => c ((iN_le (b := 400) (by omega) (by decide)).mp q)
      simp only [s_X9_feed, wr, q0, a20, le, z10', if_true, if_false, bind_ok, Option.bind_some, cb_some]
    · refine ⟨hn, ?_, ?_, fun i hi => ?_⟩
      · rw [zi_ne (by decide)]; exact t1
      · rw [zi_miss (by decide)]; exact t2
      · rw [zi_ne (by decide), zi_ne (by decide)]; exact t3 i hi
end V30
