/-! ===== what only reads leaves the relation; barred, strides ===== -/
section V14
variable {σ : Hp}
def free (a k : Nat) : Bool := fTp a k && fRf a k && fDk a k && fSm a k && fUn a k && fCr 1 a && fIm a && fCW a
theorem Ag.i {S : Nat → Nat → Prop} {σ1 : Hp} (h : Ag S σ σ1) (hs : ∀ a k, S a k → free a k = true) {a k : Nat} (hf : free a k = false) : zi σ1 a k = zi σ a k ∧ zj σ1 a k = zj σ a k :=
  h.2.2.2.2 a k (fun q => by rw [hs a k q] at hf; cases hf)
theorem Ag.r {S : Nat → Nat → Prop} {σ1 : Hp} (h : Ag S σ σ1) (hs : ∀ a k, S a k → free a k = true) {a : Nat} (hf : ∀ k, free a k = false) : zi σ1 a = zi σ a := funext fun k => (h.i hs (hf k)).1
theorem Ag.rj {S : Nat → Nat → Prop} {σ1 : Hp} (h : Ag S σ σ1) (hs : ∀ a k, S a k → free a k = true) {a : Nat} (hf : ∀ k, free a k = false) : zj σ1 a = zj σ a := funext fun k => (h.i hs (hf k)).2
theorem fr_house {b o k : Nat} (hb : b = 1 ∨ b = 59 ∨ b = 78) (ho : o < 15) : free (b + o) k = false := by
  have h : fCr 1 (b + o) = false ∨ fCr 59 (b + o) = false ∨ fCr 78 (b + o) = false := by
    unfold fCr
    rcases hb with rfl | rfl | rfl
    · exact Or.inl (by simp; omega)
    · exact Or.inr (Or.inl (by simp; omega))
    · exact Or.inr (Or.inr (by simp; omega))
  unfold free fIm
  rcases h with h | h | h <;> simp [h]
theorem fr_text {a k : Nat} (h : 156 ≤ a) : free a k = false := by
  have h1 : fCr 1 a = false := by
    unfold fCr
    simp
    omega
  unfold free
  simp [h1]
theorem Cr.ag {S : Nat → Nat → Prop} {σ1 : Hp} {b nP nF nB nT nS nL H : Nat} {B : Book} {R : Nat → Int32} (h : Cr b σ nP nF nB nT nS nL H B R) (e : Ag S σ σ1) (hs : ∀ a k, S a k → free a k = true) (hb : b = 1 ∨ b = 59 ∨ b = 78) : Cr b σ1 nP nF nB nT nS nL H B R := by
  obtain ⟨h1, h2, h3, h4⟩ := h
  refine ⟨h1, h2.congr (fun o ho => e.r hs (fun k => fr_house hb ho)), h3, fun j hj => ?_⟩
  obtain ⟨t, q1, q2⟩ := h4 j hj
  exact ⟨t, by rw [e.2.2.2.1]; exact q1, q2.same (Nat.le_of_eq e.1.symm) (fun a ha _ => ⟨by rw [e.2.1], by rw [e.2.2.1], by rw [e.2.2.2.1], e.r hs (fun k => fr_text ha)⟩)⟩
theorem ImF.ag {S : Nat → Nat → Prop} {σ1 : Hp} {b : Nat} {z1 z2 : Int32} {R : Nat → Int32} (h : ImF b σ z1 z2 R) (e : Ag S σ σ1) (hs : ∀ a k, S a k → free a k = true) (hb : b = 1 ∨ b = 59 ∨ b = 78) : ImF b σ1 z1 z2 R := by
  refine ⟨h.1, ?_⟩
  rcases h.2 with h1 | ⟨h1, nP, nF, nB, nT, nS, nL, B, h2⟩
  · exact Or.inl h1
  · exact Or.inr ⟨h1, nP, nF, nB, nT, nS, nL, B, h2.ag e hs hb⟩
theorem Rel.ag {S : Nat → Nat → Prop} {σ1 : Hp} (hr : Rel σ) (e : Ag S σ σ1) (hs : ∀ a k, S a k → free a k = true) : Rel σ1 := by
  obtain ⟨⟨hS, ⟨nt, hT⟩, hR, hM, hW, hD, hI⟩, nP, nF, nB, nT, nS, nL, B, n, hC, hU⟩ := hr
  have r127 : zi σ1 127 = zi σ 127 := e.r hs (fun k => by simp [free, fUn])
  refine ⟨⟨hS.ag e, ⟨nt, ?_⟩, ?_, ?_, ?_, ?_, ?_⟩, nP, nF, nB, nT, nS, nL, B, n, ?_, ?_⟩
  · unfold Tp at *
    rw [(e.i hs (a := 98) (k := 1) rfl).1, (e.i hs (a := 125) (k := 13) rfl).1, e.r hs (a := 99) (fun k => by simp [free, fTp]), e.r hs (a := 134) (fun k => by simp [free, fTp])]
    exact hT
  · unfold Rf at *
    rw [(e.i hs (a := 0) (k := 18) rfl).1, (e.i hs (a := 125) (k := 1) rfl).1, e.r hs (a := 124) (fun k => by simp [free, fRf]), e.r hs (a := 126) (fun k => by simp [free, fRf])]
    exact hR
  · unfold Sm at *
    rw [(e.i hs (a := 0) (k := 16) rfl).1, (e.i hs (a := 125) (k := 11) rfl).1, (e.i hs (a := 0) (k := 15) rfl).1, (e.i hs (a := 125) (k := 18) rfl).1, (e.i hs (a := 0) (k := 17) rfl).1, (e.i hs (a := 125) (k := 52) rfl).1, (e.i hs (a := 125) (k := 20) rfl).1]
    exact hM
  · unfold CW at *
    rw [e.rj hs (a := 140) (fun k => by simp [free, fCW]), e.rj hs (a := 141) (fun k => by simp [free, fCW]), e.rj hs (a := 142) (fun k => by simp [free, fCW]), e.rj hs (a := 152) (fun k => by simp [free, fCW]), e.rj hs (a := 153) (fun k => by simp [free, fCW])]
    exact hW
  · unfold Dk at *
    rw [(e.i hs (a := 0) (k := 12) rfl).1, (e.i hs (a := 39) (k := 13) rfl).1, (e.i hs (a := 39) (k := 14) rfl).1, (e.i hs (a := 125) (k := 56) rfl).1, (e.i hs (a := 125) (k := 57) rfl).1, e.r hs (a := 46) (fun k => by simp [free, fDk]), e.r hs (a := 47) (fun k => by simp [free, fDk]), e.r hs (a := 155) (fun k => by simp [free, fDk])]
    exact hD
  · unfold Im at *
    rw [(e.i hs (a := 97) (k := 0) rfl).1, (e.i hs (a := 97) (k := 1) rfl).1, (e.i hs (a := 129) (k := 0) rfl).1, (e.i hs (a := 129) (k := 1) rfl).1, e.r hs (a := 128) (fun k => by simp [free, fIm])]
    rw [e.2.2.2.1, e.2.1, e.1]
    exact ⟨hI.1.ag e hs (by decide), hI.2.1.ag e hs (by decide), hI.2.2⟩
  · rw [r127]
    exact hC.ag e hs (by decide)
  · unfold Un at *
    rw [(e.i hs (a := 109) (k := 1) rfl).1, (e.i hs (a := 125) (k := 8) rfl).1, e.r hs (a := 110) (fun k => by simp [free, fUn]), e.r hs (a := 131) (fun k => by simp [free, fUn]), e.r hs (a := 130) (fun k => by simp [free, fUn]), r127]
    exact hU
theorem fr_S8 : ∀ a k, S8 a k → free a k = true := by
  intro a k h
  rcases h with rfl | rfl | rfl | rfl <;> simp [free, fTp, fRf, fDk, fSm, fUn, fCr, fIm, fCW]
/-- the class's paper too -/
def S8p (a k : Nat) : Prop := S8 a k ∨ a = 107 ∨ a = 108 ∨ a = 114 ∨ (116 ≤ a ∧ a ≤ 123)
theorem fr_S8p : ∀ a k, S8p a k → free a k = true := by
  intro a k h
  rcases h with h | h
  · exact fr_S8 a k h
  · have h2 : a = 107 ∨ a = 108 ∨ a = 114 ∨ a = 116 ∨ a = 117 ∨ a = 118 ∨ a = 119 ∨ a = 120 ∨ a = 121 ∨ a = 122 ∨ a = 123 := by omega
    rcases h2 with rfl | rfl | rfl | rfl | rfl | rfl | rfl | rfl | rfl | rfl | rfl <;> simp [free, fTp, fRf, fDk, fSm, fUn, fCr, fIm, fCW]
theorem Ag.p8 {σ1 : Hp} (h : Ag S8 σ σ1) : Ag S8p σ σ1 := h.mono (fun _ _ q => Or.inl q)
theorem fr_S9 : ∀ a k, S9 a k → free a k = true := by
  intro a k h
  rcases h with h | ⟨rfl, h⟩
  · have h2 : a = 143 ∨ a = 144 ∨ a = 145 := by omega
    rcases h2 with rfl | rfl | rfl <;> simp [free, fTp, fRf, fDk, fSm, fUn, fCr, fIm, fCW]
  · rcases h with rfl | rfl | rfl | rfl | rfl | rfl <;> rfl
theorem M9.ag8 {nP nF nB nT nS nL H : Nat} {B : Book} {R : Nat → Int32} {σ1 : Hp} (h : M9 nP nF nB nT nS nL H B R σ) (e : Ag S8 σ σ1) : M9 nP nF nB nT nS nL H B R σ1 :=
  ⟨h.1.ag e, (e.r fr_S8 (fun k => by simp [free, fUn])).trans h.2.1, h.2.2.1, h.2.2.2.1, ((e.i fr_S8 rfl).1).trans h.2.2.2.2⟩
theorem M9.ag8p {nP nF nB nT nS nL H : Nat} {B : Book} {R : Nat → Int32} {σ1 : Hp} (h : M9 nP nF nB nT nS nL H B R σ) (e : Ag S8p σ σ1) : M9 nP nF nB nT nS nL H B R σ1 :=
  ⟨h.1.ag e, (e.r fr_S8p (fun k => by simp [free, fUn])).trans h.2.1, h.2.2.1, h.2.2.2.1, ((e.i fr_S8p rfl).1).trans h.2.2.2.2⟩
theorem M8.agp {nP nF nB nT nS nL H : Nat} {B : Book} {R : Nat → Int32} {σ1 : Hp} (h : M8 1 nP nF nB nT nS nL H B R σ) (e : Ag S8p σ σ1) : M8 1 nP nF nB nT nS nL H B R σ1 := by
  obtain ⟨h1, h2, h3, h4, h5, h6⟩ := h
  refine ⟨h1, h2.ag e, h3.congr (fun o ho => e.r fr_S8p (fun k => fr_house (Or.inl rfl) ho)), h4, fun j hj => ?_, h6⟩
  obtain ⟨t, q1, q2⟩ := h5 j hj
  exact ⟨t, by rw [e.2.2.2.1]; exact q1, q2.same (Nat.le_of_eq e.1.symm) (fun a ha _ => ⟨by rw [e.2.1], by rw [e.2.2.1], by rw [e.2.2.2.1], e.r fr_S8p (fun k => fr_text ha)⟩)⟩
/-- a call that only asks -/
theorem Rel.both {α : Type} {f g : Hp → Option (α × Hp)} (hr : Rel σ) (h : ∀ nP nF nB nT nS nL B, M8 1 nP nF nB nT nS nL 999 B (zi σ 127) σ → M9 nP nF nB nT nS nL 999 B (zi σ 127) σ → ∃ v, (∃ σ1, f σ = some (v, σ1) ∧ Ag S8 σ σ1) ∧ (∀ σ1, M9 nP nF nB nT nS nL 999 B (zi σ 127) σ1 → ∃ σ2, g σ1 = some (v, σ2) ∧ Ag S9 σ1 σ2)) : Both f g σ := by
  obtain ⟨⟨hS, hT, hR, hM, hW, hD, hI⟩, nP, nF, nB, nT, nS, nL, B, n, hC, hU⟩ := id hr
  have m8 : M8 1 nP nF nB nT nS nL 999 B (zi σ 127) σ := ⟨Or.inl rfl, hS.hk1, hC.2.1, hC.1, hC.2.2.2, hC.2.2.1⟩
  have m9 : M9 nP nF nB nT nS nL 999 B (zi σ 127) σ := ⟨hS, rfl, hC.1, hC.2.2.1, hM.2.2.2⟩
  obtain ⟨v, ⟨σ1, h1, h2⟩, h3⟩ := h nP nF nB nT nS nL B m8 m9
  obtain ⟨σ2, h4, h5⟩ := h3 σ1 (m9.ag8 h2)
  exact Both.mk h1 h4 ((hr.ag h2 fr_S8).ag h5 fr_S9) (by rw [h2.2.1]; exact (hS.2.1 125 (by decide)).1)
/-- a call that only asks sets 'thrown' first -/
theorem M9.thrown {nP nF nB nT nS nL H : Nat} {B : Book} {R : Nat → Int32} (h : M9 nP nF nB nT nS nL H B R σ) : Ag S9 σ (zsi σ 125 0 0) ∧ M9 nP nF nB nT nS nL H B R (zsi σ 125 0 0) :=
  ⟨Ag.zsi (Or.inr ⟨rfl, Or.inl rfl⟩), h.ag (Ag.zsi (Or.inr ⟨rfl, Or.inl rfl⟩))⟩
section ON
variable {b nP nF nB nT nS nL H hr : Nat} {B : Book} {R : Nat → Int32}
/-- is one barred from a perch -/
def barP (B : Book) (R : Nat → Int32) (f p hr : Nat) : Bool := (askP B (lawR R) 2 (ev (R (30 + p)) (iN (hr % 24)) (iN hr) (-1) (iN f) (R (150 + f)) (iN p) (R (40 + p)) (R 9))).isSome
theorem bar8 (h : M8 b nP nF nB nT nS nL H B R σ) (hr2 : hr < 2147483648) {f p : Nat} (hf : f < nF) (hp : p < nP) :
    ∃ σ1, s_X1_isBarred b (iN f) (iN p) (iN hr) σ = some (bI (barP B R f p hr), σ1) ∧ Ag S8 σ σ1 := by
  have h2 := h.2.1
  have hp10 := h.p10
  have hf4 := h.f4
  have k0 := h_ck0 h2
  have kk := h_ck1 h2
  rcases lif8 h with ⟨g1, g2⟩ | ⟨j, t, g1, g2, g3, g4, g5⟩
  · refine ⟨σ, ?_, Ag.refl⟩
    have e1 : barP B R f p hr = false := by
      unfold barP
      rw [g1]
      rfl
    simp only [s_X1_isBarred, k0, g2, e1, bI_f, if_true, bind_ok, Option.bind_some, cb_some]
  · have r12 := h_r0_12 h2
    have r10 := h_r0_10 h2
    have r0 := h_r0_0 h2
    have l2 := ht_2 h2
    rw [show zi σ (b + 14) 2 = R 9 from h.2.2.1.g9] at l2
    have k16 := h_ck16 h2
    have isf := fk8_t h2 (h.2.2.1.g1.trans h.2.2.2.1.2.1.2.1) hf4 hf
    have o1 := one_t h2 h.c3 hp10 hp
    have ro := roomOf8 h hp
    obtain ⟨σ1, m1, m2, m3⟩ := tlw8 h.rk (rm := R (30 + p)) (md := R 9) hr2
    have A1 : Ag S8 σ σ1 := m2.mono (fun a k q => q ▸ (h.1.s17 k).1)
    have h1 := h.ag A1
    have a4 : Ag S8 σ (zsi σ1 (b + 17) 4 (iN f)) := A1.trans (Ag.zsi (h.1.s17 4).1)
    have a5 : Ag S8 σ (zsi (zsi σ1 (b + 17) 4 (iN f)) (b + 17) 5 (R (150 + f))) := a4.trans (Ag.zsi (h.1.s17 5).1)
    have a6 : Ag S8 σ (zsi (zsi (zsi σ1 (b + 17) 4 (iN f)) (b + 17) 5 (R (150 + f))) (b + 17) 6 (iN p)) := a5.trans (Ag.zsi (h.1.s17 6).1)
    have a7 : Ag S8 σ (zsi (zsi (zsi (zsi σ1 (b + 17) 4 (iN f)) (b + 17) 5 (R (150 + f))) (b + 17) 6 (iN p)) (b + 17) 7 (R (40 + p))) := a6.trans (Ag.zsi (h.1.s17 7).1)
    have h4 := h.ag a4
    have h5 := h.ag a5
    have h6 := h.ag a6
    have h7 := h.ag a7
    have s4 := rk_st4 h1.rk (v := iN f)
    have s5 := rk_st5 h4.rk (v := R (150 + f))
    have s6 := rk_st6 h5.rk (v := iN p)
    have s7 := rk_st7 h6.rk (v := R (40 + p))
    have x1 := h_r0_12 h1.2.1
    have x1b := h_r16_0 h1.2.1
    have x4 := h_r0_12 h4.2.1
    have x4b := h_r16_0 h4.2.1
    have x4c := h_r0_2 h4.2.1
    have x4d := h_ld6 (n := f) (by omega) h4.2.1
    rw [h4.2.2.1.legs (by omega)] at x4d
    have x5 := h_r0_12 h5.2.1
    have x5b := h_r16_0 h5.2.1
    have x6 := h_r0_12 h6.2.1
    have x6b := h_r16_0 h6.2.1
    have x6c := h_r0_0 h6.2.1
    have x6d := h_ck1 h6.2.1
    have hi := highOf8 h6 hp
    have x7 := h_r0_12 h7.2.1
    have kt : ck 7 (zsi (zsi (zsi (zsi σ1 (b + 17) 4 (iN f)) (b + 17) 5 (R (150 + f))) (b + 17) 6 (iN p)) (b + 17) 7 (R (40 + p))) t = some () := ck_t (by rw [a7.2.1]; exact g5)
    have hw : ∀ k, k < 18 → zi (zsi (zsi (zsi (zsi σ1 (b + 17) 4 (iN f)) (b + 17) 5 (R (150 + f))) (b + 17) 6 (iN p)) (b + 17) 7 (R (40 + p))) (b + 17) k = ev (R (30 + p)) (iN (hr % 24)) (iN hr) (-1) (iN f) (R (150 + f)) (iN p) (R (40 + p)) (R 9) k := fun k hk => by
      rw [zi_zsi, zi_zsi, zi_zsi, zi_zsi, m3 k hk]
      simp only [true_and]
      rw [ev_4, ev_5, ev_6, ev_7]
    obtain ⟨σ2, u1, u2, u3⟩ := ask8 h7 g1 (hd := 2) (by decide) ev_hi hw (by rw [a7.2.2.2.1]; exact g3)
    have u1 : s_X7_told t 302 (some (b + 16)) (zsi (zsi (zsi (zsi σ1 (b + 17) 4 (iN f)) (b + 17) 5 (R (150 + f))) (b + 17) 6 (iN p)) (b + 17) 7 (R (40 + p))) = _ := u1
    refine ⟨σ2, ?_, a7.trans u2⟩
    unfold barP
    rw [g2]
    cases hv : askP B (some j) 2 (ev (R (30 + p)) (iN (hr % 24)) (iN hr) (-1) (iN f) (R (150 + f)) (iN p) (R (40 + p)) (R 9)) with
    | none =>
      rw [hv] at u1
      simp only [s_X1_isBarred, k0, kk, g4, isf, r0, o1, r12, r10, l2, ro, k16, m1, x1, x1b, s4, x4, x4b, x4c, x4d, s5, x5, x5b, s6, x6, x6b, x6c, x6d, hi, s7, x7, kt, u1, reduceCtorEq, lg_cmp_eq, z10', Option.getD_none, Option.isSome_none, bI_f, if_true, if_false, bind_ok, Option.bind_some, cb_some]
    | some v =>
      rw [hv] at u1
      have hs := sm_ne (u3 v hv)
      simp only [s_X1_isBarred, k0, kk, g4, isf, r0, o1, r12, r10, l2, ro, k16, m1, x1, x1b, s4, x4, x4b, x4c, x4d, s5, x5, x5b, s6, x6, x6b, x6c, x6d, hi, s7, x7, kt, u1, reduceCtorEq, lg_cmp_eq, z10', hs, Option.getD_some, Option.isSome_some, bI_t, if_false, bind_ok, Option.bind_some, cb_some]
/-- do strides and doors lead one from a perch to another: bars aside -/
def ldP (R : Nat → Int32) (f p q : Nat) : Bool := decide (R (50 + (p * 10 + q)) ≠ 0) && decide (R (50 + (p * 10 + q)) ≤ R (150 + f)) && (decide (R (30 + p) = R (30 + q)) || hbP (R (11 + (R (30 + p)).toNatClampNeg)) (R (30 + q)))
theorem leads8 (h : M8 b nP nF nB nT nS nL H B R σ) {f p q : Nat} (hf : f < nF) (hp : p < nP) (hq : q < nP) : s_X1_leads b (iN f) (iN p) (iN q) σ = some (bI (ldP R f p q), σ) := by
  have h2 := h.2.1
  have hp10 := h.p10
  have hf4 := h.f4
  have k0 := h_ck0 h2
  have kk := h_ck1 h2
  have r0 := h_r0_0 h2
  have r2 := h_r0_2 h2
  have bt := between_t h2 h.c3 hp10 hp hq
  rw [h.2.2.1.link (by omega)] at bt
  have isf := fk8_t h2 (h.2.2.1.g1.trans h.2.2.2.1.2.1.2.1) hf4 hf
  have l6 := h_ld6 (n := f) (by omega) h2
  rw [h.2.2.1.legs (by omega)] at l6
  have ro := roomOf8 h hp
  have rq := roomOf8 h hq
  obtain ⟨a, ha, ea⟩ := room_n h.2.2.2.1 (p := p) (by omega)
  obtain ⟨c, hc, ec⟩ := room_n h.2.2.2.1 (p := q) (by omega)
  have op := open8 h ha hc
  unfold ldP
  rw [ea] at ro
  rw [ec] at rq
  rw [ea, ec, iN_nat (by omega)]
  by_cases c1 : R (50 + (p * 10 + q)) = 0
  · simp only [s_X1_leads, r0, kk, bt, c1, ne_eq, not_true_eq_false, decide_false, Bool.false_and, bI_f, if_true, bind_ok, Option.bind_some, cb_some]
  · by_cases c2 : R (50 + (p * 10 + q)) ≤ R (150 + f)
    · by_cases c3 : iN a = iN c
      · simp only [s_X1_leads, r0, r2, k0, kk, bt, isf, l6, ro, rq, c1, c2, c3, ne_eq, not_false_eq_true, decide_true, Bool.true_and, Bool.true_or, z10', bI_t, if_true, if_false, bind_ok, Option.bind_some, cb_some]
      · cases c4 : hbP (R (11 + a)) (iN c) with
        | false =>
          rw [c4] at op
          simp only [s_X1_leads, r0, r2, k0, kk, bt, isf, l6, ro, rq, c1, c2, c3, op, ne_eq, not_false_eq_true, decide_true, decide_false, Bool.true_and, Bool.false_or, z10', bI_f, if_true, if_false, bind_ok, Option.bind_some, cb_some]
        | true =>
          rw [c4] at op
          simp only [s_X1_leads, r0, r2, k0, kk, bt, isf, l6, ro, rq, c1, c2, c3, op, ne_eq, not_false_eq_true, decide_true, decide_false, Bool.true_and, Bool.false_or, z10', bI_t, if_true, if_false, bind_ok, Option.bind_some, cb_some]
    · simp only [s_X1_leads, r0, r2, k0, kk, bt, isf, l6, c1, c2, ne_eq, not_false_eq_true, decide_true, decide_false, Bool.true_and, Bool.and_false, Bool.false_and, z10', bI_f, if_false, bind_ok, Option.bind_some, cb_some]
theorem no_of_ge {p c : Nat} (h : c ≤ p) (hp : p < 2147483648) : no (iN p) c := Or.inr ((iN_le (by omega) hp).mpr h)
theorem leads8_f1 (h : M8 b nP nF nB nT nS nL H B R σ) {f : Int32} {p : Nat} {q : Int32} (hp : nP ≤ p) (hp2 : p < 2147483648) : s_X1_leads b f (iN p) q σ = some (0, σ) := by
  have r0 := h_r0_0 h.2.1
  have kk := h_ck1 h.2.1
  have bt := between_f1 h.2.1 h.c3 (y := q) (no_of_ge hp hp2)
  simp only [s_X1_leads, r0, kk, bt, if_true, bind_ok, Option.bind_some, cb_some]
theorem leads8_f2 (h : M8 b nP nF nB nT nS nL H B R σ) {f : Int32} {p q : Nat} (hp : p < nP) (hq : nP ≤ q) (hq2 : q < 2147483648) : s_X1_leads b f (iN p) (iN q) σ = some (0, σ) := by
  have r0 := h_r0_0 h.2.1
  have kk := h_ck1 h.2.1
  have bt := between_f2 h.2.1 h.c3 h.p10 hp (no_of_ge hq hq2)
  simp only [s_X1_leads, r0, kk, bt, if_true, bind_ok, Option.bind_some, cb_some]
/-- can one stride -/
def cnP (B : Book) (R : Nat → Int32) (f p q hr : Nat) : Bool := ldP R f p q && !barP B R f q hr
theorem on_n {f : Nat} (h : WF nP nF nB nT nS nL H R) (hf : f < nF) : ∃ p, p < nP ∧ R (17 + f) = iN p := by
  have hf4 := h.1.2.1
  obtain ⟨⟨p, h1, h2⟩, h3⟩ := h.on (f := f) (by omega)
  have h4 := h3 hf
  rw [h2] at h4
  have h10 := h.1.1
  exact ⟨p, (iN_lt (by omega) (by omega)).mp h4, h2⟩
theorem hour_n (h : WF nP nF nB nT nS nL H R) : ∃ n, n ≤ H ∧ R 7 = iN n := h.hour
theorem may8 (h : M8 b nP nF nB nT nS nL H B R σ) (h3 : hr < 2147483648) (h7 : R 7 = iN hr) {f p q : Nat} (hf : f < nF) (hq : q < nP) (hon : R (17 + f) = iN p) (hp : p < nP) :
    ∃ σ1, s_X1_mayStride b (iN f) (iN q) σ = some (bI (cnP B R f p q hr), σ1) ∧ Ag S8 σ σ1 := by
  have h2 := h.2.1
  have hf4 := h.f4
  have k0 := h_ck0 h2
  have isf := fk8_t h2 (h.2.2.1.g1.trans h.2.2.2.1.2.1.2.1) hf4 hf
  have r3 := h_r0_3 h2
  have l7 := h_ld7 (n := f) (by omega) h2
  rw [h.2.2.1.on (by omega), hon] at l7
  have ld := leads8 h hf hp hq
  have r10 := h_r0_10 h2
  have t0 := ht_0 h2
  rw [show zi σ (b + 14) 0 = iN hr from h.2.2.1.g7.trans h7] at t0
  obtain ⟨σ1, k1, k2⟩ := bar8 h h3 hf hq
  unfold cnP
  cases c1 : ldP R f p q with
  | false =>
    rw [c1] at ld
    refine ⟨σ, ?_, Ag.refl⟩
    simp only [s_X1_mayStride, k0, isf, r3, l7, ld, z10', bI_f, Bool.false_and, if_true, if_false, bind_ok, Option.bind_some, cb_some]
  | true =>
    rw [c1] at ld
    refine ⟨σ1, ?_, k2⟩
    cases c2 : barP B R f q hr with
    | false =>
      rw [c2] at k1
      simp only [s_X1_mayStride, k0, isf, r3, l7, ld, r10, t0, k1, z10', bI_t, bI_f, Bool.true_and, Bool.not_false, if_true, if_false, bind_ok, Option.bind_some, cb_some]
    | true =>
      rw [c2] at k1
      simp only [s_X1_mayStride, k0, isf, r3, l7, ld, r10, t0, k1, z10', bI_t, bI_f, Bool.true_and, Bool.not_true, if_false, bind_ok, Option.bind_some, cb_some]
theorem told_2 {T : Law} {e : Env} : ∀ n, toldP T 2 e n = none ∨ toldP T 2 e n = some 1
  | 0 => Or.inl rfl
  | n + 1 => by
    unfold toldP
    by_cases c : (T.2 n).1 = 2 ∧ (T.2 n).2.2 e = some 1
    · rw [show clP (T.2 n) 2 e = some 1 by simp only [clP, c, and_self, if_true]]
      exact Or.inr rfl
    · rw [show clP (T.2 n) 2 e = none by simp only [clP, c, if_false]]
      exact told_2 n
theorem ask_2 {j : Option Nat} {e : Env} : askP B j 2 e = none ∨ askP B j 2 e = some 1 := by
  cases j with
  | none => exact Or.inl rfl
  | some j => exact told_2 _
theorem ld_ne (h : WF nP nF nB nT nS nL H R) {f p : Nat} (hp : p < 10) : ldP R f p p = false := by
  have := (h.link (i := p * 10 + p) (by omega)).2 (by omega)
  unfold ldP
  simp [this]
theorem can9 (h : M9 nP nF nB nT nS nL H B R σ) (h3 : hr < 100000) (h7 : R 7 = iN hr) {f p q : Nat} (hf : f < nF) (hp : p < nP) (hq : q < nP) :
    ∃ σ1, s_X9_canStride 125 (iN f) (iN p) (iN q) σ = some (bI (cnP B R f p q hr), σ1) ∧ Ag S9 σ σ1 := by
  obtain ⟨hS, hR, hW, -⟩ := id h
  have hp10 := hW.1.1
  have hf4 := hW.1.2.1
  have b3 := q_r125_3 hS
  have bk := q_ck125 hS
  have lo := long9 hS (a := p) (d := q) (by omega) (by omega)
  rw [hR] at lo
  obtain ⟨a, ha, ea⟩ := room_n hW (p := p) (by omega)
  obtain ⟨c, hc, ec⟩ := room_n hW (p := q) (by omega)
  have l1 : ldI 11 σ 127 (30 + iN p) = some (iN a) := by
    rw [show (30 : Int32) = iN 30 from rfl, iN_add, q_ld127 (by omega) hS, hR, ea]
  have l2 : ldI 11 σ 127 (30 + iN q) = some (iN c) := by
    rw [show (30 : Int32) = iN 30 from rfl, iN_add, q_ld127 (by omega) hS, hR, ec]
  have l3 : ldI 11 σ 127 (150 + iN f) = some (R (150 + f)) := by
    rw [show (150 : Int32) = iN 150 from rfl, iN_add, q_ld127 (by omega) hS, hR]
  have l4 : ldI 11 σ 127 (11 + iN a) = some (R (11 + a)) := by
    rw [show (11 : Int32) = iN 11 from rfl, iN_add, q_ld127 (by omega) hS, hR]
  by_cases c0 : p = q
  · subst c0
    refine ⟨σ, ?_, Ag.refl⟩
    unfold cnP
    rw [ld_ne hW (by omega)]
    simp only [s_X9_canStride, b3, bk, lo, l1, l2, Bool.false_and, bI_f, if_true, bind_ok, Option.bind_some, cb_some]
  have n0 : ¬ iN p = iN q := (fun h => absurd ((iN_inj (by omega) (by omega)).mp h) (by omega))
  obtain ⟨z, hz, ez⟩ := (hW.link (i := p * 10 + q) (by omega)).1
  obtain ⟨σ1, k1, k2⟩ := tells9 (h := 2) (rm := iN c) (b := -1) (f := iN f) (p := iN q) (wo := 0) h h3 h7 (by decide) (Or.inr ⟨f, by omega, rfl⟩) (Or.inr ⟨q, by omega, rfl⟩)
  have v1 : lgR R (iN f) = R (150 + f) := by
    unfold lgR
    rw [if_neg (iN_ne (by omega)), iN_nat (by omega)]
  have v2 : hgR R (iN q) = R (40 + q) := by
    unfold hgR
    rw [if_neg (iN_ne (by omega)), iN_nat (by omega)]
  have tl : ∃ σ2, s_X9_canStride_j80 125 (iN f) (iN q) (iN c) σ = some (bI (!barP B R f q hr), σ2) ∧ Ag S9 σ σ2 := by
    refine ⟨σ1, ?_, k2⟩
    have k1 : s_X9_tells 125 2 (iN c) (-1) (iN f) (iN q) 0 σ = _ := k1
    unfold barP
    rw [v1, v2, ← ec] at k1
    rw [ec] at k1 ⊢
    rcases ask_2 (B := B) (j := lawR R) (e := ev (iN c) (iN (hr % 24)) (iN hr) (-1) (iN f) (R (150 + f)) (iN q) (R (40 + q)) (R 9)) with e1 | e1
    · rw [e1] at k1 ⊢
      simp only [s_X9_canStride_j80, bk, k1, lg_cmp_eq, Option.getD_none, Option.isSome_none, Bool.not_false, bI_t, if_true, bind_ok, Option.bind_some, cb_some]
    · rw [e1] at k1 ⊢
      simp only [s_X9_canStride_j80, bk, k1, lg_cmp_eq, Option.getD_some, Option.isSome_some, Bool.not_true, bI_f, show ¬ (1 : Int64) = 0 by decide, if_false, bind_ok, Option.bind_some, cb_some]
  obtain ⟨σ2, t1, t2⟩ := tl
  unfold cnP ldP
  rw [ea, ec, iN_nat (by omega)]
  by_cases c1 : R (50 + (p * 10 + q)) = 0
  · refine ⟨σ, ?_, Ag.refl⟩
    rw [c1] at lo
    simp only [s_X9_canStride, b3, bk, lo, l1, l2, n0, c1, ne_eq, not_true_eq_false, decide_false, Bool.false_and, bI_f, Int32.le_refl, if_true, if_false, bind_ok, Option.bind_some, cb_some]
  · have c1b : ¬ R (50 + (p * 10 + q)) ≤ 0 := by
      rw [ez]
      intro w
      have := (iN_le (b := 0) (by omega) (by decide)).mp w
      exact c1 (by rw [ez, show z = 0 by omega]; rfl)
    by_cases c2 : R (50 + (p * 10 + q)) ≤ R (150 + f)
    · have c2b : ¬ R (150 + f) < R (50 + (p * 10 + q)) := Int32.not_lt.mpr c2
      by_cases c3 : iN a = iN c
      · refine ⟨σ2, ?_, t2⟩
        rw [← c3] at t1 l2
        simp only [s_X9_canStride, b3, bk, lo, l1, l2, l3, n0, c1, c1b, c2, c2b, t1, ← c3, ne_eq, not_false_eq_true, decide_true, Bool.true_and, Bool.true_or, if_true, if_false, bind_ok, Option.bind_some, cb_some]
      · cases c4 : hbP (R (11 + a)) (iN c) with
        | false =>
          refine ⟨σ, ?_, Ag.refl⟩
          simp only [s_X9_canStride, b3, bk, lo, l1, l2, l3, l4, n0, c1, c1b, c2, c2b, c3, hb9, c4, ne_eq, not_false_eq_true, decide_true, decide_false, Bool.true_and, Bool.false_or, Bool.false_and, bI_f, if_true, if_false, bind_ok, Option.bind_some, cb_some]
        | true =>
          refine ⟨σ2, ?_, t2⟩
          simp only [s_X9_canStride, b3, bk, lo, l1, l2, l3, l4, n0, c1, c1b, c2, c2b, c3, hb9, c4, t1, ne_eq, not_false_eq_true, decide_true, decide_false, Bool.true_and, Bool.false_or, bI_t, z10', if_false, bind_ok, Option.bind_some, cb_some]
    · have c2b : R (150 + f) < R (50 + (p * 10 + q)) := Int32.not_le.mp c2
      refine ⟨σ, ?_, Ag.refl⟩
      simp only [s_X9_canStride, b3, bk, lo, l1, l2, l3, n0, c1, c1b, c2, c2b, ne_eq, not_false_eq_true, decide_true, decide_false, Bool.true_and, Bool.and_false, Bool.false_and, bI_f, if_true, if_false, bind_ok, Option.bind_some, cb_some]
end ON
end V14
