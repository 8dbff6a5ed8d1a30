/-! ===== a deed within orders: the class on its heap, the reference on a later one ===== -/
section STP
variable {σ τ : Hp} {nP nF nB nT nS nL n : Nat} {B : Book} {R R1 : Nat → Int32}
def A8 (nP nF nB nT nS nL : Nat) (B : Book) (R : Nat → Int32) (n : Nat) (σ : Hp) : Prop := SK σ ∧ M8 1 nP nF nB nT nS nL 999 B R σ ∧ zi σ 109 1 = iN n ∧ n ≤ 16
def A9 (nP nF nB nT nS nL : Nat) (B : Book) (R : Nat → Int32) (n : Nat) (τ : Hp) : Prop := M9 nP nF nB nT nS nL 999 B R τ ∧ zi τ 125 8 = iN n
def DC (nP nF nT : Nat) (R : Nat → Int32) (n : Nat) (σ τ : Hp) : Prop := UnF nP nF nT n (zi σ 109 1) (zi τ 125 8) (zi σ 110) (zi τ 131) (zi τ 130) R
def SO8 (a k : Nat) : Prop := SH a k ∨ S110 a k
def SO9 (a k : Nat) : Prop := S9t a k ∨ S131 a k
theorem SO8.td {a k : Nat} (h : SO8 a k) : TD a k := h.elim (fun q => Or.inl q) (fun q => Or.inr (Or.inr (Or.inl q)))
theorem S9t.s9w {a k : Nat} (h : S9t a k) : S9w a k := by
  rcases h with q | q | q
  · exact Or.inl (Or.inl q)
  · exact Or.inl (Or.inr (Or.inl (by omega)))
  · exact Or.inr q
theorem SO9.td {a k : Nat} (h : SO9 a k) : TD a k := h.elim (fun q => Or.inr (Or.inl q.s9w)) (fun q => Or.inr (Or.inr (Or.inr (Or.inl q))))
theorem S9.o {a k : Nat} (h : S9 a k) : SO9 a k := Or.inl (Or.inl h)
/-- one call within orders -/
def StepOK (nP nF nB nT nS nL : Nat) (B : Book) (f g : Hp → Option (Int32 × Hp)) : Prop := ∀ R n σ, A8 nP nF nB nT nS nL B R n σ → ∃ v σ1 R1 n1, f σ = some (v, σ1) ∧ A8 nP nF nB nT nS nL B R1 n1 σ1 ∧ Ag SO8 σ σ1 ∧ (v = -1 ∨ v = -2 ∨ v = -3 ∨ ∃ m, m < 1000 ∧ v = iN m) ∧ ∀ τ, A9 nP nF nB nT nS nL B R n τ → DC nP nF nT R n σ τ → ∃ τ1, g τ = some (v, τ1) ∧ A9 nP nF nB nT nS nL B R1 n1 τ1 ∧ DC nP nF nT R1 n1 σ1 τ1 ∧ Ag SO9 τ τ1
theorem DC.same {σ1 τ1 : Hp} (h : DC nP nF nT R n σ τ) (e8 : Ag S8p σ σ1) (e9 : Ag S9 τ τ1) : DC nP nF nT R n σ1 τ1 := by
  unfold DC at *
  have a1 : zi σ1 109 1 = zi σ 109 1 := (e8.2.2.2.2 109 1 (S8p.n rfl)).1
  have a2 : zi σ1 110 = zi σ 110 := funext fun k => (e8.2.2.2.2 110 k (S8p.n (by simp [free, fUn]))).1
  have b1 : zi τ1 125 8 = zi τ 125 8 := (e9.2.2.2.2 125 8 (S9.n (by decide) (Or.inr (by decide)))).1
  have b2 : ∀ a, a = 130 ∨ a = 131 → zi τ1 a = zi τ a := fun a ha => funext fun k => (e9.2.2.2.2 a k (S9.n (by omega) (Or.inl (by omega)))).1
  rw [a1, a2, b1, b2 130 (Or.inl rfl), b2 131 (Or.inr rfl)]
  exact h
theorem A8.agp {σ1 : Hp} (h : A8 nP nF nB nT nS nL B R n σ) (e : Ag S8p σ σ1) : A8 nP nF nB nT nS nL B R n σ1 := ⟨h.1.ag e, h.2.1.agp e, ((e.2.2.2.2 109 1 (S8p.n rfl)).1).trans h.2.2.1, h.2.2.2⟩
theorem A9.ag {τ1 : Hp} (h : A9 nP nF nB nT nS nL B R n τ) (e : Ag S9 τ τ1) : A9 nP nF nB nT nS nL B R n τ1 := ⟨h.1.ag e, ((e.2.2.2.2 125 8 (S9.n (by decide) (Or.inr (by decide)))).1).trans h.2⟩
/-- a deed more in both -/
theorem DC.more {sA sB sC t1 t2 tE : Hp} {k a b : Int32} (h : DC nP nF nT R n σ τ) (e1 : Ag S8p σ sA) (d1 : Ag S110 sA sB) (d2 : zi sB 109 1 = iN (stay n + 1)) (d3 : ∀ j m, j < stay n → m < 7 → zi sB 110 (7 * j + m) = zi sA 110 (7 * was n j + m)) (d4 : ∀ m, m < 7 → zi sB 110 (7 * stay n + m) = newD k a b sA m)
    (e2 : Ag SH sB sC) (e3 : Ag S9 τ t1) (m1 : zi t1 127 = R)
    (r2 : zi t2 125 8 = iN (stay n + 1)) (r3 : ∀ j i, j < stay n → i < 23 → zi t2 130 (23 * j + i) = zi t1 130 (23 * was n j + i)) (r4 : ∀ i, i < 23 → zi t2 130 (23 * stay n + i) = zi t1 127 (7 + i)) (r5 : ∀ j, j < stay n → zi t2 131 j = zi t1 131 (was n j)) (r6 : zi t2 131 (stay n) = k)
    (e4 : Ag S9t t2 tE) (hu : UStep nP nF nT (newD k a b sA) k (fun i => R (7 + i)) (fun i => R1 (7 + i))) : DC nP nF nT R1 (stay n + 1) sC tE := by
  have f110 : ∀ j, zi sC 110 j = zi sB 110 j := fun j => (e2.2.2.2.2 110 j (by
    rintro (q | q)
    · exact S8p.n (by simp [free, fUn]) q
    · omega)).1
  have a110 : ∀ j, zi sA 110 j = zi σ 110 j := fun j => (e1.2.2.2.2 110 j (S8p.n (by simp [free, fUn]))).1
  have nt : ∀ {x j : Nat}, (x = 130 ∨ x = 131 ∨ (x = 125 ∧ j = 8)) → ¬ S9t x j := by
    rintro x j hx (q | q | q)
    · exact S9.n (by omega) (by omega) q
    · omega
    · omega
  have E : ∀ x j, (x = 130 ∨ x = 131 ∨ (x = 125 ∧ j = 8)) → zi tE x j = zi t2 x j := fun x j hx => (e4.2.2.2.2 x j (nt hx)).1
  have T : ∀ x j, (x = 130 ∨ x = 131) → zi t1 x j = zi τ x j := fun x j hx => (e3.2.2.2.2 x j (S9.n (by omega) (Or.inl (by omega)))).1
  unfold DC at *
  refine h.more ?_ ?_ (fun j m hj hm => ?_) (fun j hj => ?_) (fun j i hj hi => ?_) (fun i hi => ?_) ?_
  · rw [(e2.2.2.2.2 109 1 (by
      rintro (q | q)
      · exact S8p.n rfl q
      · omega)).1]
    exact d2
  · rw [E 125 8 (by omega)]
    exact r2
  · rw [f110, d3 j m hj hm, a110]
  · rw [E 131 j (by omega), r5 j hj, T 131 _ (by omega)]
  · rw [E 130 _ (by omega), r3 j i hj hi, T 130 _ (by omega)]
  · rw [E 130 _ (by omega), r4 i hi, m1]
  · refine hu.congr (fun m hm => ?_) ?_ (fun _ _ => rfl) (fun _ _ => rfl)
    · show zi sC 110 _ = _
      rw [f110, d4 m hm]
    · rw [E 131 _ (by omega)]
      exact r6
/-- refused, nothing done -/
theorem step_no {f g : Hp → Option (Int32 × Hp)} {v : Int32} (h : A8 nP nF nB nT nS nL B R n σ) (hv : v = -1 ∨ v = -2 ∨ v = -3) {σ1 : Hp} (h1 : f σ = some (v, σ1)) (e1 : Ag S8p σ σ1) (h2 : ∀ τ, A9 nP nF nB nT nS nL B R n τ → ∃ τ1, g τ = some (v, τ1) ∧ Ag S9 τ τ1) : ∃ v σ1 R1 n1, f σ = some (v, σ1) ∧ A8 nP nF nB nT nS nL B R1 n1 σ1 ∧ Ag SO8 σ σ1 ∧ (v = -1 ∨ v = -2 ∨ v = -3 ∨ ∃ m, m < 1000 ∧ v = iN m) ∧ ∀ τ, A9 nP nF nB nT nS nL B R n τ → DC nP nF nT R n σ τ → ∃ τ1, g τ = some (v, τ1) ∧ A9 nP nF nB nT nS nL B R1 n1 τ1 ∧ DC nP nF nT R1 n1 σ1 τ1 ∧ Ag SO9 τ τ1 := by
  refine ⟨v, σ1, R, n, h1, h.agp e1, e1.mono (fun _ _ q => Or.inl (Or.inl q)), by rcases hv with q | q | q <;> simp [q], fun τ h9 hd => ?_⟩
  obtain ⟨τ1, q1, q2⟩ := h2 τ h9
  exact ⟨τ1, q1, h9.ag q2, hd.same e1 q2, q2.mono (fun _ _ q => q.o)⟩
theorem step_stride (p1 p2 : Int32) : StepOK nP nF nB nT nS nL B (s_X8_tryStride 0 p1 p2) (s_X9_strideNow 125 p1 p2) := by
  intro R n σ h
  obtain ⟨hS, m8, n1, hn16⟩ := id h
  obtain ⟨hh, hh1, hh2⟩ := bd_hour m8
  have hF4 := m8.f4
  have hP10 := m8.p10
  have c13 : zi σ 1 13 = iN nF := m8.2.2.1.g1.trans m8.2.2.2.1.2.1.2.1
  have k8 := q_ck0 hS
  have r0 := q_r0_0 hS
  have k0 := h_ck0 m8.2.1
  have h0 := h_r0_0 m8.2.1
  have k1 := h_ck1 m8.2.1
  have hw := m8.2.2.2.1
  have w1 : R 1 = iN nF := hw.2.1.2.1
  have w0 : R 0 = iN nP := hw.2.1.1
  rcases nx p1 (c := nF) (by omega) with ⟨f, hf, rfl⟩ | hx
  · have f8 := fk8_t m8.2.1 c13 hF4 hf
    rcases nx p2 (c := nP) (by omega) with ⟨q, hq, rfl⟩ | hx
    · have o8 := one_t m8.2.1 m8.c3 hP10 hq
      obtain ⟨p, hp, hon⟩ := on_n hw hf
      obtain ⟨sA, a1, a2⟩ := may8 m8 (by omega) hh2 hf hq hon hp
      have A2 : Ag S8p σ sA := a2.p8
      have SA := hS.ag a2
      have m8A := m8.agp A2
      cases cn : cnP B R f p q hh with
      | false =>
        rw [cn] at a1
        have a1 : s_X1_mayStride 1 (iN f) (iN q) σ = some (0, sA) := a1
        refine step_no h (v := -3) (Or.inr (Or.inr rfl)) (σ1 := sA) ?_ A2 (fun t th => ?_)
        · simp only [s_X8_tryStride, r0, k0, f8, h0, k1, o8, a1, z10', if_true, if_false, bind_ok, Option.bind_some, cb_some]
        · have th2 := th.1
          have bk := q_ck125 th2.1
          have fk := fk9_t th2.1 (by rw [th2.2.1]; exact w1) (Nat.le_trans hF4 (by decide)) hf
          have pc := pc9_t th2.1 (by rw [th2.2.1]; exact w0) hP10 hq
          have b3 := q_r125_3 th2.1
          have l17 := th2.ld17 (n := f) (by omega)
          rw [hon] at l17
          obtain ⟨t2, c1, c2⟩ := can9 th2 (hr := hh) (by omega) hh2 hf hp hq
          rw [cn] at c1
          have c1 : s_X9_canStride 125 (iN f) (iN p) (iN q) t = some (0, t2) := c1
          refine ⟨t2, ?_, c2⟩
          simp only [s_X9_strideNow, bk, fk, pc, b3, l17, c1, z10', if_true, if_false, bind_ok, Option.bind_some, cb_some]
      | true =>
        rw [cn] at a1
        have a1 : s_X1_mayStride 1 (iN f) (iN q) σ = some (1, sA) := a1
        have n1A : zi sA 109 1 = iN n := ((A2.2.2.2.2 109 1 (S8p.n rfl)).1).trans n1
        obtain ⟨sB, d0, d1, d2, d3, d4⟩ := deed8 SA n1A hn16 (k := 0) (a := iN f) (b := iN p)
        have SB := SA.ag d1
        have hW1 : WF nP nF nB nT nS nL 999 (up R (17 + f) (iN q)) := hw.put (by omega) (by
          unfold okI
          rw [if_neg (by omega), if_neg (by omega), if_neg (by omega), if_neg (by omega), if_neg (by omega), if_pos (by omega)]
          exact ⟨⟨q, by omega, rfl⟩, fun _ => (iN_lt (by omega) (by omega)).mpr hq⟩)
        have EB : Ag TD σ sB := (A2.mono (fun _ _ q => Or.inl (Or.inl q))).trans (d1.mono (fun _ _ q => Or.inr (Or.inr (Or.inl q))))
        have ho : ∀ o, o < 15 → zi sB (1 + o) = zi σ (1 + o) := fun o ho => funext fun k => by
          rw [(d1.2.2.2.2 (1 + o) k (by rintro (q | q) <;> omega)).1, (A2.2.2.2.2 (1 + o) k (S8p.n (fr_house (Or.inl rfl) ho))).1]
        have EC : Ag TD σ (zsi sB 8 f (iN q)) := EB.trans (Ag.zsi (Or.inl (Or.inr (by decide))))
        have hHC : HHm 1 (zsi sB 8 f (iN q)) (up R (17 + f) (iN q)) := m8.2.2.1.row1 (by omega) (loc_on f (by omega)) ho (fun _ _ => rfl)
        have hT : ∀ i, 178 ≤ i → up R (17 + f) (iN q) i = R i := fun i hi => up_ne (by omega)
        have SC : SK (zsi sB 8 f (iN q)) := hS.ag EC
        have m8C := m8.low SC EC hHC hW1 hT
        obtain ⟨sD, s1, s2⟩ := safe8 m8C (hr := hh) (by omega) hq
        have SD := SC.ag s2
        obtain ⟨v, hv, ev⟩ := bI_n (c := sfP B (up R (17 + f) (iN q)) q hh)
        rw [ev] at s1
        have SE2 : Ag SH sB sD := (Ag.zsi (σ := sB) (a := 8) (k := f) (v := iN q) (S := SH) (Or.inr (by decide))).trans (s2.mono (fun _ _ q => Or.inl (Or.inl q)))
        have E8 : Ag SO8 σ sD := ((A2.mono (fun _ _ q => Or.inl (Or.inl q))).trans (d1.mono (fun _ _ q => Or.inr q))).trans (SE2.mono (fun _ _ q => Or.inl q))
        have hHD : HHm 1 sD (up R (17 + f) (iN q)) := hHC.congr (fun o ho => funext fun k => (s2.2.2.2.2 (1 + o) k (by unfold S8; omega)).1)
        have nD : zi sD 109 1 = iN (stay n + 1) := by
          rw [(SE2.2.2.2.2 109 1 (by
            rintro (q | q)
            · exact S8p.n rfl q
            · omega)).1]
          exact d2
        have h7 : up R (17 + f) (iN q) 7 = iN hh := (up_ne (by omega)).trans hh2
        have r3A := h_r0_3 m8A.2.1
        have l7A := h_ld7 (n := f) (by omega) m8A.2.1
        rw [m8A.2.2.1.on (by omega), hon] at l7A
        have r0A := q_r0_0 SA
        have r8A := q_r0_8 SA
        have k109 := q_ck109 SA
        have r0B := q_r0_0 SB
        have r3B := h_r0_3 SB.hk1
        have st7 : stI sB (1 + 7) (iN f) (iN q) = some (zsi sB 8 f (iN q)) := h_st7 (by omega) SB.hk1
        have r0C := q_r0_0 SC
        have r10C := h_r0_10 SC.hk1
        have l14C := h_ld14 (n := 0) (by decide) SC.hk1
        rw [m8C.2.2.1.g7, h7] at l14C
        have l14C : ldI 11 (zsi sB 8 f (iN q)) (1 + 14) 0 = _ := l14C
        have k0C := h_ck0 SC.hk1
        have hst := stay_lt hn16
        refine ⟨iN v, sD, up R (17 + f) (iN q), stay n + 1, ?_, ⟨SD, m8.low SD (E8.mono (fun _ _ q => q.td)) hHD hW1 hT, nD, by omega⟩, E8, Or.inr (Or.inr (Or.inr ⟨v, by omega, rfl⟩)), fun τ h9 hd => ?_⟩
        · have hv2 : v = 0 ∨ v = 1 := by omega
          rcases hv2 with rfl | rfl
          · have s1 : s_X1_isSafe 1 (iN q) (iN hh) (zsi sB 8 f (iN q)) = some (0, sD) := s1
            simp only [s_X8_tryStride, r0, k0, f8, h0, k1, o8, a1, r8A, r0A, r3A, l7A, k109, d0, r0B, r3B, st7, r0C, r10C, l14C, k0C, s1, z10', if_true, if_false, bind_ok, Option.bind_some, cb_some]
            rfl
          · have s1 : s_X1_isSafe 1 (iN q) (iN hh) (zsi sB 8 f (iN q)) = some (1, sD) := s1
            simp only [s_X8_tryStride, r0, k0, f8, h0, k1, o8, a1, r8A, r0A, r3A, l7A, k109, d0, r0B, r3B, st7, r0C, r10C, l14C, k0C, s1, z10', if_true, if_false, bind_ok, Option.bind_some, cb_some]
            rfl
        · have m9E := h9.1
          have bk := q_ck125 m9E.1
          have fk := fk9_t m9E.1 (by rw [m9E.2.1]; exact w1) (Nat.le_trans hF4 (by decide)) hf
          have pc := pc9_t m9E.1 (by rw [m9E.2.1]; exact w0) hP10 hq
          have b3 := q_r125_3 m9E.1
          have l17 := m9E.ld17 (n := f) (by omega)
          rw [hon] at l17
          obtain ⟨t1, c1, c2⟩ := can9 m9E (hr := hh) (by omega) hh2 hf hp hq
          rw [cn] at c1
          have c1 : s_X9_canStride 125 (iN f) (iN p) (iN q) τ = some (1, t1) := c1
          have h9t1 := h9.ag c2
          have m9t1 := h9t1.1
          have bk1 := q_ck125 m9t1.1
          obtain ⟨t2, g0, r1, r2, r3, r4, r5, r6⟩ := remember9 m9t1.1 h9t1.2 hn16 (k := 0)
          have St2 := m9t1.1.ag r1
          have b32 := q_r125_3 St2
          have sf : stI t2 127 (17 + iN f) (iN q) = some (zsi t2 127 (17 + f) (iN q)) := by
            rw [show (17 : Int32) = iN 17 from rfl, iN_add]
            exact q_st127 (by omega) St2
          have e127 : zi t2 127 = R := by
            rw [← m9t1.2.1]
            exact funext fun k => (r1.2.2.2.2 127 k (by rintro (q | q | q) <;> omega)).1
          have eR : zi (zsi t2 127 (17 + f) (iN q)) 127 = up R (17 + f) (iN q) := by rw [zi_up, e127]
          have E4 : Ag TD t1 (zsi t2 127 (17 + f) (iN q)) := (r1.mono (fun _ _ q => Or.inr (Or.inr (Or.inr (Or.inl q))))).trans (Ag.zsi (Or.inr (Or.inl (Or.inr ⟨rfl, by omega, by omega⟩))))
          have m9t3 := m9t1.low E4 eR hW1
          have bk3 := q_ck125 m9t3.1
          obtain ⟨t4, x1, x2⟩ := safe9 m9t3 (hr := hh) (by omega) h7 (p := q) (by omega)
          rw [ev] at x1
          have m9t4 := m9t3.ag x2
          have E5 : Ag S9t t2 t4 := (Ag.zsi (Or.inr (Or.inr ⟨rfl, by omega, by omega⟩))).trans (x2.mono (fun _ _ q => Or.inl q))
          have D := hd.more A2 d1 d2 d3 d4 SE2 c2 m9t1.2.1 r2 r3 r4 r5 r6 E5 (R1 := up R (17 + f) (iN q)) (ustep0 hw hf hon rfl rfl rfl)
          refine ⟨t4, ?_, ⟨m9t4, D.2.2.1⟩, D, ((c2.mono (fun _ _ q => q.o)).trans (r1.mono (fun _ _ q => Or.inr q))).trans (E5.mono (fun _ _ q => Or.inl q))⟩
          have hv2 : v = 0 ∨ v = 1 := by omega
          rcases hv2 with rfl | rfl
          · have x1 : s_X9_isSafe 125 (iN q) (zsi t2 127 (17 + f) (iN q)) = some (0, t4) := x1
            simp only [s_X9_strideNow, bk, fk, pc, b3, l17, c1, bk1, g0, b32, sf, bk3, x1, z10', if_true, if_false, bind_ok, Option.bind_some, cb_some]
            rfl
          · have x1 : s_X9_isSafe 125 (iN q) (zsi t2 127 (17 + f) (iN q)) = some (1, t4) := x1
            simp only [s_X9_strideNow, bk, fk, pc, b3, l17, c1, bk1, g0, b32, sf, bk3, x1, z10', if_true, if_false, bind_ok, Option.bind_some, cb_some]
            rfl
    · have o8 := one_f m8.2.1 m8.c3 hx
      refine step_no h (v := -2) (Or.inr (Or.inl rfl)) (σ1 := σ) ?_ Ag.refl (fun t th => ?_)
      · simp only [s_X8_tryStride, r0, k0, f8, h0, k1, o8, z10', if_true, if_false, bind_ok, Option.bind_some, cb_some]
      · have th2 := th.1
        have bk := q_ck125 th2.1
        have fk := fk9_t th2.1 (by rw [th2.2.1]; exact w1) (Nat.le_trans hF4 (by decide)) hf
        have pc := pc9_f th2.1 (by rw [th2.2.1]; exact w0) hP10 hx
        refine ⟨t, ?_, Ag.refl⟩
        simp only [s_X9_strideNow, bk, fk, pc, z10', if_true, if_false, bind_ok, Option.bind_some, cb_some]
  · have f8 := fk8_f m8.2.1 c13 hx
    refine step_no h (v := -2) (Or.inr (Or.inl rfl)) (σ1 := σ) ?_ Ag.refl (fun t th => ?_)
    · simp only [s_X8_tryStride, r0, k0, f8, z10', if_true, if_false, bind_ok, Option.bind_some, cb_some]
    · have th2 := th.1
      have bk := q_ck125 th2.1
      have fk := fk9_f th2.1 (by rw [th2.2.1]; exact w1) (Nat.le_trans hF4 (by decide)) hx
      refine ⟨t, ?_, Ag.refl⟩
      simp only [s_X9_strideNow, bk, fk, z10', if_true, if_false, bind_ok, Option.bind_some, cb_some]
end STP
