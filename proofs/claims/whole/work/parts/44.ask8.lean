/-! ===== the class asks a law: theirs, goes, bars ===== -/
section V12
variable {σ : Hp}
/-- a row of one number -/
theorem fill8 {a L : Nat} {v : Int32} (ha : zk σ a = 11) (hl : zl σ a = L) (hL : L < 2147483648) :
    ∃ σ1, s_J7_fill_53178 (some a) v σ = some ((), σ1) ∧ Ag (fun c _ => c = a) σ σ1 ∧ (∀ k, k < L → zi σ1 a k = v) ∧ (∀ k, zj σ1 k = zj σ k) := by
  have key : ∀ (d i : Nat) (σ : Hp), i + d = L → zk σ a = 11 → zl σ a = L → ∃ σ1, s_J7_fill_53178_l5 (some a, v, iN i, iN L) σ = some ((), σ1) ∧ Ag (fun c _ => c = a) σ σ1 ∧ (∀ k, i ≤ k → k < L → zi σ1 a k = v) ∧ (∀ k, k < i → zi σ1 a k = zi σ a k) ∧ (∀ k, zj σ1 k = zj σ k) := by
    intro d
    induction d with
    | zero =>
      intro i σ hi ha hl
      have f1 : iN L ≤ iN i := ((iN_le (by omega) (by omega)).mpr (by omega))
      refine ⟨σ, loopF_out ?_, Ag.refl, fun k h1 h2 => by omega, fun k _ => rfl, fun k => rfl⟩
      simp only [s_J7_fill_53178_b5, f1, if_true]
    | succ d ih =>
      intro i σ hi ha hl
      have f1 : ¬ iN L ≤ iN i := (fun h => absurd ((iN_le (by omega) (by omega)).mp h) (by omega))
      have s1 := stI_n (v := v) ha hl (n := i) (by omega) hL
      have i1 : iN i + 1 = iN (i + 1) := iN_add _ 1
      obtain ⟨σ1, k1, k2, k3, k4, k5⟩ := ih (i + 1) (zsi σ a i v) (by omega) ha hl
      refine ⟨σ1, (loopF_in ?_).trans k1, (Ag.zsi (S := fun c _ => c = a) rfl).trans k2, fun k h1 h2 => ?_, fun k hk => ?_, fun k => (k5 k)⟩
      · simp only [s_J7_fill_53178_b5, f1, s1, i1, if_false, bind_ok]
      · by_cases c : k = i
        · subst c
          rw [k4 k (by omega), zi_hit]
        · exact k3 k (by omega) h2
      · rw [k4 k (by omega), zi_miss (by omega)]
  obtain ⟨σ1, k1, k2, k3, k4, k5⟩ := key L 0 σ (by omega) ha hl
  refine ⟨σ1, ?_, k2, fun k hk => k3 k (by omega) hk, k5⟩
  have l1 : lnA 11 σ a = some (iN L) := (if_pos ha).trans (congrArg (fun n => some (Int32.ofNat n)) hl)
  have k1 : s_J7_fill_53178_l5 (some a, v, 0, iN L) σ = some ((), σ1) := k1
  simp only [s_J7_fill_53178, l1, k1, bind_ok, cb_some]
theorem rk_st0 {r w p : Nat} (h : RK r w p σ) {v : Int32} : stI σ w 0 v = some (zsi σ w 0 v) := rk_stw h (n := 0) (by decide)
theorem rk_st1 {r w p : Nat} (h : RK r w p σ) {v : Int32} : stI σ w 1 v = some (zsi σ w 1 v) := rk_stw h (n := 1) (by decide)
theorem rk_st2 {r w p : Nat} (h : RK r w p σ) {v : Int32} : stI σ w 2 v = some (zsi σ w 2 v) := rk_stw h (n := 2) (by decide)
theorem rk_st3 {r w p : Nat} (h : RK r w p σ) {v : Int32} : stI σ w 3 v = some (zsi σ w 3 v) := rk_stw h (n := 3) (by decide)
theorem rk_st4 {r w p : Nat} (h : RK r w p σ) {v : Int32} : stI σ w 4 v = some (zsi σ w 4 v) := rk_stw h (n := 4) (by decide)
theorem rk_st5 {r w p : Nat} (h : RK r w p σ) {v : Int32} : stI σ w 5 v = some (zsi σ w 5 v) := rk_stw h (n := 5) (by decide)
theorem rk_st6 {r w p : Nat} (h : RK r w p σ) {v : Int32} : stI σ w 6 v = some (zsi σ w 6 v) := rk_stw h (n := 6) (by decide)
theorem rk_st7 {r w p : Nat} (h : RK r w p σ) {v : Int32} : stI σ w 7 v = some (zsi σ w 7 v) := rk_stw h (n := 7) (by decide)
theorem rk_st8 {r w p : Nat} (h : RK r w p σ) {v : Int32} : stI σ w 8 v = some (zsi σ w 8 v) := rk_stw h (n := 8) (by decide)
theorem RK_zsi {r w p a k : Nat} {v : Int32} : RK r w p (zsi σ a k v) = RK r w p σ := rfl
theorem tlw8 {r w p : Nat} (h : RK r w p σ) {rm md : Int32} {hr : Nat} (hr2 : hr < 2147483648) :
    ∃ σ1, s_X5_tellLawWords r rm (iN hr) md σ = some ((), σ1) ∧ Ag (fun c _ => c = w) σ σ1 ∧ (∀ k, k < 18 → zi σ1 w k = ev rm (iN (hr % 24)) (iN hr) (-1) (-1) (-1) (-1) (-1) md k) := by
  obtain ⟨σ1, k1, k2, k3, k4⟩ := fill8 (σ := σ) (a := w) (L := 18) (v := -1) h.2.2.2.1 h.2.2.2.2.1 (by decide)
  have h1 : RK r w p σ1 := h.ag k2
  have e24 : iN hr - iN hr / 24 * 24 = iN (hr % 24) := iN_mod hr2 (by decide)
  have e1 := rk_w h
  have A : ∀ (σ1 : Hp) (k : Nat) (v : Int32), Ag (fun c _ => c = w) σ σ1 → Ag (fun c _ => c = w) σ (zsi σ1 w k v) := fun σ1 k v q => q.trans (Ag.zsi rfl)
  refine ⟨zsi (zsi (zsi (zsi σ1 w 0 rm) w 1 (iN (hr % 24))) w 2 (iN hr)) w 8 md, ?_, A _ _ _ (A _ _ _ (A _ _ _ (A _ _ _ k2))), fun k hk => ?_⟩
  · simp (disch := first | assumption | (simp only [RK_zsi]; assumption)) only [s_X5_tellLawWords, e1, k1, rk_w (r := r) (w := w) (p := p), rk_st0 (r := r) (p := p), rk_st1 (r := r) (p := p), rk_st2 (r := r) (p := p), rk_st8 (r := r) (p := p), e24, bind_ok, Option.bind_some, cb_some]
  · have hk9 : k = 0 ∨ k = 1 ∨ k = 2 ∨ k = 8 ∨ (k ≠ 0 ∧ k ≠ 1 ∧ k ≠ 2 ∧ k ≠ 8) := by omega
    rcases hk9 with rfl | rfl | rfl | rfl | ⟨q0, q1, q2, q8⟩
    · simp (disch := decide) only [zi_hit, zi_miss]
      rfl
    · simp (disch := decide) only [zi_hit, zi_miss]
      rfl
    · simp (disch := decide) only [zi_hit, zi_miss]
      rfl
    · simp (disch := decide) only [zi_hit, zi_miss]
      rfl
    · rw [zi_miss q8, zi_miss q2, zi_miss q1, zi_miss q0, k3 k hk]
      unfold ev
      simp only [q0, q1, q2, q8, if_false, ite_self]
theorem ev_3 {rm ck hr bd fk lg pc hg md v : Int32} {k : Nat} : (if k = 3 then v else ev rm ck hr bd fk lg pc hg md k) = ev rm ck hr v fk lg pc hg md k := by
  unfold ev
  by_cases c : k = 3
  · subst c
    rfl
  · simp only [c, if_false]
theorem ev_4 {rm ck hr bd fk lg pc hg md v : Int32} {k : Nat} : (if k = 4 then v else ev rm ck hr bd fk lg pc hg md k) = ev rm ck hr bd v lg pc hg md k := by
  unfold ev
  by_cases c : k = 4
  · subst c
    rfl
  · simp only [c, if_false]
theorem ev_5 {rm ck hr bd fk lg pc hg md v : Int32} {k : Nat} : (if k = 5 then v else ev rm ck hr bd fk lg pc hg md k) = ev rm ck hr bd fk v pc hg md k := by
  unfold ev
  by_cases c : k = 5
  · subst c
    rfl
  · simp only [c, if_false]
theorem ev_6 {rm ck hr bd fk lg pc hg md v : Int32} {k : Nat} : (if k = 6 then v else ev rm ck hr bd fk lg pc hg md k) = ev rm ck hr bd fk lg v hg md k := by
  unfold ev
  by_cases c : k = 6
  · subst c
    rfl
  · simp only [c, if_false]
theorem ev_7 {rm ck hr bd fk lg pc hg md v : Int32} {k : Nat} : (if k = 7 then v else ev rm ck hr bd fk lg pc hg md k) = ev rm ck hr bd fk lg pc v md k := by
  unfold ev
  by_cases c : k = 7
  · subst c
    rfl
  · simp only [c, if_false]
theorem ev_hi {rm ck hr bd fk lg pc hg md : Int32} : ∀ k, 9 ≤ k → ev rm ck hr bd fk lg pc hg md k = -1 := by
  intro k hk
  unfold ev
  rw [if_neg (by omega), if_neg (by omega), if_neg (by omega), if_neg (by omega), if_neg (by omega), if_neg (by omega), if_neg (by omega), if_neg (by omega), if_neg (by omega)]
/-- a House that may ask (the house, the dusk) -/
def Hb (b : Nat) : Prop := b = 1 ∨ b = 39
/-- what only the class's paper holds -/
def S8 (a _k : Nat) : Prop := a = 18 ∨ a = 19 ∨ a = 56 ∨ a = 57
def M8 (b nP nF nB nT nS nL H : Nat) (B : Book) (R : Nat → Int32) (σ : Hp) : Prop := Hb b ∧ HK b σ ∧ HHm b σ R ∧ WF nP nF nB nT nS nL H R ∧ LHouse b σ B nL ∧ LRow R B nL
theorem Hb.s17 {b : Nat} (h : Hb b) (k : Nat) : S8 (b + 17) k ∧ S8 (b + 18) k := by
  rcases h with rfl | rfl
  · exact ⟨Or.inl rfl, Or.inr (Or.inl rfl)⟩
  · exact ⟨Or.inr (Or.inr (Or.inl rfl)), Or.inr (Or.inr (Or.inr rfl))⟩
theorem Hb.lo {b : Nat} (h : Hb b) {o k : Nat} (ho : o < 17) : ¬ S8 (b + o) k := by
  rintro q
  unfold S8 at q
  rcases h with rfl | rfl <;> omega
theorem M8.ag {b nP nF nB nT nS nL H : Nat} {B : Book} {R : Nat → Int32} {σ1 : Hp} (h : M8 b nP nF nB nT nS nL H B R σ) (e : Ag S8 σ σ1) : M8 b nP nF nB nT nS nL H B R σ1 := by
  obtain ⟨h1, h2, h3, h4, h5, h6⟩ := h
  refine ⟨h1, h2.ag e, h3.congr (fun o ho => funext fun k => (e.2.2.2.2 (b + o) k (h1.lo (by omega))).1), h4, fun j hj => ?_, h6⟩
  obtain ⟨t, q1, q2⟩ := h5 j hj
  refine ⟨t, by rw [e.2.2.2.1]; exact q1, q2.same (Nat.le_of_eq e.1.symm) (fun a ha _ => ⟨by rw [e.2.1], by rw [e.2.2.1], by rw [e.2.2.2.1], funext fun k => (e.2.2.2.2 a k (fun q => by unfold S8 at q; omega)).1⟩)⟩
section ON
variable {b nP nF nB nT nS nL H : Nat} {B : Book} {R : Nat → Int32}
theorem M8.rk (h : M8 b nP nF nB nT nS nL H B R σ) : RK (b + 16) (b + 17) (b + 18) σ := by
  have k := h.2.1
  exact ⟨(k.1 16 (by decide)).1, k.2 (16, 0, 17) (by decide), k.2 (16, 1, 18) (by decide), (k.1 17 (by decide)).1, (k.1 17 (by decide)).2, (k.1 18 (by decide)).1, (k.1 18 (by decide)).2⟩
/-- a law asked in a prepared reckoner -/
theorem ask8 (h : M8 b nP nF nB nT nS nL H B R σ) {j hd : Nat} (hj : j < nL) (hh : hd < 3) {e : Env} (he : ∀ k, 9 ≤ k → e k = -1) (hw : ∀ k, k < 18 → zi σ (b + 17) k = e k) {t : Nat} (ht : zr σ (b + 15) j = some t) :
    ∃ σ1, s_X7_told t (iN (300 + hd)) (some (b + 16)) σ = some ((askP B (some j) hd e).getD 9000000000, σ1) ∧ Ag S8 σ σ1 ∧ (∀ v, askP B (some j) hd e = some v → sm v) := by
  obtain ⟨h1, h2, h3, h4, h5, h6⟩ := id h
  obtain ⟨t2, q1, q2⟩ := h5 j hj
  rw [ht] at q1
  cases q1
  have hB := h6 j hj
  have hp : b + 18 < 156 := by
    rcases h1 with rfl | rfl <;> decide
  obtain ⟨σ1, k1, k2, k3⟩ := told_run (h := hd) (e := e) hh (fun c hc => (hB.2.2 c hc).1) he (B j).1 σ (Nat.le_refl _) hB.1 q2 h.rk hw hp
  refine ⟨σ1, ?_, k2.ag (fun k => (h1.s17 k).2), k3⟩
  obtain ⟨g1, g2, g3, a, r, g4, g5, g6, g7, g8, g9, g10, g11, g12, g13, g14, g15⟩ := q2
  have e1 : rdI 7 σ t 2 = some (iN (B j).1) := (rdI_t g3).trans (congrArg some g14)
  simp only [s_X7_told, e1, bind_ok]
  rw [k1, cb_some]
  rfl
theorem lif8 (h : M8 b nP nF nB nT nS nL H B R σ) : (lawR R = none ∧ s_X1_lawInForce b σ = some (none, σ)) ∨ ∃ j t, j < nL ∧ lawR R = some j ∧ zr σ (b + 15) j = some t ∧ s_X1_lawInForce b σ = some (some t, σ) ∧ zk σ t = 7 := by
  obtain ⟨h1, h2, h3, h4, h5, h6⟩ := id h
  have g6 := h3.g6
  have c17 : zi σ b 17 = iN nL := h3.g5.trans h4.2.1.2.2.2.2.2
  have hn := h4.1.2.2.2.2.2
  have i0 := h_i0 (k := 19) h2
  have k0 := h_ck0 h2
  rcases h4.2.2.1 with h7 | ⟨j, hj, h7⟩
  · refine Or.inl ⟨if_pos h7, ?_⟩
    rw [g6, h7] at i0
    have l1 := lw8_f h2 c17 (x := -1) (Or.inl (by decide))
    simp only [s_X1_lawInForce, i0, k0, l1, if_true, bind_ok, Option.bind_some, cb_some]
  · obtain ⟨t, q1, q2⟩ := h5 j hj
    refine Or.inr ⟨j, t, hj, ?_, q1, ?_, q2.2.2.1⟩
    · unfold lawR
      rw [h7, if_neg (iN_ne (by omega)), iN_nat (by omega)]
    · rw [g6, h7] at i0
      have l1 := lw8_t h2 c17 hn hj
      have r1 := h_r0_11 h2
      have l2 := h_ld15 (n := j) (by omega) h2
      rw [q1] at l2
      simp only [s_X1_lawInForce, i0, k0, l1, r1, l2, show ¬ (1 : Int32) = 0 by decide, if_false, bind_ok, Option.bind_some, cb_some]
def clamp (v : Int64) : Int32 := Int64.toInt32 (if (if v < 10 then v else 10) < 0 then 0 else (if v < 10 then v else 10))
def baseP (hr : Nat) : Int64 := if 18 ≤ hr % 24 ∨ hr % 24 ≤ 5 then 2 else 0
/-- how high a room is theirs by a law -/
def thP (B : Book) (R : Nat → Int32) (j : Option Nat) (rm hr : Nat) : Int32 := clamp ((askP B j 0 (ev (iN rm) (iN (hr % 24)) (iN hr) (-1) (-1) (-1) (-1) (-1) (R 9))).getD (baseP hr))
theorem tb_j55 {hr : Nat} (hr2 : hr < 2147483648) : s_X1_theirsBy_j55 (iN hr) σ = some (clamp (baseP hr), σ) := by
  have e24 : iN hr - iN hr / 24 * 24 = iN (hr % 24) := iN_mod hr2 (by decide)
  have hm : hr % 24 < 24 := Nat.mod_lt _ (by decide)
  unfold s_X1_theirsBy_j55 baseP
  rw [e24]
  by_cases c1 : 18 ≤ hr % 24
  · have d1 : (18 : Int32) ≤ iN (hr % 24) := (iN_le (a := 18) (by decide) (by omega)).mpr c1
    rw [if_pos d1, if_pos (Or.inl c1)]
    rfl
  · have d1 : ¬ (18 : Int32) ≤ iN (hr % 24) := fun q => c1 ((iN_le (a := 18) (by decide) (by omega)).mp q)
    rw [if_neg d1]
    by_cases c2 : hr % 24 ≤ 5
    · have d2 : ¬ (5 : Int32) < iN (hr % 24) := fun q => absurd ((iN_lt (a := 5) (by decide) (by omega)).mp q) (by omega)
      rw [if_neg d2, if_pos (Or.inr c2)]
      rfl
    · have d2 : (5 : Int32) < iN (hr % 24) := (iN_lt (a := 5) (by decide) (by omega)).mpr (by omega)
      rw [if_pos d2, if_neg (by omega)]
      rfl
/-- theirsBy: by the law in place j, or by none -/
theorem thb8 (h : M8 b nP nF nB nT nS nL H B R σ) {rm hr : Nat} (hr2 : hr < 2147483648) {j t : Option Nat} (hjt : (j = none ∧ t = none) ∨ ∃ i u, i < nL ∧ j = some i ∧ t = some u ∧ zr σ (b + 15) i = some u ∧ zk σ u = 7) :
    ∃ σ1, s_X1_theirsBy b t (iN rm) (iN hr) σ = some (thP B R j rm hr, σ1) ∧ Ag S8 σ σ1 := by
  rcases hjt with ⟨rfl, rfl⟩ | ⟨i, u, hi, rfl, rfl, hu, hk⟩
  · refine ⟨σ, ?_, Ag.refl⟩
    unfold s_X1_theirsBy
    rw [if_pos rfl, tb_j55 hr2]
    rfl
  · have h2 := h.2.1
    have r12 := h_r0_12 h2
    have r10 := h_r0_10 h2
    have l2 := ht_2 h2
    have g9 : zi σ (b + 14) 2 = R 9 := h.2.2.1.g9
    rw [g9] at l2
    have k16 := h_ck16 h2
    obtain ⟨σ1, k1, k2, k3⟩ := tlw8 h.rk (rm := iN rm) (md := R 9) hr2
    have A1 : Ag S8 σ σ1 := k2.mono (fun a k q => q ▸ (h.1.s17 k).1)
    have h1 := h.ag A1
    obtain ⟨σ2, m1, m2, m3⟩ := ask8 h1 hi (hd := 0) (by decide) (ev_hi) k3 (by rw [k2.2.2.2.1]; exact hu)
    have m1 : s_X7_told u 300 (some (b + 16)) σ1 = _ := m1
    have r12b := h_r0_12 h1.2.1
    have ku : ck 7 σ1 u = some () := ck_t (by rw [k2.2.1]; exact hk)
    refine ⟨σ2, ?_, A1.trans m2⟩
    unfold thP
    cases hv : askP B (some i) 0 (ev (iN rm) (iN (hr % 24)) (iN hr) (-1) (-1) (-1) (-1) (-1) (R 9)) with
    | none =>
      rw [hv] at m1
      simp only [s_X1_theirsBy, reduceCtorEq, r12, r10, l2, k16, k1, r12b, ku, m1, lg_cmp_eq, Option.getD_none, tb_j55 hr2, if_true, if_false, bind_ok, Option.bind_some, cb_some]
    | some v =>
      rw [hv] at m1
      have hs := sm_ne (m3 v hv)
      simp only [s_X1_theirsBy, reduceCtorEq, r12, r10, l2, k16, k1, r12b, ku, m1, lg_cmp_eq, Option.getD_some, hs, if_false, bind_ok, Option.bind_some, cb_some]
      rfl
end ON
end V12
