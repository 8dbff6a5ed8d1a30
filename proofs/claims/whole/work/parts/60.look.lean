/-! ===== canBe, look ===== -/
section V28
variable {σ : Hp}
def allN (n : Nat) (f : Nat → Bool) : Bool := foldN (fun k a => a && f k) n true
theorem allN_s {f : Nat → Bool} {n : Nat} : allN (n + 1) f = (allN n f && f n) := rfl
section ON
variable {nP nF nB nT nS nL H hr : Nat} {B : Book} {R : Nat → Int32}
/-- is all that was seen so of a badger -/
def soP (B : Book) (R : Nat → Int32) (nS hr b : Nat) : Bool := allN nS (fun k => decide (trP B R b hr (R (166 + 2 * k)).toNatClampNeg = R (167 + 2 * k)))
theorem seen_n {k : Nat} (h : WF nP nF nB nT nS nL H R) (hk : k < 6) : ∃ m, m ≤ 60 ∧ R (166 + 2 * k) = iN m := h.seenH hk
/-- tracks laid -/
def Trk (σ : Hp) (B : Book) (R : Nat → Int32) (hr m : Nat) : Prop := ∀ b, b < m → ∀ n, n < 61 → zi σ (116 + b) n = trP B R b hr n
def S8t (a k : Nat) : Prop := S8 a k ∨ (116 ≤ a ∧ a ≤ 118)
theorem s8t_p {s : Hp} (e : Ag S8t σ s) : Ag S8p σ s := e.mono (fun a k q => q.elim Or.inl (fun w => Or.inr (by omega)))
theorem who8 (m8 : M8 1 nP nF nB nT nS nL H B R σ) (hS : SK σ) (hr2 : hr < 100000) (h7 : R 7 = iN hr) :
    ∃ s, s_X2_whoCanBe 113 (some 1) σ = some (iN (setN (soP B R nS hr) nB), s) ∧ Ag S8t σ s ∧ Trk s B R hr nB := by
  have hb3 := m8.b3
  have hs6 := m8.2.2.2.1.1.2.2.2.2.1
  obtain ⟨s9, g1, g2, g3⟩ := loop_to (body := fun v => s_X2_whoCanBe_b4 (v.1) (v.2.1) (v.2.2.1) (v.2.2.2)) (fun i s => Ag S8t σ s ∧ Trk s B R hr i) (fun s => Ag S8t σ s ∧ Trk s B R hr nB) (fun i => (113, some 1, iN (setN (soP B R nS hr) i), iN i)) (iN (setN (soP B R nS hr) nB)) nB (fun i s hi hs => by
    obtain ⟨hs1, hs2⟩ := hs
    have n8 := m8.agp (s8t_p hs1)
    have hSs := hS.ag hs1
    have c14 : zi s 1 14 = iN nB := n8.2.2.1.g2.trans n8.2.2.2.1.2.1.2.2.1
    have i0 := h_i0 (k := 14) n8.2.1
    rw [c14] at i0
    have f1 : ¬ iN nB ≤ iN i := (fun h => absurd ((iN_le (by omega) (by omega)).mp h) (by omega))
    have f2 : ¬ (3 : Int32) ≤ iN i := fun q => absurd ((iN_le (a := 3) (by decide) (by omega)).mp q) (by omega)
    have i1 : iN i + 1 = iN (i + 1) := iN_add _ _
    have kk := q_ck113 hSs
    obtain ⟨s2, d1, d2, d3⟩ := track8 n8 hSs hr2 h7 hi
    have A2 : Ag S8t σ s2 := hs1.trans (d2.mono (fun a k q => q.elim Or.inl (fun e => Or.inr (by omega))))
    have n82 := m8.agp (s8t_p A2)
    have hS2 := hS.ag A2
    have T2 : Trk s2 B R hr (i + 1) := fun b hb n hn => by
      by_cases c : b = i
      · subst c
        exact d3 n hn
      · rw [(d2.2.2.2.2 (116 + b) n (fun q => q.elim (fun w => by unfold S8 at w; omega) (fun e => c (by omega)))).1]
        exact hs2 b (by omega) n hn
    obtain ⟨s3, k1, k2⟩ := loop_to (body := fun v => s_X2_whoCanBe_b29 (v.1) (v.2.1) (v.2.2.1) (v.2.2.2.1) (v.2.2.2.2.1) (v.2.2.2.2.2)) (fun _ t => t = s2) (fun t => t = s2) (fun k => (113, some 1, iN (setN (soP B R nS hr) i), iN i, bI (allN k (fun k => decide (trP B R i hr (R (166 + 2 * k)).toNatClampNeg = R (167 + 2 * k)))), iN k)) (113, some 1, iN (setN (soP B R nS hr) i), iN i, bI (soP B R nS hr i)) nS (fun k t hk ht => by
      subst ht
      have c16 : zi t 1 16 = iN nS := n82.2.2.1.g4.trans n82.2.2.2.1.2.1.2.2.2.2.1
      have j0 := h_i0 (k := 16) n82.2.1
      rw [c16] at j0
      have f3 : ¬ iN nS ≤ iN k := (fun h => absurd ((iN_le (by omega) (by omega)).mp h) (by omega))
      have f4 : ¬ (6 : Int32) ≤ iN k := fun q => absurd ((iN_le (a := 6) (by decide) (by omega)).mp q) (by omega)
      have k1 : iN k + 1 = iN (k + 1) := iN_add _ _
      have r8 := h_r0_8 n82.2.1
      have r9 := h_r0_9 n82.2.1
      have l12 := h_ld12 (n := k) (by omega) n82.2.1
      obtain ⟨m, hm, em⟩ := seen_n n82.2.2.2.1 (k := k) (by omega)
      rw [n82.2.2.1.seenH (by omega), em] at l12
      have l13 := h_ld13 (n := k) (by omega) n82.2.1
      rw [n82.2.2.1.seenR (by omega)] at l13
      have f5 : ¬ iN m < 0 := iN_nn (by omega)
      have f6 : ¬ (60 : Int32) < iN m := fun q => absurd ((iN_lt (a := 60) (by decide) (by omega)).mp q) (by omega)
      have rp := q_r113_1 hS2
      have la := ld115 hS2 (bd := i) (by omega)
      have lb := ldtr hS2 (bd := i) (n := m) (by omega) (by omega)
      rw [T2 i (by omega) m (by omega)] at lb
      refine ⟨t, ?_, rfl⟩
      rw [allN_s, em, iN_nat (by omega)]
      by_cases c : trP B R i hr m = R (167 + 2 * k)
      · rw [decide_eq_true c, Bool.and_true]
        simp only [s_X2_whoCanBe_b29, s_X2_whoCanBe_j88, j0, f3, f4, r8, l12, f5, f6, rp, la, lb, r9, l13, c, k1, z10', if_true, if_false, bind_ok, Option.bind_some, cb_some]
      · rw [decide_eq_false c, Bool.and_false]
        simp only [s_X2_whoCanBe_b29, s_X2_whoCanBe_j85, s_X2_whoCanBe_j88, j0, f3, f4, r8, l12, f5, f6, rp, la, lb, r9, l13, c, k1, bI_f, z10', if_true, if_false, bind_ok, Option.bind_some, cb_some]) (fun t ht => by
      subst ht
      have c16 : zi t 1 16 = iN nS := n82.2.2.1.g4.trans n82.2.2.2.1.2.1.2.2.2.2.1
      have j0 := h_i0 (k := 16) n82.2.1
      rw [c16] at j0
      have f3 : iN nS ≤ iN nS := Int32.le_refl _
      exact ⟨t, by simp only [s_X2_whoCanBe_b29, j0, f3, z10', if_true, if_false, bind_ok, Option.bind_some, cb_some]; rfl, rfl⟩) (σ := s2) rfl
    subst k2
    have k1 : s_X2_whoCanBe_l29 (113, some 1, iN (setN (soP B R nS hr) i), iN i, 1, 0) s3 = _ := k1
    refine ⟨s3, ?_, A2, T2⟩
    rw [setN_s]
    cases c : soP B R nS hr i with
    | true =>
      rw [c] at k1
      rw [if_pos rfl, ← iN_or, ← shl1 i (by omega)]
      simp only [s_X2_whoCanBe_b4, s_X2_whoCanBe_j94, s_X2_whoCanBe_j107, i0, f1, f2, kk, d1, k1, bI_t, i1, z10', if_true, if_false, bind_ok, Option.bind_some, cb_some]
    | false =>
      rw [c] at k1
      rw [if_neg (by decide)]
      simp only [s_X2_whoCanBe_b4, s_X2_whoCanBe_j94, s_X2_whoCanBe_j107, i0, f1, f2, kk, d1, k1, bI_f, i1, Int32.or_zero, z10', if_true, if_false, bind_ok, Option.bind_some, cb_some]) (fun s hs => by
    have n8 := m8.agp (s8t_p hs.1)
    have c14 : zi s 1 14 = iN nB := n8.2.2.1.g2.trans n8.2.2.2.1.2.1.2.2.1
    have i0 := h_i0 (k := 14) n8.2.1
    rw [c14] at i0
    have f1 : iN nB ≤ iN nB := Int32.le_refl _
    exact ⟨s, by simp only [s_X2_whoCanBe_b4, i0, f1, z10', if_true, if_false, bind_ok, Option.bind_some, cb_some], hs⟩) (σ := σ) ⟨Ag.refl, fun b hb => by omega⟩
  have g1 : s_X2_whoCanBe_l4 (113, some 1, 0, 0) σ = _ := g1
  refine ⟨s9, ?_, g2, g3⟩
  simp only [s_X2_whoCanBe, g1, cb_some]
/-- where all badgers are laid for later -/
def Ltr (σ : Hp) (B : Book) (R : Nat → Int32) (hr nB m : Nat) : Prop := ∀ n, n < m → ∀ b, b < nB → zi σ 150 (3 * n + b) = trP B R b hr n
theorem later9 (h : M9 nP nF nB nT nS nL 999 B R σ) (h3 : hr ≤ 999) (h7 : R 7 = iN hr) :
    ∃ s, s_X9_layLater 125 σ = some ((), s) ∧ Ag S9p σ s ∧ Ltr s B R hr nB 61 ∧ M9 nP nF nB nT nS nL 999 B R s := by
  have hb3 := h.2.2.1.1.2.2.1
  have bk := q_ck125 h.1
  obtain ⟨sa, u1, u2, u3, u4, u5⟩ := (h.hi (H2 := 2000) (by decide)).keep
  obtain ⟨s, g1, g2, g3, g4⟩ := loop_to (body := fun v => s_X9_layLater_b8 (v.1) (v.2)) (fun i s => Ag S9v sa s ∧ zj s 127 = zj sa 127 ∧ M9 nP nF nB nT nS nL 2000 B (rowN B R nB hr i) s ∧ Ltr s B R hr nB i) (fun s => Ag S9v sa s ∧ zj s 127 = zj sa 127 ∧ Ltr s B R hr nB 61) (fun i => (125, iN i)) 125 61 (fun i s hi hs => by
    obtain ⟨w1, w2, w3, w4⟩ := hs
    have f1 : ¬ (60 : Int32) < iN i := fun q => absurd ((iN_lt (a := 60) (by decide) (by omega)).mp q) (by omega)
    have i1 : iN i + 1 = iN (i + 1) := iN_add _ _
    obtain ⟨s2, k1, k2, k3⟩ := loop_to (body := fun v => s_X9_layLater_b16 (v.1) (v.2.1) (v.2.2)) (fun j t => Ag (fun a _ => a = 150) s t ∧ (∀ n, n < i → ∀ b, b < nB → zi t 150 (3 * n + b) = trP B R b hr n) ∧ ∀ b, b < j → b < nB → zi t 150 (3 * i + b) = trP B R b hr i) (fun t => Ag (fun a _ => a = 150) s t ∧ Ltr t B R hr nB (i + 1)) (fun j => (125, iN i, iN j)) (125, iN i) 3 (fun j t hj ht => by
      obtain ⟨t1, t2, t3⟩ := ht
      have hSt := w3.1.ag t1
      have e127 : zi t 127 = zi s 127 := funext fun k => (t1.2.2.2.2 127 k (show ¬ ((127 : Nat) = 150) by decide)).1
      have f2 : ¬ (3 : Int32) ≤ iN j := fun q => absurd ((iN_le (a := 3) (by decide) (by omega)).mp q) (by omega)
      have j1 : iN j + 1 = iN (j + 1) := iN_add _ _
      have b45 := q_r125_45 hSt
      have bkt := q_ck125 hSt
      have b3 := q_r125_3 hSt
      have st : ∀ v, stI t 150 (3 * iN i + iN j) v = some (zsi t 150 (3 * i + j) v) := fun v => by
        rw [show (3 : Int32) = iN 3 from rfl, iN_mul, iN_add]
        exact q_st150 (by omega) hSt
      have c2 : zi t 127 2 = iN nB := by rw [e127]; exact w3.c2
      have fin : ∀ v, (j < nB → v = trP B R j hr i) → (Ag (fun a _ => a = 150) s (zsi t 150 (3 * i + j) v) ∧ (∀ n, n < i → ∀ b, b < nB → zi (zsi t 150 (3 * i + j) v) 150 (3 * n + b) = trP B R b hr n) ∧ ∀ b, b < j + 1 → b < nB → zi (zsi t 150 (3 * i + j) v) 150 (3 * i + b) = trP B R b hr i) := fun v hv => by
        refine ⟨t1.trans (Ag.zsi rfl), fun n hn b hb => ?_, fun b hb hb2 => ?_⟩
        · rw [zi_miss (by omega)]
          exact t2 n hn b hb
        · by_cases c : b = j
          · subst c
            rw [zi_hit]
            exact hv hb2
          · rw [zi_miss (by omega)]
            exact t3 b (by omega) hb2
      by_cases cj : j < nB
      · have ib := bg9_t hSt c2 (Nat.le_trans hb3 (by decide)) cj
        have l21 : ldI 11 t 127 (21 + iN j) = some (trP B R j hr i) := by
          rw [show (21 : Int32) = iN 21 from rfl, iN_add, q_ld127 (by omega) hSt, e127, w3.2.1, rowN_sow h.2.2.1 cj i]
        exact ⟨zsi t 150 (3 * i + j) (trP B R j hr i), by simp only [s_X9_layLater_b16, s_X9_layLater_j51, f2, b45, bkt, ib, b3, l21, st, j1, z10', if_true, if_false, bind_ok, Option.bind_some, cb_some], fin _ (fun _ => rfl)⟩
      · have ib := bg9_f hSt c2 (Nat.le_trans hb3 (by decide)) (no_of_ge (show nB ≤ j by omega) (by omega))
        exact ⟨zsi t 150 (3 * i + j) (-1), by simp only [s_X9_layLater_b16, s_X9_layLater_j51, f2, b45, bkt, ib, st, j1, z10', if_true, if_false, bind_ok, Option.bind_some, cb_some], fin _ (fun q => absurd q cj)⟩) (fun t ht => by
      have f2 : (3 : Int32) ≤ iN 3 := by decide
      refine ⟨t, by simp only [s_X9_layLater_b16, f2, z10', if_true, if_false, bind_ok, Option.bind_some, cb_some], ht.1, fun n hn b hb => ?_⟩
      by_cases c : n = i
      · subst c
        exact ht.2.2 b (by omega) hb
      · exact ht.2.1 n (by omega) b hb) (σ := s) ⟨Ag.refl, w4, fun b hb => by omega⟩
    have k1 : s_X9_layLater_l16 (125, iN i, 0) s = _ := k1
    have A2 : Ag S9v s s2 := k2.mono (fun a k q => Or.inr (Or.inl (by omega)))
    have n92 : M9 nP nF nB nT nS nL 2000 B (rowN B R nB hr i) s2 := w3.row (A2.mono (fun _ _ q => q.w)) (by rw [← w3.2.1]; exact funext fun k => (k2.2.2.2.2 127 k (show ¬ ((127 : Nat) = 150) by decide)).1) w3.2.2.1
    have bk2 := q_ck125 n92.1
    obtain ⟨s3, v1, v2, v3, v4⟩ := goT9 n92 (by omega) h7 (by omega)
    refine ⟨s3, by simp only [s_X9_layLater_b8, f1, k1, bk2, v1, i1, z10', if_true, if_false, bind_ok, Option.bind_some, cb_some], (w1.trans A2).trans (v2.mono (fun _ _ q => q.v)), ?_, v4, fun n hn b hb => ?_⟩
    · rw [v3, ← w2]
      exact funext fun k => (k2.2.2.2.2 127 k (show ¬ ((127 : Nat) = 150) by decide)).2
    · rw [(v2.2.2.2.2 150 (3 * n + b) (by
        rintro (q | q | q)
        · exact S9.n (by decide) (Or.inl (by decide)) q
        · omega
        · omega)).1]
      exact k3 n hn b hb) (fun s hs => by
    have f1 : (60 : Int32) < iN 61 := by decide
    exact ⟨s, by simp only [s_X9_layLater_b8, f1, z10', if_true, if_false, bind_ok, Option.bind_some, cb_some], hs.1, hs.2.1, hs.2.2.2⟩) (σ := sa) ⟨Ag.refl, rfl, u3, fun n hn => by omega⟩
  have g1 : s_X9_layLater_l8 (125, 0) sa = _ := g1
  obtain ⟨s1, x1, x2⟩ := put_back h u2 u4 u5 g2 g3
  have bkb := q_ck125 ((u3.1).ag g2)
  have e127 : zi s1 127 = R := by
    rw [← h.2.1]
    exact funext fun k => (x2.2.2.2.2 127 k (S9p.n fr_127 (Or.inl (by decide)))).1
  refine ⟨s1, by simp only [s_X9_layLater, bk, u1, g1, bkb, x1, z10', if_true, if_false, bind_ok, Option.bind_some, cb_some], x2, fun n hn b hb => ?_, h.row (x2.mono (fun _ _ q => Or.inl q)) e127 h.2.2.1⟩
  obtain ⟨s1b, y1, y2, y3, y4⟩ := put9 ((u3.1).ag g2) (k := 16) (by decide)
  have y1 : s_X9_putBack 125 16 s = some ((), s1b) := y1
  rw [x1] at y1
  cases y1
  rw [(y2.2.2.2.2 150 (3 * n + b) (fun q => absurd q.1 (by decide))).1]
  exact g4 n hn b hb
theorem that9 (h : M9 nP nF nB nT nS nL 999 B R σ) (hL : Ltr σ B R hr nB 61) : s_X9_thatCanBe 125 σ = some (iN (setN (soP B R nS hr) nB), σ) := by
  have hb3 := h.2.2.1.1.2.2.1
  have hs6 := h.2.2.1.1.2.2.2.2.1
  have b3 := q_r125_3 h.1
  have b45 := q_r125_45 h.1
  have l2 : ldI 11 σ 127 2 = some (iN nB) := (rw_2 h.1).trans (by rw [h.c2])
  have l4 : ldI 11 σ 127 4 = some (iN nS) := (rw_4 h.1).trans (by rw [h.c4])
  obtain ⟨s9, g1, g2⟩ := loop_to (body := fun v => s_X9_thatCanBe_b4 (v.1) (v.2.1) (v.2.2)) (fun _ s => s = σ) (fun s => s = σ) (fun i => (125, iN (setN (soP B R nS hr) i), iN i)) (iN (setN (soP B R nS hr) nB)) nB (fun i s hi hs => by
    subst hs
    have f1 : ¬ iN nB ≤ iN i := (fun h => absurd ((iN_le (by omega) (by omega)).mp h) (by omega))
    have i1 : iN i + 1 = iN (i + 1) := iN_add _ _
    obtain ⟨s3, k1, k2⟩ := loop_to (body := fun v => s_X9_thatCanBe_b19 (v.1) (v.2.1) (v.2.2.1) (v.2.2.2.1) (v.2.2.2.2)) (fun _ t => t = s) (fun t => t = s) (fun k => (125, iN (setN (soP B R nS hr) i), iN i, bI (allN k (fun k => decide (trP B R i hr (R (166 + 2 * k)).toNatClampNeg = R (167 + 2 * k)))), iN k)) (125, iN (setN (soP B R nS hr) i), iN i, bI (soP B R nS hr i)) nS (fun k t hk ht => by
      subst ht
      have f3 : ¬ iN nS ≤ iN k := (fun h => absurd ((iN_le (by omega) (by omega)).mp h) (by omega))
      have k1 : iN k + 1 = iN (k + 1) := iN_add _ _
      obtain ⟨m, hm, em⟩ := seen_n h.2.2.1 (k := k) (by omega)
      have la : ldI 11 t 127 (166 + 2 * iN k) = some (iN m) := by
        rw [show (166 : Int32) = iN 166 from rfl, show (2 : Int32) = iN 2 from rfl, iN_mul, iN_add, q_ld127 (by omega) h.1, h.2.1, em]
      have lc : ldI 11 t 127 (166 + 2 * iN k + 1) = some (R (167 + 2 * k)) := by
        rw [show (166 : Int32) = iN 166 from rfl, show (2 : Int32) = iN 2 from rfl, show (1 : Int32) = iN 1 from rfl, iN_mul, iN_add, iN_add, q_ld127 (by omega) h.1, h.2.1, show 166 + 2 * k + 1 = 167 + 2 * k by omega]
      have lb : ldI 11 t 150 (3 * iN m + iN i) = some (trP B R i hr m) := by
        rw [show (3 : Int32) = iN 3 from rfl, iN_mul, iN_add, q_ld150 (by omega) h.1, hL m (by omega) i hi]
      refine ⟨t, ?_, rfl⟩
      rw [allN_s, em, iN_nat (by omega)]
      cases ca : allN k (fun k => decide (trP B R i hr (R (166 + 2 * k)).toNatClampNeg = R (167 + 2 * k))) with
      | false =>
        simp only [s_X9_thatCanBe_b19, s_X9_thatCanBe_j78, s_X9_thatCanBe_j79, b3, l4, f3, bI_f, k1, Bool.false_and, z10', if_true, if_false, bind_ok, Option.bind_some, cb_some]
      | true =>
        by_cases c : trP B R i hr m = R (167 + 2 * k)
        · rw [decide_eq_true c]
          simp only [s_X9_thatCanBe_b19, s_X9_thatCanBe_j79, b3, b45, l4, f3, la, lb, lc, c, bI_t, k1, Bool.and_true, z10', if_true, if_false, bind_ok, Option.bind_some, cb_some]
        · rw [decide_eq_false c]
          simp only [s_X9_thatCanBe_b19, s_X9_thatCanBe_j78, s_X9_thatCanBe_j79, b3, b45, l4, f3, la, lb, lc, c, bI_t, bI_f, k1, Bool.and_false, z10', if_true, if_false, bind_ok, Option.bind_some, cb_some]) (fun t ht => by
      subst ht
      have f3 : iN nS ≤ iN nS := Int32.le_refl _
      exact ⟨t, by simp only [s_X9_thatCanBe_b19, b3, l4, f3, z10', if_true, if_false, bind_ok, Option.bind_some, cb_some]; rfl, rfl⟩) (σ := s) rfl
    subst k2
    have k1 : s_X9_thatCanBe_l19 (125, iN (setN (soP B R nS hr) i), iN i, 1, 0) s3 = _ := k1
    refine ⟨s3, ?_, rfl⟩
    rw [setN_s]
    cases c : soP B R nS hr i with
    | true =>
      rw [c] at k1
      rw [if_pos rfl, ← iN_or, ← shl1 i (by omega)]
      simp only [s_X9_thatCanBe_b4, s_X9_thatCanBe_j98, b3, l2, f1, k1, bI_t, i1, z10', if_true, if_false, bind_ok, Option.bind_some, cb_some]
    | false =>
      rw [c] at k1
      rw [if_neg (by decide)]
      simp only [s_X9_thatCanBe_b4, s_X9_thatCanBe_j98, b3, l2, f1, k1, bI_f, i1, Int32.or_zero, z10', if_true, if_false, bind_ok, Option.bind_some, cb_some]) (fun s hs => by
    subst hs
    have f1 : iN nB ≤ iN nB := Int32.le_refl _
    exact ⟨s, by simp only [s_X9_thatCanBe_b4, b3, l2, f1, z10', if_true, if_false, bind_ok, Option.bind_some, cb_some], rfl⟩) (σ := σ) rfl
  subst g2
  have g1 : s_X9_thatCanBe_l4 (125, 0, 0) s9 = _ := g1
  simp only [s_X9_thatCanBe, g1, cb_some]
end ON
theorem b_canBe (hr : Rel σ) : Both (s_X8_canBe 0) (s_X9_canBe 125) σ := by
  have hS := hr.1.1
  refine hr.both2 (fun nP nF nB nT nS nL B m8 m9 => ?_)
  obtain ⟨hh, hh1, hh2⟩ := bd_hour m8
  have r0 := q_r0_0 hS
  have r10 := q_r0_10 hS
  have k113 := q_ck113 hS
  refine ⟨iN (setN (soP B (zi σ 127) nS hh) nB), ?_, fun σ1 q => ?_⟩
  · obtain ⟨s, g1, g2, g3⟩ := who8 m8 hS (hr := hh) (by omega) hh2
    exact ⟨s, by simp only [s_X8_canBe, r10, r0, k113, g1, z10', if_true, if_false, bind_ok, Option.bind_some, cb_some], s8t_p g2⟩
  · have w := q_w125 (k := 0) (v := 0) q.1; have q2 := q.thrown.2; have bk := q_ck125 q2.1; have b3 := q_r125_3 q2.1
    obtain ⟨s, g1, g2, g3, g4⟩ := later9 q2 hh1 hh2
    have bkb := q_ck125 g4.1
    have th := that9 g4 g3
    exact ⟨s, by simp only [s_X9_canBe, w, bk, g1, bkb, th, z10', if_true, if_false, bind_ok, Option.bind_some, cb_some], q.thrown.1.p.trans g2⟩
end V28
