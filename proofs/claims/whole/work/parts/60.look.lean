/-! ===== canBe, look ===== -/
section V28
variable {σ : Hp}
def allN (n : Nat) (f : Nat → Bool) : Bool := foldN (fun k a => a && f k) n true
theorem allN_s {f : Nat → Bool} {n : Nat} : allN (n + 1) f = (allN n f && f n) := rfl
section ON
variable {nP nF nB nT nS nL H hr : Nat} {B : Book} {R : Nat → Int32}
/-- is all that was seen so of a badger -/
def soP (B : Book) (R : Nat → Int32) (nS hr b : Nat) : Bool := allN nS (fun k => decide (trP B R b hr (R (166 + 2 * k)).toNatClampNeg = R (167 + 2 * k)))
theorem seen_n {k : Nat} (h : WF nP nF nB nT nS nL H R) (hk : k < 6) : ∃ m, m ≤ 60 ∧ R (166 + 2 * k) = iN m := h.seenH hk
/-- tracks laid -/
def Trk (σ : Hp) (B : Book) (R : Nat → Int32) (hr m : Nat) : Prop := ∀ b, b < m → ∀ n, n < 61 → zi σ (116 + b) n = trP B R b hr n
def S8t (a k : Nat) : Prop := S8 a k ∨ (116 ≤ a ∧ a ≤ 118)
theorem s8t_p {s : Hp} (e : Ag S8t σ s) : Ag S8p σ s := e.mono (fun a k q => q.elim Or.inl (fun w => Or.inr (by omega)))
theorem who8 (m8 : M8 1 nP nF nB nT nS nL H B R σ) (hS : SK σ) (hr2 : hr < 100000) (h7 : R 7 = iN hr) :
    ∃ s, s_X2_whoCanBe 113 (some 1) σ = some (iN (setN (soP B R nS hr) nB), s) ∧ Ag S8t σ s ∧ Trk s B R hr nB := by
  have hb3 := m8.b3
  have hs6 := m8.2.2.2.1.1.2.2.2.2.1
  obtain ⟨s9, g1, g2, g3⟩ := loop_to (body := fun v => s_X2_whoCanBe_b4 (v.1) (v.2.1) (v.2.2.1) (v.2.2.2)) (fun i s => Ag S8t σ s ∧ Trk s B R hr i) (fun s => Ag S8t σ s ∧ Trk s B R hr nB) (fun i => (113, some 1, iN (setN (soP B R nS hr) i), iN i)) (iN (setN (soP B R nS hr) nB)) nB (fun i s hi hs => by
    obtain ⟨hs1, hs2⟩ := hs
    have n8 := m8.agp (s8t_p hs1)
    have hSs := hS.ag hs1
    have c14 : zi s 1 14 = iN nB := n8.2.2.1.g2.trans n8.2.2.2.1.2.1.2.2.1
    have i0 := h_i0 (k := 14) n8.2.1
    rw [c14] at i0
    have f1 : ¬ iN nB ≤ iN i := (fun h => absurd ((iN_le (by omega) (by omega)).mp h) (by omega))
    have f2 : ¬ (3 : Int32) ≤ iN i := fun q => absurd ((iN_le (a := 3) (by decide) (by omega)).mp q) (by omega)
    have i1 : iN i + 1 = iN (i + 1) := iN_add _ _
    have kk := q_ck113 hSs
    obtain ⟨s2, d1, d2, d3⟩ := track8 n8 hSs hr2 h7 hi
    have A2 : Ag S8t σ s2 := hs1.trans (d2.mono (fun a k q => q.elim Or.inl (fun e => Or.inr (by omega))))
    have n82 := m8.agp (s8t_p A2)
    have hS2 := hS.ag A2
    have T2 : Trk s2 B R hr (i + 1) := fun b hb n hn => by
      by_cases c : b = i
      · subst c
        exact d3 n hn
      · rw [(d2.2.2.2.2 (116 + b) n (fun q => q.elim (fun w => by unfold S8 at w; omega) (fun e => c (by omega)))).1]
        exact hs2 b (by omega) n hn
    obtain ⟨s3, k1, k2⟩ := loop_to (body := fun v => s_X2_whoCanBe_b29 (v.1) (v.2.1) (v.2.2.1) (v.2.2.2.1) (v.2.2.2.2.1) (v.2.2.2.2.2)) (fun _ t => t = s2) (fun t => t = s2) (fun k => (113, some 1, iN (setN (soP B R nS hr) i), iN i, bI (allN k (fun k => decide (trP B R i hr (R (166 + 2 * k)).toNatClampNeg = R (167 + 2 * k)))), iN k)) (113, some 1, iN (setN (soP B R nS hr) i), iN i, bI (soP B R nS hr i)) nS (fun k t hk ht => by
      subst ht
      have c16 : zi t 1 16 = iN nS := n82.2.2.1.g4.trans n82.2.2.2.1.2.1.2.2.2.2.1
      have j0 := h_i0 (k := 16) n82.2.1
      rw [c16] at j0
      have f3 : ¬ iN nS ≤ iN k := (fun h => absurd ((iN_le (by omega) (by omega)).mp h) (by omega))
      have f4 : ¬ (6 : Int32) ≤ iN k := fun q => absurd ((iN_le (a := 6) (by decide) (by omega)).mp q) (by omega)
      have k1 : iN k + 1 = iN (k + 1) := iN_add _ _
      have r8 := h_r0_8 n82.2.1
      have r9 := h_r0_9 n82.2.1
      have l12 := h_ld12 (n := k) (by omega) n82.2.1
      obtain ⟨m, hm, em⟩ := seen_n n82.2.2.2.1 (k := k) (by omega)
      rw [n82.2.2.1.seenH (by omega), em] at l12
      have l13 := h_ld13 (n := k) (by omega) n82.2.1
      rw [n82.2.2.1.seenR (by omega)] at l13
      have f5 : ¬ iN m < 0 := iN_nn (by omega)
      have f6 : ¬ (60 : Int32) < iN m := fun q => absurd ((iN_lt (a := 60) (by decide) (by omega)).mp q) (by omega)
      have rp := q_r113_1 hS2
      have la := ld115 hS2 (bd := i) (by omega)
      have lb := ldtr hS2 (bd := i) (n := m) (by omega) (by omega)
      rw [T2 i (by omega) m (by omega)] at lb
      refine ⟨t, ?_, rfl⟩
      rw [allN_s, em, iN_nat (by omega)]
      by_cases c : trP B R i hr m = R (167 + 2 * k)
      · rw [decide_eq_true c, Bool.and_true]
        simp only [s_X2_whoCanBe_b29, s_X2_whoCanBe_j88, j0, f3, f4, r8, l12, f5, f6, rp, la, lb, r9, l13, c, k1, z10', if_true, if_false, bind_ok, Option.bind_some, cb_some]
      · rw [decide_eq_false c, Bool.and_false]
        simp only [s_X2_whoCanBe_b29, s_X2_whoCanBe_j85, s_X2_whoCanBe_j88, j0, f3, f4, r8, l12, f5, f6, rp, la, lb, r9, l13, c, k1, bI_f, z10', if_true, if_false, bind_ok, Option.bind_some, cb_some]) (fun t ht => by
      subst ht
      have c16 : zi t 1 16 = iN nS := n82.2.2.1.g4.trans n82.2.2.2.1.2.1.2.2.2.2.1
      have j0 := h_i0 (k := 16) n82.2.1
      rw [c16] at j0
      have f3 : iN nS ≤ iN nS := Int32.le_refl _
      exact ⟨t, by simp only [s_X2_whoCanBe_b29, j0, f3, z10', if_true, if_false, bind_ok, Option.bind_some, cb_some]; rfl, rfl⟩) (σ := s2) rfl
    subst k2
    have k1 : s_X2_whoCanBe_l29 (113, some 1, iN (setN (soP B R nS hr) i), iN i, 1, 0) s3 = _ := k1
    refine ⟨s3, ?_, A2, T2⟩
    rw [setN_s]
    cases c : soP B R nS hr i with
    | true =>
      rw [c] at k1
      rw [if_pos rfl, ← iN_or, ← shl1 i (by omega)]
      simp only [s_X2_whoCanBe_b4, s_X2_whoCanBe_j94, s_X2_whoCanBe_j107, i0, f1, f2, kk, d1, k1, bI_t, i1, z10', if_true, if_false, bind_ok, Option.bind_some, cb_some]
    | false =>
      rw [c] at k1
      rw [if_neg (by decide)]
      simp only [s_X2_whoCanBe_b4, s_X2_whoCanBe_j94, s_X2_whoCanBe_j107, i0, f1, f2, kk, d1, k1, bI_f, i1, Int32.or_zero, z10', if_true, if_false, bind_ok, Option.bind_some, cb_some]) (fun s hs => by
    have n8 := m8.agp (s8t_p hs.1)
    have c14 : zi s 1 14 = iN nB := n8.2.2.1.g2.trans n8.2.2.2.1.2.1.2.2.1
    have i0 := h_i0 (k := 14) n8.2.1
    rw [c14] at i0
    have f1 : iN nB ≤ iN nB := Int32.le_refl _
    exact ⟨s, by simp only [s_X2_whoCanBe_b4, i0, f1, z10', if_true, if_false, bind_ok, Option.bind_some, cb_some], hs⟩) (σ := σ) ⟨Ag.refl, fun b hb => by omega⟩
  have g1 : s_X2_whoCanBe_l4 (113, some 1, 0, 0) σ = _ := g1
  refine ⟨s9, ?_, g2, g3⟩
  simp only [s_X2_whoCanBe, g1, cb_some]
/-- where all badgers are laid for later -/
def Ltr (σ : Hp) (B : Book) (R : Nat → Int32) (hr nB m : Nat) : Prop := ∀ n, n < m → ∀ b, b < nB → zi σ 150 (3 * n + b) = trP B R b hr n
theorem later9 (h : M9 nP nF nB nT nS nL 999 B R σ) (h3 : hr ≤ 999) (h7 : R 7 = iN hr) :
    ∃ s, s_X9_layLater 125 σ = some ((), s) ∧ Ag S9p σ s ∧ Ltr s B R hr nB 61 ∧ M9 nP nF nB nT nS nL 999 B R s := by
  have hb3 := h.2.2.1.1.2.2.1
  have bk := q_ck125 h.1
  obtain ⟨sa, u1, u2, u3, u4, u5⟩ := (h.hi (H2 := 2000) (by decide)).keep
  obtain ⟨s, g1, g2, g3, g4⟩ := loop_to (body := fun v => s_X9_layLater_b8 (v.1) (v.2)) (fun i s => Ag S9v sa s ∧ zj s 127 = zj sa 127 ∧ M9 nP nF nB nT nS nL 2000 B (rowN B R nB hr i) s ∧ Ltr s B R hr nB i) (fun s => Ag S9v sa s ∧ zj s 127 = zj sa 127 ∧ Ltr s B R hr nB 61) (fun i => (125, iN i)) 125 61 (fun i s hi hs => by
    obtain ⟨w1, w2, w3, w4⟩ := hs
    have f1 : ¬ (60 : Int32) < iN i := fun q => absurd ((iN_lt (a := 60) (by decide) (by omega)).mp q) (by omega)
    have i1 : iN i + 1 = iN (i + 1) := iN_add _ _
    obtain ⟨s2, k1, k2, k3⟩ := loop_to (body := fun v => s_X9_layLater_b16 (v.1) (v.2.1) (v.2.2)) (fun j t => Ag (fun a _ => a = 150) s t ∧ (∀ n, n < i → ∀ b, b < nB → zi t 150 (3 * n + b) = trP B R b hr n) ∧ ∀ b, b < j → b < nB → zi t 150 (3 * i + b) = trP B R b hr i) (fun t => Ag (fun a _ => a = 150) s t ∧ Ltr t B R hr nB (i + 1)) (fun j => (125, iN i, iN j)) (125, iN i) 3 (fun j t hj ht => by
      obtain ⟨t1, t2, t3⟩ := ht
      have hSt := w3.1.ag t1
      have e127 : zi t 127 = zi s 127 := funext fun k => (t1.2.2.2.2 127 k (show ¬ ((127 : Nat) = 150) by decide)).1
      have f2 : ¬ (3 : Int32) ≤ iN j := fun q => absurd ((iN_le (a := 3) (by decide) (by omega)).mp q) (by omega)
      have j1 : iN j + 1 = iN (j + 1) := iN_add _ _
      have b45 := q_r125_45 hSt
      have bkt := q_ck125 hSt
      have b3 := q_r125_3 hSt
      have st : ∀ v, stI t 150 (3 * iN i + iN j) v = some (zsi t 150 (3 * i + j) v) := fun v => by
        rw [show (3 : Int32) = iN 3 from rfl, iN_mul, iN_add]
        exact q_st150 (by omega) hSt
      have c2 : zi t 127 2 = iN nB := by rw [e127]; exact w3.c2
      have fin : ∀ v, (j < nB → v = trP B R j hr i) → (Ag (fun a _ => a = 150) s (zsi t 150 (3 * i + j) v) ∧ (∀ n, n < i → ∀ b, b < nB → zi (zsi t 150 (3 * i + j) v) 150 (3 * n + b) = trP B R b hr n) ∧ ∀ b, b < j + 1 → b < nB → zi (zsi t 150 (3 * i + j) v) 150 (3 * i + b) = trP B R b hr i) := fun v hv => by
        refine ⟨t1.trans (Ag.zsi rfl), fun n hn b hb => ?_, fun b hb hb2 => ?_⟩
        · rw [zi_miss (by omega)]
          exact t2 n hn b hb
        · by_cases c : b = j
          · subst c
            rw [zi_hit]
            exact hv hb2
          · rw [zi_miss (by omega)]
            exact t3 b (by omega) hb2
      by_cases cj : j < nB
      · have ib := bg9_t hSt c2 (Nat.le_trans hb3 (by decide)) cj
        have l21 : ldI 11 t 127 (21 + iN j) = some (trP B R j hr i) := by
          rw [show (21 : Int32) = iN 21 from rfl, iN_add, q_ld127 (by omega) hSt, e127, w3.2.1, rowN_sow h.2.2.1 cj i]
        exact ⟨zsi t 150 (3 * i + j) (trP B R j hr i), by simp only [s_X9_layLater_b16, s_X9_layLater_j51, f2, b45, bkt, ib, b3, l21, st, j1, z10', if_true, if_false, bind_ok, Option.bind_some, cb_some], fin _ (fun _ => rfl)⟩
      · have ib := bg9_f hSt c2 (Nat.le_trans hb3 (by decide)) (no_of_ge (show nB ≤ j by omega) (by omega))
        exact ⟨zsi t 150 (3 * i + j) (-1), by simp only [s_X9_layLater_b16, s_X9_layLater_j51, f2, b45, bkt, ib, st, j1, z10', if_true, if_false, bind_ok, Option.bind_some, cb_some], fin _ (fun q => absurd q cj)⟩) (fun t ht => by
      have f2 : (3 : Int32) ≤ iN 3 := by decide
      refine ⟨t, by simp only [s_X9_layLater_b16, f2, z10', if_true, if_false, bind_ok, Option.bind_some, cb_some], ht.1, fun n hn b hb => ?_⟩
      by_cases c : n = i
      · subst c
        exact ht.2.2 b (by omega) hb
      · exact ht.2.1 n (by omega) b hb) (σ := s) ⟨Ag.refl, w4, fun b hb => by omega⟩
    have k1 : s_X9_layLater_l16 (125, iN i, 0) s = _ := k1
    have A2 : Ag S9v s s2 := k2.mono (fun a k q => Or.inr (Or.inl (by omega)))
    have n92 : M9 nP nF nB nT nS nL 2000 B (rowN B R nB hr i) s2 := w3.row (A2.mono (fun _ _ q => q.w)) (by rw [← w3.2.1]; exact funext fun k => (k2.2.2.2.2 127 k (show ¬ ((127 : Nat) = 150) by decide)).1) w3.2.2.1
    have bk2 := q_ck125 n92.1
    obtain ⟨s3, v1, v2, v3, v4⟩ := goT9 n92 (by omega) h7 (by omega)
    refine ⟨s3, by simp only [s_X9_layLater_b8, f1, k1, bk2, v1, i1, z10', if_true, if_false, bind_ok, Option.bind_some, cb_some], (w1.trans A2).trans (v2.mono (fun _ _ q => q.v)), ?_, v4, fun n hn b hb => ?_⟩
    · rw [v3, ← w2]
      exact funext fun k => (k2.2.2.2.2 127 k (show ¬ ((127 : Nat) = 150) by decide)).2
    · rw [(v2.2.2.2.2 150 (3 * n + b) (by
        rintro (q | q | q)
        · exact S9.n (by decide) (Or.inl (by decide)) q
        · omega
        · omega)).1]
      exact k3 n hn b hb) (fun s hs => by
    have f1 : (60 : Int32) < iN 61 := by decide
    exact ⟨s, by simp only [s_X9_layLater_b8, f1, z10', if_true, if_false, bind_ok, Option.bind_some, cb_some], hs.1, hs.2.1, hs.2.2.2⟩) (σ := sa) ⟨Ag.refl, rfl, u3, fun n hn => by omega⟩
  have g1 : s_X9_layLater_l8 (125, 0) sa = _ := g1
  obtain ⟨s1, x1, x2⟩ := put_back h u2 u4 u5 g2 g3
  have bkb := q_ck125 ((u3.1).ag g2)
  have e127 : zi s1 127 = R := by
    rw [← h.2.1]
    exact funext fun k => (x2.2.2.2.2 127 k (S9p.n fr_127 (Or.inl (by decide)))).1
  refine ⟨s1, by simp only [s_X9_layLater, bk, u1, g1, bkb, x1, z10', if_true, if_false, bind_ok, Option.bind_some, cb_some], x2, fun n hn b hb => ?_, h.row (x2.mono (fun _ _ q => Or.inl q)) e127 h.2.2.1⟩
  obtain ⟨s1b, y1, y2, y3, y4⟩ := put9 ((u3.1).ag g2) (k := 16) (by decide)
  have y1 : s_X9_putBack 125 16 s = some ((), s1b) := y1
  rw [x1] at y1
  cases y1
  rw [(y2.2.2.2.2 150 (3 * n + b) (fun q => absurd q.1 (by decide))).1]
  exact g4 n hn b hb
theorem that9 (h : M9 nP nF nB nT nS nL 999 B R σ) (hL : Ltr σ B R hr nB 61) : s_X9_thatCanBe 125 σ = some (iN (setN (soP B R nS hr) nB), σ) := by
  have hb3 := h.2.2.1.1.2.2.1
  have hs6 := h.2.2.1.1.2.2.2.2.1
  have b3 := q_r125_3 h.1
  have b45 := q_r125_45 h.1
  have l2 : ldI 11 σ 127 2 = some (iN nB) := (rw_2 h.1).trans (by rw [h.c2])
  have l4 : ldI 11 σ 127 4 = some (iN nS) := (rw_4 h.1).trans (by rw [h.c4])
  obtain ⟨s9, g1, g2⟩ := loop_to (body := fun v => s_X9_thatCanBe_b4 (v.1) (v.2.1) (v.2.2)) (fun _ s => s = σ) (fun s => s = σ) (fun i => (125, iN (setN (soP B R nS hr) i), iN i)) (iN (setN (soP B R nS hr) nB)) nB (fun i s hi hs => by
    subst hs
    have f1 : ¬ iN nB ≤ iN i := (fun h => absurd ((iN_le (by omega) (by omega)).mp h) (by omega))
    have i1 : iN i + 1 = iN (i + 1) := iN_add _ _
    obtain ⟨s3, k1, k2⟩ := loop_to (body := fun v => s_X9_thatCanBe_b19 (v.1) (v.2.1) (v.2.2.1) (v.2.2.2.1) (v.2.2.2.2)) (fun _ t => t = s) (fun t => t = s) (fun k => (125, iN (setN (soP B R nS hr) i), iN i, bI (allN k (fun k => decide (trP B R i hr (R (166 + 2 * k)).toNatClampNeg = R (167 + 2 * k)))), iN k)) (125, iN (setN (soP B R nS hr) i), iN i, bI (soP B R nS hr i)) nS (fun k t hk ht => by
      subst ht
      have f3 : ¬ iN nS ≤ iN k := (fun h => absurd ((iN_le (by omega) (by omega)).mp h) (by omega))
      have k1 : iN k + 1 = iN (k + 1) := iN_add _ _
      obtain ⟨m, hm, em⟩ := seen_n h.2.2.1 (k := k) (by omega)
      have la : ldI 11 t 127 (166 + 2 * iN k) = some (iN m) := by
        rw [show (166 : Int32) = iN 166 from rfl, show (2 : Int32) = iN 2 from rfl, iN_mul, iN_add, q_ld127 (by omega) h.1, h.2.1, em]
      have lc : ldI 11 t 127 (166 + 2 * iN k + 1) = some (R (167 + 2 * k)) := by
        rw [show (166 : Int32) = iN 166 from rfl, show (2 : Int32) = iN 2 from rfl, show (1 : Int32) = iN 1 from rfl, iN_mul, iN_add, iN_add, q_ld127 (by omega) h.1, h.2.1, show 166 + 2 * k + 1 = 167 + 2 * k by omega]
      have lb : ldI 11 t 150 (3 * iN m + iN i) = some (trP B R i hr m) := by
        rw [show (3 : Int32) = iN 3 from rfl, iN_mul, iN_add, q_ld150 (by omega) h.1, hL m (by omega) i hi]
      refine ⟨t, ?_, rfl⟩
      rw [allN_s, em, iN_nat (by omega)]
      cases ca : allN k (fun k => decide (trP B R i hr (R (166 + 2 * k)).toNatClampNeg = R (167 + 2 * k))) with
      | false =>
        simp only [s_X9_thatCanBe_b19, s_X9_thatCanBe_j78, s_X9_thatCanBe_j79, b3, l4, f3, bI_f, k1, Bool.false_and, z10', if_true, if_false, bind_ok, Option.bind_some, cb_some]
      | true =>
        by_cases c : trP B R i hr m = R (167 + 2 * k)
        · rw [decide_eq_true c]
          simp only [s_X9_thatCanBe_b19, s_X9_thatCanBe_j79, b3, b45, l4, f3, la, lb, lc, c, bI_t, k1, Bool.and_true, z10', if_true, if_false, bind_ok, Option.bind_some, cb_some]
        · rw [decide_eq_false c]
          simp only [s_X9_thatCanBe_b19, s_X9_thatCanBe_j78, s_X9_thatCanBe_j79, b3, b45, l4, f3, la, lb, lc, c, bI_t, bI_f, k1, Bool.and_false, z10', if_true, if_false, bind_ok, Option.bind_some, cb_some]) (fun t ht => by
      subst ht
      have f3 : iN nS ≤ iN nS := Int32.le_refl _
      exact ⟨t, by simp only [s_X9_thatCanBe_b19, b3, l4, f3, z10', if_true, if_false, bind_ok, Option.bind_some, cb_some]; rfl, rfl⟩) (σ := s) rfl
    subst k2
    have k1 : s_X9_thatCanBe_l19 (125, iN (setN (soP B R nS hr) i), iN i, 1, 0) s3 = _ := k1
    refine ⟨s3, ?_, rfl⟩
    rw [setN_s]
    cases c : soP B R nS hr i with
    | true =>
      rw [c] at k1
      rw [if_pos rfl, ← iN_or, ← shl1 i (by omega)]
      simp only [s_X9_thatCanBe_b4, s_X9_thatCanBe_j98, b3, l2, f1, k1, bI_t, i1, z10', if_true, if_false, bind_ok, Option.bind_some, cb_some]
    | false =>
      rw [c] at k1
      rw [if_neg (by decide)]
      simp only [s_X9_thatCanBe_b4, s_X9_thatCanBe_j98, b3, l2, f1, k1, bI_f, i1, Int32.or_zero, z10', if_true, if_false, bind_ok, Option.bind_some, cb_some]) (fun s hs => by
    subst hs
    have f1 : iN nB ≤ iN nB := Int32.le_refl _
    exact ⟨s, by simp only [s_X9_thatCanBe_b4, b3, l2, f1, z10', if_true, if_false, bind_ok, Option.bind_some, cb_some], rfl⟩) (σ := σ) rfl
  subst g2
  have g1 : s_X9_thatCanBe_l4 (125, 0, 0) s9 = _ := g1
  simp only [s_X9_thatCanBe, g1, cb_some]
end ON
theorem b_canBe (hr : Rel σ) : Both (s_X8_canBe 0) (s_X9_canBe 125) σ := by
  have hS := hr.1.1
  refine hr.both2 (fun nP nF nB nT nS nL B m8 m9 => ?_)
  obtain ⟨hh, hh1, hh2⟩ := bd_hour m8
  have r0 := q_r0_0 hS
  have r10 := q_r0_10 hS
  have k113 := q_ck113 hS
  refine ⟨iN (setN (soP B (zi σ 127) nS hh) nB), ?_, fun σ1 q => ?_⟩
  · obtain ⟨s, g1, g2, g3⟩ := who8 m8 hS (hr := hh) (by omega) hh2
    exact ⟨s, by simp only [s_X8_canBe, r10, r0, k113, g1, z10', if_true, if_false, bind_ok, Option.bind_some, cb_some], s8t_p g2⟩
  · have w := q_w125 (k := 0) (v := 0) q.1; have q2 := q.thrown.2; have bk := q_ck125 q2.1; have b3 := q_r125_3 q2.1
    obtain ⟨s, g1, g2, g3, g4⟩ := later9 q2 hh1 hh2
    have bkb := q_ck125 g4.1
    have th := that9 g4 g3
    exact ⟨s, by simp only [s_X9_canBe, w, bk, g1, bkb, th, z10', if_true, if_false, bind_ok, Option.bind_some, cb_some], q.thrown.1.p.trans g2⟩
/-! look: how many can be together -/
def mtF (x : Nat → Nat) (m : Nat) : (Nat → Nat) × Nat := foldN (fun k q => if x k = 6 then q else (fun r => if r = x k then q.1 r + 1 else q.1 r, if q.2 < q.1 (x k) + 1 then q.1 (x k) + 1 else q.2)) m (fun _ => 0, 0)
theorem mtF_s {x : Nat → Nat} {m : Nat} : mtF x (m + 1) = if x m = 6 then mtF x m else (fun r => if r = x m then (mtF x m).1 r + 1 else (mtF x m).1 r, if (mtF x m).2 < (mtF x m).1 (x m) + 1 then (mtF x m).1 (x m) + 1 else (mtF x m).2) := rfl
theorem mtF_le {x : Nat → Nat} : ∀ m, (∀ r, (mtF x m).1 r ≤ m) ∧ (mtF x m).2 ≤ m
  | 0 => ⟨fun _ => Nat.le_refl 0, Nat.le_refl 0⟩
  | m + 1 => by
    obtain ⟨a, b⟩ := mtF_le (x := x) m
    rw [mtF_s]
    by_cases c : x m = 6
    · rw [if_pos c]
      exact ⟨fun r => Nat.le_succ_of_le (a r), Nat.le_succ_of_le b⟩
    · rw [if_neg c]
      have := a (x m)
      refine ⟨fun r => ?_, ?_⟩
      · show (if r = x m then (mtF x m).1 r + 1 else (mtF x m).1 r) ≤ m + 1
        have := a r
        split <;> omega
      · show (if (mtF x m).2 < (mtF x m).1 (x m) + 1 then (mtF x m).1 (x m) + 1 else (mtF x m).2) ≤ m + 1
        split <;> omega
def maC (x : Nat → Nat) (r m : Nat) : Nat := foldN (fun b a => a + if x b = r then 1 else 0) m 0
theorem maC_s {x : Nat → Nat} {r m : Nat} : maC x r (m + 1) = maC x r m + if x m = r then 1 else 0 := rfl
theorem maC_le {x : Nat → Nat} {r : Nat} : ∀ m, maC x r m ≤ m
  | 0 => Nat.le_refl 0
  | m + 1 => by
    have := maC_le (x := x) (r := r) m
    rw [maC_s]
    split <;> omega
theorem maC_ext {x : Nat → Nat} {r m : Nat} (h : m ≤ 3) (z : ∀ b, m ≤ b → x b ≠ r) : maC x r m = maC x r 3 := by
  have hq : m = 0 ∨ m = 1 ∨ m = 2 ∨ m = 3 := by omega
  rcases hq with rfl | rfl | rfl | rfl
  · rw [maC_s, maC_s, maC_s, if_neg (z 0 (by omega)), if_neg (z 1 (by omega)), if_neg (z 2 (by omega))]; rfl
  · rw [maC_s (m := 2), maC_s (m := 1), if_neg (z 1 (by omega)), if_neg (z 2 (by omega))]; rfl
  · rw [maC_s (m := 2), if_neg (z 2 (by omega))]; rfl
  · rfl
def maF (x : Nat → Nat) (m : Nat) : Nat := foldN (fun r a => if maC x r 3 ≤ a then a else maC x r 3) m 0
theorem maF_s {x : Nat → Nat} {m : Nat} : maF x (m + 1) = if maC x m 3 ≤ maF x m then maF x m else maC x m 3 := rfl
theorem maF_le {x : Nat → Nat} : ∀ m, maF x m ≤ 3
  | 0 => Nat.zero_le 3
  | m + 1 => by
    have := maF_le (x := x) m
    have := maC_le (x := x) (r := m) 3
    rw [maF_s]
    split <;> omega
def x3 (a b c : Nat) : Nat → Nat
  | 0 => a
  | 1 => b
  | _ => c
theorem mt_x3 {x : Nat → Nat} : (mtF x 3).2 = (mtF (x3 (x 0) (x 1) (x 2)) 3).2 := rfl
theorem ma_x3 {x : Nat → Nat} : maF x 6 = maF (x3 (x 0) (x 1) (x 2)) 6 := rfl
theorem mt_dec : ∀ a, a < 7 → ∀ b, b < 7 → ∀ c, c < 7 → (mtF (x3 a b c) 3).2 = maF (x3 a b c) 6 := by decide +kernel
theorem mt_ma {x : Nat → Nat} (h : ∀ k, x k ≤ 6) : (mtF x 3).2 = maF x 6 := by
  rw [mt_x3, ma_x3]
  have h0 := h 0
  have h1 := h 1
  have h2 := h 2
  exact mt_dec _ (by omega) _ (by omega) _ (by omega)
def lkF (t : Nat → Nat) (m : Nat) : Nat × Nat := foldN (fun k q => if q.2 ≤ t (k + 1) then q else (k + 1, t (k + 1))) m (0, t 0)
theorem lkF_s {t : Nat → Nat} {m : Nat} : lkF t (m + 1) = if (lkF t m).2 ≤ t (m + 1) then lkF t m else (m + 1, t (m + 1)) := rfl
theorem lkF_le {t : Nat → Nat} (h : ∀ k, t k ≤ 3) : ∀ m, (lkF t m).1 ≤ m ∧ (lkF t m).2 ≤ 3
  | 0 => ⟨Nat.le_refl 0, h 0⟩
  | m + 1 => by
    obtain ⟨a, b⟩ := lkF_le h m
    have := h (m + 1)
    rw [lkF_s]
    split
    · omega
    · exact ⟨Nat.le_refl _, h _⟩
section LK
variable {nP nF nB nT nS nL H hr : Nat} {B : Book} {R : Nat → Int32}
def xq (B : Book) (R : Nat → Int32) (nS nB hr n b : Nat) : Nat := if (decide (b < nB) && soP B R nS hr b) = true then (trP B R b hr n).toNatClampNeg else 6
theorem xq_6 {n b : Nat} (h : (decide (b < nB) && soP B R nS hr b) = false) : xq B R nS nB hr n b = 6 := by
  unfold xq
  rw [if_neg (by rw [h]; decide)]
theorem xq_r {n b : Nat} (hW : WF nP nF nB nT nS nL H R) (hb : b < 3) (h : (decide (b < nB) && soP B R nS hr b) = true) : xq B R nS nB hr n b < 6 ∧ trP B R b hr n = iN (xq B R nS nB hr n b) := by
  obtain ⟨r, r1, r2⟩ := trP_n (B := B) (hr := hr) hW hb n
  unfold xq
  rw [if_pos h, r2, iN_nat (by omega)]
  exact ⟨r1, rfl⟩
theorem xq_le {n b : Nat} (hW : WF nP nF nB nT nS nL H R) (h3 : nB ≤ 3) : xq B R nS nB hr n b ≤ 6 := by
  cases c : (decide (b < nB) && soP B R nS hr b) with
  | false => exact Nat.le_of_eq (xq_6 c)
  | true =>
    have hb : b < nB := of_decide_eq_true (by
      cases d : decide (b < nB)
      · rw [d, Bool.false_and] at c; exact absurd c (by decide)
      · rfl)
    exact Nat.le_of_lt (xq_r hW (by omega) c).1
/-- the most together of a minute -/
def mtP (B : Book) (R : Nat → Int32) (nS nB hr n : Nat) : Nat := (mtF (xq B R nS nB hr n) 3).2
theorem together8 {s : Hp} (hS : SK s) (hW : WF nP nF nB nT nS nL H R) (h3 : nB ≤ 3) (hT : Trk s B R hr nB) {n : Nat} (hn : n < 61) :
    ∃ s1, s_X2_mostTogether 113 (iN (setN (soP B R nS hr) nB)) (iN n) s = some (iN (mtP B R nS nB hr n), s1) ∧ Ag (fun a _ => a = 122) s s1 := by
  have r5 := q_r113_5 hS
  obtain ⟨sa, u1, u2, u3, u4⟩ := fill8 (v := 0) (hS.2.1 122 (by decide)).1 (hS.2.1 122 (by decide)).2 (by decide)
  have n0 : ¬ iN n < 0 := iN_nn (by omega)
  have n6 : ¬ (60 : Int32) < iN n := fun q => absurd ((iN_lt (a := 60) (by decide) (by omega)).mp q) (by omega)
  obtain ⟨s1, g1, g2⟩ := loop_to (body := fun v => s_X2_mostTogether_b13 (v.1) (v.2.1) (v.2.2.1) (v.2.2.2.1) (v.2.2.2.2)) (fun i t => Ag (fun a _ => a = 122) s t ∧ ∀ r, r < 6 → zi t 122 r = iN ((mtF (xq B R nS nB hr n) i).1 r)) (fun t => Ag (fun a _ => a = 122) s t) (fun i => (113, iN (setN (soP B R nS hr) nB), iN n, iN (mtF (xq B R nS nB hr n) i).2, iN i)) (iN (mtP B R nS nB hr n)) 3 (fun i t hi ht => by
    obtain ⟨t1, t2⟩ := ht
    have hSt := hS.ag t1
    have f1 : ¬ (3 : Int32) ≤ iN i := fun q => absurd ((iN_le (a := 3) (by decide) (by omega)).mp q) (by omega)
    have i1 : iN i + 1 = iN (i + 1) := iN_add _ _
    have hb : hbP (iN (setN (soP B R nS hr) nB)) (iN i) = (decide (i < nB) && soP B R nS hr i) := hb_set (by omega) (by omega)
    rw [mtF_s]
    cases c : (decide (i < nB) && soP B R nS hr i) with
    | false =>
      rw [c] at hb
      rw [if_pos (xq_6 c)]
      have rm := rm8_f (σ := t) (x := -1) (Or.inl (by decide))
      exact ⟨t, by simp only [s_X2_mostTogether_b13, s_X2_mostTogether_j50, s_X2_mostTogether_j51, s_X2_mostTogether_j85, f1, hb8, hb, bI_f, rm, i1, z10', if_true, if_false, bind_ok, Option.bind_some, cb_some], t1, t2⟩
    | true =>
      rw [c] at hb
      have hiB : i < nB := of_decide_eq_true (by
        cases d : decide (i < nB)
        · rw [d, Bool.false_and] at c; exact absurd c (by decide)
        · rfl)
      obtain ⟨x1, x2⟩ := xq_r (n := n) hW hi c
      rw [if_neg (by omega)]
      generalize xq B R nS nB hr n i = X at x1 x2 ⊢
      obtain ⟨a1, a2⟩ := mtF_le (x := xq B R nS nB hr n) i
      have aX := a1 X
      have rp := q_r113_1 hSt
      have r5t := q_r113_5 hSt
      have la := ld115 hSt (bd := i) (by omega)
      have lb := ldtr hSt (bd := i) (n := n) (by omega) (by omega)
      rw [(t1.2.2.2.2 (116 + i) n (show ¬ (116 + i = 122) by omega)).1, hT i hiB n hn, x2] at lb
      have rm := rm8_t (σ := t) x1
      have l5 := q_ld122 x1 hSt
      rw [t2 X x1] at l5
      have i2 : iN ((mtF (xq B R nS nB hr n) i).1 X) + 1 = iN ((mtF (xq B R nS nB hr n) i).1 X + 1) := iN_add _ _
      have sX := q_st122 (v := iN ((mtF (xq B R nS nB hr n) i).1 X + 1)) x1 hSt
      have A2 : Ag (fun a _ => a = 122) s (zsi t 122 X (iN ((mtF (xq B R nS nB hr n) i).1 X + 1))) := t1.trans (Ag.zsi rfl)
      have hS2 := hS.ag A2
      have r52 := q_r113_5 hS2
      have l52 := q_ld122 x1 hS2
      rw [zi_hit] at l52
      refine ⟨_, ?_, A2, fun r hr6 => ?_⟩
      · by_cases d : (mtF (xq B R nS nB hr n) i).2 < (mtF (xq B R nS nB hr n) i).1 X + 1
        · have d1 := (iN_lt (a := (mtF (xq B R nS nB hr n) i).2) (b := (mtF (xq B R nS nB hr n) i).1 X + 1) (by omega) (by omega)).mpr d
          rw [if_pos d]
          simp only [s_X2_mostTogether_b13, s_X2_mostTogether_j51, s_X2_mostTogether_j85, f1, hb8, hb, bI_t, n0, n6, rp, la, lb, rm, r5t, l5, i2, sX, r52, l52, d1, i1, z10', if_true, if_false, bind_ok, Option.bind_some, cb_some]
        · have d1 : ¬ iN (mtF (xq B R nS nB hr n) i).2 < iN ((mtF (xq B R nS nB hr n) i).1 X + 1) := fun q => d ((iN_lt (by omega) (by omega)).mp q)
          rw [if_neg d]
          simp only [s_X2_mostTogether_b13, s_X2_mostTogether_j51, s_X2_mostTogether_j85, f1, hb8, hb, bI_t, n0, n6, rp, la, lb, rm, r5t, l5, i2, sX, r52, l52, d1, i1, z10', if_true, if_false, bind_ok, Option.bind_some, cb_some]
      · by_cases e : r = X
        · subst e
          rw [zi_hit]
          show _ = iN (if r = r then _ else _)
          rw [if_pos rfl]
        · rw [zi_miss (by omega)]
          show _ = iN (if r = X then _ else _)
          rw [if_neg e]
          exact t2 r hr6) (fun t ht => by
    have f1 : (3 : Int32) ≤ iN 3 := by decide
    exact ⟨t, by simp only [s_X2_mostTogether_b13, f1, z10', if_true, if_false, bind_ok, Option.bind_some, cb_some]; rfl, ht.1⟩) (σ := sa) ⟨u2, fun r hr6 => u3 r hr6⟩
  have g1 : s_X2_mostTogether_l13 (113, iN (setN (soP B R nS hr) nB), iN n, 0, 0) sa = _ := g1
  refine ⟨s1, ?_, g2⟩
  simp only [s_X2_mostTogether, r5, u1, g1, z10', if_true, if_false, bind_ok, Option.bind_some, cb_some]
theorem alike9 (h : M9 nP nF nB nT nS nL 999 B R σ) (hL : Ltr σ B R hr nB 61) {n : Nat} (hn : n < 61) : s_X9_mostAlike 125 (iN (setN (soP B R nS hr) nB)) (iN n) σ = some (iN (mtP B R nS nB hr n), σ) := by
  have hb3 := h.2.2.1.1.2.2.1
  have b3 := q_r125_3 h.1
  have b45 := q_r125_45 h.1
  have l2 : ldI 11 σ 127 2 = some (iN nB) := (rw_2 h.1).trans (by rw [h.c2])
  have ex : ∀ r, r < 6 → maC (xq B R nS nB hr n) r nB = maC (xq B R nS nB hr n) r 3 := fun r hr6 => by
    exact maC_ext hb3 (fun b hb => by
      rw [xq_6 (by rw [decide_eq_false (by omega)]; rfl)]
      omega)
  obtain ⟨s9, g1, g2⟩ := loop_to (body := fun v => s_X9_mostAlike_b5 (v.1) (v.2.1) (v.2.2.1) (v.2.2.2.1) (v.2.2.2.2)) (fun _ t => t = σ) (fun t => t = σ) (fun r => (125, iN (setN (soP B R nS hr) nB), iN n, iN (maF (xq B R nS nB hr n) r), iN r)) (iN (mtP B R nS nB hr n)) 6 (fun r t hr6 ht => by
    subst ht
    have f1 : ¬ (6 : Int32) ≤ iN r := fun q => absurd ((iN_le (a := 6) (by decide) (by omega)).mp q) (by omega)
    have i1 : iN r + 1 = iN (r + 1) := iN_add _ _
    obtain ⟨s3, k1, k2⟩ := loop_to (body := fun v => s_X9_mostAlike_b18 (v.1) (v.2.1) (v.2.2.1) (v.2.2.2.1) (v.2.2.2.2.1) (v.2.2.2.2.2.1) (v.2.2.2.2.2.2)) (fun _ s => s = t) (fun s => s = t) (fun b => (125, iN (setN (soP B R nS hr) nB), iN n, iN (maF (xq B R nS nB hr n) r), iN r, iN (maC (xq B R nS nB hr n) r b), iN b)) (125, iN (setN (soP B R nS hr) nB), iN n, iN (maF (xq B R nS nB hr n) r), iN r, iN (maC (xq B R nS nB hr n) r nB)) nB (fun b s hb hs => by
      subst hs
      have f2 : ¬ iN nB ≤ iN b := (fun h => absurd ((iN_le (by omega) (by omega)).mp h) (by omega))
      have b1 : iN b + 1 = iN (b + 1) := iN_add _ _
      have hbb : hbP (iN (setN (soP B R nS hr) nB)) (iN b) = (decide (b < nB) && soP B R nS hr b) := hb_set (by omega) (by omega)
      refine ⟨s, ?_, rfl⟩
      rw [maC_s]
      cases c : (decide (b < nB) && soP B R nS hr b) with
      | false =>
        rw [c] at hbb
        rw [xq_6 c, if_neg (by omega)]
        simp only [s_X9_mostAlike_b18, s_X9_mostAlike_j60, s_X9_mostAlike_j61, b3, l2, f2, hb9, hbb, bI_f, b1, Int32.add_zero, Nat.add_zero, z10', if_true, if_false, bind_ok, Option.bind_some, cb_some]
      | true =>
        rw [c] at hbb
        obtain ⟨x1, x2⟩ := xq_r (n := n) h.2.2.1 (by omega) c
        generalize xq B R nS nB hr n b = X at x1 x2 ⊢
        have lb : ldI 11 s 150 (3 * iN n + iN b) = some (iN X) := by
          rw [show (3 : Int32) = iN 3 from rfl, iN_mul, iN_add, q_ld150 (by omega) h.1, hL n (by omega) b hb, x2]
        have i2 : iN (maC (xq B R nS nB hr n) r b) + 1 = iN (maC (xq B R nS nB hr n) r b + 1) := iN_add _ _
        by_cases d : X = r
        · subst d
          rw [if_pos rfl]
          simp only [s_X9_mostAlike_b18, s_X9_mostAlike_j61, b3, b45, l2, f2, hb9, hbb, bI_t, lb, i2, b1, z10', if_true, if_false, bind_ok, Option.bind_some, cb_some]
        · have d1 : ¬ iN X = iN r := fun q => d ((iN_inj (by omega) (by omega)).mp q)
          rw [if_neg d]
          simp only [s_X9_mostAlike_b18, s_X9_mostAlike_j60, s_X9_mostAlike_j61, b3, b45, l2, f2, hb9, hbb, bI_t, lb, d1, b1, Int32.add_zero, Nat.add_zero, z10', if_true, if_false, bind_ok, Option.bind_some, cb_some]) (fun s hs => by
      subst hs
      have f2 : iN nB ≤ iN nB := Int32.le_refl _
      exact ⟨s, by simp only [s_X9_mostAlike_b18, b3, l2, f2, z10', if_true, if_false, bind_ok, Option.bind_some, cb_some], rfl⟩) (σ := t) rfl
    subst k2
    have k1 : s_X9_mostAlike_l18 (125, iN (setN (soP B R nS hr) nB), iN n, iN (maF (xq B R nS nB hr n) r), iN r, 0, 0) s3 = _ := k1
    rw [ex r hr6] at k1
    have b1 := maF_le (x := xq B R nS nB hr n) r
    have b2 := maC_le (x := xq B R nS nB hr n) (r := r) 3
    refine ⟨s3, ?_, rfl⟩
    rw [maF_s]
    by_cases d : maC (xq B R nS nB hr n) r 3 ≤ maF (xq B R nS nB hr n) r
    · have d1 := (iN_le (a := maC (xq B R nS nB hr n) r 3) (b := maF (xq B R nS nB hr n) r) (by omega) (by omega)).mpr d
      rw [if_pos d]
      simp only [s_X9_mostAlike_b5, s_X9_mostAlike_j82, f1, k1, d1, i1, z10', if_true, if_false, bind_ok, Option.bind_some, cb_some]
    · have d1 : ¬ iN (maC (xq B R nS nB hr n) r 3) ≤ iN (maF (xq B R nS nB hr n) r) := fun q => d ((iN_le (by omega) (by omega)).mp q)
      rw [if_neg d]
      simp only [s_X9_mostAlike_b5, s_X9_mostAlike_j82, f1, k1, d1, i1, z10', if_true, if_false, bind_ok, Option.bind_some, cb_some]) (fun t ht => by
    subst ht
    have f1 : (6 : Int32) ≤ iN 6 := by decide
    refine ⟨t, ?_, rfl⟩
    rw [show mtP B R nS nB hr n = maF (xq B R nS nB hr n) 6 from mt_ma (fun k => xq_le h.2.2.1 hb3)]
    simp only [s_X9_mostAlike_b5, f1, z10', if_true, if_false, bind_ok, Option.bind_some, cb_some]) (σ := σ) rfl
  subst g2
  have g1 : s_X9_mostAlike_l5 (125, iN (setN (soP B R nS hr) nB), iN n, 0, 0) s9 = _ := g1
  simp only [s_X9_mostAlike, g1, cb_some]
/-- the model's state of its walk over minutes -/
def lkM (t : Nat → Nat) (p w : Int32) : Nat → Nat × Int32 × Int32 × Int32 × Int32 × Int32
  | 0 => (125, p, w, 100000000, -1, 0)
  | m + 1 => (125, p, w, iN (lkF t m).2, iN (lkF t m).1, iN (m + 1))
theorem mtP_le {n : Nat} : mtP B R nS nB hr n ≤ 3 := (mtF_le 3).2
theorem look9 (h : M9 nP nF nB nT nS nL 999 B R σ) (hL : Ltr σ B R hr nB 61) {p : Int32} :
    s_X9_look_l40 (125, p, iN (setN (soP B R nS hr) nB), 100000000, -1, 0) σ = some ((p, iN (lkF (mtP B R nS nB hr) 60).2, iN (lkF (mtP B R nS nB hr) 60).1), σ) := by
  have bk := q_ck125 h.1
  obtain ⟨s9, g1, g2⟩ := loop_to (body := fun v => s_X9_look_b40 (v.1) (v.2.1) (v.2.2.1) (v.2.2.2.1) (v.2.2.2.2.1) (v.2.2.2.2.2)) (fun _ t => t = σ) (fun t => t = σ) (lkM (mtP B R nS nB hr) p (iN (setN (soP B R nS hr) nB))) (p, iN (lkF (mtP B R nS nB hr) 60).2, iN (lkF (mtP B R nS nB hr) 60).1) 61 (fun i t hi ht => by
    subst ht
    have f1 : ¬ (60 : Int32) < iN i := fun q => absurd ((iN_lt (a := 60) (by decide) (by omega)).mp q) (by omega)
    have i1 : iN i + 1 = iN (i + 1) := iN_add _ _
    have al := alike9 h hL hi
    have b3 := mtP_le (B := B) (R := R) (nS := nS) (nB := nB) (hr := hr) (n := i)
    refine ⟨t, ?_, rfl⟩
    cases i with
    | zero =>
      have d1 : ¬ (100000000 : Int32) ≤ iN (mtP B R nS nB hr 0) := fun q => absurd ((iN_le (a := 100000000) (by decide) (by omega)).mp q) (by omega)
      have f1 : ¬ (60 : Int32) < 0 := by decide
      have al : s_X9_mostAlike 125 (iN (setN (soP B R nS hr) nB)) 0 t = some (iN (mtP B R nS nB hr 0), t) := al
      simp only [lkM, s_X9_look_b40, s_X9_look_j69, s_X9_look_j83, f1, bk, al, d1, z10', if_true, if_false, bind_ok, Option.bind_some, cb_some]
      rfl
    | succ m =>
      obtain ⟨c1, c2⟩ := lkF_le (t := mtP B R nS nB hr) (fun _ => mtP_le) m
      simp only [lkM]
      rw [lkF_s]
      by_cases d : (lkF (mtP B R nS nB hr) m).2 ≤ mtP B R nS nB hr (m + 1)
      · have d1 := (iN_le (a := (lkF (mtP B R nS nB hr) m).2) (b := mtP B R nS nB hr (m + 1)) (by omega) (by omega)).mpr d
        rw [if_pos d]
        simp only [s_X9_look_b40, s_X9_look_j69, s_X9_look_j83, f1, bk, al, d1, i1, z10', if_true, if_false, bind_ok, Option.bind_some, cb_some]
      · have d1 : ¬ iN (lkF (mtP B R nS nB hr) m).2 ≤ iN (mtP B R nS nB hr (m + 1)) := fun q => d ((iN_le (by omega) (by omega)).mp q)
        rw [if_neg d]
        simp only [s_X9_look_b40, s_X9_look_j69, s_X9_look_j83, f1, bk, al, d1, i1, z10', if_true, if_false, bind_ok, Option.bind_some, cb_some]) (fun t ht => by
    subst ht
    have f1 : (60 : Int32) < iN 61 := by decide
    refine ⟨t, ?_, rfl⟩
    show s_X9_look_b40 125 p (iN (setN (soP B R nS hr) nB)) (iN (lkF (mtP B R nS nB hr) 60).2) (iN (lkF (mtP B R nS nB hr) 60).1) (iN 61) t = _
    simp only [s_X9_look_b40, f1, z10', if_true, if_false, bind_ok, Option.bind_some, cb_some]) (σ := σ) rfl
  subst g2
  exact g1
theorem look8 {s : Hp} (hS : SK s) (hW : WF nP nF nB nT nS nL H R) (h3 : nB ≤ 3) (hT : Trk s B R hr nB) {p : Int32} :
    ∃ s1, s_X8_look_l45 (0, p, iN (setN (soP B R nS hr) nB), 0, iN (mtP B R nS nB hr 0), 1) s = some ((p, iN (lkF (mtP B R nS nB hr) 60).1, iN (lkF (mtP B R nS nB hr) 60).2), s1) ∧ Ag (fun a _ => a = 122) s s1 := by
  obtain ⟨s1, g1, g2⟩ := loop_to (body := fun v => s_X8_look_b45 (v.1) (v.2.1) (v.2.2.1) (v.2.2.2.1) (v.2.2.2.2.1) (v.2.2.2.2.2)) (fun _ t => Ag (fun a _ => a = 122) s t) (fun t => Ag (fun a _ => a = 122) s t) (fun m => (0, p, iN (setN (soP B R nS hr) nB), iN (lkF (mtP B R nS nB hr) m).1, iN (lkF (mtP B R nS nB hr) m).2, iN (m + 1))) (p, iN (lkF (mtP B R nS nB hr) 60).1, iN (lkF (mtP B R nS nB hr) 60).2) 60 (fun m t hm ht => by
    have hSt := hS.ag ht
    have hTt : Trk t B R hr nB := fun b hb n hn => by
      rw [(ht.2.2.2.2 (116 + b) n (show ¬ (116 + b = 122) by omega)).1]
      exact hT b hb n hn
    have f1 : ¬ (60 : Int32) < iN (m + 1) := fun q => absurd ((iN_lt (a := 60) (by decide) (by omega)).mp q) (by omega)
    have i1 : iN (m + 1) + 1 = iN (m + 1 + 1) := iN_add _ _
    have r10 := q_r0_10 hSt
    have kk := q_ck113 hSt
    obtain ⟨s2, d1, d2⟩ := together8 hSt hW h3 hTt (n := m + 1) (by omega)
    have b3 := mtP_le (B := B) (R := R) (nS := nS) (nB := nB) (hr := hr) (n := m + 1)
    obtain ⟨c1, c2⟩ := lkF_le (t := mtP B R nS nB hr) (fun _ => mtP_le) m
    refine ⟨s2, ?_, ht.trans d2⟩
    rw [lkF_s]
    by_cases d : (lkF (mtP B R nS nB hr) m).2 ≤ mtP B R nS nB hr (m + 1)
    · have e1 := (iN_le (a := (lkF (mtP B R nS nB hr) m).2) (b := mtP B R nS nB hr (m + 1)) (by omega) (by omega)).mpr d
      rw [if_pos d]
      simp only [s_X8_look_b45, s_X8_look_j78, f1, r10, kk, d1, e1, i1, z10', if_true, if_false, bind_ok, Option.bind_some, cb_some]
    · have e1 : ¬ iN (lkF (mtP B R nS nB hr) m).2 ≤ iN (mtP B R nS nB hr (m + 1)) := fun q => d ((iN_le (by omega) (by omega)).mp q)
      rw [if_neg d]
      simp only [s_X8_look_b45, s_X8_look_j78, f1, r10, kk, d1, e1, i1, z10', if_true, if_false, bind_ok, Option.bind_some, cb_some]) (fun t ht => by
    have f1 : (60 : Int32) < iN (60 + 1) := by decide
    exact ⟨t, by simp only [s_X8_look_b45, f1, z10', if_true, if_false, bind_ok, Option.bind_some, cb_some], ht⟩) (σ := s) Ag.refl
  exact ⟨s1, g1, g2⟩
end LK
theorem p122 {s t : Hp} (e : Ag (fun a _ => a = 122) s t) : Ag S8p s t := e.mono (fun a k q => Or.inr (by omega))
theorem b_look {p : Int32} (hr : Rel σ) : Both (s_X8_look 0 p) (s_X9_look 125 p) σ := by
  have hS := hr.1.1
  refine hr.both2 (fun nP nF nB nT nS nL B m8 m9 => ?_)
  obtain ⟨hh, hh1, hh2⟩ := bd_hour m8
  have hb3 := m8.b3
  have r0 := q_r0_0 hS
  have r10 := q_r0_10 hS
  have k113 := q_ck113 hS
  by_cases c01 : p = 0 ∨ p = 1
  · have i9 : ∀ t : Hp, s_X9_in (Int32.toInt64 p) 0 1 t = some (1, t) := fun t => by
      rcases c01 with rfl | rfl
      · exact in01_0
      · exact in01_1
    have p0 : ¬ p < 0 := by rcases c01 with rfl | rfl <;> decide
    have p1 : p ≤ 1 := by rcases c01 with rfl | rfl <;> decide
    obtain ⟨s, g1, g2, g3⟩ := who8 m8 hS (hr := hh) (by omega) hh2
    have hSs := hS.ag g2
    have hlt := setN_31 (f := soP B (zi σ 127) nS hh) (n := nB) (by omega)
    by_cases z : setN (soP B (zi σ 127) nS hh) nB = 0
    · refine ⟨-1, ⟨s, ?_, s8t_p g2⟩, fun σ1 q => ?_⟩
      · rw [z, show iN 0 = (0 : Int32) from rfl] at g1
        simp only [s_X8_look, p0, p1, r10, r0, k113, g1, z10', if_true, if_false, bind_ok, Option.bind_some, cb_some]
      · have w := q_w125 (k := 0) (v := 0) q.1; have q2 := q.thrown.2; have bk := q_ck125 q2.1; have b3 := q_r125_3 q2.1
        obtain ⟨s', g1', g2', g3', g4'⟩ := later9 q2 hh1 hh2
        have bkb := q_ck125 g4'.1
        have th := that9 g4' g3'
        rw [z, show iN 0 = (0 : Int32) from rfl] at th
        exact ⟨s', by simp only [s_X9_look, w, bk, g1', bkb, th, i9, z10', if_true, if_false, bind_ok, Option.bind_some, cb_some], q.thrown.1.p.trans g2'⟩
    · have z1 : ¬ iN (setN (soP B (zi σ 127) nS hh) nB) = 0 := fun e => z ((iN_inj hlt (by decide)).mp e)
      obtain ⟨s2, d1, d2⟩ := together8 hSs m8.2.2.2.1 hb3 g3 (n := 0) (by omega)
      have d1 : s_X2_mostTogether 113 (iN (setN (soP B (zi σ 127) nS hh) nB)) 0 s = _ := d1
      have hT2 : Trk s2 B (zi σ 127) hh nB := fun b hb n hn => by
        rw [(d2.2.2.2.2 (116 + b) n (show ¬ (116 + b = 122) by omega)).1]
        exact g3 b hb n hn
      obtain ⟨s3, e1, e2⟩ := look8 (hSs.ag d2) m8.2.2.2.1 hb3 hT2 (p := p)
      have r10s := q_r0_10 hSs
      have kks := q_ck113 hSs
      have A8 : Ag S8p σ s3 := ((s8t_p g2).trans (p122 d2)).trans (p122 e2)
      rcases c01 with rfl | rfl
      · refine ⟨iN (lkF (mtP B (zi σ 127) nS nB hh) 60).1, ⟨s3, ?_, A8⟩, fun σ1 q => ?_⟩
        · simp only [s_X8_look, p0, p1, r10, r0, k113, g1, z1, r10s, kks, d1, e1, z10', if_true, if_false, bind_ok, Option.bind_some, cb_some]
        · have w := q_w125 (k := 0) (v := 0) q.1; have q2 := q.thrown.2; have bk := q_ck125 q2.1; have b3 := q_r125_3 q2.1
          obtain ⟨s', g1', g2', g3', g4'⟩ := later9 q2 hh1 hh2
          have bkb := q_ck125 g4'.1
          have th := that9 g4' g3'
          have lk := look9 g4' g3' (p := 0)
          exact ⟨s', by simp only [s_X9_look, w, bk, g1', bkb, th, i9, z1, lk, z10', if_true, if_false, bind_ok, Option.bind_some, cb_some], q.thrown.1.p.trans g2'⟩
      · refine ⟨iN (lkF (mtP B (zi σ 127) nS nB hh) 60).2, ⟨s3, ?_, A8⟩, fun σ1 q => ?_⟩
        · simp only [s_X8_look, p0, p1, r10, r0, k113, g1, z1, r10s, kks, d1, e1, z10', if_true, if_false, bind_ok, Option.bind_some, cb_some]
        · have w := q_w125 (k := 0) (v := 0) q.1; have q2 := q.thrown.2; have bk := q_ck125 q2.1; have b3 := q_r125_3 q2.1
          obtain ⟨s', g1', g2', g3', g4'⟩ := later9 q2 hh1 hh2
          have bkb := q_ck125 g4'.1
          have th := that9 g4' g3'
          have lk := look9 g4' g3' (p := 1)
          exact ⟨s', by simp only [s_X9_look, w, bk, g1', bkb, th, i9, z1, lk, z10', if_true, if_false, bind_ok, Option.bind_some, cb_some], q.thrown.1.p.trans g2'⟩
  · have c0 : ¬ p = 0 := fun e => c01 (Or.inl e)
    have c1 : ¬ p = 1 := fun e => c01 (Or.inr e)
    refine ⟨-1, ⟨σ, ?_, Ag.refl⟩, fun σ1 q => ?_⟩
    · by_cases n0 : p < 0
      · simp only [s_X8_look, n0, z10', if_true, if_false, bind_ok, Option.bind_some, cb_some]
      · have n1 : ¬ p ≤ 1 := fun e => by
          rcases no2_of c0 c1 with e2 | e2
          · exact n0 e2
          · exact absurd (Int32.le_trans e2 e) (by decide)
        simp only [s_X8_look, n0, n1, z10', if_true, if_false, bind_ok, Option.bind_some, cb_some]
    · have w := q_w125 (k := 0) (v := 0) q.1; have q2 := q.thrown.2; have bk := q_ck125 q2.1; have b3 := q_r125_3 q2.1
      obtain ⟨s', g1', g2', g3', g4'⟩ := later9 q2 hh1 hh2
      have bkb := q_ck125 g4'.1
      have th := that9 g4' g3'
      have i9 := no2_in (σ := s') c0 c1
      exact ⟨s', by simp only [s_X9_look, w, bk, g1', bkb, th, i9, z10', if_true, if_false, bind_ok, Option.bind_some, cb_some], q.thrown.1.p.trans g2'⟩
end V28
