/-! ===== soonest: sets, and the reference's side ===== -/
section V25
variable {σ : Hp}
section ON
variable {nP nF nB nT nS nL H hr : Nat} {B : Book} {R : Nat → Int32}
/-- in an hour one goes from p to q, or stays, and is safe behind it -/
def gsP (B : Book) (R : Nat → Int32) (f p q hr : Nat) : Bool := (decide (p = q) || cnP B R f p q hr) && sfP B R q (hr + 1)
/-- where one can be t hours on -/
def anP (B : Book) (R : Nat → Int32) (nP f u hr : Nat) : Nat → Nat → Bool
  | 0 => one u
  | t + 1 => fun q => decide (q < nP) && anyN nP (fun p => anP B R nP f u hr t p && gsP B R f p q (hr + t))
/-- whence one still comes there, d hours ahead of hour n -/
def ccP (B : Book) (R : Nat → Int32) (nP f z hr n : Nat) : Nat → Nat → Bool
  | 0 => fun p => decide (p < nP) && decide (p = z)
  | d + 1 => fun p => decide (p < nP) && anyN nP (fun q => ccP B R nP f z hr n d q && gsP B R f p q (hr + (n - (d + 1))))
theorem anP_lt {f u t p : Nat} (hu : u < nP) (h : anP B R nP f u hr t p = true) : p < nP := by
  cases t with
  | zero =>
    have := of_decide_eq_true h
    omega
  | succ t =>
    unfold anP at h
    rw [Bool.and_eq_true, decide_eq_true_eq] at h
    exact h.1
theorem goes_on9 (h : M9 nP nF nB nT nS nL 999 B R σ) (h3 : hr ≤ 999) (h7 : R 7 = iN hr) {f p q t : Nat} (hf : f < nF) (hp : p < nP) (hq : q < nP) (ht : t ≤ 48) :
    ∃ σ1, s_X9_goesOn 125 (iN f) (iN hr) (iN t) (iN p) (iN q) σ = some (bI (gsP B R f p q (hr + t)), σ1) ∧ Ag S9 σ σ1 := by
  have hp10 := h.2.2.1.1.1
  have qh := h.hi (H2 := 2000) (by decide)
  have b3 := q_r125_3 h.1
  have i0 : iN hr + iN t = iN (hr + t) := iN_add _ _
  have i1 : iN (hr + t) + 1 = iN (hr + t + 1) := iN_add _ _
  have W : ∀ {s : Hp}, Ag (fun a k => S9 a k ∨ (a = 127 ∧ k = 7)) σ s → Ag S9w σ s := fun e => e.mono (fun a k q => q.elim (fun w => Or.inl (Or.inl w)) (fun w => Or.inr ⟨w.1, by omega, by omega⟩))
  have sA := rs_7 (v := iN (hr + t)) h.1
  have AA : Ag (fun a k => S9 a k ∨ (a = 127 ∧ k = 7)) σ (zsi σ 127 7 (iN (hr + t))) := Ag.zsi (Or.inr ⟨rfl, rfl⟩)
  have eA : zi (zsi σ 127 7 (iN (hr + t))) 127 = up R 7 (iN (hr + t)) := by rw [zi_up, h.2.1]
  have nA := qh.hour (n := hr + t) (by omega) (W AA) eA
  have j7 : ∀ {s s2 : Hp}, Ag S9 s s2 → zj s2 127 = zj s 127 := fun e => funext fun k => (e.2.2.2.2 127 k (S9.n (by decide) (Or.inl (by decide)))).2
  -- the end: the hour put back
  have fin : ∀ (s : Hp) (x : Bool), Ag (fun a k => S9 a k ∨ (a = 127 ∧ k = 7)) σ s → zj s 127 = zj σ 127 → SK s → s_X9_goesOn_j67 125 (iN hr) (bI x) s = some (bI x, zsi s 127 7 (iN hr)) ∧ Ag S9 σ (zsi s 127 7 (iN hr)) := fun s x e j hs => by
    have bb := q_r125_3 hs
    have s7 := rs_7 (v := iN hr) hs
    have zb : zbo (bI x) = some () := if_pos bI_b
    refine ⟨by simp only [s_X9_goesOn_j67, bb, s7, zb, z10', if_true, if_false, bind_ok, Option.bind_some, cb_some], ?_⟩
    have A3 : Ag (fun a k => S9 a k ∨ (a = 127 ∧ k = 7)) σ (zsi s 127 7 (iN hr)) := e.trans (Ag.zsi (Or.inr ⟨rfl, rfl⟩))
    refine ⟨A3.1, A3.2.1, A3.2.2.1, A3.2.2.2.1, fun a k hn => ?_⟩
    by_cases c : a = 127 ∧ k = 7
    · obtain ⟨rfl, rfl⟩ := c
      exact ⟨zi_hit.trans (by rw [h.2.1, h7]), congrFun j 7⟩
    · exact A3.2.2.2.2 a k (fun q => q.elim hn c)
  -- behind the stride
  have mid : ∀ (s : Hp) (x : Bool), Ag (fun a k => S9 a k ∨ (a = 127 ∧ k = 7)) σ s → zi s 127 = up R 7 (iN (hr + t)) → zj s 127 = zj σ 127 → ∃ σ1, s_X9_goesOn_j34 125 (iN hr) (iN t) (iN q) (bI x) s = some (bI (x && sfP B R q (hr + t + 1)), σ1) ∧ Ag S9 σ σ1 := fun s x e e7 j => by
    have hs : SK s := h.1.ag e
    have bb := q_r125_3 hs
    have s7 := rs_7 (v := iN (hr + t + 1)) hs
    have A2 : Ag (fun a k => S9 a k ∨ (a = 127 ∧ k = 7)) σ (zsi s 127 7 (iN (hr + t + 1))) := e.trans (Ag.zsi (Or.inr ⟨rfl, rfl⟩))
    cases x with
    | false =>
      obtain ⟨w1, w2⟩ := fin (zsi s 127 7 (iN (hr + t + 1))) false A2 j hs.fz
      refine ⟨_, ?_, w2⟩
      have w1 : s_X9_goesOn_j67 125 (iN hr) 0 (zsi s 127 7 (iN (hr + t + 1))) = _ := w1
      simp only [s_X9_goesOn_j34, s_X9_goesOn_j66, bb, i0, i1, s7, bI_f, w1, Bool.false_and, z10', if_true, if_false, bind_ok, Option.bind_some, cb_some]
    | true =>
      have e2 : zi (zsi s 127 7 (iN (hr + t + 1))) 127 = up R 7 (iN (hr + t + 1)) := by rw [zi_up, e7, up_up]
      have n2 := qh.hour (n := hr + t + 1) (by omega) (W A2) e2
      have bk := q_ck125 n2.1
      obtain ⟨s3, u1, u2⟩ := safe9 n2 (hr := hr + t + 1) (by omega) up_eq (p := q) (by omega)
      rw [up7_sq.sf] at u1
      obtain ⟨w1, w2⟩ := fin s3 (sfP B R q (hr + t + 1)) (A2.trans (u2.mono (fun a k q => Or.inl q))) ((j7 u2).trans j) (n2.ag u2).1
      refine ⟨_, ?_, w2⟩
      rw [Bool.true_and]
      cases c : sfP B R q (hr + t + 1) with
      | false =>
        rw [c] at u1 w1
        have w1 : s_X9_goesOn_j67 125 (iN hr) 0 s3 = _ := w1
        simp only [s_X9_goesOn_j34, s_X9_goesOn_j66, bb, i0, i1, s7, bI_t, bI_f, bk, u1, w1, z10', if_true, if_false, bind_ok, Option.bind_some, cb_some]
      | true =>
        rw [c] at u1 w1
        have w1 : s_X9_goesOn_j67 125 (iN hr) 1 s3 = _ := w1
        simp only [s_X9_goesOn_j34, bb, i0, i1, s7, bI_t, bk, u1, w1, z10', if_true, if_false, bind_ok, Option.bind_some, cb_some]
  unfold gsP
  by_cases c : p = q
  · have cb : iN p = iN q := by rw [c]
    obtain ⟨s2, m1, m2⟩ := mid (zsi σ 127 7 (iN (hr + t))) true AA eA rfl
    refine ⟨s2, ?_, m2⟩
    have m1 : s_X9_goesOn_j34 125 (iN hr) (iN t) (iN q) 1 (zsi σ 127 7 (iN (hr + t))) = _ := m1
    rw [Bool.true_and] at m1
    simp only [s_X9_goesOn, s_X9_goesOn_j29, b3, i0, sA, cb, m1, c, decide_true, Bool.true_or, Bool.true_and, z10', if_true, if_false, bind_ok, Option.bind_some, cb_some]
  · have cb : ¬ iN p = iN q := (fun h => absurd ((iN_inj (by omega) (by omega)).mp h) (by omega))
    have bk := q_ck125 nA.1
    obtain ⟨s2, u1, u2⟩ := can9 nA (hr := hr + t) (by omega) up_eq hf hp hq
    rw [up7_sq.cn (by omega) h.2.2.1] at u1
    obtain ⟨s3, m1, m2⟩ := mid s2 (cnP B R f p q (hr + t)) (AA.trans (u2.mono (fun a k q => Or.inl q))) (u2.row.trans eA) ((j7 u2).trans (show zj (zsi σ 127 7 (iN (hr + t))) 127 = zj σ 127 from rfl))
    refine ⟨s3, ?_, m2⟩
    rw [decide_eq_false c, Bool.false_or]
    cases c2 : cnP B R f p q (hr + t) with
    | false =>
      rw [c2] at u1 m1
      have m1 : s_X9_goesOn_j34 125 (iN hr) (iN t) (iN q) 0 s2 = _ := m1
      simp only [s_X9_goesOn, b3, i0, sA, cb, bk, u1, m1, bI_f, z10', if_true, if_false, bind_ok, Option.bind_some, cb_some]
    | true =>
      rw [c2] at u1 m1
      have m1 : s_X9_goesOn_j34 125 (iN hr) (iN t) (iN q) 1 s2 = _ := m1
      simp only [s_X9_goesOn, s_X9_goesOn_j29, b3, i0, sA, cb, bk, u1, m1, bI_t, z10', if_true, if_false, bind_ok, Option.bind_some, cb_some]
/-- a field of the reference's paper is laid -/
def FrS (c : Nat) (a k : Nat) : Prop := S9 a k ∨ a = c
theorem frs_p {s : Hp} {c : Nat} (hc : 146 ≤ c ∧ c ≤ 151) (e : Ag (FrS c) σ s) : Ag S9p σ s := e.mono (fun a k q => q.elim Or.inl (fun w => Or.inr (Or.inl (by omega))))
theorem M9.frs {s : Hp} {c : Nat} (h : M9 nP nF nB nT nS nL H B R σ) (hc : 146 ≤ c ∧ c ≤ 151) (e : Ag (FrS c) σ s) : M9 nP nF nB nT nS nL H B R s := by
  have e2 := frs_p hc e
  refine h.row (e2.mono (fun _ _ q => Or.inl q)) ?_ h.2.2.1
  rw [← h.2.1]
  exact funext fun k => (e2.2.2.2.2 127 k (S9p.n fr_127 (Or.inl (by decide)))).1
theorem Ag.f {s s2 : Hp} {c : Nat} (e : Ag S9 s s2) : Ag (FrS c) s s2 := e.mono (fun _ _ q => Or.inl q)
theorem S9.c {s s2 : Hp} {c : Nat} (hc : 146 ≤ c) (e : Ag S9 s s2) : ∀ k, zi s2 c k = zi s c k := fun k => (e.2.2.2.2 c k (S9.n (by omega) (Or.inl (by omega)))).1
theorem st147 {s : Hp} (hS : SK s) {t q : Nat} {x : Bool} (h : 10 * t + q < 490) : stZ s 147 (10 * iN t + iN q) (bI x) = some (zsi s 147 (10 * t + q) (bI x)) := by
  rw [show (10 : Int32) = iN 10 from rfl, iN_mul, iN_add]
  exact q_st147 h bI_b hS
theorem ld147 {s : Hp} (hS : SK s) {t q : Nat} (h : 10 * t + q < 490) : ldI 13 s 147 (10 * iN t + iN q) = some (zi s 147 (10 * t + q)) := by
  rw [show (10 : Int32) = iN 10 from rfl, iN_mul, iN_add]
  exact q_ld147 h hS
theorem st148 {s : Hp} (hS : SK s) {t q : Nat} {x : Bool} (h : 10 * t + q < 490) : stZ s 148 (10 * iN t + iN q) (bI x) = some (zsi s 148 (10 * t + q) (bI x)) := by
  rw [show (10 : Int32) = iN 10 from rfl, iN_mul, iN_add]
  exact q_st148 h bI_b hS
theorem ld148 {s : Hp} (hS : SK s) {t q : Nat} (h : 10 * t + q < 490) : ldI 13 s 148 (10 * iN t + iN q) = some (zi s 148 (10 * t + q)) := by
  rw [show (10 : Int32) = iN 10 from rfl, iN_mul, iN_add]
  exact q_ld148 h hS
/-- one hour more -/
theorem hour_s9 (h : M9 nP nF nB nT nS nL 999 B R σ) (h3 : hr ≤ 999) (h7 : R 7 = iN hr) {f u z i : Nat} (hf : f < nF) (hi : i < 48) (hA : ∀ p, p < nP → zi σ 147 (10 * i + p) = bI (anP B R nP f u hr i p)) :
    ∃ s2, s_X9_laySoonest_l78 (125, iN f, iN z, iN hr, iN i, 0) σ = some ((125, iN f, iN z, iN hr, iN i), s2) ∧ Ag (FrS 147) σ s2 ∧ ∀ q, q < nP → zi s2 147 (10 * (i + 1) + q) = bI (anP B R nP f u hr (i + 1) q) := by
  have hp10 := h.2.2.1.1.1
  have l0 : ∀ s, M9 nP nF nB nT nS nL 999 B R s → ldI 11 s 127 0 = some (iN nP) := fun s q => (rw_0 q.1).trans (by rw [q.c0])
  have c147 : 146 ≤ 147 ∧ 147 ≤ 151 := by decide
  obtain ⟨s9, g1, g2⟩ := loop_to (body := fun v => s_X9_laySoonest_b78 (v.1) (v.2.1) (v.2.2.1) (v.2.2.2.1) (v.2.2.2.2.1) (v.2.2.2.2.2)) (fun q s => Ag (FrS 147) σ s ∧ (∀ p, p < nP → zi s 147 (10 * i + p) = bI (anP B R nP f u hr i p)) ∧ ∀ k, k < q → zi s 147 (10 * (i + 1) + k) = bI (anP B R nP f u hr (i + 1) k)) (fun s => Ag (FrS 147) σ s ∧ ∀ k, k < nP → zi s 147 (10 * (i + 1) + k) = bI (anP B R nP f u hr (i + 1) k)) (fun q => (125, iN f, iN z, iN hr, iN i, iN q)) (125, iN f, iN z, iN hr, iN i) nP (fun q s hq hs => by
    obtain ⟨hs1, hs2, hs3⟩ := hs
    have n9 := h.frs c147 hs1
    have bb := q_r125_3 n9.1
    have ll := l0 s n9
    have f1 : ¬ iN nP ≤ iN q := (fun h => absurd ((iN_le (by omega) (by omega)).mp h) (by omega))
    have q1 : iN q + 1 = iN (q + 1) := iN_add _ _
    obtain ⟨s2, k1, k2, k3⟩ := loop_to (body := fun v => s_X9_laySoonest_b95 (v.1) (v.2.1) (v.2.2.1) (v.2.2.2.1) (v.2.2.2.2.1) (v.2.2.2.2.2.1) (v.2.2.2.2.2.2.1) (v.2.2.2.2.2.2.2)) (fun _ t => Ag (FrS 147) σ t ∧ ∀ k, zi t 147 k = zi s 147 k) (fun t => Ag (FrS 147) σ t ∧ ∀ k, zi t 147 k = zi s 147 k) (fun p => (125, iN f, iN z, iN hr, iN i, iN q, bI (anyN p (fun p => anP B R nP f u hr i p && gsP B R f p q (hr + i))), iN p)) (125, iN f, iN z, iN hr, iN i, iN q, bI (anyN nP (fun p => anP B R nP f u hr i p && gsP B R f p q (hr + i)))) nP (fun p t hp ht => by
      obtain ⟨t1, t2⟩ := ht
      have n9 := h.frs c147 t1
      have bb := q_r125_3 n9.1
      have b42 := q_r125_42 n9.1
      have bk := q_ck125 n9.1
      have ll := l0 t n9
      have f2 : ¬ iN nP ≤ iN p := (fun h => absurd ((iN_le (by omega) (by omega)).mp h) (by omega))
      have p1 : iN p + 1 = iN (p + 1) := iN_add _ _
      have ld := ld147 n9.1 (t := i) (q := p) (by omega)
      rw [t2, hs2 p hp] at ld
      rw [anyN_s]
      cases ca : anyN p (fun p => anP B R nP f u hr i p && gsP B R f p q (hr + i)) with
      | true =>
        exact ⟨t, by simp only [s_X9_laySoonest_b95, s_X9_laySoonest_j142, s_X9_laySoonest_j147, bb, ll, f2, bI_t, Bool.true_or, p1, z10', if_true, if_false, bind_ok, Option.bind_some, cb_some], t1, t2⟩
      | false =>
        cases cp : anP B R nP f u hr i p with
        | false =>
          rw [cp] at ld
          exact ⟨t, by simp only [s_X9_laySoonest_b95, s_X9_laySoonest_j146, s_X9_laySoonest_j147, bb, b42, ll, ld, f2, bI_f, Bool.false_and, Bool.or_false, p1, z10', if_true, if_false, bind_ok, Option.bind_some, cb_some], t1, t2⟩
        | true =>
          rw [cp] at ld
          obtain ⟨t3, u1, u2⟩ := goes_on9 n9 h3 h7 (t := i) hf hp hq (by omega)
          refine ⟨t3, ?_, t1.trans u2.f, fun k => (S9.c (by decide) u2 k).trans (t2 k)⟩
          cases cg : gsP B R f p q (hr + i) with
          | false =>
            rw [cg] at u1
            simp only [s_X9_laySoonest_b95, s_X9_laySoonest_j146, s_X9_laySoonest_j147, bb, b42, bk, ll, ld, f2, u1, bI_t, bI_f, Bool.and_false, Bool.or_false, p1, z10', if_true, if_false, bind_ok, Option.bind_some, cb_some]
          | true =>
            rw [cg] at u1
            simp only [s_X9_laySoonest_b95, s_X9_laySoonest_j142, s_X9_laySoonest_j147, bb, b42, bk, ll, ld, f2, u1, bI_t, bI_f, Bool.and_true, Bool.or_true, p1, z10', if_true, if_false, bind_ok, Option.bind_some, cb_some]) (fun t ht => by
      have n9 := h.frs c147 ht.1
      have bb := q_r125_3 n9.1
      have ll := l0 t n9
      have f2 : iN nP ≤ iN nP := Int32.le_refl _
      exact ⟨t, by simp only [s_X9_laySoonest_b95, bb, ll, f2, z10', if_true, if_false, bind_ok, Option.bind_some, cb_some], ht⟩) (σ := s) ⟨hs1, fun _ => rfl⟩
    have k1 : s_X9_laySoonest_l95 (125, iN f, iN z, iN hr, iN i, iN q, 0, 0) s = _ := k1
    have n92 := h.frs c147 k2
    have b42 := q_r125_42 n92.1
    have ei : iN i + 1 = iN (i + 1) := iN_add _ _
    have eA : anyN nP (fun p => anP B R nP f u hr i p && gsP B R f p q (hr + i)) = anP B R nP f u hr (i + 1) q := by
      show _ = (decide (q < nP) && _)
      rw [decide_eq_true hq, Bool.true_and]
    rw [eA] at k1
    have st := st147 n92.1 (t := i + 1) (q := q) (x := anP B R nP f u hr (i + 1) q) (by omega)
    refine ⟨zsi s2 147 (10 * (i + 1) + q) (bI (anP B R nP f u hr (i + 1) q)), ?_, k2.trans (Ag.zsi (Or.inr rfl)), fun p hp => ?_, fun k hk => ?_⟩
    · simp only [s_X9_laySoonest_b78, bb, ll, f1, k1, b42, ei, st, q1, z10', if_true, if_false, bind_ok, Option.bind_some, cb_some]
    · rw [zi_miss (by omega), k3]
      exact hs2 p hp
    · by_cases c : k = q
      · subst c
        exact zi_hit
      · rw [zi_miss (by omega), k3]
        exact hs3 k (by omega)) (fun s hs => by
    have n9 := h.frs c147 hs.1
    have bb := q_r125_3 n9.1
    have ll := l0 s n9
    have f1 : iN nP ≤ iN nP := Int32.le_refl _
    exact ⟨s, by simp only [s_X9_laySoonest_b78, bb, ll, f1, z10', if_true, if_false, bind_ok, Option.bind_some, cb_some], hs.1, hs.2.2⟩) (σ := σ) ⟨Ag.refl, hA, fun k hk => by omega⟩
  exact ⟨s9, g1, g2⟩
theorem lay_s9 (h : M9 nP nF nB nT nS nL 999 B R σ) (h3 : hr ≤ 999) (h7 : R 7 = iN hr) {f u z : Nat} (hf : f < nF) (hu : u < nP) (eu : R (17 + f) = iN u) (hz : z < nP) :
    ∃ σ1, s_X9_laySoonest 125 (iN f) (iN z) σ = some (fI (firstP (fun n => anP B R nP f u hr n z) 49 0), σ1) ∧ Ag S9p σ σ1 ∧ M9 nP nF nB nT nS nL 999 B R σ1 := by
  have hp10 := h.2.2.1.1.1
  have hf4 := h.2.2.1.1.2.1
  have b3 := q_r125_3 h.1
  have l7 : ldI 11 σ 127 7 = some (iN hr) := (rw_7 h.1).trans (by rw [h.2.1, h7])
  have l0 : ∀ s, M9 nP nF nB nT nS nL 999 B R s → ldI 11 s 127 0 = some (iN nP) := fun s q => (rw_0 q.1).trans (by rw [q.c0])
  have c147 : 146 ≤ 147 ∧ 147 ≤ 151 := by decide
  -- hour 0
  obtain ⟨s0, a1, a2, a3⟩ := loop_to (body := fun v => s_X9_laySoonest_b11 (v.1) (v.2.1) (v.2.2.1) (v.2.2.2.1) (v.2.2.2.2)) (fun i s => Ag (FrS 147) σ s ∧ ∀ p, p < i → zi s 147 p = bI (one u p)) (fun s => Ag (FrS 147) σ s ∧ ∀ p, p < 10 → zi s 147 p = bI (one u p)) (fun i => (125, iN f, iN z, iN hr, iN i)) (125, iN f, iN z, iN hr) 10 (fun i s hi hs => by
    obtain ⟨hs1, hs2⟩ := hs
    have n9 := h.frs c147 hs1
    have bb := q_r125_3 n9.1
    have b42 := q_r125_42 n9.1
    have f1 : ¬ (10 : Int32) ≤ iN i := fun q => absurd ((iN_le (a := 10) (by decide) (by omega)).mp q) (by omega)
    have la := n9.ld17 (n := f) (by omega)
    rw [eu] at la
    have i1 : iN i + 1 = iN (i + 1) := iN_add _ _
    have st := q_st147 (n := i) (v := bI (one u i)) (by omega) bI_b n9.1
    refine ⟨zsi s 147 i (bI (one u i)), ?_, hs1.trans (Ag.zsi (Or.inr rfl)), fun p hp => ?_⟩
    · by_cases c : i = u
      · have cb : iN i = iN u := by rw [c]
        have eo : one u i = true := decide_eq_true c
        rw [eo] at st ⊢
        have st : stZ s 147 (iN i) 1 = _ := st
        rw [cb] at st f1 i1 ⊢
        simp only [s_X9_laySoonest_b11, s_X9_laySoonest_j43, f1, bb, b42, la, st, i1, z10', if_true, if_false, bind_ok, Option.bind_some, cb_some]
      · have cb : ¬ iN i = iN u := (fun h => absurd ((iN_inj (by omega) (by omega)).mp h) (by omega))
        have eo : one u i = false := decide_eq_false c
        rw [eo] at st ⊢
        have st : stZ s 147 (iN i) 0 = _ := st
        simp only [s_X9_laySoonest_b11, s_X9_laySoonest_j43, f1, bb, b42, la, cb, st, i1, z10', if_true, if_false, bind_ok, Option.bind_some, cb_some]
    · by_cases c : p = i
      · subst c
        exact zi_hit
      · rw [zi_miss c]
        exact hs2 p (by omega)) (fun s hs => by
    have f1 : (10 : Int32) ≤ iN 10 := by decide
    exact ⟨s, by simp only [s_X9_laySoonest_b11, f1, z10', if_true, if_false, bind_ok, Option.bind_some, cb_some], hs⟩) (σ := σ) ⟨Ag.refl, fun p hp => by omega⟩
  have a1 : s_X9_laySoonest_l11 (125, iN f, iN z, iN hr, 0) σ = _ := a1
  -- the hours
  have key : ∀ (d i : Nat) (s : Hp), i + d = 48 → Ag (FrS 147) σ s → (∀ p, p < nP → zi s 147 (10 * i + p) = bI (anP B R nP f u hr i p)) → ∃ s2, s_X9_laySoonest_l53 (125, iN f, iN z, iN hr, iN i) s = some ((125, iN z, iN ((firstP (fun n => anP B R nP f u hr n z) d i).getD 48)), s2) ∧ Ag (FrS 147) σ s2 ∧ zi s2 147 (10 * ((firstP (fun n => anP B R nP f u hr n z) d i).getD 48) + z) = bI (anP B R nP f u hr ((firstP (fun n => anP B R nP f u hr n z) d i).getD 48) z) := by
    intro d
    induction d with
    | zero =>
      intro i s hi hs1 hs2
      have e : i = 48 := by omega
      subst e
      have f1 : (48 : Int32) ≤ iN 48 := by decide
      exact ⟨s, loopF_out (by simp only [s_X9_laySoonest_b53, f1, z10', if_true, if_false, bind_ok, Option.bind_some, cb_some]; rfl), hs1, hs2 z hz⟩
    | succ d ih =>
      intro i s hi hs1 hs2
      have n9 := h.frs c147 hs1
      have b42 := q_r125_42 n9.1
      have f1 : ¬ (48 : Int32) ≤ iN i := fun q => absurd ((iN_le (a := 48) (by decide) (by omega)).mp q) (by omega)
      have i1 : iN i + 1 = iN (i + 1) := iN_add _ _
      have ld := ld147 n9.1 (t := i) (q := z) (by omega)
      rw [hs2 z hz] at ld
      cases c : anP B R nP f u hr i z with
      | true =>
        rw [c] at ld
        rw [show firstP (fun n => anP B R nP f u hr n z) (d + 1) i = some i by rw [firstP, if_pos c]]
        exact ⟨s, loopF_out (by simp only [s_X9_laySoonest_b53, b42, f1, ld, bI_t, z10', if_true, if_false, bind_ok, Option.bind_some, cb_some]; rfl), hs1, hs2 z hz⟩
      | false =>
        rw [c] at ld
        rw [firstP_f (p := fun n => anP B R nP f u hr n z) c]
        obtain ⟨s2, k1, k2, k3⟩ := hour_s9 n9 h3 h7 (z := z) hf (by omega) hs2
        obtain ⟨s3, m1, m2⟩ := ih (i + 1) s2 (by omega) (hs1.trans k2) k3
        exact ⟨s3, (loopF_in (by simp only [s_X9_laySoonest_b53, b42, f1, ld, k1, i1, bI_f, z10', if_true, if_false, bind_ok, Option.bind_some, cb_some])).trans m1, m2⟩
  obtain ⟨s9, g1, g2, g3⟩ := key 48 0 s0 (by omega) a2 (fun p hp => by rw [Nat.mul_zero, Nat.zero_add]; exact a3 p (by omega))
  have g1 : s_X9_laySoonest_l53 (125, iN f, iN z, iN hr, 0) s0 = _ := g1
  have n9 := h.frs c147 g2
  have b42 := q_r125_42 n9.1
  refine ⟨s9, ?_, frs_p c147 g2, n9⟩
  rw [firstP_last (S := fun n => anP B R nP f u hr n z) 48]
  cases c : firstP (fun n => anP B R nP f u hr n z) 48 0 with
  | some n =>
    rw [c] at g1 g3
    have hn := firstP_lt c
    have ld := ld147 n9.1 (t := n) (q := z) (by omega)
    rw [Option.getD_some] at g1 g3
    rw [g3, hn.2.2] at ld
    simp only [s_X9_laySoonest, s_X9_laySoonest_j184, b3, l7, a1, g1, b42, ld, bI_t, fI, z10', if_true, if_false, bind_ok, Option.bind_some, cb_some]
  | none =>
    rw [c] at g1 g3
    rw [Option.getD_none] at g1 g3
    have ld := ld147 n9.1 (t := 48) (q := z) (by omega)
    rw [g3] at ld
    cases c2 : anP B R nP f u hr 48 z with
    | true =>
      rw [c2] at ld
      simp only [s_X9_laySoonest, s_X9_laySoonest_j184, b3, l7, a1, g1, b42, ld, bI_t, fI, z10', if_true, if_false, bind_ok, Option.bind_some, cb_some]
    | false =>
      rw [c2] at ld
      simp only [s_X9_laySoonest, s_X9_laySoonest_j184, b3, l7, a1, g1, b42, ld, bI_f, fI, Bool.false_eq_true, z10', if_true, if_false, bind_ok, Option.bind_some, cb_some]
/-- the reference lays whence one comes there -/
theorem lay_c9 (h : M9 nP nF nB nT nS nL 999 B R σ) (h3 : hr ≤ 999) (h7 : R 7 = iN hr) {f z n : Nat} (hf : f < nF) (hz : z < nP) (hn : n ≤ 48) :
    ∃ σ1, s_X9_layComing 125 (iN f) (iN z) (iN n) σ = some ((), σ1) ∧ Ag S9p σ σ1 ∧ M9 nP nF nB nT nS nL 999 B R σ1 ∧ ∀ d, d ≤ n → ∀ p, p < nP → zi σ1 148 (10 * (n - d) + p) = bI (ccP B R nP f z hr n d p) := by
  have hp10 := h.2.2.1.1.1
  have b3 := q_r125_3 h.1
  have l7 : ldI 11 σ 127 7 = some (iN hr) := (rw_7 h.1).trans (by rw [h.2.1, h7])
  have l0 : ∀ s, M9 nP nF nB nT nS nL 999 B R s → ldI 11 s 127 0 = some (iN nP) := fun s q => (rw_0 q.1).trans (by rw [q.c0])
  have c148 : 146 ≤ 148 ∧ 148 ≤ 151 := by decide
  obtain ⟨s0, a1, a2, a3⟩ := loop_to (body := fun v => s_X9_layComing_b12 (v.1) (v.2.1) (v.2.2.1) (v.2.2.2.1) (v.2.2.2.2.1) (v.2.2.2.2.2)) (fun i s => Ag (FrS 148) σ s ∧ ∀ p, p < i → zi s 148 (10 * n + p) = bI (ccP B R nP f z hr n 0 p)) (fun s => Ag (FrS 148) σ s ∧ ∀ p, p < nP → zi s 148 (10 * n + p) = bI (ccP B R nP f z hr n 0 p)) (fun i => (125, iN f, iN z, iN n, iN hr, iN i)) (125, iN f, iN n, iN hr) nP (fun i s hi hs => by
    obtain ⟨hs1, hs2⟩ := hs
    have n9 := h.frs c148 hs1
    have bb := q_r125_3 n9.1
    have b43 := q_r125_43 n9.1
    have ll := l0 s n9
    have f1 : ¬ iN nP ≤ iN i := (fun h => absurd ((iN_le (by omega) (by omega)).mp h) (by omega))
    have i1 : iN i + 1 = iN (i + 1) := iN_add _ _
    have ec : ccP B R nP f z hr n 0 i = decide (i = z) := by
      show (decide (i < nP) && decide (i = z)) = _
      rw [decide_eq_true hi, Bool.true_and]
    have st := st148 n9.1 (t := n) (q := i) (x := decide (i = z)) (by omega)
    refine ⟨zsi s 148 (10 * n + i) (bI (decide (i = z))), ?_, hs1.trans (Ag.zsi (Or.inr rfl)), fun p hp => ?_⟩
    · by_cases c : i = z
      · have cb : iN i = iN z := by rw [c]
        rw [decide_eq_true c] at st ⊢
        have st : stZ s 148 (10 * iN n + iN i) 1 = _ := st
        rw [cb] at st f1 i1 ⊢
        simp only [s_X9_layComing_b12, s_X9_layComing_j45, bb, b43, ll, f1, st, i1, z10', if_true, if_false, bind_ok, Option.bind_some, cb_some]
      · have cb : ¬ iN i = iN z := (fun h => absurd ((iN_inj (by omega) (by omega)).mp h) (by omega))
        rw [decide_eq_false c] at st ⊢
        have st : stZ s 148 (10 * iN n + iN i) 0 = _ := st
        simp only [s_X9_layComing_b12, s_X9_layComing_j45, bb, b43, ll, f1, cb, st, i1, z10', if_true, if_false, bind_ok, Option.bind_some, cb_some]
    · by_cases c : p = i
      · subst c
        rw [ec]
        exact zi_hit
      · rw [zi_miss (by omega)]
        exact hs2 p (by omega)) (fun s hs => by
    have n9 := h.frs c148 hs.1
    have bb := q_r125_3 n9.1
    have ll := l0 s n9
    have f1 : iN nP ≤ iN nP := Int32.le_refl _
    exact ⟨s, by simp only [s_X9_layComing_b12, bb, ll, f1, z10', if_true, if_false, bind_ok, Option.bind_some, cb_some], hs⟩) (σ := σ) ⟨Ag.refl, fun p hp => by omega⟩
  have a1 : s_X9_layComing_l12 (125, iN f, iN z, iN n, iN hr, 0) σ = _ := a1
  obtain ⟨s9, g1, g2, g3⟩ := loop_to (body := fun v => s_X9_layComing_b57 (v.1) (v.2.1) (v.2.2.1) (v.2.2.2)) (fun e s => Ag (FrS 148) σ s ∧ ∀ d, d ≤ e → ∀ p, p < nP → zi s 148 (10 * (n - d) + p) = bI (ccP B R nP f z hr n d p)) (fun s => Ag (FrS 148) σ s ∧ ∀ d, d ≤ n → ∀ p, p < nP → zi s 148 (10 * (n - d) + p) = bI (ccP B R nP f z hr n d p)) (fun e => (125, iN f, iN hr, iN (n - e) - 1)) () n (fun e s he hs => by
    obtain ⟨hs1, hs2⟩ := hs
    have e1 : iN (n - e) - 1 = iN (n - (e + 1)) := by
      rw [show n - (e + 1) = n - e - 1 by omega]
      exact iN_sub (b := 1) (by omega)
    have f1 : ¬ iN (n - (e + 1)) < 0 := iN_nn (by omega)
    have e2 : iN (n - (e + 1)) + (-1) = iN (n - (e + 1)) - 1 := by rw [Int32.sub_eq_add_neg]
    obtain ⟨s2, k1, k2, k3, k4⟩ := loop_to (body := fun v => s_X9_layComing_b65 (v.1) (v.2.1) (v.2.2.1) (v.2.2.2.1) (v.2.2.2.2)) (fun i t => Ag (FrS 148) σ t ∧ (∀ d, d ≤ e → ∀ p, p < nP → zi t 148 (10 * (n - d) + p) = bI (ccP B R nP f z hr n d p)) ∧ ∀ p, p < i → zi t 148 (10 * (n - (e + 1)) + p) = bI (ccP B R nP f z hr n (e + 1) p)) (fun t => Ag (FrS 148) σ t ∧ (∀ d, d ≤ e → ∀ p, p < nP → zi t 148 (10 * (n - d) + p) = bI (ccP B R nP f z hr n d p)) ∧ ∀ p, p < nP → zi t 148 (10 * (n - (e + 1)) + p) = bI (ccP B R nP f z hr n (e + 1) p)) (fun i => (125, iN f, iN hr, iN (n - (e + 1)), iN i)) (125, iN f, iN hr, iN (n - (e + 1))) nP (fun p t hp ht => by
      obtain ⟨t1, t2, t3⟩ := ht
      have n9 := h.frs c148 t1
      have bb := q_r125_3 n9.1
      have ll := l0 t n9
      have f2 : ¬ iN nP ≤ iN p := (fun h => absurd ((iN_le (by omega) (by omega)).mp h) (by omega))
      have p1 : iN p + 1 = iN (p + 1) := iN_add _ _
      obtain ⟨s3, m1, m2, m3⟩ := loop_to (body := fun v => s_X9_layComing_b82 (v.1) (v.2.1) (v.2.2.1) (v.2.2.2.1) (v.2.2.2.2.1) (v.2.2.2.2.2.1) (v.2.2.2.2.2.2)) (fun _ w => Ag (FrS 148) σ w ∧ ∀ k, zi w 148 k = zi t 148 k) (fun w => Ag (FrS 148) σ w ∧ ∀ k, zi w 148 k = zi t 148 k) (fun q => (125, iN f, iN hr, iN (n - (e + 1)), iN p, bI (anyN q (fun q => ccP B R nP f z hr n e q && gsP B R f p q (hr + (n - (e + 1))))), iN q)) (125, iN f, iN hr, iN (n - (e + 1)), iN p, bI (anyN nP (fun q => ccP B R nP f z hr n e q && gsP B R f p q (hr + (n - (e + 1)))))) nP (fun q w hq hw => by
        obtain ⟨w1, w2⟩ := hw
        have n9 := h.frs c148 w1
        have bb := q_r125_3 n9.1
        have b43 := q_r125_43 n9.1
        have bk := q_ck125 n9.1
        have ll := l0 w n9
        have f3 : ¬ iN nP ≤ iN q := (fun h => absurd ((iN_le (by omega) (by omega)).mp h) (by omega))
        have q1 : iN q + 1 = iN (q + 1) := iN_add _ _
        have en : iN (n - (e + 1)) + 1 = iN (n - e) := by
          rw [show n - e = n - (e + 1) + 1 by omega]
          exact iN_add _ _
        have ld := ld148 n9.1 (t := n - e) (q := q) (by omega)
        rw [w2, t2 e (Nat.le_refl _) q hq] at ld
        rw [anyN_s]
        cases ca : anyN q (fun q => ccP B R nP f z hr n e q && gsP B R f p q (hr + (n - (e + 1)))) with
        | true =>
          exact ⟨w, by simp only [s_X9_layComing_b82, s_X9_layComing_j132, s_X9_layComing_j137, bb, ll, f3, bI_t, Bool.true_or, q1, z10', if_true, if_false, bind_ok, Option.bind_some, cb_some], w1, w2⟩
        | false =>
          cases cp : ccP B R nP f z hr n e q with
          | false =>
            rw [cp] at ld
            exact ⟨w, by simp only [s_X9_layComing_b82, s_X9_layComing_j136, s_X9_layComing_j137, bb, b43, ll, en, ld, f3, bI_f, Bool.false_and, Bool.or_false, q1, z10', if_true, if_false, bind_ok, Option.bind_some, cb_some], w1, w2⟩
          | true =>
            rw [cp] at ld
            obtain ⟨t3, u1, u2⟩ := goes_on9 n9 h3 h7 (t := n - (e + 1)) hf hp hq (by omega)
            refine ⟨t3, ?_, w1.trans u2.f, fun k => (S9.c (by decide) u2 k).trans (w2 k)⟩
            cases cg : gsP B R f p q (hr + (n - (e + 1))) with
            | false =>
              rw [cg] at u1
              simp only [s_X9_layComing_b82, s_X9_layComing_j136, s_X9_layComing_j137, bb, b43, bk, ll, en, ld, f3, u1, bI_t, bI_f, Bool.and_false, Bool.or_false, q1, z10', if_true, if_false, bind_ok, Option.bind_some, cb_some]
            | true =>
              rw [cg] at u1
              simp only [s_X9_layComing_b82, s_X9_layComing_j132, s_X9_layComing_j137, bb, b43, bk, ll, en, ld, f3, u1, bI_t, bI_f, Bool.and_true, Bool.or_true, q1, z10', if_true, if_false, bind_ok, Option.bind_some, cb_some]) (fun w hw => by
        have n9 := h.frs c148 hw.1
        have bb := q_r125_3 n9.1
        have ll := l0 w n9
        have f3 : iN nP ≤ iN nP := Int32.le_refl _
        exact ⟨w, by simp only [s_X9_layComing_b82, bb, ll, f3, z10', if_true, if_false, bind_ok, Option.bind_some, cb_some], hw⟩) (σ := t) ⟨t1, fun _ => rfl⟩
      have m1 : s_X9_layComing_l82 (125, iN f, iN hr, iN (n - (e + 1)), iN p, 0, 0) t = _ := m1
      have n92 := h.frs c148 m2
      have b43 := q_r125_43 n92.1
      have eA : anyN nP (fun q => ccP B R nP f z hr n e q && gsP B R f p q (hr + (n - (e + 1)))) = ccP B R nP f z hr n (e + 1) p := by
        show _ = (decide (p < nP) && _)
        rw [decide_eq_true hp, Bool.true_and]
      rw [eA] at m1
      have st := st148 n92.1 (t := n - (e + 1)) (q := p) (x := ccP B R nP f z hr n (e + 1) p) (by omega)
      refine ⟨zsi s3 148 (10 * (n - (e + 1)) + p) (bI (ccP B R nP f z hr n (e + 1) p)), ?_, m2.trans (Ag.zsi (Or.inr rfl)), fun d hd k hk => ?_, fun k hk => ?_⟩
      · simp only [s_X9_layComing_b65, bb, ll, f2, m1, b43, st, p1, z10', if_true, if_false, bind_ok, Option.bind_some, cb_some]
      · rw [zi_miss (by omega), m3]
        exact t2 d hd k hk
      · by_cases c : k = p
        · subst c
          exact zi_hit
        · rw [zi_miss (by omega), m3]
          exact t3 k (by omega)) (fun t ht => by
      have n9 := h.frs c148 ht.1
      have bb := q_r125_3 n9.1
      have ll := l0 t n9
      have f2 : iN nP ≤ iN nP := Int32.le_refl _
      exact ⟨t, by simp only [s_X9_layComing_b65, bb, ll, f2, z10', if_true, if_false, bind_ok, Option.bind_some, cb_some], ht⟩) (σ := s) ⟨hs1, hs2, fun p hp => by omega⟩
    have k1 : s_X9_layComing_l65 (125, iN f, iN hr, iN (n - (e + 1)), 0) s = _ := k1
    refine ⟨s2, ?_, k2, fun d hd p hp => ?_⟩
    · rw [e1]
      simp only [s_X9_layComing_b57, f1, k1, e2, z10', if_true, if_false, bind_ok, Option.bind_some, cb_some]
    · by_cases c : d = e + 1
      · subst c
        exact k4 p hp
      · exact k3 d (by omega) p hp) (fun s hs => by
    have f1 : iN (n - n) - 1 < 0 := by
      rw [Nat.sub_self]
      decide
    exact ⟨s, by simp only [s_X9_layComing_b57, f1, z10', if_true, if_false, bind_ok, Option.bind_some, cb_some], hs⟩) (σ := s0) ⟨a2, fun d hd p hp => by
      have : d = 0 := by omega
      subst this
      exact a3 p hp⟩
  have g1 : s_X9_layComing_l57 (125, iN f, iN hr, iN n - 1) s0 = _ := g1
  refine ⟨s9, ?_, frs_p c148 g2, h.frs c148 g2, g3⟩
  simp only [s_X9_layComing, b3, l7, a1, g1, z10', if_true, if_false, bind_ok, Option.bind_some, cb_some]
end ON
end V25
