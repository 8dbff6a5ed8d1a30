/-! ===== roost: the call ===== -/
section V24
variable {σ : Hp}
def fI : Option Nat → Int32
  | none => -1
  | some p => iN p
theorem firstP_app {S : Nat → Bool} : ∀ (d e i : Nat), firstP S (d + e) i = match firstP S d i with | some k => some k | none => firstP S e (i + d)
  | 0, e, i => by
    rw [Nat.zero_add]
    rfl
  | d + 1, e, i => by
    rw [show d + 1 + e = (d + e) + 1 by omega, firstP]
    by_cases c : S i = true
    · rw [if_pos c, firstP, if_pos c]
    · rw [if_neg c, firstP_app d e (i + 1), show i + 1 + d = i + (d + 1) by omega]
      rw [show firstP S (d + 1) i = firstP S d (i + 1) by rw [firstP, if_neg c]]
theorem firstP_cut {S : Nat → Bool} {n m : Nat} (h : n ≤ m) (hS : ∀ k, n ≤ k → S k = false) : firstP S m 0 = firstP S n 0 := by
  rw [show m = n + (m - n) by omega, firstP_app n (m - n) 0]
  rw [show firstP S (m - n) (0 + n) = none from (firstP_any _ _).mpr (fun k h1 _ => hS k (by omega))]
  cases firstP S n 0 <;> rfl
section ON
variable {nP nF nB nT nS nL H hr : Nat} {B : Book} {R : Nat → Int32}
def rsF (B : Book) (R : Nat → Int32) (nP f u hr d i : Nat) : Option Nat := match firstP (fun n => anyN 10 (gdP B R nP f u hr n)) d i with
  | none => none
  | some n => firstP (gdP B R nP f u hr n) 10 0
theorem roost9 (h : M9 nP nF nB nT nS nL 999 B R σ) (h3 : hr ≤ 999) (h7 : R 7 = iN hr) {f u : Nat} (hC : Str σ nP (fun p q => cnP B R f p q hr)) (hf : f < nF) (hu : u < nP) (eu : R (17 + f) = iN u) :
    ∃ σ1, s_X9_roost_l24 (125, iN f, -1, 0) σ = some (fI (rsF B R nP f u hr 11 0), σ1) ∧ Ag S9 σ σ1 := by
  have hp10 := h.2.2.1.1.1
  have C : ∀ {s : Hp}, Ag S9 σ s → Str s nP (fun p q => cnP B R f p q hr) := fun e p hp q hq => ((e.2.2.2.2 149 _ (S9.n (by decide) (Or.inl (by decide)))).1).trans (hC p hp q hq)
  have key : ∀ (d i : Nat) (s : Hp), i + d = 11 → Ag S9 σ s → ∃ σ1, s_X9_roost_l24 (125, iN f, -1, iN i) s = some (fI (rsF B R nP f u hr d i), σ1) ∧ Ag S9 σ σ1 := by
    intro d
    induction d with
    | zero =>
      intro i s hi hs
      have e : i = 11 := by omega
      subst e
      have f1 : (10 : Int32) < iN 11 := by decide
      exact ⟨s, loopF_out (by simp only [s_X9_roost_b24, f1, z10', if_true, if_false, bind_ok, Option.bind_some, cb_some]; rfl), hs⟩
    | succ d ih =>
      intro i s hi hs
      have n9 := h.ag hs
      have f1 : ¬ (10 : Int32) < iN i := fun q => absurd ((iN_lt (a := 10) (by decide) (by omega)).mp q) (by omega)
      have bk := q_ck125 n9.1
      have b3 := q_r125_3 n9.1
      have l0 : ldI 11 s 127 0 = some (iN nP) := (rw_0 n9.1).trans (by rw [n9.c0])
      have i1 : iN i + 1 = iN (i + 1) := iN_add _ _
      have nr := near9 n9 (C hs) (G := fun _ => false) (f := f) (u := u) (n := i) hf (by omega) eu (by omega)
      rw [show iN (setN (fun _ => false) 10) = 0 by rw [setN_z.mpr (fun _ _ => rfl)]; rfl] at nr
      have eG : ∀ p, p < nP → gdP B R nP f u hr i p = (itN (stq (fun p q => cnP B R f p q hr) (fun _ => false) nP) (one u) i p && dayP B R p hr 24) := fun p hp => by
        unfold gdP
        rw [decide_eq_true hp, Bool.true_and]
      obtain ⟨s2, k1, k2⟩ := loop_to (body := fun v => s_X9_roost_b54 (v.1) (v.2.1) (v.2.2.1) (v.2.2.2.1) (v.2.2.2.2.1) (v.2.2.2.2.2)) (fun _ t => Ag S9 σ t) (fun t => Ag S9 σ t) (fun j => (125, iN f, fI (firstP (gdP B R nP f u hr i) j (nP - j)), iN i, iN (setN (itN (stq (fun p q => cnP B R f p q hr) (fun _ => false) nP) (one u) i) 10), iN (nP - j) - 1)) (125, iN f, fI (firstP (gdP B R nP f u hr i) nP 0), iN i) nP (fun j t hj ht => by
        have n9 := h.ag ht
        have bk := q_ck125 n9.1
        have e1 : iN (nP - j) - 1 = iN (nP - j - 1) := iN_sub (b := 1) (by omega)
        have f2 : ¬ iN (nP - j - 1) < 0 := iN_nn (by omega)
        have e2 : iN (nP - j - 1) + (-1) = iN (nP - (j + 1)) - 1 := by
          rw [show nP - (j + 1) = nP - j - 1 by omega, Int32.sub_eq_add_neg]
        have hb := hb_set (f := itN (stq (fun p q => cnP B R f p q hr) (fun _ => false) nP) (one u) i) (n := 10) (k := nP - j - 1) (by decide) (by omega)
        rw [decide_eq_true (show nP - j - 1 < 10 by omega), Bool.true_and] at hb
        have eF : firstP (gdP B R nP f u hr i) (j + 1) (nP - (j + 1)) = if gdP B R nP f u hr i (nP - j - 1) = true then some (nP - j - 1) else firstP (gdP B R nP f u hr i) j (nP - j) := by
          rw [firstP, show nP - (j + 1) = nP - j - 1 by omega, show nP - j - 1 + 1 = nP - j by omega]
        have eg := eG (nP - j - 1) (by omega)
        rw [eF, e1]
        cases c : itN (stq (fun p q => cnP B R f p q hr) (fun _ => false) nP) (one u) i (nP - j - 1) with
        | false =>
          rw [c, Bool.false_and] at eg
          rw [c] at hb
          rw [eg, if_neg (by decide)]
          exact ⟨t, by simp only [s_X9_roost_b54, s_X9_roost_j83, s_X9_roost_j84, f2, hb9, hb, bI_f, e2, z10', if_true, if_false, bind_ok, Option.bind_some, cb_some], ht⟩
        | true =>
          rw [c, Bool.true_and] at eg
          rw [c] at hb
          obtain ⟨t2, u1, u2⟩ := day9 n9 h3 h7 (p := nP - j - 1) (by omega)
          refine ⟨t2, ?_, ht.trans u2⟩
          rw [eg]
          cases c2 : dayP B R (nP - j - 1) hr 24 with
          | false =>
            rw [c2] at u1
            rw [if_neg (by decide)]
            simp only [s_X9_roost_b54, s_X9_roost_j83, s_X9_roost_j84, f2, hb9, hb, bk, u1, bI_t, bI_f, e2, z10', if_true, if_false, bind_ok, Option.bind_some, cb_some]
          | true =>
            rw [c2] at u1
            rw [if_pos (by rfl)]
            simp only [s_X9_roost_b54, s_X9_roost_j83, s_X9_roost_j84, f2, hb9, hb, bk, u1, bI_t, e2, fI, z10', if_true, if_false, bind_ok, Option.bind_some, cb_some]) (fun t ht => by
        have f2 : iN (nP - nP) - 1 < 0 := by
          rw [Nat.sub_self]
          decide
        refine ⟨t, ?_, ht⟩
        simp only [s_X9_roost_b54, f2, z10', if_true, if_false, bind_ok, Option.bind_some, cb_some]
        rw [Nat.sub_self]) (σ := s) hs
      have k1 : s_X9_roost_l54 (125, iN f, -1, iN i, iN (setN (itN (stq (fun p q => cnP B R f p q hr) (fun _ => false) nP) (one u) i) 10), iN nP - 1) s = _ := k1
      rw [← firstP_cut (S := gdP B R nP f u hr i) hp10 (fun k hk => by unfold gdP; rw [decide_eq_false (by omega), Bool.false_and])] at k1
      have step : s_X9_roost_b24 125 (iN f) (-1) (iN i) s = some (Sum.inl (125, iN f, fI (firstP (gdP B R nP f u hr i) 10 0), iN (i + 1)), s2) := by
        simp only [s_X9_roost_b24, f1, bk, nr, b3, l0, k1, i1, z10', if_true, if_false, bind_ok, Option.bind_some, cb_some]
      cases c : firstP (gdP B R nP f u hr i) 10 0 with
      | none =>
        rw [c] at step
        have ca : anyN 10 (gdP B R nP f u hr i) = false := anyN_f.mpr (fun k hk => (firstP_any 10 0).mp c k (by omega) (by omega))
        have e : rsF B R nP f u hr (d + 1) i = rsF B R nP f u hr d (i + 1) := by
          unfold rsF
          rw [firstP_f (p := fun n => anyN 10 (gdP B R nP f u hr n)) ca]
        rw [e]
        obtain ⟨σ1, m1, m2⟩ := ih (i + 1) s2 (by omega) k2
        exact ⟨σ1, (loopF_in step).trans m1, m2⟩
      | some k =>
        rw [c] at step
        have hk := firstP_lt c
        have ca : anyN 10 (gdP B R nP f u hr i) = true := anyN_t.mpr ⟨k, by omega, hk.2.2⟩
        have e : rsF B R nP f u hr (d + 1) i = some k := by
          unfold rsF
          rw [show firstP (fun n => anyN 10 (gdP B R nP f u hr n)) (d + 1) i = some i by rw [firstP, if_pos ca]]
          exact c
        rw [e]
        have n1 : ¬ iN k = -1 := iN_ne (by omega)
        refine ⟨s2, (loopF_in step).trans (loopF_out ?_), k2⟩
        by_cases g : (10 : Int32) < iN (i + 1)
        · simp only [s_X9_roost_b24, fI, g, z10', if_true, if_false, bind_ok, Option.bind_some, cb_some]
        · simp only [s_X9_roost_b24, fI, g, n1, z10', if_true, if_false, bind_ok, Option.bind_some, cb_some]
  exact key 11 0 σ (by omega) Ag.refl
theorem roost8 (m8 : M8 1 nP nF nB nT nS nL H B R σ) (hS : SK σ) (hr2 : hr < 100000) (h7 : R 7 = iN hr) {f u : Nat} (hf : f < nF) (hu : u < nP) (eu : R (17 + f) = iN u) :
    ∃ σ1, s_X2_nearestRoost 113 (some 1) (iN f) σ = some (fI (rsF B R nP f u hr 11 0), σ1) ∧ Ag S8p σ σ1 := by
  have hp10 := m8.p10
  have hf4 := m8.f4
  have t0 := ht_0 m8.2.1
  rw [show zi σ (1 + 14) 0 = iN hr from m8.2.2.1.g7.trans h7] at t0
  have x10 := h_r0_10 m8.2.1
  have x0 := h_r0_0 m8.2.1
  have x1 := h_ck1 m8.2.1
  have al := all8 m8
  obtain ⟨s1, a1, a2⟩ := loop_to (body := fun v => s_X2_nearestRoost_b19 (v.1) (v.2.1) (v.2.2.1) (v.2.2.2.1) (v.2.2.2.2.1) (v.2.2.2.2.2)) (fun _ s => Ag S8 σ s) (fun s => Ag S8 σ s) (fun i => (113, some 1, iN f, iN hr, iN (setN (fun p => decide (p < nP) && dayP B R p hr i) 10), iN i)) (113, some 1, iN f, iN hr, iN (setN (fun p => decide (p < nP) && dayP B R p hr 24) 10)) 24 (fun i s hi hs => by
    have n8 := m8.ag hs
    have k0 := h_ck0 n8.2.1
    have f1 : ¬ (24 : Int32) ≤ iN i := fun q => absurd ((iN_le (a := 24) (by decide) (by omega)).mp q) (by omega)
    have i1 : iN i + 1 = iN (i + 1) := iN_add _ _
    have i0 : iN hr + iN i = iN (hr + i) := iN_add _ _
    obtain ⟨s2, u1, u2⟩ := safes8 n8 (hr := hr + i) (by omega)
    have e1 : iN (setN (fun p => decide (p < nP) && dayP B R p hr i) 10) &&& iN (setN (sfQ B R nP (hr + i)) 10) = iN (setN (fun p => decide (p < nP) && dayP B R p hr (i + 1)) 10) := by
      rw [iN_and, setN_and]
      congr 1
      refine setN_congr (fun p _ => ?_)
      unfold sfQ
      show (decide (p < nP) && dayP B R p hr i && (decide (p < nP) && sfP B R p (hr + i))) = (decide (p < nP) && (dayP B R p hr i && sfP B R p (hr + i)))
      cases decide (p < nP) <;> cases dayP B R p hr i <;> rfl
    exact ⟨s2, by simp only [s_X2_nearestRoost_b19, f1, k0, i0, u1, e1, i1, z10', if_true, if_false, bind_ok, Option.bind_some, cb_some], hs.trans u2⟩) (fun s hs => by
    have f1 : (24 : Int32) ≤ iN 24 := by decide
    exact ⟨s, by simp only [s_X2_nearestRoost_b19, f1, z10', if_true, if_false, bind_ok, Option.bind_some, cb_some], hs⟩) (σ := σ) Ag.refl
  have e0 : setN (fun p => decide (p < nP) && dayP B R p hr 0) 10 = setN (fun _ => true) nP := (setN_up (f := fun _ => true) hp10).symm
  rw [e0] at a1
  have a1 : s_X2_nearestRoost_l19 (113, some 1, iN f, iN hr, iN (setN (fun _ => true) nP), 0) σ = _ := a1
  have n8 := m8.ag a2
  have hS1 := hS.ag a2
  have k113 := q_ck113 hS1
  obtain ⟨s2, d1, d2, d3⟩ := draw8 n8 hS1 hf
  have P2 : Ag S8p s1 s2 := d2.mono (fun a k w => Or.inr (Or.inr (Or.inr (Or.inr (by omega)))))
  have n82 := n8.agp P2
  have hS2 := hS1.ag d2
  have y0 := h_r0_0 n82.2.1
  have y1 := h_ck1 n82.2.1
  have yk := h_ck0 n82.2.1
  have al2 := all8 n82
  obtain ⟨s3, u1, u2⟩ := unb8 n82 (hr := hr) (by omega) hf (m := nP) (by omega) (Nat.le_refl _) (S := fun _ => true)
  have n83 := n82.ag u2
  have hS3 := hS2.ag u2
  have L3 : Lay s3 (ldQ R nP f) := fun p hp => by
    rw [(u2.2.2.2.2 119 p (by unfold S8; omega)).1]
    exact d3 p hp
  obtain ⟨s4, g1, g2⟩ := loop_first (body := fun v => s_X2_nearestRoost_b69 (v.1) (v.2.1) (v.2.2.1) (v.2.2.2.1) (v.2.2.2.2.1) (v.2.2.2.2.2)) (fun _ s => s = s3) (fun s => s = s3) (fun i => (113, some 1, iN f, iN (setN (fun p => decide (p < nP) && dayP B R p hr 24) 10), iN (setN (opQ B R nP f hr (fun _ => true)) 10), iN i)) (fun n => anyN 10 (gdP B R nP f u hr n)) (fun o => match o with | some n => Sum.inl (iN (setN (gdP B R nP f u hr n) 10)) | none => Sum.inr (-1)) 11 (fun i s hi hs => by
    subst hs
    have f1 : ¬ (10 : Int32) < iN i := fun q => absurd ((iN_lt (a := 10) (by decide) (by omega)).mp q) (by omega)
    have i1 : iN i + 1 = iN (i + 1) := iN_add _ _
    have z3 := h_r0_3 n83.2.1
    have l7 := h_ld7 (n := f) (by omega) n83.2.1
    rw [n83.2.2.1.on (by omega), eu] at l7
    have kk := q_ck113 hS3
    have rc := reach8 hS3 L3 (S := one u) (O := opQ B R nP f hr (fun _ => true)) (n := i) (by omega)
    have e1 : setN (itN (stp (ldQ R nP f) (opQ B R nP f hr (fun _ => true))) (one u) i) 10 = setN (itN (stq (fun p q => cnP B R f p q hr) (fun _ => false) nP) (one u) i) 10 := by
      refine setN_congr (itN_congr (fun S T hST => ?_) (fun _ _ => rfl) i)
      intro q hq
      have := step_same (B := B) (R := R) (hr := hr) (f := f) (G := fun _ => false) hp10 hST q hq
      rw [← this]
      simp [stp]
    rw [e1] at rc
    have e2 : iN (setN (itN (stq (fun p q => cnP B R f p q hr) (fun _ => false) nP) (one u) i) 10) &&& iN (setN (fun p => decide (p < nP) && dayP B R p hr 24) 10) = iN (setN (gdP B R nP f u hr i) 10) := by
      rw [iN_and, setN_and]
      congr 1
      refine setN_congr (fun p _ => ?_)
      unfold gdP
      generalize itN (stq (fun p q => cnP B R f p q hr) (fun _ => false) nP) (one u) i p = x
      cases decide (p < nP) <;> cases x <;> rfl
    constructor
    · intro c
      have c2 : ¬ iN (setN (gdP B R nP f u hr i) 10) = 0 := fun q => by
        have := (iN_inj (b := 0) (setN_31 (by decide)) (by decide)).mp q
        have := setN_z.mp this
        obtain ⟨k, k1, k2⟩ := anyN_t.mp c
        rw [this k k1] at k2
        cases k2
      exact ⟨s, by simp only [s_X2_nearestRoost_b69, f1, z3, l7, kk, shl_one (show u < 10 by omega), rc, e2, c2, z10', if_true, if_false, bind_ok, Option.bind_some, cb_some], rfl⟩
    · intro c
      have c2 : iN (setN (gdP B R nP f u hr i) 10) = 0 := by
        rw [setN_z.mpr (anyN_f.mp c)]
        rfl
      exact ⟨s, by simp only [s_X2_nearestRoost_b69, f1, z3, l7, kk, shl_one (show u < 10 by omega), rc, e2, c2, i1, z10', if_true, if_false, bind_ok, Option.bind_some, cb_some], rfl⟩) (fun s hs => by
    subst hs
    have f1 : (10 : Int32) < iN 11 := by decide
    exact ⟨s, by simp only [s_X2_nearestRoost_b69, f1, z10', if_true, if_false, bind_ok, Option.bind_some, cb_some], rfl⟩) (σ := s3) rfl
  subst g2
  have g1 : s_X2_nearestRoost_l69 (113, some 1, iN f, iN (setN (fun p => decide (p < nP) && dayP B R p hr 24) 10), iN (setN (opQ B R nP f hr (fun _ => true)) 10), 0) s4 = _ := g1
  refine ⟨s4, ?_, (a2.p8.trans P2).trans u2.p8⟩
  unfold rsF
  cases c : firstP (fun n => anyN 10 (gdP B R nP f u hr n)) 11 0 with
  | none =>
    rw [c] at g1
    simp only [s_X2_nearestRoost, x10, t0, x0, x1, show (1 : Nat) + 1 = 2 from rfl, al, a1, k113, d1, y0, y1, al2, yk, u1, g1, fI, z10', if_true, if_false, bind_ok, Option.bind_some, cb_some]
  | some n =>
    rw [c] at g1
    have lo := low8 (σ := s4) (S := gdP B R nP f u hr n)
    simp only [s_X2_nearestRoost, x10, t0, x0, x1, show (1 : Nat) + 1 = 2 from rfl, al, a1, k113, d1, y0, y1, al2, yk, u1, g1, lo, z10', if_true, if_false, bind_ok, Option.bind_some, cb_some]
    cases firstP (gdP B R nP f u hr n) 10 0 <;> rfl
end ON
theorem b_roost {p1 : Int32} (hr : Rel σ) : Both (s_X8_roost 0 p1) (s_X9_roost 125 p1) σ := by
  have hS := hr.1.1
  refine hr.both2 (fun nP nF nB nT nS nL B m8 m9 => ?_)
  have hf4 := m8.f4
  have hp10 := m8.p10
  obtain ⟨hh, hh1, hh2⟩ := bd_hour m8
  have r0 := q_r0_0 hS
  have k0 := h_ck0 hS.hk1
  have cF := m8.2.2.1.g1.trans m8.2.2.2.1.2.1.2.1
  rcases nx p1 (c := nF) (by omega) with ⟨f, hf, rfl⟩ | hx
  · have isf := fk8_t m8.2.1 cF hf4 hf
    obtain ⟨u, hu, eu⟩ := on_n m8.2.2.2.1 hf
    refine ⟨fI (rsF B (zi σ 127) nP f u hh 11 0), ?_, fun σ1 q => ?_⟩
    · obtain ⟨σ1, g1, g2⟩ := roost8 m8 hS (hr := hh) (by omega) hh2 hf hu eu
      have r10 := q_r0_10 hS
      have k113 := q_ck113 hS
      exact ⟨σ1, by simp only [s_X8_roost, r0, k0, isf, r10, k113, g1, z10', if_true, if_false, bind_ok, Option.bind_some, cb_some], g2⟩
    · have w := q_w125 (k := 0) (v := 0) q.1; have q2 := q.thrown.2; have bk := q_ck125 q2.1; have b3 := q_r125_3 q2.1
      have isf9 := fk9_t q2.1 q2.c1 (Nat.le_trans hf4 (by decide)) hf
      obtain ⟨s1, g1, g2, g3, g4⟩ := lay9 q2 (hr := hh) (by omega) hh2 hf
      obtain ⟨s2, z1, z2⟩ := roost9 g4 hh1 hh2 g3 hf hu eu
      exact ⟨s2, by simp only [s_X9_roost, w, bk, isf9, g1, z1, z10', if_true, if_false, bind_ok, Option.bind_some, cb_some], (q.thrown.1.p.trans g2).trans z2.p⟩
  · have isf := fk8_f m8.2.1 cF hx
    refine ⟨-1, ⟨σ, ?_, Ag.refl⟩, fun σ1 q => ⟨_, ?_, q.thrown.1.p⟩⟩
    · simp only [s_X8_roost, r0, k0, isf, z10', if_true, if_false, bind_ok, Option.bind_some, cb_some]
    · have w := q_w125 (k := 0) (v := 0) q.1; have q2 := q.thrown.2; have bk := q_ck125 q2.1; have b3 := q_r125_3 q2.1
      have isf9 := fk9_f q2.1 q2.c1 (Nat.le_trans hf4 (by decide)) hx
      simp only [s_X9_roost, w, bk, isf9, z10', if_true, if_false, bind_ok, Option.bind_some, cb_some]
end V24
