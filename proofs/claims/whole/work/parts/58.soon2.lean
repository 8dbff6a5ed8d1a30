/-! ===== soonest: the class's side, the call ===== -/
section V26
variable {σ : Hp}
section ON
variable {nP nF nB nT nS nL H hr : Nat} {B : Book} {R : Nat → Int32}
def nxtP (B : Book) (R : Nat → Int32) (nP f u hr t : Nat) : Nat → Bool := fun q => anyN 10 (fun p => anP B R nP f u hr t p && ldQ R nP f p q)
def opnP (B : Book) (R : Nat → Int32) (nP f u hr t : Nat) : Nat → Bool := opQ B R nP f (hr + t) (nxtP B R nP f u hr t)
/-- where one can be, whence one can stride: both ways of saying it -/
theorem go_same {f u t w q : Nat} (hp10 : nP ≤ 10) (hw : w < nP) (ha : anP B R nP f u hr t w = true) : (one w q || (ldQ R nP f w q && opnP B R nP f u hr t q)) = (decide (w = q) || (decide (q < nP) && cnP B R f w q (hr + t))) := by
  unfold one
  by_cases c : q = w
  · subst c
    simp
  · rw [decide_eq_false c, decide_eq_false (fun e => c e.symm), Bool.false_or, Bool.false_or]
    unfold opnP opQ cnP
    cases cl : ldQ R nP f w q with
    | false =>
      rw [Bool.false_and]
      unfold ldQ at cl
      rw [decide_eq_true hw, Bool.true_and] at cl
      by_cases cq : q < nP
      · rw [decide_eq_true cq, Bool.true_and] at cl
        rw [cl]
        simp
      · simp [cq]
    | true =>
      have hn : nxtP B R nP f u hr t q = true := anyN_t.mpr ⟨w, by omega, by rw [ha, cl]; rfl⟩
      rw [hn]
      unfold ldQ at cl
      simp only [Bool.and_eq_true, decide_eq_true_eq] at cl
      rw [cl.2.2]
      simp [cl.2.1]
theorem an_step {f u t q : Nat} (hp10 : nP ≤ 10) (hu : u < nP) (hq : q < 10) : ((anP B R nP f u hr t q || (nxtP B R nP f u hr t q && opnP B R nP f u hr t q)) && sfQ B R nP (hr + t + 1) q) = anP B R nP f u hr (t + 1) q := by
  show _ = (decide (q < nP) && anyN nP (fun p => anP B R nP f u hr t p && gsP B R f p q (hr + t)))
  unfold sfQ
  by_cases cq : q < nP
  · rw [decide_eq_true cq, Bool.true_and, Bool.true_and]
    cases cs : sfP B R q (hr + t + 1) with
    | false =>
      rw [Bool.and_false]
      refine (anyN_f.mpr (fun p hp => ?_)).symm
      unfold gsP
      rw [cs, Bool.and_false, Bool.and_false]
    | true =>
      rw [Bool.and_true]
      have eg : ∀ p, gsP B R f p q (hr + t) = (decide (p = q) || cnP B R f p q (hr + t)) := fun p => by
        unfold gsP
        rw [cs, Bool.and_true]
      cases ca : anyN nP (fun p => anP B R nP f u hr t p && gsP B R f p q (hr + t)) with
      | true =>
        obtain ⟨p, p1, p2⟩ := anyN_t.mp ca
        rw [Bool.and_eq_true, eg] at p2
        have gs := go_same (B := B) (R := R) (hr := hr) (f := f) (u := u) (t := t) (q := q) hp10 p1 p2.1
        have h2 := p2.2
        by_cases c : p = q
        · subst c
          rw [p2.1]
          rfl
        · rw [decide_eq_false c, Bool.false_or] at h2
          rw [h2, decide_eq_true cq] at gs
          unfold one at gs
          rw [decide_eq_false (fun e => c e.symm), Bool.false_or] at gs
          simp only [Bool.and_true, Bool.or_true, Bool.and_eq_true] at gs
          have hn : nxtP B R nP f u hr t q = true := anyN_t.mpr ⟨p, by omega, by rw [p2.1, gs.1]; rfl⟩
          rw [hn, gs.2]
          simp
      | false =>
        have ca := anyN_f.mp ca
        have h1 : anP B R nP f u hr t q = false := by
          have := ca q cq
          rw [eg, decide_eq_true rfl, Bool.true_or, Bool.and_true] at this
          exact this
        rw [h1, Bool.false_or]
        cases cn : nxtP B R nP f u hr t q with
        | false => rfl
        | true =>
          rw [Bool.true_and]
          obtain ⟨p, p1, p2⟩ := anyN_t.mp cn
          rw [Bool.and_eq_true] at p2
          have hpn := anP_lt hu p2.1
          have gs := go_same (B := B) (R := R) (hr := hr) (f := f) (u := u) (t := t) (q := q) hp10 hpn p2.1
          have := ca p hpn
          rw [p2.1, eg, Bool.true_and] at this
          rw [Bool.or_eq_false_iff] at this
          rw [this.1, this.2, p2.2] at gs
          unfold one at gs
          rw [decide_eq_false (fun e => by simp [e] at this), Bool.false_or] at gs
          simpa using gs
  · simp [cq]
/-- of those ahead only these come there -/
def kkP (B : Book) (R : Nat → Int32) (nP f u z hr n : Nat) : Nat → Nat → Bool
  | 0 => one z
  | d + 1 => fun p => anP B R nP f u hr (n - (d + 1)) p && anyN 10 (fun q => (one p q || (ldQ R nP f p q && opnP B R nP f u hr (n - (d + 1)) q)) && kkP B R nP f u z hr n d q)
theorem kk_same {f u z n : Nat} (hp10 : nP ≤ 10) (hu : u < nP) (hz : z < nP) (hn : anP B R nP f u hr n z = true) : ∀ d, d ≤ n → ∀ p, p < 10 → kkP B R nP f u z hr n d p = (anP B R nP f u hr (n - d) p && ccP B R nP f z hr n d p)
  | 0, _, p, hp => by
    show decide (p = z) = (anP B R nP f u hr n p && (decide (p < nP) && decide (p = z)))
    by_cases c : p = z
    · subst c
      simp [hn, hz]
    · simp [c]
  | d + 1, hd, p, hp => by
    show (anP B R nP f u hr (n - (d + 1)) p && anyN 10 (fun q => (one p q || (ldQ R nP f p q && opnP B R nP f u hr (n - (d + 1)) q)) && kkP B R nP f u z hr n d q)) = (anP B R nP f u hr (n - (d + 1)) p && (decide (p < nP) && anyN nP (fun q => ccP B R nP f z hr n d q && gsP B R f p q (hr + (n - (d + 1))))))
    cases ca : anP B R nP f u hr (n - (d + 1)) p with
    | false => rfl
    | true =>
      have hpn := anP_lt hu ca
      rw [Bool.true_and, Bool.true_and, decide_eq_true hpn, Bool.true_and]
      have et : n - d = n - (d + 1) + 1 := by omega
      have ek : ∀ q, q < 10 → ((one p q || (ldQ R nP f p q && opnP B R nP f u hr (n - (d + 1)) q)) && kkP B R nP f u z hr n d q) = (decide (q < nP) && (ccP B R nP f z hr n d q && gsP B R f p q (hr + (n - (d + 1))))) := fun q hq => by
        rw [kk_same hp10 hu hz hn d (by omega) q hq, go_same hp10 hpn ca, et]
        show _ = _
        have ea : anP B R nP f u hr (n - (d + 1) + 1) q = (decide (q < nP) && anyN nP (fun p => anP B R nP f u hr (n - (d + 1)) p && gsP B R f p q (hr + (n - (d + 1))))) := rfl
        rw [ea]
        by_cases cq : q < nP
        · rw [decide_eq_true cq, Bool.true_and, Bool.true_and, Bool.true_and]
          cases cc : ccP B R nP f z hr n d q with
          | false => simp
          | true =>
            rw [Bool.and_true, Bool.true_and]
            unfold gsP
            cases cw : (decide (p = q) || cnP B R f p q (hr + (n - (d + 1)))) with
            | false => rfl
            | true =>
              rw [Bool.true_and, Bool.true_and]
              cases cs : sfP B R q (hr + (n - (d + 1)) + 1) with
              | false => exact anyN_f.mpr (fun k hk => by rw [Bool.and_false, Bool.and_false])
              | true => exact anyN_t.mpr ⟨p, hpn, by rw [ca, cw]; rfl⟩
        · simp [cq]
      rw [anyN_congr ek]
      cases c : anyN nP (fun q => ccP B R nP f z hr n d q && gsP B R f p q (hr + (n - (d + 1)))) with
      | true =>
        obtain ⟨q, q1, q2⟩ := anyN_t.mp c
        exact anyN_t.mpr ⟨q, by omega, by rw [decide_eq_true q1, q2]; rfl⟩
      | false =>
        have c := anyN_f.mp c
        refine anyN_f.mpr (fun q hq => ?_)
        by_cases cq : q < nP
        · rw [c q cq, Bool.and_false]
        · simp [cq]
/-- the next perch of the way -/
def nxP (B : Book) (R : Nat → Int32) (nP f z hr n t w : Nat) : Nat → Bool := fun q => decide (q < nP) && (ccP B R nP f z hr n (n - (t + 1)) q && gsP B R f w q (hr + t))
def wkP (B : Book) (R : Nat → Int32) (nP f u z hr n : Nat) : Nat → Nat
  | 0 => u
  | t + 1 => (firstP (nxP B R nP f z hr n t (wkP B R nP f u z hr n t)) 10 0).getD 0
theorem wk_inv {f u z n : Nat} (hp10 : nP ≤ 10) (hu : u < nP) (hz : z < nP) (hn : anP B R nP f u hr n z = true) : ∀ t, t ≤ n → wkP B R nP f u z hr n t < nP ∧ anP B R nP f u hr t (wkP B R nP f u z hr n t) = true ∧ ccP B R nP f z hr n (n - t) (wkP B R nP f u z hr n t) = true ∧ (t < n → firstP (nxP B R nP f z hr n t (wkP B R nP f u z hr n t)) 10 0 = some (wkP B R nP f u z hr n (t + 1))) := by
  have ex : ∀ t w, t < n → w < nP → ccP B R nP f z hr n (n - t) w = true → ∃ q, firstP (nxP B R nP f z hr n t w) 10 0 = some q := fun t w ht hw hc => by
    rw [show n - t = (n - (t + 1)) + 1 by omega] at hc
    unfold ccP at hc
    rw [Bool.and_eq_true] at hc
    obtain ⟨q, q1, q2⟩ := anyN_t.mp hc.2
    rw [show n - (n - (t + 1) + 1) = t by omega] at q2
    cases c : firstP (nxP B R nP f z hr n t w) 10 0 with
    | some k => exact ⟨k, rfl⟩
    | none =>
      have := (firstP_any 10 0).mp c q (by omega) (by omega)
      unfold nxP at this
      rw [decide_eq_true q1, q2] at this
      cases this
  intro t
  induction t with
  | zero =>
    intro _
    have key : ∀ d, d ≤ n → ∃ p, p < nP ∧ anP B R nP f u hr (n - d) p = true ∧ ccP B R nP f z hr n d p = true := by
      intro d
      induction d with
      | zero =>
        intro _
        exact ⟨z, hz, hn, by show (decide (z < nP) && decide (z = z)) = true; rw [decide_eq_true hz, decide_eq_true rfl]; rfl⟩
      | succ d ih =>
        intro hd
        obtain ⟨q, q1, q2, q3⟩ := ih (by omega)
        rw [show n - d = n - (d + 1) + 1 by omega] at q2
        unfold anP at q2
        rw [Bool.and_eq_true] at q2
        obtain ⟨p, p1, p2⟩ := anyN_t.mp q2.2
        rw [Bool.and_eq_true] at p2
        refine ⟨p, p1, p2.1, ?_⟩
        show (decide (p < nP) && anyN nP (fun q => ccP B R nP f z hr n d q && gsP B R f p q (hr + (n - (d + 1))))) = true
        rw [decide_eq_true p1, Bool.true_and]
        exact anyN_t.mpr ⟨q, q1, by rw [q3, p2.2]; rfl⟩
    obtain ⟨p, p1, p2, p3⟩ := key n (Nat.le_refl _)
    rw [Nat.sub_self] at p2
    have ep : p = u := of_decide_eq_true p2
    subst ep
    refine ⟨hu, p2, p3, fun ht => ?_⟩
    obtain ⟨q, hq⟩ := ex 0 p ht hu p3
    show _ = some ((firstP (nxP B R nP f z hr n 0 p) 10 0).getD 0)
    show firstP (nxP B R nP f z hr n 0 p) 10 0 = _
    rw [hq]
    rfl
  | succ t ih =>
    intro ht
    obtain ⟨h1, h2, h3, h4⟩ := ih (by omega)
    have h4 := h4 (by omega)
    have hl := firstP_lt h4
    have hx := hl.2.2
    unfold nxP at hx
    simp only [Bool.and_eq_true, decide_eq_true_eq] at hx
    obtain ⟨x1, x2, x3⟩ := hx
    refine ⟨x1, ?_, x2, fun ht2 => ?_⟩
    · show (decide (_ < nP) && anyN nP _) = true
      rw [decide_eq_true x1, Bool.true_and]
      exact anyN_t.mpr ⟨_, h1, by rw [h2, x3]; rfl⟩
    · obtain ⟨q, hq⟩ := ex (t + 1) _ ht2 x1 x2
      show _ = some ((firstP (nxP B R nP f z hr n (t + 1) (wkP B R nP f u z hr n (t + 1))) 10 0).getD 0)
      rw [hq]
      rfl
/-- what the class picks from is what the reference picks from -/
theorem pick_same {f u z n t q : Nat} (hp10 : nP ≤ 10) (hu : u < nP) (hz : z < nP) (hn : anP B R nP f u hr n z = true) (ht : t < n) {w : Nat} (hw : w < nP) (ha : anP B R nP f u hr t w = true) (hq : q < 10) : ((one w q || (ldQ R nP f w q && opnP B R nP f u hr t q)) && kkP B R nP f u z hr n (n - (t + 1)) q) = nxP B R nP f z hr n t w q := by
  rw [kk_same hp10 hu hz hn (n - (t + 1)) (by omega) q hq, go_same hp10 hw ha, show n - (n - (t + 1)) = t + 1 by omega]
  unfold nxP
  have ea : anP B R nP f u hr (t + 1) q = (decide (q < nP) && anyN nP (fun p => anP B R nP f u hr t p && gsP B R f p q (hr + t))) := rfl
  rw [ea]
  by_cases cq : q < nP
  · rw [decide_eq_true cq, Bool.true_and, Bool.true_and, Bool.true_and]
    cases cc : ccP B R nP f z hr n (n - (t + 1)) q with
    | false => simp
    | true =>
      rw [Bool.and_true, Bool.true_and]
      unfold gsP
      cases cw : (decide (w = q) || cnP B R f w q (hr + t)) with
      | false => rfl
      | true =>
        rw [Bool.true_and, Bool.true_and]
        cases cs : sfP B R q (hr + t + 1) with
        | false => exact anyN_f.mpr (fun k hk => by rw [Bool.and_false, Bool.and_false])
        | true => exact anyN_t.mpr ⟨w, hw, by rw [ha, cw]; rfl⟩
  · simp [cq]
/-- the paper of the hours -/
def Sf (a k : Nat) : Prop := S8 a k ∨ a = 119 ∨ a = 120 ∨ a = 121 ∨ a = 114
theorem sf_p {s : Hp} (e : Ag Sf σ s) : Ag S8p σ s := e.mono (fun a k q => q.elim Or.inl (fun w => Or.inr (by omega)))
theorem Ag.sf {s s2 : Hp} (e : Ag S8 s s2) : Ag Sf s s2 := e.mono (fun _ _ q => Or.inl q)
theorem S8.c {s s2 : Hp} {c : Nat} (hc : 100 ≤ c) (e : Ag S8 s s2) : ∀ k, zi s2 c k = zi s c k := fun k => (e.2.2.2.2 c k (by unfold S8; omega)).1
theorem hours8 (m8 : M8 1 nP nF nB nT nS nL H B R σ) (hS : SK σ) (hr2 : hr < 100000) {f u z : Nat} (hf : f < nF) (hu : u < nP) (hz : z < nP) (hL : Lay σ (ldQ R nP f)) : ∀ (d t : Nat) (s : Hp), t + d = 48 → Ag Sf σ s → Lay s (ldQ R nP f) → (∀ j, j ≤ t → zi s 121 j = iN (setN (anP B R nP f u hr j) 10)) → (∀ j, j < t → zi s 120 j = iN (setN (opnP B R nP f u hr j) 10)) →
    ∃ s2, s_X2_hoursTo_l43 (113, some 1, iN f, iN z, iN u, iN hr, iN t) s = some (match firstP (fun n => anP B R nP f u hr n z) d (t + 1) with | some n => Sum.inl (113, iN z, iN u, iN (n - 1)) | none => Sum.inr (-1), s2) ∧ Ag Sf σ s2 ∧ Lay s2 (ldQ R nP f) ∧ ∀ n, firstP (fun n => anP B R nP f u hr n z) d (t + 1) = some n → (∀ j, j ≤ n → zi s2 121 j = iN (setN (anP B R nP f u hr j) 10)) ∧ (∀ j, j < n → zi s2 120 j = iN (setN (opnP B R nP f u hr j) 10)) := by
  have hp10 := m8.p10
  intro d
  induction d with
  | zero =>
    intro t s ht hs1 hs2 hs3 hs4
    have e : t = 48 := by omega
    subst e
    have f1 : (48 : Int32) ≤ iN 48 := by decide
    exact ⟨s, loopF_out (by simp only [s_X2_hoursTo_b43, f1, z10', if_true, if_false, bind_ok, Option.bind_some, cb_some]; rfl), hs1, hs2, fun n hn => by cases hn⟩
  | succ d ih =>
    intro t s ht hs1 hs2 hs3 hs4
    have hSs := hS.ag hs1
    have n8 := m8.agp (sf_p hs1)
    have f1 : ¬ (48 : Int32) ≤ iN t := fun q => absurd ((iN_le (a := 48) (by decide) (by omega)).mp q) (by omega)
    have r4 := q_r113_4 hSs
    have r3 := q_r113_3 hSs
    have kk := q_ck113 hSs
    have l1 := q_ld121 (n := t) (by omega) hSs
    rw [hs3 t (Nat.le_refl _)] at l1
    have i0 : iN hr + iN t = iN (hr + t) := iN_add _ _
    have i1 : iN (hr + t) + 1 = iN (hr + t + 1) := iN_add _ _
    have i2 : iN t + 1 = iN (t + 1) := iN_add _ _
    by_cases ce : setN (anP B R nP f u hr t) 10 = 0
    · have ce2 : iN (setN (anP B R nP f u hr t) 10) = 0 := by
        rw [ce]
        rfl
      have later : ∀ e, ∀ p, p < 10 → anP B R nP f u hr (t + e) p = false := by
        intro e
        induction e with
        | zero => exact setN_z.mp ce
        | succ e ih2 =>
          intro p hp
          show (decide (p < nP) && anyN nP (fun k => anP B R nP f u hr (t + e) k && gsP B R f k p (hr + (t + e)))) = false
          rw [anyN_f.mpr (fun k hk => by rw [ih2 k (by omega), Bool.false_and]), Bool.and_false]
      have en : firstP (fun n => anP B R nP f u hr n z) (d + 1) (t + 1) = none := (firstP_any _ _).mpr (fun k h1 _ => by
        have := later (k - t) z (by omega)
        rwa [show t + (k - t) = k by omega] at this)
      rw [en]
      exact ⟨s, loopF_out (by simp only [s_X2_hoursTo_b43, f1, r4, l1, ce2, z10', if_true, if_false, bind_ok, Option.bind_some, cb_some]), hs1, hs2, fun n hn => by cases hn⟩
    · have ce2 : ¬ iN (setN (anP B R nP f u hr t) 10) = 0 := fun q => ce ((iN_inj (b := 0) (setN_31 (by decide)) (by decide)).mp q)
      have ow := onward8 hSs hs2 (S := anP B R nP f u hr t)
      have ow : s_X2_onward 113 (iN (setN (anP B R nP f u hr t) 10)) s = some (iN (setN (nxtP B R nP f u hr t) 10), s) := ow
      have k0 := h_ck0 n8.2.1
      obtain ⟨sa, a1, a2⟩ := unb8 n8 (hr := hr + t) (by omega) hf (m := 10) (by decide) hp10 (S := nxtP B R nP f u hr t)
      have a1 : s_X1_unbarred 1 (iN f) (iN (setN (nxtP B R nP f u hr t) 10)) (iN (hr + t)) s = some (iN (setN (opnP B R nP f u hr t) 10), sa) := a1
      have st1 := q_st120 (n := t) (v := iN (setN (opnP B R nP f u hr t) 10)) (by omega) (hSs.ag a2)
      have A2 : Ag Sf σ (zsi sa 120 t (iN (setN (opnP B R nP f u hr t) 10))) := (hs1.trans a2.sf).trans (Ag.zsi (Or.inr (Or.inr (Or.inl rfl))))
      have hS2 := hS.ag A2
      have n82 := m8.agp (sf_p A2)
      have r4b := q_r113_4 hS2
      have r3b := q_r113_3 hS2
      have l2 := q_ld121 (n := t) (by omega) hS2
      rw [show zi (zsi sa 120 t (iN (setN (opnP B R nP f u hr t) 10))) 121 t = iN (setN (anP B R nP f u hr t) 10) by rw [zi_ne (by decide), S8.c (by decide) a2, hs3 t (Nat.le_refl _)]] at l2
      have l3 := q_ld120 (n := t) (by omega) hS2
      rw [zi_hit] at l3
      have k0b := h_ck0 n82.2.1
      obtain ⟨sb, b1, b2⟩ := safes8 n82 (hr := hr + t + 1) (by omega)
      have ev : (iN (setN (anP B R nP f u hr t) 10) ||| (iN (setN (nxtP B R nP f u hr t) 10) &&& iN (setN (opnP B R nP f u hr t) 10))) &&& iN (setN (sfQ B R nP (hr + t + 1)) 10) = iN (setN (anP B R nP f u hr (t + 1)) 10) := by
        rw [iN_and, setN_and, iN_or, setN_or, iN_and, setN_and]
        congr 1
        exact setN_congr (fun q hq => an_step hp10 hu hq)
      have st2 := q_st121 (n := t + 1) (v := iN (setN (anP B R nP f u hr (t + 1)) 10)) (by omega) (hS2.ag b2)
      have A3 : Ag Sf σ (zsi sb 121 (t + 1) (iN (setN (anP B R nP f u hr (t + 1)) 10))) := (A2.trans b2.sf).trans (Ag.zsi (Or.inr (Or.inr (Or.inr (Or.inl rfl)))))
      have hS3 := hS.ag A3
      have r4c := q_r113_4 hS3
      have l4 := q_ld121 (n := t + 1) (by omega) hS3
      rw [zi_hit] at l4
      have hb := hb_set (f := anP B R nP f u hr (t + 1)) (n := 10) (k := z) (by decide) (by omega)
      rw [decide_eq_true (show z < 10 by omega), Bool.true_and] at hb
      have F3 : ∀ j, j ≤ t + 1 → zi (zsi sb 121 (t + 1) (iN (setN (anP B R nP f u hr (t + 1)) 10))) 121 j = iN (setN (anP B R nP f u hr j) 10) := fun j hj => by
        by_cases c : j = t + 1
        · subst c
          exact zi_hit
        · rw [zi_miss c, S8.c (by decide) b2, zi_ne (by decide), S8.c (by decide) a2]
          exact hs3 j (by omega)
      have F4 : ∀ j, j < t + 1 → zi (zsi sb 121 (t + 1) (iN (setN (anP B R nP f u hr (t + 1)) 10))) 120 j = iN (setN (opnP B R nP f u hr j) 10) := fun j hj => by
        rw [zi_ne (by decide), S8.c (by decide) b2]
        by_cases c : j = t
        · subst c
          exact zi_hit
        · rw [zi_miss c, S8.c (by decide) a2]
          exact hs4 j (by omega)
      have FL : Lay (zsi sb 121 (t + 1) (iN (setN (anP B R nP f u hr (t + 1)) 10))) (ldQ R nP f) := fun p hp => by
        rw [zi_ne (by decide), S8.c (by decide) b2, zi_ne (by decide), S8.c (by decide) a2]
        exact hs2 p hp
      cases cz : anP B R nP f u hr (t + 1) z with
      | true =>
        rw [cz] at hb
        rw [show firstP (fun n => anP B R nP f u hr n z) (d + 1) (t + 1) = some (t + 1) by rw [firstP, if_pos cz]]
        refine ⟨_, loopF_out ?_, A3, FL, fun n hn => by cases hn; exact ⟨F3, F4⟩⟩
        simp only [s_X2_hoursTo_b43, f1, r4, l1, ce2, kk, ow, r3, k0, i0, a1, st1, r4b, l2, r3b, l3, k0b, i1, b1, i2, ev, st2, r4c, l4, hb8, hb, bI_t, z10', if_true, if_false, bind_ok, Option.bind_some, cb_some]
        rfl
      | false =>
        rw [cz] at hb
        rw [firstP_f (p := fun n => anP B R nP f u hr n z) cz]
        obtain ⟨s2, m1, m2⟩ := ih (t + 1) _ (by omega) A3 FL F3 F4
        refine ⟨s2, (loopF_in ?_).trans m1, m2⟩
        simp only [s_X2_hoursTo_b43, f1, r4, l1, ce2, kk, ow, r3, k0, i0, a1, st1, r4b, l2, r3b, l3, k0b, i1, b1, i2, ev, st2, r4c, l4, hb8, hb, bI_f, z10', if_true, if_false, bind_ok, Option.bind_some, cb_some]
theorem keep8 (hS : SK σ) {f u z n : Nat} (hz : z < 10) (hn : n ≤ 48) (hL : Lay σ (ldQ R nP f)) (hA : ∀ j, j ≤ n → zi σ 121 j = iN (setN (anP B R nP f u hr j) 10)) (hO : ∀ j, j < n → zi σ 120 j = iN (setN (opnP B R nP f u hr j) 10)) :
    ∃ s2, s_X2_keepThoseThatComeTo 113 (iN z) (iN n) σ = some ((), s2) ∧ Ag (fun a _ => a = 121) σ s2 ∧ ∀ d, d ≤ n → zi s2 121 (n - d) = iN (setN (kkP B R nP f u z hr n d) 10) := by
  have r4 := q_r113_4 hS
  have st := q_st121 (n := n) (v := iN (setN (one z) 10)) (by omega) hS
  have oth : ∀ {s : Hp} {c : Nat}, Ag (fun a _ => a = 121) σ s → c ≠ 121 → ∀ k, zi s c k = zi σ c k := fun e hc k => (e.2.2.2.2 _ k hc).1
  obtain ⟨s9, g1, g2, g3⟩ := loop_to (body := fun v => s_X2_keepThoseThatComeTo_b13 (v.1) (v.2)) (fun e s => Ag (fun a _ => a = 121) σ s ∧ (∀ d, d ≤ e → zi s 121 (n - d) = iN (setN (kkP B R nP f u z hr n d) 10)) ∧ ∀ j, j < n - e → zi s 121 j = iN (setN (anP B R nP f u hr j) 10)) (fun s => Ag (fun a _ => a = 121) σ s ∧ ∀ d, d ≤ n → zi s 121 (n - d) = iN (setN (kkP B R nP f u z hr n d) 10)) (fun e => (113, iN (n - e) - 1)) () n (fun e s he hs => by
    obtain ⟨hs1, hs2, hs3⟩ := hs
    have hSs := hS.ag hs1
    have e1 : iN (n - e) - 1 = iN (n - (e + 1)) := by
      rw [show n - (e + 1) = n - e - 1 by omega]
      exact iN_sub (b := 1) (by omega)
    have f1 : ¬ iN (n - (e + 1)) < 0 := iN_nn (by omega)
    have e2 : iN (n - (e + 1)) + (-1) = iN (n - (e + 1)) - 1 := by rw [Int32.sub_eq_add_neg]
    have en : iN (n - (e + 1)) + 1 = iN (n - e) := by
      rw [show n - e = n - (e + 1) + 1 by omega]
      exact iN_add _ _
    have r4s := q_r113_4 hSs
    have r2s := q_r113_2 hSs
    have r3s := q_r113_3 hSs
    have la := q_ld121 (n := n - (e + 1)) (by omega) hSs
    rw [hs3 (n - (e + 1)) (by omega)] at la
    have lb := q_ld121 (n := n - e) (by omega) hSs
    rw [hs2 e (Nat.le_refl _)] at lb
    have lo := q_ld120 (n := n - (e + 1)) (by omega) hSs
    rw [oth hs1 (by decide), hO (n - (e + 1)) (by omega)] at lo
    obtain ⟨s2, k1, k2⟩ := loop_to (body := fun v => s_X2_keepThoseThatComeTo_b23 (v.1) (v.2.1) (v.2.2.1) (v.2.2.2)) (fun _ t => t = s) (fun t => t = s) (fun p => (113, iN (n - (e + 1)), iN (setN (kkP B R nP f u z hr n (e + 1)) p), iN p)) (113, iN (n - (e + 1)), iN (setN (kkP B R nP f u z hr n (e + 1)) 10)) 10 (fun p t hp ht => by
      subst ht
      have f2 : ¬ (10 : Int32) ≤ iN p := fun q => absurd ((iN_le (a := 10) (by decide) (by omega)).mp q) (by omega)
      have p1 : iN p + 1 = iN (p + 1) := iN_add _ _
      have hb := hb_set (f := anP B R nP f u hr (n - (e + 1))) (n := 10) (k := p) (by decide) (by omega)
      rw [decide_eq_true hp, Bool.true_and] at hb
      have ls := q_ld119 (n := p) hp hSs
      rw [oth hs1 (by decide), hL p hp] at ls
      have ev : (iN (setN (one p) 10) ||| (iN (setN (ldQ R nP f p) 10) &&& iN (setN (opnP B R nP f u hr (n - (e + 1))) 10))) &&& iN (setN (kkP B R nP f u z hr n e) 10) = iN (setN (fun q => (one p q || (ldQ R nP f p q && opnP B R nP f u hr (n - (e + 1)) q)) && kkP B R nP f u z hr n e q) 10) := by
        rw [iN_and, setN_and, iN_or, setN_or, iN_and, setN_and]
      have ek : kkP B R nP f u z hr n (e + 1) p = (anP B R nP f u hr (n - (e + 1)) p && anyN 10 (fun q => (one p q || (ldQ R nP f p q && opnP B R nP f u hr (n - (e + 1)) q)) && kkP B R nP f u z hr n e q)) := rfl
      refine ⟨t, ?_, rfl⟩
      rw [setN_s, ek]
      cases ca : anP B R nP f u hr (n - (e + 1)) p with
      | false =>
        rw [ca] at hb
        simp only [s_X2_keepThoseThatComeTo_b23, s_X2_keepThoseThatComeTo_j84, f2, r4s, la, hb8, hb, bI_f, p1, Bool.false_and, Bool.false_eq_true, z10', if_true, if_false, bind_ok, Option.bind_some, cb_some]
      | true =>
        rw [ca] at hb
        cases cx : anyN 10 (fun q => (one p q || (ldQ R nP f p q && opnP B R nP f u hr (n - (e + 1)) q)) && kkP B R nP f u z hr n e q) with
        | false =>
          have c2 : iN (setN (fun q => (one p q || (ldQ R nP f p q && opnP B R nP f u hr (n - (e + 1)) q)) && kkP B R nP f u z hr n e q) 10) = 0 := by
            rw [setN_z.mpr (anyN_f.mp cx)]
            rfl
          simp only [s_X2_keepThoseThatComeTo_b23, s_X2_keepThoseThatComeTo_j84, f2, r4s, la, hb8, hb, bI_t, r2s, ls, r3s, lo, en, lb, shl_one hp, ev, c2, p1, Bool.and_false, Bool.false_eq_true, z10', if_true, if_false, bind_ok, Option.bind_some, cb_some]
        | true =>
          have c2 : ¬ iN (setN (fun q => (one p q || (ldQ R nP f p q && opnP B R nP f u hr (n - (e + 1)) q)) && kkP B R nP f u z hr n e q) 10) = 0 := fun q => by
            have := (iN_inj (b := 0) (setN_31 (by decide)) (by decide)).mp q
            have := setN_z.mp this
            obtain ⟨k, k1, k2⟩ := anyN_t.mp cx
            rw [this k k1] at k2
            cases k2
          rw [if_pos (by rfl), ← iN_or, ← setN_one hp]
          simp only [s_X2_keepThoseThatComeTo_b23, s_X2_keepThoseThatComeTo_j84, f2, r4s, la, hb8, hb, bI_t, r2s, ls, r3s, lo, en, lb, shl_one hp, ev, c2, p1, z10', if_true, if_false, bind_ok, Option.bind_some, cb_some]
          rfl) (fun t ht => by
      subst ht
      have f2 : (10 : Int32) ≤ iN 10 := by decide
      exact ⟨t, by simp only [s_X2_keepThoseThatComeTo_b23, f2, z10', if_true, if_false, bind_ok, Option.bind_some, cb_some], rfl⟩) (σ := s) rfl
    subst k2
    have k1 : s_X2_keepThoseThatComeTo_l23 (113, iN (n - (e + 1)), 0, 0) s2 = _ := k1
    have stt := q_st121 (n := n - (e + 1)) (v := iN (setN (kkP B R nP f u z hr n (e + 1)) 10)) (by omega) hSs
    refine ⟨zsi s2 121 (n - (e + 1)) (iN (setN (kkP B R nP f u z hr n (e + 1)) 10)), ?_, hs1.trans (Ag.zsi rfl), fun d hd => ?_, fun j hj => ?_⟩
    · rw [e1]
      simp only [s_X2_keepThoseThatComeTo_b13, f1, k1, r4s, stt, e2, z10', if_true, if_false, bind_ok, Option.bind_some, cb_some]
    · by_cases c : d = e + 1
      · subst c
        exact zi_hit
      · rw [zi_miss (by omega)]
        exact hs2 d (by omega)
    · rw [zi_miss (by omega)]
      exact hs3 j (by omega)) (fun s hs => by
    have f1 : iN (n - n) - 1 < 0 := by
      rw [Nat.sub_self]
      decide
    exact ⟨s, by simp only [s_X2_keepThoseThatComeTo_b13, f1, z10', if_true, if_false, bind_ok, Option.bind_some, cb_some], hs.1, hs.2.1⟩) (σ := zsi σ 121 n (iN (setN (one z) 10))) ⟨Ag.zsi rfl, fun d hd => by
      have : d = 0 := by omega
      subst this
      exact zi_hit, fun j hj => by
      rw [zi_miss (by omega)]
      exact hA j (by omega)⟩
  have g1 : s_X2_keepThoseThatComeTo_l13 (113, iN n - 1) (zsi σ 121 n (iN (setN (one z) 10))) = _ := g1
  refine ⟨s9, ?_, g2, g3⟩
  simp only [s_X2_keepThoseThatComeTo, r4, shl_one hz, st, g1, z10', if_true, if_false, bind_ok, Option.bind_some, cb_some]
theorem way8 (hS : SK σ) {f u z n : Nat} (hp10 : nP ≤ 10) (hu : u < nP) (hz : z < nP) (hn : n ≤ 48) (hnz : anP B R nP f u hr n z = true) (hL : Lay σ (ldQ R nP f)) (hK : ∀ d, d ≤ n → zi σ 121 (n - d) = iN (setN (kkP B R nP f u z hr n d) 10)) (hO : ∀ j, j < n → zi σ 120 j = iN (setN (opnP B R nP f u hr j) 10)) :
    ∃ s2, s_X2_drawWay 113 (iN u) (iN n) σ = some ((), s2) ∧ Ag (fun a _ => a = 114) σ s2 ∧ ∀ t, t < n → zi s2 114 t = iN (wkP B R nP f u z hr n (t + 1)) := by
  have oth : ∀ {s : Hp} {c : Nat}, Ag (fun a _ => a = 114) σ s → c ≠ 114 → ∀ k, zi s c k = zi σ c k := fun e hc k => (e.2.2.2.2 _ k hc).1
  obtain ⟨s9, g1, g2, g3⟩ := loop_to (body := fun v => s_X2_drawWay_b5 (v.1) (v.2.1) (v.2.2.1) (v.2.2.2)) (fun t s => Ag (fun a _ => a = 114) σ s ∧ ∀ j, j < t → zi s 114 j = iN (wkP B R nP f u z hr n (j + 1))) (fun s => Ag (fun a _ => a = 114) σ s ∧ ∀ j, j < n → zi s 114 j = iN (wkP B R nP f u z hr n (j + 1))) (fun t => (113, iN n, iN (wkP B R nP f u z hr n t), iN t)) () n (fun t s ht hs => by
    obtain ⟨hs1, hs2⟩ := hs
    have hSs := hS.ag hs1
    obtain ⟨w1, w2, w3, w4⟩ := wk_inv (z := z) hp10 hu hz hnz t (by omega)
    have w4 := w4 ht
    generalize wkP B R nP f u z hr n t = w at w1 w2 w3 w4 ⊢
    have f1 : ¬ iN n ≤ iN t := (fun h => absurd ((iN_le (by omega) (by omega)).mp h) (by omega))
    have f2 : ¬ (48 : Int32) ≤ iN t := fun q => absurd ((iN_le (a := 48) (by decide) (by omega)).mp q) (by omega)
    have f3 : ¬ iN w < 0 := iN_nn (by omega)
    have f4 : ¬ (10 : Int32) ≤ iN w := fun q => absurd ((iN_le (a := 10) (by decide) (by omega)).mp q) (by omega)
    have t1 : iN t + 1 = iN (t + 1) := iN_add _ _
    have r0 := q_r113_0 hSs
    have r2 := q_r113_2 hSs
    have r3 := q_r113_3 hSs
    have r4 := q_r113_4 hSs
    have ls := q_ld119 (n := w) (by omega) hSs
    rw [oth hs1 (by decide), hL w (by omega)] at ls
    have lo := q_ld120 (n := t) (by omega) hSs
    rw [oth hs1 (by decide), hO t ht] at lo
    have lk := q_ld121 (n := t + 1) (by omega) hSs
    have hk := hK (n - (t + 1)) (by omega)
    rw [show n - (n - (t + 1)) = t + 1 by omega] at hk
    rw [oth hs1 (by decide), hk] at lk
    have ev : (iN (setN (one w) 10) ||| (iN (setN (ldQ R nP f w) 10) &&& iN (setN (opnP B R nP f u hr t) 10))) &&& iN (setN (kkP B R nP f u z hr n (n - (t + 1))) 10) = iN (setN (nxP B R nP f z hr n t w) 10) := by
      rw [iN_and, setN_and, iN_or, setN_or, iN_and, setN_and]
      congr 1
      exact setN_congr (fun q hq => pick_same hp10 hu hz hnz ht w1 w2 hq)
    have lw := low8 (σ := s) (S := nxP B R nP f z hr n t w)
    rw [w4] at lw
    have st := q_st114 (n := t) (v := iN (wkP B R nP f u z hr n (t + 1))) (by omega) hSs
    refine ⟨zsi s 114 t (iN (wkP B R nP f u z hr n (t + 1))), ?_, hs1.trans (Ag.zsi rfl), fun j hj => ?_⟩
    · simp only [s_X2_drawWay_b5, s_X2_drawWay_j50, f1, f2, f3, f4, r0, r2, r3, r4, ls, lo, t1, lk, shl_one (show w < 10 by omega), ev, lw, st, z10', if_true, if_false, bind_ok, Option.bind_some, cb_some]
    · by_cases c : j = t
      · subst c
        exact zi_hit
      · rw [zi_miss c]
        exact hs2 j (by omega)) (fun s hs => by
    have f1 : iN n ≤ iN n := Int32.le_refl _
    exact ⟨s, by simp only [s_X2_drawWay_b5, f1, z10', if_true, if_false, bind_ok, Option.bind_some, cb_some], hs⟩) (σ := σ) ⟨Ag.refl, fun j hj => by omega⟩
  have g1 : s_X2_drawWay_l5 (113, iN n, iN u, 0) σ = _ := g1
  refine ⟨s9, ?_, g2, g3⟩
  simp only [s_X2_drawWay, g1, cb_some]
end ON
end V26
