/-! ===== a text asked by the class ===== -/
section V9
theorem vl_run {r w p a L fin : Nat} : ∀ (n i : Nat) (st : List Int64) (σ : Hp), fin - i ≤ n → i < 134217729 → RK r w p σ → Pl p σ st → st.length ≤ 64 → (∀ v ∈ st, sm v) → zk σ a = 11 → zl σ a = L → L ≤ 600 → fin ≤ L →
    ∃ x σ1, s_X5_value_l10 (r, some a, iN fin, iN st.length, iN i) σ = some (x, σ1) ∧ AJ p σ σ1 ∧ ((cV (zi σ a) (zi σ w) fin n i st = none ∧ x = Sum.inr 9000000000) ∨ ∃ st2, cV (zi σ a) (zi σ w) fin n i st = some st2 ∧ x = Sum.inl (r, iN st2.length) ∧ Pl p σ1 st2 ∧ st2.length ≤ 64 ∧ ∀ v ∈ st2, sm v) := by
  intro n
  induction n with
  | zero =>
    intro i st σ hn hi h hp h64 hs ha hl hL hf
    have f1 : iN fin ≤ iN i := ((iN_le (by omega) (by omega)).mpr (by omega))
    refine ⟨_, σ, loopF_out (e := Sum.inl (r, iN st.length)) ?_, AJ.refl, Or.inr ⟨st, rfl, rfl, hp, h64, hs⟩⟩
    simp only [s_X5_value_b10, f1, if_true]
  | succ n ih =>
    intro i st σ hn hi h hp h64 hs ha hl hL hf
    by_cases c : fin ≤ i
    · have f1 : iN fin ≤ iN i := ((iN_le (by omega) (by omega)).mpr (by omega))
      refine ⟨_, σ, loopF_out (e := Sum.inl (r, iN st.length)) ?_, AJ.refl, Or.inr ⟨st, if_pos c, rfl, hp, h64, hs⟩⟩
      simp only [s_X5_value_b10, f1, if_true]
    · obtain ⟨x, σ1, e1, e2, e3⟩ := vb_step h hp h64 ha hl hL hf (i := i) (by omega)
      rcases e3 with ⟨g1, g2⟩ | ⟨i2, st2, g1, g2, g3, g4, g5, g6, g7⟩
      · subst g2
        refine ⟨_, σ1, loopF_out e1, e2, Or.inl ⟨?_, rfl⟩⟩
        simp only [cV, c, if_false, g1, Option.bind_none]
      · subst g4
        obtain ⟨x, σ2, k1, k2, k3⟩ := ih i2 st2 σ1 (by omega) g3 (h.aj e2) g5 g6 (g7 hs) (by rw [e2.2.1]; exact ha) (by rw [e2.2.2.1]; exact hl) hL hf
        refine ⟨x, σ2, (loopF_in e1).trans k1, e2.trans k2, ?_⟩
        rw [e2.2.2.2.1] at k3
        simp only [cV, c, if_false, g1, Option.bind_some]
        exact k3
theorem value8 {r w p a L fin f : Nat} {σ : Hp} (h : RK r w p σ) (ha : zk σ a = 11) (hl : zl σ a = L) (hL : L ≤ 600) (hf : fin ≤ L) (hff : f ≤ L) :
    ∃ σ1, s_X5_value r (some a) (iN f) (iN fin) σ = some ((cVal (zi σ a) (zi σ w) f fin).getD 9000000000, σ1) ∧ AJ p σ σ1 ∧ ∀ v, cVal (zi σ a) (zi σ w) f fin = some v → sm v := by
  obtain ⟨x, σ1, e1, e2, e3⟩ := vl_run (fin - f) f [] σ (Nat.le_refl _) (by omega) h trivial (by decide) (fun v hv => absurd hv (by simp)) ha hl hL hf
  refine ⟨σ1, ?_, e2, ?_⟩
  · unfold s_X5_value
    rw [if_neg (iN_nn (by omega)), show ((r, some a, iN fin, 0, iN f) : Nat × Option Nat × Int32 × Int32 × Int32) = (r, some a, iN fin, iN ([] : List Int64).length, iN f) from rfl, e1, cb_some]
    unfold cVal
    rcases e3 with ⟨g1, rfl⟩ | ⟨st2, g1, rfl, g3, g4, g5⟩
    · rw [g1]
      rfl
    · rw [g1]
      show s_X5_value_j291 r (iN st2.length) σ1 = _
      unfold s_X5_value_j291
      match st2, g3, g4 with
      | [], _, _ =>
        rw [if_neg (by decide)]
        rfl
      | [v], g3, _ =>
        rw [show iN ([v] : List Int64).length = 1 from rfl, if_pos rfl, rk_p (h.aj e2), bind_ok, bind_ok, show (0 : Int32) = iN 0 from rfl, rk_ldp (h.aj e2) (by decide), bind_ok]
        show some (zj σ1 p 0, σ1) = _
        rw [show zj σ1 p 0 = v from g3.1]
        rfl
      | v :: u :: q, _, g4 =>
        rw [if_neg]
        · rfl
        · intro q1
          have := (iN_inj (a := (v :: u :: q).length) (b := 1) (by omega) (by omega)).mp q1
          simp at this
  · intro v hv
    unfold cVal at hv
    rcases e3 with ⟨g1, -⟩ | ⟨st2, g1, -, g3, g4, g5⟩
    · rw [g1] at hv
      cases hv
    · rw [g1] at hv
      match st2, hv, g5 with
      | [], hv, _ => cases hv
      | [u], hv, g5 =>
        cases hv
        exact g5 _ (by simp)
      | _ :: _ :: _, hv, _ => cases hv
theorem cStep_congr {s e1 e2 : Nat → Int32} (h : ∀ k, k < 18 → e1 k = e2 k) {i : Nat} {st : List Int64} : cStep s e1 i st = cStep s e2 i st := by
  unfold cStep
  by_cases c : st.length < 64 ∧ ¬ s i >>> 4 < 0 ∧ s i >>> 4 < 18
  · have h1 : (s i >>> 4).toNatClampNeg < 18 := by
      obtain ⟨n, hn, e⟩ := iN_lt_of c.2.1 (show s i >>> 4 < iN 18 from c.2.2) (by decide)
      rw [e, iN_nat (by omega)]
      exact hn
    rw [h _ h1]
  · rw [if_neg c, if_neg c]
theorem cV_congr {s e1 e2 : Nat → Int32} (h : ∀ k, k < 18 → e1 k = e2 k) {fin : Nat} : ∀ (n i : Nat) (st : List Int64), cV s e1 fin n i st = cV s e2 fin n i st
  | 0, _, _ => rfl
  | n + 1, i, st => by
    unfold cV
    rw [cStep_congr h]
    by_cases c : fin ≤ i
    · rw [if_pos c, if_pos c]
    · rw [if_neg c, if_neg c]
      congr 1
      funext q
      exact cV_congr h n q.1 q.2
theorem cVal_congr {s e1 e2 : Nat → Int32} (h : ∀ k, k < 18 → e1 k = e2 k) {i fin : Nat} : cVal s e1 i fin = cVal s e2 i fin := by
  unfold cVal
  rw [cV_congr h]
/-- the words of a law -/
def ev (rm ck hr bd fk lg pc hg md : Int32) : Env := fun k => if k = 0 then rm else if k = 1 then ck else if k = 2 then hr else if k = 3 then bd else if k = 4 then fk else if k = 5 then lg else if k = 6 then pc else if k = 7 then hg else if k = 8 then md else -1
abbrev Law : Type := Nat × (Nat → Nat × (Env → Option Int64) × (Env → Option Int64))
/-- what a clause tells, if it is of this head and holds -/
def clP (q : Nat × (Env → Option Int64) × (Env → Option Int64)) (h : Nat) (e : Env) : Option Int64 := if q.1 = h ∧ q.2.2 e = some 1 then (if h = 2 then some 1 else q.2.1 e) else none
/-- what the last of the first clauses that holds tells -/
def toldP (T : Law) (h : Nat) (e : Env) : Nat → Option Int64
  | 0 => none
  | n + 1 => match clP (T.2 n) h e with
    | some v => some v
    | none => toldP T h e n
theorem field8 {t r nc c w : Nat} {σ : Hp} (ht : zk σ t = 7) (h1 : zr σ t 1 = some r) (hr : zk σ r = 11) (hl : zl σ r = 6 * nc) (hc : c < nc) (hnc : nc ≤ 12) (hw : w < 6) : s_X7_field t (iN c) (iN w) σ = some (zi σ r (6 * c + w), σ) := by
  have e0 : iN c * 6 + iN w = iN (6 * c + w) := by
    rw [show (6 : Int32) = iN 6 from rfl, iN_mul, iN_add, Nat.mul_comm]
  have e1 : ¬ iN (6 * c + w) < 0 := iN_nn (by omega)
  have e2 : rdR 7 σ t 1 = some (some r) := (rdR_t ht).trans (congrArg some h1)
  have e3 : lnA 11 σ r = some (iN (6 * nc)) := (if_pos hr).trans (congrArg (fun n => some (Int32.ofNat n)) hl)
  have e4 : ¬ iN (6 * nc) ≤ iN (6 * c + w) := (fun h => absurd ((iN_le (by omega) (by omega)).mp h) (by omega))
  have e5 : ldI 11 σ r (iN (6 * c + w)) = some (zi σ r (6 * c + w)) := ldI_n hr hl (by omega) (by omega)
  simp only [s_X7_field, e0, e1, e2, e3, e4, e5, if_false, bind_ok]
theorem bookL (B : Book) (j : Nat) : (B j).2 = (show Law from B j).2 := rfl
theorem told_run {t rk w p j h : Nat} {B : Book} {e : Env} (hh : h < 3) (h3 : ∀ c, c < (B j).1 → ((B j).2 c).1 < 3) (he : ∀ k, 9 ≤ k → e k = -1) : ∀ (n : Nat) (σ : Hp), n ≤ (B j).1 → (B j).1 ≤ 12 → LC1 σ t B j → RK rk w p σ → (∀ k, k < 18 → zi σ w k = e k) → p < 156 →
    ∃ σ1, s_X7_told_l7 (t, iN (300 + h), some rk, iN n - 1) σ = some ((toldP (B j) h e n).getD 9000000000, σ1) ∧ AJ p σ σ1 ∧ ∀ v, toldP (B j) h e n = some v → sm v := by
  intro n
  induction n with
  | zero =>
    intro σ hn hB hL hR hw hp
    refine ⟨σ, loopF_out ?_, AJ.refl, fun v hv => by cases hv⟩
    simp only [s_X7_told_b7, show iN 0 - 1 < 0 by decide, if_true]
    rfl
  | succ n ih =>
    intro σ hn hB hL hR hw hp
    have hL0 := hL
    obtain ⟨q1, q2, q3, a, r, q4, q5, q6, q7, q8, q9, q10, q11, q12, q13, q14, q15⟩ := hL
    obtain ⟨d1, f, m, en, d2, d3, d4, d5, d6, d7, d8, d9, d10⟩ := q15 n (by omega)
    have x0 : iN (n + 1) - 1 = iN n := iN_sub (b := 1) (by omega)
    have x1 : ¬ iN n < 0 := iN_nn (by omega)
    have x2 : iN n + (-1) = iN n - 1 := by rw [Int32.sub_eq_add_neg]
    have y1 : ck 7 σ t = some () := ck_t q3
    have y2 := rk_ck hR
    have y3 : rdR 7 σ t 0 = some (some a) := (rdR_t q3).trans (congrArg some q4)
    have F : ∀ k, k < 6 → s_X7_field t (iN n) (iN k) σ = some (zi σ r (6 * n + k), σ) := fun k hk => field8 q3 q5 q11 q13 (by omega) hB hk
    have F0 : s_X7_field t (iN n) 0 σ = some (iN (300 + ((B j).2 n).1), σ) := (F 0 (by decide)).trans (by rw [show 6 * n + 0 = 6 * n from rfl, d1])
    have F1 : s_X7_field t (iN n) 1 σ = some (iN f, σ) := (F 1 (by decide)).trans (by rw [d5])
    have F3 : s_X7_field t (iN n) 3 σ = some (iN m, σ) := (F 3 (by decide)).trans (by rw [d6])
    have F4 : s_X7_field t (iN n) 4 σ = some (iN en, σ) := (F 4 (by decide)).trans (by rw [d7])
    have L2 : ∀ σ1, AJ p σ σ1 → LC1 σ1 t B j ∧ RK rk w p σ1 ∧ (∀ k, k < 18 → zi σ1 w k = e k) := fun σ1 h1 =>
      ⟨hL0.same (Nat.le_of_eq h1.1.symm) (fun b hb _ => ⟨by rw [h1.2.1], by rw [h1.2.2.1], by rw [h1.2.2.2.2.1], by rw [h1.2.2.2.1]⟩), hR.aj h1, by rw [h1.2.2.2.1]; exact hw⟩
    have go : ∀ σ1, AJ p σ σ1 → clP ((B j).2 n) h e = none → s_X7_told_b7 t (iN (300 + h)) (some rk) (iN n) σ = some (Sum.inl (t, iN (300 + h), some rk, iN n - 1), σ1) → ∃ σ2, s_X7_told_l7 (t, iN (300 + h), some rk, iN (n + 1) - 1) σ = some ((toldP (B j) h e (n + 1)).getD 9000000000, σ2) ∧ AJ p σ σ2 ∧ ∀ v, toldP (B j) h e (n + 1) = some v → sm v := by
      intro σ1 h1 h2 h3
      obtain ⟨g1, g2, g3⟩ := L2 σ1 h1
      obtain ⟨σ2, k1, k2, k3⟩ := ih σ1 (by omega) hB g1 g2 g3 hp
      have e5 : toldP (B j) h e (n + 1) = toldP (B j) h e n := by
        simp only [toldP, h2]
      rw [e5, x0]
      exact ⟨σ2, (loopF_in h3).trans k1, h1.trans k2, k3⟩
    have stop : ∀ σ1 v, AJ p σ σ1 → clP ((B j).2 n) h e = some v → sm v → s_X7_told_b7 t (iN (300 + h)) (some rk) (iN n) σ = some (Sum.inr v, σ1) → ∃ σ2, s_X7_told_l7 (t, iN (300 + h), some rk, iN (n + 1) - 1) σ = some ((toldP (B j) h e (n + 1)).getD 9000000000, σ2) ∧ AJ p σ σ2 ∧ ∀ v, toldP (B j) h e (n + 1) = some v → sm v := by
      intro σ1 v h1 h2 h2b h3
      have e5 : toldP (B j) h e (n + 1) = some v := by
        simp only [toldP, h2]
      rw [e5, x0]
      exact ⟨σ1, loopF_out h3, h1, fun v2 hv2 => by cases hv2; exact h2b⟩
    by_cases c0 : ((B j).2 n).1 = h
    · have c0b : iN (300 + ((B j).2 n).1) = iN (300 + h) := by rw [c0]
      -- behind the test
      have tail : ∀ σ1, AJ p σ σ1 → ((B j).2 n).2.2 e = some 1 → s_X7_told_b7 t (iN (300 + h)) (some rk) (iN n) σ = s_X7_told_j67 t (iN (300 + h)) (some rk) (iN n) (iN m) σ1 → ∃ σ2, s_X7_told_l7 (t, iN (300 + h), some rk, iN (n + 1) - 1) σ = some ((toldP (B j) h e (n + 1)).getD 9000000000, σ2) ∧ AJ p σ σ2 ∧ ∀ v, toldP (B j) h e (n + 1) = some v → sm v := by
        intro σ1 h1 h2 h3
        by_cases c2 : h = 2
        · refine stop σ1 1 h1 ?_ ⟨by decide, by decide⟩ ?_
          · simp only [clP, c0, h2, c2, and_self, if_true]
          · rw [h3]
            subst c2
            unfold s_X7_told_j67
            rw [if_pos (by decide)]
            unfold s_X7_told_j94
            simp only [lg_cmp_eq]
            rw [if_neg (by decide)]
        · obtain ⟨g1, g2, g3⟩ := L2 σ1 h1
          obtain ⟨σ2, k1, k2, k3⟩ := value8 (f := f) (fin := m) g2 (a := a) (L := zl σ a) (by rw [h1.2.1]; exact q10) (by rw [h1.2.2.1]) q12 d3 d2
          have hne : ¬ iN (300 + h) = 302 := fun q => c2 (by have := (iN_inj (b := 302) (by omega) (by omega)).mp q; omega)
          have hk : cVal (zi σ1 a) (zi σ1 w) f m = ((B j).2 n).2.1 e := by
            rw [h1.2.2.2.1, cVal_congr hw]
            exact d8 (by rw [c0]; exact c2) e he
          have y3b : rdR 7 σ1 t 0 = some (some a) := (rdR_t (by rw [h1.2.1]; exact q3)).trans (by rw [h1.2.2.2.2.1, q4])
          have y1b : ck 7 σ1 t = some () := ck_t (by rw [h1.2.1]; exact q3)
          have F1b : s_X7_field t (iN n) 1 σ1 = some (iN f, σ1) := (field8 (w := 1) (r := r) (by rw [h1.2.1]; exact q3) (by rw [h1.2.2.2.2.1]; exact q5) (by rw [h1.2.1]; exact q11) (by rw [h1.2.2.1]; exact q13) (by omega) hB (by decide)).trans (by rw [h1.2.2.2.1, d5])
          have h4 : s_X7_told_b7 t (iN (300 + h)) (some rk) (iN n) σ = s_X7_told_j94 t (iN (300 + h)) (some rk) (iN n) ((((B j).2 n).2.1 e).getD 9000000000) σ2 := by
            rw [h3]
            simp only [s_X7_told_j67, hne, y3b, y1b, F1b, rk_ck g2, k1, hk, if_false, bind_ok, Option.bind_some, cb_some]
          rw [hk] at k3
          cases hv : ((B j).2 n).2.1 e with
          | none =>
            rw [hv] at h4
            refine go σ2 (h1.trans k2) ?_ ?_
            · simp only [clP, c0, h2, c2, and_self, if_true, if_false, hv]
            · rw [h4]
              unfold s_X7_told_j94
              simp only [lg_cmp_eq]
              rw [if_pos (by rfl)]
              unfold s_X7_told_j108
              rw [x2]
          | some v =>
            rw [hv] at h4
            have hs := k3 v hv
            refine stop σ2 v (h1.trans k2) ?_ hs ?_
            · simp only [clP, c0, h2, c2, and_self, if_true, if_false, hv]
            · rw [h4]
              unfold s_X7_told_j94
              simp only [lg_cmp_eq, Option.getD_some]
              rw [if_neg (sm_ne hs)]
      by_cases c1 : m < en
      · have c1b : ¬ iN en ≤ iN m := (fun h => absurd ((iN_le (by omega) (by omega)).mp h) (by omega))
        obtain ⟨σ2, k1, k2, k3⟩ := value8 (f := m) (fin := en) hR (a := a) (L := zl σ a) q10 rfl q12 d4 d3
        have hk : cVal (zi σ a) (zi σ w) m en = ((B j).2 n).2.2 e := by
          rw [cVal_congr hw]
          exact d9 c1 e he
        rw [hk] at k1 k3
        by_cases c3 : ((B j).2 n).2.2 e = some 1
        · refine tail σ2 k2 c3 ?_
          simp only [s_X7_told_b7, x1, y1, y2, y3, F0, F3, F4, c0b, c1b, k1, c3, lg_cmp_eq, Option.getD_some, if_true, if_false, bind_ok, Option.bind_some, cb_some]
        · have c4 : ¬ (((B j).2 n).2.2 e).getD 9000000000 = 1 := by
            intro q
            cases hv : ((B j).2 n).2.2 e with
            | none =>
              rw [hv] at q
              exact absurd q (by decide)
            | some v =>
              rw [hv] at q
              exact c3 (by rw [hv, show v = 1 from q])
          refine go σ2 k2 ?_ ?_
          · simp only [clP, c0, c3, and_false, if_false]
          · simp only [s_X7_told_b7, s_X7_told_j108, x1, x2, y1, y2, y3, F0, F3, F4, c0b, c1b, k1, c4, lg_cmp_eq, if_true, if_false, bind_ok, Option.bind_some, cb_some]
      · have c1b : iN en ≤ iN m := ((iN_le (by omega) (by omega)).mpr (by omega))
        refine tail σ AJ.refl (d10 c1 e) ?_
        simp only [s_X7_told_b7, x1, y1, F0, F3, F4, c0b, c1b, if_true, if_false, bind_ok, Option.bind_some, cb_some]
    · have c0b : ¬ iN (300 + ((B j).2 n).1) = iN (300 + h) := fun q => c0 (by
        have hb := h3 n (by omega)
        have := (iN_inj (by omega) (by omega)).mp q
        omega)
      refine go σ AJ.refl ?_ ?_
      · simp only [clP, c0, false_and, if_false]
      · simp only [s_X7_told_b7, s_X7_told_j108, x1, x2, y1, F0, c0b, if_false, bind_ok, Option.bind_some, cb_some]
end V9
