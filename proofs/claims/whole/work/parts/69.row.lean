/-! ===== the tape read as links ===== -/
section V37
variable {σ : Hp} {nP nF nB nT nS nL H : Nat} {B : Book} {R : Nat → Int32}
/-- three bytes that link -/
def gdT (nP a d w : Nat) : Bool := decide (a < nP) && decide (d < nP) && decide (a ≠ d) && decide (w < 10)
/-- the row after m threes, and how many linked -/
def rwF (T : Nat → Nat) (nP : Nat) (R : Nat → Int32) (m : Nat) : (Nat → Int32) × Nat := foldN (fun i q => if gdT nP (T (3 * i)) (T (3 * i + 1)) (T (3 * i + 2)) = true then (up (up q.1 (50 + (T (3 * i) * 10 + T (3 * i + 1))) (iN (T (3 * i + 2)))) (50 + (T (3 * i + 1) * 10 + T (3 * i))) (iN (T (3 * i + 2))), q.2 + 1) else q) m (R, 0)
theorem rwF_s {T : Nat → Nat} {m : Nat} : rwF T nP R (m + 1) = if gdT nP (T (3 * m)) (T (3 * m + 1)) (T (3 * m + 2)) = true then (up (up (rwF T nP R m).1 (50 + (T (3 * m) * 10 + T (3 * m + 1))) (iN (T (3 * m + 2)))) (50 + (T (3 * m + 1) * 10 + T (3 * m))) (iN (T (3 * m + 2))), (rwF T nP R m).2 + 1) else rwF T nP R m := rfl
theorem gdT_of {a d w : Nat} (h : gdT nP a d w = true) : a < nP ∧ d < nP ∧ a ≠ d ∧ w < 10 := by
  unfold gdT at h
  simp at h
  exact ⟨h.1.1.1, h.1.1.2, h.1.2, h.2⟩
theorem gdT_no {a d w : Nat} (h : gdT nP a d w = false) : ¬ (a < nP ∧ d < nP ∧ a ≠ d ∧ w < 10) := fun ⟨q1, q2, q3, q4⟩ => by
  unfold gdT at h
  rw [decide_eq_true q1, decide_eq_true q2, decide_eq_true q3, decide_eq_true q4] at h
  exact absurd h (by decide)
theorem rwF_le {T : Nat → Nat} : ∀ m, (rwF T nP R m).2 ≤ m
  | 0 => Nat.le_refl 0
  | m + 1 => by
    have := rwF_le (T := T) m
    rw [rwF_s]
    split
    · exact Nat.succ_le_succ this
    · omega
theorem rwF_wf {T : Nat → Nat} (h : WF nP nF nB nT nS nL H R) : ∀ m, WF nP nF nB nT nS nL H (rwF T nP R m).1
  | 0 => h
  | m + 1 => by
    have ih := rwF_wf (T := T) h m
    have hP := h.1.1
    rw [rwF_s]
    cases c : gdT nP (T (3 * m)) (T (3 * m + 1)) (T (3 * m + 2)) with
    | false => rw [if_neg (by decide)]; exact ih
    | true =>
      obtain ⟨q1, q2, q3, q4⟩ := gdT_of c
      rw [if_pos rfl]
      exact (ih.put (by omega) (okI_link (by omega) (bd_iN (by omega)) (by omega))).put (by omega) (okI_link (by omega) (bd_iN (by omega)) (by omega))
theorem rwF_ne {T : Nat → Nat} (hP : nP ≤ 10) {i : Nat} (hi : ¬ (50 ≤ i ∧ i < 150)) : ∀ m, (rwF T nP R m).1 i = R i
  | 0 => rfl
  | m + 1 => by
    have ih := rwF_ne (T := T) hP hi m
    rw [rwF_s]
    cases c : gdT nP (T (3 * m)) (T (3 * m + 1)) (T (3 * m + 2)) with
    | false => rw [if_neg (by decide)]; exact ih
    | true =>
      obtain ⟨q1, q2, q3, q4⟩ := gdT_of c
      rw [if_pos rfl]
      show up (up _ _ _) _ _ i = _
      rw [up_ne (by omega), up_ne (by omega)]
      exact ih
theorem no_nP {a : Nat} (h : ¬ a < nP) (ha : a < 2147483648) : no (iN a) nP := no_of_ge (by omega) ha
theorem linked8 {s : Hp} (hS : SK s) (hc : zi s 2 3 = iN nP) (hP : nP ≤ 10) {a d w : Nat} (ha : a < 256) (hd : d < 256) (hw : w < 256) :
    s_X8_linkedByRow 0 (iN a) (iN d) (iN w) s = if gdT nP a d w = true then some (1, zsi (zsi s 5 (a * 10 + d) (iN w)) 5 (d * 10 + a) (iN w)) else some (0, s) := by
  have hK := hS.hk1
  have r0 := q_r0_0 hS
  have h0 := h_r0_0 hK
  have ck := h_ck1 hK
  cases c : gdT nP a d w with
  | true =>
    obtain ⟨q1, q2, q3, q4⟩ := gdT_of c
    have ne : ¬ iN a = iN d := fun e => q3 ((iN_inj (by omega) (by omega)).mp e)
    have cb := can_t (σ := s) q4
    have o1 := one_t hK hc hP q1
    have o2 := one_t hK hc hP q2
    have jn : s_X3_join (1 + 1) (iN a) (iN d) (iN w) s = some ((), zsi (zsi s 5 (a * 10 + d) (iN w)) 5 (d * 10 + a) (iN w)) := join_t hK hc hP q1 q2
    rw [if_pos rfl]
    simp only [s_X8_linkedByRow, ne, cb, r0, h0, ck, o1, o2, jn, z10', if_true, if_false, bind_ok, Option.bind_some, cb_some]
  | false =>
    have nq := gdT_no c
    rw [if_neg (by decide)]
    by_cases e : a = d
    · subst e
      simp only [s_X8_linkedByRow, z10', if_true, if_false, bind_ok, Option.bind_some, cb_some]
    · have ne : ¬ iN a = iN d := fun q => e ((iN_inj (by omega) (by omega)).mp q)
      by_cases h4 : w < 10
      · have cb := can_t (σ := s) h4
        by_cases h1 : a < nP
        · have o1 := one_t hK hc hP h1
          have o2 := one_f hK hc (no_nP (fun h2 => nq ⟨h1, h2, e, h4⟩) (by omega) : no (iN d) nP)
          simp only [s_X8_linkedByRow, ne, cb, r0, h0, ck, o1, o2, z10', if_true, if_false, bind_ok, Option.bind_some, cb_some]
        · have o1 := one_f hK hc (no_nP h1 (by omega) : no (iN a) nP)
          simp only [s_X8_linkedByRow, ne, cb, r0, h0, ck, o1, z10', if_true, if_false, bind_ok, Option.bind_some, cb_some]
      · have cb := can_f (σ := s) (no_of_ge (c := 10) (p := w) (by omega) (by omega))
        simp only [s_X8_linkedByRow, ne, cb, z10', if_true, if_false, bind_ok, Option.bind_some, cb_some]
def S5 (a k : Nat) : Prop := a = 5
def S7 (a k : Nat) : Prop := (a = 127 ∧ 50 ≤ k ∧ k < 150) ∨ (a = 125 ∧ k = 11)
theorem loop8 {s : Hp} (hS : SK s) (hW : WF nP nF nB nT nS nL H R) (hH : HHm 1 s R) {n : Nat} (hn : n ≤ 400) {T : Nat → Nat} (hb : ∀ i, i < 400 → T i < 256) (hT : ∀ i, i < 400 → zi s 99 i &&& 255 = iN (T i)) :
    ∃ t, s_X8_row_l31 (0, iN n, 0, 0) s = some ((0, iN n, iN (rwF T nP R (n / 3)).2), t) ∧ Ag S5 s t ∧ HHm 1 t (rwF T nP R (n / 3)).1 := by
  have hP := hW.1.1
  obtain ⟨t, g1, g2, g3⟩ := loop_to (body := fun v => s_X8_row_b31 (v.1) (v.2.1) (v.2.2.1) (v.2.2.2)) (fun i t => Ag S5 s t ∧ HHm 1 t (rwF T nP R i).1) (fun t => Ag S5 s t ∧ HHm 1 t (rwF T nP R (n / 3)).1) (fun i => (0, iN n, iN (rwF T nP R i).2, iN (3 * i))) (0, iN n, iN (rwF T nP R (n / 3)).2) (n / 3) (fun i t hi ht => by
    obtain ⟨t1, t2⟩ := ht
    have hSt := hS.ag t1
    have x1 : iN (3 * i) + 1 = iN (3 * i + 1) := iN_add _ 1
    have x2 : iN (3 * i) + 2 = iN (3 * i + 2) := iN_add _ 2
    have x3 : iN (3 * i) + 3 = iN (3 * (i + 1)) := iN_add _ 3
    have f1 : ¬ iN n ≤ iN (3 * i + 2) := (fun h => absurd ((iN_le (by omega) (by omega)).mp h) (by omega))
    have z1 : iN (rwF T nP R i).2 + 1 = iN ((rwF T nP R i).2 + 1) := iN_add _ 1
    have r5 := q_r0_5 hSt
    have k98 := q_ck98 hSt
    have k8 := q_ck0 hSt
    have r98 := q_r98_0 hSt
    have ln := q_ln99 hSt
    have by8' : ∀ k, k < 400 → s_X6_byteAt 98 (iN k) t = some (iN (T k), t) := fun k hk => by
      have n0 : ¬ iN k < 0 := iN_nn (by omega)
      have f2 : ¬ iN 400 ≤ iN k := (fun h => absurd ((iN_le (by omega) (by omega)).mp h) (by omega))
      have l := q_ld99 hk hSt
      have e : zi t 99 k &&& 255 = iN (T k) := by
        rw [(t1.2.2.2.2 99 k (show ¬ ((99 : Nat) = 5) by decide)).1]
        exact hT k hk
      simp only [s_X6_byteAt, n0, r98, ln, f2, l, e, z10', if_true, if_false, bind_ok, Option.bind_some, cb_some]
    have y0 := by8' (3 * i) (by omega)
    have y1 := by8' (3 * i + 1) (by omega)
    have y2 := by8' (3 * i + 2) (by omega)
    have lk := linked8 hSt (nP := nP) ((t2.g0).trans ((rwF_wf hW i).2.1.1)) hP (a := T (3 * i)) (d := T (3 * i + 1)) (w := T (3 * i + 2)) (hb _ (by omega)) (hb _ (by omega)) (hb _ (by omega))
    rw [rwF_s]
    cases c : gdT nP (T (3 * i)) (T (3 * i + 1)) (T (3 * i + 2)) with
    | false =>
      rw [c, if_neg (by decide)] at lk
      rw [if_neg (by decide)]
      exact ⟨t, by simp only [s_X8_row_b31, s_X8_row_j76, x1, x2, x3, f1, r5, k98, y0, y1, y2, k8, lk, z10', if_true, if_false, bind_ok, Option.bind_some, cb_some], t1, t2⟩
    | true =>
      rw [c, if_pos rfl] at lk
      obtain ⟨q1, q2, q3, q4⟩ := gdT_of c
      rw [if_pos rfl]
      refine ⟨zsi (zsi t 5 (T (3 * i) * 10 + T (3 * i + 1)) (iN (T (3 * i + 2)))) 5 (T (3 * i + 1) * 10 + T (3 * i)) (iN (T (3 * i + 2))), ?_, (t1.trans (Ag.zsi rfl)).trans (Ag.zsi rfl), ?_⟩
      · simp only [s_X8_row_b31, s_X8_row_j76, x1, x2, x3, f1, r5, k98, y0, y1, y2, k8, lk, z1, z10', if_true, if_false, bind_ok, Option.bind_some, cb_some]
      · exact (t2.set (o := 4) (by omega) (loc_link _ (by omega)) _).set (o := 4) (by omega) (loc_link _ (by omega)) _) (fun t ht => by
    have x2 : iN (3 * (n / 3)) + 2 = iN (3 * (n / 3) + 2) := iN_add _ 2
    have f1 : iN n ≤ iN (3 * (n / 3) + 2) := ((iN_le (by omega) (by omega)).mpr (by omega))
    exact ⟨t, by simp only [s_X8_row_b31, x2, f1, z10', if_true, if_false, bind_ok, Option.bind_some, cb_some], ht⟩) (σ := s) ⟨Ag.refl, hH⟩
  exact ⟨t, g1, g2, g3⟩
theorem loop9 {s : Hp} (hS : SK s) (hW : WF nP nF nB nT nS nL H R) (hR : zi s 127 = R) (h11 : zi s 125 11 = 0) {n : Nat} (hn : n ≤ 400) {T : Nat → Nat} (hb : ∀ i, i < 400 → T i < 256) (hT : ∀ i, i < 400 → zi s 134 i = iN (T i)) :
    ∃ t, s_X9_row_l35 (125, iN n, 0, 0) s = some ((125, iN (rwF T nP R (n / 3)).2), t) ∧ Ag S7 s t ∧ zi t 127 = (rwF T nP R (n / 3)).1 ∧ zi t 125 11 = iN ((n + 2) / 3 - (rwF T nP R (n / 3)).2) := by
  have hP := hW.1.1
  have body : ∀ i t, SK t → i < n / 3 → (Ag S7 s t ∧ zi t 127 = (rwF T nP R i).1 ∧ zi t 125 11 = iN (i - (rwF T nP R i).2)) → ∃ t1, s_X9_row_b35 125 (iN n) (iN (rwF T nP R i).2) (iN (3 * i)) t = some (Sum.inl (125, iN n, iN (rwF T nP R (i + 1)).2, iN (3 * (i + 1))), t1) ∧ (Ag S7 s t1 ∧ zi t1 127 = (rwF T nP R (i + 1)).1 ∧ zi t1 125 11 = iN (i + 1 - (rwF T nP R (i + 1)).2)) := fun i t hSt hi ht => by
    obtain ⟨t1, t2, t3⟩ := ht
    have x1 : iN (3 * i) + 1 = iN (3 * i + 1) := iN_add _ 1
    have x2 : iN (3 * i) + 2 = iN (3 * i + 2) := iN_add _ 2
    have x3 : iN (3 * i) + 3 = iN (3 * (i + 1)) := iN_add _ 3
    have f0 : ¬ iN n ≤ iN (3 * i) := (fun h => absurd ((iN_le (by omega) (by omega)).mp h) (by omega))
    have f1 : ¬ iN n ≤ iN (3 * i + 2) := (fun h => absurd ((iN_le (by omega) (by omega)).mp h) (by omega))
    have z1 : iN (rwF T nP R i).2 + 1 = iN ((rwF T nP R i).2 + 1) := iN_add _ 1
    have le := rwF_le (T := T) (nP := nP) (R := R) i
    have r12 := q_r125_12 hSt
    have bk := q_ck125 hSt
    have lb : ∀ k, k < 400 → ldI 11 t 134 (iN k) = some (iN (T k)) := fun k hk => by
      rw [q_ld134 hk hSt, (t1.2.2.2.2 134 k (by unfold S7; omega)).1, hT k hk]
    have y0 := lb (3 * i) (by omega)
    have y1 := lb (3 * i + 1) (by omega)
    have y2 := lb (3 * i + 2) (by omega)
    have b0 := hb (3 * i) (by omega)
    have b1 := hb (3 * i + 1) (by omega)
    have b2 := hb (3 * i + 2) (by omega)
    have c0 : zi t 127 0 = iN nP := by rw [t2]; exact (rwF_wf hW i).2.1.1
    have i11 := q_i125 (k := 11) hSt
    rw [t3] at i11
    have z2 : iN (i - (rwF T nP R i).2) + 1 = iN (i + 1 - (rwF T nP R i).2) := by
      rw [show (1 : Int32) = iN 1 from rfl, iN_add, show i - (rwF T nP R i).2 + 1 = i + 1 - (rwF T nP R i).2 by omega]
    have w11 := q_w125 (k := 11) (v := iN (i + 1 - (rwF T nP R i).2)) hSt
    have bad : ∀ {x : Option (((Nat × Int32 × Int32 × Int32) ⊕ (Nat × Int32)) × Hp)}, x = s_X9_row_j137 125 (iN n) (iN (rwF T nP R i).2) (iN (3 * i)) t → gdT nP (T (3 * i)) (T (3 * i + 1)) (T (3 * i + 2)) = false → ∃ t1, x = some (Sum.inl (125, iN n, iN (rwF T nP R (i + 1)).2, iN (3 * (i + 1))), t1) ∧ (Ag S7 s t1 ∧ zi t1 127 = (rwF T nP R (i + 1)).1 ∧ zi t1 125 11 = iN (i + 1 - (rwF T nP R (i + 1)).2)) := fun {x} ex c => by
      rw [rwF_s, c, if_neg (by decide)]
      refine ⟨zsi t 125 11 (iN (i + 1 - (rwF T nP R i).2)), ?_, t1.trans (Ag.zsi (Or.inr ⟨rfl, rfl⟩)), (zi_ne (by decide)).trans t2, zi_hit⟩
      rw [ex]
      simp only [s_X9_row_j137, s_X9_row_j147, i11, z2, w11, x3, z10', if_true, if_false, bind_ok, Option.bind_some, cb_some]
    cases c : gdT nP (T (3 * i)) (T (3 * i + 1)) (T (3 * i + 2)) with
    | false =>
      have nq := gdT_no c
      refine bad ?_ c
      by_cases h1 : T (3 * i) < nP
      · have p1 := pc9_t hSt c0 hP h1
        by_cases h2 : T (3 * i + 1) < nP
        · have p2 := pc9_t hSt c0 hP h2
          by_cases e : T (3 * i) = T (3 * i + 1)
          · rw [e] at y0 p1
            simp only [s_X9_row_b35, x1, x2, f0, f1, r12, y0, y1, bk, p1, z10', if_true, if_false, bind_ok, Option.bind_some, cb_some]
          · have ne : ¬ iN (T (3 * i)) = iN (T (3 * i + 1)) := fun q => e ((iN_inj (by omega) (by omega)).mp q)
            have h9 : (9 : Int32) < iN (T (3 * i + 2)) := (iN_lt (a := 9) (by decide) (by omega)).mpr (by
              have : ¬ T (3 * i + 2) < 10 := fun h4 => nq ⟨h1, h2, e, h4⟩
              omega)
            simp only [s_X9_row_b35, x1, x2, f0, f1, r12, y0, y1, y2, bk, p1, p2, ne, h9, z10', if_true, if_false, bind_ok, Option.bind_some, cb_some]
        · have p2 := pc9_f hSt c0 hP (no_nP h2 (by omega) : no (iN (T (3 * i + 1))) nP)
          simp only [s_X9_row_b35, x1, x2, f0, f1, r12, y0, y1, bk, p1, p2, z10', if_true, if_false, bind_ok, Option.bind_some, cb_some]
      · have p1 := pc9_f hSt c0 hP (no_nP h1 (by omega) : no (iN (T (3 * i))) nP)
        simp only [s_X9_row_b35, x1, x2, f0, f1, r12, y0, bk, p1, z10', if_true, if_false, bind_ok, Option.bind_some, cb_some]
    | true =>
      obtain ⟨q1, q2, q3, q4⟩ := gdT_of c
      have p1 := pc9_t hSt c0 hP q1
      have p2 := pc9_t hSt c0 hP q2
      have ne : ¬ iN (T (3 * i)) = iN (T (3 * i + 1)) := fun q => q3 ((iN_inj (by omega) (by omega)).mp q)
      have h9 : ¬ (9 : Int32) < iN (T (3 * i + 2)) := fun q => absurd ((iN_lt (a := 9) (by decide) (by omega)).mp q) (by omega)
      have sl := set9 hSt (a := T (3 * i)) (d := T (3 * i + 1)) (by omega) (by omega) (v := iN (T (3 * i + 2)))
      rw [rwF_s, c, if_pos rfl]
      refine ⟨zsi (zsi t 127 (50 + (T (3 * i) * 10 + T (3 * i + 1))) (iN (T (3 * i + 2)))) 127 (50 + (T (3 * i + 1) * 10 + T (3 * i))) (iN (T (3 * i + 2))), ?_, (t1.trans (Ag.zsi (Or.inl ⟨rfl, by omega, by omega⟩))).trans (Ag.zsi (Or.inl ⟨rfl, by omega, by omega⟩)), ?_, ?_⟩
      · simp only [s_X9_row_b35, s_X9_row_j147, x1, x2, x3, f0, f1, r12, y0, y1, y2, bk, p1, p2, ne, h9, sl, z1, z10', if_true, if_false, bind_ok, Option.bind_some, cb_some]
      · rw [zi_up, zi_up, t2]
      · rw [zi_ne (by decide), zi_ne (by decide), t3]
        show iN (i - (rwF T nP R i).2) = iN (i + 1 - ((rwF T nP R i).2 + 1))
        rw [show i + 1 - ((rwF T nP R i).2 + 1) = i - (rwF T nP R i).2 by omega]
  by_cases m3 : n % 3 = 0
  · obtain ⟨t, g1, g2⟩ := loop_to (body := fun v => s_X9_row_b35 (v.1) (v.2.1) (v.2.2.1) (v.2.2.2)) (fun i t => Ag S7 s t ∧ zi t 127 = (rwF T nP R i).1 ∧ zi t 125 11 = iN (i - (rwF T nP R i).2)) (fun t => Ag S7 s t ∧ zi t 127 = (rwF T nP R (n / 3)).1 ∧ zi t 125 11 = iN ((n + 2) / 3 - (rwF T nP R (n / 3)).2)) (fun i => (125, iN n, iN (rwF T nP R i).2, iN (3 * i))) (125, iN (rwF T nP R (n / 3)).2) (n / 3) (fun i t hi ht => body i t (hS.ag ht.1) hi ht) (fun t ht => by
      have f0 : iN n ≤ iN (3 * (n / 3)) := ((iN_le (by omega) (by omega)).mpr (by omega))
      refine ⟨t, by simp only [s_X9_row_b35, f0, z10', if_true, if_false, bind_ok, Option.bind_some, cb_some], ht.1, ht.2.1, ?_⟩
      rw [ht.2.2, show (n + 2) / 3 = n / 3 by omega]) (σ := s) ⟨Ag.refl, hR, h11⟩
    exact ⟨t, g1, g2⟩
  · obtain ⟨t, g1, g2⟩ := loop_to (body := fun v => s_X9_row_b35 (v.1) (v.2.1) (v.2.2.1) (v.2.2.2)) (fun i t => Ag S7 s t ∧ zi t 127 = (rwF T nP R (min i (n / 3))).1 ∧ zi t 125 11 = iN (i - (rwF T nP R (min i (n / 3))).2)) (fun t => Ag S7 s t ∧ zi t 127 = (rwF T nP R (n / 3)).1 ∧ zi t 125 11 = iN ((n + 2) / 3 - (rwF T nP R (n / 3)).2)) (fun i => (125, iN n, iN (rwF T nP R (min i (n / 3))).2, iN (3 * i))) (125, iN (rwF T nP R (n / 3)).2) (n / 3 + 1) (fun i t hi ht => by
      by_cases c : i < n / 3
      · rw [show min i (n / 3) = i by omega] at ht
        rw [show min i (n / 3) = i by omega, show min (i + 1) (n / 3) = i + 1 by omega]
        exact body i t (hS.ag ht.1) c ht
      · obtain rfl : i = n / 3 := by omega
        rw [show min (n / 3) (n / 3) = n / 3 by omega] at ht
        rw [show min (n / 3) (n / 3) = n / 3 by omega, show min (n / 3 + 1) (n / 3) = n / 3 by omega]
        have hSt := hS.ag ht.1
        have le := rwF_le (T := T) (nP := nP) (R := R) (n / 3)
        have x2 : iN (3 * (n / 3)) + 2 = iN (3 * (n / 3) + 2) := iN_add _ 2
        have x3 : iN (3 * (n / 3)) + 3 = iN (3 * (n / 3 + 1)) := iN_add _ 3
        have f0 : ¬ iN n ≤ iN (3 * (n / 3)) := (fun h => absurd ((iN_le (by omega) (by omega)).mp h) (by omega))
        have f1 : iN n ≤ iN (3 * (n / 3) + 2) := ((iN_le (by omega) (by omega)).mpr (by omega))
        have i11 := q_i125 (k := 11) hSt
        rw [ht.2.2] at i11
        have z2 : iN (n / 3 - (rwF T nP R (n / 3)).2) + 1 = iN (n / 3 + 1 - (rwF T nP R (n / 3)).2) := by
          rw [show (1 : Int32) = iN 1 from rfl, iN_add, show n / 3 - (rwF T nP R (n / 3)).2 + 1 = n / 3 + 1 - (rwF T nP R (n / 3)).2 by omega]
        have w11 := q_w125 (k := 11) (v := iN (n / 3 + 1 - (rwF T nP R (n / 3)).2)) hSt
        exact ⟨zsi t 125 11 (iN (n / 3 + 1 - (rwF T nP R (n / 3)).2)), by simp only [s_X9_row_b35, s_X9_row_j137, s_X9_row_j147, x2, x3, f0, f1, i11, z2, w11, z10', if_true, if_false, bind_ok, Option.bind_some, cb_some], ht.1.trans (Ag.zsi (Or.inr ⟨rfl, rfl⟩)), (zi_ne (by decide)).trans ht.2.1, zi_hit⟩) (fun t ht => by
      have f0 : iN n ≤ iN (3 * (n / 3 + 1)) := ((iN_le (by omega) (by omega)).mpr (by omega))
      rw [show min (n / 3 + 1) (n / 3) = n / 3 by omega] at ht
      refine ⟨t, by rw [show min (n / 3 + 1) (n / 3) = n / 3 by omega]; simp only [s_X9_row_b35, f0, z10', if_true, if_false, bind_ok, Option.bind_some, cb_some], ht.1, ht.2.1, ?_⟩
      rw [ht.2.2, show (n + 2) / 3 = n / 3 + 1 by omega]) (σ := s) ⟨Ag.refl, by rw [show min 0 (n / 3) = 0 by omega]; exact hR, by rw [show min 0 (n / 3) = 0 by omega]; exact h11⟩
    rw [show min 0 (n / 3) = 0 by omega] at g1
    exact ⟨t, g1, g2⟩
end V37
