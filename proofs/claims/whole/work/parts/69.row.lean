/-! ===== the tape read as links ===== -/
section V37
variable {σ : Hp} {nP nF nB nT nS nL H : Nat} {B : Book} {R : Nat → Int32}
/-- three bytes that link -/
def gdT (nP a d w : Nat) : Bool := decide (a < nP) && decide (d < nP) && decide (a ≠ d) && decide (w < 10)
/-- the row after m threes, and how many linked -/
def rwF (T : Nat → Nat) (nP : Nat) (R : Nat → Int32) (m : Nat) : (Nat → Int32) × Nat := foldN (fun i q => if gdT nP (T (3 * i)) (T (3 * i + 1)) (T (3 * i + 2)) = true then (up (up q.1 (50 + (T (3 * i) * 10 + T (3 * i + 1))) (iN (T (3 * i + 2)))) (50 + (T (3 * i + 1) * 10 + T (3 * i))) (iN (T (3 * i + 2))), q.2 + 1) else q) m (R, 0)
theorem rwF_s {T : Nat → Nat} {m : Nat} : rwF T nP R (m + 1) = if gdT nP (T (3 * m)) (T (3 * m + 1)) (T (3 * m + 2)) = true then (up (up (rwF T nP R m).1 (50 + (T (3 * m) * 10 + T (3 * m + 1))) (iN (T (3 * m + 2)))) (50 + (T (3 * m + 1) * 10 + T (3 * m))) (iN (T (3 * m + 2))), (rwF T nP R m).2 + 1) else rwF T nP R m := rfl
theorem gdT_of {a d w : Nat} (h : gdT nP a d w = true) : a < nP ∧ d < nP ∧ a ≠ d ∧ w < 10 := by
  unfold gdT at h
  simp at h
  exact ⟨h.1.1.1, h.1.1.2, h.1.2, h.2⟩
theorem gdT_no {a d w : Nat} (h : gdT nP a d w = false) : ¬ (a < nP ∧ d < nP ∧ a ≠ d ∧ w < 10) := fun ⟨q1, q2, q3, q4⟩ => by
  unfold gdT at h
  rw [decide_eq_true q1, decide_eq_true q2, decide_eq_true q3, decide_eq_true q4] at h
  exact absurd h (by decide)
theorem rwF_le {T : Nat → Nat} : ∀ m, (rwF T nP R m).2 ≤ m
  | 0 => Nat.le_refl 0
  | m + 1 => by
    have := rwF_le (T := T) m
    rw [rwF_s]
    split
    · exact Nat.succ_le_succ this
    · omega
theorem rwF_wf {T : Nat → Nat} (h : WF nP nF nB nT nS nL H R) : ∀ m, WF nP nF nB nT nS nL H (rwF T nP R m).1
  | 0 => h
  | m + 1 => by
    have ih := rwF_wf (T := T) h m
    have hP := h.1.1
    rw [rwF_s]
    cases c : gdT nP (T (3 * m)) (T (3 * m + 1)) (T (3 * m + 2)) with
    | false => rw [if_neg (by decide)]; exact ih
    | true =>
      obtain ⟨q1, q2, q3, q4⟩ := gdT_of c
      rw [if_pos rfl]
      exact (ih.put (by omega) (okI_link (by omega) (bd_iN (by omega)) (by omega))).put (by omega) (okI_link (by omega) (bd_iN (by omega)) (by omega))
theorem rwF_ne {T : Nat → Nat} (hP : nP ≤ 10) {i : Nat} (hi : ¬ (50 ≤ i ∧ i < 150)) : ∀ m, (rwF T nP R m).1 i = R i
  | 0 => rfl
  | m + 1 => by
    have ih := rwF_ne (T := T) hP hi m
    rw [rwF_s]
    cases c : gdT nP (T (3 * m)) (T (3 * m + 1)) (T (3 * m + 2)) with
    | false => rw [if_neg (by decide)]; exact ih
    | true =>
      obtain ⟨q1, q2, q3, q4⟩ := gdT_of c
      rw [if_pos rfl]
      show up (up _ _ _) _ _ i = _
      rw [up_ne (by omega), up_ne (by omega)]
      exact ih
theorem no_nP {a : Nat} (h : ¬ a < nP) (ha : a < 2147483648) : no (iN a) nP := no_of_ge (by omega) ha
theorem linked8 {s : Hp} (hS : SK s) (hc : zi s 2 3 = iN nP) (hP : nP ≤ 10) {a d w : Nat} (ha : a < 256) (hd : d < 256) (hw : w < 256) :
    s_X8_linkedByRow 0 (iN a) (iN d) (iN w) s = if gdT nP a d w = true then some (1, zsi (zsi s 5 (a * 10 + d) (iN w)) 5 (d * 10 + a) (iN w)) else some (0, s) := by
  have hK := hS.hk1
  have r0 := q_r0_0 hS
  have h0 := h_r0_0 hK
  have ck := h_ck1 hK
  cases c : gdT nP a d w with
  | true =>
    obtain ⟨q1, q2, q3, q4⟩ := gdT_of c
    have ne : ¬ iN a = iN d := fun e => q3 ((iN_inj (by omega) (by omega)).mp e)
    have cb := can_t (σ := s) q4
    have o1 := one_t hK hc hP q1
    have o2 := one_t hK hc hP q2
    have jn : s_X3_join (1 + 1) (iN a) (iN d) (iN w) s = some ((), zsi (zsi s 5 (a * 10 + d) (iN w)) 5 (d * 10 + a) (iN w)) := join_t hK hc hP q1 q2
    rw [if_pos rfl]
    simp only [s_X8_linkedByRow, ne, cb, r0, h0, ck, o1, o2, jn, z10', if_true, if_false, bind_ok, Option.bind_some, cb_some]
  | false =>
    have nq := gdT_no c
    rw [if_neg (by decide)]
    by_cases e : a = d
    · subst e
      simp only [s_X8_linkedByRow, z10', if_true, if_false, bind_ok, Option.bind_some, cb_some]
    · have ne : ¬ iN a = iN d := fun q => e ((iN_inj (by omega) (by omega)).mp q)
      by_cases h4 : w < 10
      · have cb := can_t (σ := s) h4
        by_cases h1 : a < nP
        · have o1 := one_t hK hc hP h1
          have o2 := one_f hK hc (no_nP (fun h2 => nq ⟨h1, h2, e, h4⟩) (by omega) : no (iN d) nP)
          simp only [s_X8_linkedByRow, ne, cb, r0, h0, ck, o1, o2, z10', if_true, if_false, bind_ok, Option.bind_some, cb_some]
        · have o1 := one_f hK hc (no_nP h1 (by omega) : no (iN a) nP)
          simp only [s_X8_linkedByRow, ne, cb, r0, h0, ck, o1, z10', if_true, if_false, bind_ok, Option.bind_some, cb_some]
      · have cb := can_f (σ := s) (no_of_ge (c := 10) (p := w) (by omega) (by omega))
        simp only [s_X8_linkedByRow, ne, cb, z10', if_true, if_false, bind_ok, Option.bind_some, cb_some]
def S5 (a k : Nat) : Prop := a = 5
def S7 (a k : Nat) : Prop := (a = 127 ∧ 50 ≤ k ∧ k < 150) ∨ (a = 125 ∧ k = 11)
theorem loop8 {s : Hp} (hS : SK s) (hW : WF nP nF nB nT nS nL H R) (hH : HHm 1 s R) {n : Nat} (hn : n ≤ 400) {T : Nat → Nat} (hb : ∀ i, i < 400 → T i < 256) (hT : ∀ i, i < 400 → zi s 99 i &&& 255 = iN (T i)) :
    ∃ t, s_X8_row_l31 (0, iN n, 0, 0) s = some ((0, iN n, iN (rwF T nP R (n / 3)).2), t) ∧ Ag S5 s t ∧ HHm 1 t (rwF T nP R (n / 3)).1 := by
  have hP := hW.1.1
  obtain ⟨t, g1, g2, g3⟩ := loop_to (body := fun v => s_X8_row_b31 (v.1) (v.2.1) (v.2.2.1) (v.2.2.2)) (fun i t => Ag S5 s t ∧ HHm 1 t (rwF T nP R i).1) (fun t => Ag S5 s t ∧ HHm 1 t (rwF T nP R (n / 3)).1) (fun i => (0, iN n, iN (rwF T nP R i).2, iN (3 * i))) (0, iN n, iN (rwF T nP R (n / 3)).2) (n / 3) (fun i t hi ht => by
    obtain ⟨t1, t2⟩ := ht
    have hSt := hS.ag t1
    have x1 : iN (3 * i) + 1 = iN (3 * i + 1) := iN_add _ 1
    have x2 : iN (3 * i) + 2 = iN (3 * i + 2) := iN_add _ 2
    have x3 : iN (3 * i) + 3 = iN (3 * (i + 1)) := iN_add _ 3
    have f1 : ¬ iN n ≤ iN (3 * i + 2) := (fun h => absurd ((iN_le (by omega) (by omega)).mp h) (by omega))
    have z1 : iN (rwF T nP R i).2 + 1 = iN ((rwF T nP R i).2 + 1) := iN_add _ 1
    have r5 := q_r0_5 hSt
    have k98 := q_ck98 hSt
    have k8 := q_ck0 hSt
    have r98 := q_r98_0 hSt
    have ln := q_ln99 hSt
    have by8' : ∀ k, k < 400 → s_X6_byteAt 98 (iN k) t = some (iN (T k), t) := fun k hk => by
      have n0 : ¬ iN k < 0 := iN_nn (by omega)
      have f2 : ¬ iN 400 ≤ iN k := (fun h => absurd ((iN_le (by omega) (by omega)).mp h) (by omega))
      have l := q_ld99 hk hSt
      have e : zi t 99 k &&& 255 = iN (T k) := by
        rw [(t1.2.2.2.2 99 k (show ¬ ((99 : Nat) = 5) by decide)).1]
        exact hT k hk
      simp only [s_X6_byteAt, n0, r98, ln, f2, l, e, z10', if_true, if_false, bind_ok, Option.bind_some, cb_some]
    have y0 := by8' (3 * i) (by omega)
    have y1 := by8' (3 * i + 1) (by omega)
    have y2 := by8' (3 * i + 2) (by omega)
    have lk := linked8 hSt (nP := nP) ((t2.g0).trans ((rwF_wf hW i).2.1.1)) hP (a := T (3 * i)) (d := T (3 * i + 1)) (w := T (3 * i + 2)) (hb _ (by omega)) (hb _ (by omega)) (hb _ (by omega))
    rw [rwF_s]
    cases c : gdT nP (T (3 * i)) (T (3 * i + 1)) (T (3 * i + 2)) with
    | false =>
      rw [c, if_neg (by decide)] at lk
      rw [if_neg (by decide)]
      exact ⟨t, by simp only [s_X8_row_b31, s_X8_row_j76, x1, x2, x3, f1, r5, k98, y0, y1, y2, k8, lk, z10', if_true, if_false, bind_ok, Option.bind_some, cb_some], t1, t2⟩
    | true =>
      rw [c, if_pos rfl] at lk
      obtain ⟨q1, q2, q3, q4⟩ := gdT_of c
      rw [if_pos rfl]
      refine ⟨zsi (zsi t 5 (T (3 * i) * 10 + T (3 * i + 1)) (iN (T (3 * i + 2)))) 5 (T (3 * i + 1) * 10 + T (3 * i)) (iN (T (3 * i + 2))), ?_, (t1.trans (Ag.zsi rfl)).trans (Ag.zsi rfl), ?_⟩
      · simp only [s_X8_row_b31, s_X8_row_j76, x1, x2, x3, f1, r5, k98, y0, y1, y2, k8, lk, z1, z10', if_true, if_false, bind_ok, Option.bind_some, cb_some]
      · exact (t2.set (o := 4) (by omega) (loc_link _ (by omega)) _).set (o := 4) (by omega) (loc_link _ (by omega)) _) (fun t ht => by
    have x2 : iN (3 * (n / 3)) + 2 = iN (3 * (n / 3) + 2) := iN_add _ 2
    have f1 : iN n ≤ iN (3 * (n / 3) + 2) := ((iN_le (by omega) (by omega)).mpr (by omega))
    exact ⟨t, by simp only [s_X8_row_b31, x2, f1, z10', if_true, if_false, bind_ok, Option.bind_some, cb_some], ht⟩) (σ := s) ⟨Ag.refl, hH⟩
  exact ⟨t, g1, g2, g3⟩
theorem loop9 {s : Hp} (hS : SK s) (hW : WF nP nF nB nT nS nL H R) (hR : zi s 127 = R) (h11 : zi s 125 11 = 0) {n : Nat} (hn : n ≤ 400) {T : Nat → Nat} (hb : ∀ i, i < 400 → T i < 256) (hT : ∀ i, i < 400 → zi s 134 i = iN (T i)) :
    ∃ t, s_X9_row_l35 (125, iN n, 0, 0) s = some ((125, iN (rwF T nP R (n / 3)).2), t) ∧ Ag S7 s t ∧ zi t 127 = (rwF T nP R (n / 3)).1 ∧ zi t 125 11 = iN ((n + 2) / 3 - (rwF T nP R (n / 3)).2) := by
  have hP := hW.1.1
  have body : ∀ i t, SK t → i < n / 3 → (Ag S7 s t ∧ zi t 127 = (rwF T nP R i).1 ∧ zi t 125 11 = iN (i - (rwF T nP R i).2)) → ∃ t1, s_X9_row_b35 125 (iN n) (iN (rwF T nP R i).2) (iN (3 * i)) t = some (Sum.inl (125, iN n, iN (rwF T nP R (i + 1)).2, iN (3 * (i + 1))), t1) ∧ (Ag S7 s t1 ∧ zi t1 127 = (rwF T nP R (i + 1)).1 ∧ zi t1 125 11 = iN (i + 1 - (rwF T nP R (i + 1)).2)) := fun i t hSt hi ht => by
    obtain ⟨t1, t2, t3⟩ := ht
    have x1 : iN (3 * i) + 1 = iN (3 * i + 1) := iN_add _ 1
    have x2 : iN (3 * i) + 2 = iN (3 * i + 2) := iN_add _ 2
    have x3 : iN (3 * i) + 3 = iN (3 * (i + 1)) := iN_add _ 3
    have f0 : ¬ iN n ≤ iN (3 * i) := (fun h => absurd ((iN_le (by omega) (by omega)).mp h) (by omega))
    have f1 : ¬ iN n ≤ iN (3 * i + 2) := (fun h => absurd ((iN_le (by omega) (by omega)).mp h) (by omega))
    have z1 : iN (rwF T nP R i).2 + 1 = iN ((rwF T nP R i).2 + 1) := iN_add _ 1
    have le := rwF_le (T := T) (nP := nP) (R := R) i
    have r12 := q_r125_12 hSt
    have bk := q_ck125 hSt
    have lb : ∀ k, k < 400 → ldI 11 t 134 (iN k) = some (iN (T k)) := fun k hk => by
      rw [q_ld134 hk hSt, (t1.2.2.2.2 134 k (by unfold S7; omega)).1, hT k hk]
    have y0 := lb (3 * i) (by omega)
    have y1 := lb (3 * i + 1) (by omega)
    have y2 := lb (3 * i + 2) (by omega)
    have b0 := hb (3 * i) (by omega)
    have b1 := hb (3 * i + 1) (by omega)
    have b2 := hb (3 * i + 2) (by omega)
    have c0 : zi t 127 0 = iN nP := by rw [t2]; exact (rwF_wf hW i).2.1.1
    have i11 := q_i125 (k := 11) hSt
    rw [t3] at i11
    have z2 : iN (i - (rwF T nP R i).2) + 1 = iN (i + 1 - (rwF T nP R i).2) := by
      rw [show (1 : Int32) = iN 1 from rfl, iN_add, show i - (rwF T nP R i).2 + 1 = i + 1 - (rwF T nP R i).2 by omega]
    have w11 := q_w125 (k := 11) (v := iN (i + 1 - (rwF T nP R i).2)) hSt
    have bad : ∀ {x : Option (((Nat × Int32 × Int32 × Int32) ⊕ (Nat × Int32)) × Hp)}, x = s_X9_row_j137 125 (iN n) (iN (rwF T nP R i).2) (iN (3 * i)) t → gdT nP (T (3 * i)) (T (3 * i + 1)) (T (3 * i + 2)) = false → ∃ t1, x = some (Sum.inl (125, iN n, iN (rwF T nP R (i + 1)).2, iN (3 * (i + 1))), t1) ∧ (Ag S7 s t1 ∧ zi t1 127 = (rwF T nP R (i + 1)).1 ∧ zi t1 125 11 = iN (i + 1 - (rwF T nP R (i + 1)).2)) := fun {x} ex c => by
      rw [rwF_s, c, if_neg (by decide)]
      refine ⟨zsi t 125 11 (iN (i + 1 - (rwF T nP R i).2)), ?_, t1.trans (Ag.zsi (Or.inr ⟨rfl, rfl⟩)), (zi_ne (by decide)).trans t2, zi_hit⟩
      rw [ex]
      simp only [s_X9_row_j137, s_X9_row_j147, i11, z2, w11, x3, z10', if_true, if_false, bind_ok, Option.bind_some, cb_some]
    cases c : gdT nP (T (3 * i)) (T (3 * i + 1)) (T (3 * i + 2)) with
    | false =>
      have nq := gdT_no c
      refine bad ?_ c
      by_cases h1 : T (3 * i) < nP
      · have p1 := pc9_t hSt c0 hP h1
        by_cases h2 : T (3 * i + 1) < nP
        · have p2 := pc9_t hSt c0 hP h2
          by_cases e : T (3 * i) = T (3 * i + 1)
          · rw [e] at y0 p1
            simp only [s_X9_row_b35, x1, x2, f0, f1, r12, y0, y1, bk, p1, z10', if_true, if_false, bind_ok, Option.bind_some, cb_some]
          · have ne : ¬ iN (T (3 * i)) = iN (T (3 * i + 1)) := fun q => e ((iN_inj (by omega) (by omega)).mp q)
            have h9 : (9 : Int32) < iN (T (3 * i + 2)) := (iN_lt (a := 9) (by decide) (by omega)).mpr (by
              have : ¬ T (3 * i + 2) < 10 := fun h4 => nq ⟨h1, h2, e, h4⟩
              omega)
            simp only [s_X9_row_b35, x1, x2, f0, f1, r12, y0, y1, y2, bk, p1, p2, ne, h9, z10', if_true, if_false, bind_ok, Option.bind_some, cb_some]
        · have p2 := pc9_f hSt c0 hP (no_nP h2 (by omega) : no (iN (T (3 * i + 1))) nP)
          simp only [s_X9_row_b35, x1, x2, f0, f1, r12, y0, y1, bk, p1, p2, z10', if_true, if_false, bind_ok, Option.bind_some, cb_some]
      · have p1 := pc9_f hSt c0 hP (no_nP h1 (by omega) : no (iN (T (3 * i))) nP)
        simp only [s_X9_row_b35, x1, x2, f0, f1, r12, y0, bk, p1, z10', if_true, if_false, bind_ok, Option.bind_some, cb_some]
    | true =>
      obtain ⟨q1, q2, q3, q4⟩ := gdT_of c
      have p1 := pc9_t hSt c0 hP q1
      have p2 := pc9_t hSt c0 hP q2
      have ne : ¬ iN (T (3 * i)) = iN (T (3 * i + 1)) := fun q => q3 ((iN_inj (by omega) (by omega)).mp q)
      have h9 : ¬ (9 : Int32) < iN (T (3 * i + 2)) := fun q => absurd ((iN_lt (a := 9) (by decide) (by omega)).mp q) (by omega)
      have sl := set9 hSt (a := T (3 * i)) (d := T (3 * i + 1)) (by omega) (by omega) (v := iN (T (3 * i + 2)))
      rw [rwF_s, c, if_pos rfl]
      refine ⟨zsi (zsi t 127 (50 + (T (3 * i) * 10 + T (3 * i + 1))) (iN (T (3 * i + 2)))) 127 (50 + (T (3 * i + 1) * 10 + T (3 * i))) (iN (T (3 * i + 2))), ?_, (t1.trans (Ag.zsi (Or.inl ⟨rfl, by omega, by omega⟩))).trans (Ag.zsi (Or.inl ⟨rfl, by omega, by omega⟩)), ?_, ?_⟩
      · simp only [s_X9_row_b35, s_X9_row_j147, x1, x2, x3, f0, f1, r12, y0, y1, y2, bk, p1, p2, ne, h9, sl, z1, z10', if_true, if_false, bind_ok, Option.bind_some, cb_some]
      · rw [zi_up, zi_up, t2]
      · rw [zi_ne (by decide), zi_ne (by decide), t3]
        show iN (i - (rwF T nP R i).2) = iN (i + 1 - ((rwF T nP R i).2 + 1))
        rw [show i + 1 - ((rwF T nP R i).2 + 1) = i - (rwF T nP R i).2 by omega]
  by_cases m3 : n % 3 = 0
  · obtain ⟨t, g1, g2⟩ := loop_to (body := fun v => s_X9_row_b35 (v.1) (v.2.1) (v.2.2.1) (v.2.2.2)) (fun i t => Ag S7 s t ∧ zi t 127 = (rwF T nP R i).1 ∧ zi t 125 11 = iN (i - (rwF T nP R i).2)) (fun t => Ag S7 s t ∧ zi t 127 = (rwF T nP R (n / 3)).1 ∧ zi t 125 11 = iN ((n + 2) / 3 - (rwF T nP R (n / 3)).2)) (fun i => (125, iN n, iN (rwF T nP R i).2, iN (3 * i))) (125, iN (rwF T nP R (n / 3)).2) (n / 3) (fun i t hi ht => body i t (hS.ag ht.1) hi ht) (fun t ht => by
      have f0 : iN n ≤ iN (3 * (n / 3)) := ((iN_le (by omega) (by omega)).mpr (by omega))
      refine ⟨t, by simp only [s_X9_row_b35, f0, z10', if_true, if_false, bind_ok, Option.bind_some, cb_some], ht.1, ht.2.1, ?_⟩
      rw [ht.2.2, show (n + 2) / 3 = n / 3 by omega]) (σ := s) ⟨Ag.refl, hR, h11⟩
    exact ⟨t, g1, g2⟩
  · obtain ⟨t, g1, g2⟩ := loop_to (body := fun v => s_X9_row_b35 (v.1) (v.2.1) (v.2.2.1) (v.2.2.2)) (fun i t => Ag S7 s t ∧ zi t 127 = (rwF T nP R (min i (n / 3))).1 ∧ zi t 125 11 = iN (i - (rwF T nP R (min i (n / 3))).2)) (fun t => Ag S7 s t ∧ zi t 127 = (rwF T nP R (n / 3)).1 ∧ zi t 125 11 = iN ((n + 2) / 3 - (rwF T nP R (n / 3)).2)) (fun i => (125, iN n, iN (rwF T nP R (min i (n / 3))).2, iN (3 * i))) (125, iN (rwF T nP R (n / 3)).2) (n / 3 + 1) (fun i t hi ht => by
      by_cases c : i < n / 3
      · rw [show min i (n / 3) = i by omega] at ht
        rw [show min i (n / 3) = i by omega, show min (i + 1) (n / 3) = i + 1 by omega]
        exact body i t (hS.ag ht.1) c ht
      · obtain rfl : i = n / 3 := by omega
        rw [show min (n / 3) (n / 3) = n / 3 by omega] at ht
        rw [show min (n / 3) (n / 3) = n / 3 by omega, show min (n / 3 + 1) (n / 3) = n / 3 by omega]
        have hSt := hS.ag ht.1
        have le := rwF_le (T := T) (nP := nP) (R := R) (n / 3)
        have x2 : iN (3 * (n / 3)) + 2 = iN (3 * (n / 3) + 2) := iN_add _ 2
        have x3 : iN (3 * (n / 3)) + 3 = iN (3 * (n / 3 + 1)) := iN_add _ 3
        have f0 : ¬ iN n ≤ iN (3 * (n / 3)) := (fun h => absurd ((iN_le (by omega) (by omega)).mp h) (by omega))
        have f1 : iN n ≤ iN (3 * (n / 3) + 2) := ((iN_le (by omega) (by omega)).mpr (by omega))
        have i11 := q_i125 (k := 11) hSt
        rw [ht.2.2] at i11
        have z2 : iN (n / 3 - (rwF T nP R (n / 3)).2) + 1 = iN (n / 3 + 1 - (rwF T nP R (n / 3)).2) := by
          rw [show (1 : Int32) = iN 1 from rfl, iN_add, show n / 3 - (rwF T nP R (n / 3)).2 + 1 = n / 3 + 1 - (rwF T nP R (n / 3)).2 by omega]
        have w11 := q_w125 (k := 11) (v := iN (n / 3 + 1 - (rwF T nP R (n / 3)).2)) hSt
        exact ⟨zsi t 125 11 (iN (n / 3 + 1 - (rwF T nP R (n / 3)).2)), by simp only [s_X9_row_b35, s_X9_row_j137, s_X9_row_j147, x2, x3, f0, f1, i11, z2, w11, z10', if_true, if_false, bind_ok, Option.bind_some, cb_some], ht.1.trans (Ag.zsi (Or.inr ⟨rfl, rfl⟩)), (zi_ne (by decide)).trans ht.2.1, zi_hit⟩) (fun t ht => by
      have f0 : iN n ≤ iN (3 * (n / 3 + 1)) := ((iN_le (by omega) (by omega)).mpr (by omega))
      rw [show min (n / 3 + 1) (n / 3) = n / 3 by omega] at ht
      refine ⟨t, by rw [show min (n / 3 + 1) (n / 3) = n / 3 by omega]; simp only [s_X9_row_b35, f0, z10', if_true, if_false, bind_ok, Option.bind_some, cb_some], ht.1, ht.2.1, ?_⟩
      rw [ht.2.2, show (n + 2) / 3 = n / 3 + 1 by omega]) (σ := s) ⟨Ag.refl, by rw [show min 0 (n / 3) = 0 by omega]; exact hR, by rw [show min 0 (n / 3) = 0 by omega]; exact h11⟩
    rw [show min 0 (n / 3) = 0 by omega] at g1
    exact ⟨t, g1, g2⟩
/-- what a read tape changes -/
def TR (a k : Nat) : Prop := (a = 98 ∧ k = 1) ∨ a = 5 ∨ (a = 0 ∧ (k = 16 ∨ k = 18)) ∨ (a = 125 ∧ (k = 0 ∨ k = 1 ∨ k = 11 ∨ k = 13)) ∨ (a = 127 ∧ 50 ≤ k ∧ k < 150)
theorem TR.parts {a k : Nat} (h : TR a k) : fDk a k = true ∧ fCW a = true ∧ fIm a = true ∧ a ≠ 124 ∧ a ≠ 126 ∧ a < 156 := by
  unfold TR at h
  have c2 : fCW a = true := by unfold fCW; simp; omega
  have c5 : fDk a k = true := by unfold fDk; simp; omega
  have c1 : fIm a = true := by unfold fIm fCr; simp; omega
  exact ⟨c5, c2, c1, by omega, by omega, by omega⟩
theorem zsi_id {s : Hp} {a k : Nat} {v : Int32} (h : zi s a k = v) : zsi s a k v = s := by
  have e : up2 (zi s) a k v = zi s := by
    funext x j
    by_cases c : x = a ∧ j = k
    · obtain ⟨rfl, rfl⟩ := c
      exact (if_pos ⟨rfl, rfl⟩).trans h.symm
    · exact if_neg c
  show (zn s, zk s, zl s, up2 (zi s) a k v, zj s, zr s) = s
  rw [e]
  rfl
def TR8 (a k : Nat) : Prop := (a = 98 ∧ k = 1) ∨ a = 5 ∨ (a = 0 ∧ (k = 16 ∨ k = 18))
def TR9 (a k : Nat) : Prop := (a = 125 ∧ (k = 0 ∨ k = 1 ∨ k = 11 ∨ k = 13)) ∨ (a = 127 ∧ 50 ≤ k ∧ k < 150)
theorem TR.l {a k : Nat} (h : TR8 a k) : TR a k := by unfold TR8 at h; unfold TR; omega
theorem TR.r {a k : Nat} (h : TR9 a k) : TR a k := by unfold TR9 at h; unfold TR; omega
theorem b_row (hr : Rel σ) : Both (s_X8_row 0) (s_X9_row 125) σ := by
  obtain ⟨⟨hS, ⟨n, hT⟩, hR, hM, hW, hD, hI⟩, nP, nF, nB, nT, nS, nL, B, m, hC, hU⟩ := id hr
  obtain ⟨hn, t1, t2, t3⟩ := hT
  have r5 := q_r0_5 hS
  have i98 := q_i98 (k := 1) hS
  rw [t1] at i98
  have w98 := q_w98 (k := 1) (v := 0) hS
  have S6 : SK (zsi σ 98 1 0) := hS
  have k8 := q_ck0 S6
  by_cases z : n = 0
  · subst z
    have z0 : iN 0 = (0 : Int32) := rfl
    have e98 : zsi σ 98 1 0 = σ := zsi_id t1
    rw [e98] at w98
    have k8 := q_ck0 hS
    have rf := ref8_6 hS
    have h8 : s_X8_row 0 σ = some (-6, zsi (zsi σ 0 18 (-6)) 124 4 (zi σ 124 4 + 1)) := by
      simp only [s_X8_row, r5, i98, w98, z0, k8, rf, z10', if_true, if_false, bind_ok, Option.bind_some, cb_some]
    have e13 : zi (zsi (zsi (zsi σ 0 18 (-6)) 124 4 (zi σ 124 4 + 1)) 125 0 0) 125 13 = 0 := by
      rw [zi_miss (by decide), zi_ne (by decide), zi_ne (by decide)]
      exact t2
    have e126 : zi (zsi (zsi (zsi σ 0 18 (-6)) 124 4 (zi σ 124 4 + 1)) 125 0 0) 126 6 = zi σ 126 6 := by
      rw [zi_ne (by decide), zi_ne (by decide), zi_ne (by decide)]
    have hb := hr.bad (s := -6) (x := 4) (y := 6) (z := zi σ 126 6 + 1) (by decide) rfl
    have S1 : SK (zsi (zsi σ 0 18 (-6)) 124 4 (zi σ 124 4 + 1)) := hS
    have w := q_w125 (k := 0) (v := 0) S1
    generalize zsi (zsi σ 0 18 (-6)) 124 4 (zi σ 124 4 + 1) = s1 at h8 e13 e126 hb S1 w
    have S2 : SK (zsi s1 125 0 0) := S1
    have i13 := q_i125 (k := 13) S2
    rw [e13] at i13
    have w13 := q_w125 (k := 13) (v := 0) S2
    rw [zsi_id e13] at w13
    have bk := q_ck125 S2
    have tl := tell9_6 S2
    rw [e126] at tl
    have h9 : s_X9_row 125 s1 = some (-6, zsi (zsi (zsi s1 125 0 0) 125 1 (-6)) 126 6 (zi σ 126 6 + 1)) := by
      simp only [s_X9_row, w, i13, w13, bk, tl, z10', if_true, if_false, bind_ok, Option.bind_some, cb_some]
    exact Both.mk h8 h9 hb (S1.2.1 125 (by decide)).1
  · have nz : ¬ iN n = 0 := fun q => z ((iN_inj (b := 0) (by omega) (by decide)).mp q)
    -- the bytes
    have hbt : ∃ T : Nat → Nat, (∀ i, i < 400 → T i < 256) ∧ ∀ i, i < 400 → zi σ 134 i = iN (T i) := by
      refine ⟨fun i => (zi σ 134 i).toNatClampNeg, fun i hi => ?_, fun i hi => ?_⟩
      · obtain ⟨v, h1, h2⟩ := (t3 i hi).2
        show (zi σ 134 i).toNatClampNeg < 256
        rw [h2, iN_nat (by omega)]
        omega
      · obtain ⟨v, h1, h2⟩ := (t3 i hi).2
        show zi σ 134 i = iN (zi σ 134 i).toNatClampNeg
        rw [h2, iN_nat (by omega)]
    obtain ⟨T, hb, hT134⟩ := hbt
    have hP := hC.1.1.1
    obtain ⟨s1, g1, g2, g3⟩ := loop8 S6 hC.1 (hC.2.1.other (Or.inr (by decide))) hn hb (T := T) (fun i hi => by
      rw [zi_ne (by decide), (t3 i hi).1]
      exact hT134 i hi)
    have le := rwF_le (T := T) (nP := nP) (R := zi σ 127) (n / 3)
    have S1 := S6.ag g2
    have a2 : iN n + 2 = iN (n + 2) := iN_add n 2
    have dv : iN (n + 2) / 3 = iN ((n + 2) / 3) := iN_div (b := 3) (by omega) (by decide)
    have sb : iN ((n + 2) / 3) - iN (rwF T nP (zi σ 127) (n / 3)).2 = iN ((n + 2) / 3 - (rwF T nP (zi σ 127) (n / 3)).2) := iN_sub (by omega)
    have w16 := q_w0 (k := 16) (v := iN ((n + 2) / 3 - (rwF T nP (zi σ 127) (n / 3)).2)) S1
    have Sx7 : SK (zsi s1 0 16 (iN ((n + 2) / 3 - (rwF T nP (zi σ 127) (n / 3)).2))) := S1
    have k8' := q_ck0 Sx7
    have gr := grant8 Sx7 (v := iN (rwF T nP (zi σ 127) (n / 3)).2)
    have h8 : s_X8_row 0 σ = some (iN (rwF T nP (zi σ 127) (n / 3)).2, zsi (zsi s1 0 16 (iN ((n + 2) / 3 - (rwF T nP (zi σ 127) (n / 3)).2))) 0 18 0) := by
      simp only [s_X8_row, r5, i98, w98, nz, g1, a2, dv, sb, w16, k8', gr, z10', if_true, if_false, bind_ok, Option.bind_some, cb_some]
    have E1 : Ag TR8 σ (zsi (zsi s1 0 16 (iN ((n + 2) / 3 - (rwF T nP (zi σ 127) (n / 3)).2))) 0 18 0) := (((Ag.zsi (S := TR8) (Or.inl ⟨rfl, rfl⟩)).trans (g2.mono (fun a k q => Or.inr (Or.inl q)))).trans (Ag.zsi (Or.inr (Or.inr ⟨rfl, Or.inl rfl⟩)))).trans (Ag.zsi (Or.inr (Or.inr ⟨rfl, Or.inr rfl⟩)))
    have v16 : zi (zsi (zsi s1 0 16 (iN ((n + 2) / 3 - (rwF T nP (zi σ 127) (n / 3)).2))) 0 18 0) 0 16 = iN ((n + 2) / 3 - (rwF T nP (zi σ 127) (n / 3)).2) := by rw [zi_miss (by decide), zi_hit]
    have v18 : zi (zsi (zsi s1 0 16 (iN ((n + 2) / 3 - (rwF T nP (zi σ 127) (n / 3)).2))) 0 18 0) 0 18 = 0 := zi_hit
    have v98 : zi (zsi (zsi s1 0 16 (iN ((n + 2) / 3 - (rwF T nP (zi σ 127) (n / 3)).2))) 0 18 0) 98 1 = 0 := by
      rw [zi_ne (by decide), zi_ne (by decide), (g2.2.2.2.2 98 1 (show ¬ ((98 : Nat) = 5) by decide)).1, zi_hit]
    have hH1 : HHm 1 (zsi (zsi s1 0 16 (iN ((n + 2) / 3 - (rwF T nP (zi σ 127) (n / 3)).2))) 0 18 0) (rwF T nP (zi σ 127) (n / 3)).1 := (g3.other (Or.inl (by decide))).other (Or.inl (by decide))
    have S8' : SK (zsi (zsi s1 0 16 (iN ((n + 2) / 3 - (rwF T nP (zi σ 127) (n / 3)).2))) 0 18 0) := S1
    generalize zsi (zsi s1 0 16 (iN ((n + 2) / 3 - (rwF T nP (zi σ 127) (n / 3)).2))) 0 18 0 = s2 at h8 E1 v16 v18 v98 hH1 S8'
    -- the reference
    have w := q_w125 (k := 0) (v := 0) S8'
    have T0 : SK (zsi s2 125 0 0) := S8'
    have i13 := q_i125 (k := 13) T0
    have c8 : ∀ a j, a ≠ 98 → a ≠ 5 → a ≠ 0 → zi s2 a j = zi σ a j := fun a j h1 h2 h3 => (E1.2.2.2.2 a j (by unfold TR8; omega)).1
    rw [zi_miss (by decide), c8 125 13 (by decide) (by decide) (by decide), t2] at i13
    have w13 := q_w125 (k := 13) (v := 0) T0
    have T1 : SK (zsi (zsi s2 125 0 0) 125 13 0) := S8'
    have w11 := q_w125 (k := 11) (v := 0) T1
    have T2 : SK (zsi (zsi (zsi s2 125 0 0) 125 13 0) 125 11 0) := S8'
    obtain ⟨t, x1, x2, x3, x4⟩ := loop9 T2 hC.1 (by
      rw [zi_ne (by decide), zi_ne (by decide), zi_ne (by decide)]
      exact funext fun j => c8 127 j (by decide) (by decide) (by decide)) zi_hit hn hb (T := T) (fun i hi => by
      rw [zi_ne (by decide), zi_ne (by decide), zi_ne (by decide), c8 134 i (by decide) (by decide) (by decide)]
      exact hT134 i hi)
    have T3 := T2.ag x2
    have bk := q_ck125 T3
    have tl := tell9 T3 (n := (rwF T nP (zi σ 127) (n / 3)).2) (by omega)
    have h9 : s_X9_row 125 s2 = some (iN (rwF T nP (zi σ 127) (n / 3)).2, zsi t 125 1 0) := by
      simp only [s_X9_row, w, i13, w13, nz, w11, x1, bk, tl, z10', if_true, if_false, bind_ok, Option.bind_some, cb_some]
    have E2 : Ag TR9 s2 (zsi t 125 1 0) := ((((Ag.zsi (S := TR9) (Or.inl ⟨rfl, Or.inl rfl⟩)).trans (Ag.zsi (Or.inl ⟨rfl, Or.inr (Or.inr (Or.inr rfl))⟩))).trans (Ag.zsi (Or.inl ⟨rfl, Or.inr (Or.inr (Or.inl rfl))⟩))).trans (x2.mono (fun a k q => by unfold S7 at q; unfold TR9; omega))).trans (Ag.zsi (Or.inl ⟨rfl, Or.inr (Or.inl rfl)⟩))
    have E : Ag TR σ (zsi t 125 1 0) := (E1.mono (fun _ _ q => TR.l q)).trans (E2.mono (fun _ _ q => TR.r q))
    have k9 : ∀ a j, a ≠ 125 → a ≠ 127 → zi (zsi t 125 1 0) a j = zi s2 a j := fun a j h1 h2 => (E2.2.2.2.2 a j (by unfold TR9; omega)).1
    have e127 : zi (zsi t 125 1 0) 127 = (rwF T nP (zi σ 127) (n / 3)).1 := (zi_ne (by decide)).trans x3
    have e11 : zi (zsi t 125 1 0) 125 11 = iN ((n + 2) / 3 - (rwF T nP (zi σ 127) (n / 3)).2) := (zi_miss (by decide)).trans x4
    have e13 : zi (zsi t 125 1 0) 125 13 = 0 := by
      rw [zi_miss (by decide), (x2.2.2.2.2 125 13 (by unfold S7; omega)).1, zi_miss (by decide), zi_hit]
    have e1 : zi (zsi t 125 1 0) 125 1 = 0 := zi_hit
    have k125 : ∀ j, j ≠ 0 → j ≠ 1 → j ≠ 11 → j ≠ 13 → zi (zsi t 125 1 0) 125 j = zi σ 125 j := fun j h1 h2 h3 h4 => by
      rw [(E2.2.2.2.2 125 j (by unfold TR9; omega)).1]
      exact c8 125 j (by decide) (by decide) (by decide)
    have kk : ∀ a j, a ≠ 125 → a ≠ 127 → a ≠ 98 → a ≠ 5 → a ≠ 0 → zi (zsi t 125 1 0) a j = zi σ a j := fun a j h1 h2 h3 h4 h5 => (k9 a j h1 h2).trans (c8 a j h3 h4 h5)
    have k0 : ∀ j, j ≠ 16 → j ≠ 18 → zi (zsi t 125 1 0) 0 j = zi σ 0 j := fun j h1 h2 => by
      rw [k9 0 j (by decide) (by decide)]
      exact (E1.2.2.2.2 0 j (by unfold TR8; omega)).1
    generalize zsi t 125 1 0 = tf at h9 E k9 e127 e11 e13 e1 k125 kk k0
    refine Both.mk h8 h9 ⟨⟨hS.ag E, ⟨0, by omega, ?_, e13, fun i hi => ?_⟩, ?_, ⟨?_, ?_, ?_, ?_⟩, hW.gg E (fun _ _ q => q.parts.2.1), hD.gg E (fun _ _ q => q.parts.1), hI.gg E (fun _ _ q => q.parts.2.2.1)⟩, nP, nF, nB, nT, nS, nL, B, m, ?_, ?_⟩ (S8'.2.1 125 (by decide)).1
    · exact (k9 98 1 (by decide) (by decide)).trans v98
    · rw [kk 99 i (by decide) (by decide) (by decide) (by decide) (by decide), kk 134 i (by decide) (by decide) (by decide) (by decide) (by decide)]
      exact t3 i hi
    · exact hR.of (((k9 0 18 (by decide) (by decide)).trans v18).trans e1.symm) (funext fun j => kk 124 j (by decide) (by decide) (by decide) (by decide) (by decide)) (funext fun j => kk 126 j (by decide) (by decide) (by decide) (by decide) (by decide))
    · exact ((k9 0 16 (by decide) (by decide)).trans v16).trans e11.symm
    · rw [k0 15 (by decide) (by decide), k125 18 (by decide) (by decide) (by decide) (by decide)]
      exact hM.2.1
    · rw [k0 17 (by decide) (by decide), k125 52 (by decide) (by decide) (by decide) (by decide)]
      exact hM.2.2.1
    · rw [k125 20 (by decide) (by decide) (by decide) (by decide)]
      exact hM.2.2.2
    · rw [e127]
      refine ⟨rwF_wf hC.1 _, hH1.congr (fun o ho => funext fun j => k9 _ j (by omega) (by omega)), hC.2.2.1.td (fun i hi => rwF_ne hP (by omega) _), fun j hj => ?_⟩
      obtain ⟨x, q1, q2⟩ := hC.2.2.2 j hj
      exact ⟨x, by rw [E.2.2.2.1]; exact q1, q2.same (Nat.le_of_eq E.1.symm) (fun a ha _ => ⟨by rw [E.2.1], by rw [E.2.2.1], by rw [E.2.2.2.1], funext fun k => (E.2.2.2.2 a k (fun q => by have := q.parts.2.2.2.2.2; omega)).1⟩)⟩
    · exact hU.row (kk 109 1 (by decide) (by decide) (by decide) (by decide) (by decide)) (k125 8 (by decide) (by decide) (by decide) (by decide)) (funext fun j => kk 110 j (by decide) (by decide) (by decide) (by decide) (by decide)) (funext fun j => kk 131 j (by decide) (by decide) (by decide) (by decide) (by decide)) (funext fun j => kk 130 j (by decide) (by decide) (by decide) (by decide) (by decide)) e127 (fun i h1 h2 => rwF_ne hP (by omega) _)
end V37
