/-! ===== the reference's reader: tests ===== -/
section RTE
variable {σ : Hp} {tb : Nat → Nat} {L nT k b q c n o : Nat} {lw : Bool} {tst : Int32}
theorem rs_emit2 (h : RS tb L nT lw k b q c n o σ) {b1 : Nat} (hw : c + 1 + wtF (zi σ 138) n ≤ b1) (hn : n ≤ b1) (hb : b1 ≤ nT) (op ar : Int32) : ∃ σ1, s_X9_emit 125 op ar σ = some ((), σ1) ∧ Ag (Sm9 c n) σ σ1 ∧ RS tb L nT lw k b1 q (c + 1) n o σ1 ∧ zi σ1 136 = up (zi σ 136) c op ∧ zi σ1 137 = up (zi σ 137) c ar ∧ zi σ1 138 = zi σ 138 ∧ zi σ1 139 = zi σ 139 := by
  have hl := h.le
  obtain ⟨g1, g2, g3, g4, g5, g6, g7, g8, g9, g10, g11⟩ := h
  have p := emit9 g1.1 g5 (by omega) op ar
  have e : Ag (Sm9 c n) σ (zsi (zsi (zsi σ 136 c op) 137 c ar) 125 23 (iN (c + 1))) := ((Ag.zsi (by unfold Sm9; omega)).trans (Ag.zsi (by unfold Sm9; omega))).trans (Ag.zsi (by unfold Sm9; omega))
  have e2 : Ag (fun a j => (a = 125 ∧ j = 23) ∨ (136 ≤ a ∧ a ≤ 137)) σ (zsi (zsi (zsi σ 136 c op) 137 c ar) 125 23 (iN (c + 1))) := ((Ag.zsi (by omega)).trans (Ag.zsi (by omega))).trans (Ag.zsi (by omega))
  have v23 : zi (zsi (zsi (zsi σ 136 c op) 137 c ar) 125 23 (iN (c + 1))) 125 23 = iN (c + 1) := zi_hit
  have v136 : zi (zsi (zsi (zsi σ 136 c op) 137 c ar) 125 23 (iN (c + 1))) 136 = up (zi σ 136) c op := by rw [zi_ne (by decide), zi_ne (by decide), zi_up]
  have v137 : zi (zsi (zsi (zsi σ 136 c op) 137 c ar) 125 23 (iN (c + 1))) 137 = up (zi σ 137) c ar := by rw [zi_ne (by decide), zi_up, zi_ne (by decide)]
  have v138 : zi (zsi (zsi (zsi σ 136 c op) 137 c ar) 125 23 (iN (c + 1))) 138 = zi σ 138 := by rw [zi_ne (by decide), zi_ne (by decide), zi_ne (by decide)]
  have v139 : zi (zsi (zsi (zsi σ 136 c op) 137 c ar) 125 23 (iN (c + 1))) 139 = zi σ 139 := by rw [zi_ne (by decide), zi_ne (by decide), zi_ne (by decide)]
  generalize zsi (zsi (zsi σ 136 c op) 137 c ar) 125 23 (iN (c + 1)) = σ1 at p e e2 v23 v136 v137 v138 v139
  have g : ∀ j, j ≠ 23 → zi σ1 125 j = zi σ 125 j := fun j hj => (e2.2.2.2.2 125 j (by omega)).1
  exact ⟨σ1, p, e, ⟨g1.ag e2 (fun a k z => by omega), by rw [g 19 (by omega)]; exact g2, by rw [g 20 (by omega)]; exact g3, by rw [g 26 (by omega)]; exact g4, v23, by rw [g 29 (by omega)]; exact g6, by rw [g 30 (by omega)]; exact g7, g8.congr (fun i _ => by rw [v138, v139]; exact ⟨rfl, rfl⟩), by rw [v138]; omega, hn, hb⟩, v136, v137, v138, v139⟩
/-- within a test, or within round brackets -/
def InT (tst : Int32) (n : Nat) (σ : Hp) : Prop := innN (zi σ 138) n ≠ 32 ∧ (innN (zi σ 138) n = -1 → tst ≠ 0)
theorem innN_congr {po po1 : Nat → Int32} : ∀ n, (∀ i, i < n → po1 i = po i) → innN po1 n = innN po n
  | 0, _ => rfl
  | n + 1, h => by
    show (if po1 n < 31 then innN po1 n else po1 n) = (if po n < 31 then innN po n else po n)
    rw [h n (by omega), innN_congr n (fun i hi => h i (by omega))]
theorem RdL_01 (hS : SK σ) (h : zi σ 125 19 = 0) (e : s_X9_readPlain 125 σ = s_X9_readPart 125 σ) : RdL tst 0 σ = RdL tst 1 σ := by
  have i19 := q_i125 (k := 19) hS
  rw [h] at i19
  have bk := q_ck125 hS
  have b : s_X9_readExpression_b20 125 tst 0 σ = s_X9_readExpression_b20 125 tst 1 σ := by
    simp only [s_X9_readExpression_b20, i19, bk, e, (show ¬ (0 : Int32) = 4 by decide), (show ¬ (1 : Int32) = 4 by decide), z10', bos, if_true, if_false]
  show loopF (fun v => s_X9_readExpression_b20 (v.1) (v.2.1) (v.2.2)) (125, tst, 0) σ = loopF (fun v => s_X9_readExpression_b20 (v.1) (v.2.1) (v.2.2)) (125, tst, 1) σ
  rw [loopF_unf, loopF_unf]
  show (s_X9_readExpression_b20 125 tst 0 σ).bind _ = (s_X9_readExpression_b20 125 tst 1 σ).bind _
  rw [b]
theorem ntF_end {kd : Nat → Nat} {nT : Nat} (hE : kd nT = 258) : ∀ (m k : Nat), nT ≤ k + m → k ≤ nT → kd (k + ntF kd m k) ≠ 306
  | 0, k, h1, h2 => by
    have e : k = nT := by omega
    show kd (k + 0) ≠ 306
    rw [Nat.add_zero, e, hE]
    decide
  | m + 1, k, h1, h2 => by
    by_cases c : kd k = 306
    · have hk := kd_lt hE h2 c (by decide)
      have e : ntF kd (m + 1) k = ntF kd m (k + 1) + 1 := if_pos c
      rw [e, show k + (ntF kd m (k + 1) + 1) = k + 1 + ntF kd m (k + 1) by omega]
      exact ntF_end hE m (k + 1) (by omega) (by omega)
    · have e : ntF kd (m + 1) k = 0 := if_neg c
      rw [e]
      exact c
theorem nots9 : ∀ (m k nn : Nat) (σ : Hp), nT ≤ k + m → RS tb L nT lw k k q c nn o σ → ∃ σ1, RdL tst 0 σ = RdL tst 0 σ1 ∧ Ag (Sm9 c nn) σ σ1 ∧ RS tb L nT lw (k + ntF (kdN tb L) m k) (k + ntF (kdN tb L) m k) q c (nn + ntF (kdN tb L) m k) o σ1 ∧ ∀ i, nn ≤ i → i < nn + ntF (kdN tb L) m k → zi σ1 138 i = 28
  | 0, k, nn, σ, hm, h => ⟨σ, rfl, Ag.refl, h, fun i h1 h2 => by
      have : i < nn + 0 := h2
      omega⟩
  | m + 1, k, nn, σ, hm, h => by
    by_cases c1 : kdN tb L k = 306
    · have hk := h.1.lt c1 (by decide)
      have hle := h.le
      have bk := q_ck125 h.1.1
      have w := isw9 h.1 (w := 6) (by decide)
      rw [decide_eq_true c1] at w
      have w : s_X9_isWord 125 14836 σ = some (1, σ) := w
      obtain ⟨σ2, pu, e2, h2, y1, y2, y3, y4, y5⟩ := h.push (ob := 28) (a := 0) (by decide) (by decide) (fun z => by omega) (by omega)
      have pu : s_X9_push 125 28 0 σ = _ := pu
      have bk2 := q_ck125 h2.1.1
      obtain ⟨σ3, nx, e3, h3⟩ := h2.next hk
      have r : s_X9_readPlain 125 σ = some (0, σ3) := by
        simp only [s_X9_readPlain, bk, w, pu, bk2, nx, z10', bos, cbs, if_false]
      obtain ⟨σ4, x1, x2, x3, x4⟩ := nots9 m (k + 1) (nn + 1) σ3 (by omega) h3
      have e : ntF (kdN tb L) (m + 1) k = ntF (kdN tb L) m (k + 1) + 1 := if_pos c1
      rw [e]
      refine ⟨σ4, (RdL_plain h.1.1 h.2.1 r).trans x1, (e2.trans (e3.mono (fun a j z => z.sm))).trans (x2.mono (fun a j z => z.mono (Nat.le_refl _) (by omega))), ?_, fun i z1 z2 => ?_⟩
      · rw [show k + (ntF (kdN tb L) m (k + 1) + 1) = k + 1 + ntF (kdN tb L) m (k + 1) by omega, show nn + (ntF (kdN tb L) m (k + 1) + 1) = nn + 1 + ntF (kdN tb L) m (k + 1) by omega]
        exact x3
      · by_cases z : i = nn
        · rw [z, (x2.2.2.2.2 138 nn (by unfold Sm9; omega)).1, (e3.2.2.2.2 138 nn (by unfold Sn9; omega)).1, y1]
          rfl
        · exact x4 i (by omega) (by omega)
    · have e : ntF (kdN tb L) (m + 1) k = 0 := if_neg c1
      rw [e]
      exact ⟨σ, rfl, Ag.refl, h, fun i h1 h2 => by omega⟩
theorem notS_in {t : Nat} {a : Sem} (h : isB a) : notS t (negS a) = notS (t + 1) a := by
  rw [← notS_s h]
  unfold notS
  by_cases c : t % 2 = 1
  · rw [if_pos c, if_pos c]
  · rw [if_neg c, if_neg c]
theorem nots_seg {po pa : Nat → Int32} {n0 c0 q1 : Nat} {lf : Lf} : ∀ (t : Nat) (x : Cd) (a : Sem), isB a → (∀ i, n0 ≤ i → i < n0 + t → po i = 28) → RSeg x.1 x.2.1 lf c0 x.2.2 q1 a → RSeg (setN1 po pa n0 t x).1 (setN1 po pa n0 t x).2.1 lf c0 (setN1 po pa n0 t x).2.2 q1 (notS t a)
  | 0, x, a, _, _, h => h
  | t + 1, x, a, hb, hp, h => by
    have e : set1 (po (n0 + t)) (pa (n0 + t)) x = (up x.1 x.2.2 28, up x.2.1 x.2.2 0, x.2.2 + 1) := by
      unfold set1
      rw [hp (n0 + t) (by omega) (by omega), if_neg (by decide)]
    show RSeg (setN1 po pa n0 t (set1 (po (n0 + t)) (pa (n0 + t)) x)).1 (setN1 po pa n0 t (set1 (po (n0 + t)) (pa (n0 + t)) x)).2.1 lf c0 (setN1 po pa n0 t (set1 (po (n0 + t)) (pa (n0 + t)) x)).2.2 q1 _
    rw [e, ← notS_in hb]
    refine nots_seg t _ (negS a) isB_neg (fun i h1 h2 => hp i h1 (by omega)) ?_
    exact r_not (h.congr (fun y _ h2 => ⟨up_ne (by omega), up_ne (by omega)⟩)) hb up_eq
theorem cmp_up {po : Nat → Int32} {n : Nat} : ∀ t, (∀ i, n ≤ i → i < n + t → po i < 25) → cmpN po (n + t) = cmpN po n
  | 0, _ => rfl
  | t + 1, h => by
    show (if po (n + t) < 25 then cmpN po (n + t) else _) = _
    rw [if_pos (h (n + t) (by omega) (by omega))]
    exact cmp_up t (fun i h1 h2 => h i h1 (by omega))
theorem Pnd.lt25 {c0 t : Nat} (h : Pnd 5 c0 n t σ) : ∀ i, n ≤ i → i < n + t → zi σ 138 i < 25 := fun i h1 h2 => by
  obtain ⟨o, a1, a2, a3, a4, -⟩ := h i h1 h2
  rw [a3]
  refine (iN_lt (b := 25) (by omega) (by decide)).mpr ?_
  unfold bndN at a4
  apply Classical.byContradiction
  intro z
  split at a4
  · omega
  · split at a4
    · omega
    · split at a4
      · omega
      · split at a4
        · omega
        · split at a4
          · omega
          · omega
/-- it ends where neither 'and' nor 'or' stands -/
def EndT (kd : Nat → Nat) (f : Nat → Nat → Res) : Prop := ∀ k q k1 q1 a, f k q = (k1, q1, some a) → kd k1 ≠ 305 ∧ kd k1 ≠ 304
theorem sgn9 (h : RT tb L nT k σ) {d : Nat} (hc : d < 256) (hc0 : clsN d = 0) : (kdN tb L k = d → s_X9_isSign 125 (iN d) σ = some (1, σ)) ∧ (kdN tb L k ≠ d → s_X9_isSign 125 (iN d) σ = some (0, σ)) := by
  have s := iss9 h hc hc0
  exact ⟨fun e => by rw [s, decide_eq_true e]; rfl, fun e => by rw [s, decide_eq_false e]; rfl⟩
theorem wrd9 (h : RT tb L nT k σ) {w : Nat} (hw : w < 28) : (kdN tb L k = 300 + w → s_X9_isWord 125 (jN (kwN w)) σ = some (1, σ)) ∧ (kdN tb L k ≠ 300 + w → s_X9_isWord 125 (jN (kwN w)) σ = some (0, σ)) := by
  have s := isw9 h hw
  exact ⟨fun e => by rw [s, decide_eq_true e]; rfl, fun e => by rw [s, decide_eq_false e]; rfl⟩
/-- behind a sum that is not within square brackets, in a test -/
theorem bsum9 (h : RS tb L nT lw k b q c n o σ) (e1 : sumO (kdN tb L k) = none) (e2 : termO (kdN tb L k) = none) (hi : InT tst n σ) : s_X9_behindSum 125 tst σ = s_X9_behindSum_j163 125 σ := by
  have bs := behindSum9 (tst := tst) h.1
  have hbp : bopN (kdN tb L k) = -1 := by
    unfold bopN
    rw [e1, e2]
  rw [hbp] at bs
  have hle := h.le
  have inn := inner9 h.1.1 h.2.2.2.2.2.1 (by have := h.2.2.2.2.2.2.2.2.2.1; have := h.2.2.2.2.2.2.2.2.2.2; omega)
  have bk := q_ck125 h.1.1
  rw [bs]
  obtain ⟨i1, i2⟩ := hi
  generalize innN (zi σ 138) n = v at inn i1 i2
  by_cases z : v = -1
  · have t0 := i2 z
    have q32 : ¬ (-1 : Int32) = 32 := by decide
    subst z
    simp only [s_X9_behindSum_j71, bk, inn, q32, t0, bos, cbs, if_true, if_false]
  · simp only [s_X9_behindSum_j71, bk, inn, i1, z, bos, cbs, if_true, if_false]
theorem plain9 {g : Option (Nat → Nat → Res)} {s : Nat → Nat → Res} (ho : o ≤ 8) (hn : g = none → o = 8) (hg : ∀ g', g = some g' → o < 8 ∧ RFn tb L nT lw tst 0 2 1 1 (InT tst) (o + 1) g' ∧ EndT (kdN tb L) g' ∧ Good nT true g') (hs : RFn tb L nT lw tst 1 3 5 5 noC o s) (hsE : EndS (kdN tb L) s) (hsG : Good nT false s) : RFn tb L nT lw tst 0 2 3 3 (InT tst) o (plainP (kdN tb L) nT g s) := by
  intro k q c n σ h hq hK hC
  have hle := h.le
  have hE := h.1.kE
  obtain ⟨σ1, L1, e1, h1, p28⟩ := nots9 (tst := tst) nT k n σ (by omega) h
  have hne := ntF_end hE nT k (by omega) (by omega)
  show RRes tb L nT lw tst 0 2 3 c n σ q o (bindR (plain0 (kdN tb L) g s (k + ntF (kdN tb L) nT k) q) fun k1 q1 a => (k1, q1, some (notS (ntF (kdN tb L) nT k) a)))
  generalize ntF (kdN tb L) nT k = t at h1 p28 hne
  have hle1 := h1.le
  have bk1 := q_ck125 h1.1.1
  have wn := (wrd9 h1.1 (w := 6) (by decide)).2 hne
  have wn : s_X9_isWord 125 14836 σ1 = some (0, σ1) := wn
  -- what lies on the pile before
  have in1 : innN (zi σ1 138) (n + t) = innN (zi σ 138) n := by
    rw [inn_up t (fun i z1 z2 => by rw [p28 i z1 z2]; decide)]
    exact innN_congr n (fun i hi => (e1.2.2.2.2 138 i (by unfold Sm9; omega)).1)
  have K1 : KB 3 n σ1 := hK.congr (fun i hi => (e1.2.2.2.2 138 i (by unfold Sm9; omega)).1)
  have K4 : KB 4 (n + t) σ1 := by
    by_cases z : t = 0
    · subst z
      exact K1.mono (by decide)
    · exact Or.inr ⟨28, by decide, by decide, by rw [p28 (n + t - 1) (by omega) (by omega)]; rfl, by decide⟩
  have cmp0 : cmpN (zi σ1 138) (n + t) = false := by
    rcases K4 with z | ⟨oo, a1, a2, a3, a4⟩
    · rw [z]
      rfl
    · have hpos : 0 < n + t ∨ n + t = 0 := by omega
      rcases hpos with hp | hp
      · have o28 : 28 ≤ oo := by
          unfold bndN at a4
          apply Classical.byContradiction
          intro z
          rw [if_neg (by omega), if_neg (by omega), if_neg (by omega), if_neg (by omega)] at a4
          split at a4
          · omega
          · split at a4 <;> omega
        have e : cmpN (zi σ1 138) (n + t - 1 + 1) = false := by
          show (if zi σ1 138 (n + t - 1) < 25 then _ else decide (zi σ1 138 (n + t - 1) < 28)) = false
          rw [a3, if_neg (fun z => by have := (iN_lt (b := 25) (by omega) (by decide)).mp z; omega)]
          exact decide_eq_false (fun z => by have := (iN_lt (b := 28) (by omega) (by decide)).mp z; omega)
        rwa [show n + t - 1 + 1 = n + t by omega] at e
      · rw [hp]
        rfl
  by_cases c1 : kdN tb L (k + t) = 40
  · have hk := h1.1.lt c1 (by decide)
    have s40 := (sgn9 h1.1 (d := 40) (by decide) (by decide)).1 c1
    have s40 : s_X9_isSign 125 40 σ1 = some (1, σ1) := s40
    have eP : plain0 (kdN tb L) g s (k + t) q = brP (kdN tb L) 41 g (k + t) q := if_pos c1
    rw [eP]
    cases g with
    | none =>
      have op := open9_f (ob := 31) h1 (by have := hn rfl; omega) (by omega)
      obtain ⟨-, fb, fe⟩ := h1.fail
      have r : s_X9_readPlain 125 σ1 = some (0, badH tb L (k + t) σ1) := by
        simp only [s_X9_readPlain, bk1, wn, s40, op, z10', bos, cbs, if_true, if_false]
      exact RRes.bad (L1.trans (RdL_plain h1.1.1 h1.2.1 r)) (e1.trans (fe.mono (fun a j z => z.mono (Nat.le_refl _) (by omega)))) fb
    | some g' =>
      obtain ⟨h8, hgF, hgE, hgG⟩ := hg g' rfl
      obtain ⟨σ3, op, e3, h3, y1, y2, y3, y4⟩ := open9_t (ob := 31) h1 hk h8 (by decide) (by decide)
      have op : s_X9_openBracket 125 31 σ1 = _ := op
      have r : s_X9_readPlain 125 σ1 = some (0, σ3) := by
        simp only [s_X9_readPlain, bk1, wn, s40, op, z10', bos, cbs, if_true, if_false]
      have L2 := RdL_plain (tst := tst) h1.1.1 h1.2.1 r
      have i31 : innN (zi σ3 138) (n + t + 1) = 31 := by
        show (if zi σ3 138 (n + t) < 31 then _ else zi σ3 138 (n + t)) = 31
        rw [y1]
        rfl
      have hr := hgF (k + t + 1) q c (n + t + 1) σ3 h3 hq (Or.inr ⟨31, by decide, by decide, y1, by decide⟩) ⟨by rw [i31]; decide, fun z => by rw [i31] at z; exact absurd z (by decide)⟩
      have hgd := hgG (k + t + 1) q (by omega) hq
      show RRes tb L nT lw tst 0 2 3 c n σ q o (bindR (bindR (g' (k + t + 1) q) _) _)
      generalize hge : g' (k + t + 1) q = res at hr hgd
      obtain ⟨k1, q1, oa⟩ := res
      have e13 : Ag (Sm9 c n) σ σ3 := e1.trans (e3.mono (fun a j z => z.mono (Nat.le_refl _) (by omega)))
      cases oa with
      | none =>
        obtain ⟨σ4, x1, x2, x3⟩ := hr
        exact ⟨σ4, (L1.trans L2).trans x1, e13.trans (x2.mono (fun a j z => z.mono (Nat.le_refl _) (by omega))), x3⟩
      | some a =>
        obtain ⟨σ4, c4, t4, x1, x2, x3, x4, x5, x6⟩ := hr
        obtain ⟨en1, en2⟩ := hgE _ _ _ _ _ hge
        have hk1 : k1 ≤ nT := hgd.2.1
        have hab : isB a := (hgd.2.2 a rfl).2.2.2 rfl
        have e14 : Ag (Sm9 c n) σ σ4 := e13.trans (x2.mono (fun a j z => z.mono (Nat.le_refl _) (by omega)))
        have bk4 := q_ck125 x3.1.1
        have w5 := (wrd9 x3.1 (w := 5) (by decide)).2 en1
        have w5 : s_X9_isWord 125 1476 σ4 = some (0, σ4) := w5
        have w4 := (wrd9 x3.1 (w := 4) (by decide)).2 en2
        have w4 : s_X9_isWord 125 498 σ4 = some (0, σ4) := w4
        have p31 : zi σ4 138 (n + t) = 31 := by
          rw [(x2.2.2.2.2 138 (n + t) (by unfold Sm9; omega)).1, y1]
          rfl
        have inn := inner9 x3.1.1 x3.2.2.2.2.2.1 (by have := x3.2.2.2.2.2.2.2.2.2.1; have := x3.le; omega)
        have e31 : innN (zi σ4 138) (n + t + 1 + t4) = 31 := by
          rw [inn_up t4 x5.lt31]
          show (if zi σ4 138 (n + t) < 31 then _ else zi σ4 138 (n + t)) = 31
          rw [p31]
          rfl
        rw [e31] at inn
        have nm1 : ¬ (31 : Int32) = -1 := by decide
        show RRes tb L nT lw tst 0 2 3 c n σ q o (bindR (if kdN tb L k1 = 41 then (k1 + 1, q1, some a) else (k1, q1, none)) _)
        by_cases c2 : kdN tb L k1 = 41
        · rw [if_pos c2]
          have s41 := (sgn9 x3.1 (d := 41) (by decide) (by decide)).1 c2
          have s41 : s_X9_isSign 125 41 σ4 = some (1, σ4) := s41
          have hk1l := x3.1.lt c2 (by decide)
          obtain ⟨σ5, m5, e5, h5⟩ := x3.must hk1l
          have i19 := q_i125 (k := 19) h5.1.1
          rw [h5.2.1] at i19
          have bk5 := q_ck125 h5.1.1
          have z5 : ∀ a, a ≠ 125 → zi σ5 a = zi σ4 a := fun a ha => funext fun i => (e5.2.2.2.2 a i (by unfold Sn9; omega)).1
          have K5 : KB 1 (n + t + 1) σ5 := Or.inr ⟨31, by decide, by decide, by rw [z5 138 (by decide)]; exact p31, by decide⟩
          have P5 : Pnd 1 c (n + t + 1) t4 σ5 := x5.congr (fun i _ _ => by rw [z5 138 (by decide), z5 139 (by decide)]; exact ⟨rfl, rfl⟩)
          obtain ⟨σ6, c6, st, e6, h6, hc6, eq6, z138, z139⟩ := h5.settle (least := 1) (by decide) P5 K5 x4
          have st : s_X9_settle 125 1 σ5 = _ := st
          have i29 := q_i125 (k := 29) h6.1.1
          rw [h6.2.2.2.2.2.1] at i29
          obtain ⟨w29, e7, h7, v1, v2, v3, v4⟩ := h6.pop
          generalize zsi σ6 125 29 (iN (n + t)) = σ7 at w29 e7 h7 v1 v2 v3 v4
          have i30 := q_i125 (k := 30) h7.1.1
          rw [h7.2.2.2.2.2.2.1] at i30
          have d30 : iN (o + 1) - 1 = iN o := iN_sub (b := 1) (by omega)
          have w30 := q_w125 (k := 30) (v := iN o) h7.1.1
          obtain ⟨e8, h8', u1, u2, u3, u4⟩ := h7.set (j := 30) (v := iN o) (Or.inr rfl)
          have h8 := h8' q1 o (fun z => by cases z) (fun _ => ⟨rfl, rfl⟩)
          generalize zsi σ7 125 30 (iN o) = σ8 at w30 e8 h8 u1 u2 u3 u4
          have r2 : s_X9_behindTest 125 σ4 = some (2, σ8) := by
            simp only [s_X9_behindTest, bk4, w5, w4, inn, nm1, s41, m5, i19, bk5, st, i29, w29, i30, d30, w30, bos, cbs, if_true, if_false]
          have L3 := RdL_test (tst := tst) x3.1.1 x3.2.1 r2
          have key : setN1 (zi σ4 138) (zi σ4 139) (n + t + 1) t4 (zi σ4 136, zi σ4 137, c4) = (zi σ8 136, zi σ8 137, c6) := by
            rw [z5 136 (by decide), z5 137 (by decide), z5 138 (by decide), z5 139 (by decide)] at eq6
            rw [← eq6, u1, u2, v1, v2]
          rw [key] at x6
          have q138 : ∀ i, n ≤ i → i < n + t → zi σ8 138 i = 28 := fun i z1 z2 => by
            rw [u3, v3, z138, z5 138 (by decide), (x2.2.2.2.2 138 i (by unfold Sm9; omega)).1, y2 i (by omega)]
            exact p28 i z1 z2
          refine ⟨σ8, c6, t, ((L1.trans L2).trans x1).trans L3, (((e14.trans (e5.mono (fun a j z => z.sm))).trans (e6.mono (fun a j z => z.mono (Nat.le_refl _) (by omega)))).trans (e7.mono (fun a j z => z.mono (by omega) (by omega)))).trans (e8.mono (fun a j z => z.mono (by omega) (by omega))), h8.up (by omega) (Nat.le_refl _), by omega, fun i z1 z2 => ⟨28, by decide, by decide, q138 i z1 z2, by decide, fun z => by omega⟩, ?_⟩
          exact nots_seg t (zi σ8 136, zi σ8 137, c6) a hab q138 x6
        · rw [if_neg c2]
          have s41 := (sgn9 x3.1 (d := 41) (by decide) (by decide)).2 c2
          have s41 : s_X9_isSign 125 41 σ4 = some (0, σ4) := s41
          obtain ⟨m5, b5, e5⟩ := x3.fail
          have i19 := q_i125 (k := 19) b5.1
          rw [b5.2.1] at i19
          have r2 : s_X9_behindTest 125 σ4 = some (2, badH tb L k1 σ4) := by
            simp only [s_X9_behindTest, bk4, w5, w4, inn, nm1, s41, m5, i19, z10', bos, cbs, if_true, if_false]
          exact RRes.bad (((L1.trans L2).trans x1).trans (RdL_test x3.1.1 x3.2.1 r2)) (e14.trans (e5.mono (fun a j z => z.mono (by omega) (by omega)))) b5
  · have s40 := (sgn9 h1.1 (d := 40) (by decide) (by decide)).2 c1
    have s40 : s_X9_isSign 125 40 σ1 = some (0, σ1) := s40
    have eP : plain0 (kdN tb L) g s (k + t) q = bindR (s (k + t) q) fun k1 q1 a => match cmpO (kdN tb L k1) with
      | none => (k1, q1, none)
      | some o => bindR (s (k1 + 1) q1) fun k2 q2 b => (k2, q2, some (cmbS o a b)) := if_neg c1
    rw [eP]
    have rpl : s_X9_readPlain 125 σ1 = s_X9_readPart 125 σ1 := by
      simp only [s_X9_readPlain, bk1, wn, s40, bos, cbs, if_true]
      unfold cb
      cases s_X9_readPart 125 σ1 with
      | none => rfl
      | some p => rfl
    have L2 := RdL_01 (tst := tst) h1.1.1 h1.2.1 rpl
    have hr := hs (k + t) q c (n + t) σ1 h1 hq (K4.mono (by decide)) trivial
    have hgd := hsG (k + t) q (by omega) hq
    generalize hge : s (k + t) q = res at hr hgd
    obtain ⟨k1, q1, oa⟩ := res
    cases oa with
    | none =>
      obtain ⟨σ4, x1, x2, x3⟩ := hr
      exact ⟨σ4, (L1.trans L2).trans x1, e1.trans (x2.mono (fun a j z => z.mono (Nat.le_refl _) (by omega))), x3⟩
    | some a =>
      obtain ⟨σ4, c4, t4, x1, x2, x3, x4, x5, x6⟩ := hr
      obtain ⟨en1, en2⟩ := hsE _ _ _ _ _ hge
      have hk1 : k1 ≤ nT := hgd.2.1
      obtain ⟨hk1b, hq1, hq1b, -⟩ := hgd.2.2 a rfl
      have hk1b : k + t < k1 := hk1b
      have hq1 : q < q1 := hq1
      have hq1b : q1 ≤ 50 := hq1b
      have e14 : Ag (Sm9 c n) σ σ4 := e1.trans (x2.mono (fun a j z => z.mono (Nat.le_refl _) (by omega)))
      have low4 : ∀ i, i < n + t → zi σ4 138 i = zi σ1 138 i := fun i hi => (x2.2.2.2.2 138 i (by unfold Sm9; omega)).1
      have inT4 : InT tst (n + t + t4) σ4 := by
        unfold InT
        rw [inn_up t4 x5.lt31, innN_congr (n + t) low4, in1]
        exact hC
      have bs := bsum9 x3 en1 en2 inT4
      have hle4 := x3.le
      have b4 := x3.2.2.2.2.2.2.2.2.2.1
      have cm := isCmp9 x3.1.1 x3.2.2.2.2.2.1 x3.2.2.2.2.2.2.2.1 (by omega)
      have cmpc : ∀ {po po1 : Nat → Int32} (m : Nat), (∀ i, i < m → po1 i = po i) → cmpN po1 m = cmpN po m := by
        intro po po1 m
        induction m with
        | zero => intro _; rfl
        | succ m ih =>
          intro hh
          show (if po1 m < 25 then cmpN po1 m else decide (po1 m < 28)) = (if po m < 25 then cmpN po m else decide (po m < 28))
          rw [hh m (by omega), ih (fun i hi => hh i (by omega))]
      have cme : cmpN (zi σ4 138) (n + t + t4) = false := by
        rw [cmp_up t4 x5.lt25, cmpc (n + t) low4, cmp0]
      rw [cme] at cm
      have cm : s_X9_isCompared 125 σ4 = some (0, σ4) := cm
      have bk4 := q_ck125 x3.1.1
      show RRes tb L nT lw tst 0 2 3 c n σ q o (bindR (match cmpO (kdN tb L k1) with
        | none => (k1, q1, none)
        | some o => bindR (s (k1 + 1) q1) fun k2 q2 b => (k2, q2, some (cmbS o a b))) _)
      have s60 := sgn9 x3.1 (d := 60) (by decide) (by decide)
      have s62 := sgn9 x3.1 (d := 62) (by decide) (by decide)
      have s61 := sgn9 x3.1 (d := 61) (by decide) (by decide)
      cases hcm : cmpO (kdN tb L k1) with
      | none =>
        obtain ⟨n60, n62, n61⟩ : kdN tb L k1 ≠ 60 ∧ kdN tb L k1 ≠ 62 ∧ kdN tb L k1 ≠ 61 := by
          refine ⟨fun z => ?_, fun z => ?_, fun z => ?_⟩ <;> (rw [z] at hcm; cases hcm)
        have q60 : s_X9_isSign 125 60 σ4 = some (0, σ4) := s60.2 n60
        have q62 : s_X9_isSign 125 62 σ4 = some (0, σ4) := s62.2 n62
        have q61 : s_X9_isSign 125 61 σ4 = some (0, σ4) := s61.2 n61
        obtain ⟨m5, b5, e5⟩ := x3.fail
        have i19 := q_i125 (k := 19) b5.1
        rw [b5.2.1] at i19
        have r2 : s_X9_behindSum 125 tst σ4 = some (1, badH tb L k1 σ4) := by
          rw [bs]
          simp only [s_X9_behindSum_j163, s_X9_behindSum_j202, s_X9_behindSum_j224, cm, bk4, q60, q62, q61, m5, i19, z10', bos, cbs, if_true, if_false]
        exact RRes.bad (((L1.trans L2).trans x1).trans (RdL_sum x3.1.1 x3.2.1 r2)) (e14.trans (e5.mono (fun a j z => z.mono (by omega) (by omega)))) b5
      | some oc =>
        have hoc := cmpO_lt hcm
        have hk1l := x3.1.lt (c := kdN tb L k1) rfl (fun z => by rw [z] at hcm; cases hcm)
        obtain ⟨σ5, m5, e5, h5⟩ := x3.must hk1l
        have i19 := q_i125 (k := 19) h5.1.1
        rw [h5.2.1] at i19
        have bk5 := q_ck125 h5.1.1
        have z5 : ∀ a, a ≠ 125 → zi σ5 a = zi σ4 a := fun a ha => funext fun i => (e5.2.2.2.2 a i (by unfold Sn9; omega)).1
        have K5 : KB 5 (n + t) σ5 := (K4.mono (by decide)).congr (fun i hi => by rw [z5 138 (by decide)]; exact low4 i hi)
        have P5 : Pnd 5 c (n + t) t4 σ5 := x5.congr (fun i _ _ => by rw [z5 138 (by decide), z5 139 (by decide)]; exact ⟨rfl, rfl⟩)
        obtain ⟨σ6, c6, st, e6, h6, hc6, eq6, z138, z139⟩ := h5.settle (least := 5) (by decide) P5 K5 x4
        have st : s_X9_settle 125 5 σ5 = _ := st
        have bk6 := q_ck125 h6.1.1
        obtain ⟨σ7, pu, e7, h7, y1, y2, y3, y4, y5⟩ := h6.push (ob := 20 + oc) (a := 0) (by omega) (by omega) (fun z => by omega) (by omega)
        have pu : s_X9_push 125 (iN (20 + oc)) 0 σ6 = _ := pu
        have r2 : s_X9_behindSum 125 tst σ4 = some (1, σ7) := by
          rw [bs]
          by_cases d1 : kdN tb L k1 = 60
          · have q60 : s_X9_isSign 125 60 σ4 = some (1, σ4) := s60.1 d1
            rw [d1] at hcm
            rw [← Option.some.inj (show some 5 = some oc from hcm)] at pu
            have pu : s_X9_push 125 25 0 σ6 = _ := pu
            have ne : ¬ (25 : Int32) = 27 := by decide
            simp only [s_X9_behindSum_j163, s_X9_behindSum_j202, s_X9_behindSum_j219, s_X9_behindSum_j224, cm, bk4, q60, ne, m5, i19, bk5, st, bk6, pu, z10', bos, cbs, if_true, if_false]
          · have q60 : s_X9_isSign 125 60 σ4 = some (0, σ4) := s60.2 d1
            by_cases d2 : kdN tb L k1 = 62
            · have q62 : s_X9_isSign 125 62 σ4 = some (1, σ4) := s62.1 d2
              rw [d2] at hcm
              rw [← Option.some.inj (show some 6 = some oc from hcm)] at pu
              have pu : s_X9_push 125 26 0 σ6 = _ := pu
              have ne : ¬ (26 : Int32) = 27 := by decide
              simp only [s_X9_behindSum_j163, s_X9_behindSum_j202, s_X9_behindSum_j219, s_X9_behindSum_j224, cm, bk4, q60, q62, ne, m5, i19, bk5, st, bk6, pu, z10', bos, cbs, if_true, if_false]
            · have q62 : s_X9_isSign 125 62 σ4 = some (0, σ4) := s62.2 d2
              have d3 : kdN tb L k1 = 61 := by
                apply Classical.byContradiction
                intro z
                unfold cmpO at hcm
                rw [if_neg d1, if_neg d2, if_neg z] at hcm
                cases hcm
              have q61 : s_X9_isSign 125 61 σ4 = some (1, σ4) := s61.1 d3
              rw [d3] at hcm
              rw [← Option.some.inj (show some 7 = some oc from hcm)] at pu
              have pu : s_X9_push 125 27 0 σ6 = _ := pu
              simp only [s_X9_behindSum_j163, s_X9_behindSum_j202, s_X9_behindSum_j219, s_X9_behindSum_j224, cm, bk4, q60, q62, q61, m5, i19, bk5, st, bk6, pu, z10', bos, cbs, if_true, if_false]
        have L3 := RdL_sum (tst := tst) x3.1.1 x3.2.1 r2
        -- the second sum
        have b4c : bndN (20 + oc) = 4 := by
          have : oc = 5 ∨ oc = 6 ∨ oc = 7 := by omega
          rcases this with rfl | rfl | rfl <;> rfl
        have hr2 := hs (k1 + 1) q1 c6 (n + t + 1) σ7 h7 hq1b (Or.inr ⟨20 + oc, by omega, by omega, y1, by omega⟩) trivial
        have hgd2 := hsG (k1 + 1) q1 (by omega) hq1b
        have e17 : Ag (Sm9 c n) σ σ7 := ((e14.trans (e5.mono (fun a j z => z.sm))).trans (e6.mono (fun a j z => z.mono (Nat.le_refl _) (by omega)))).trans (e7.mono (fun a j z => z.mono (by omega) (by omega)))
        show RRes tb L nT lw tst 0 2 3 c n σ q o (bindR (bindR (s (k1 + 1) q1) _) _)
        generalize hge2 : s (k1 + 1) q1 = res2 at hr2 hgd2
        obtain ⟨k2, q2, ob⟩ := res2
        cases ob with
        | none =>
          obtain ⟨σ8, w1, w2, w3⟩ := hr2
          exact ⟨σ8, (((L1.trans L2).trans x1).trans L3).trans w1, e17.trans (w2.mono (fun a j z => z.mono (by omega) (by omega))), w3⟩
        | some b2 =>
          obtain ⟨σ8, c8, t8, w1, w2, w3, w4, w5, w6⟩ := hr2
          obtain ⟨en3, en4⟩ := hsE _ _ _ _ _ hge2
          obtain ⟨hk2b, hq2, hq2b, -⟩ := hgd2.2.2 b2 rfl
          have hq2 : q1 < q2 := hq2
          have e18 : Ag (Sm9 c n) σ σ8 := e17.trans (w2.mono (fun a j z => z.mono (by omega) (by omega)))
          have low8 : ∀ i, i < n + t → zi σ8 138 i = zi σ1 138 i := fun i hi => by
            rw [(w2.2.2.2.2 138 i (by unfold Sm9; omega)).1, (y5 i (by omega)).1, z138, z5 138 (by decide)]
            exact low4 i hi
          have pc : zi σ8 138 (n + t) = iN (20 + oc) := by
            rw [(w2.2.2.2.2 138 (n + t) (by unfold Sm9; omega)).1]
            exact y1
          have inT8 : InT tst (n + t + 1 + t8) σ8 := by
            unfold InT
            have e : innN (zi σ8 138) (n + t + 1) = innN (zi σ8 138) (n + t) := by
              show (if zi σ8 138 (n + t) < 31 then innN (zi σ8 138) (n + t) else _) = _
              have l31 : iN (20 + oc) < (31 : Int32) := (iN_lt (b := 31) (by omega) (by decide)).mpr (by omega)
              rw [pc, if_pos l31]
            rw [inn_up t8 w5.lt31, e, innN_congr (n + t) low8, in1]
            exact hC
          have bs8 := bsum9 w3 en3 en4 inT8
          have hle8 := w3.le
          have b8 := w3.2.2.2.2.2.2.2.2.2.1
          have cm8 := isCmp9 w3.1.1 w3.2.2.2.2.2.1 w3.2.2.2.2.2.2.2.1 (by omega)
          have cme8 : cmpN (zi σ8 138) (n + t + 1 + t8) = true := by
            rw [cmp_up t8 w5.lt25]
            show (if zi σ8 138 (n + t) < 25 then _ else decide (zi σ8 138 (n + t) < 28)) = true
            rw [pc, if_neg (fun z => by have := (iN_lt (b := 25) (by omega) (by decide)).mp z; omega)]
            exact decide_eq_true ((iN_lt (b := 28) (by omega) (by decide)).mpr (by omega))
          rw [cme8] at cm8
          have cm8 : s_X9_isCompared 125 σ8 = some (1, σ8) := cm8
          have bk8 := q_ck125 w3.1.1
          have r3 : s_X9_behindSum 125 tst σ8 = some (2, σ8) := by
            rw [bs8]
            simp only [s_X9_behindSum_j163, cm8, bk8, z10', bos, cbs, if_false]
          have L4 := RdL_sum (tst := tst) w3.1.1 w3.2.1 r3
          have q138 : ∀ i, n ≤ i → i < n + t → zi σ8 138 i = 28 := fun i z1 z2 => by
            rw [low8 i z2]
            exact p28 i z1 z2
          rw [show n + t + 1 + t8 = n + (t + (1 + t8)) by omega] at w3
          refine ⟨σ8, c8, t + (1 + t8), ((((L1.trans L2).trans x1).trans L3).trans w1).trans L4, e18, w3, by omega, fun i z1 z2 => ?_, ?_⟩
          · by_cases d1 : i < n + t
            · exact ⟨28, by decide, by decide, q138 i z1 d1, by decide, fun z => by omega⟩
            · by_cases d2 : i = n + t
              · rw [d2]
                exact ⟨20 + oc, by omega, by omega, pc, by omega, fun z => by omega⟩
              · exact (w5.mono (show 3 ≤ 5 by decide) (show c ≤ c6 by omega)) i (by omega) (by omega)
          · rw [setN1_add]
            have A0 : RSeg (zi σ6 136) (zi σ6 137) (lfB lw) c c6 (q1 - q) a := by
              rw [z5 136 (by decide), z5 137 (by decide), z5 138 (by decide), z5 139 (by decide)] at eq6
              rw [← eq6] at x6
              exact x6
            have A : RSeg (zi σ8 136) (zi σ8 137) (lfB lw) c c6 (q1 - q) a := A0.congr (fun y _ h2 => ⟨by rw [(w2.2.2.2.2 136 y (by unfold Sm9; omega)).1, y3], by rw [(w2.2.2.2.2 137 y (by unfold Sm9; omega)).1, y4]⟩)
            have W := wait9 (po := zi σ8 138) (pa := zi σ8 139) (n0 := n + t) (x := (zi σ8 136, zi σ8 137, c8)) (o1 := oc) w4 (fun i z1 z2 hj => by
              have := w5.lt25 i z1 z2
              rcases hj with z | z <;> (rw [z] at this; exact absurd this (by decide))) pc hoc.1 A w6
            rw [show q1 - q + (q2 - q1) = q2 - q by omega] at W
            exact nots_seg t _ _ (isB_cmp hoc.2) q138 W
end RTE
