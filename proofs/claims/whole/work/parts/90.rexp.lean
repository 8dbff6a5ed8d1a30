/-! ===== the reference's reader: chains of tests, whole expressions ===== -/
section REX
variable {σ : Hp} {tb : Nat → Nat} {L nT k b q c n o : Nat} {lw : Bool} {tst : Int32}
def jopN (or : Bool) : Nat := if or = true then 30 else 29
def AccRT (or : Bool) (c0 n0 q0 q c nn : Nat) (lw : Bool) (σ : Hp) : Option (Nat × Sem) → Prop
  | none => q = q0 ∧ c = c0 ∧ nn = n0
  | some p => nn = n0 + 1 ∧ q0 < q ∧ p.1 = (if or = true then 1 else 0) ∧ isB p.2 ∧ ∃ cA, c = cA + 1 ∧ zi σ 138 n0 = iN (jopN or) ∧ zi σ 139 n0 = iN cA ∧ zi σ 136 cA = iN (jopN or) ∧ RSeg (zi σ 136) (zi σ 137) (lfB lw) c0 cA (q - q0) p.2
theorem waitJ9 {po pa : Nat → Int32} {n0 t c0 cA q1 q2 : Nat} {x : Cd} {s a : Sem} {lf : Lf} {or : Bool} (hcA : cA < 400) (hx : cA + 1 ≤ x.2.2) (hx4 : ∀ (y : Cd), y = setN1 po pa (n0 + 1) t x → y.2.2 < 2147483648) (hj : ∀ i, n0 + 1 ≤ i → i < n0 + 1 + t → (po i = 29 ∨ po i = 30) → cA + 1 ≤ (pa i).toNatClampNeg) (h0 : po n0 = iN (jopN or)) (h1 : pa n0 = iN cA) (h2 : x.1 cA = iN (jopN or)) (hB : isB s) (hs : RSeg x.1 x.2.1 lf c0 cA q1 s)
    (ha : RSeg (setN1 po pa (n0 + 1) t x).1 (setN1 po pa (n0 + 1) t x).2.1 lf (cA + 1) (setN1 po pa (n0 + 1) t x).2.2 q2 a) :
    RSeg (setN1 po pa n0 (1 + t) x).1 (setN1 po pa n0 (1 + t) x).2.1 lf c0 (setN1 po pa n0 (1 + t) x).2.2 (q1 + q2) (if or = true then orS s a else andS s a) := by
  rw [setN1_add]
  have lo := setN1_low (po := po) (pa := pa) (n := n0 + 1) (b := cA + 1) t x hx hj
  have h4 := hx4 _ rfl
  generalize setN1 po pa (n0 + 1) t x = y at lo ha h4
  have e : setN1 po pa n0 1 y = (y.1, up y.2.1 cA (iN y.2.2), y.2.2) := by
    show set1 (po (n0 + 0)) (pa (n0 + 0)) y = _
    unfold set1
    rw [Nat.add_zero, h0, h1, if_pos, iN_nat (by omega)]
    cases or
    · exact Or.inl rfl
    · exact Or.inr rfl
  rw [e]
  refine r_skip (or := or) (j := cA) (hs.congr (fun z _ hz => ⟨(lo.2 z (by omega)).1, (up_ne (by omega)).trans (lo.2 z (by omega)).2⟩)) hB (ha.congr (fun z hz _ => ⟨rfl, up_ne (by omega)⟩)) ?_ up_eq h4
  show y.1 cA = _
  rw [(lo.2 cA (by omega)).1, h2]
  cases or <;> rfl
theorem chainT9 {or : Bool} {least li kbI lk : Nat} (hlk : lk = if or = true then 304 else 305) (hle0 : least = if or = true then 1 else 2) (hl : least ≤ li) (hki : least < kbI) {f : Nat → Nat → Res} {op : Nat → Option Nat} (hF : RFn tb L nT lw tst 0 2 li kbI (InT tst) o f) (hG : Good nT true f)
    (hop : ∀ c, op c = if c = lk then some (if or = true then 1 else 0) else none) {c0 n0 q0 : Nat} {σ0 : Hp} :
    ∀ (m : Nat) (acc : Option (Nat × Sem)) (k q c nn : Nat) (σ : Hp), nT < k + m → RS tb L nT lw k k q c nn o σ → q ≤ 50 → KB least n0 σ → InT tst n0 σ → c0 ≤ c → Ag (Sm9 c0 n0) σ0 σ → RdL tst 0 σ0 = RdL tst 0 σ → AccRT or c0 n0 q0 q c nn lw σ acc →
    RRes tb L nT lw tst 0 2 least c0 n0 σ0 q0 o (loopP f (kdN tb L) op lnkS m acc k q)
  | 0, acc, k, q, c, nn, σ, hm, h, _, _, _, _, _, _, _ => by
    have := h.le
    omega
  | m + 1, acc, k, q, c, nn, σ, hm, h, hq, hK, hI, hc0, e0, L0, hA => by
    have hle := h.le
    have hn0 : n0 ≤ nn := by
      cases acc with
      | none => have := hA.2.2; omega
      | some p => have := hA.1; omega
    have bj : bndN (jopN or) = least := by
      rw [hle0]
      cases or <;> rfl
    have jr : 29 ≤ jopN or ∧ jopN or ≤ 30 := by cases or <;> decide
    have hKi : KB kbI nn σ := by
      cases acc with
      | none =>
        rw [hA.2.2]
        exact hK.mono (by omega)
      | some p =>
        obtain ⟨a1, a2, a3, a4, cA, a5, a6, a7, a8, a9⟩ := hA
        exact Or.inr ⟨jopN or, by omega, by omega, by rw [a1]; exact a6, by omega⟩
    have hIi : InT tst nn σ := by
      cases acc with
      | none =>
        rw [hA.2.2]
        exact hI
      | some p =>
        obtain ⟨a1, a2, a3, a4, cA, a5, a6, a7, a8, a9⟩ := hA
        unfold InT
        have e : innN (zi σ 138) (n0 + 1) = innN (zi σ 138) n0 := by
          show (if zi σ 138 n0 < 31 then innN (zi σ 138) n0 else _) = _
          have l31 : iN (jopN or) < (31 : Int32) := (iN_lt (b := 31) (by omega) (by decide)).mpr (by omega)
          rw [a6, if_pos l31]
        rw [a1, e]
        exact hI
    have hr := hF k q c nn σ h hq hKi hIi
    have hg := hG k q (by omega) hq
    show RRes tb L nT lw tst 0 2 least c0 n0 σ0 q0 o (bindR (f k q) _)
    generalize f k q = r at hr hg
    obtain ⟨k1, q1, ob⟩ := r
    cases ob with
    | none =>
      obtain ⟨σ1, x1, x2, x3⟩ := hr
      exact ⟨σ1, L0.trans x1, e0.trans (x2.mono (fun a j z => z.mono hc0 hn0)), x3⟩
    | some b =>
      obtain ⟨σ1, c1, t, x1, x2, x3, x4, x5, x6⟩ := hr
      obtain ⟨g1, g2, g3⟩ := hg
      have g2 : k1 ≤ nT := g2
      obtain ⟨g4, g5, g6, g7⟩ := g3 b rfl
      have g4 : k < k1 := g4
      have g5 : q < q1 := g5
      have g6 : q1 ≤ 50 := g6
      have hbB : isB b := g7 rfl
      have e1 : Ag (Sm9 c0 n0) σ0 σ1 := e0.trans (x2.mono (fun a j z => z.mono hc0 hn0))
      have l138 : ∀ i, i < n0 → zi σ1 138 i = zi σ 138 i := fun i hi => (x2.2.2.2.2 138 i (by unfold Sm9; omega)).1
      have hK1 : KB least n0 σ1 := hK.congr l138
      have hI1 : InT tst n0 σ1 := by
        unfold InT
        rw [innN_congr n0 l138]
        exact hI
      have accB : isB (accS lnkS acc b) := by
        cases acc with
        | none => exact hbB
        | some p =>
          obtain ⟨a1, a2, a3, a4, -⟩ := hA
          exact isB_lnk _ _ _ a4 hbB
      have hle1 := x3.le
      have hW1 := x3.2.2.2.2.2.2.2.2.1
      obtain ⟨T, t1, t2, t3⟩ : ∃ T, nn + t = n0 + T ∧ Pnd least c0 n0 T σ1 ∧ RSeg (setN1 (zi σ1 138) (zi σ1 139) n0 T (zi σ1 136, zi σ1 137, c1)).1 (setN1 (zi σ1 138) (zi σ1 139) n0 T (zi σ1 136, zi σ1 137, c1)).2.1 (lfB lw) c0 (setN1 (zi σ1 138) (zi σ1 139) n0 T (zi σ1 136, zi σ1 137, c1)).2.2 (q1 - q0) (accS lnkS acc b) := by
        cases acc with
        | none =>
          obtain ⟨rfl, rfl, rfl⟩ := hA
          exact ⟨t, rfl, x5.mono hl (Nat.le_refl _), x6⟩
        | some p =>
          obtain ⟨a1, a2, a3, a4, cA, a5, a6, a7, a8, a9⟩ := hA
          subst a1
          subst a5
          have a9s := a9.1
          have hcA : cA < 400 := by
            have := h.2.2.2.2.2.2.2.2.1
            omega
          have p138 : zi σ1 138 n0 = iN (jopN or) := by
            rw [(x2.2.2.2.2 138 n0 (by unfold Sm9; omega)).1]
            exact a6
          have p139 : zi σ1 139 n0 = iN cA := by
            rw [(x2.2.2.2.2 139 n0 (by unfold Sm9; omega)).1]
            exact a7
          refine ⟨1 + t, by omega, fun i h1 h2 => ?_, ?_⟩
          · by_cases z : i = n0
            · rw [z]
              exact ⟨jopN or, by omega, by omega, p138, by omega, fun _ => ⟨cA, by omega, hcA, p139⟩⟩
            · exact (x5.mono hl hc0) i (by omega) (by omega)
          · have A : RSeg (zi σ1 136) (zi σ1 137) (lfB lw) c0 cA (q - q0) p.2 := a9.congr (fun y _ h2 => ⟨(x2.2.2.2.2 136 y (by unfold Sm9; omega)).1, (x2.2.2.2.2 137 y (by unfold Sm9; omega)).1⟩)
            have a8' : zi σ1 136 cA = iN (jopN or) := by
              rw [(x2.2.2.2.2 136 cA (by unfold Sm9; omega)).1]
              exact a8
            have cc := setN1_c (po := zi σ1 138) (pa := zi σ1 139) (n := n0 + 1) t (zi σ1 136, zi σ1 137, c1) (fun i q1 q2 => by
              obtain ⟨o, z1, z2, z3, -, -⟩ := x5 i q1 q2
              rw [z3]
              exact (iN_lt (b := 31) (by omega) (by decide)).mpr (by omega))
            have cc : (setN1 (zi σ1 138) (zi σ1 139) (n0 + 1) t (zi σ1 136, zi σ1 137, c1)).2.2 + wtF (zi σ1 138) (n0 + 1) = c1 + wtF (zi σ1 138) (n0 + 1 + t) := cc
            have W := waitJ9 (po := zi σ1 138) (pa := zi σ1 139) (n0 := n0) (t := t) (x := (zi σ1 136, zi σ1 137, c1)) hcA x4 (fun y hy => by rw [hy]; omega) (fun i q1 q2 hj => by
              obtain ⟨o, y1, y2, y3, -, y5⟩ := x5 i q1 q2
              rw [y3] at hj
              obtain ⟨a, b1, b2, b3⟩ := y5 (hj.imp (fun z => (iN_inj (b := 29) (by omega) (by decide)).mp z) (fun z => (iN_inj (b := 30) (by omega) (by decide)).mp z))
              rw [b3, iN_nat (by omega)]
              exact b1) p138 p139 a8' a4 A x6
            rw [show q - q0 + (q1 - q) = q1 - q0 by omega] at W
            have e3 : accS lnkS (some p) b = if or = true then orS p.2 b else andS p.2 b := by
              show lnkS p.1 p.2 b = _
              rw [a3]
              cases or <;> rfl
            rw [e3]
            exact W
      rw [t1] at x3
      have hqq : q0 ≤ q := by
        cases acc with
        | none => have := hA.1; omega
        | some p => have := hA.2.1; omega
      have eop := hop (kdN tb L k1)
      show RRes tb L nT lw tst 0 2 least c0 n0 σ0 q0 o (match op (kdN tb L k1) with
        | none => (k1, q1, some (accS lnkS acc b))
        | some o => loopP f (kdN tb L) op lnkS m (some (o, accS lnkS acc b)) (k1 + 1) q1)
      by_cases hc : kdN tb L k1 = lk
      · rw [if_pos hc] at eop
        rw [eop]
        have hlt := x3.1.lt hc (by rw [hlk]; cases or <;> decide)
        obtain ⟨σ2, c2, st, e2, h2, hc2, eq2, z138, z139⟩ := x3.settle (by rw [hle0]; cases or <;> decide) t2 hK1 (show c0 ≤ c1 by omega)
        rw [← eq2] at t3
        have t3s := t3.1
        have t3s : c0 < c2 := t3s
        have bk2 := q_ck125 h2.1.1
        have bk1 := q_ck125 x3.1.1
        have h2W := h2.2.2.2.2.2.2.2.2.1
        have h2n := h2.2.2.2.2.2.2.2.2.2.1
        obtain ⟨σ3, pu, e3, h3, y1, y2, y3, y4, y5⟩ := h2.push (ob := jopN or) (a := c2) (by omega) (by omega) (fun z => by omega) (by omega)
        have i23 := q_i125 (k := 23) h2.1.1
        rw [h2.2.2.2.2.1] at i23
        have bk3 := q_ck125 h3.1.1
        have w3 : wtF (zi σ3 138) (n0 + 1) = wtF (zi σ2 138) n0 := by
          rw [wtF_s y1 (by omega), if_neg (by omega), wtF_congr n0 (fun i hi => (y5 i (by omega)).1), Nat.add_zero]
        obtain ⟨σ4, em, e4, h4, u1, u2, u3, u4⟩ := rs_emit2 h3 (b1 := k1 + 1) (by rw [w3]; omega) (by omega) (by omega) (iN (jopN or)) 0
        have bk4 := q_ck125 h4.1.1
        obtain ⟨σ5, nx, e5, h5⟩ := h4.next hlt
        have r : s_X9_behindTest 125 σ1 = some (0, σ5) := by
          cases or with
          | true =>
            subst hlk
            subst hle0
            have w5 := (wrd9 x3.1 (w := 5) (by decide)).2 (by rw [hc]; decide)
            have w5 : s_X9_isWord 125 1476 σ1 = some (0, σ1) := w5
            have w4 := (wrd9 x3.1 (w := 4) (by decide)).1 hc
            have w4 : s_X9_isWord 125 498 σ1 = some (1, σ1) := w4
            have st : s_X9_settle 125 1 σ1 = some ((), σ2) := st
            have pu : s_X9_push 125 30 (iN c2) σ2 = some ((), σ3) := pu
            have em : s_X9_emit 125 30 0 σ3 = some ((), σ4) := em
            simp only [s_X9_behindTest, s_X9_behindTest_j22, s_X9_behindTest_j32, s_X9_behindTest_j47, s_X9_behindTest_j66, bk1, w5, w4, st, i23, bk2, pu, bk3, em, bk4, nx, z10', bos, cbs, if_true, if_false]
          | false =>
            subst hlk
            subst hle0
            have w5 := (wrd9 x3.1 (w := 5) (by decide)).1 hc
            have w5 : s_X9_isWord 125 1476 σ1 = some (1, σ1) := w5
            have st : s_X9_settle 125 2 σ1 = some ((), σ2) := st
            have pu : s_X9_push 125 29 (iN c2) σ2 = some ((), σ3) := pu
            have em : s_X9_emit 125 29 0 σ3 = some ((), σ4) := em
            simp only [s_X9_behindTest, s_X9_behindTest_j22, s_X9_behindTest_j32, s_X9_behindTest_j47, s_X9_behindTest_j66, bk1, w5, st, i23, bk2, pu, bk3, em, bk4, nx, z10', bos, cbs, if_true, if_false]
        have z5 : ∀ a, a ≠ 125 → zi σ5 a = zi σ4 a := fun a ha => funext fun i => (e5.2.2.2.2 a i (by unfold Sn9; omega)).1
        have l5 : ∀ i, i < n0 → zi σ5 138 i = zi σ1 138 i := fun i hi => by rw [z5 138 (by decide), u3, (y5 i (by omega)).1, z138]
        refine chainT9 hlk hle0 hl hki hF hG hop m (some ((if or = true then 1 else 0), accS lnkS acc b)) (k1 + 1) q1 (c2 + 1) (n0 + 1) σ5 (by omega) h5 g6 (hK1.congr l5) ?_ (by omega) ?_ (L0.trans (x1.trans (RdL_test x3.1.1 x3.2.1 r))) ?_
        · unfold InT
          rw [innN_congr n0 l5]
          exact hI1
        · exact (((e1.trans e2).trans (e3.mono (fun a j z => z.mono (by omega) (Nat.le_refl _)))).trans (e4.mono (fun a j z => z.mono (by omega) (by omega)))).trans (e5.mono (fun a j z => z.sm))
        · refine ⟨rfl, by omega, rfl, accB, c2, rfl, by rw [z5 138 (by decide), u3]; exact y1, by rw [z5 139 (by decide), u4]; exact y2, by rw [z5 136 (by decide), u1]; exact up_eq, ?_⟩
          have t3 : RSeg (zi σ2 136) (zi σ2 137) (lfB lw) c0 c2 (q1 - q0) (accS lnkS acc b) := t3
          exact t3.congr (fun y _ hy => ⟨by rw [z5 136 (by decide), u1, up_ne (by omega), y3], by rw [z5 137 (by decide), u2, up_ne (by omega), y4]⟩)
      · rw [if_neg hc] at eop
        rw [eop]
        exact ⟨σ1, c1, T, L0.trans x1, e1, x3, by omega, t2, t3⟩
theorem both9 {g : Option (Nat → Nat → Res)} {s : Nat → Nat → Res} (hE : kdN tb L nT = 258) (hg : GoodO nT true g) (hs : Good nT false s) (hp : RFn tb L nT lw tst 0 2 3 3 (InT tst) o (plainP (kdN tb L) nT g s)) : RFn tb L nT lw tst 0 2 2 2 (InT tst) o (bothP (kdN tb L) nT g s) := by
  intro k q c n σ h hq hK hC
  exact chainT9 (or := false) (least := 2) (li := 3) (kbI := 3) (lk := 305) rfl rfl (by decide) (by decide) hp (good_plain hE hg hs) (fun c => rfl) (nT + 1) none k q c n σ (by have := h.le; omega) h hq hK hC (Nat.le_refl _) Ag.refl rfl ⟨rfl, rfl, rfl⟩
theorem test9 {g : Option (Nat → Nat → Res)} {s : Nat → Nat → Res} (hE : kdN tb L nT = 258) (hg : GoodO nT true g) (hs : Good nT false s) (hp : RFn tb L nT lw tst 0 2 2 2 (InT tst) o (bothP (kdN tb L) nT g s)) : RFn tb L nT lw tst 0 2 1 1 (InT tst) o (testP (kdN tb L) nT g s) := by
  intro k q c n σ h hq hK hC
  exact chainT9 (or := true) (least := 1) (li := 2) (kbI := 2) (lk := 304) rfl rfl (by decide) (by decide) hp (good_both hE hg hs) (fun c => rfl) (nT + 1) none k q c n σ (by have := h.le; omega) h hq hK hC (Nat.le_refl _) Ag.refl rfl ⟨rfl, rfl, rfl⟩
theorem end_lvT {kd nm : Nat → Nat} (d : Nat) : EndT kd (lvT kd nm lw nT d) := by
  rw [lvT_eq]
  intro k q k1 q1 a h
  have e := loop_end (E := fun c => andO c = none) (fun k q k1 q1 a h => (loop_end (E := fun _ => True) (fun _ _ _ _ _ _ => trivial) _ _ _ _ _ _ _ h).2) _ _ _ _ _ _ _ h
  refine ⟨fun z => ?_, fun z => ?_⟩
  · have := e.1
    rw [z] at this
    cases this
  · have := e.2
    rw [z] at this
    cases this
theorem lvT9 (hE : kdN tb L nT = 258) : ∀ d, d ≤ 8 → RFn tb L nT lw tst 0 2 1 1 (InT tst) (8 - d) (lvT (kdN tb L) (nmN tb L) lw nT d)
  | d, hd => by
    rw [lvT_eq]
    refine test9 hE (goodO_T hE d) (good_lvS hE d) (both9 hE (goodO_T hE d) (good_lvS hE d) (plain9 (by omega) (fun h => ?_) (fun g h => ?_) (lvS9 hE d hd) (end_lvS d) (good_lvS hE d)))
    · cases d with
      | zero => rfl
      | succ d => cases h
    · cases d with
      | zero => cases h
      | succ d =>
        cases h
        refine ⟨by omega, ?_, end_lvT d, good_lvT hE d⟩
        have := lvT9 hE d (by omega)
        rw [show 8 - (d + 1) + 1 = 8 - d by omega]
        exact this
/-! a whole expression -/
/-- the reader between two expressions: nothing on the pile counts -/
def RX (tb : Nat → Nat) (L nT : Nat) (lw : Bool) (k q c : Nat) (σ : Hp) : Prop := RT tb L nT k σ ∧ zi σ 125 19 = 0 ∧ zi σ 125 20 = bI (!lw) ∧ zi σ 125 26 = iN q ∧ zi σ 125 23 = iN c ∧ c ≤ k
def XRes (tb : Nat → Nat) (L nT : Nat) (lw : Bool) (c0 : Nat) (σ0 : Hp) (q0 : Nat) (out : Option (Unit × Hp)) (r : Res) : Prop := match r with
  | (k1, q1, some a) => ∃ σ1 c1, out = some ((), σ1) ∧ Ag (Sm9 c0 0) σ0 σ1 ∧ RX tb L nT lw k1 q1 c1 σ1 ∧ RSeg (zi σ1 136) (zi σ1 137) (lfB lw) c0 c1 (q1 - q0) a
  | (k1, _, none) => ∃ σ1, out = some ((), σ1) ∧ Ag (Sm9 0 0) σ0 σ1 ∧ SK σ1 ∧ zi σ1 125 19 = 1 ∧ zi σ1 125 18 = iN (psN tb L k1) ∧ ∃ c1, c1 ≤ 400 ∧ zi σ1 125 23 = iN c1
theorem exp_start (h : RX tb L nT lw k q c σ) : ∃ σ2, wrI 9 σ 125 29 0 = some (zsi σ 125 29 0) ∧ wrI 9 (zsi σ 125 29 0) 125 30 0 = some σ2 ∧ Ag (Sm9 c 0) σ σ2 ∧ RS tb L nT lw k k q c 0 0 σ2 := by
  obtain ⟨g1, g2, g3, g4, g5, g6⟩ := h
  have S1 : SK (zsi σ 125 29 0) := g1.1
  have e : Ag (fun a j => a = 125 ∧ (j = 29 ∨ j = 30)) σ (zsi (zsi σ 125 29 0) 125 30 0) := (Ag.zsi ⟨rfl, Or.inl rfl⟩).trans (Ag.zsi ⟨rfl, Or.inr rfl⟩)
  have v29 : zi (zsi (zsi σ 125 29 0) 125 30 0) 125 29 = iN 0 := by rw [zi_miss (by decide), zi_hit]; rfl
  have v30 : zi (zsi (zsi σ 125 29 0) 125 30 0) 125 30 = iN 0 := zi_hit
  refine ⟨zsi (zsi σ 125 29 0) 125 30 0, q_w125 g1.1, q_w125 S1, e.mono (fun a j z => by unfold Sm9; omega), ?_⟩
  generalize zsi (zsi σ 125 29 0) 125 30 0 = τ at e v29 v30
  have g : ∀ j, j ≠ 29 → j ≠ 30 → zi τ 125 j = zi σ 125 j := fun j h1 h2 => (e.2.2.2.2 125 j (by omega)).1
  refine ⟨g1.ag e (fun a j z => by omega), by rw [g 19 (by omega) (by omega)]; exact g2, by rw [g 20 (by omega) (by omega)]; exact g3, by rw [g 26 (by omega) (by omega)]; exact g4, by rw [g 23 (by omega) (by omega)]; exact g5, v29, v30, fun i hi => by omega, ?_, by omega, g1.2.2.2.1⟩
  show c + 0 ≤ k
  omega
theorem RdL_over (h : SK σ) (h19 : zi σ 125 19 = 0) : RdL tst 4 σ = some (125, σ) := by
  have i19 := q_i125 (k := 19) h
  rw [h19] at i19
  refine loopF_out (body := fun v => s_X9_readExpression_b20 (v.1) (v.2.1) (v.2.2)) (v := (125, tst, 4)) ?_
  simp only [s_X9_readExpression_b20, i19, bos, if_true]
/-- the end of an expression: all is settled -/
theorem exp_end {t : Nat} (h : RS tb L nT lw k k q c t 0 σ) {c0 q0 : Nat} {a : Sem} (hP : Pnd 1 c0 0 t σ) (hc : c0 ≤ c) (hs : RSeg (setN1 (zi σ 138) (zi σ 139) 0 t (zi σ 136, zi σ 137, c)).1 (setN1 (zi σ 138) (zi σ 139) 0 t (zi σ 136, zi σ 137, c)).2.1 (lfB lw) c0 (setN1 (zi σ 138) (zi σ 139) 0 t (zi σ 136, zi σ 137, c)).2.2 (q - q0) a) :
    ∃ σ1 c1, s_X9_readExpression_j76 125 σ = some ((), σ1) ∧ Ag (Sm9 c0 0) σ σ1 ∧ RX tb L nT lw k q c1 σ1 ∧ RSeg (zi σ1 136) (zi σ1 137) (lfB lw) c0 c1 (q - q0) a := by
  have h' : RS tb L nT lw k k q c (0 + t) 0 σ := by rw [Nat.zero_add]; exact h
  obtain ⟨σ1, c1, st, e, h1, hc1, eq1, z138, z139⟩ := h'.settle (least := 1) (by decide) hP (Or.inl rfl) hc
  have st : s_X9_settle 125 1 σ = _ := st
  have bk := q_ck125 h.1.1
  rw [← eq1] at hs
  have hw := h1.2.2.2.2.2.2.2.2.1
  refine ⟨σ1, c1, by simp only [s_X9_readExpression_j76, bk, st, bos, cbs], e, ⟨h1.1, h1.2.1, h1.2.2.1, h1.2.2.2.1, h1.2.2.2.2.1, by omega⟩, hs⟩
theorem exp_bad (h : BadS tb L k σ) : ∃ σ1, s_X9_readExpression_j76 125 σ = some ((), σ1) ∧ Ag (Sm9 0 0) σ σ1 ∧ SK σ1 ∧ zi σ1 125 19 = 1 ∧ zi σ1 125 18 = iN (psN tb L k) ∧ ∃ c1, c1 ≤ 400 ∧ zi σ1 125 23 = iN c1 := by
  obtain ⟨g1, g2, g3, c, n, g4, g5, g6, g7, g8⟩ := h
  obtain ⟨m, t, e1, e2, e3⟩ := g6.split
  subst e1
  obtain ⟨σ1, x1, x2, xj, x3, x4, x5, x6⟩ := settle_l (least := 1) (by decide) t c σ g1 g4 g5 e2 e3 (by omega) g7
  have x1 : s_X9_settle_l0 (125, 1) σ = _ := x1
  have bk := q_ck125 g1
  have cc := setN1_c (po := zi σ 138) (pa := zi σ 139) (n := m) t (zi σ 136, zi σ 137, c) (fun i q1 q2 => by
    obtain ⟨o, a1, a2, a3, -, -⟩ := e2 i q1 q2
    rw [a3]
    exact (iN_lt (b := 31) (by omega) (by decide)).mpr (by omega))
  have cc : (setN1 (zi σ 138) (zi σ 139) m t (zi σ 136, zi σ 137, c)).2.2 + wtF (zi σ 138) m = c + wtF (zi σ 138) (m + t) := cc
  exact ⟨σ1, by simp only [s_X9_readExpression_j76, s_X9_settle, bk, x1, bos, cbs], x2.mono (fun a j z => by unfold Sst at z; unfold Sm9; omega), g1.ag x2, by rw [(x2.2.2.2.2 125 19 (by unfold Sst; omega)).1]; exact g2, by rw [(x2.2.2.2.2 125 18 (by unfold Sst; omega)).1]; exact g3, _, by omega, x6⟩
/-- the innermost bracket at the outermost level: none -/
theorem inn0 {t : Nat} (hP : Pnd 1 0 0 t σ) : innN (zi σ 138) t = -1 := by
  have := inn_up (po := zi σ 138) (n := 0) t (hP.lt31)
  rw [Nat.zero_add] at this
  rw [this]
  rfl
theorem expS9 (h : RX tb L nT lw k q c σ) (hq : q ≤ 50) : XRes tb L nT lw c σ q (s_X9_readExpression 125 0 σ) (lvS (kdN tb L) (nmN tb L) lw nT 8 k q) := by
  obtain ⟨σ2, w1, w2, e2, h2⟩ := exp_start h
  have hE := h.1.kE
  have hle := h2.le
  have hr := lvS9 (tst := 0) (lw := lw) hE 8 (Nat.le_refl _) k q c 0 σ2 h2 hq (Or.inl rfl) trivial
  have hen := end_lvS (kd := kdN tb L) (nm := nmN tb L) (lw := lw) (nT := nT) 8 k q
  have st : s_X9_readExpression 125 0 σ = (cb (RdL 0 1 σ2) fun h1 σ4 => s_X9_readExpression_j76 h1 σ4) := by
    unfold s_X9_readExpression
    rw [w1, bos, w2, bos, if_pos rfl]
    rfl
  rw [st]
  generalize lvS (kdN tb L) (nmN tb L) lw nT 8 k q = r at hr hen
  obtain ⟨k1, q1, oa⟩ := r
  cases oa with
  | none =>
    obtain ⟨σ3, x1, x2, x3⟩ := hr
    obtain ⟨σ4, y1, y2, y3⟩ := exp_bad x3
    refine ⟨σ4, ?_, ((e2.mono (fun a j z => z.mono (Nat.zero_le _) (Nat.le_refl _))).trans (x2.mono (fun a j z => z.mono (Nat.zero_le _) (Nat.le_refl _)))).trans y2, y3⟩
    rw [x1, cbs, y1]
  | some a =>
    obtain ⟨σ3, c3, t, x1, x2, x3, x4, x5, x6⟩ := hr
    rw [Nat.zero_add] at x3
    obtain ⟨en1, en2⟩ := hen _ _ _ rfl
    have bs := behindSum9 (tst := 0) x3.1
    have hbp : bopN (kdN tb L k1) = -1 := by
      unfold bopN
      rw [en1, en2]
    rw [hbp] at bs
    have bk3 := q_ck125 x3.1.1
    have P1 : Pnd 1 c 0 t σ3 := x5.mono (by decide) (Nat.le_refl _)
    have inn := inner9 x3.1.1 x3.2.2.2.2.2.1 (by have := x3.2.2.2.2.2.2.2.2.2.1; have := x3.le; omega)
    rw [inn0 (P1.mono (Nat.le_refl _) (Nat.zero_le _))] at inn
    have r2 : s_X9_behindSum 125 0 σ3 = some (4, σ3) := by
      rw [bs]
      simp only [s_X9_behindSum_j71, bk3, inn, (show ¬ (-1 : Int32) = 32 by decide), bos, cbs, if_true, if_false]
    obtain ⟨σ4, c4, y1, y2, y3, y4⟩ := exp_end x3 P1 x4 x6
    refine ⟨σ4, c4, ?_, (e2.trans x2).trans y2, y3, y4⟩
    rw [x1, RdL_sum x3.1.1 x3.2.1 r2, RdL_over x3.1.1 x3.2.1, cbs, y1]
theorem expT9 (h : RX tb L nT lw k q c σ) (hq : q ≤ 50) : XRes tb L nT lw c σ q (s_X9_readExpression 125 1 σ) (lvT (kdN tb L) (nmN tb L) lw nT 8 k q) := by
  obtain ⟨σ2, w1, w2, e2, h2⟩ := exp_start h
  have hE := h.1.kE
  have hle := h2.le
  have hr := lvT9 (tst := 1) (lw := lw) hE 8 (Nat.le_refl _) k q c 0 σ2 h2 hq (Or.inl rfl) ⟨by show ¬ (-1 : Int32) = 32; decide, fun _ => by decide⟩
  have hen := end_lvT (kd := kdN tb L) (nm := nmN tb L) (lw := lw) (nT := nT) 8 k q
  have st : s_X9_readExpression 125 1 σ = (cb (RdL 1 0 σ2) fun h1 σ4 => s_X9_readExpression_j76 h1 σ4) := by
    unfold s_X9_readExpression
    rw [w1, bos, w2, bos, if_neg z10']
    rfl
  rw [st]
  generalize lvT (kdN tb L) (nmN tb L) lw nT 8 k q = r at hr hen
  obtain ⟨k1, q1, oa⟩ := r
  cases oa with
  | none =>
    obtain ⟨σ3, x1, x2, x3⟩ := hr
    obtain ⟨σ4, y1, y2, y3⟩ := exp_bad x3
    refine ⟨σ4, ?_, ((e2.mono (fun a j z => z.mono (Nat.zero_le _) (Nat.le_refl _))).trans (x2.mono (fun a j z => z.mono (Nat.zero_le _) (Nat.le_refl _)))).trans y2, y3⟩
    rw [x1, cbs, y1]
  | some a =>
    obtain ⟨σ3, c3, t, x1, x2, x3, x4, x5, x6⟩ := hr
    rw [Nat.zero_add] at x3
    obtain ⟨en1, en2⟩ := hen _ _ _ rfl
    have bk3 := q_ck125 x3.1.1
    have w5 := (wrd9 x3.1 (w := 5) (by decide)).2 en1
    have w5 : s_X9_isWord 125 1476 σ3 = some (0, σ3) := w5
    have w4 := (wrd9 x3.1 (w := 4) (by decide)).2 en2
    have w4 : s_X9_isWord 125 498 σ3 = some (0, σ3) := w4
    have inn := inner9 x3.1.1 x3.2.2.2.2.2.1 (by have := x3.2.2.2.2.2.2.2.2.2.1; have := x3.le; omega)
    rw [inn0 (x5.mono (Nat.le_refl _) (Nat.zero_le _))] at inn
    have r2 : s_X9_behindTest 125 σ3 = some (4, σ3) := by
      simp only [s_X9_behindTest, bk3, w5, w4, inn, bos, cbs, if_true]
    obtain ⟨σ4, c4, y1, y2, y3, y4⟩ := exp_end x3 x5 x4 x6
    refine ⟨σ4, c4, ?_, (e2.trans x2).trans y2, y3, y4⟩
    rw [x1, RdL_test x3.1.1 x3.2.1 r2, RdL_over x3.1.1 x3.2.1, cbs, y1]
end REX
