/-! ===== the reference's reader: chains of sums and terms ===== -/
section RCH
variable {σ : Hp} {tb : Nat → Nat} {L nT k b q c n o : Nat} {lw : Bool} {tst : Int32}
def AccR (least c0 n0 q0 q c nn : Nat) (lw : Bool) (σ : Hp) : Option (Nat × Sem) → Prop
  | none => q = q0 ∧ c = c0 ∧ nn = n0
  | some p => nn = n0 + 1 ∧ q0 < q ∧ p.1 < 8 ∧ bndN (20 + p.1) = least ∧ zi σ 138 n0 = iN (20 + p.1) ∧ RSeg (zi σ 136) (zi σ 137) (lfB lw) c0 c (q - q0) p.2
/-- what waits of an operator and what stands behind it -/
theorem wait9 {po pa : Nat → Int32} {n0 t o1 c0 c q1 q2 : Nat} {x : Cd} {s a : Sem} {lf : Lf} (hx : c ≤ x.2.2) (hj : ∀ i, n0 + 1 ≤ i → i < n0 + 1 + t → (po i = 29 ∨ po i = 30) → c ≤ (pa i).toNatClampNeg) (h0 : po n0 = iN (20 + o1)) (ho : o1 < 8) (hs : RSeg x.1 x.2.1 lf c0 c q1 s)
    (ha : RSeg (setN1 po pa (n0 + 1) t x).1 (setN1 po pa (n0 + 1) t x).2.1 lf c (setN1 po pa (n0 + 1) t x).2.2 q2 a) :
    RSeg (setN1 po pa n0 (1 + t) x).1 (setN1 po pa n0 (1 + t) x).2.1 lf c0 (setN1 po pa n0 (1 + t) x).2.2 (q1 + q2) (cmbS o1 s a) := by
  rw [setN1_add]
  have lo := setN1_low (po := po) (pa := pa) (n := n0 + 1) (b := c) t x hx hj
  generalize setN1 po pa (n0 + 1) t x = y at lo ha
  have e : setN1 po pa n0 1 y = (up y.1 y.2.2 (iN (20 + o1)), up y.2.1 y.2.2 0, y.2.2 + 1) := by
    show set1 (po (n0 + 0)) (pa (n0 + 0)) y = _
    unfold set1
    rw [Nat.add_zero, h0, if_neg]
    rintro (z | z)
    · have := (iN_inj (b := 29) (by omega) (by decide)).mp z
      omega
    · have := (iN_inj (b := 30) (by omega) (by decide)).mp z
      omega
  rw [e]
  have hc := ha.1
  exact r_bin (hs.congr (fun y1 _ h2 => ⟨(up_ne (by omega)).trans (lo.2 y1 h2).1, (up_ne (by omega)).trans (lo.2 y1 h2).2⟩)) (ha.congr (fun y1 _ h2 => ⟨up_ne (by omega), up_ne (by omega)⟩)) ho up_eq
theorem chain9 {least li kbI : Nat} {f : Nat → Nat → Res} {op : Nat → Option Nat} (hl : least ≤ li) (hl6 : least ≤ 6) (hki : least < kbI) (hF : RFn tb L nT lw tst 1 3 li kbI noC o f) (hG : Good nT false f) (hop0 : op 258 = none)
    (hop : ∀ c o, op c = some o → o < 8 ∧ bopN c = iN (20 + o) ∧ bndN (20 + o) = least) {c0 n0 q0 : Nat} {σ0 : Hp} :
    ∀ (m : Nat) (acc : Option (Nat × Sem)) (k q c nn : Nat) (σ : Hp), nT < k + m → RS tb L nT lw k k q c nn o σ → q ≤ 50 → KB least n0 σ → c0 ≤ c → Ag (Sm9 c0 n0) σ0 σ → RdL tst 1 σ0 = RdL tst 1 σ → AccR least c0 n0 q0 q c nn lw σ acc →
    RRes tb L nT lw tst 1 3 least c0 n0 σ0 q0 o (loopP f (kdN tb L) op cmbS m acc k q)
  | 0, acc, k, q, c, nn, σ, hm, h, _, _, _, _, _, _ => by
    have := h.le
    omega
  | m + 1, acc, k, q, c, nn, σ, hm, h, hq, hK, hc0, e0, L0, hA => by
    have hle := h.le
    have hn0 : n0 ≤ nn := by
      cases acc with
      | none => have := hA.2.2; omega
      | some p => have := hA.1; omega
    have hKi : KB kbI nn σ := by
      cases acc with
      | none =>
        rw [hA.2.2]
        exact hK.mono (by omega)
      | some p =>
        obtain ⟨a1, a2, a3, a4, a5, a6⟩ := hA
        exact Or.inr ⟨20 + p.1, by omega, by omega, by rw [a1]; exact a5, by omega⟩
    have hr := hF k q c nn σ h hq hKi trivial
    have hg := hG k q (by omega) hq
    show RRes tb L nT lw tst 1 3 least c0 n0 σ0 q0 o (bindR (f k q) _)
    generalize f k q = r at hr hg
    obtain ⟨k1, q1, ob⟩ := r
    cases ob with
    | none =>
      obtain ⟨σ1, x1, x2, x3⟩ := hr
      exact ⟨σ1, L0.trans x1, e0.trans (x2.mono (fun a j z => z.mono hc0 hn0)), x3⟩
    | some b =>
      obtain ⟨σ1, c1, t, x1, x2, x3, x4, x5, x6⟩ := hr
      obtain ⟨g1, g2, g3⟩ := hg
      have g2 : k1 ≤ nT := g2
      obtain ⟨g4, g5, g6, -⟩ := g3 b rfl
      have g4 : k < k1 := g4
      have g5 : q < q1 := g5
      have g6 : q1 ≤ 50 := g6
      have e1 : Ag (Sm9 c0 n0) σ0 σ1 := e0.trans (x2.mono (fun a j z => z.mono hc0 hn0))
      have hK1 : KB least n0 σ1 := hK.congr (fun i hi => (x2.2.2.2.2 138 i (by unfold Sm9; omega)).1)
      -- all that waits, from n0 on
      obtain ⟨T, t1, t2, t3⟩ : ∃ T, nn + t = n0 + T ∧ Pnd least c0 n0 T σ1 ∧ RSeg (setN1 (zi σ1 138) (zi σ1 139) n0 T (zi σ1 136, zi σ1 137, c1)).1 (setN1 (zi σ1 138) (zi σ1 139) n0 T (zi σ1 136, zi σ1 137, c1)).2.1 (lfB lw) c0 (setN1 (zi σ1 138) (zi σ1 139) n0 T (zi σ1 136, zi σ1 137, c1)).2.2 (q1 - q0) (accS cmbS acc b) := by
        cases acc with
        | none =>
          obtain ⟨rfl, rfl, rfl⟩ := hA
          exact ⟨t, rfl, x5.mono hl (Nat.le_refl _), x6⟩
        | some p =>
          obtain ⟨a1, a2, a3, a4, a5, a6⟩ := hA
          subst a1
          have p138 : zi σ1 138 n0 = iN (20 + p.1) := by
            rw [(x2.2.2.2.2 138 n0 (by unfold Sm9; omega)).1]
            exact a5
          refine ⟨1 + t, by omega, fun i h1 h2 => ?_, ?_⟩
          · by_cases z : i = n0
            · rw [z]
              exact ⟨20 + p.1, by omega, by omega, p138, by omega, fun y => by omega⟩
            · exact (x5.mono hl hc0) i (by omega) (by omega)
          · have A : RSeg (zi σ1 136) (zi σ1 137) (lfB lw) c0 c (q - q0) p.2 := a6.congr (fun y _ h2 => ⟨(x2.2.2.2.2 136 y (by unfold Sm9; omega)).1, (x2.2.2.2.2 137 y (by unfold Sm9; omega)).1⟩)
            have W := wait9 (x := (zi σ1 136, zi σ1 137, c1)) (o1 := p.1) x4 (fun i q1 q2 hj => by
              obtain ⟨o, y1, y2, y3, -, y5⟩ := x5 i q1 q2
              rw [y3] at hj
              obtain ⟨a, b1, b2, b3⟩ := y5 (hj.imp (fun z => (iN_inj (b := 29) (by omega) (by decide)).mp z) (fun z => (iN_inj (b := 30) (by omega) (by decide)).mp z))
              rw [b3, iN_nat (by omega)]
              exact b1) p138 a3 A x6
            rw [show q - q0 + (q1 - q) = q1 - q0 by omega] at W
            exact W
      rw [t1] at x3
      have hqq : q0 ≤ q := by
        cases acc with
        | none => have := hA.1; omega
        | some p => have := hA.2.1; omega
      show RRes tb L nT lw tst 1 3 least c0 n0 σ0 q0 o (match op (kdN tb L k1) with
        | none => (k1, q1, some (accS cmbS acc b))
        | some o => loopP f (kdN tb L) op cmbS m (some (o, accS cmbS acc b)) (k1 + 1) q1)
      cases hc : op (kdN tb L k1) with
      | none => exact ⟨σ1, c1, T, L0.trans x1, e1, x3, by omega, t2, t3⟩
      | some o2 =>
        obtain ⟨p1, p2, p3⟩ := hop _ _ hc
        have hlt := x3.1.lt (c := kdN tb L k1) rfl (fun e => by rw [e, hop0] at hc; cases hc)
        obtain ⟨σ2, c2, st, e2, h2, hc2, eq2, z138, z139⟩ := x3.settle hl6 t2 hK1 (show c0 ≤ c1 by omega)
        rw [← eq2] at t3
        have bk2 := q_ck125 h2.1.1
        have bk1 := q_ck125 x3.1.1
        obtain ⟨σ3, pu, e3, h3, y1, y2, y3, y4, y5⟩ := h2.push (ob := 20 + o2) (a := 0) (by omega) (by omega) (fun z => by omega) (by omega)
        have pu : s_X9_push 125 (iN (20 + o2)) 0 σ2 = _ := pu
        have bk3 := q_ck125 h3.1.1
        obtain ⟨σ4, nx, e4, h4⟩ := h3.next hlt
        have bi := binds9 (σ := σ1) (o := 20 + o2) (by omega) (by omega)
        rw [p3] at bi
        have nm1 : ¬ iN (20 + o2) = -1 := iN_ne (by omega)
        have bs := behindSum9 (tst := tst) x3.1
        rw [p2] at bs
        have r : s_X9_behindSum 125 tst σ1 = some (1, σ4) := by
          rw [bs]
          simp only [s_X9_behindSum_j71, nm1, bi, bk1, st, bk2, pu, bk3, nx, bos, cbs, if_false]
        have z4 : ∀ a, a ≠ 125 → zi σ4 a = zi σ3 a := fun a ha => funext fun i => (e4.2.2.2.2 a i (by unfold Sn9; omega)).1
        refine chain9 hl hl6 hki hF hG hop0 hop m (some (o2, accS cmbS acc b)) (k1 + 1) q1 c2 (n0 + 1) σ4 (by omega) h4 g6 ?_ (by omega) ?_ (L0.trans (x1.trans (RdL_sum x3.1.1 x3.2.1 r))) ?_
        · refine hK1.congr (fun i hi => ?_)
          rw [z4 138 (by decide), (y5 i (by omega)).1, z138]
        · exact ((e1.trans e2).trans (e3.mono (fun a j z => z.mono (by omega) (Nat.le_refl _)))).trans (e4.mono (fun a j z => z.sm))
        · exact ⟨rfl, by omega, p1, p3, by rw [z4 138 (by decide)]; exact y1, by rw [z4 136 (by decide), z4 137 (by decide), y3, y4]; exact t3⟩
theorem termB {c o : Nat} (h : termO c = some o) : o < 8 ∧ bopN c = iN (20 + o) ∧ bndN (20 + o) = 6 := by
  by_cases h1 : c = 42
  · subst h1
    rw [← Option.some.inj (show some 2 = some o from h)]
    exact ⟨by decide, rfl, rfl⟩
  by_cases h2 : c = 47
  · subst h2
    rw [← Option.some.inj (show some 3 = some o from h)]
    exact ⟨by decide, rfl, rfl⟩
  by_cases h3 : c = 37
  · subst h3
    rw [← Option.some.inj (show some 4 = some o from h)]
    exact ⟨by decide, rfl, rfl⟩
  unfold termO at h
  rw [if_neg h1, if_neg h2, if_neg h3] at h
  cases h
theorem sumB {c o : Nat} (h : sumO c = some o) : o < 8 ∧ bopN c = iN (20 + o) ∧ bndN (20 + o) = 5 := by
  by_cases h1 : c = 43
  · subst h1
    rw [← Option.some.inj (show some 0 = some o from h)]
    exact ⟨by decide, rfl, rfl⟩
  by_cases h2 : c = 45
  · subst h2
    rw [← Option.some.inj (show some 1 = some o from h)]
    exact ⟨by decide, rfl, rfl⟩
  unfold sumO at h
  rw [if_neg h1, if_neg h2] at h
  cases h
theorem term9 {f : Option (Nat → Nat → Res)} (hE : kdN tb L nT = 258) (hf : GoodO nT false f) (hp : RFn tb L nT lw tst 1 3 6 7 noC o (partP (kdN tb L) (nmN tb L) lw f)) : RFn tb L nT lw tst 1 3 6 6 noC o (termP (kdN tb L) (nmN tb L) lw nT f) := by
  intro k q c n σ h hq hK hC
  exact chain9 (least := 6) (li := 6) (kbI := 7) (by decide) (by decide) (by decide) hp (good_part hE hf) rfl (fun c o => termB) (nT + 1) none k q c n σ (by have := h.le; omega) h hq hK (Nat.le_refl _) Ag.refl rfl ⟨rfl, rfl, rfl⟩
theorem sum9 {f : Option (Nat → Nat → Res)} (hE : kdN tb L nT = 258) (hf : GoodO nT false f) (hp : RFn tb L nT lw tst 1 3 6 6 noC o (termP (kdN tb L) (nmN tb L) lw nT f)) : RFn tb L nT lw tst 1 3 5 5 noC o (sumP (kdN tb L) (nmN tb L) lw nT f) := by
  intro k q c n σ h hq hK hC
  exact chain9 (least := 5) (li := 6) (kbI := 6) (by decide) (by decide) (by decide) hp (good_term hE hf) rfl (fun c o => sumB) (nT + 1) none k q c n σ (by have := h.le; omega) h hq hK (Nat.le_refl _) Ag.refl rfl ⟨rfl, rfl, rfl⟩
/-! where chains end -/
theorem loop_end {kd : Nat → Nat} {f : Nat → Nat → Res} {op : Nat → Option Nat} {mk : Nat → Sem → Sem → Sem} {E : Nat → Prop} (hf : ∀ k q k1 q1 a, f k q = (k1, q1, some a) → E (kd k1)) : ∀ (m : Nat) (acc : Option (Nat × Sem)) (k q k1 q1 : Nat) (a : Sem), loopP f kd op mk m acc k q = (k1, q1, some a) → E (kd k1) ∧ op (kd k1) = none
  | 0, acc, k, q, k1, q1, a, h => by cases h
  | m + 1, acc, k, q, k1, q1, a, h => by
    have h : bindR (f k q) (fun k1 q1 b => match op (kd k1) with
      | none => (k1, q1, some (accS mk acc b))
      | some o => loopP f kd op mk m (some (o, accS mk acc b)) (k1 + 1) q1) = (k1, q1, some a) := h
    generalize hr : f k q = r at h
    obtain ⟨k2, q2, ob⟩ := r
    cases ob with
    | none => cases h
    | some b =>
      have h : (match op (kd k2) with
        | none => (k2, q2, some (accS mk acc b))
        | some o => loopP f kd op mk m (some (o, accS mk acc b)) (k2 + 1) q2) = (k1, q1, some a) := h
      cases hc : op (kd k2) with
      | none =>
        rw [hc] at h
        cases h
        exact ⟨hf _ _ _ _ _ hr, hc⟩
      | some o =>
        rw [hc] at h
        exact loop_end hf m _ _ _ _ _ _ h
theorem end_sum {kd nm : Nat → Nat} {f : Option (Nat → Nat → Res)} : EndS kd (sumP kd nm lw nT f) := fun k q k1 q1 a h =>
  (loop_end (E := fun c => termO c = none) (fun k q k1 q1 a h => (loop_end (E := fun _ => True) (fun _ _ _ _ _ _ => trivial) _ _ _ _ _ _ _ h).2) _ _ _ _ _ _ _ h).symm
theorem end_lvS {kd nm : Nat → Nat} (d : Nat) : EndS kd (lvS kd nm lw nT d) := by
  rw [lvS_eq]
  exact end_sum
/-- all levels of sums -/
theorem lvS9 (hE : kdN tb L nT = 258) : ∀ d, d ≤ 8 → RFn tb L nT lw tst 1 3 5 5 noC (8 - d) (lvS (kdN tb L) (nmN tb L) lw nT d)
  | d, hd => by
    rw [lvS_eq]
    refine sum9 hE (goodO_S hE d) (term9 hE (goodO_S hE d) (part9 (by omega) (fun h => ?_) (fun g h => ?_)))
    · cases d with
      | zero => rfl
      | succ d => cases h
    · cases d with
      | zero => cases h
      | succ d =>
        cases h
        refine ⟨by omega, ?_, end_lvS d, good_lvS hE d⟩
        have := lvS9 hE d (by omega)
        rw [show 8 - (d + 1) + 1 = 8 - d by omega]
        exact this
end RCH
