/-! ===== the reference's reader: a part ===== -/
def lfO : Lf := fun e o a => if o = 0 then Int32.toInt64 a else if o < 6 then Int32.toInt64 (e (o.toNatClampNeg - 1)) else if o = 6 then Int32.toInt64 (if 0 ≤ a ∧ a < 4 then e (5 + a.toNatClampNeg) else -1) else if o = 7 then Int32.toInt64 (if 0 ≤ a ∧ a < 3 then e (9 + a.toNatClampNeg) else -1) else Int32.toInt64 (if 0 ≤ a ∧ a < 6 then e (12 + a.toNatClampNeg) else -1)
def lfB (lw : Bool) : Lf := if lw = true then lfL else lfO
section RP
variable {σ : Hp} {tb : Nat → Nat} {L nT k b q c n o : Nat} {lw : Bool} {tst : Int32}
noncomputable def RdL (tst t : Int32) (σ : Hp) : Option (Nat × Hp) := s_X9_readExpression_l20 (125, tst, t) σ
theorem RdL_bad {t : Int32} (hS : SK σ) (h : zi σ 125 19 = 1) : RdL tst t σ = some (125, σ) := by
  have i19 := q_i125 (k := 19) hS
  rw [h] at i19
  refine loopF_out (body := fun v => s_X9_readExpression_b20 (v.1) (v.2.1) (v.2.2)) (v := (125, tst, t)) ?_
  simp only [s_X9_readExpression_b20, i19, z10', bos, if_false]
theorem RdL_part {t : Int32} {σ1 : Hp} (hS : SK σ) (h : zi σ 125 19 = 0) (r : s_X9_readPart 125 σ = some (t, σ1)) : RdL tst 1 σ = RdL tst t σ1 := by
  have i19 := q_i125 (k := 19) hS
  rw [h] at i19
  have bk := q_ck125 hS
  refine loopF_in (body := fun v => s_X9_readExpression_b20 (v.1) (v.2.1) (v.2.2)) (v := (125, tst, 1)) (v' := (125, tst, t)) ?_
  simp only [s_X9_readExpression_b20, s_X9_readExpression_j72, i19, bk, r, (show ¬ (1 : Int32) = 4 by decide), (show ¬ (1 : Int32) = 0 by decide), bos, cbs, if_true, if_false]
theorem RdL_plain {t : Int32} {σ1 : Hp} (hS : SK σ) (h : zi σ 125 19 = 0) (r : s_X9_readPlain 125 σ = some (t, σ1)) : RdL tst 0 σ = RdL tst t σ1 := by
  have i19 := q_i125 (k := 19) hS
  rw [h] at i19
  have bk := q_ck125 hS
  refine loopF_in (body := fun v => s_X9_readExpression_b20 (v.1) (v.2.1) (v.2.2)) (v := (125, tst, 0)) (v' := (125, tst, t)) ?_
  simp only [s_X9_readExpression_b20, s_X9_readExpression_j72, i19, bk, r, (show ¬ (0 : Int32) = 4 by decide), bos, cbs, if_true, if_false]
theorem RdL_sum {t : Int32} {σ1 : Hp} (hS : SK σ) (h : zi σ 125 19 = 0) (r : s_X9_behindSum 125 tst σ = some (t, σ1)) : RdL tst 3 σ = RdL tst t σ1 := by
  have i19 := q_i125 (k := 19) hS
  rw [h] at i19
  have bk := q_ck125 hS
  refine loopF_in (body := fun v => s_X9_readExpression_b20 (v.1) (v.2.1) (v.2.2)) (v := (125, tst, 3)) (v' := (125, tst, t)) ?_
  simp only [s_X9_readExpression_b20, s_X9_readExpression_j72, i19, bk, r, (show ¬ (3 : Int32) = 4 by decide), (show ¬ (3 : Int32) = 0 by decide), (show ¬ (3 : Int32) = 1 by decide), bos, cbs, if_true, if_false]
theorem RdL_test {t : Int32} {σ1 : Hp} (hS : SK σ) (h : zi σ 125 19 = 0) (r : s_X9_behindTest 125 σ = some (t, σ1)) : RdL tst 2 σ = RdL tst t σ1 := by
  have i19 := q_i125 (k := 19) hS
  rw [h] at i19
  have bk := q_ck125 hS
  refine loopF_in (body := fun v => s_X9_readExpression_b20 (v.1) (v.2.1) (v.2.2)) (v := (125, tst, 2)) (v' := (125, tst, t)) ?_
  simp only [s_X9_readExpression_b20, s_X9_readExpression_j72, i19, bk, r, (show ¬ (2 : Int32) = 4 by decide), (show ¬ (2 : Int32) = 0 by decide), (show ¬ (2 : Int32) = 1 by decide), (show ¬ (2 : Int32) = 3 by decide), bos, cbs, if_true, if_false]
def BadS (tb : Nat → Nat) (L k : Nat) (σ : Hp) : Prop := SK σ ∧ zi σ 125 19 = 1 ∧ zi σ 125 18 = iN (psN tb L k) ∧ ∃ c n, zi σ 125 23 = iN c ∧ zi σ 125 29 = iN n ∧ PV n σ ∧ n ≤ 400 ∧ c + wtF (zi σ 138) n ≤ 400
theorem RS.fail (h : RS tb L nT lw k b q c n o σ) : s_X9_must 125 0 σ = some ((), badH tb L k σ) ∧ BadS tb L k (badH tb L k σ) ∧ Ag (Sm9 c n) σ (badH tb L k σ) := by
  have hle := h.le
  obtain ⟨g1, g2, g3, g4, g5, g6, g7, g8, g9, g10, g11⟩ := h
  have m := must9_f g1 g2
  have e : Ag (fun a j => a = 125 ∧ (j = 18 ∨ j = 19)) σ (badH tb L k σ) := badH.ag
  obtain ⟨b1, b2⟩ := badH.bad (tb := tb) (L := L) (k := k) (σ := σ)
  generalize badH tb L k σ = τ at m e b1 b2
  have g : ∀ j, j ≠ 18 → j ≠ 19 → zi τ 125 j = zi σ 125 j := fun j h1 h2 => (e.2.2.2.2 125 j (by omega)).1
  have z : ∀ a, a ≠ 125 → zi τ a = zi σ a := fun a ha => funext fun i => (e.2.2.2.2 a i (by omega)).1
  exact ⟨m, ⟨g1.1.ag e, b1, b2, c, n, by rw [g 23 (by omega) (by omega)]; exact g5, by rw [g 29 (by omega) (by omega)]; exact g6, g8.congr (fun i _ => by rw [z 138 (by omega), z 139 (by omega)]; exact ⟨rfl, rfl⟩), by omega, by rw [z 138 (by omega)]; omega⟩, e.mono (fun a j q => by unfold Sm9; omega)⟩
theorem RS.up (h : RS tb L nT lw k b q c n o σ) {b1 : Nat} (h1 : b ≤ b1) (h2 : b1 ≤ k) : RS tb L nT lw k b1 q c n o σ := by
  obtain ⟨g1, g2, g3, g4, g5, g6, g7, g8, g9, g10, g11⟩ := h
  have := g1.2.2.2.1
  exact ⟨g1, g2, g3, g4, g5, g6, g7, g8, by omega, by omega, by omega⟩
/-- what comes of a piece read by the reference, from turn t0 to turn t1 -/
def RRes (tb : Nat → Nat) (L nT : Nat) (lw : Bool) (tst t0 t1 : Int32) (least c0 n0 : Nat) (σ0 : Hp) (q0 o : Nat) (r : Res) : Prop := match r with
  | (k1, q1, some a) => ∃ σ1 c1 t, RdL tst t0 σ0 = RdL tst t1 σ1 ∧ Ag (Sm9 c0 n0) σ0 σ1 ∧ RS tb L nT lw k1 k1 q1 c1 (n0 + t) o σ1 ∧ c0 ≤ c1 ∧ Pnd least c0 n0 t σ1 ∧
      RSeg (setN1 (zi σ1 138) (zi σ1 139) n0 t (zi σ1 136, zi σ1 137, c1)).1 (setN1 (zi σ1 138) (zi σ1 139) n0 t (zi σ1 136, zi σ1 137, c1)).2.1 (lfB lw) c0 (setN1 (zi σ1 138) (zi σ1 139) n0 t (zi σ1 136, zi σ1 137, c1)).2.2 (q1 - q0) a
  | (k1, _, none) => ∃ σ1, RdL tst t0 σ0 = some (125, σ1) ∧ Ag (Sm9 c0 n0) σ0 σ1 ∧ BadS tb L k1 σ1
def RFn (tb : Nat → Nat) (L nT : Nat) (lw : Bool) (tst t0 t1 : Int32) (least kb : Nat) (cond : Nat → Hp → Prop) (o : Nat) (f : Nat → Nat → Res) : Prop :=
  ∀ k q c n σ, RS tb L nT lw k k q c n o σ → q ≤ 50 → KB kb n σ → cond n σ → RRes tb L nT lw tst t0 t1 least c n σ q o (f k q)
def noC (_ : Nat) (_ : Hp) : Prop := True
/-- it ends where no operator of sums stands -/
def EndS (kd : Nat → Nat) (f : Nat → Nat → Res) : Prop := ∀ k q k1 q1 a, f k q = (k1, q1, some a) → sumO (kd k1) = none ∧ termO (kd k1) = none
/-- what the reference takes for a sign between sums -/
def bopN (c : Nat) : Int32 := match sumO c with
  | some o => iN (20 + o)
  | none => (match termO c with
    | some o => iN (20 + o)
    | none => -1)
theorem behindSum9 (h : RT tb L nT k σ) : s_X9_behindSum 125 tst σ = s_X9_behindSum_j71 125 tst (bopN (kdN tb L k)) σ := by
  have bk := q_ck125 h.1
  have s1 := iss9 h (c := 43) (by decide) (by decide)
  have s2 := iss9 h (c := 45) (by decide) (by decide)
  have s3 := iss9 h (c := 42) (by decide) (by decide)
  have s4 := iss9 h (c := 47) (by decide) (by decide)
  have s5 := iss9 h (c := 37) (by decide) (by decide)
  have s1 : s_X9_isSign 125 43 σ = _ := s1
  have s2 : s_X9_isSign 125 45 σ = _ := s2
  have s3 : s_X9_isSign 125 42 σ = _ := s3
  have s4 : s_X9_isSign 125 47 σ = _ := s4
  have s5 : s_X9_isSign 125 37 σ = _ := s5
  generalize kdN tb L k = d at s1 s2 s3 s4 s5
  have bt : ∀ p : Prop, [Decidable p] → p → bI (decide p) = 1 := fun p _ hp => by rw [decide_eq_true hp]; rfl
  have bf : ∀ p : Prop, [Decidable p] → ¬ p → bI (decide p) = 0 := fun p _ hp => by rw [decide_eq_false hp]; rfl
  by_cases c1 : d = 43
  · rw [bt _ c1] at s1
    subst c1
    simp only [s_X9_behindSum, bk, s1, z10', bos, cbs, if_false]
    rfl
  rw [bf _ c1] at s1
  by_cases c2 : d = 45
  · rw [bt _ c2] at s2
    subst c2
    simp only [s_X9_behindSum, bk, s1, s2, z10', bos, cbs, if_true, if_false]
    rfl
  rw [bf _ c2] at s2
  by_cases c3 : d = 42
  · rw [bt _ c3] at s3
    subst c3
    simp only [s_X9_behindSum, bk, s1, s2, s3, z10', bos, cbs, if_true, if_false]
    rfl
  rw [bf _ c3] at s3
  by_cases c4 : d = 47
  · rw [bt _ c4] at s4
    subst c4
    simp only [s_X9_behindSum, bk, s1, s2, s3, s4, z10', bos, cbs, if_true, if_false]
    rfl
  rw [bf _ c4] at s4
  by_cases c5 : d = 37
  · rw [bt _ c5] at s5
    subst c5
    simp only [s_X9_behindSum, bk, s1, s2, s3, s4, s5, z10', bos, cbs, if_true, if_false]
    rfl
  rw [bf _ c5] at s5
  have e : bopN d = -1 := by
    unfold bopN sumO termO
    rw [if_neg c1, if_neg c2, if_neg c3, if_neg c4, if_neg c5]
  rw [e]
  simp only [s_X9_behindSum, bk, s1, s2, s3, s4, s5, z10', bos, cbs, if_true, if_false]
theorem inn_up {po : Nat → Int32} {n : Nat} : ∀ t, (∀ i, n ≤ i → i < n + t → po i < 31) → innN po (n + t) = innN po n
  | 0, _ => rfl
  | t + 1, h => by
    show (if po (n + t) < 31 then innN po (n + t) else po (n + t)) = _
    rw [if_pos (h (n + t) (by omega) (by omega))]
    exact inn_up t (fun i h1 h2 => h i h1 (by omega))
theorem Pnd.lt31 {least c0 t : Nat} (h : Pnd least c0 n t σ) : ∀ i, n ≤ i → i < n + t → zi σ 138 i < 31 := fun i h1 h2 => by
  obtain ⟨o, a1, a2, a3, -⟩ := h i h1 h2
  rw [a3]
  exact (iN_lt (b := 31) (by omega) (by decide)).mpr (by omega)
/-- a bracket is opened -/
theorem open9_f {ob : Int32} (h : RS tb L nT lw k b q c n o σ) (ho : 8 ≤ o) (ho2 : o < 1000) : s_X9_openBracket 125 ob σ = some ((), badH tb L k σ) := by
  obtain ⟨m, bs, -⟩ := h.fail
  have i30 := q_i125 (k := 30) h.1.1
  rw [h.2.2.2.2.2.2.1] at i30
  have f : 8 ≤ iN o := (iN_le (a := 8) (by decide) (by omega)).mpr ho
  have bk := q_ck125 h.1.1
  have i19 := q_i125 (k := 19) bs.1
  rw [bs.2.1] at i19
  simp only [s_X9_openBracket, s_X9_openBracket_j15, i30, f, bk, m, i19, z10', bos, cbs, if_true, if_false]
theorem open9_t {ob : Nat} (h : RS tb L nT lw k k q c n o σ) (hk : k < nT) (ho : o < 8) (h1 : 31 ≤ ob) (h2 : ob ≤ 32) : ∃ σ1, s_X9_openBracket 125 (iN ob) σ = some ((), σ1) ∧ Ag (Sm9 c n) σ σ1 ∧ RS tb L nT lw (k + 1) (k + 1) q c (n + 1) (o + 1) σ1 ∧ zi σ1 138 n = iN ob ∧ (∀ i, i < n → zi σ1 138 i = zi σ 138 i) ∧ zi σ1 136 = zi σ 136 ∧ zi σ1 137 = zi σ 137 := by
  have i30 := q_i125 (k := 30) h.1.1
  rw [h.2.2.2.2.2.2.1] at i30
  have f : ¬ 8 ≤ iN o := fun z => by have := (iN_le (a := 8) (by decide) (by omega)).mp z; omega
  have bk := q_ck125 h.1.1
  obtain ⟨σ1, m1, e1, h1'⟩ := h.must hk
  have i19 := q_i125 (k := 19) h1'.1.1
  rw [h1'.2.1] at i19
  have i30b := q_i125 (k := 30) h1'.1.1
  rw [h1'.2.2.2.2.2.2.1] at i30b
  have o1 : iN o + 1 = iN (o + 1) := iN_add o 1
  have w30 := q_w125 (k := 30) (v := iN (o + 1)) h1'.1.1
  obtain ⟨e2, h2', x1, x2, x3, x4⟩ := h1'.set (j := 30) (v := iN (o + 1)) (Or.inr rfl)
  have h3 := h2' q (o + 1) (fun z => by cases z) (fun _ => ⟨rfl, rfl⟩)
  generalize zsi σ1 125 30 (iN (o + 1)) = σ2 at w30 e2 h3 x1 x2 x3 x4
  have bk2 := q_ck125 h3.1.1
  obtain ⟨σ3, p, e3, h4, y1, y2, y3, y4, y5⟩ := h3.push (ob := ob) (a := 0) (by omega) h2 (fun z => by omega) (by have := h3.le; omega)
  have p : s_X9_push 125 (iN ob) 0 σ2 = some ((), σ3) := p
  have z136 : zi σ1 136 = zi σ 136 := funext fun i => (e1.2.2.2.2 136 i (by unfold Sn9; omega)).1
  have z137 : zi σ1 137 = zi σ 137 := funext fun i => (e1.2.2.2.2 137 i (by unfold Sn9; omega)).1
  have z138 : zi σ1 138 = zi σ 138 := funext fun i => (e1.2.2.2.2 138 i (by unfold Sn9; omega)).1
  refine ⟨σ3, ?_, ((e1.mono (fun a k z => z.sm)).trans e2).trans e3, h4, y1, fun i hi => by rw [(y5 i (by omega)).1, x3, z138], by rw [y3, x1, z136], by rw [y4, x2, z137]⟩
  simp only [s_X9_openBracket, s_X9_openBracket_j15, i30, f, bk, m1, i19, i30b, o1, w30, bk2, p, bos, cbs, if_true, if_false]
/-- a leaf -/
theorem leaf9_f {is : Int32} {op ar : Int32} (h : RS tb L nT lw k b q c n o σ) (hq : q ≤ 1000) (hb : is = 0 ∨ 50 ≤ q) : s_X9_leaf 125 is op ar σ = some ((), badH tb L k σ) := by
  obtain ⟨m, bs, -⟩ := h.fail
  have bk := q_ck125 h.1.1
  have i19 := q_i125 (k := 19) bs.1
  rw [bs.2.1] at i19
  have i26 := q_i125 (k := 26) h.1.1
  rw [h.2.2.2.1] at i26
  by_cases c1 : is = 0
  · simp only [s_X9_leaf, s_X9_leaf_j18, s_X9_leaf_j19, c1, bk, m, i19, z10', bos, cbs, if_true, if_false]
  · have hq2 : 50 ≤ q := by
      rcases hb with z | z
      · exact absurd z c1
      · exact z
    have f : 50 ≤ iN q := (iN_le (a := 50) (by decide) (by omega)).mpr hq2
    simp only [s_X9_leaf, s_X9_leaf_j18, s_X9_leaf_j19, c1, i26, f, bk, m, i19, z10', bos, cbs, if_true, if_false]
theorem leaf9_t {op ar : Int32} (h : RS tb L nT lw k k q c n o σ) (hk : k < nT) (hq : q < 50) : ∃ σ1, s_X9_leaf 125 1 op ar σ = some ((), σ1) ∧ Ag (Sm9 c n) σ σ1 ∧ RS tb L nT lw (k + 1) (k + 1) (q + 1) (c + 1) n o σ1 ∧ zi σ1 136 c = op ∧ zi σ1 137 c = ar := by
  have i26 := q_i125 (k := 26) h.1.1
  rw [h.2.2.2.1] at i26
  have f : ¬ 50 ≤ iN q := fun z => by have := (iN_le (a := 50) (by decide) (by omega)).mp z; omega
  have bk := q_ck125 h.1.1
  obtain ⟨σ1, m1, e1, h1⟩ := h.must hk
  have i19 := q_i125 (k := 19) h1.1.1
  rw [h1.2.1] at i19
  have bk1 := q_ck125 h1.1.1
  obtain ⟨σ2, em, e2, h2, x1, x2, x3, x4⟩ := h1.emit (by have := h1.le; omega) op ar
  have i26b := q_i125 (k := 26) h2.1.1
  rw [h2.2.2.2.1] at i26b
  have q1 : iN q + 1 = iN (q + 1) := iN_add q 1
  have w := q_w125 (k := 26) (v := iN (q + 1)) h2.1.1
  obtain ⟨e3, h3, y1, y2, y3, y4⟩ := h2.set (j := 26) (v := iN (q + 1)) (Or.inl rfl)
  have h4 := h3 (q + 1) o (fun _ => ⟨rfl, rfl⟩) (fun z => by cases z)
  generalize zsi σ2 125 26 (iN (q + 1)) = σ3 at w e3 h4 y1 y2 y3 y4
  refine ⟨σ3, ?_, ((e1.mono (fun a k z => z.sm)).trans e2).trans (e3.mono (fun a k z => z.mono (by omega) (Nat.le_refl _))), h4, by rw [y1, x1]; exact up_eq, by rw [y2, x2]; exact up_eq⟩
  simp only [s_X9_leaf, s_X9_leaf_j19, i26, f, bk, m1, i19, bk1, em, i26b, q1, w, z10', bos, cbs, if_true, if_false]
theorem RRes.bad {tst t0 t1 : Int32} {t : Int32} {least c0 n0 k1 q0 q1 : Nat} {σ0 σ1 : Hp} (e : RdL tst t0 σ0 = RdL tst t σ1) (ea : Ag (Sm9 c0 n0) σ0 σ1) (hb : BadS tb L k1 σ1) : RRes tb L nT lw tst t0 t1 least c0 n0 σ0 q0 o (k1, q1, none) := ⟨σ1, e.trans (RdL_bad hb.1 hb.2.1), ea, hb⟩
end RP
