/-! ===== the class's reader: chains, plain tests, all levels ===== -/
section CR2
variable {σ : Hp} {tb : Nat → Nat} {L nT k q sc o : Nat} {lw : Bool} {rc : RCT}
def st8 : Option Nat → Int32
  | none => -1
  | some o => iN (2 + o)
theorem sumStep8 {c : Nat} (hc : c < 400) : s_X4_sumStepOf (iN c) σ = some (st8 (sumO c), σ) := by
  by_cases h1 : c = 43
  · subst h1; rfl
  by_cases h2 : c = 45
  · subst h2; rfl
  have n1 : ¬ iN c = 43 := fun q => absurd ((iN_inj (b := 43) (by omega) (by decide)).mp q) h1
  have n2 : ¬ iN c = 45 := fun q => absurd ((iN_inj (b := 45) (by omega) (by decide)).mp q) h2
  have e : sumO c = none := by unfold sumO; rw [if_neg h1, if_neg h2]
  rw [e]
  simp only [s_X4_sumStepOf, n1, n2, if_false]
  rfl
theorem termStep8 {c : Nat} (hc : c < 400) : s_X4_termStepOf (iN c) σ = some (st8 (termO c), σ) := by
  by_cases h1 : c = 42
  · subst h1; rfl
  by_cases h2 : c = 47
  · subst h2; rfl
  by_cases h3 : c = 37
  · subst h3; rfl
  have n1 : ¬ iN c = 42 := fun q => absurd ((iN_inj (b := 42) (by omega) (by decide)).mp q) h1
  have n2 : ¬ iN c = 47 := fun q => absurd ((iN_inj (b := 47) (by omega) (by decide)).mp q) h2
  have n3 : ¬ iN c = 37 := fun q => absurd ((iN_inj (b := 37) (by omega) (by decide)).mp q) h3
  have e : termO c = none := by unfold termO; rw [if_neg h1, if_neg h2, if_neg h3]
  rw [e]
  simp only [s_X4_termStepOf, n1, n2, n3, if_false]
  rfl
theorem cmpStep8 {c : Nat} (hc : c < 400) : s_X4_comparisonOf (iN c) σ = some (st8 (cmpO c), σ) := by
  by_cases h1 : c = 60
  · subst h1; rfl
  by_cases h2 : c = 62
  · subst h2; rfl
  by_cases h3 : c = 61
  · subst h3; rfl
  have n1 : ¬ iN c = 60 := fun q => absurd ((iN_inj (b := 60) (by omega) (by decide)).mp q) h1
  have n2 : ¬ iN c = 62 := fun q => absurd ((iN_inj (b := 62) (by omega) (by decide)).mp q) h2
  have n3 : ¬ iN c = 61 := fun q => absurd ((iN_inj (b := 61) (by omega) (by decide)).mp q) h3
  have e : cmpO c = none := by unfold cmpO; rw [if_neg h1, if_neg h2, if_neg h3]
  rw [e]
  simp only [s_X4_comparisonOf, n1, n2, n3, if_false]
  rfl
theorem sumO_lt {c o : Nat} (h : sumO c = some o) : o < 8 := by
  unfold sumO at h
  split at h
  · rw [← Option.some.inj h]; decide
  · split at h
    · rw [← Option.some.inj h]; decide
    · cases h
theorem termO_lt {c o : Nat} (h : termO c = some o) : o < 8 := by
  unfold termO at h
  split at h
  · rw [← Option.some.inj h]; decide
  · split at h
    · rw [← Option.some.inj h]; decide
    · split at h
      · rw [← Option.some.inj h]; decide
      · cases h
theorem cmpO_lt {c o : Nat} (h : cmpO c = some o) : o < 8 ∧ 5 ≤ o := by
  unfold cmpO at h
  split at h
  · rw [← Option.some.inj h]; decide
  · split at h
    · rw [← Option.some.inj h]; decide
    · split at h
      · rw [← Option.some.inj h]; decide
      · cases h
/-- what a chain of a sum or term carries -/
def AccS (s0 k0 q0 k q sc : Nat) (s : Nat → Int32) : Option (Nat × Sem) → Prop
  | none => k = k0 ∧ q = q0 ∧ sc = s0
  | some p => sc + 1 + k0 ≤ s0 + k ∧ q0 < q ∧ p.1 < 8 ∧ CSeg s s0 sc (q - q0) p.2
theorem chain8 {sg : Int32} {f : Nat → Nat → Res} {run : Hp → Option (Int32 × Hp)} {op : Nat → Option Nat} (hC : CFn tb L nT lw f run) (hG : Good nT false f) (hop : op 258 = none) (hop2 : ∀ c o, op c = some o → o < 8)
    (hb : ∀ l3 k q sc σ, k ≤ nT → CP tb L nT lw k q sc σ → s_X4_readSum_b5 rc 100 sg (iN o) l3 1 σ = cb (run σ) fun v s => if v = 0 then some (Sum.inr 0, s) else s_X4_readSum_j47 rc 100 sg (iN o) l3 s)
    (hst : ∀ k q sc σ, k ≤ nT → CP tb L nT lw k q sc σ → s_X4_readSum_j58 rc 100 sg (iN o) σ = s_X4_readSum_j79 rc 100 sg (iN o) (st8 (op (kdN tb L k))) σ) {s0 k0 q0 : Nat} {σ0 : Hp} (hs0k : s0 ≤ k0) :
    ∀ (n : Nat) (acc : Option (Nat × Sem)) (k q sc : Nat) (σ : Hp), nT < k + n → k ≤ nT → q ≤ 50 → sc ≤ k → CP tb L nT lw k q sc σ → Ag (Sp s0) σ0 σ → AccS s0 k0 q0 k q sc (zi σ 104) acc →
    CRes tb L nT lw s0 σ0 k0 q0 (s_X4_readSum_l5 rc (100, sg, iN o, st8 (acc.map Prod.fst), 1) σ) (loopP f (kdN tb L) op cmbS n acc k q)
  | 0, acc, k, q, sc, σ, hn, hk, _, _, _, _, _ => by omega
  | n + 1, acc, k, q, sc, σ, hn, hk, hq, hsc, h, e0, ha => by
    have hE := h.2.1.kE
    have hL := h.2.1.2.1
    have hnL := h.2.1.1
    have hr := hC k q sc σ hk hq hsc h
    have hg := hG k q hk hq
    have hB := hb (st8 (acc.map Prod.fst)) k q sc σ hk h
    have hs0 : s0 ≤ sc := by
      cases acc with
      | none => have := ha.2.2; omega
      | some p => have := ha.2.2.2.1; omega
    show CRes tb L nT lw s0 σ0 k0 q0 _ (bindR (f k q) _)
    generalize f k q = r at hr hg
    obtain ⟨k1, q1, ob⟩ := r
    cases ob with
    | none =>
      obtain ⟨σ1, x1, x2, x3⟩ := hr
      refine ⟨σ1, ?_, (agF e0).trans (x2.mono (fun a k q => q.mono hs0)), x3⟩
      refine loopF_out (body := fun v => s_X4_readSum_b5 rc (v.1) (v.2.1) (v.2.2.1) (v.2.2.2.1) (v.2.2.2.2)) (v := (100, sg, iN o, st8 (acc.map Prod.fst), 1)) ?_
      refine hB.trans ?_
      rw [x1, cbs, if_pos rfl]
    | some b =>
      obtain ⟨σ1, sc1, x1, x2, x3, x4, x5⟩ := hr
      obtain ⟨g1, g2, g3⟩ := hg
      have g2 : k1 ≤ nT := g2
      obtain ⟨g4, g5, g6, -⟩ := g3 b rfl
      have g4 : k < k1 := g4
      have g5 : q < q1 := g5
      have g6 : q1 ≤ 50 := g6
      have hse := x5.1
      have hB2 : s_X4_readSum_b5 rc 100 sg (iN o) (st8 (acc.map Prod.fst)) 1 σ = s_X4_readSum_j47 rc 100 sg (iN o) (st8 (acc.map Prod.fst)) σ1 := by
        rw [hB, x1, cbs, if_neg z10']
      -- the step of the chain
      obtain ⟨σ2, sc2, y1, y2, y3, y4, y5⟩ : ∃ σ2 sc2, s_X4_readSum_j47 rc 100 sg (iN o) (st8 (acc.map Prod.fst)) σ1 = s_X4_readSum_j58 rc 100 sg (iN o) σ2 ∧ Ag (Sp s0) σ0 σ2 ∧ CP tb L nT lw k1 q1 sc2 σ2 ∧ sc2 + k0 ≤ s0 + k1 ∧ CSeg (zi σ2 104) s0 sc2 (q1 - q0) (accS cmbS acc b) := by
        have e1 : Ag (Sp s0) σ0 σ1 := e0.trans (x2.mono (fun a k q => q.mono hs0))
        cases acc with
        | none =>
          obtain ⟨rfl, rfl, rfl⟩ := ha
          refine ⟨σ1, sc1, ?_, e1, x3, by omega, x5⟩
          show s_X4_readSum_j47 rc 100 sg (iN o) (-1) σ1 = _
          unfold s_X4_readSum_j47
          rw [if_pos rfl]
        | some p =>
          obtain ⟨a1, a2, a3, a4⟩ := ha
          obtain ⟨σ2, c1, c2, c3, c4⟩ := added8 x3 (by omega) (2 + p.1) 0
          have c1 : s_X4_addStep 100 (iN (2 + p.1)) 0 σ1 = _ := c1
          refine ⟨σ2, sc1 + 1, ?_, e1.trans (c2.mono (fun a k q => q.mono (by omega))), c3, by omega, ?_⟩
          · show s_X4_readSum_j47 rc 100 sg (iN o) (iN (2 + p.1)) σ1 = _
            have kk := q_ck100 x3.1
            unfold s_X4_readSum_j47
            rw [if_neg (iN_ne (by omega)), kk, bos, c1, cbs]
          · have A : CSeg (zi σ2 104) s0 sc (q - q0) p.2 := a4.congr (fun x h1 h2 => by
              rw [(c2.2.2.2.2 104 x (by unfold Sp; omega)).1, (x2.2.2.2.2 104 x (by unfold Sp; omega)).1])
            have B : CSeg (zi σ2 104) sc sc1 (q1 - q) b := x5.congr (fun x h1 h2 => (c2.2.2.2.2 104 x (by unfold Sp; omega)).1)
            have hw : zi σ2 104 sc1 &&& 15 = iN (2 + p.1) := by
              rw [c4]
              exact (stW_ok (by omega) (by omega)).1
            have C := c_bin A B a3 hw
            rwa [show q - q0 + (q1 - q) = q1 - q0 by omega] at C
      have y6 := hst k1 q1 sc2 σ2 g2 y3
      have hse2 := y5.1
      show CRes tb L nT lw s0 σ0 k0 q0 _ (match op (kdN tb L k1) with
        | none => (k1, q1, some (accS cmbS acc b))
        | some o => loopP f (kdN tb L) op cmbS n (some (o, accS cmbS acc b)) (k1 + 1) q1)
      cases c : op (kdN tb L k1) with
      | none =>
        rw [c] at y6
        refine ⟨σ2, sc2, ?_, y2, y3, y4, y5⟩
        have b1 : s_X4_readSum_b5 rc 100 sg (iN o) (st8 (acc.map Prod.fst)) 1 σ = some (Sum.inl (100, sg, iN o, -1, 0), σ2) := by
          rw [hB2, y1, y6]
          show s_X4_readSum_j79 rc 100 sg (iN o) (-1) σ2 = _
          unfold s_X4_readSum_j79
          rw [if_pos rfl]
          unfold s_X4_readSum_j90
          rw [if_pos rfl]
        have b2 : s_X4_readSum_b5 rc 100 sg (iN o) (-1) 0 σ2 = some (Sum.inr 1, σ2) := by
          unfold s_X4_readSum_b5
          rw [if_pos rfl]
        exact (loopF_in (body := fun v => s_X4_readSum_b5 rc (v.1) (v.2.1) (v.2.2.1) (v.2.2.2.1) (v.2.2.2.2)) (v := (100, sg, iN o, st8 (acc.map Prod.fst), 1)) b1).trans (loopF_out (body := fun v => s_X4_readSum_b5 rc (v.1) (v.2.1) (v.2.2.1) (v.2.2.2.1) (v.2.2.2.2)) (v := (100, sg, iN o, -1, 0)) b2)
      | some o2 =>
        rw [c] at y6
        have ho2 := hop2 _ _ c
        have hlt : k1 < nT := kd_lt hE g2 rfl (fun e => by rw [e, hop] at c; cases c)
        have i6 := q_i100 (k := 6) y3.1
        rw [y3.2.2.1] at i6
        have w6 := q_w100 (k := 6) (v := iN (k1 + 1)) y3.1
        have i1 : iN k1 + 1 = iN (k1 + 1) := iN_add k1 1
        obtain ⟨eN, hN⟩ := y3.next
        have e104 : ∀ x, zi (zsi σ2 100 6 (iN (k1 + 1))) 104 x = zi σ2 104 x := fun x => by rw [zi_ne (by decide)]
        generalize zsi σ2 100 6 (iN (k1 + 1)) = σ3 at w6 eN hN e104
        have b1 : s_X4_readSum_b5 rc 100 sg (iN o) (st8 (acc.map Prod.fst)) 1 σ = some (Sum.inl (100, sg, iN o, iN (2 + o2), 1), σ3) := by
          rw [hB2, y1, y6]
          show s_X4_readSum_j79 rc 100 sg (iN o) (iN (2 + o2)) σ2 = _
          unfold s_X4_readSum_j79
          rw [if_neg (iN_ne (by omega))]
          unfold s_X4_readSum_j90
          rw [if_neg z10', i6, bos, i1, w6, bos]
        have IH := chain8 hC hG hop hop2 hb hst (s0 := s0) (k0 := k0) (q0 := q0) (σ0 := σ0) hs0k n (some (o2, accS cmbS acc b)) (k1 + 1) q1 sc2 σ3 (by omega) (by omega) g6 (by
          cases acc with
          | none => obtain ⟨rfl, rfl, rfl⟩ := ha; omega
          | some p => have := ha.1; omega) hN (y2.trans (eN.mono (fun a k q => q.mono (by omega)))) ⟨by omega, by
          cases acc with
          | none => obtain ⟨rfl, rfl, rfl⟩ := ha; omega
          | some p => have := ha.2.1; omega, ho2, y5.congr (fun x _ _ => e104 x)⟩
        have lp := loopF_in (body := fun v => s_X4_readSum_b5 rc (v.1) (v.2.1) (v.2.2.1) (v.2.2.2.1) (v.2.2.2.2)) (v := (100, sg, iN o, st8 (acc.map Prod.fst), 1)) b1
        show CRes tb L nT lw s0 σ0 k0 q0 (loopF (fun v => s_X4_readSum_b5 rc (v.1) (v.2.1) (v.2.2.1) (v.2.2.2.1) (v.2.2.2.2)) (100, sg, iN o, st8 (acc.map Prod.fst), 1) σ) _
        rw [lp]
        exact IH
theorem sumTop8 {sg : Int32} {f : Nat → Nat → Res} {run : Hp → Option (Int32 × Hp)} {op : Nat → Option Nat} (hC : CFn tb L nT lw f run) (hG : Good nT false f) (hop : op 258 = none) (hop2 : ∀ c o, op c = some o → o < 8)
    (hb : ∀ l3 k q sc σ, k ≤ nT → CP tb L nT lw k q sc σ → s_X4_readSum_b5 rc 100 sg (iN o) l3 1 σ = cb (run σ) fun v s => if v = 0 then some (Sum.inr 0, s) else s_X4_readSum_j47 rc 100 sg (iN o) l3 s)
    (hst : ∀ k q sc σ, k ≤ nT → CP tb L nT lw k q sc σ → s_X4_readSum_j58 rc 100 sg (iN o) σ = s_X4_readSum_j79 rc 100 sg (iN o) (st8 (op (kdN tb L k))) σ) :
    CFn tb L nT lw (fun k q => loopP f (kdN tb L) op cmbS (nT + 1) none k q) (fun σ => s_X4_readSum rc 100 sg (iN o) σ) := by
  intro k q sc σ hk hq hsc h
  have X := chain8 hC hG hop hop2 hb hst (s0 := sc) (k0 := k) (q0 := q) (σ0 := σ) hsc (nT + 1) none k q sc σ (by omega) hk hq hsc h Ag.refl ⟨rfl, rfl, rfl⟩
  have X : CRes tb L nT lw sc σ k q (s_X4_readSum_l5 rc (100, sg, iN o, -1, 1) σ) _ := X
  have e : s_X4_readSum rc 100 sg (iN o) σ = s_X4_readSum_l5 rc (100, sg, iN o, -1, 1) σ := by
    unfold s_X4_readSum cb
    cases s_X4_readSum_l5 rc (100, sg, iN o, -1, 1) σ with
    | none => rfl
    | some p => rfl
  show CRes tb L nT lw sc σ k q (s_X4_readSum rc 100 sg (iN o) σ) _
  rw [e]
  exact X
theorem b5_head (h : CP tb L nT lw k q sc σ) (hk : k ≤ nT) : rdI 4 σ 100 6 = some (iN k) ∧ rdI 4 σ 100 5 = some (iN nT) ∧ ¬ iN nT < iN k := by
  have hn := h.2.1.1
  have hL := h.2.1.2.1
  have i6 := q_i100 (k := 6) h.1
  rw [h.2.2.1] at i6
  have i5 := q_i100 (k := 5) h.1
  rw [h.2.1.2.2.2.1] at i5
  exact ⟨i6, i5, fun q => absurd ((iN_lt (by omega) (by omega)).mp q) (by omega)⟩
theorem term8 {f : Option (Nat → Nat → Res)} (hE : kdN tb L nT = 258) (hf : GoodO nT false f) (hp : CFn tb L nT lw (partP (kdN tb L) (nmN tb L) lw f) (fun σ => rc 3 100 (iN o) 0 σ)) : CFn tb L nT lw (termP (kdN tb L) (nmN tb L) lw nT f) (fun σ => s_X4_readSum rc 100 1 (iN o) σ) :=
  sumTop8 hp (good_part hE hf) rfl (fun _ _ => termO_lt) (fun l3 k q sc σ hk h => by
    obtain ⟨a, b, c⟩ := b5_head h hk
    have kk := q_ck100 h.1
    unfold s_X4_readSum_b5
    rw [if_neg z10', a, bos, b, bos, if_neg c, if_neg z10', kk, bos]) (fun k q sc σ hk h => by
    have kk := q_ck100 h.1
    have kd := kind8 h hk
    have := kdN_lt (L := L) (k := k) h.2.1.2.2.1
    unfold s_X4_readSum_j58
    rw [if_neg z10', kk, bos, kd, cbs, termStep8 (by omega), cbs])
theorem sum8 {f : Option (Nat → Nat → Res)} (hE : kdN tb L nT = 258) (hf : GoodO nT false f) (hp : CFn tb L nT lw (termP (kdN tb L) (nmN tb L) lw nT f) (fun σ => rc 2 100 1 (iN o) σ)) : CFn tb L nT lw (sumP (kdN tb L) (nmN tb L) lw nT f) (fun σ => s_X4_readSum rc 100 0 (iN o) σ) :=
  sumTop8 hp (good_term hE hf) rfl (fun _ _ => sumO_lt) (fun l3 k q sc σ hk h => by
    obtain ⟨a, b, c⟩ := b5_head h hk
    have kk := q_ck100 h.1
    unfold s_X4_readSum_b5
    rw [if_neg z10', a, bos, b, bos, if_neg c, if_pos rfl, kk, bos]) (fun k q sc σ hk h => by
    have kk := q_ck100 h.1
    have kd := kind8 h hk
    have := kdN_lt (L := L) (k := k) h.2.1.2.2.1
    unfold s_X4_readSum_j58
    rw [if_pos rfl, kk, bos, kd, cbs, sumStep8 (by omega), cbs])
end CR2
