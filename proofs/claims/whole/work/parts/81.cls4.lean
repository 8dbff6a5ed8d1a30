/-! ===== the class's reader: tests ===== -/
section CR3
variable {σ : Hp} {tb : Nat → Nat} {L nT k q sc o : Nat} {lw : Bool} {rc : RCT}
/-- what a chain of tests carries: the skip that waits stands at sc - 1 -/
def AccT (or : Bool) (s0 k0 q0 k q sc : Nat) (s : Nat → Int32) : Option (Nat × Sem) → Prop
  | none => k = k0 ∧ q = q0 ∧ sc = s0
  | some p => sc + k0 ≤ s0 + k ∧ q0 < q ∧ p.1 = (if or = true then 1 else 0) ∧ ∃ sA, sc = sA + 1 ∧ s sA = stW 0 (if or = true then 11 else 12) ∧ CSeg s s0 sA (q - q0) p.2
def sk8 (sc : Nat) : Option (Nat × Sem) → Int32
  | none => -1
  | some _ => iN (sc - 1)
theorem chainT8 {or : Bool} {lk : Nat} (hlk : lk = if or = true then 304 else 305) {f : Nat → Nat → Res} {run : Hp → Option (Int32 × Hp)} {op : Nat → Option Nat} (hC : CFn tb L nT lw f run) (hG : Good nT true f) (hop : ∀ c, op c = if c = lk then some (if or = true then 1 else 0) else none)
    (hb : ∀ l3 k q sc σ, k ≤ nT → CP tb L nT lw k q sc σ → s_X4_readTest_b5 rc 100 (iN lk) (iN o) l3 1 σ = cb (run σ) fun v s => if v = 0 then some (Sum.inr 0, s) else s_X4_readTest_j52 rc 100 (iN lk) (iN o) l3 s) {s0 k0 q0 : Nat} {σ0 : Hp} (hs0k : s0 ≤ k0) :
    ∀ (n : Nat) (acc : Option (Nat × Sem)) (k q sc : Nat) (σ : Hp), nT < k + n → k ≤ nT → q ≤ 50 → sc ≤ k → CP tb L nT lw k q sc σ → Ag (Sp s0) σ0 σ → AccT or s0 k0 q0 k q sc (zi σ 104) acc →
    CRes tb L nT lw s0 σ0 k0 q0 (s_X4_readTest_l5 rc (100, iN lk, iN o, sk8 sc acc, 1) σ) (loopP f (kdN tb L) op lnkS n acc k q)
  | 0, acc, k, q, sc, σ, hn, hk, _, _, _, _, _ => by omega
  | n + 1, acc, k, q, sc, σ, hn, hk, hq, hsc, h, e0, ha => by
    have hE := h.2.1.kE
    have hL := h.2.1.2.1
    have hnL := h.2.1.1
    have hlk4 : lk < 400 := by
      rw [hlk]
      cases or <;> decide
    have hr := hC k q sc σ hk hq hsc h
    have hg := hG k q hk hq
    have hB := hb (sk8 sc acc) k q sc σ hk h
    have hs0 : s0 ≤ sc := by
      cases acc with
      | none => have := ha.2.2; omega
      | some p =>
        obtain ⟨-, -, -, sA, a1, -, a2⟩ := ha
        have := a2.1
        omega
    show CRes tb L nT lw s0 σ0 k0 q0 _ (bindR (f k q) _)
    generalize f k q = r at hr hg
    obtain ⟨k1, q1, ob⟩ := r
    cases ob with
    | none =>
      obtain ⟨σ1, x1, x2, x3⟩ := hr
      refine ⟨σ1, ?_, (agF e0).trans (x2.mono (fun a k q => q.mono hs0)), x3⟩
      refine loopF_out (body := fun v => s_X4_readTest_b5 rc (v.1) (v.2.1) (v.2.2.1) (v.2.2.2.1) (v.2.2.2.2)) (v := (100, iN lk, iN o, sk8 sc acc, 1)) ?_
      refine hB.trans ?_
      rw [x1, cbs, if_pos rfl]
    | some b =>
      obtain ⟨σ1, sc1, x1, x2, x3, x4, x5⟩ := hr
      obtain ⟨g1, g2, g3⟩ := hg
      have g2 : k1 ≤ nT := g2
      obtain ⟨g4, g5, g6, -⟩ := g3 b rfl
      have g4 : k < k1 := g4
      have g5 : q < q1 := g5
      have g6 : q1 ≤ 50 := g6
      have hse := x5.1
      have hB2 : s_X4_readTest_b5 rc 100 (iN lk) (iN o) (sk8 sc acc) 1 σ = s_X4_readTest_j52 rc 100 (iN lk) (iN o) (sk8 sc acc) σ1 := by
        rw [hB, x1, cbs, if_neg z10']
      obtain ⟨σ2, y1, y2, y3, y4, y5⟩ : ∃ σ2, s_X4_skipTillHere 100 (sk8 sc acc) σ1 = some ((), σ2) ∧ Ag (Sp s0) σ0 σ2 ∧ CP tb L nT lw k1 q1 sc1 σ2 ∧ sc1 + k0 ≤ s0 + k1 ∧ CSeg (zi σ2 104) s0 sc1 (q1 - q0) (accS lnkS acc b) := by
        have e1 : Ag (Sp s0) σ0 σ1 := e0.trans (x2.mono (fun a k q => q.mono hs0))
        cases acc with
        | none =>
          obtain ⟨rfl, rfl, rfl⟩ := ha
          exact ⟨σ1, skip8_no, e1, x3, by omega, x5⟩
        | some p =>
          obtain ⟨a1, a2, a3, sA, a4, a5, a6⟩ := ha
          have a6s := a6.1
          have ho : (if or = true then 11 else 12) < 13 := by cases or <;> decide
          have w1 : zi σ1 104 sA = stW 0 (if or = true then 11 else 12) := by
            rw [(x2.2.2.2.2 104 sA (by unfold Sp; omega)).1, a5]
          have sk := skip8 x3 (by omega) (p := sA) (by omega) ho w1
          have e2 : Ag (Sp s0) σ1 (zsi σ1 104 sA (stW sc1 (if or = true then 11 else 12))) := Ag.zsi (by unfold Sp; omega)
          have c2 : CP tb L nT lw k1 q1 sc1 (zsi σ1 104 sA (stW sc1 (if or = true then 11 else 12))) := x3.to e2 (by rw [zi_ne (by decide)]; exact x3.2.2.1) (by rw [zi_ne (by decide)]; exact x3.2.2.2.1) (by rw [zi_ne (by decide)]; exact x3.2.2.2.2.1)
          have w2 : zi (zsi σ1 104 sA (stW sc1 (if or = true then 11 else 12))) 104 sA = stW sc1 (if or = true then 11 else 12) := zi_hit
          have w3 : ∀ x, x ≠ sA → zi (zsi σ1 104 sA (stW sc1 (if or = true then 11 else 12))) 104 x = zi σ1 104 x := fun x hx => by rw [zi_miss (by omega)]
          generalize zsi σ1 104 sA (stW sc1 (if or = true then 11 else 12)) = σ2 at sk e2 c2 w2 w3
          refine ⟨σ2, ?_, e1.trans e2, c2, by omega, ?_⟩
          · have : sk8 sc (some p) = iN sA := by
              show iN (sc - 1) = iN sA
              rw [a4]
              rfl
            rw [this]
            exact sk
          · have A : CSeg (zi σ2 104) s0 sA (q - q0) p.2 := a6.congr (fun x h1 h2 => by
              rw [w3 x (by omega), (x2.2.2.2.2 104 x (by unfold Sp; omega)).1])
            have B : CSeg (zi σ2 104) (sA + 1) sc1 (q1 - q) b := by
              rw [← a4]
              exact x5.congr (fun x h1 h2 => w3 x (by omega))
            have b1 := stW_ok (w := sc1) (o := if or = true then 11 else 12) (by omega) ho
            have hw1 : zi σ2 104 sA &&& 15 = if or = true then 11 else 12 := by
              rw [w2, b1.1]
              cases or <;> rfl
            have hw2 : zi σ2 104 sA >>> 4 = iN sc1 := by rw [w2, b1.2]
            have C := c_skip (or := or) A B hw1 hw2 (by omega)
            rw [show q - q0 + (q1 - q) = q1 - q0 by omega] at C
            have e3 : accS lnkS (some p) b = if or = true then orS p.2 b else andS p.2 b := by
              show lnkS p.1 p.2 b = _
              rw [a3]
              cases or <;> rfl
            rw [e3]
            exact C
      have kk2 := q_ck100 y3.1
      have kk1 := q_ck100 x3.1
      have kd := kind8 y3 g2
      have hkd := kdN_lt (L := L) (k := k1) h.2.1.2.2.1
      have hse2 := y5.1
      have eop := hop (kdN tb L k1)
      show CRes tb L nT lw s0 σ0 k0 q0 _ (match op (kdN tb L k1) with
        | none => (k1, q1, some (accS lnkS acc b))
        | some o => loopP f (kdN tb L) op lnkS n (some (o, accS lnkS acc b)) (k1 + 1) q1)
      by_cases c : kdN tb L k1 = lk
      · rw [if_pos c] at eop
        rw [eop]
        have hlt : k1 < nT := kd_lt hE g2 c (by rw [hlk]; cases or <;> decide)
        have i6 := q_i100 (k := 6) y3.1
        rw [y3.2.2.1] at i6
        have w6 := q_w100 (k := 6) (v := iN (k1 + 1)) y3.1
        have i1 : iN k1 + 1 = iN (k1 + 1) := iN_add k1 1
        obtain ⟨eN, hN⟩ := y3.next
        have e104 : ∀ x, zi (zsi σ2 100 6 (iN (k1 + 1))) 104 x = zi σ2 104 x := fun x => by rw [zi_ne (by decide)]
        generalize zsi σ2 100 6 (iN (k1 + 1)) = σ3 at w6 eN hN e104
        have i7 := q_i100 (k := 7) hN.1
        rw [hN.2.2.2.1] at i7
        have kk3 := q_ck100 hN.1
        obtain ⟨σ4, c1, c2, c3, c4⟩ := added8 hN (by omega) (if or = true then 11 else 12) 0
        have b1 : s_X4_readTest_b5 rc 100 (iN lk) (iN o) (sk8 sc acc) 1 σ = some (Sum.inl (100, iN lk, iN o, iN sc1, 1), σ4) := by
          rw [hB2]
          unfold s_X4_readTest_j52
          rw [kk1, bos, y1, cbs, kk2, bos, kd, cbs, if_pos (by rw [c])]
          unfold s_X4_readTest_j70
          rw [if_neg z10', i6, bos, i1, w6, bos, i7, bos]
          cases or with
          | true =>
            have e4 : iN lk = 304 := by rw [hlk]; rfl
            have c1 : s_X4_addStep 100 11 0 σ3 = some ((), σ4) := c1
            rw [if_pos e4]
            unfold s_X4_readTest_j107
            rw [bos, kk3, bos, c1, cbs]
          | false =>
            have e4 : ¬ iN lk = 304 := by rw [hlk]; decide
            have c1 : s_X4_addStep 100 12 0 σ3 = some ((), σ4) := c1
            rw [if_neg e4]
            unfold s_X4_readTest_j107
            rw [bos, kk3, bos, c1, cbs]
        have e1044 : ∀ x, x < sc1 → zi σ4 104 x = zi σ2 104 x := fun x hx => by
          rw [(c2.2.2.2.2 104 x (by unfold Sp; omega)).1, e104]
        have IH := chainT8 hlk hC hG hop hb (s0 := s0) (k0 := k0) (q0 := q0) (σ0 := σ0) hs0k n (some ((if or = true then 1 else 0), accS lnkS acc b)) (k1 + 1) q1 (sc1 + 1) σ4 (by omega) (by omega) g6 (by omega) c3 ((y2.trans (eN.mono (fun a k q => q.mono (by omega)))).trans (c2.mono (fun a k q => q.mono (by omega)))) ⟨by omega, by
          cases acc with
          | none => obtain ⟨rfl, rfl, rfl⟩ := ha; omega
          | some p => have := ha.2.1; omega, rfl, sc1, rfl, c4, y5.congr (fun x _ h2 => e1044 x h2)⟩
        have lp := loopF_in (body := fun v => s_X4_readTest_b5 rc (v.1) (v.2.1) (v.2.2.1) (v.2.2.2.1) (v.2.2.2.2)) (v := (100, iN lk, iN o, sk8 sc acc, 1)) b1
        show CRes tb L nT lw s0 σ0 k0 q0 (loopF (fun v => s_X4_readTest_b5 rc (v.1) (v.2.1) (v.2.2.1) (v.2.2.2.1) (v.2.2.2.2)) (100, iN lk, iN o, sk8 sc acc, 1) σ) _
        rw [lp]
        exact IH
      · rw [if_neg c] at eop
        rw [eop]
        have ne : ¬ iN (kdN tb L k1) = iN lk := fun z => c ((iN_inj (by omega) (by omega)).mp z)
        refine ⟨σ2, sc1, ?_, y2, y3, y4, y5⟩
        have b1 : s_X4_readTest_b5 rc 100 (iN lk) (iN o) (sk8 sc acc) 1 σ = some (Sum.inl (100, iN lk, iN o, sk8 sc acc, 0), σ2) := by
          rw [hB2]
          unfold s_X4_readTest_j52
          rw [kk1, bos, y1, cbs, kk2, bos, kd, cbs, if_neg ne]
          unfold s_X4_readTest_j70
          rw [if_pos rfl]
        have b2 : s_X4_readTest_b5 rc 100 (iN lk) (iN o) (sk8 sc acc) 0 σ2 = some (Sum.inr 1, σ2) := by
          unfold s_X4_readTest_b5
          rw [if_pos rfl]
        exact (loopF_in (body := fun v => s_X4_readTest_b5 rc (v.1) (v.2.1) (v.2.2.1) (v.2.2.2.1) (v.2.2.2.2)) (v := (100, iN lk, iN o, sk8 sc acc, 1)) b1).trans (loopF_out (body := fun v => s_X4_readTest_b5 rc (v.1) (v.2.1) (v.2.2.1) (v.2.2.2.1) (v.2.2.2.2)) (v := (100, iN lk, iN o, sk8 sc acc, 0)) b2)
theorem testTop8 {or : Bool} {lk : Nat} (hlk : lk = if or = true then 304 else 305) {f : Nat → Nat → Res} {run : Hp → Option (Int32 × Hp)} {op : Nat → Option Nat} (hC : CFn tb L nT lw f run) (hG : Good nT true f) (hop : ∀ c, op c = if c = lk then some (if or = true then 1 else 0) else none)
    (hb : ∀ l3 k q sc σ, k ≤ nT → CP tb L nT lw k q sc σ → s_X4_readTest_b5 rc 100 (iN lk) (iN o) l3 1 σ = cb (run σ) fun v s => if v = 0 then some (Sum.inr 0, s) else s_X4_readTest_j52 rc 100 (iN lk) (iN o) l3 s) :
    CFn tb L nT lw (fun k q => loopP f (kdN tb L) op lnkS (nT + 1) none k q) (fun σ => s_X4_readTest rc 100 (iN lk) (iN o) σ) := by
  intro k q sc σ hk hq hsc h
  have X := chainT8 hlk hC hG hop hb (s0 := sc) (k0 := k) (q0 := q) (σ0 := σ) hsc (nT + 1) none k q sc σ (by omega) hk hq hsc h Ag.refl ⟨rfl, rfl, rfl⟩
  have X : CRes tb L nT lw sc σ k q (s_X4_readTest_l5 rc (100, iN lk, iN o, -1, 1) σ) _ := X
  have e : s_X4_readTest rc 100 (iN lk) (iN o) σ = s_X4_readTest_l5 rc (100, iN lk, iN o, -1, 1) σ := by
    unfold s_X4_readTest cb
    cases s_X4_readTest_l5 rc (100, iN lk, iN o, -1, 1) σ with
    | none => rfl
    | some p => rfl
  show CRes tb L nT lw sc σ k q (s_X4_readTest rc 100 (iN lk) (iN o) σ) _
  rw [e]
  exact X
theorem both8 {g : Option (Nat → Nat → Res)} {s : Nat → Nat → Res} (hE : kdN tb L nT = 258) (hg : GoodO nT true g) (hs : Good nT false s) (hp : CFn tb L nT lw (plainP (kdN tb L) nT g s) (fun σ => rc 1 100 (iN o) 0 σ)) : CFn tb L nT lw (bothP (kdN tb L) nT g s) (fun σ => s_X4_readTest rc 100 305 (iN o) σ) :=
  testTop8 (or := false) (lk := 305) rfl hp (good_plain hE hg hs) (fun c => rfl) (fun l3 k q sc σ hk h => by
    obtain ⟨a, b, c⟩ := b5_head h hk
    have kk := q_ck100 h.1
    have n3 : ¬ iN 305 = 304 := by decide
    unfold s_X4_readTest_b5
    rw [if_neg z10', a, bos, b, bos, if_neg c, if_neg n3, kk, bos])
theorem test8 {g : Option (Nat → Nat → Res)} {s : Nat → Nat → Res} (hE : kdN tb L nT = 258) (hg : GoodO nT true g) (hs : Good nT false s) (hp : CFn tb L nT lw (bothP (kdN tb L) nT g s) (fun σ => rc 0 100 305 (iN o) σ)) : CFn tb L nT lw (testP (kdN tb L) nT g s) (fun σ => s_X4_readTest rc 100 304 (iN o) σ) :=
  testTop8 (or := true) (lk := 304) rfl hp (good_both hE hg hs) (fun c => rfl) (fun l3 k q sc σ hk h => by
    obtain ⟨a, b, c⟩ := b5_head h hk
    have kk := q_ck100 h.1
    have n3 : iN 304 = 304 := rfl
    unfold s_X4_readTest_b5
    rw [if_neg z10', a, bos, b, bos, if_neg c, if_pos n3, kk, bos])
/-- a row of nots is walked along -/
theorem nots8 : ∀ (n k t : Nat) (σ : Hp), nT ≤ k + n → k ≤ nT → CP tb L nT lw k q sc σ → ∃ σ1, s_X4_readPlain_l2 rc (100, iN o, iN (t % 2)) σ = some ((100, iN o, iN ((t + ntF (kdN tb L) n k) % 2)), σ1) ∧ Ag (Sp sc) σ σ1 ∧ CP tb L nT lw (k + ntF (kdN tb L) n k) q sc σ1 ∧ ∀ x, zi σ1 104 x = zi σ 104 x
  | n, k, t, σ, hn, hk, h => by
    have hnL := h.2.1.1
    have hL := h.2.1.2.1
    have hE := h.2.1.kE
    have i6 := q_i100 (k := 6) h.1
    rw [h.2.2.1] at i6
    have i5 := q_i100 (k := 5) h.1
    rw [h.2.1.2.2.2.1] at i5
    have kk := q_ck100 h.1
    have kd := kind8 h hk
    have hlt := kdN_lt (L := L) (k := k) h.2.1.2.2.1
    have stop : kdN tb L k ≠ 306 → s_X4_readPlain_b2 rc 100 (iN o) (iN (t % 2)) σ = some (Sum.inr (100, iN o, iN (t % 2)), σ) := fun hne => by
      have ne : ¬ iN (kdN tb L k) = 306 := fun z => hne ((iN_inj (b := 306) (by omega) (by decide)).mp z)
      unfold s_X4_readPlain_b2
      rw [i6, bos, i5, bos]
      by_cases c : iN nT ≤ iN k
      · rw [if_pos c]
      · rw [if_neg c, kk, bos, kd, cbs, if_neg ne]
    by_cases c : kdN tb L k = 306
    · have hkl : k < nT := kd_lt hE hk c (by decide)
      cases n with
      | zero => omega
      | succ n =>
        have f1 : ¬ iN nT ≤ iN k := fun z => absurd ((iN_le (by omega) (by omega)).mp z) (by omega)
        have w6 := q_w100 (k := 6) (v := iN (k + 1)) h.1
        have i1 : iN k + 1 = iN (k + 1) := iN_add k 1
        obtain ⟨eN, hN⟩ := h.next
        have e104 : ∀ x, zi (zsi σ 100 6 (iN (k + 1))) 104 x = zi σ 104 x := fun x => by rw [zi_ne (by decide)]
        generalize zsi σ 100 6 (iN (k + 1)) = σ1 at w6 eN hN e104
        have b1 : s_X4_readPlain_b2 rc 100 (iN o) (iN (t % 2)) σ = some (Sum.inl (100, iN o, iN ((t + 1) % 2)), σ1) := by
          unfold s_X4_readPlain_b2
          rw [i6, bos, i5, bos, if_neg f1, kk, bos, kd, cbs, if_pos (by rw [c]; rfl), i6, bos, i1, w6, bos]
          rcases Nat.mod_two_eq_zero_or_one t with z | z
          · rw [z, if_pos (show iN 0 = 0 from rfl), show (t + 1) % 2 = 1 by omega]
            rfl
          · rw [z, if_neg (show ¬ iN 1 = 0 by decide), show (t + 1) % 2 = 0 by omega]
            rfl
        obtain ⟨σ2, x1, x2, x3, x4⟩ := nots8 n (k + 1) (t + 1) σ1 (by omega) (by omega) hN
        have en : ntF (kdN tb L) (n + 1) k = ntF (kdN tb L) n (k + 1) + 1 := if_pos c
        rw [en]
        refine ⟨σ2, ?_, eN.trans x2, ?_, fun x => (x4 x).trans (e104 x)⟩
        · rw [show t + (ntF (kdN tb L) n (k + 1) + 1) = t + 1 + ntF (kdN tb L) n (k + 1) by omega]
          exact (loopF_in (body := fun v => s_X4_readPlain_b2 rc (v.1) (v.2.1) (v.2.2)) (v := (100, iN o, iN (t % 2))) b1).trans x1
        · rw [show k + (ntF (kdN tb L) n (k + 1) + 1) = k + 1 + ntF (kdN tb L) n (k + 1) by omega]
          exact x3
    · have en : ntF (kdN tb L) n k = 0 := by
        cases n with
        | zero => rfl
        | succ n => exact if_neg c
      rw [en]
      exact ⟨σ, loopF_out (body := fun v => s_X4_readPlain_b2 rc (v.1) (v.2.1) (v.2.2)) (v := (100, iN o, iN (t % 2))) (stop c), Ag.refl, h, fun _ => rfl⟩
theorem plain8 {g : Option (Nat → Nat → Res)} {s : Nat → Nat → Res} (ho : o ≤ 8) (hn : g = none → o = 8) (hg : ∀ g', g = some g' → o < 8 ∧ CFn tb L nT lw g' (fun σ => rc 0 100 304 (iN (o + 1)) σ) ∧ Good nT true g') (hs : CFn tb L nT lw s (fun σ => rc 2 100 0 (iN o) σ)) (hsG : Good nT false s) : CFn tb L nT lw (plainP (kdN tb L) nT g s) (fun σ => s_X4_readPlain rc 100 (iN o) σ) := by
  intro k q sc σ hk hq hsc h
  show CRes tb L nT lw sc σ k q (s_X4_readPlain rc 100 (iN o) σ) (plainP (kdN tb L) nT g s k q)
  have hE := h.2.1.kE
  have hL := h.2.1.2.1
  have hnL := h.2.1.1
  obtain ⟨σ1, l1, l2, h1, -⟩ := nots8 (rc := rc) (o := o) nT k 0 σ (by omega) hk h
  have l1 : s_X4_readPlain_l2 rc (100, iN o, 0) σ = _ := l1
  rw [Nat.zero_add] at l1
  have hk1 := ntF_le hE nT k hk
  unfold plainP
  generalize ntF (kdN tb L) nT k = t at l1 h1 hk1
  have e : s_X4_readPlain rc 100 (iN o) σ = s_X4_readPlain_j46 rc 100 (iN o) (iN (t % 2)) σ1 := by
    unfold s_X4_readPlain
    rw [l1, cbs]
  rw [e]
  have kk := q_ck100 h1.1
  have kd := kind8 h1 hk1
  have hlt := kdN_lt (L := L) (k := k + t) h.2.1.2.2.1
  have fl := fail8 h1 hk1
  -- what stands at the end: a turn, if the number of nots is odd
  have fin : ∀ (k2 q2 sc2 : Nat) (a : Sem) (σ2 : Hp), k + t < k2 → k2 ≤ nT → CP tb L nT lw k2 q2 sc2 σ2 → Ag (Sp sc) σ σ2 → sc2 + (k + t) ≤ sc + k2 → CSeg (zi σ2 104) sc sc2 (q2 - q) a → CRes tb L nT lw sc σ k q (s_X4_readPlain_j156 rc 100 (iN (t % 2)) σ2) (k2, q2, some (notS t a)) := by
    intro k2 q2 sc2 a σ2 m1 m2 m3 m4 m5 m6
    have m6s := m6.1
    unfold notS
    by_cases c : t % 2 = 1
    · rw [if_pos c, c]
      have kk2 := q_ck100 m3.1
      obtain ⟨σ3, a1, a2, a3, a4⟩ := added8 m3 (by omega) 10 0
      have a1 : s_X4_addStep 100 10 0 σ2 = _ := a1
      have A : CSeg (zi σ3 104) sc sc2 (q2 - q) a := m6.congr (fun x _ h2 => (a2.2.2.2.2 104 x (by unfold Sp; omega)).1)
      refine ⟨σ3, sc2 + 1, ?_, m4.trans (a2.mono (fun a k q => q.mono (by omega))), a3, by omega, c_not A (by rw [a4]; exact (stW_ok (w := 0) (o := 10) (by decide) (by decide)).1)⟩
      unfold s_X4_readPlain_j156
      rw [if_neg (show ¬ iN 1 = 0 by decide), kk2, bos, a1, cbs]
    · rw [if_neg c]
      have : t % 2 = 0 := by omega
      rw [this]
      refine ⟨σ2, sc2, ?_, m4, m3, by omega, m6⟩
      unfold s_X4_readPlain_j156
      rw [if_pos (show iN 0 = 0 from rfl)]
  by_cases c1 : kdN tb L (k + t) = 40
  · have hkl : k + t < nT := kd_lt hE hk1 c1 (by decide)
    have q40 : iN (kdN tb L (k + t)) = 40 := by rw [c1]; rfl
    have eP : plain0 (kdN tb L) g s (k + t) q = brP (kdN tb L) 41 g (k + t) q := if_pos c1
    rw [eP]
    cases g with
    | none =>
      have h8 := hn rfl
      subst h8
      have f1 : ¬ iN 8 < 8 := by decide
      have e2 : s_X4_readPlain_j46 rc 100 (iN 8) (iN (t % 2)) σ1 = some (0, zsi σ1 100 11 (iN (psN tb L (k + t)))) := by
        unfold s_X4_readPlain_j46
        rw [kk, bos, kd, cbs, if_pos q40, if_neg f1, kk, bos, fl, cbs, zbo_0, bos]
      rw [e2]
      exact CRes.fail h1 l2 (Nat.le_refl _)
    | some g' =>
      obtain ⟨h8, hC, hG⟩ := hg g' rfl
      have f1 : iN o < 8 := (iN_lt (b := 8) (by omega) (by decide)).mpr h8
      have i6 := q_i100 (k := 6) h1.1
      rw [h1.2.2.1] at i6
      have w := q_w100 (k := 6) (v := iN (k + t + 1)) h1.1
      have i1 : iN (k + t) + 1 = iN (k + t + 1) := iN_add _ 1
      have o1 : iN o + 1 = iN (o + 1) := iN_add o 1
      obtain ⟨eN, hN⟩ := h1.next
      have hr := hC (k + t + 1) q sc _ (by omega) hq (by omega) hN
      have hg := hG (k + t + 1) q (by omega) hq
      have k1 := q_ck100 hN.1
      generalize zsi σ1 100 6 (iN (k + t + 1)) = σ2 at w eN hN hr k1
      have hr : CRes tb L nT lw sc σ2 (k + t + 1) q (rc 0 100 304 (iN (o + 1)) σ2) (g' (k + t + 1) q) := hr
      have e2 : s_X4_readPlain_j46 rc 100 (iN o) (iN (t % 2)) σ1 = (cb (rc 0 100 304 (iN (o + 1)) σ2) fun v31 σ30 =>
        if v31 = 0 then some ((0), σ30) else (ck 4 σ30 100).bind fun u32 => cb (s_X4_take 100 (41) σ30) fun v34 σ33 => if v34 = 0 then some ((0), σ33) else s_X4_readPlain_j156 rc (100) (iN (t % 2)) σ33) := by
        unfold s_X4_readPlain_j46
        rw [kk, bos, kd, cbs, if_pos q40, if_pos f1, i6, bos, i1, w, bos, k1, bos, o1]
      rw [e2]
      show CRes tb L nT lw sc σ k q _ (bindR (bindR (g' (k + t + 1) q) _) _)
      generalize g' (k + t + 1) q = r at hr hg
      obtain ⟨k2, q2, oa⟩ := r
      cases oa with
      | none =>
        obtain ⟨σ3, x1, x2, x3⟩ := hr
        rw [x1, cbs, if_pos rfl]
        exact ⟨σ3, rfl, (agF (l2.trans eN)).trans x2, x3⟩
      | some a =>
        obtain ⟨σ3, sc2, x1, x2, x3, x4, x5⟩ := hr
        have k2k := q_ck100 x3.1
        have hk2 : k2 ≤ nT := hg.2.1
        have hk2b : k + t + 1 < k2 := (hg.2.2 a rfl).1
        have x5s := x5.1
        rw [x1, cbs, if_neg z10', k2k, bos]
        show CRes tb L nT lw sc σ k q _ (bindR (if kdN tb L k2 = 41 then (k2 + 1, q2, some a) else (k2, q2, none)) _)
        by_cases c2 : kdN tb L k2 = 41
        · have hk2l : k2 < nT := kd_lt hE hk2 c2 (by decide)
          have tk := take8_t x3 hk2 c2
          have tk : s_X4_take 100 41 σ3 = _ := tk
          obtain ⟨eM, hM⟩ := x3.next
          have e104 : ∀ x, zi (zsi σ3 100 6 (iN (k2 + 1))) 104 x = zi σ3 104 x := fun x => by rw [zi_ne (by decide)]
          generalize zsi σ3 100 6 (iN (k2 + 1)) = σ4 at tk eM hM e104
          rw [if_pos c2, tk, cbs, if_neg z10']
          exact fin (k2 + 1) q2 sc2 a σ4 (by omega) (by omega) hM (((l2.trans eN).trans x2).trans (eM.mono (fun a k q => q.mono (by omega)))) (by omega) (x5.congr (fun x _ _ => e104 x))
        · have tk := take8_f x3 hk2 (c := 41) (by decide) c2
          have tk : s_X4_take 100 41 σ3 = _ := tk
          rw [if_neg c2, tk, cbs, if_pos rfl]
          exact CRes.fail x3 ((l2.trans eN).trans x2) (by omega)
  · have ne40 : ¬ iN (kdN tb L (k + t)) = 40 := fun z => c1 ((iN_inj (b := 40) (by omega) (by decide)).mp z)
    have eP : plain0 (kdN tb L) g s (k + t) q = bindR (s (k + t) q) fun k1 q1 a => match cmpO (kdN tb L k1) with
      | none => (k1, q1, none)
      | some o => bindR (s (k1 + 1) q1) fun k2 q2 b => (k2, q2, some (cmbS o a b)) := if_neg c1
    rw [eP]
    have hr := hs (k + t) q sc σ1 hk1 hq (by omega) h1
    have hg := hsG (k + t) q hk1 hq
    have hr : CRes tb L nT lw sc σ1 (k + t) q (rc 2 100 0 (iN o) σ1) (s (k + t) q) := hr
    have e2 : s_X4_readPlain_j46 rc 100 (iN o) (iN (t % 2)) σ1 = (cb (rc 2 100 0 (iN o) σ1) fun v6 σ5 =>
      if v6 = 0 then some ((0), σ5) else
        (ck 4 σ5 100).bind fun u7 => cb (s_X4_kind 100 σ5) fun v9 σ8 => cb (s_X4_comparisonOf (v9) σ8) fun v11 σ10 =>
        if v11 = (-1) then (ck 4 σ10 100).bind fun u21 => cb (s_X4_fail 100 σ10) fun v23 σ22 => (zbo (v23)).bind fun u24 => some ((v23), σ22)
        else (rdI 4 σ10 100 6).bind fun v12 => (wrI 4 σ10 100 6 (v12 + 1)).bind fun σ13 => (ck 4 σ13 100).bind fun u14 => cb (rc 2 100 (0) (iN o) σ13) fun v16 σ15 =>
          if v16 = 0 then some ((0), σ15) else (ck 4 σ15 100).bind fun u17 => cb (s_X4_addStep 100 (v11) (0) σ15) fun v19 σ18 => s_X4_readPlain_j156 rc (100) (iN (t % 2)) σ18) := by
      unfold s_X4_readPlain_j46
      rw [kk, bos, kd, cbs, if_neg ne40, kk, bos]
    rw [e2]
    generalize s (k + t) q = r at hr hg
    obtain ⟨k1, q1, oa⟩ := r
    cases oa with
    | none =>
      obtain ⟨σ3, x1, x2, x3⟩ := hr
      rw [x1, cbs, if_pos rfl]
      exact ⟨σ3, rfl, (agF l2).trans x2, x3⟩
    | some a =>
      obtain ⟨σ3, sc1, x1, x2, x3, x4, x5⟩ := hr
      have kk3 := q_ck100 x3.1
      have hk1' : k1 ≤ nT := hg.2.1
      obtain ⟨hk1b, hq1, hq1b, -⟩ := hg.2.2 a rfl
      have hk1b : k + t < k1 := hk1b
      have hq1 : q < q1 := hq1
      have hq1b : q1 ≤ 50 := hq1b
      have x5s := x5.1
      have kd3 := kind8 x3 hk1'
      have hlt3 := kdN_lt (L := L) (k := k1) h.2.1.2.2.1
      have fl3 := fail8 x3 hk1'
      rw [x1, cbs, if_neg z10', kk3, bos, kd3, cbs, cmpStep8 (by omega), cbs]
      show CRes tb L nT lw sc σ k q _ (bindR (match cmpO (kdN tb L k1) with
        | none => (k1, q1, none)
        | some o => bindR (s (k1 + 1) q1) fun k2 q2 b => (k2, q2, some (cmbS o a b))) _)
      cases c2 : cmpO (kdN tb L k1) with
      | none =>
        rw [show st8 none = -1 from rfl, if_pos rfl, kk3, bos, fl3, cbs, zbo_0, bos]
        exact CRes.fail x3 (l2.trans x2) (by omega)
      | some oc =>
        have hoc := cmpO_lt c2
        have hk1l : k1 < nT := kd_lt hE hk1' rfl (fun z => by rw [z] at c2; cases c2)
        have i6 := q_i100 (k := 6) x3.1
        rw [x3.2.2.1] at i6
        have w := q_w100 (k := 6) (v := iN (k1 + 1)) x3.1
        have i1 : iN k1 + 1 = iN (k1 + 1) := iN_add _ 1
        obtain ⟨eN, hN⟩ := x3.next
        have e104 : ∀ x, zi (zsi σ3 100 6 (iN (k1 + 1))) 104 x = zi σ3 104 x := fun x => by rw [zi_ne (by decide)]
        have hr2 := hs (k1 + 1) q1 sc1 _ (by omega) hq1b (by omega) hN
        have hg2 := hsG (k1 + 1) q1 (by omega) hq1b
        have kk4 := q_ck100 hN.1
        generalize zsi σ3 100 6 (iN (k1 + 1)) = σ4 at w eN hN e104 hr2 kk4
        have hr2 : CRes tb L nT lw sc1 σ4 (k1 + 1) q1 (rc 2 100 0 (iN o) σ4) (s (k1 + 1) q1) := hr2
        rw [show st8 (some oc) = iN (2 + oc) from rfl, if_neg (iN_ne (by omega)), i6, bos, i1, w, bos, kk4, bos]
        show CRes tb L nT lw sc σ k q _ (bindR (bindR (s (k1 + 1) q1) _) _)
        generalize s (k1 + 1) q1 = r2 at hr2 hg2
        obtain ⟨k2, q2, ob⟩ := r2
        cases ob with
        | none =>
          obtain ⟨σ5, y1, y2, y3⟩ := hr2
          rw [y1, cbs, if_pos rfl]
          exact ⟨σ5, rfl, (agF ((l2.trans x2).trans (eN.mono (fun a k q => q.mono (by omega))))).trans (y2.mono (fun a k q => q.mono (by omega))), y3⟩
        | some b =>
          obtain ⟨σ5, sc2, y1, y2, y3, y4, y5⟩ := hr2
          have kk5 := q_ck100 y3.1
          have hk2 : k2 ≤ nT := hg2.2.1
          obtain ⟨hk2b, hq2, hq2b, -⟩ := hg2.2.2 b rfl
          have hk2b : k1 + 1 < k2 := hk2b
          have hq2 : q1 < q2 := hq2
          have y5s := y5.1
          obtain ⟨σ6, a1, a2, a3, a4⟩ := added8 y3 (by omega) (2 + oc) 0
          have a1 : s_X4_addStep 100 (iN (2 + oc)) 0 σ5 = _ := a1
          rw [y1, cbs, if_neg z10', kk5, bos, a1, cbs]
          have A : CSeg (zi σ6 104) sc sc1 (q1 - q) a := x5.congr (fun x h1 h2 => by
            rw [(a2.2.2.2.2 104 x (by unfold Sp; omega)).1, (y2.2.2.2.2 104 x (by unfold Sp; omega)).1, e104])
          have Bq : CSeg (zi σ6 104) sc1 sc2 (q2 - q1) b := y5.congr (fun x h1 h2 => (a2.2.2.2.2 104 x (by unfold Sp; omega)).1)
          have Cq := c_bin (o := oc) A Bq hoc.1 (by rw [a4]; exact (stW_ok (w := 0) (o := 2 + oc) (by omega) (by omega)).1)
          rw [show q1 - q + (q2 - q1) = q2 - q by omega] at Cq
          exact fin k2 q2 (sc2 + 1) (cmbS oc a b) σ6 (by omega) hk2 a3 (((((l2.trans x2).trans (eN.mono (fun a k q => q.mono (by omega)))).trans (y2.mono (fun a k q => q.mono (by omega))))).trans (a2.mono (fun a k q => q.mono (by omega)))) (by omega) Cq
/-! all levels -/
theorem run_eq (D : Nat) (a b : Int32) (σ : Hp) : s_parse (D + 1) 0 100 a b σ = s_X4_readTest (s_parse D) 100 a b σ ∧ s_parse (D + 1) 1 100 a b σ = s_X4_readPlain (s_parse D) 100 a σ ∧ s_parse (D + 1) 2 100 a b σ = s_X4_readSum (s_parse D) 100 a b σ ∧ s_parse (D + 1) 3 100 a b σ = s_X4_readPart (s_parse D) 100 a σ := ⟨rfl, rfl, rfl, rfl⟩
theorem lvS8 (hE : kdN tb L nT = 258) : ∀ (d D : Nat), d ≤ 8 → 3 * d + 3 ≤ D → CFn tb L nT lw (lvS (kdN tb L) (nmN tb L) lw nT d) (fun σ => s_parse D 2 100 0 (iN (8 - d)) σ)
  | d, D, hd, hD => by
    obtain ⟨D, rfl⟩ : ∃ D', D = D' + 1 + 1 + 1 := ⟨D - 3, by omega⟩
    rw [lvS_eq]
    refine sum8 (rc := s_parse (D + 1 + 1)) (o := 8 - d) hE (goodO_S hE d) ?_
    refine term8 (rc := s_parse (D + 1)) (o := 8 - d) hE (goodO_S hE d) ?_
    refine part8 (rc := s_parse D) (o := 8 - d) (by omega) (fun h => ?_) (fun g h => ?_)
    · cases d with
      | zero => rfl
      | succ d => cases h
    · cases d with
      | zero => cases h
      | succ d =>
        cases h
        refine ⟨by omega, ?_, good_lvS hE d⟩
        have := lvS8 hE d D (by omega) (by omega)
        rw [show 8 - (d + 1) + 1 = 8 - d by omega]
        exact this
theorem lvT8 (hE : kdN tb L nT = 258) : ∀ (d D : Nat), d ≤ 8 → 3 * d + 6 ≤ D → CFn tb L nT lw (lvT (kdN tb L) (nmN tb L) lw nT d) (fun σ => s_parse D 0 100 304 (iN (8 - d)) σ)
  | d, D, hd, hD => by
    obtain ⟨D, rfl⟩ : ∃ D', D = D' + 1 + 1 + 1 := ⟨D - 3, by omega⟩
    rw [lvT_eq]
    refine test8 (rc := s_parse (D + 1 + 1)) (o := 8 - d) hE (goodO_T hE d) (good_lvS hE d) ?_
    refine both8 (rc := s_parse (D + 1)) (o := 8 - d) hE (goodO_T hE d) (good_lvS hE d) ?_
    refine plain8 (rc := s_parse D) (o := 8 - d) (by omega) (fun h => ?_) (fun g h => ?_) (lvS8 hE d D hd (by omega)) (good_lvS hE d)
    · cases d with
      | zero => rfl
      | succ d => cases h
    · cases d with
      | zero => cases h
      | succ d =>
        cases h
        refine ⟨by omega, ?_, good_lvT hE d⟩
        have := lvT8 hE d D (by omega) (by omega)
        rw [show 8 - (d + 1) + 1 = 8 - d by omega]
        exact this
end CR3
