/-! ===== the class's reader: a whole text ===== -/
def textP (kd nm : Nat → Nat) (lw : Bool) (nT : Nat) : Nat → Nat → Nat → Nat × Option (List Cl)
  | 0, k, _ => (k, none)
  | rem + 1, k, q => match clauP kd nm lw nT k q with
    | (k1, _, none) => (k1, none)
    | (k1, q1, some cl) => if kd k1 = 258 then (k1, some [cl]) else if kd k1 = 59 then (match textP kd nm lw nT rem (k1 + 1) q1 with
        | (k2, none) => (k2, none)
        | (k2, some l) => (k2, some (cl :: l)))
      else (k1, none)
section C93
variable {σ : Hp} {tb : Nat → Nat} {L nT k q sc i : Nat} {lw : Bool}
def RowsL (R s : Nat → Int32) : Nat → Nat → Nat → List Cl → Prop
  | _, sc, sc1, [] => sc1 = sc
  | i, sc, sc1, cl :: l => ∃ m, sc ≤ m ∧ RowC R s i sc m cl ∧ RowsL R s (i + 1) m sc1 l
theorem Row2.congr {R s R1 s1 : Nat → Int32} {i sc sc1 c : Nat} {t : Sem × Nat × Option Sem} (h : Row2 R s i sc sc1 c t) (hR : ∀ x, 6 * i ≤ x → x < 6 * i + 6 → R1 x = R x) (hs : ∀ x, sc ≤ x → x < sc1 → s1 x = s x) : Row2 R1 s1 i sc sc1 c t := by
  obtain ⟨f3, a1, a2, a3, a4, a5, a6, a7, a8, a9⟩ := h
  have le := a9.le
  refine ⟨f3, a1, by rw [hR _ (by omega) (by omega)]; exact a2, by rw [hR _ (by omega) (by omega)]; exact a3, by rw [hR _ (by omega) (by omega)]; exact a4, by rw [hR _ (by omega) (by omega)]; exact a5, a6, a7, fun z => ?_, a9.congr (fun x h1 h2 => hs x (by omega) h2)⟩
  obtain ⟨q, b1, b2⟩ := a8 z
  exact ⟨q, b1, b2.congr (fun x h1 h2 => hs x h1 (by omega))⟩
theorem Row2.le {R s : Nat → Int32} {i sc sc1 c : Nat} {t : Sem × Nat × Option Sem} (h : Row2 R s i sc sc1 c t) : sc ≤ sc1 := by
  obtain ⟨f3, a1, a2, a3, a4, a5, a6, a7, a8, a9⟩ := h
  have := a9.le
  omega
theorem RowC.congr {R s R1 s1 : Nat → Int32} {i sc sc1 : Nat} {cl : Cl} (h : RowC R s i sc sc1 cl) (hR : ∀ x, 6 * i ≤ x → x < 6 * i + 6 → R1 x = R x) (hs : ∀ x, sc ≤ x → x < sc1 → s1 x = s x) : RowC R1 s1 i sc sc1 cl := by
  obtain ⟨a1, a2, f2, a3, a4, a5, a6⟩ := h
  have le := a6.le
  refine ⟨by rw [hR _ (by omega) (by omega)]; exact a1, by rw [hR _ (by omega) (by omega)]; exact a2, f2, a3, a4, fun z => ?_, a6.congr hR (fun x h1 h2 => hs x (by omega) h2)⟩
  obtain ⟨q, b1, b2⟩ := a5 z
  exact ⟨q, b1, b2.congr (fun x h1 h2 => hs x h1 (by omega))⟩
theorem RowsL.le {R s : Nat → Int32} : ∀ (l : List Cl) (i sc sc1 : Nat), RowsL R s i sc sc1 l → sc ≤ sc1
  | [], _, sc, sc1, h => by
    have : sc1 = sc := h
    omega
  | cl :: l, i, sc, sc1, h => by
    obtain ⟨m, a, b, c⟩ := h
    have := RowsL.le l (i + 1) m sc1 c
    omega
theorem RowsL.congr {R s R1 s1 : Nat → Int32} : ∀ (l : List Cl) (i sc sc1 : Nat), RowsL R s i sc sc1 l → (∀ x, 6 * i ≤ x → x < 6 * (i + l.length) → R1 x = R x) → (∀ x, sc ≤ x → x < sc1 → s1 x = s x) → RowsL R1 s1 i sc sc1 l
  | [], _, _, _, h, _, _ => h
  | cl :: l, i, sc, sc1, h, hR, hs => by
    obtain ⟨m, a, b, c⟩ := h
    have le := RowsL.le l (i + 1) m sc1 c
    have hl : (cl :: l).length = l.length + 1 := rfl
    exact ⟨m, a, b.congr (fun x h1 h2 => hR x h1 (by rw [hl]; omega)) (fun x h1 h2 => hs x h1 (by omega)), RowsL.congr l (i + 1) m sc1 c (fun x h1 h2 => hR x (by omega) (by rw [hl]; omega)) (fun x h1 h2 => hs x (by omega) h2)⟩
def Spt (sc i a k : Nat) : Prop := (a = 100 ∧ (k = 6 ∨ k = 7 ∨ k = 8 ∨ k = 9)) ∨ (a = 104 ∧ sc ≤ k) ∨ (a = 105 ∧ 6 * i ≤ k)
def SptF (sc i a k : Nat) : Prop := Spt sc i a k ∨ (a = 100 ∧ k = 11)
theorem agT {σ1 : Hp} (h : Ag (Spt sc i) σ σ1) : Ag (SptF sc i) σ σ1 := h.mono (fun a k q => Or.inl q)
theorem read_l : ∀ (rem i k q sc : Nat) (σ : Hp), rem + i = 12 → CP tb L nT lw k q sc σ → zi σ 100 8 = iN i → k ≤ nT → q ≤ 50 → sc ≤ k →
    match textP (kdN tb L) (nmN tb L) lw nT rem k q with
    | (_, some l) => ∃ σ1 sc1, s_X4_read_l39 (100, iN i) σ = some (Sum.inr (Sum.inl 100), σ1) ∧ Ag (Spt sc i) σ σ1 ∧ zi σ1 100 7 = iN sc1 ∧ sc1 ≤ 400 ∧ zi σ1 100 8 = iN (i + l.length) ∧ l.length ≤ rem ∧ RowsL (zi σ1 105) (zi σ1 104) i sc sc1 l
    | (k1, none) => (∃ σ1, s_X4_read_l39 (100, iN i) σ = some (Sum.inr (Sum.inr none), σ1) ∧ Ag (SptF sc i) σ σ1 ∧ zi σ1 100 11 = iN (psN tb L k1)) ∨ (∃ σ1 q1 sc1, s_X4_read_l39 (100, iN i) σ = some (Sum.inl 100, σ1) ∧ Ag (Spt sc i) σ σ1 ∧ CP tb L nT lw k1 q1 sc1 σ1 ∧ k1 ≤ nT)
  | 0, i, k, q, sc, σ, hr, h, h8, hk, hq, hsc => by
    have e : i = 12 := by omega
    subst e
    refine Or.inr ⟨σ, q, sc, loopF_out (body := fun v => s_X4_read_b39 (v.1) (v.2)) (v := (100, iN 12)) ?_, Ag.refl, h, hk⟩
    simp only [s_X4_read_b39, (show (12 : Int32) ≤ iN 12 by decide), if_true]
  | rem + 1, i, k, q, sc, σ, hr, h, h8, hk, hq, hsc => by
    have hE := h.2.1.kE
    have hL := h.2.1.2.1
    have hnL := h.2.1.1
    have f1 : ¬ 12 ≤ iN i := fun z => by have := (iN_le (a := 12) (by decide) (by omega)).mp z; omega
    have kk := q_ck100 h.1
    have hc := clause8 h h8 (by omega) hk hq hsc
    show match (match clauP (kdN tb L) (nmN tb L) lw nT k q with
      | (k1, _, none) => (k1, none)
      | (k1, q1, some cl) => if kdN tb L k1 = 258 then (k1, some [cl]) else if kdN tb L k1 = 59 then (match textP (kdN tb L) (nmN tb L) lw nT rem (k1 + 1) q1 with
          | (k2, none) => (k2, none)
          | (k2, some l) => (k2, some (cl :: l)))
        else (k1, none)) with
      | (_, some l) => _
      | (k1, none) => _
    generalize clauP (kdN tb L) (nmN tb L) lw nT k q = r at hc
    obtain ⟨k1, q1, oc⟩ := r
    cases oc with
    | none =>
      obtain ⟨σ1, x1, x2, x3⟩ := hc
      refine Or.inl ⟨σ1, loopF_out (body := fun v => s_X4_read_b39 (v.1) (v.2)) (v := (100, iN i)) ?_, x2.mono (fun a j z => by unfold SpcF Spc at z; unfold SptF Spt; omega), x3⟩
      simp only [s_X4_read_b39, f1, kk, x1, bos, cbs, if_true, if_false]
    | some cl =>
      obtain ⟨σ1, sc1, x1, x2, x3, x4, x5, x6, x7, x8, x9⟩ := hc
      have kk1 := q_ck100 x3.1
      have kd1 := kind8 x3 x6
      have hlt := kdN_lt (L := L) (k := k1) h.2.1.2.2.1
      have e01 : Ag (Spt sc i) σ σ1 := x2.mono (fun a j z => by unfold Spc at z; unfold Spt; omega)
      have x9le : sc ≤ sc1 := by
        obtain ⟨-, -, f2, b1, -, -, b2⟩ := x9
        have := b2.le
        omega
      show match (if kdN tb L k1 = 258 then (k1, some [cl]) else if kdN tb L k1 = 59 then (match textP (kdN tb L) (nmN tb L) lw nT rem (k1 + 1) q1 with
          | (k2, none) => (k2, none)
          | (k2, some l) => (k2, some (cl :: l)))
        else (k1, none)) with
      | (_, some l) => _
      | (k1, none) => _
      by_cases c1 : kdN tb L k1 = 258
      · rw [if_pos c1]
        have q258 : (iN (kdN tb L k1) = 258) = True := eq_true (by rw [c1]; rfl)
        refine ⟨σ1, sc1, loopF_out (body := fun v => s_X4_read_b39 (v.1) (v.2)) (v := (100, iN i)) ?_, e01, x3.2.2.2.1, by omega, x4, by show 1 ≤ rem + 1; omega, sc1, x9le, x9, rfl⟩
        simp only [s_X4_read_b39, f1, kk, x1, kk1, kd1, q258, z10', bos, cbs, if_true, if_false]
      · have q258 : ¬ iN (kdN tb L k1) = 258 := fun z => c1 ((iN_inj (b := 258) (by omega) (by decide)).mp z)
        rw [if_neg c1]
        by_cases c2 : kdN tb L k1 = 59
        · rw [if_pos c2]
          have hk1 : k1 < nT := kd_lt hE x6 c2 (by decide)
          have tk := take8_t x3 x6 c2
          have tk : s_X4_take 100 59 σ1 = _ := tk
          obtain ⟨eN, hN⟩ := x3.next
          have g8 := Sp_8 eN
          have g5 := Sp_105 eN
          have g4 : ∀ x, x < sc1 → zi (zsi σ1 100 6 (iN (k1 + 1))) 104 x = zi σ1 104 x := fun x hx => Sp_104 eN hx
          generalize zsi σ1 100 6 (iN (k1 + 1)) = σ2 at tk eN hN g8 g5 g4
          have i1 : iN i + 1 = iN (i + 1) := iN_add i 1
          have b1 : s_X4_read_b39 100 (iN i) σ = some (Sum.inl (100, iN (i + 1)), σ2) := by
            simp only [s_X4_read_b39, f1, kk, x1, kk1, kd1, q258, tk, i1, z10', bos, cbs, if_false]
          have lp := loopF_in (body := fun v => s_X4_read_b39 (v.1) (v.2)) (v := (100, iN i)) b1
          have IH := read_l rem (i + 1) (k1 + 1) q1 sc1 σ2 (by omega) hN (by rw [g8]; exact x4) (by omega) x8 (by omega)
          have e02 : Ag (Spt sc i) σ σ2 := e01.trans (eN.mono (fun a j z => by unfold Sp at z; unfold Spt; omega))
          generalize textP (kdN tb L) (nmN tb L) lw nT rem (k1 + 1) q1 = r at IH
          obtain ⟨k2, ol⟩ := r
          cases ol with
          | none =>
            rcases IH with ⟨σ3, y1, y2, y3⟩ | ⟨σ3, q3, sc3, y1, y2, y3, y4⟩
            · exact Or.inl ⟨σ3, lp.trans y1, (agT e02).trans (y2.mono (fun a j z => by unfold SptF Spt at *; omega)), y3⟩
            · exact Or.inr ⟨σ3, q3, sc3, lp.trans y1, e02.trans (y2.mono (fun a j z => by unfold Spt at *; omega)), y3, y4⟩
          | some l =>
            obtain ⟨σ3, sc3, y1, y2, y3, y4, y5, y6, y7⟩ := IH
            refine ⟨σ3, sc3, lp.trans y1, e02.trans (y2.mono (fun a j z => by unfold Spt at *; omega)), y3, y4, by rw [y5]; congr 1; show i + 1 + l.length = i + (l.length + 1); omega, by show l.length + 1 ≤ rem + 1; omega, sc1, x9le, ?_, y7⟩
            exact x9.congr (fun x h1 h2 => by rw [(y2.2.2.2.2 105 x (by unfold Spt; omega)).1, g5]) (fun x h1 h2 => by rw [(y2.2.2.2.2 104 x (by unfold Spt; omega)).1, g4 x h2])
        · rw [if_neg c2]
          have tk := take8_f x3 x6 (c := 59) (by decide) c2
          have tk : s_X4_take 100 59 σ1 = _ := tk
          refine Or.inl ⟨_, loopF_out (body := fun v => s_X4_read_b39 (v.1) (v.2)) (v := (100, iN i)) (?_ : s_X4_read_b39 100 (iN i) σ = some (Sum.inr (Sum.inr (Sum.inr none)), zsi σ1 100 11 (iN (psN tb L k1)))), (agT e01).trans ((failed8 x3).1.mono (fun a j z => by unfold SpF at z; unfold SptF Spt; omega)), (failed8 x3).2⟩
          generalize zsi σ1 100 11 (iN (psN tb L k1)) = σ2 at tk
          simp only [s_X4_read_b39, f1, kk, x1, kk1, kd1, q258, tk, z10', bos, cbs, if_true, if_false]
/-! new cells -/
def Gr (σ σ1 : Hp) : Prop := zn σ ≤ zn σ1 ∧ ∀ a, a < zn σ → zk σ1 a = zk σ a ∧ zl σ1 a = zl σ a ∧ zr σ1 a = zr σ a ∧ zi σ1 a = zi σ a ∧ zj σ1 a = zj σ a
theorem Gr.refl : Gr σ σ := ⟨Nat.le_refl _, fun _ _ => ⟨rfl, rfl, rfl, rfl, rfl⟩⟩
theorem Gr.trans {σ1 σ2 : Hp} (h1 : Gr σ σ1) (h2 : Gr σ1 σ2) : Gr σ σ2 := ⟨Nat.le_trans h1.1 h2.1, fun a ha => by
  obtain ⟨a1, a2, a3, a4, a5⟩ := h1.2 a ha
  obtain ⟨b1, b2, b3, b4, b5⟩ := h2.2 a (Nat.lt_of_lt_of_le ha h1.1)
  exact ⟨b1.trans a1, b2.trans a2, b3.trans a3, b4.trans a4, b5.trans a5⟩⟩
theorem Gr.mk {c n : Nat} : Gr σ (mkC σ c n) := ⟨Nat.le_succ _, fun a ha => by
  have hb : a ≠ zn σ := Nat.ne_of_lt ha
  exact ⟨va_up_ne _ _ hb, va_up_ne _ _ hb, va_up_ne _ _ hb, va_up_ne _ _ hb, va_up_ne _ _ hb⟩⟩
theorem rq_b : rqL.all (fun t => decide (t.1 < 156)) = true := by decide +kernel
theorem rq_lt (t : Nat × Nat × Nat) (h : t ∈ rqL) : t.1 < 156 := of_decide_eq_true (List.all_eq_true.mp rq_b t h)
theorem Gr.sk {σ1 : Hp} (e : Gr σ σ1) (h : SK σ) : SK σ1 := by
  obtain ⟨h1, h2, h3⟩ := h
  refine ⟨Nat.le_trans h1 e.1, fun a ha => by rw [(e.2 a (by omega)).1, (e.2 a (by omega)).2.1]; exact h2 a ha, fun t ht => ?_⟩
  have := rq_lt t ht
  rw [(e.2 t.1 (by omega)).2.2.1]
  exact h3 t ht
theorem copy8 {a La n : Nat} (ka : zk σ a = 11) (la : zl σ a = La) (hLa : La ≤ 600) (hn : n ≤ La) (ha : a < zn σ) : ∃ σ1, s_J7_copyOf_59c91 (some a) (iN n) σ = some (some (zn σ), σ1) ∧ Gr σ σ1 ∧ zn σ1 = zn σ + 1 ∧ zk σ1 (zn σ) = 11 ∧ zl σ1 (zn σ) = n ∧ ∀ i, i < n → zi σ1 (zn σ) i = zi σ a i := by
  have c : zk σ a = 11 ∧ ¬ iN n < 0 ∧ (iN n).toNatClampNeg ≤ 600 ∧ zl σ a ≤ 600 := ⟨ka, iN_nn (by omega), by rw [iN_nat (by omega)]; omega, by omega⟩
  have e0 : Int32.ofNat (zl σ a) = iN La := by rw [la]; rfl
  have st : s_J7_copyOf_59c91 (some a) (iN n) σ = (if iN n = iN La then some (some (zn σ), clC σ a) else (acopy (mkC σ 11 (iN n).toNatClampNeg) a 0 (zn σ) 0 (if iN n < iN La then iN n else iN La)).bind fun σ1 => some (some (zn σ), σ1)) := by
    show (if zk σ a = 11 ∧ ¬ iN n < 0 ∧ (iN n).toNatClampNeg ≤ 600 ∧ zl σ a ≤ 600 then _ else none) = _
    rw [if_pos c, e0]
  rw [st]
  have hne : a ≠ zn σ := Nat.ne_of_lt ha
  by_cases q : n = La
  · subst q
    rw [if_pos rfl]
    refine ⟨clC σ a, rfl, ⟨Nat.le_succ _, fun b hb => ?_⟩, rfl, ?_, ?_, fun i _ => ?_⟩
    · have hb : b ≠ zn σ := Nat.ne_of_lt hb
      exact ⟨va_up_ne _ _ hb, va_up_ne _ _ hb, va_up_ne _ _ hb, va_up_ne _ _ hb, va_up_ne _ _ hb⟩
    · simp [clC, zk, va_up]
    · simp only [clC, zl, va_up] at la ⊢
      simp [la]
    · simp [clC, zi, va_up]
  · have lt : iN n < iN La := (iN_lt (by omega) (by omega)).mpr (by omega)
    have ne : ¬ iN n = iN La := fun z => q ((iN_inj (by omega) (by omega)).mp z)
    rw [if_neg ne, if_pos lt, iN_nat (by omega)]
    have k1 : zk (mkC σ 11 n) a = 11 := (va_up_ne _ _ hne).trans ka
    have l1 : zl (mkC σ 11 n) a = La := (va_up_ne _ _ hne).trans la
    obtain ⟨s, g1, g2, g3⟩ := acopy_n (σ := mkC σ 11 n) (a := a) (b := zn σ) (sp := 0) (dp := 0) (n := n) k1 mkC_zk hne l1 mkC_zl (by omega) (by omega) (by omega) (by omega)
    have g1 : acopy (mkC σ 11 n) a 0 (zn σ) 0 (iN n) = some s := g1
    rw [g1]
    have G : Gr σ (mkC σ 11 n) := Gr.mk
    refine ⟨s, rfl, ⟨by rw [g2.1]; exact G.1, fun b hb => ?_⟩, by rw [g2.1]; rfl, by rw [g2.2.1]; exact mkC_zk, by rw [g2.2.2.1]; exact mkC_zl, fun i hi => ?_⟩
    · obtain ⟨x1, x2, x3, x4, x5⟩ := G.2 b hb
      have nb : ∀ k, ¬ Cp (zn σ) 0 n b k := fun k z => by have := z.1; omega
      exact ⟨by rw [g2.2.1]; exact x1, by rw [g2.2.2.1]; exact x2, by rw [g2.2.2.2.1]; exact x3, (funext fun k => (g2.2.2.2.2 b k (nb k)).1).trans x4, (funext fun k => (g2.2.2.2.2 b k (nb k)).2).trans x5⟩
    · have := g3 i hi
      rw [Nat.zero_add] at this
      rw [this, (G.2 a ha).2.2.2.1]
/-- the text t in the heap holds the clauses l -/
def TextOK (t : Nat) (l : List Cl) (σ : Hp) : Prop := ∃ a r sc1, 156 ≤ t ∧ t < zn σ ∧ zk σ t = 7 ∧ zr σ t 0 = some a ∧ zr σ t 1 = some r ∧ 156 ≤ a ∧ a < zn σ ∧ 156 ≤ r ∧ r < zn σ ∧ zk σ a = 11 ∧ zk σ r = 11 ∧ sc1 ≤ 400 ∧ zl σ a = sc1 ∧ zl σ r = 6 * l.length ∧ zi σ t 2 = iN l.length ∧ l.length ≤ 12 ∧ RowsL (zi σ r) (zi σ a) 0 0 sc1 l
/-- a text is made -/
theorem made8 {sc1 : Nat} {l : List Cl} (hS : SK σ) (h7 : zi σ 100 7 = iN sc1) (hs : sc1 ≤ 400) (h8 : zi σ 100 8 = iN l.length) (hl : l.length ≤ 12) (hR : RowsL (zi σ 105) (zi σ 104) 0 0 sc1 l) :
    ∃ σ1, (cb (nw 7 0 σ) fun a18 σ17 => (rdR 4 σ17 100 3).bind fun r19 => (rdI 4 σ17 100 7).bind fun v20 => cb (s_J7_copyOf_59c91 (r19) (v20) σ17) fun r22 σ21 => (rdR 4 σ21 100 4).bind fun r23 => (rdI 4 σ21 100 8).bind fun v24 => cb (s_J7_copyOf_59c91 (r23) (v24 * 6) σ21) fun r26 σ25 => (rdI 4 σ25 100 8).bind fun v27 => (ck 7 σ25 a18).bind fun _ => cb (s_X7_init a18 (r22) (r26) (v27) σ25) fun _ σ29 => some ((some (a18)), σ29)) = some (some (zn σ), σ1) ∧ Gr σ σ1 ∧ TextOK (zn σ) l σ1 := by
  have z156 := hS.1
  have G1 : Gr σ (mkC σ 7 0) := Gr.mk
  have k1 : zk (mkC σ 7 0) (zn σ) = 7 := mkC_zk
  have n1 : zn (mkC σ 7 0) = zn σ + 1 := rfl
  have e0 : nw 7 0 σ = some (zn σ, mkC σ 7 0) := rfl
  rw [e0, cbs]
  generalize mkC σ 7 0 = τ1 at G1 k1 n1
  have S1 := G1.sk hS
  have r3 := q_r100_3 S1
  have i7 := q_i100 (k := 7) S1
  rw [(G1.2 100 (by omega)).2.2.2.1, h7] at i7
  obtain ⟨τ2, c1, G2, n2, k2, l2, v2⟩ := copy8 (σ := τ1) (a := 104) (La := 600) (n := sc1) (S1.2.1 104 (by decide)).1 (S1.2.1 104 (by decide)).2 (Nat.le_refl _) (by omega) (by omega)
  have S2 := G2.sk S1
  have r4 := q_r100_4 S2
  have G02 := G1.trans G2
  have i8 := q_i100 (k := 8) S2
  rw [(G02.2 100 (by omega)).2.2.2.1, h8] at i8
  have m6 : iN l.length * 6 = iN (6 * l.length) := by rw [show (6 : Int32) = iN 6 from rfl, iN_mul, Nat.mul_comm]
  obtain ⟨τ3, c2, G3, n3, k3, l3, v3⟩ := copy8 (σ := τ2) (a := 105) (La := 72) (n := 6 * l.length) (S2.2.1 105 (by decide)).1 (S2.2.1 105 (by decide)).2 (by omega) (by omega) (by omega)
  have S3 := G3.sk S2
  have G03 := G02.trans G3
  have G13 := G2.trans G3
  have i8b := q_i100 (k := 8) S3
  rw [(G03.2 100 (by omega)).2.2.2.1, h8] at i8b
  have kt : zk τ3 (zn σ) = 7 := by rw [(G13.2 (zn σ) (by omega)).1]; exact k1
  have ckt : ck 7 τ3 (zn σ) = some () := ck_t kt
  rw [r3, bos, i7, bos, c1, cbs, r4, bos, i8, bos, m6, c2, cbs, i8b, bos, ckt, bos]
  have w1 : wrR 7 τ3 (zn σ) 0 (some (zn τ1)) = some (zsr τ3 (zn σ) 0 (some (zn τ1))) := wrR_t kt
  have w2 : wrR 7 (zsr τ3 (zn σ) 0 (some (zn τ1))) (zn σ) 1 (some (zn τ2)) = some (zsr (zsr τ3 (zn σ) 0 (some (zn τ1))) (zn σ) 1 (some (zn τ2))) := wrR_t kt
  have w3 : wrI 7 (zsr (zsr τ3 (zn σ) 0 (some (zn τ1))) (zn σ) 1 (some (zn τ2))) (zn σ) 2 (iN l.length) = some (zsi (zsr (zsr τ3 (zn σ) 0 (some (zn τ1))) (zn σ) 1 (some (zn τ2))) (zn σ) 2 (iN l.length)) := wrI_t kt
  have ini : s_X7_init (zn σ) (some (zn τ1)) (some (zn τ2)) (iN l.length) τ3 = some ((), zsi (zsr (zsr τ3 (zn σ) 0 (some (zn τ1))) (zn σ) 1 (some (zn τ2))) (zn σ) 2 (iN l.length)) := by
    unfold s_X7_init
    rw [w1, bos, w2, bos, w3, bos]
  rw [ini, cbs]
  have q1 : zn (zsi (zsr (zsr τ3 (zn σ) 0 (some (zn τ1))) (zn σ) 1 (some (zn τ2))) (zn σ) 2 (iN l.length)) = zn τ3 := rfl
  have q2 : zk (zsi (zsr (zsr τ3 (zn σ) 0 (some (zn τ1))) (zn σ) 1 (some (zn τ2))) (zn σ) 2 (iN l.length)) = zk τ3 := rfl
  have q3 : zl (zsi (zsr (zsr τ3 (zn σ) 0 (some (zn τ1))) (zn σ) 1 (some (zn τ2))) (zn σ) 2 (iN l.length)) = zl τ3 := rfl
  have q4 : zj (zsi (zsr (zsr τ3 (zn σ) 0 (some (zn τ1))) (zn σ) 1 (some (zn τ2))) (zn σ) 2 (iN l.length)) = zj τ3 := rfl
  have q5 : ∀ b, b ≠ zn σ → zi (zsi (zsr (zsr τ3 (zn σ) 0 (some (zn τ1))) (zn σ) 1 (some (zn τ2))) (zn σ) 2 (iN l.length)) b = zi τ3 b := fun b hb => zi_ne hb
  have q6 : ∀ b, b ≠ zn σ → zr (zsi (zsr (zsr τ3 (zn σ) 0 (some (zn τ1))) (zn σ) 1 (some (zn τ2))) (zn σ) 2 (iN l.length)) b = zr τ3 b := fun b hb => (zr_ne hb).trans (zr_ne hb)
  have q7 : zr (zsi (zsr (zsr τ3 (zn σ) 0 (some (zn τ1))) (zn σ) 1 (some (zn τ2))) (zn σ) 2 (iN l.length)) (zn σ) 0 = some (zn τ1) := by
    show zr (zsr (zsr τ3 (zn σ) 0 (some (zn τ1))) (zn σ) 1 (some (zn τ2))) (zn σ) 0 = _
    rw [zr_up, up_ne (by decide), zr_up, up_eq]
  have q8 : zr (zsi (zsr (zsr τ3 (zn σ) 0 (some (zn τ1))) (zn σ) 1 (some (zn τ2))) (zn σ) 2 (iN l.length)) (zn σ) 1 = some (zn τ2) := by
    show zr (zsr (zsr τ3 (zn σ) 0 (some (zn τ1))) (zn σ) 1 (some (zn τ2))) (zn σ) 1 = _
    rw [zr_up, up_eq]
  have q9 : zi (zsi (zsr (zsr τ3 (zn σ) 0 (some (zn τ1))) (zn σ) 1 (some (zn τ2))) (zn σ) 2 (iN l.length)) (zn σ) 2 = iN l.length := zi_hit
  generalize zsi (zsr (zsr τ3 (zn σ) 0 (some (zn τ1))) (zn σ) 1 (some (zn τ2))) (zn σ) 2 (iN l.length) = τ4 at q1 q2 q3 q4 q5 q6 q7 q8 q9
  refine ⟨τ4, rfl, ⟨by rw [q1]; exact G03.1, fun b hb => ?_⟩, zn τ1, zn τ2, sc1, z156, by omega, by rw [q2]; exact kt, q7, q8, by omega, by omega, by omega, by omega, ?_, by rw [q2]; exact k3, hs, ?_, by rw [q3]; exact l3, q9, hl, ?_⟩
  · obtain ⟨x1, x2, x3, x4, x5⟩ := G03.2 b hb
    exact ⟨by rw [q2]; exact x1, by rw [q3]; exact x2, (q6 b (by omega)).trans x3, (q5 b (by omega)).trans x4, by rw [q4]; exact x5⟩
  · rw [q2, (G3.2 (zn τ1) (by omega)).1]
    exact k2
  · rw [q3, (G3.2 (zn τ1) (by omega)).2.1]
    exact l2
  · have e1 : zi τ4 (zn τ1) = zi τ2 (zn τ1) := (q5 _ (by omega)).trans (G3.2 (zn τ1) (by omega)).2.2.2.1
    have e2 : zi τ4 (zn τ2) = zi τ3 (zn τ2) := q5 _ (by omega)
    rw [e1, e2]
    refine RowsL.congr l 0 0 sc1 hR (fun x _ h2 => ?_) (fun x _ h2 => ?_)
    · rw [v3 x (by omega), (G02.2 105 (by omega)).2.2.2.1]
    · rw [v2 x h2, (G1.2 104 (by omega)).2.2.2.1]
def Srd (a k : Nat) : Prop := (a = 100 ∧ 5 ≤ k ∧ k ≤ 11) ∨ (101 ≤ a ∧ a ≤ 105)
theorem read8 (hS : SK σ) (hB : TB8 tb σ) (hL : L ≤ 400) : ∃ nT, TN tb L nT ∧ match textP (kdN tb L) (nmN tb L) lw nT 12 0 0 with
    | (_, some l) => ∃ σ0 σ1 t, s_X4_read 100 (some 98) (iN L) (bI lw) σ = some (some t, σ1) ∧ Ag Srd σ σ0 ∧ Gr σ0 σ1 ∧ t = zn σ ∧ zi σ1 100 11 = -1 ∧ TextOK t l σ1
    | (k1, none) => ∃ σ1, s_X4_read 100 (some 98) (iN L) (bI lw) σ = some (none, σ1) ∧ Ag Srd σ σ1 ∧ zi σ1 100 11 = iN (psN tb L k1) := by
  have z10 := q_wz100 (k := 10) (v := bI lw) (by cases lw <;> simp [bI]) hS
  have T1 : SK (zsi σ 100 10 (bI lw)) := hS
  have z6 := q_w100 (k := 6) (v := 0) T1
  have T2 : SK (zsi (zsi σ 100 10 (bI lw)) 100 6 0) := hS
  have z7 := q_w100 (k := 7) (v := 0) T2
  have T3 : SK (zsi (zsi (zsi σ 100 10 (bI lw)) 100 6 0) 100 7 0) := hS
  have z8 := q_w100 (k := 8) (v := 0) T3
  have T4 : SK (zsi (zsi (zsi (zsi σ 100 10 (bI lw)) 100 6 0) 100 7 0) 100 8 0) := hS
  have z9 := q_w100 (k := 9) (v := 0) T4
  have T5 : SK (zsi (zsi (zsi (zsi (zsi σ 100 10 (bI lw)) 100 6 0) 100 7 0) 100 8 0) 100 9 0) := hS
  have z11 := q_w100 (k := 11) (v := -1) T5
  have e6 : Ag Srd σ (zsi (zsi (zsi (zsi (zsi (zsi σ 100 10 (bI lw)) 100 6 0) 100 7 0) 100 8 0) 100 9 0) 100 11 (-1)) := (((((Ag.zsi (by unfold Srd; omega)).trans (Ag.zsi (by unfold Srd; omega))).trans (Ag.zsi (by unfold Srd; omega))).trans (Ag.zsi (by unfold Srd; omega))).trans (Ag.zsi (by unfold Srd; omega))).trans (Ag.zsi (by unfold Srd; omega))
  have v6 : zi (zsi (zsi (zsi (zsi (zsi (zsi σ 100 10 (bI lw)) 100 6 0) 100 7 0) 100 8 0) 100 9 0) 100 11 (-1)) 100 6 = iN 0 := by
    rw [zi_miss (by decide), zi_miss (by decide), zi_miss (by decide), zi_miss (by decide), zi_hit]; rfl
  have v7 : zi (zsi (zsi (zsi (zsi (zsi (zsi σ 100 10 (bI lw)) 100 6 0) 100 7 0) 100 8 0) 100 9 0) 100 11 (-1)) 100 7 = iN 0 := by
    rw [zi_miss (by decide), zi_miss (by decide), zi_miss (by decide), zi_hit]; rfl
  have v8 : zi (zsi (zsi (zsi (zsi (zsi (zsi σ 100 10 (bI lw)) 100 6 0) 100 7 0) 100 8 0) 100 9 0) 100 11 (-1)) 100 8 = iN 0 := by
    rw [zi_miss (by decide), zi_miss (by decide), zi_hit]; rfl
  have v9 : zi (zsi (zsi (zsi (zsi (zsi (zsi σ 100 10 (bI lw)) 100 6 0) 100 7 0) 100 8 0) 100 9 0) 100 11 (-1)) 100 9 = iN 0 := by
    rw [zi_miss (by decide), zi_hit]; rfl
  have v10 : zi (zsi (zsi (zsi (zsi (zsi (zsi σ 100 10 (bI lw)) 100 6 0) 100 7 0) 100 8 0) 100 9 0) 100 11 (-1)) 100 10 = bI lw := by
    rw [zi_miss (by decide), zi_miss (by decide), zi_miss (by decide), zi_miss (by decide), zi_miss (by decide), zi_hit]
  have v11 : zi (zsi (zsi (zsi (zsi (zsi (zsi σ 100 10 (bI lw)) 100 6 0) 100 7 0) 100 8 0) 100 9 0) 100 11 (-1)) 100 11 = -1 := zi_hit
  have T6 : SK (zsi (zsi (zsi (zsi (zsi (zsi σ 100 10 (bI lw)) 100 6 0) 100 7 0) 100 8 0) 100 9 0) 100 11 (-1)) := hS
  generalize zsi σ 100 10 (bI lw) = u1 at z10 z6 z7 z8 z9 z11 e6 v6 v7 v8 v9 v10 v11 T6
  generalize zsi u1 100 6 0 = u2 at z6 z7 z8 z9 z11 e6 v6 v7 v8 v9 v10 v11 T6
  generalize zsi u2 100 7 0 = u3 at z7 z8 z9 z11 e6 v6 v7 v8 v9 v10 v11 T6
  generalize zsi u3 100 8 0 = u4 at z8 z9 z11 e6 v6 v7 v8 v9 v10 v11 T6
  generalize zsi u4 100 9 0 = u5 at z9 z11 e6 v6 v7 v8 v9 v10 v11 T6
  generalize zsi u5 100 11 (-1) = u6 at z11 e6 v6 v7 v8 v9 v10 v11 T6
  have kk6 := q_ck100 T6
  obtain ⟨nT, u7, c1, e7, hT⟩ := cutT8 hL T6 (hB.ag e6 (fun k z => by unfold Srd at z; omega))
  have hTN : TN tb L nT := ⟨hT.1, hT.2.2.2.2.1, fun j hj => (hT.2.2.2.2.2.1 j hj).1⟩
  have g7 : ∀ j, j ≠ 5 → zi u7 100 j = zi u6 100 j := fun j hj => (e7.2.2.2.2 100 j (by unfold Sc8; omega)).1
  have hP : CP tb L nT lw 0 0 0 u7 := ⟨T6.ag e7, hT, by rw [g7 6 (by decide)]; exact v6, by rw [g7 7 (by decide)]; exact v7, by rw [g7 9 (by decide)]; exact v9, by rw [g7 10 (by decide)]; exact v10⟩
  have hr := read_l (lw := lw) 12 0 0 0 0 u7 (by decide) hP (by rw [g7 8 (by decide)]; exact v8) (Nat.zero_le _) (by decide) (Nat.le_refl _)
  have e07 : Ag Srd σ u7 := e6.trans (e7.mono (fun a j z => by unfold Sc8 at z; unfold Srd; omega))
  have f7 : zi u7 100 11 = -1 := by rw [g7 11 (by decide)]; exact v11
  refine ⟨nT, hTN, ?_⟩
  have st : s_X4_read 100 (some 98) (iN L) (bI lw) σ = (cb (s_X4_read_l39 (100, iN 0) u7) fun e34 σ33 =>
    match e34 with
    | Sum.inl h10 => (ck 4 σ33 h10).bind fun u12 => cb (s_X4_fail h10 σ33) fun v14 σ13 => some ((none), σ13)
    | Sum.inr (Sum.inl h15) => cb (nw 7 0 σ33) fun a18 σ17 => (rdR 4 σ17 h15 3).bind fun r19 => (rdI 4 σ17 h15 7).bind fun v20 => cb (s_J7_copyOf_59c91 (r19) (v20) σ17) fun r22 σ21 => (rdR 4 σ21 h15 4).bind fun r23 => (rdI 4 σ21 h15 8).bind fun v24 => cb (s_J7_copyOf_59c91 (r23) (v24 * 6) σ21) fun r26 σ25 => (rdI 4 σ25 h15 8).bind fun v27 => (ck 7 σ25 a18).bind fun u28 => cb (s_X7_init a18 (r22) (r26) (v27) σ25) fun v30 σ29 => some ((some (a18)), σ29)
    | Sum.inr (Sum.inr r32) => some (r32, σ33)) := by
    unfold s_X4_read
    rw [z10, bos, z6, bos, z7, bos, z8, bos, z9, bos, z11, bos, kk6, bos, c1, cbs]
    rfl
  rw [st]
  generalize textP (kdN tb L) (nmN tb L) lw nT 12 0 0 = r at hr
  obtain ⟨k1, ol⟩ := r
  cases ol with
  | none =>
    rcases hr with ⟨σ1, x1, x2, x3⟩ | ⟨σ1, q1, sc1, x1, x2, x3, x4⟩
    · refine ⟨σ1, ?_, e07.trans (x2.mono (fun a j z => by unfold SptF Spt at z; unfold Srd; omega)), x3⟩
      rw [x1, cbs]
    · have fl := fail8 x3 x4
      have kk := q_ck100 x3.1
      refine ⟨zsi σ1 100 11 (iN (psN tb L k1)), ?_, (e07.trans (x2.mono (fun a j z => by unfold Spt at z; unfold Srd; omega))).trans (Ag.zsi (by unfold Srd; omega)), zi_hit⟩
      generalize zsi σ1 100 11 (iN (psN tb L k1)) = σ2 at fl
      rw [x1, cbs]
      show ((ck 4 σ1 100).bind fun u12 => cb (s_X4_fail 100 σ1) fun v14 σ13 => some ((none), σ13)) = _
      rw [kk, bos, fl, cbs]
  | some l =>
    obtain ⟨σ1, sc1, x1, x2, x3, x4, x5, x6, x7⟩ := hr
    have e01 : Ag Srd σ σ1 := e07.trans (x2.mono (fun a j z => by unfold Spt at z; unfold Srd; omega))
    rw [Nat.zero_add] at x5
    obtain ⟨σ2, y1, y2, y3⟩ := made8 (hS.ag e01) x3 x4 x5 x6 x7
    have zn1 : zn σ1 = zn σ := e01.1
    refine ⟨σ1, σ2, zn σ1, ?_, e01, y2, zn1, ?_, y3⟩
    · rw [x1, cbs]
      exact y1
    · rw [(y2.2 100 (by have := hS.1; omega)).2.2.2.1, (x2.2.2.2.2 100 11 (by unfold Spt; omega)).1]
      exact f7
end C93
