/-! ===== the reference's pile of operators ===== -/
section PI
variable {σ : Hp} {tb : Nat → Nat} {L nT k q c n o : Nat} {lw : Bool}
theorem emit9 (hS : SK σ) (h : zi σ 125 23 = iN c) (hc : c < 400) (op ar : Int32) : s_X9_emit 125 op ar σ = some ((), zsi (zsi (zsi σ 136 c op) 137 c ar) 125 23 (iN (c + 1))) := by
  have r24 := q_r125_24 hS
  have i23 := q_i125 (k := 23) hS
  rw [h] at i23
  have s1 := q_st136 (n := c) (v := op) hc hS
  have S1 : SK (zsi σ 136 c op) := hS
  have r25 := q_r125_25 S1
  have i23b := q_i125 (k := 23) S1
  rw [zi_ne (by decide), h] at i23b
  have s2 := q_st137 (n := c) (v := ar) hc S1
  have S2 : SK (zsi (zsi σ 136 c op) 137 c ar) := hS
  have i23c := q_i125 (k := 23) S2
  rw [zi_ne (by decide), zi_ne (by decide), h] at i23c
  have w := q_w125 (k := 23) (v := iN (c + 1)) S2
  have i1 : iN c + 1 = iN (c + 1) := iN_add c 1
  generalize zsi (zsi (zsi σ 136 c op) 137 c ar) 125 23 (iN (c + 1)) = τ at w
  generalize zsi (zsi σ 136 c op) 137 c ar = τ2 at s2 i23c w
  generalize zsi σ 136 c op = τ1 at s1 r25 i23b s2
  simp only [s_X9_emit, r24, i23, s1, r25, i23b, s2, i23c, i1, w, bos]
theorem push9 (hS : SK σ) (h : zi σ 125 29 = iN n) (hc : n < 400) (op ar : Int32) : s_X9_push 125 op ar σ = some ((), zsi (zsi (zsi σ 138 n op) 139 n ar) 125 29 (iN (n + 1))) := by
  have r24 := q_r125_27 hS
  have i23 := q_i125 (k := 29) hS
  rw [h] at i23
  have s1 := q_st138 (n := n) (v := op) hc hS
  have S1 : SK (zsi σ 138 n op) := hS
  have r25 := q_r125_28 S1
  have i23b := q_i125 (k := 29) S1
  rw [zi_ne (by decide), h] at i23b
  have s2 := q_st139 (n := n) (v := ar) hc S1
  have S2 : SK (zsi (zsi σ 138 n op) 139 n ar) := hS
  have i23c := q_i125 (k := 29) S2
  rw [zi_ne (by decide), zi_ne (by decide), h] at i23c
  have w := q_w125 (k := 29) (v := iN (n + 1)) S2
  have i1 : iN n + 1 = iN (n + 1) := iN_add n 1
  generalize zsi (zsi (zsi σ 138 n op) 139 n ar) 125 29 (iN (n + 1)) = τ at w
  generalize zsi (zsi σ 138 n op) 139 n ar = τ2 at s2 i23c w
  generalize zsi σ 138 n op = τ1 at s1 r25 i23b s2
  simp only [s_X9_push, r24, i23, s1, r25, i23b, s2, i23c, i1, w, bos]
def bndN (o : Nat) : Nat := if 31 ≤ o then 0 else if o = 30 then 1 else if o = 29 then 2 else if o = 28 then 3 else if 25 ≤ o then 4 else if 22 ≤ o then 6 else 5
theorem binds9 (h1 : 20 ≤ o) (h2 : o ≤ 32) : s_X9_binds (iN o) σ = some (iN (bndN o), σ) := by
  have : o = 20 ∨ o = 21 ∨ o = 22 ∨ o = 23 ∨ o = 24 ∨ o = 25 ∨ o = 26 ∨ o = 27 ∨ o = 28 ∨ o = 29 ∨ o = 30 ∨ o = 31 ∨ o = 32 := by omega
  rcases this with rfl | rfl | rfl | rfl | rfl | rfl | rfl | rfl | rfl | rfl | rfl | rfl | rfl <;> rfl
theorem bndN_le (o : Nat) : bndN o ≤ 6 := by
  unfold bndN
  repeat (first | (split; · decide) | omega)
/-- the operators at places n .. n + t - 1: they bind at least so much; jumps lie at c0 or above -/
def Pnd (least c0 n t : Nat) (σ : Hp) : Prop := ∀ i, n ≤ i → i < n + t → ∃ o, 20 ≤ o ∧ o ≤ 30 ∧ zi σ 138 i = iN o ∧ least ≤ bndN o ∧ ((o = 29 ∨ o = 30) → ∃ a, c0 ≤ a ∧ a < 400 ∧ zi σ 139 i = iN a)
/-- what lies below place n binds less -/
def KB (least n : Nat) (σ : Hp) : Prop := n = 0 ∨ ∃ o, 20 ≤ o ∧ o ≤ 32 ∧ zi σ 138 (n - 1) = iN o ∧ bndN o < least
theorem Pnd.congr {least c0 n t : Nat} {σ1 : Hp} (h : Pnd least c0 n t σ) (e : ∀ i, n ≤ i → i < n + t → zi σ1 138 i = zi σ 138 i ∧ zi σ1 139 i = zi σ 139 i) : Pnd least c0 n t σ1 := fun i h1 h2 => by
  obtain ⟨o, a1, a2, a3, a4, a5⟩ := h i h1 h2
  exact ⟨o, a1, a2, by rw [(e i h1 h2).1]; exact a3, a4, fun q => by rw [(e i h1 h2).2]; exact a5 q⟩
theorem Pnd.mono {least least1 c0 c1 n t : Nat} (h : Pnd least c0 n t σ) (h1 : least1 ≤ least) (h2 : c1 ≤ c0) : Pnd least1 c1 n t σ := fun i q1 q2 => by
  obtain ⟨o, a1, a2, a3, a4, a5⟩ := h i q1 q2
  exact ⟨o, a1, a2, a3, by omega, fun q => by obtain ⟨a, b1, b2, b3⟩ := a5 q; exact ⟨a, by omega, b2, b3⟩⟩
theorem KB.congr {least n : Nat} {σ1 : Hp} (h : KB least n σ) (e : ∀ i, i < n → zi σ1 138 i = zi σ 138 i) : KB least n σ1 := by
  by_cases c : n = 0
  · exact Or.inl c
  · rcases h with h | ⟨o, a1, a2, a3, a4⟩
    · exact absurd h c
    · exact Or.inr ⟨o, a1, a2, by rw [e _ (by omega)]; exact a3, a4⟩
theorem KB.mono {least l1 n : Nat} (h : KB least n σ) (e : least ≤ l1) : KB l1 n σ := by
  rcases h with h | ⟨o, a1, a2, a3, a4⟩
  · exact Or.inl h
  · exact Or.inr ⟨o, a1, a2, a3, by omega⟩
def Sst (a k : Nat) : Prop := (a = 125 ∧ (k = 23 ∨ k = 29)) ∨ a = 136 ∨ a = 137
theorem wtF_s {po : Nat → Int32} {n o : Nat} (h : po n = iN o) (ho : o < 1000) : wtF po (n + 1) = wtF po n + if o < 29 then 1 else 0 := by
  show wtF po n + (if po n < 29 then 1 else 0) = _
  rw [h]
  by_cases q : o < 29
  · have f : iN o < (29 : Int32) := (iN_lt (b := 29) (by omega) (by decide)).mpr q
    rw [if_pos q, if_pos f]
  · have f : ¬ iN o < (29 : Int32) := fun z => q ((iN_lt (b := 29) (by omega) (by decide)).mp z)
    rw [if_neg q, if_neg f]
theorem wtF_mono {po : Nat → Int32} (n : Nat) : ∀ t, wtF po n ≤ wtF po (n + t)
  | 0 => Nat.le_refl _
  | t + 1 => by
    have := wtF_mono (po := po) n t
    show _ ≤ wtF po (n + t) + _
    omega
theorem settle_l {least n : Nat} (hl : least ≤ 6) : ∀ (t c : Nat) (σ : Hp), SK σ → zi σ 125 23 = iN c → zi σ 125 29 = iN (n + t) → Pnd least 0 n t σ → KB least n σ → c + wtF (zi σ 138) (n + t) ≤ 400 + wtF (zi σ 138) n → n + t ≤ 400 →
    ∃ σ1, s_X9_settle_l0 (125, iN least) σ = some ((), σ1) ∧ Ag Sst σ σ1 ∧ zj σ1 = zj σ ∧ zi σ1 125 29 = iN n ∧ zi σ1 136 = (setN1 (zi σ 138) (zi σ 139) n t (zi σ 136, zi σ 137, c)).1 ∧ zi σ1 137 = (setN1 (zi σ 138) (zi σ 139) n t (zi σ 136, zi σ 137, c)).2.1 ∧ zi σ1 125 23 = iN (setN1 (zi σ 138) (zi σ 139) n t (zi σ 136, zi σ 137, c)).2.2
  | 0, c, σ, hS, h23, h29, hP, hK, hw, hn => by
    have i29 := q_i125 (k := 29) hS
    rw [h29] at i29
    refine ⟨σ, loopF_out (body := fun v => s_X9_settle_b0 (v.1) (v.2)) (v := (125, iN least)) ?_, Ag.refl, rfl, h29, rfl, rfl, h23⟩
    rw [Nat.add_zero] at i29 hn
    by_cases q : n = 0
    · have f : iN n ≤ 0 := by rw [q]; decide
      simp only [s_X9_settle_b0, i29, f, bos, if_true]
    · have f : ¬ iN n ≤ 0 := fun z => q (by have := (iN_le (b := 0) (by omega) (by decide)).mp z; omega)
      rcases hK with z | ⟨o, a1, a2, a3, a4⟩
      · exact absurd z q
      · have r := q_r125_27 hS
        have d : iN n - 1 = iN (n - 1) := iN_sub (b := 1) (by omega)
        have l := q_ld138 (n := n - 1) (by omega) hS
        rw [a3] at l
        have b := binds9 (σ := σ) a1 a2
        have f2 : iN (bndN o) < iN least := (iN_lt (by omega) (by omega)).mpr a4
        simp only [s_X9_settle_b0, i29, f, r, d, l, b, f2, bos, cbs, if_true, if_false]
  | t + 1, c, σ, hS, h23, h29, hP, hK, hw, hn => by
    have i29 := q_i125 (k := 29) hS
    rw [h29] at i29
    have f : ¬ iN (n + (t + 1)) ≤ 0 := fun z => by have := (iN_le (b := 0) (by omega) (by decide)).mp z; omega
    obtain ⟨o, a1, a2, a3, a4, a5⟩ := hP (n + t) (by omega) (by omega)
    have r := q_r125_27 hS
    have d : iN (n + (t + 1)) - 1 = iN (n + t) := by
      rw [show (1 : Int32) = iN 1 from rfl, iN_sub (by omega)]
      congr 1
    have l := q_ld138 (n := n + t) (by omega) hS
    rw [a3] at l
    have b := binds9 (σ := σ) a1 (show o ≤ 32 by omega)
    have bl := bndN_le o
    have f2 : ¬ iN (bndN o) < iN least := fun z => by have := (iN_lt (by omega) (by omega)).mp z; omega
    have w29 := q_w125 (k := 29) (v := iN (n + t)) hS
    have S1 : SK (zsi σ 125 29 (iN (n + t))) := hS
    have r1 := q_r125_27 S1
    have i29b := q_i125 (k := 29) S1
    rw [zi_hit] at i29b
    have l1 := q_ld138 (n := n + t) (by omega) S1
    rw [zi_ne (by decide), a3] at l1
    have i23 := q_i125 (k := 23) S1
    rw [zi_miss (by decide), h23] at i23
    have r25 := q_r125_25 S1
    have r28 := q_r125_28 S1
    have bk := q_ck125 S1
    have hws := wtF_s (po := zi σ 138) (n := n + t) a3 (by omega)
    have hws : wtF (zi σ 138) (n + (t + 1)) = _ := hws
    have e1 : Ag Sst σ (zsi σ 125 29 (iN (n + t))) := Ag.zsi (Or.inl ⟨rfl, Or.inr rfl⟩)
    -- what the step leaves, and the rest of it
    have rest : ∀ (σ2 : Hp) (c2 : Nat), s_X9_settle_b0 125 (iN least) σ = some (Sum.inl (125, iN least), σ2) → Ag Sst σ σ2 → zj σ2 = zj σ → zi σ2 125 29 = iN (n + t) → zi σ2 125 23 = iN c2 → c2 + wtF (zi σ 138) (n + t) ≤ 400 + wtF (zi σ 138) n → (zi σ2 136, zi σ2 137, c2) = set1 (zi σ 138 (n + t)) (zi σ 139 (n + t)) (zi σ 136, zi σ 137, c) →
        ∃ σ1, s_X9_settle_l0 (125, iN least) σ = some ((), σ1) ∧ Ag Sst σ σ1 ∧ zj σ1 = zj σ ∧ zi σ1 125 29 = iN n ∧ zi σ1 136 = (setN1 (zi σ 138) (zi σ 139) n (t + 1) (zi σ 136, zi σ 137, c)).1 ∧ zi σ1 137 = (setN1 (zi σ 138) (zi σ 139) n (t + 1) (zi σ 136, zi σ 137, c)).2.1 ∧ zi σ1 125 23 = iN (setN1 (zi σ 138) (zi σ 139) n (t + 1) (zi σ 136, zi σ 137, c)).2.2 := by
      intro σ2 c2 y1 y2 yj y3 y4 y5 y6
      have z138 : zi σ2 138 = zi σ 138 := funext fun i => (y2.2.2.2.2 138 i (by unfold Sst; omega)).1
      have z139 : zi σ2 139 = zi σ 139 := funext fun i => (y2.2.2.2.2 139 i (by unfold Sst; omega)).1
      have hP2 : Pnd least 0 n t σ := fun i q1 q2 => hP i q1 (by omega)
      obtain ⟨σ1, x1, x2, xj, x3, x4, x5, x6⟩ := settle_l hl t c2 σ2 (hS.ag y2) y4 y3 (hP2.congr (fun i _ _ => by rw [z138, z139]; exact ⟨rfl, rfl⟩)) (hK.congr (fun i _ => by rw [z138])) (by rw [z138]; exact y5) (by omega)
      rw [z138, z139, y6] at x4 x5 x6
      exact ⟨σ1, (loopF_in (body := fun v => s_X9_settle_b0 (v.1) (v.2)) (v := (125, iN least)) y1).trans x1, y2.trans x2, xj.trans yj, x3, x4, x5, x6⟩
    by_cases j : o = 29 ∨ o = 30
    · obtain ⟨a, -, b2, b3⟩ := a5 j
      have l9 := q_ld139 (n := n + t) (by omega) S1
      rw [zi_ne (by decide), b3] at l9
      have st := q_st137 (n := a) (v := iN c) b2 S1
      have e2 : Ag Sst (zsi σ 125 29 (iN (n + t))) (zsi (zsi σ 125 29 (iN (n + t))) 137 a (iN c)) := Ag.zsi (Or.inr (Or.inr rfl))
      have v29 : zi (zsi (zsi σ 125 29 (iN (n + t))) 137 a (iN c)) 125 29 = iN (n + t) := by rw [zi_ne (by decide), zi_hit]
      have v23 : zi (zsi (zsi σ 125 29 (iN (n + t))) 137 a (iN c)) 125 23 = iN c := by rw [zi_ne (by decide), zi_miss (by decide), h23]
      have v136 : zi (zsi (zsi σ 125 29 (iN (n + t))) 137 a (iN c)) 136 = zi σ 136 := by rw [zi_ne (by decide), zi_ne (by decide)]
      have v137 : zi (zsi (zsi σ 125 29 (iN (n + t))) 137 a (iN c)) 137 = up (zi σ 137) a (iN c) := by rw [zi_up, zi_ne (by decide)]
      have vj : zj (zsi (zsi σ 125 29 (iN (n + t))) 137 a (iN c)) = zj σ := rfl
      generalize zsi (zsi σ 125 29 (iN (n + t))) 137 a (iN c) = σ2 at st e2 v29 v23 v136 v137 vj
      generalize zsi σ 125 29 (iN (n + t)) = τ at w29 r1 i29b l1 i23 r25 r28 bk e1 l9 st e2
      refine rest σ2 c ?_ (e1.trans e2) vj v29 v23 ?_ ?_
      · rcases j with rfl | rfl
        · have q : (iN 29 = 29) = True := eq_true rfl
          simp only [s_X9_settle_b0, s_X9_settle_j63, i29, f, r, d, l, b, f2, w29, r1, i29b, l1, q, r25, r28, l9, i23, st, bos, cbs, if_true, if_false]
        · have q : ¬ iN 30 = 29 := by decide
          have q2 : (iN 30 = 30) = True := eq_true rfl
          simp only [s_X9_settle_b0, s_X9_settle_j63, i29, f, r, d, l, b, f2, w29, r1, i29b, l1, q, q2, r25, r28, l9, i23, st, bos, cbs, if_true, if_false]
      · rw [if_neg (by omega)] at hws
        omega
      · rw [v136, v137, a3, b3]
        unfold set1
        rw [if_pos, iN_nat (by omega)]
        rcases j with rfl | rfl
        · exact Or.inl rfl
        · exact Or.inr rfl
    · have q1 : ¬ iN o = 29 := fun z => j (Or.inl ((iN_inj (b := 29) (by omega) (by decide)).mp z))
      have q2 : ¬ iN o = 30 := fun z => j (Or.inr ((iN_inj (b := 30) (by omega) (by decide)).mp z))
      rw [if_pos (by omega)] at hws
      have h23' : zi (zsi σ 125 29 (iN (n + t))) 125 23 = iN c := by rw [zi_miss (by decide), h23]
      have hmo := wtF_mono (po := zi σ 138) n t
      have em := emit9 S1 h23' (by omega) (iN o) 0
      have e2 : Ag Sst (zsi σ 125 29 (iN (n + t))) (zsi (zsi (zsi (zsi σ 125 29 (iN (n + t))) 136 c (iN o)) 137 c 0) 125 23 (iN (c + 1))) := ((Ag.zsi (Or.inr (Or.inl rfl))).trans (Ag.zsi (Or.inr (Or.inr rfl)))).trans (Ag.zsi (Or.inl ⟨rfl, Or.inl rfl⟩))
      have v29 : zi (zsi (zsi (zsi (zsi σ 125 29 (iN (n + t))) 136 c (iN o)) 137 c 0) 125 23 (iN (c + 1))) 125 29 = iN (n + t) := by rw [zi_miss (by decide), zi_ne (by decide), zi_ne (by decide), zi_hit]
      have v23 : zi (zsi (zsi (zsi (zsi σ 125 29 (iN (n + t))) 136 c (iN o)) 137 c 0) 125 23 (iN (c + 1))) 125 23 = iN (c + 1) := zi_hit
      have v136 : zi (zsi (zsi (zsi (zsi σ 125 29 (iN (n + t))) 136 c (iN o)) 137 c 0) 125 23 (iN (c + 1))) 136 = up (zi σ 136) c (iN o) := by rw [zi_ne (by decide), zi_ne (by decide), zi_up, zi_ne (by decide)]
      have v137 : zi (zsi (zsi (zsi (zsi σ 125 29 (iN (n + t))) 136 c (iN o)) 137 c 0) 125 23 (iN (c + 1))) 137 = up (zi σ 137) c 0 := by rw [zi_ne (by decide), zi_up, zi_ne (by decide), zi_ne (by decide)]
      have vj : zj (zsi (zsi (zsi (zsi σ 125 29 (iN (n + t))) 136 c (iN o)) 137 c 0) 125 23 (iN (c + 1))) = zj σ := rfl
      generalize zsi (zsi (zsi (zsi σ 125 29 (iN (n + t))) 136 c (iN o)) 137 c 0) 125 23 (iN (c + 1)) = σ2 at em e2 v29 v23 v136 v137 vj
      generalize zsi σ 125 29 (iN (n + t)) = τ at w29 r1 i29b l1 bk e1 em e2
      refine rest σ2 (c + 1) ?_ (e1.trans e2) vj v29 v23 (by omega) ?_
      · simp only [s_X9_settle_b0, i29, f, r, d, l, b, f2, w29, r1, i29b, l1, q1, q2, bk, em, bos, cbs, if_true, if_false]
      · rw [v136, v137, a3]
        unfold set1
        rw [if_neg (by rintro (z | z) <;> contradiction)]
/-- a pile that may be -/
def PV (n : Nat) (σ : Hp) : Prop := ∀ i, i < n → ∃ o, 20 ≤ o ∧ o ≤ 32 ∧ zi σ 138 i = iN o ∧ ((o = 29 ∨ o = 30) → ∃ a, a < 400 ∧ zi σ 139 i = iN a)
theorem PV.congr {σ1 : Hp} (h : PV n σ) (e : ∀ i, i < n → zi σ1 138 i = zi σ 138 i ∧ zi σ1 139 i = zi σ 139 i) : PV n σ1 := fun i hi => by
  obtain ⟨o, a1, a2, a3, a4⟩ := h i hi
  exact ⟨o, a1, a2, by rw [(e i hi).1]; exact a3, fun q => by rw [(e i hi).2]; exact a4 q⟩
/-- whatever lies on the pile, it can be settled down to a bracket -/
theorem PV.split (h : PV n σ) : ∃ m t, n = m + t ∧ Pnd 1 0 m t σ ∧ KB 1 m σ := by
  induction n with
  | zero => exact ⟨0, 0, rfl, fun i h1 h2 => by omega, Or.inl rfl⟩
  | succ n ih =>
    obtain ⟨o, a1, a2, a3, a4⟩ := h n (by omega)
    by_cases c : 31 ≤ o
    · refine ⟨n + 1, 0, rfl, fun i h1 h2 => by omega, Or.inr ⟨o, a1, a2, a3, ?_⟩⟩
      unfold bndN
      rw [if_pos c]
      decide
    · obtain ⟨m, t, b1, b2, b3⟩ := ih (fun i hi => h i (by omega))
      refine ⟨m, t + 1, by omega, fun i h1 h2 => ?_, b3⟩
      by_cases e : i = n
      · subst e
        refine ⟨o, a1, by omega, a3, ?_, fun q => by obtain ⟨a, x, y⟩ := a4 q; exact ⟨a, Nat.zero_le _, x, y⟩⟩
        unfold bndN
        rw [if_neg c]
        repeat (first | (split; · decide) | omega)
      · exact b2 i h1 (by omega)
/-! the innermost bracket; whether a comparison waits -/
def innN (po : Nat → Int32) : Nat → Int32
  | 0 => -1
  | n + 1 => if po n < 31 then innN po n else po n
theorem inner9 (hS : SK σ) (h : zi σ 125 29 = iN n) (hn : n ≤ 400) : s_X9_inner 125 σ = some (innN (zi σ 138) n, σ) := by
  obtain ⟨t, g1, g2⟩ := loop_to (body := fun v => s_X9_inner_b4 (v.1) (v.2.1) (v.2.2)) (fun _ t => t = σ) (fun t => t = σ) (fun i => (125, innN (zi σ 138) i, iN i)) (innN (zi σ 138) n) n (fun i t hi ht => by
    subst ht
    have i29 := q_i125 (k := 29) hS
    rw [h] at i29
    have f : ¬ iN n ≤ iN i := fun q => absurd ((iN_le (by omega) (by omega)).mp q) (by omega)
    have r := q_r125_27 hS
    have l := q_ld138 (n := i) (by omega) hS
    have i1 : iN i + 1 = iN (i + 1) := iN_add i 1
    refine ⟨t, ?_, rfl⟩
    by_cases c : zi t 138 i < 31
    · have e : innN (zi t 138) (i + 1) = innN (zi t 138) i := if_pos c
      rw [e]
      simp only [s_X9_inner_b4, s_X9_inner_j33, i29, f, r, l, c, i1, bos, if_true, if_false]
    · have e : innN (zi t 138) (i + 1) = zi t 138 i := if_neg c
      rw [e]
      simp only [s_X9_inner_b4, s_X9_inner_j33, i29, f, r, l, c, i1, bos, if_true, if_false]) (fun t ht => by
    subst ht
    have i29 := q_i125 (k := 29) hS
    rw [h] at i29
    have f : iN n ≤ iN n := Int32.le_refl _
    exact ⟨t, by simp only [s_X9_inner_b4, i29, f, bos, if_true], rfl⟩) (σ := σ) rfl
  subst g2
  have g1 : s_X9_inner_l4 (125, -1, 0) t = _ := g1
  simp only [s_X9_inner, g1, cbs]
def cmpN (po : Nat → Int32) : Nat → Bool
  | 0 => false
  | n + 1 => if po n < 25 then cmpN po n else decide (po n < 28)
theorem isCmp_l (hS : SK σ) (hP : PV n σ) : ∀ m, m ≤ n → n ≤ 400 → ∃ j, j ≤ m ∧ s_X9_isCompared_l7 (125, iN m - 1) σ = some ((125, iN j - 1), σ) ∧ s_X9_isCompared_j36 125 (iN j - 1) σ = some (bI (cmpN (zi σ 138) m), σ)
  | 0, _, _ => by
    have f : iN 0 - 1 < 0 := by decide
    refine ⟨0, Nat.le_refl _, loopF_out (body := fun v => s_X9_isCompared_b7 (v.1) (v.2)) (v := (125, iN 0 - 1)) ?_, ?_⟩
    · simp only [s_X9_isCompared_b7, f, if_true]
    · simp only [s_X9_isCompared_j36, f, if_true]
      rfl
  | m + 1, hm, hn => by
    have d : iN (m + 1) - 1 = iN m := iN_sub (b := 1) (by omega)
    have f : ¬ iN m < 0 := iN_nn (by omega)
    have r := q_r125_27 hS
    have l := q_ld138 (n := m) (by omega) hS
    obtain ⟨o, a1, a2, a3, -⟩ := hP m (by omega)
    rw [a3] at l
    by_cases c : o < 25
    · obtain ⟨j, b1, b2, b3⟩ := isCmp_l hS hP m (by omega) hn
      have i20 : s_X9_in (Int32.toInt64 (iN o)) 20 24 σ = some (1, σ) := in_t (by rw [iN64 (by omega)]; show (20 : Int) ≤ _; omega) (by rw [iN64 (by omega)]; show _ ≤ (24 : Int); omega)
      have dm : iN m + -1 = iN m - 1 := by rw [Int32.sub_eq_add_neg]
      have e : cmpN (zi σ 138) (m + 1) = cmpN (zi σ 138) m := if_pos (by rw [a3]; exact (iN_lt (b := 25) (by omega) (by decide)).mpr c)
      rw [e]
      refine ⟨j, by omega, ?_, b3⟩
      rw [d]
      refine (loopF_in (body := fun v => s_X9_isCompared_b7 (v.1) (v.2)) (v := (125, iN m)) (v' := (125, iN m - 1)) (σ' := σ) ?_).trans b2
      simp only [s_X9_isCompared_b7, f, r, l, i20, dm, z10', bos, cbs, if_false]
    · have i20 : s_X9_in (Int32.toInt64 (iN o)) 20 24 σ = some (0, σ) := in_f (by rw [iN64 (by omega)]; right; show (24 : Int) < _; omega)
      have e : cmpN (zi σ 138) (m + 1) = decide (zi σ 138 m < 28) := if_neg (by rw [a3]; exact fun z => c ((iN_lt (b := 25) (by omega) (by decide)).mp z))
      rw [e, a3]
      refine ⟨m + 1, Nat.le_refl _, ?_, ?_⟩
      · rw [d]
        refine loopF_out (body := fun v => s_X9_isCompared_b7 (v.1) (v.2)) (v := (125, iN m)) ?_
        simp only [s_X9_isCompared_b7, f, r, l, i20, bos, cbs, if_true, if_false]
      · rw [d]
        by_cases c2 : o < 28
        · have i25 : s_X9_in (Int32.toInt64 (iN o)) 25 27 σ = some (1, σ) := in_t (by rw [iN64 (by omega)]; show (25 : Int) ≤ _; omega) (by rw [iN64 (by omega)]; show _ ≤ (27 : Int); omega)
          have l28 : iN o < 28 := (iN_lt (b := 28) (by omega) (by decide)).mpr c2
          rw [decide_eq_true l28]
          simp only [s_X9_isCompared_j36, f, r, l, i25, z10', bos, cbs, if_false]
          rfl
        · have i25 : s_X9_in (Int32.toInt64 (iN o)) 25 27 σ = some (0, σ) := in_f (by rw [iN64 (by omega)]; right; show (27 : Int) < _; omega)
          have l28 : ¬ iN o < 28 := fun z => c2 ((iN_lt (b := 28) (by omega) (by decide)).mp z)
          rw [decide_eq_false l28]
          simp only [s_X9_isCompared_j36, f, r, l, i25, bos, cbs, if_true, if_false]
          rfl
theorem isCmp9 (hS : SK σ) (h : zi σ 125 29 = iN n) (hP : PV n σ) (hn : n ≤ 400) : s_X9_isCompared 125 σ = some (bI (cmpN (zi σ 138) n), σ) := by
  have i29 := q_i125 (k := 29) hS
  rw [h] at i29
  obtain ⟨j, -, b2, b3⟩ := isCmp_l hS hP n (Nat.le_refl _) hn
  simp only [s_X9_isCompared, i29, b2, b3, bos, cbs]
end PI
