/-! ===== loops that count; at, sow, room, can ===== -/
section V15
variable {σ : Hp}
def foldN {α : Type} (step : Nat → α → α) : Nat → α → α
  | 0, a => a
  | n + 1, a => step n (foldN step n a)
theorem loop_fold {V Ex α : Type} {body : V → Hp → Option ((V ⊕ Ex) × Hp)} (I : Hp → Prop) (pk : Nat → α → V) (step : Nat → α → α) (out : α → Ex) (n : Nat) (a0 : α)
    (hb : ∀ i a σ, i < n → I σ → ∃ σ1, body (pk i a) σ = some (Sum.inl (pk (i + 1) (step i a)), σ1) ∧ I σ1)
    (he : ∀ a σ, I σ → ∃ σ1, body (pk n a) σ = some (Sum.inr (out a), σ1) ∧ I σ1) {σ : Hp} (h0 : I σ) :
    ∃ σ1, loopF body (pk 0 a0) σ = some (out (foldN step n a0), σ1) ∧ I σ1 := by
  have key : ∀ (d i : Nat) (σ : Hp), i + d = n → I σ → ∃ σ1, loopF body (pk i (foldN step i a0)) σ = some (out (foldN step n a0), σ1) ∧ I σ1 := by
    intro d
    induction d with
    | zero =>
      intro i σ hi h
      have : i = n := by omega
      subst this
      obtain ⟨σ1, h1, h2⟩ := he (foldN step i a0) σ h
      exact ⟨σ1, loopF_out h1, h2⟩
    | succ d ih =>
      intro i σ hi h
      obtain ⟨σ1, h1, h2⟩ := hb i (foldN step i a0) σ (by omega) h
      obtain ⟨σ2, h3, h4⟩ := ih (i + 1) σ1 (by omega) h2
      exact ⟨σ2, (loopF_in h1).trans h3, h4⟩
  exact key n 0 σ (by omega) h0
/-- the first of d places from i on -/
def firstP (p : Nat → Bool) : Nat → Nat → Option Nat
  | 0, _ => none
  | d + 1, i => if p i = true then some i else firstP p d (i + 1)
theorem firstP_f {p : Nat → Bool} {d i : Nat} (h : p i = false) : firstP p (d + 1) i = firstP p d (i + 1) := by
  rw [firstP, if_neg (by rw [h]; decide)]
theorem loop_first {V Ex : Type} {body : V → Hp → Option ((V ⊕ Ex) × Hp)} (I : Nat → Hp → Prop) (J : Hp → Prop) (pk : Nat → V) (p : Nat → Bool) (out : Option Nat → Ex) (n : Nat)
    (hb : ∀ i σ, i < n → I i σ → (p i = true → ∃ σ1, body (pk i) σ = some (Sum.inr (out (some i)), σ1) ∧ J σ1) ∧ (p i = false → ∃ σ1, body (pk i) σ = some (Sum.inl (pk (i + 1)), σ1) ∧ I (i + 1) σ1))
    (he : ∀ σ, I n σ → ∃ σ1, body (pk n) σ = some (Sum.inr (out none), σ1) ∧ J σ1) {σ : Hp} (h0 : I 0 σ) :
    ∃ σ1, loopF body (pk 0) σ = some (out (firstP p n 0), σ1) ∧ J σ1 := by
  have key : ∀ (d i : Nat) (σ : Hp), i + d = n → I i σ → ∃ σ1, loopF body (pk i) σ = some (out (firstP p d i), σ1) ∧ J σ1 := by
    intro d
    induction d with
    | zero =>
      intro i σ hi h
      have : i = n := by omega
      subst this
      obtain ⟨σ1, h1, h2⟩ := he σ h
      exact ⟨σ1, loopF_out h1, h2⟩
    | succ d ih =>
      intro i σ hi h
      obtain ⟨g1, g2⟩ := hb i σ (by omega) h
      cases hp : p i with
      | true =>
        obtain ⟨σ1, h1, h2⟩ := g1 hp
        refine ⟨σ1, ?_, h2⟩
        rw [loopF_out h1]
        unfold firstP
        rw [if_pos hp]
      | false =>
        obtain ⟨σ1, h1, h2⟩ := g2 hp
        obtain ⟨σ2, h3, h4⟩ := ih (i + 1) σ1 (by omega) h2
        refine ⟨σ2, ?_, h4⟩
        rw [loopF_in h1, h3, firstP_f hp]
  exact key n 0 σ (by omega) h0
theorem firstP_lt {p : Nat → Bool} : ∀ {d i j : Nat}, firstP p d i = some j → i ≤ j ∧ j < i + d ∧ p j = true
  | 0, _, _, h => by cases h
  | d + 1, i, j, h => by
    unfold firstP at h
    by_cases c : p i = true
    · rw [if_pos c] at h
      cases h
      exact ⟨Nat.le_refl _, by omega, c⟩
    · rw [if_neg c] at h
      have := firstP_lt h
      exact ⟨by omega, by omega, this.2.2⟩
theorem firstP_congr {p q : Nat → Bool} : ∀ {d i : Nat}, (∀ j, i ≤ j → j < i + d → p j = q j) → firstP p d i = firstP q d i
  | 0, _, _ => rfl
  | d + 1, i, h => by
    unfold firstP
    rw [h i (Nat.le_refl _) (by omega), firstP_congr (fun j h1 h2 => h j (by omega) (by omega))]
theorem foldN_congr {α : Type} {f g : Nat → α → α} {a : α} : ∀ n, (∀ i, i < n → ∀ x, f i x = g i x) → foldN f n a = foldN g n a
  | 0, _ => rfl
  | n + 1, h => by
    unfold foldN
    rw [foldN_congr n (fun i hi => h i (by omega)), h n (by omega)]
section ON
variable {b nP nF nB nT nS nL H hr : Nat} {B : Book} {R : Nat → Int32}
theorem M9.c0 (h : M9 nP nF nB nT nS nL H B R σ) : zi σ 127 0 = iN nP := (congrFun h.2.1 0).trans h.2.2.1.2.1.1
theorem M9.c1 (h : M9 nP nF nB nT nS nL H B R σ) : zi σ 127 1 = iN nF := (congrFun h.2.1 1).trans h.2.2.1.2.1.2.1
theorem M9.c2 (h : M9 nP nF nB nT nS nL H B R σ) : zi σ 127 2 = iN nB := (congrFun h.2.1 2).trans h.2.2.1.2.1.2.2.1
theorem M9.c3 (h : M9 nP nF nB nT nS nL H B R σ) : zi σ 127 3 = iN nT := (congrFun h.2.1 3).trans h.2.2.1.2.1.2.2.2.1
theorem M9.c4 (h : M9 nP nF nB nT nS nL H B R σ) : zi σ 127 4 = iN nS := (congrFun h.2.1 4).trans h.2.2.1.2.1.2.2.2.2.1
theorem M9.c5 (h : M9 nP nF nB nT nS nL H B R σ) : zi σ 127 5 = iN nL := (congrFun h.2.1 5).trans h.2.2.1.2.1.2.2.2.2.2
theorem M9.ld (h : M9 nP nF nB nT nS nL H B R σ) {a n : Nat} (hn : a + n < 5578) (ha : a < 5578) : ldI 11 σ 127 (iN a + iN n) = some (R (a + n)) := by
  rw [iN_add, q_ld127 hn h.1, h.2.1]
theorem M9.ld1 (h : M9 nP nF nB nT nS nL H B R σ) {n : Nat} (hn : n < 1000) : ldI 11 σ 127 (11 + iN n) = some (R (11 + n)) := h.ld (a := 11) (by omega) (by decide)
theorem M9.ld17 (h : M9 nP nF nB nT nS nL H B R σ) {n : Nat} (hn : n < 1000) : ldI 11 σ 127 (17 + iN n) = some (R (17 + n)) := h.ld (a := 17) (by omega) (by decide)
theorem M9.ld21 (h : M9 nP nF nB nT nS nL H B R σ) {n : Nat} (hn : n < 1000) : ldI 11 σ 127 (21 + iN n) = some (R (21 + n)) := h.ld (a := 21) (by omega) (by decide)
theorem M9.ld24 (h : M9 nP nF nB nT nS nL H B R σ) {n : Nat} (hn : n < 1000) : ldI 11 σ 127 (24 + iN n) = some (R (24 + n)) := h.ld (a := 24) (by omega) (by decide)
theorem M9.ld30 (h : M9 nP nF nB nT nS nL H B R σ) {n : Nat} (hn : n < 1000) : ldI 11 σ 127 (30 + iN n) = some (R (30 + n)) := h.ld (a := 30) (by omega) (by decide)
theorem M9.ld40 (h : M9 nP nF nB nT nS nL H B R σ) {n : Nat} (hn : n < 1000) : ldI 11 σ 127 (40 + iN n) = some (R (40 + n)) := h.ld (a := 40) (by omega) (by decide)
theorem M9.ld154 (h : M9 nP nF nB nT nS nL H B R σ) {n : Nat} (hn : n < 1000) : ldI 11 σ 127 (154 + iN n) = some (R (154 + n)) := h.ld (a := 154) (by omega) (by decide)
theorem M9.ld160 (h : M9 nP nF nB nT nS nL H B R σ) {n : Nat} (hn : n < 1000) : ldI 11 σ 127 (160 + iN n) = some (R (160 + n)) := h.ld (a := 160) (by omega) (by decide)
theorem M9.k (h : M9 nP nF nB nT nS nL H B R σ) {k : Nat} (hk : k < 5578) : ldI 11 σ 127 (iN k) = some (R k) := by
  rw [q_ld127 hk h.1, h.2.1]
theorem bd_hour (h : M8 1 nP nF nB nT nS nL 999 B R σ) : ∃ n, n ≤ 999 ∧ R 7 = iN n := h.2.2.2.1.hour
end ON
theorem b_at {p1 p2 : Int32} (hr : Rel σ) : Both (s_X8_at 0 p1 p2) (s_X9_at 125 p1 p2) σ := by
  have hS := hr.1.1
  refine hr.both (fun nP nF nB nT nS nL B m8 m9 => ?_)
  have hp10 := m8.p10
  obtain ⟨hh, hh1, hh2⟩ := bd_hour m8
  have r0 := q_r0_0 hS
  have r1 := h_r0_0 hS.hk1
  have k1 := h_ck1 hS.hk1
  have k0 := h_ck0 hS.hk1
  rcases nx p1 (c := nP) (by omega) with ⟨p, hp, rfl⟩ | hx
  · have o1 := one_t m8.2.1 m8.c3 hp10 hp
    have pc : ∀ σ1, M9 nP nF nB nT nS nL 999 B (zi σ 127) σ1 → s_X9_isPerch 125 (iN p) (zsi σ1 125 0 0) = some (1, zsi σ1 125 0 0) := fun σ1 q => pc9_t q.thrown.2.1 q.thrown.2.c0 hp10 hp
    by_cases c0 : p2 = 0
    · subst c0
      refine ⟨zi σ 127 (30 + p), ⟨σ, ?_, Ag.refl⟩, fun σ1 q => ⟨_, ?_, q.thrown.1⟩⟩
      · have ro := roomOf8 m8 hp
        simp only [s_X8_at, r0, r1, k1, o1, ro, z10', if_true, if_false, bind_ok, Option.bind_some, cb_some]
      · have w := q_w125 (k := 0) (v := 0) q.1
        have q2 := q.thrown.2
        have pc := pc σ1 q
        have b3 := q_r125_3 q2.1
        have bk := q_ck125 q2.1
        have l := q2.ld30 (n := p) (by omega)
        simp only [s_X9_at, w, bk, pc, b3, l, z10', if_true, if_false, bind_ok, Option.bind_some, cb_some]
    by_cases c1 : p2 = 1
    · subst c1
      refine ⟨zi σ 127 (40 + p), ⟨σ, ?_, Ag.refl⟩, fun σ1 q => ⟨_, ?_, q.thrown.1⟩⟩
      · have ro := highOf8 m8 hp
        simp only [s_X8_at, r0, r1, k1, o1, ro, z10', if_true, if_false, bind_ok, Option.bind_some, cb_some]
      · have w := q_w125 (k := 0) (v := 0) q.1
        have q2 := q.thrown.2
        have pc := pc σ1 q
        have b3 := q_r125_3 q2.1
        have bk := q_ck125 q2.1
        have l := q2.ld40 (n := p) (by omega)
        simp only [s_X9_at, w, bk, pc, b3, l, z10', if_true, if_false, bind_ok, Option.bind_some, cb_some]
    by_cases c2 : p2 = 2
    · subst c2
      refine ⟨bI (sfP B (zi σ 127) p hh), ?_, fun σ1 q => ?_⟩
      · obtain ⟨σ1, g1, g2⟩ := safe8 m8 (hr := hh) (by omega) hp
        refine ⟨σ1, ?_, g2⟩
        have r10 := h_r0_10 hS.hk1
        have t0 := ht_0 hS.hk1
        rw [show zi σ (1 + 14) 0 = iN hh from m8.2.2.1.g7.trans hh2] at t0
        cases c : sfP B (zi σ 127) p hh with
        | true =>
          rw [c] at g1
          simp only [s_X8_at, r0, r1, k0, k1, o1, r10, t0, g1, bI_t, kk_2_0, kk_2_1, z10', if_true, if_false, bind_ok, Option.bind_some, cb_some]
        | false =>
          rw [c] at g1
          simp only [s_X8_at, r0, r1, k0, k1, o1, r10, t0, g1, bI_f, kk_2_0, kk_2_1, z10', if_true, if_false, bind_ok, Option.bind_some, cb_some]
      · have w := q_w125 (k := 0) (v := 0) q.1
        have q2 := q.thrown.2
        have pc := pc σ1 q
        have bk := q_ck125 q2.1
        obtain ⟨σ2, g1, g2⟩ := safe9 q2 (hr := hh) (by omega) hh2 (p := p) (by omega)
        refine ⟨σ2, ?_, q.thrown.1.trans g2⟩
        cases c : sfP B (zi σ 127) p hh with
        | true =>
          rw [c] at g1
          simp only [s_X9_at, w, bk, pc, g1, bI_t, kk_2_0, kk_2_1, z10', if_true, if_false, bind_ok, Option.bind_some, cb_some]
        | false =>
          rw [c] at g1
          simp only [s_X9_at, w, bk, pc, g1, bI_f, kk_2_0, kk_2_1, z10', if_true, if_false, bind_ok, Option.bind_some, cb_some]
    have no9 : ∀ σ1, M9 nP nF nB nT nS nL 999 B (zi σ 127) σ1 → (∀ σ2, s_X9_in (Int32.toInt64 p2 - 3) 0 (Int32.toInt64 (iN nP) - 1) σ2 = some (0, σ2)) → s_X9_at 125 (iN p) p2 σ1 = some (-1, zsi σ1 125 0 0) := fun σ1 q i9 => by
      have w := q_w125 (k := 0) (v := 0) q.1
      have q2 := q.thrown.2
      have pc := pc σ1 q
      have b3 := q_r125_3 q2.1
      have bk := q_ck125 q2.1
      have l0 : ldI 11 (zsi σ1 125 0 0) 127 0 = some (iN nP) := (rw_0 q2.1).trans (by rw [q2.c0])
      simp only [s_X9_at, w, bk, pc, b3, l0, i9, c0, c1, c2, z10', if_true, if_false, bind_ok, Option.bind_some, cb_some]
    have t3 : (Int32.toInt64 p2 - 3).toInt = p2.toInt - 3 := by
      have h1 := Int32.le_toInt p2
      have h2 := Int32.toInt_lt p2
      rw [Int64.toInt_sub, l64, show (3 : Int64).toInt = 3 from rfl, lt64 _ (by omega) (by omega)]
    by_cases c3 : p2 < 3
    · refine ⟨-1, ⟨σ, ?_, Ag.refl⟩, fun σ1 q => ⟨_, no9 σ1 q (fun σ2 => in_f (Or.inl ?_)), q.thrown.1⟩⟩
      · simp only [s_X8_at, r0, r1, k1, o1, c0, c1, c2, c3, z10', if_true, if_false, bind_ok, Option.bind_some, cb_some]
      · have := Int32.lt_iff_toInt_lt.mp c3
        rw [t3]
        show p2.toInt - 3 < 0
        have e3 : (3 : Int32).toInt = 3 := rfl
        omega
    · have c3b := Int32.le_iff_toInt_le.mp (Int32.not_lt.mp c3)
      have e3 : (3 : Int32).toInt = 3 := rfl
      have h2 := Int32.toInt_lt p2
      have t4 : (p2 - 3).toInt = p2.toInt - 3 := by
        rw [Int32.toInt_sub, e3]
        exact Int.bmod_eq_of_le (by omega) (by omega)
      rcases nx (p2 - 3) (c := nP) (by omega) with ⟨u, hu, eu⟩ | hx
      · have o2 := one_t m8.2.1 m8.c3 hp10 hu
        have bt := between_t m8.2.1 m8.c3 hp10 hp hu
        rw [m8.2.2.1.link (by omega)] at bt
        refine ⟨zi σ 127 (50 + (p * 10 + u)), ⟨σ, ?_, Ag.refl⟩, fun σ1 q => ⟨_, ?_, q.thrown.1⟩⟩
        · simp only [s_X8_at, r0, r1, k1, o1, o2, bt, eu, c0, c1, c2, c3, z10', if_false, bind_ok, Option.bind_some, cb_some]
        · have w := q_w125 (k := 0) (v := 0) q.1
          have q2 := q.thrown.2
          have pc := pc σ1 q
          have b3 := q_r125_3 q2.1
          have bk := q_ck125 q2.1
          have l0 : ldI 11 (zsi σ1 125 0 0) 127 0 = some (iN nP) := (rw_0 q2.1).trans (by rw [q2.c0])
          have i9 : s_X9_in (Int32.toInt64 p2 - 3) 0 (Int32.toInt64 (iN nP) - 1) (zsi σ1 125 0 0) = some (1, zsi σ1 125 0 0) := by
            rw [eu, iN_int (by omega)] at t4
            refine in_t ?_ ?_
            · rw [t3]
              show (0 : Int) ≤ _
              omega
            · rw [t3, sub1 (by omega)]
              omega
          have lo := long9 q2.1 (a := p) (d := u) (by omega) (by omega)
          rw [congrFun q2.2.1 (50 + (p * 10 + u))] at lo
          simp only [s_X9_at, w, bk, pc, b3, l0, i9, eu, lo, c0, c1, c2, z10', if_false, bind_ok, Option.bind_some, cb_some]
      · have o2 := one_f m8.2.1 m8.c3 hx
        have h4 := no_int (by omega) hx
        refine ⟨-1, ⟨σ, ?_, Ag.refl⟩, fun σ1 q => ⟨_, no9 σ1 q (fun σ2 => in_f ?_), q.thrown.1⟩⟩
        · simp only [s_X8_at, r0, r1, k1, o1, o2, c0, c1, c2, c3, z10', if_true, if_false, bind_ok, Option.bind_some, cb_some]
        · rw [t3, sub1 (by omega)]
          rw [t4] at h4
          rcases h4 with h4 | h4
          · exact Or.inl h4
          · exact Or.inr (by omega)
  · have o1 := one_f m8.2.1 m8.c3 hx
    refine ⟨-1, ⟨σ, ?_, Ag.refl⟩, fun σ1 q => ⟨_, ?_, q.thrown.1⟩⟩
    · simp only [s_X8_at, r0, r1, k1, o1, if_true, bind_ok, Option.bind_some, cb_some]
    · have w := q_w125 (k := 0) (v := 0) q.1
      have q2 := q.thrown.2
      have bk := q_ck125 q2.1
      have pc := pc9_f q2.1 q2.c0 hp10 hx
      simp only [s_X9_at, w, bk, pc, if_true, bind_ok, Option.bind_some, cb_some]
theorem b_can {p1 p2 : Int32} (hr : Rel σ) : Both (s_X8_can 0 p1 p2) (s_X9_can 125 p1 p2) σ := by
  have hS := hr.1.1
  refine hr.both (fun nP nF nB nT nS nL B m8 m9 => ?_)
  have hp10 := m8.p10
  have hf4 := m8.f4
  obtain ⟨hh, hh1, hh2⟩ := bd_hour m8
  have r0 := q_r0_0 hS
  have r1 := h_r0_0 hS.hk1
  have k1 := h_ck1 hS.hk1
  have k0 := h_ck0 hS.hk1
  have cF := m8.2.2.1.g1.trans m8.2.2.2.1.2.1.2.1
  rcases nx p1 (c := nF) (by omega) with ⟨f, hf, rfl⟩ | hx
  · have of8 := fk8_t m8.2.1 cF hf4 hf
    rcases nx p2 (c := nP) (by omega) with ⟨p, hp, rfl⟩ | hx
    · have o1 := one_t m8.2.1 m8.c3 hp10 hp
      obtain ⟨u, hu, eu⟩ := on_n m8.2.2.2.1 hf
      refine ⟨bI (cnP B (zi σ 127) f u p hh), ?_, fun σ1 q => ?_⟩
      · obtain ⟨σ1, g1, g2⟩ := may8 m8 (hr := hh) (by omega) hh2 hf hp eu hu
        refine ⟨σ1, ?_, g2⟩
        cases c : cnP B (zi σ 127) f u p hh with
        | true =>
          rw [c] at g1
          simp only [s_X8_can, r0, r1, k0, k1, of8, o1, g1, bI_t, z10', if_true, if_false, bind_ok, Option.bind_some, cb_some]
        | false =>
          rw [c] at g1
          simp only [s_X8_can, r0, r1, k0, k1, of8, o1, g1, bI_f, z10', if_true, if_false, bind_ok, Option.bind_some, cb_some]
      · have w := q_w125 (k := 0) (v := 0) q.1
        have q2 := q.thrown.2
        have bk := q_ck125 q2.1
        have b3 := q_r125_3 q2.1
        have of9 := fk9_t q2.1 q2.c1 (Nat.le_trans hf4 (by decide)) hf
        have pc := pc9_t q2.1 q2.c0 hp10 hp
        have l := q2.ld17 (n := f) (by omega)
        rw [eu] at l
        obtain ⟨σ2, g1, g2⟩ := can9 q2 (hr := hh) (by omega) hh2 hf hu hp
        refine ⟨σ2, ?_, q.thrown.1.trans g2⟩
        cases c : cnP B (zi σ 127) f u p hh with
        | true =>
          rw [c] at g1
          simp only [s_X9_can, w, bk, b3, of9, pc, l, g1, bI_t, z10', if_true, if_false, bind_ok, Option.bind_some, cb_some]
        | false =>
          rw [c] at g1
          simp only [s_X9_can, w, bk, b3, of9, pc, l, g1, bI_f, z10', if_true, if_false, bind_ok, Option.bind_some, cb_some]
    · have o1 := one_f m8.2.1 m8.c3 hx
      refine ⟨-1, ⟨σ, ?_, Ag.refl⟩, fun σ1 q => ⟨_, ?_, q.thrown.1⟩⟩
      · simp only [s_X8_can, r0, r1, k0, k1, of8, o1, z10', if_true, if_false, bind_ok, Option.bind_some, cb_some]
      · have w := q_w125 (k := 0) (v := 0) q.1
        have q2 := q.thrown.2
        have bk := q_ck125 q2.1
        have of9 := fk9_t q2.1 q2.c1 (Nat.le_trans hf4 (by decide)) hf
        have pc := pc9_f q2.1 q2.c0 hp10 hx
        simp only [s_X9_can, w, bk, of9, pc, z10', if_true, if_false, bind_ok, Option.bind_some, cb_some]
  · have of8 := fk8_f m8.2.1 cF hx
    refine ⟨-1, ⟨σ, ?_, Ag.refl⟩, fun σ1 q => ⟨_, ?_, q.thrown.1⟩⟩
    · simp only [s_X8_can, r0, k0, of8, if_true, bind_ok, Option.bind_some, cb_some]
    · have w := q_w125 (k := 0) (v := 0) q.1
      have q2 := q.thrown.2
      have bk := q_ck125 q2.1
      have of9 := fk9_f q2.1 q2.c1 (Nat.le_trans hf4 (by decide)) hx
      simp only [s_X9_can, w, bk, of9, if_true, bind_ok, Option.bind_some, cb_some]
end V15
