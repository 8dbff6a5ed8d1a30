/-! ===== near ===== -/
section V21
variable {σ : Hp}
/-- n times one and the same -/
def itN {α : Type} (g : α → α) (S : α) : Nat → α
  | 0 => S
  | n + 1 => g (itN g S n)
def eq10 (S T : Nat → Bool) : Prop := ∀ q, q < 10 → S q = T q
theorem itN_congr {g h : (Nat → Bool) → (Nat → Bool)} (H : ∀ S T, eq10 S T → eq10 (g S) (h T)) {S T : Nat → Bool} (h0 : eq10 S T) : ∀ n, eq10 (itN g S n) (itN h T n)
  | 0 => h0
  | n + 1 => H _ _ (itN_congr H h0 n)
theorem itN_fix {g : (Nat → Bool) → (Nat → Bool)} (H : ∀ S T, eq10 S T → eq10 (g S) (g T)) {S : Nat → Bool} {i : Nat} (h : eq10 (g (itN g S i)) (itN g S i)) : ∀ d, eq10 (itN g S (i + d)) (itN g S i)
  | 0 => fun _ _ => rfl
  | d + 1 => fun q hq => (H _ _ (itN_fix H h d) q hq).trans (h q hq)
/-- what one comes to by one more stride: L leads, O is open -/
def stp (L : Nat → Nat → Bool) (O : Nat → Bool) (S : Nat → Bool) : Nat → Bool := fun q => S q || (anyN 10 (fun p => S p && L p q) && O q)
theorem stp_congr {L : Nat → Nat → Bool} {O : Nat → Bool} : ∀ S T, eq10 S T → eq10 (stp L O S) (stp L O T) := fun S T h q hq => by
  unfold stp
  rw [h q hq, anyN_congr (fun p hp => by rw [h p hp])]
def one (k : Nat) : Nat → Bool := fun j => decide (j = k)
theorem shl_one {k : Nat} (hk : k < 10) : (1 : Int32) <<< (iN k &&& 31) = iN (setN (one k) 10) := by
  rw [shl1 k (by omega), show setN (one k) 10 = 2 ^ k from setN_one hk]
section ON
variable {nP nF nB nT nS nL H hr : Nat} {B : Book} {R : Nat → Int32}
def ldQ (R : Nat → Int32) (nP f p q : Nat) : Bool := decide (p < nP) && (decide (q < nP) && ldP R f p q)
theorem leadsQ (h : M8 1 nP nF nB nT nS nL H B R σ) {f p q : Nat} (hf : f < nF) (hp : p < 10) (hq : q < 10) : s_X1_leads 1 (iN f) (iN p) (iN q) σ = some (bI (ldQ R nP f p q), σ) := by
  unfold ldQ
  by_cases c1 : p < nP
  · by_cases c2 : q < nP
    · rw [leads8 h hf c1 c2]
      simp [c1, c2]
    · rw [leads8_f2 h c1 (by omega) (by omega)]
      simp [c2, bI_f]
  · rw [leads8_f1 h (by omega) (by omega)]
    simp [c1, bI_f]
/-- steps laid: cell 119 -/
def Lay (σ : Hp) (L : Nat → Nat → Bool) : Prop := ∀ p, p < 10 → zi σ 119 p = iN (setN (L p) 10)
theorem draw8 (h : M8 1 nP nF nB nT nS nL H B R σ) (hS : SK σ) {f : Nat} (hf : f < nF) :
    ∃ σ1, s_X2_drawSteps 113 (some 1) (iN f) σ = some ((), σ1) ∧ Ag (fun a _ => a = 119) σ σ1 ∧ Lay σ1 (ldQ R nP f) := by
  have P : ∀ {s : Hp}, Ag (fun a _ => a = 119) σ s → Ag S8p σ s := fun q => q.mono (fun a k w => Or.inr (Or.inr (Or.inr (Or.inr (by omega)))))
  obtain ⟨σ1, g1, g2, g3⟩ := loop_to (body := fun v => s_X2_drawSteps_b2 (v.1) (v.2.1) (v.2.2.1) (v.2.2.2)) (fun i s => Ag (fun a _ => a = 119) σ s ∧ ∀ p, p < i → zi s 119 p = iN (setN (ldQ R nP f p) 10)) (fun s => Ag (fun a _ => a = 119) σ s ∧ ∀ p, p < 10 → zi s 119 p = iN (setN (ldQ R nP f p) 10)) (fun i => (113, some 1, iN f, iN i)) () 10 (fun i s hi hs => by
    obtain ⟨hs1, hs2⟩ := hs
    have f1 : ¬ (10 : Int32) ≤ iN i := fun q => absurd ((iN_le (a := 10) (by decide) (by omega)).mp q) (by omega)
    have r2 := q_r113_2 (hS.ag hs1)
    have s0 := q_st119 (n := i) (v := 0) hi (hS.ag hs1)
    have i1 : iN i + 1 = iN (i + 1) := iN_add _ _
    obtain ⟨s2, k1, k2, k3, k4⟩ := loop_to (body := fun v => s_X2_drawSteps_b18 (v.1) (v.2.1) (v.2.2.1) (v.2.2.2.1) (v.2.2.2.2)) (fun j t => Ag (fun a _ => a = 119) σ t ∧ (∀ p, p < i → zi t 119 p = iN (setN (ldQ R nP f p) 10)) ∧ zi t 119 i = iN (setN (ldQ R nP f i) j)) (fun t => Ag (fun a _ => a = 119) σ t ∧ (∀ p, p < i → zi t 119 p = iN (setN (ldQ R nP f p) 10)) ∧ zi t 119 i = iN (setN (ldQ R nP f i) 10)) (fun j => (113, some 1, iN f, iN i, iN j)) (113, some 1, iN f, iN i) 10 (fun j t hj ht => by
      obtain ⟨t1, t2, t3⟩ := ht
      have n8 := h.agp (P t1)
      have hSt := hS.ag t1
      have f2 : ¬ (10 : Int32) ≤ iN j := fun q => absurd ((iN_le (a := 10) (by decide) (by omega)).mp q) (by omega)
      have k0 := h_ck0 n8.2.1
      have ld := leadsQ n8 hf hi hj
      have r2t := q_r113_2 hSt
      have l119 := q_ld119 (n := i) hi hSt
      have st := q_st119 (n := i) (v := iN (setN (ldQ R nP f i) j) ||| ((1 : Int32) <<< (iN j &&& 31))) hi hSt
      rw [t3] at l119
      have j1 : iN j + 1 = iN (j + 1) := iN_add _ _
      cases c : ldQ R nP f i j with
      | false =>
        rw [c] at ld
        refine ⟨t, ?_, t1, t2, ?_⟩
        · simp only [s_X2_drawSteps_b18, s_X2_drawSteps_j49, f2, k0, ld, bI_f, j1, z10', if_true, if_false, bind_ok, Option.bind_some, cb_some]
        · rw [t3, setN_s, if_neg (by rw [c]; decide)]
      | true =>
        rw [c] at ld
        refine ⟨zsi t 119 i (iN (setN (ldQ R nP f i) j) ||| ((1 : Int32) <<< (iN j &&& 31))), ?_, t1.trans (Ag.zsi rfl), fun p hp => ?_, ?_⟩
        · simp only [s_X2_drawSteps_b18, s_X2_drawSteps_j49, f2, k0, ld, bI_t, r2t, l119, st, j1, z10', if_true, if_false, bind_ok, Option.bind_some, cb_some]
        · rw [zi_miss (by omega)]
          exact t2 p hp
        · rw [zi_hit, setN_s, if_pos c, shl1 j (by omega), iN_or]) (fun t ht => by
      have f2 : (10 : Int32) ≤ iN 10 := by decide
      exact ⟨t, by simp only [s_X2_drawSteps_b18, f2, z10', if_true, if_false, bind_ok, Option.bind_some, cb_some], ht⟩) (σ := zsi s 119 i 0) ⟨hs1.trans (Ag.zsi rfl), fun p hp => by rw [zi_miss (by omega)]; exact hs2 p hp, by rw [zi_hit]; rfl⟩
    have k1 : s_X2_drawSteps_l18 (113, some 1, iN f, iN i, 0) (zsi s 119 i 0) = _ := k1
    refine ⟨s2, ?_, k2, fun p hp => ?_⟩
    · simp only [s_X2_drawSteps_b2, f1, r2, s0, k1, i1, z10', if_true, if_false, bind_ok, Option.bind_some, cb_some]
    · by_cases c : p = i
      · subst c
        exact k4
      · exact k3 p (by omega)) (fun s hs => by
    have f1 : (10 : Int32) ≤ iN 10 := by decide
    exact ⟨s, by simp only [s_X2_drawSteps_b2, f1, z10', if_true, if_false, bind_ok, Option.bind_some, cb_some], hs⟩) (σ := σ) ⟨Ag.refl, fun p hp => by omega⟩
  refine ⟨σ1, ?_, g2, g3⟩
  have g1 : s_X2_drawSteps_l2 (113, some 1, iN f, 0) σ = _ := g1
  simp only [s_X2_drawSteps, g1, cb_some]
theorem onward8 (hS : SK σ) {L : Nat → Nat → Bool} (hL : Lay σ L) {S : Nat → Bool} : s_X2_onward 113 (iN (setN S 10)) σ = some (iN (setN (fun q => anyN 10 (fun p => S p && L p q)) 10), σ) := by
  obtain ⟨σ1, g1, g2⟩ := loop_to (body := fun v => s_X2_onward_b4 (v.1) (v.2.1) (v.2.2.1) (v.2.2.2)) (fun _ s => s = σ) (fun s => s = σ) (fun i => (113, iN (setN S 10), iN (setN (fun q => anyN i (fun p => S p && L p q)) 10), iN i)) (iN (setN (fun q => anyN 10 (fun p => S p && L p q)) 10)) 10 (fun i s hi hs => by
    subst hs
    have f1 : ¬ (10 : Int32) ≤ iN i := fun q => absurd ((iN_le (a := 10) (by decide) (by omega)).mp q) (by omega)
    have hb := hb_set (f := S) (n := 10) (k := i) (by decide) (by omega)
    rw [decide_eq_true hi, Bool.true_and] at hb
    have r2 := q_r113_2 hS
    have l119 := q_ld119 (n := i) hi hS
    rw [hL i hi] at l119
    have i1 : iN i + 1 = iN (i + 1) := iN_add _ _
    refine ⟨s, ?_, rfl⟩
    cases c : S i with
    | false =>
      have e : setN (fun q => anyN (i + 1) (fun p => S p && L p q)) 10 = setN (fun q => anyN i (fun p => S p && L p q)) 10 := setN_congr (fun q _ => by rw [anyN_s, c, Bool.false_and, Bool.or_false])
      rw [e]
      simp only [s_X2_onward_b4, s_X2_onward_j27, f1, hb8, hb, c, bI_f, i1, z10', if_true, if_false, bind_ok, Option.bind_some, cb_some]
    | true =>
      have e : setN (fun q => anyN (i + 1) (fun p => S p && L p q)) 10 = setN (fun q => anyN i (fun p => S p && L p q)) 10 ||| setN (L i) 10 := by
        rw [setN_or]
        exact setN_congr (fun q _ => by rw [anyN_s, c, Bool.true_and])
      rw [e, ← iN_or]
      simp only [s_X2_onward_b4, s_X2_onward_j27, f1, hb8, hb, c, bI_t, r2, l119, i1, z10', if_true, if_false, bind_ok, Option.bind_some, cb_some]) (fun s hs => by
    subst hs
    have f1 : (10 : Int32) ≤ iN 10 := by decide
    exact ⟨s, by simp only [s_X2_onward_b4, f1, z10', if_true, if_false, bind_ok, Option.bind_some, cb_some], rfl⟩) (σ := σ) rfl
  subst g2
  have e0 : iN (setN (fun q => anyN 0 (fun p => S p && L p q)) 10) = 0 := by
    rw [show setN (fun q => anyN 0 (fun p => S p && L p q)) 10 = 0 from setN_z.mpr (fun _ _ => rfl)]
    rfl
  rw [e0] at g1
  have g1 : s_X2_onward_l4 (113, iN (setN S 10), 0, 0) σ1 = _ := g1
  simp only [s_X2_onward, g1, cb_some]
theorem reach8 (hS : SK σ) {L : Nat → Nat → Bool} (hL : Lay σ L) {S O : Nat → Bool} {n : Nat} (hn : n < 1000) : s_X2_reached 113 (iN (setN S 10)) (iN n) (iN (setN O 10)) σ = some (iN (setN (itN (stp L O) S n) 10), σ) := by
  have key : ∀ (d i : Nat), i + d = n → s_X2_reached_l6 (113, iN n, iN (setN O 10), iN (setN (itN (stp L O) S i) 10), iN i) σ = some (iN (setN (itN (stp L O) S n) 10), σ) := by
    intro d
    induction d with
    | zero =>
      intro i hi
      have e : i = n := by omega
      subst e
      have f1 : iN i ≤ iN i := Int32.le_refl _
      refine loopF_out ?_
      simp only [s_X2_reached_b6, f1, z10', if_true, if_false, bind_ok, Option.bind_some, cb_some]
    | succ d ih =>
      intro i hi
      have f1 : ¬ iN n ≤ iN i := (fun h => absurd ((iN_le (by omega) (by omega)).mp h) (by omega))
      have k113 := q_ck113 hS
      have ow := onward8 hS hL (S := itN (stp L O) S i)
      have i1 : iN i + 1 = iN (i + 1) := iN_add _ _
      have e1 : iN (setN (itN (stp L O) S i) 10) ||| (iN (setN (fun q => anyN 10 (fun p => itN (stp L O) S i p && L p q)) 10) &&& iN (setN O 10)) = iN (setN (itN (stp L O) S (i + 1)) 10) := by
        rw [iN_and, setN_and, iN_or, setN_or]
        rfl
      by_cases c : iN (setN (itN (stp L O) S (i + 1)) 10) = iN (setN (itN (stp L O) S i) 10)
      · have c2 := (iN_inj (setN_31 (by decide)) (setN_31 (by decide))).mp c
        have fx := itN_fix (g := stp L O) stp_congr (S := S) (i := i) (setN_inj c2) (d + 1)
        rw [hi] at fx
        have e2 : setN (itN (stp L O) S n) 10 = setN (itN (stp L O) S i) 10 := setN_congr fx
        refine loopF_out ?_
        rw [e2]
        simp only [s_X2_reached_b6, f1, k113, ow, e1, c, z10', if_true, if_false, bind_ok, Option.bind_some, cb_some]
      · refine (loopF_in ?_).trans (ih (i + 1) (by omega))
        simp only [s_X2_reached_b6, f1, k113, ow, e1, c, i1, z10', if_true, if_false, bind_ok, Option.bind_some, cb_some]
  have k := key n 0 (by omega)
  have k : s_X2_reached_l6 (113, iN n, iN (setN O 10), iN (setN S 10), 0) σ = _ := k
  simp only [s_X2_reached, k, cb_some]
theorem all8 (h : M8 1 nP nF nB nT nS nL H B R σ) : s_X3_all 2 σ = some (iN (setN (fun _ => true) nP), σ) := by
  have i1 := h_i1 (k := 3) h.2.1
  rw [h.c3] at i1
  simp only [s_X3_all, show (2 : Nat) = 1 + 1 from rfl, i1, all_n nP h.p10, z10', if_true, if_false, bind_ok, Option.bind_some, cb_some]
/-- those from which one is not barred -/
def opQ (B : Book) (R : Nat → Int32) (nP f hr : Nat) (S : Nat → Bool) : Nat → Bool := fun p => decide (p < nP) && (S p && !barP B R f p hr)
theorem unb8 (h : M8 1 nP nF nB nT nS nL H B R σ) (hr2 : hr < 2147483648) {f m : Nat} (hf : f < nF) (hm : m ≤ 30) (hmp : nP ≤ m) {S : Nat → Bool} :
    ∃ σ1, s_X1_unbarred 1 (iN f) (iN (setN S m)) (iN hr) σ = some (iN (setN (opQ B R nP f hr S) 10), σ1) ∧ Ag S8 σ σ1 := by
  have hp10 := h.p10
  obtain ⟨σ1, g1, g2⟩ := loop_to (body := fun v => s_X1_unbarred_b6 (v.1) (v.2.1) (v.2.2.1) (v.2.2.2.1) (v.2.2.2.2.1) (v.2.2.2.2.2)) (fun _ s => Ag S8 σ s) (fun s => Ag S8 σ s) (fun i => (1, iN f, iN (setN S m), iN hr, iN (setN (fun p => S p && !barP B R f p hr) i), iN i)) (iN (setN (fun p => S p && !barP B R f p hr) nP)) nP (fun i s hi hs => by
    have n8 := h.ag hs
    have r0 := h_r0_0 n8.2.1
    have c3 := h_i1 (k := 3) n8.2.1
    rw [n8.c3] at c3
    have k0 := h_ck0 n8.2.1
    have f1 : ¬ iN nP ≤ iN i := (fun h => absurd ((iN_le (by omega) (by omega)).mp h) (by omega))
    have hb := hb_set (f := S) (n := m) (k := i) hm (by omega)
    rw [decide_eq_true (show i < m by omega), Bool.true_and] at hb
    have i1 : iN i + 1 = iN (i + 1) := iN_add _ _
    rw [setN_s]
    cases c : S i with
    | false =>
      refine ⟨s, ?_, hs⟩
      simp only [s_X1_unbarred_b6, s_X1_unbarred_j47, r0, c3, f1, hb8, hb, c, bI_f, i1, Bool.false_and, Bool.false_eq_true, z10', if_true, if_false, bind_ok, Option.bind_some, cb_some]
    | true =>
      obtain ⟨s2, u1, u2⟩ := bar8 n8 hr2 hf hi
      refine ⟨s2, ?_, hs.trans u2⟩
      cases c2 : barP B R f i hr with
      | false =>
        rw [c2] at u1
        rw [if_pos (by rfl), ← iN_or, ← shl1 i (by omega)]
        simp only [s_X1_unbarred_b6, s_X1_unbarred_j47, r0, c3, k0, f1, hb8, hb, c, u1, bI_t, bI_f, i1, z10', if_true, if_false, bind_ok, Option.bind_some, cb_some]
      | true =>
        rw [c2] at u1
        simp only [s_X1_unbarred_b6, s_X1_unbarred_j47, r0, c3, k0, f1, hb8, hb, c, u1, bI_t, i1, Bool.not_true, Bool.and_false, Bool.false_eq_true, z10', if_true, if_false, bind_ok, Option.bind_some, cb_some]) (fun s hs => by
    have n8 := h.ag hs
    have r0 := h_r0_0 n8.2.1
    have c3 := h_i1 (k := 3) n8.2.1
    rw [n8.c3] at c3
    have f1 : iN nP ≤ iN nP := Int32.le_refl _
    exact ⟨s, by simp only [s_X1_unbarred_b6, r0, c3, f1, z10', if_true, if_false, bind_ok, Option.bind_some, cb_some], hs⟩) (σ := σ) Ag.refl
  refine ⟨σ1, ?_, g2⟩
  have g1 : s_X1_unbarred_l6 (1, iN f, iN (setN S m), iN hr, 0, 0) σ = _ := g1
  rw [show setN (fun p => S p && !barP B R f p hr) nP = setN (opQ B R nP f hr S) 10 from setN_up hp10] at g1
  simp only [s_X1_unbarred, g1, cb_some]
/-- strides laid: cell 149 -/
def Str (σ : Hp) (nP : Nat) (C : Nat → Nat → Bool) : Prop := ∀ p, p < nP → ∀ q, q < nP → zi σ 149 (10 * p + q) = bI (C p q)
theorem bI_b {x : Bool} : bI x = 0 ∨ bI x = 1 := by cases x <;> decide
theorem lay9 (h : M9 nP nF nB nT nS nL H B R σ) (h3 : hr < 100000) (h7 : R 7 = iN hr) {f : Nat} (hf : f < nF) :
    ∃ σ1, s_X9_layStrides 125 (iN f) σ = some ((), σ1) ∧ Ag S9p σ σ1 ∧ Str σ1 nP (fun p q => cnP B R f p q hr) ∧ M9 nP nF nB nT nS nL H B R σ1 := by
  have hp10 := h.2.2.1.1.1
  have A9 : ∀ {s s2 : Hp}, Ag S9 s s2 → Ag (fun a k => S9 a k ∨ a = 149) s s2 := fun q => q.mono (fun _ _ w => Or.inl w)
  have P : ∀ {s : Hp}, Ag (fun a k => S9 a k ∨ a = 149) σ s → Ag S9p σ s := fun e => e.mono (fun a k q => q.elim Or.inl (fun w => Or.inr (Or.inl (by omega))))
  have M : ∀ {s : Hp}, Ag (fun a k => S9 a k ∨ a = 149) σ s → M9 nP nF nB nT nS nL H B R s := fun {s} e => by
    refine h.row ((P e).mono (fun _ _ q => Or.inl q)) ?_ h.2.2.1
    rw [← h.2.1]
    exact funext fun k => ((P e).2.2.2.2 127 k (S9p.n fr_127 (Or.inl (by decide)))).1
  have l0 : ∀ s, M9 nP nF nB nT nS nL H B R s → ldI 11 s 127 0 = some (iN nP) := fun s q => (rw_0 q.1).trans (by rw [q.c0])
  obtain ⟨σ1, g1, g2, g3⟩ := loop_to (body := fun v => s_X9_layStrides_b2 (v.1) (v.2.1) (v.2.2)) (fun i s => Ag (fun a k => S9 a k ∨ a = 149) σ s ∧ ∀ p, p < i → ∀ q, q < nP → zi s 149 (10 * p + q) = bI (cnP B R f p q hr)) (fun s => Ag (fun a k => S9 a k ∨ a = 149) σ s ∧ ∀ p, p < nP → ∀ q, q < nP → zi s 149 (10 * p + q) = bI (cnP B R f p q hr)) (fun i => (125, iN f, iN i)) () nP (fun i s hi hs => by
    obtain ⟨hs1, hs2⟩ := hs
    have n9 := M hs1
    have b3 := q_r125_3 n9.1
    have ll := l0 s n9
    have f1 : ¬ iN nP ≤ iN i := (fun h => absurd ((iN_le (by omega) (by omega)).mp h) (by omega))
    have i1 : iN i + 1 = iN (i + 1) := iN_add _ _
    obtain ⟨s2, k1, k2, k3, k4⟩ := loop_to (body := fun v => s_X9_layStrides_b14 (v.1) (v.2.1) (v.2.2.1) (v.2.2.2)) (fun j t => Ag (fun a k => S9 a k ∨ a = 149) σ t ∧ (∀ p, p < i → ∀ q, q < nP → zi t 149 (10 * p + q) = bI (cnP B R f p q hr)) ∧ (∀ q, q < j → zi t 149 (10 * i + q) = bI (cnP B R f i q hr))) (fun t => Ag (fun a k => S9 a k ∨ a = 149) σ t ∧ (∀ p, p < i → ∀ q, q < nP → zi t 149 (10 * p + q) = bI (cnP B R f p q hr)) ∧ (∀ q, q < nP → zi t 149 (10 * i + q) = bI (cnP B R f i q hr))) (fun j => (125, iN f, iN i, iN j)) (125, iN f, iN i) nP (fun j t hj ht => by
      obtain ⟨t1, t2, t3⟩ := ht
      have n9 := M t1
      have b3 := q_r125_3 n9.1
      have bk := q_ck125 n9.1
      have b44 := q_r125_44 n9.1
      have ll := l0 t n9
      have f2 : ¬ iN nP ≤ iN j := (fun h => absurd ((iN_le (by omega) (by omega)).mp h) (by omega))
      have j1 : iN j + 1 = iN (j + 1) := iN_add _ _
      obtain ⟨u, u1, u2⟩ := can9 n9 h3 h7 hf hi hj
      have st : stZ u 149 (10 * iN i + iN j) (bI (cnP B R f i j hr)) = some (zsi u 149 (10 * i + j) (bI (cnP B R f i j hr))) := by
        rw [show (10 : Int32) = iN 10 from rfl, iN_mul, iN_add]
        exact q_st149 (by omega) bI_b (n9.ag u2).1
      have e149 : ∀ k, zi u 149 k = zi t 149 k := fun k => (u2.2.2.2.2 149 k (S9.n (by decide) (Or.inl (by decide)))).1
      refine ⟨zsi u 149 (10 * i + j) (bI (cnP B R f i j hr)), ?_, (t1.trans (A9 u2)).trans (Ag.zsi (Or.inr rfl)), fun p hp q hq => ?_, fun q hq => ?_⟩
      · simp only [s_X9_layStrides_b14, b3, bk, b44, ll, f2, u1, st, j1, z10', if_true, if_false, bind_ok, Option.bind_some, cb_some]
      · rw [zi_miss (by omega), e149]
        exact t2 p hp q hq
      · by_cases c : q = j
        · subst c
          exact zi_hit
        · rw [zi_miss (by omega), e149]
          exact t3 q (by omega)) (fun t ht => by
      have n9 := M ht.1
      have b3 := q_r125_3 n9.1
      have ll := l0 t n9
      have f2 : iN nP ≤ iN nP := Int32.le_refl _
      exact ⟨t, by simp only [s_X9_layStrides_b14, b3, ll, f2, z10', if_true, if_false, bind_ok, Option.bind_some, cb_some], ht⟩) (σ := s) ⟨hs1, hs2, fun q hq => by omega⟩
    have k1 : s_X9_layStrides_l14 (125, iN f, iN i, 0) s = _ := k1
    refine ⟨s2, ?_, k2, fun p hp q hq => ?_⟩
    · simp only [s_X9_layStrides_b2, b3, ll, f1, k1, i1, z10', if_true, if_false, bind_ok, Option.bind_some, cb_some]
    · by_cases c : p = i
      · subst c
        exact k4 q hq
      · exact k3 p (by omega) q hq) (fun s hs => by
    have n9 := M hs.1
    have b3 := q_r125_3 n9.1
    have ll := l0 s n9
    have f1 : iN nP ≤ iN nP := Int32.le_refl _
    exact ⟨s, by simp only [s_X9_layStrides_b2, b3, ll, f1, z10', if_true, if_false, bind_ok, Option.bind_some, cb_some], hs⟩) (σ := σ) ⟨Ag.refl, fun p hp => by omega⟩
  refine ⟨σ1, ?_, P g2, g3, M g2⟩
  have g1 : s_X9_layStrides_l2 (125, iN f, 0) σ = _ := g1
  simp only [s_X9_layStrides, g1, cb_some]
/-- one more stride: C can, G gone -/
def stq (C : Nat → Nat → Bool) (G : Nat → Bool) (nP : Nat) (S : Nat → Bool) : Nat → Bool := fun q => S q || (decide (q < nP) && anyN nP (fun p => S p && (!G q && C p q)))
theorem setN_add {T X : Nat → Bool} {i : Nat} (hi : i < 10) : setN (fun q => T q || (decide (q < i + 1) && X q)) 10 = if X i = true then setN (fun q => T q || (decide (q < i) && X q)) 10 ||| 2 ^ i else setN (fun q => T q || (decide (q < i) && X q)) 10 := by
  by_cases c : X i = true
  · rw [if_pos c, ← setN_one hi, setN_or]
    refine setN_congr (fun q hq => ?_)
    by_cases h : q = i
    · subst h
      simp [c]
    · have : decide (q < i + 1) = decide (q < i) := decide_eq_decide.mpr (by omega)
      simp [h, this]
  · rw [if_neg c]
    refine setN_congr (fun q hq => ?_)
    by_cases h : q = i
    · subst h
      have c := Bool.eq_false_iff.mpr c
      simp [c]
    · have : decide (q < i + 1) = decide (q < i) := decide_eq_decide.mpr (by omega)
      rw [this]
theorem near9 (h : M9 nP nF nB nT nS nL H B R σ) {C : Nat → Nat → Bool} (hC : Str σ nP C) {G : Nat → Bool} {f u n : Nat} (hf : f < nF) (hu : u < 10) (eu : R (17 + f) = iN u) (hn : n < 1000) :
    s_X9_nearBy 125 (iN f) (iN n) (iN (setN G 10)) σ = some (iN (setN (itN (stq C G nP) (one u) n) 10), σ) := by
  have hp10 := h.2.2.1.1.1
  have hf4 := h.2.2.1.1.2.1
  have b3 := q_r125_3 h.1
  have b44 := q_r125_44 h.1
  have l0 : ldI 11 σ 127 0 = some (iN nP) := (rw_0 h.1).trans (by rw [h.c0])
  have la := h.ld17 (n := f) (by omega)
  rw [eu] at la
  obtain ⟨σ1, g1, g2⟩ := loop_to (body := fun v => s_X9_nearBy_b16 (v.1) (v.2.1) (v.2.2.1) (v.2.2.2.1) (v.2.2.2.2)) (fun _ s => s = σ) (fun s => s = σ) (fun i => (125, iN n, iN (setN G 10), iN (setN (itN (stq C G nP) (one u) i) 10), iN i)) (iN (setN (itN (stq C G nP) (one u) n) 10)) n (fun i s hi hs => by
    subst hs
    have f1 : ¬ iN n ≤ iN i := (fun h => absurd ((iN_le (by omega) (by omega)).mp h) (by omega))
    have i1 : iN i + 1 = iN (i + 1) := iN_add _ _
    obtain ⟨s2, k1, k2⟩ := loop_to (body := fun v => s_X9_nearBy_b29 (v.1) (v.2.1) (v.2.2.1) (v.2.2.2.1) (v.2.2.2.2.1) (v.2.2.2.2.2.1) (v.2.2.2.2.2.2)) (fun _ t => t = s) (fun t => t = s) (fun j => (125, iN n, iN (setN G 10), iN (setN (itN (stq C G nP) (one u) i) 10), iN i, iN (setN (fun q => itN (stq C G nP) (one u) i q || (decide (q < nP) && anyN j (fun p => itN (stq C G nP) (one u) i p && (!G q && C p q)))) 10), iN j)) (125, iN n, iN (setN G 10), iN i, iN (setN (itN (stq C G nP) (one u) (i + 1)) 10)) nP (fun j t hj ht => by
      subst ht
      have f2 : ¬ iN nP ≤ iN j := (fun h => absurd ((iN_le (by omega) (by omega)).mp h) (by omega))
      have j1 : iN j + 1 = iN (j + 1) := iN_add _ _
      have hbS := hb_set (f := itN (stq C G nP) (one u) i) (n := 10) (k := j) (by decide) (by omega)
      rw [decide_eq_true (show j < 10 by omega), Bool.true_and] at hbS
      generalize itN (stq C G nP) (one u) i = S at hbS ⊢
      refine ⟨t, ?_, rfl⟩
      cases c : S j with
      | false =>
        have e : setN (fun q => S q || (decide (q < nP) && anyN (j + 1) (fun p => S p && (!G q && C p q)))) 10 = setN (fun q => S q || (decide (q < nP) && anyN j (fun p => S p && (!G q && C p q)))) 10 := setN_congr (fun q _ => by rw [anyN_s, c, Bool.false_and, Bool.or_false])
        rw [e]
        have x1 : s_X9_nearBy_l43 (125, iN n, iN (setN G 10), iN (setN S 10), iN i, iN (setN (fun q => S q || (decide (q < nP) && anyN j (fun p => S p && (!G q && C p q)))) 10), iN j, 0) t = some ((125, iN n, iN (setN G 10), iN (setN S 10), iN i, iN (setN (fun q => S q || (decide (q < nP) && anyN j (fun p => S p && (!G q && C p q)))) 10), iN j), t) := by
          refine loopF_out ?_
          by_cases z : iN nP ≤ 0
          · simp only [s_X9_nearBy_b43, b3, l0, z, z10', if_true, if_false, bind_ok, Option.bind_some, cb_some]
          · simp only [s_X9_nearBy_b43, b3, l0, z, hb9, hbS, c, bI_f, z10', if_true, if_false, bind_ok, Option.bind_some, cb_some]
        simp only [s_X9_nearBy_b29, s_X9_nearBy_j108, b3, l0, f2, x1, j1, z10', if_true, if_false, bind_ok, Option.bind_some, cb_some]
      | true =>
        obtain ⟨s3, x1, x2⟩ := loop_to (body := fun v => s_X9_nearBy_b43 (v.1) (v.2.1) (v.2.2.1) (v.2.2.2.1) (v.2.2.2.2.1) (v.2.2.2.2.2.1) (v.2.2.2.2.2.2.1) (v.2.2.2.2.2.2.2)) (fun _ t2 => t2 = t) (fun t2 => t2 = t) (fun m => (125, iN n, iN (setN G 10), iN (setN S 10), iN i, iN (setN (fun q => (S q || (decide (q < nP) && anyN j (fun p => S p && (!G q && C p q)))) || (decide (q < m) && (!G q && C j q))) 10), iN j, iN m)) (125, iN n, iN (setN G 10), iN (setN S 10), iN i, iN (setN (fun q => (S q || (decide (q < nP) && anyN j (fun p => S p && (!G q && C p q)))) || (decide (q < nP) && (!G q && C j q))) 10), iN j) nP (fun m t2 hm ht2 => by
          subst ht2
          have f3 : ¬ iN nP ≤ iN m := (fun h => absurd ((iN_le (by omega) (by omega)).mp h) (by omega))
          have m1 : iN m + 1 = iN (m + 1) := iN_add _ _
          have hbG := hb_set (f := G) (n := 10) (k := m) (by decide) (by omega)
          rw [decide_eq_true (show m < 10 by omega), Bool.true_and] at hbG
          have ld : ldI 13 t2 149 (10 * iN j + iN m) = some (bI (C j m)) := by
            rw [show (10 : Int32) = iN 10 from rfl, iN_mul, iN_add, q_ld149 (by omega) h.1, hC j hj m hm]
          rw [setN_add (show m < 10 by omega)]
          refine ⟨t2, ?_, rfl⟩
          cases cg : G m with
          | true =>
            simp only [s_X9_nearBy_b43, s_X9_nearBy_j98, s_X9_nearBy_j99, b3, l0, f3, hb9, hbS, hbG, c, cg, bI_t, Int32.or_zero, m1, Bool.not_true, Bool.false_and, Bool.false_eq_true, z10', if_true, if_false, bind_ok, Option.bind_some, cb_some]
          | false =>
            cases cc : C j m with
            | false =>
              rw [cc] at ld
              simp only [s_X9_nearBy_b43, s_X9_nearBy_j98, s_X9_nearBy_j99, b3, b44, l0, f3, hb9, hbS, hbG, c, cg, ld, bI_t, bI_f, Int32.or_zero, m1, Bool.not_false, Bool.true_and, Bool.false_eq_true, z10', if_true, if_false, bind_ok, Option.bind_some, cb_some]
            | true =>
              rw [cc] at ld
              rw [if_pos (by rfl), ← iN_or, ← shl1 m (by omega)]
              simp only [s_X9_nearBy_b43, s_X9_nearBy_j98, s_X9_nearBy_j99, b3, b44, l0, f3, hb9, hbS, hbG, c, cg, ld, bI_t, bI_f, m1, z10', if_true, if_false, bind_ok, Option.bind_some, cb_some]) (fun t2 ht2 => by
          subst ht2
          have f3 : iN nP ≤ iN nP := Int32.le_refl _
          exact ⟨t2, by simp only [s_X9_nearBy_b43, b3, l0, f3, z10', if_true, if_false, bind_ok, Option.bind_some, cb_some], rfl⟩) (σ := t) rfl
        subst x2
        have e0 : setN (fun q => (S q || (decide (q < nP) && anyN j (fun p => S p && (!G q && C p q)))) || (decide (q < 0) && (!G q && C j q))) 10 = setN (fun q => S q || (decide (q < nP) && anyN j (fun p => S p && (!G q && C p q)))) 10 := setN_congr (fun q _ => by simp)
        rw [e0] at x1
        have x1 : s_X9_nearBy_l43 (125, iN n, iN (setN G 10), iN (setN S 10), iN i, iN (setN (fun q => S q || (decide (q < nP) && anyN j (fun p => S p && (!G q && C p q)))) 10), iN j, 0) s3 = _ := x1
        have e : setN (fun q => S q || (decide (q < nP) && anyN (j + 1) (fun p => S p && (!G q && C p q)))) 10 = setN (fun q => (S q || (decide (q < nP) && anyN j (fun p => S p && (!G q && C p q)))) || (decide (q < nP) && (!G q && C j q))) 10 := setN_congr (fun q _ => by rw [anyN_s, c, Bool.true_and, Bool.and_or_distrib_left, Bool.or_assoc])
        rw [e]
        simp only [s_X9_nearBy_b29, s_X9_nearBy_j108, b3, l0, f2, x1, j1, z10', if_true, if_false, bind_ok, Option.bind_some, cb_some]) (fun t ht => by
      subst ht
      have f2 : iN nP ≤ iN nP := Int32.le_refl _
      exact ⟨t, by simp only [s_X9_nearBy_b29, b3, l0, f2, z10', if_true, if_false, bind_ok, Option.bind_some, cb_some]; rfl, rfl⟩) (σ := s) rfl
    subst k2
    have e0 : setN (fun q => itN (stq C G nP) (one u) i q || (decide (q < nP) && anyN 0 (fun p => itN (stq C G nP) (one u) i p && (!G q && C p q)))) 10 = setN (itN (stq C G nP) (one u) i) 10 := setN_congr (fun q _ => by
      show (_ || (_ && false)) = _
      simp)
    rw [e0] at k1
    have k1 : s_X9_nearBy_l29 (125, iN n, iN (setN G 10), iN (setN (itN (stq C G nP) (one u) i) 10), iN i, iN (setN (itN (stq C G nP) (one u) i) 10), 0) s2 = _ := k1
    exact ⟨s2, by simp only [s_X9_nearBy_b16, f1, k1, i1, z10', if_true, if_false, bind_ok, Option.bind_some, cb_some], rfl⟩) (fun s hs => by
    subst hs
    have f1 : iN n ≤ iN n := Int32.le_refl _
    exact ⟨s, by simp only [s_X9_nearBy_b16, f1, z10', if_true, if_false, bind_ok, Option.bind_some, cb_some], rfl⟩) (σ := σ) rfl
  subst g2
  have g1 : s_X9_nearBy_l16 (125, iN n, iN (setN G 10), iN (setN (one u) 10), 0) σ1 = _ := g1
  simp only [s_X9_nearBy, b3, la, shl_one hu, g1, z10', if_true, if_false, bind_ok, Option.bind_some, cb_some]
/-- both ways of one more stride are the same -/
theorem step_same {f : Nat} {G S T : Nat → Bool} (hp : nP ≤ 10) (h : eq10 S T) : eq10 (stp (ldQ R nP f) (fun q => opQ B R nP f hr (fun _ => true) q && !G q) S) (stq (fun p q => cnP B R f p q hr) G nP T) := by
  intro q hq
  unfold stp stq
  rw [h q hq]
  congr 1
  cases c : anyN nP (fun p => T p && (!G q && cnP B R f p q hr)) with
  | true =>
    obtain ⟨p, p1, p2⟩ := anyN_t.mp c
    simp only [Bool.and_eq_true] at p2
    obtain ⟨p3, p4, p5⟩ := p2
    unfold cnP at p5
    rw [Bool.and_eq_true] at p5
    by_cases cq : q < nP
    · have e1 : anyN 10 (fun p => S p && ldQ R nP f p q) = true := anyN_t.mpr ⟨p, by omega, by
        rw [h p (by omega), p3]
        simp only [ldQ, p1, cq, decide_true, Bool.true_and]
        exact p5.1⟩
      rw [e1]
      simp only [opQ, cq, decide_true, Bool.true_and, p5.2, p4]
    · simp [opQ, cq]
  | false =>
    rw [Bool.and_false]
    have c2 := anyN_f.mp c
    by_cases cq : q < nP
    · cases c3 : anyN 10 (fun p => S p && ldQ R nP f p q) with
      | false => rfl
      | true =>
        obtain ⟨p, p1, p2⟩ := anyN_t.mp c3
        simp only [Bool.and_eq_true] at p2
        obtain ⟨p3, p4⟩ := p2
        unfold ldQ at p4
        simp only [Bool.and_eq_true, decide_eq_true_eq] at p4
        have c4 := c2 p p4.1
        rw [← h p p1, p3] at c4
        unfold cnP at c4
        rw [p4.2.2] at c4
        simp only [Bool.true_and] at c4
        simp only [opQ, cq, decide_true, Bool.true_and]
        rw [Bool.and_comm]
        exact c4
    · simp [opQ, cq]
end ON
theorem b_near {p1 p2 : Int32} (hr : Rel σ) : Both (s_X8_near 0 p1 p2) (s_X9_near 125 p1 p2) σ := by
  have hS := hr.1.1
  refine hr.both2 (fun nP nF nB nT nS nL B m8 m9 => ?_)
  have hf4 := m8.f4
  have hp10 := m8.p10
  obtain ⟨hh, hh1, hh2⟩ := bd_hour m8
  have r0 := q_r0_0 hS
  have k0 := h_ck0 hS.hk1
  have cF := m8.2.2.1.g1.trans m8.2.2.2.1.2.1.2.1
  rcases nx p1 (c := nF) (by omega) with ⟨f, hf, rfl⟩ | hx
  · have isf := fk8_t m8.2.1 cF hf4 hf
    rcases nx p2 (c := 11) (by omega) with ⟨n, hn, rfl⟩ | hx2
    · obtain ⟨u, hu, eu⟩ := on_n m8.2.2.2.1 hf
      refine ⟨iN (setN (itN (stq (fun p q => cnP B (zi σ 127) f p q hh) (fun _ => false) nP) (one u) n) 10), ?_, fun σ1 q => ?_⟩
      · obtain ⟨s1, d1, d2, d3⟩ := draw8 m8 hS hf
        have P1 : Ag S8p σ s1 := d2.mono (fun a k w => Or.inr (Or.inr (Or.inr (Or.inr (by omega)))))
        have n8 := m8.agp P1
        have al := all8 n8
        obtain ⟨s2, u1, u2⟩ := unb8 n8 (hr := hh) (by omega) hf (m := nP) (by omega) (Nat.le_refl _) (S := fun _ => true)
        have hS2 := (hS.ag d2).ag u2
        have n82 := n8.ag u2
        have L2 : Lay s2 (ldQ (zi σ 127) nP f) := fun p hp => by
          rw [(u2.2.2.2.2 119 p (by unfold S8; omega)).1]
          exact d3 p hp
        have rc := reach8 hS2 L2 (S := one u) (O := opQ B (zi σ 127) nP f hh (fun _ => true)) (n := n) (by omega)
        have e1 : setN (itN (stp (ldQ (zi σ 127) nP f) (opQ B (zi σ 127) nP f hh (fun _ => true))) (one u) n) 10 = setN (itN (stq (fun p q => cnP B (zi σ 127) f p q hh) (fun _ => false) nP) (one u) n) 10 := by
          refine setN_congr (itN_congr (fun S T hST => ?_) (fun _ _ => rfl) n)
          intro q hq
          have := step_same (B := B) (R := zi σ 127) (hr := hh) (f := f) (G := fun _ => false) hp10 hST q hq
          rw [← this]
          simp [stp]
        rw [e1] at rc
        have a0 : ¬ iN n < 0 := iN_nn (by omega)
        have a1 : iN n ≤ (10 : Int32) := (iN_le (b := 10) (by omega) (by decide)).mpr (by omega)
        have r10 := q_r0_10 hS
        have k113 := q_ck113 hS
        have hS1 := hS.ag d2
        have r0a := q_r0_0 hS1
        have h0a := h_r0_0 n8.2.1
        have h1a := h_ck1 n8.2.1
        have h10a := h_r0_10 n8.2.1
        have k0a := h_ck0 n8.2.1
        have t0 := ht_0 n8.2.1
        rw [show zi s1 (1 + 14) 0 = iN hh from n8.2.2.1.g7.trans hh2] at t0
        have r0b := q_r0_0 hS2
        have r10b := q_r0_10 hS2
        have k113b := q_ck113 hS2
        have h3b := h_r0_3 n82.2.1
        have l7 := h_ld7 (n := f) (by omega) n82.2.1
        rw [n82.2.2.1.on (by omega), eu] at l7
        refine ⟨s2, ?_, P1.trans u2.p8⟩
        simp only [s_X8_near, r0, k0, isf, a0, a1, r10, k113, d1, r0a, h0a, h1a, show (1 : Nat) + 1 = 2 from rfl, al, h10a, k0a, t0, u1, r0b, r10b, k113b, h3b, l7, shl_one (show u < 10 by omega), rc, z10', if_true, if_false, bind_ok, Option.bind_some, cb_some]
      · have w := q_w125 (k := 0) (v := 0) q.1; have q2 := q.thrown.2; have bk := q_ck125 q2.1; have b3 := q_r125_3 q2.1
        have isf9 := fk9_t q2.1 q2.c1 (Nat.le_trans hf4 (by decide)) hf
        have i9 : ∀ s, s_X9_in (Int32.toInt64 (iN n)) 0 10 s = some (1, s) := fun s => ino_t (c := 11) (by decide) hn rfl rfl
        obtain ⟨s1, g1, g2, g3, g4⟩ := lay9 q2 (hr := hh) (by omega) hh2 hf
        have nr := near9 g4 g3 (G := fun _ => false) (f := f) (u := u) (n := n) hf (by omega) eu (by omega)
        rw [show iN (setN (fun _ => false) 10) = 0 by rw [setN_z.mpr (fun _ _ => rfl)]; rfl] at nr
        have bk1 := q_ck125 g4.1
        refine ⟨s1, ?_, q.thrown.1.p.trans g2⟩
        simp only [s_X9_near, w, bk, isf9, i9, g1, bk1, nr, z10', if_true, if_false, bind_ok, Option.bind_some, cb_some]
    · refine ⟨-1, ⟨σ, ?_, Ag.refl⟩, fun σ1 q => ⟨_, ?_, q.thrown.1.p⟩⟩
      · by_cases c : p2 < 0
        · simp only [s_X8_near, r0, k0, isf, c, z10', if_true, if_false, bind_ok, Option.bind_some, cb_some]
        · have c2 : ¬ p2 ≤ 10 := no_le hx2 c (d := 10) (by decide) (by decide)
          simp only [s_X8_near, r0, k0, isf, c, c2, z10', if_true, if_false, bind_ok, Option.bind_some, cb_some]
      · have w := q_w125 (k := 0) (v := 0) q.1; have q2 := q.thrown.2; have bk := q_ck125 q2.1; have b3 := q_r125_3 q2.1
        have isf9 := fk9_t q2.1 q2.c1 (Nat.le_trans hf4 (by decide)) hf
        have i9 : ∀ s, s_X9_in (Int32.toInt64 p2) 0 10 s = some (0, s) := fun s => ino_f (c := 11) (by decide) hx2 rfl rfl
        simp only [s_X9_near, w, bk, isf9, i9, z10', if_true, if_false, bind_ok, Option.bind_some, cb_some]
  · have isf := fk8_f m8.2.1 cF hx
    refine ⟨-1, ⟨σ, ?_, Ag.refl⟩, fun σ1 q => ⟨_, ?_, q.thrown.1.p⟩⟩
    · simp only [s_X8_near, r0, k0, isf, z10', if_true, if_false, bind_ok, Option.bind_some, cb_some]
    · have w := q_w125 (k := 0) (v := 0) q.1; have q2 := q.thrown.2; have bk := q_ck125 q2.1; have b3 := q_r125_3 q2.1
      have isf9 := fk9_f q2.1 q2.c1 (Nat.le_trans hf4 (by decide)) hx
      simp only [s_X9_near, w, bk, isf9, z10', if_true, if_false, bind_ok, Option.bind_some, cb_some]
end V21
