/-! ===== cut ===== -/
section V22
variable {σ : Hp}
/-- how many of ten bits -/
def cnt (w : Nat) : Nat := foldN (fun k a => a + (if w.testBit k = true then 1 else 0)) 10 0
def hp0 : Hp := (0, fun _ => 0, fun _ => 0, fun _ _ => 0, fun _ _ => 0, fun _ _ => none)
theorem bc_all : (List.range 1024).all (fun w => decide ((s_J6_bitCount_0f7a4 (iN w) hp0).map Prod.fst = some (iN (cnt w)))) = true := by decide +kernel
theorem cb_s {α β : Type} (v : α) (σ : Hp) (f : α → Hp → Option β) : cb (some (v, σ)) f = f v σ := Eq.trans (Eq.trans (show cb (some (v, σ)) f = (some (v, σ)).bind (fun p => f p.1 p.2) from rfl) (Option.bind_some (v, σ) (fun p => f p.1 p.2))) rfl
theorem bc8 {w : Nat} (h : w < 1024) : s_J6_bitCount_0f7a4 (iN w) σ = some (iN (cnt w), σ) := by
  have h1 := List.all_eq_true.mp bc_all w (List.mem_range.mpr h)
  have h2 := of_decide_eq_true h1
  have h3 : s_J6_bitCount_0f7a4 (iN w) σ = ((s_J6_bitCount_0f7a4 (iN w) hp0).map Prod.fst).map (fun v => (v, σ)) := rfl
  rw [h3, h2]
  rfl
theorem cnt_le (w : Nat) : cnt w ≤ 10 := by
  have key : ∀ n, foldN (fun k a => a + (if w.testBit k = true then 1 else 0)) n 0 ≤ n := by
    intro n
    induction n with
    | zero => exact Nat.le_refl _
    | succ n ih =>
      unfold foldN
      by_cases c : w.testBit n = true
      · rw [if_pos c]
        omega
      · rw [if_neg c]
        omega
  exact key 10
theorem ones9 {w : Nat} (h : w < 1024) : s_X9_ones (iN w) σ = some (iN (cnt w), σ) := by
  obtain ⟨σ1, g1, g2⟩ := loop_to (body := fun v => s_X9_ones_b4 (v.1) (v.2.1) (v.2.2)) (fun _ s => s = σ) (fun s => s = σ) (fun i => (iN w, iN (foldN (fun k a => a + (if w.testBit k = true then 1 else 0)) i 0), iN i)) (iN (cnt w)) 10 (fun i s hi hs => by
    subst hs
    have f1 : ¬ (10 : Int32) ≤ iN i := fun q => absurd ((iN_le (a := 10) (by decide) (by omega)).mp q) (by omega)
    have i1 : iN i + 1 = iN (i + 1) := iN_add _ _
    have e1 : (iN w >>> (iN i &&& 31)) &&& 1 = iN (if w.testBit i = true then 1 else 0) := by
      rw [iN_shr (by omega) (by omega), show (1 : Int32) = iN 1 from rfl, iN_and]
      congr 1
      unfold Nat.testBit
      rw [Nat.and_comm, Nat.one_and_eq_mod_two]
      have h4 : (w >>> i) % 2 = 0 ∨ (w >>> i) % 2 = 1 := by omega
      rcases h4 with h4 | h4 <;> rw [h4] <;> rfl
    refine ⟨s, ?_, rfl⟩
    simp only [s_X9_ones_b4, f1, e1, iN_add, i1, z10', if_true, if_false, bind_ok, Option.bind_some, cb_some]
    rfl) (fun s hs => by
    subst hs
    have f1 : (10 : Int32) ≤ iN 10 := by decide
    exact ⟨s, by simp only [s_X9_ones_b4, f1, z10', if_true, if_false, bind_ok, Option.bind_some, cb_some]; rfl, rfl⟩) (σ := σ) rfl
  subst g2
  have g1 : s_X9_ones_l4 (iN w, 0, 0) σ1 = _ := g1
  simp only [s_X9_ones, g1, cb_some]
/-- what is in a, not in b -/
def dif (a b : Nat) : Nat := setN (fun j => a.testBit j && !b.testBit j) 10
theorem m1_bit : ∀ i, i < 32 → (-1 : Int32).toBitVec.getLsbD i = true := by decide
theorem andnot {a b : Nat} (ha : a < 1024) : iN a &&& (iN b ^^^ (-1)) = iN (dif a b) := by
  apply Int32.toBitVec_inj.mp
  apply BitVec.eq_of_getLsbD_eq
  intro i hi
  rw [Int32.toBitVec_and, Int32.toBitVec_xor, BitVec.getLsbD_and, BitVec.getLsbD_xor, m1_bit i hi]
  show ((BitVec.ofNat 32 a).getLsbD i && ((BitVec.ofNat 32 b).getLsbD i ^^ true)) = (BitVec.ofNat 32 (dif a b)).getLsbD i
  rw [BitVec.getLsbD_ofNat, BitVec.getLsbD_ofNat, BitVec.getLsbD_ofNat]
  unfold dif
  rw [testBit_setN]
  by_cases c : i < 10
  · simp [c, hi]
  · have h2 : (2 : Nat) ^ 10 ≤ 2 ^ i := Nat.pow_le_pow_right (by decide) (by omega)
    rw [Nat.testBit_lt_two_pow (show a < 2 ^ i by omega)]
    simp
theorem dif_lt (a b : Nat) : dif a b < 1024 := setN_lt 10
theorem dif_bit {a b j : Nat} (hj : j < 10) : (dif a b).testBit j = (a.testBit j && !b.testBit j) := by
  unfold dif
  rw [testBit_setN, decide_eq_true hj, Bool.true_and]
theorem dif_0 {a b : Nat} : dif a b = 0 ↔ ∀ j, j < 10 → a.testBit j = true → b.testBit j = true := by
  unfold dif
  rw [setN_z]
  constructor
  · intro h j hj ha
    have := h j hj
    rw [ha] at this
    simpa using this
  · intro h j hj
    cases c : a.testBit j with
    | false => rfl
    | true => simp [h j hj c]
theorem cnt_lt {a b : Nat} (ha : a < 1024) (hb : b < 1024) (hs : dif a b = 0) (hne : a ≠ b) : cnt a < cnt b := by
  have hs := dif_0.mp hs
  have hx : ∃ k, k < 10 ∧ a.testBit k = false ∧ b.testBit k = true := by
    refine Classical.byContradiction (fun hno => hne ?_)
    apply Nat.eq_of_testBit_eq
    intro j
    by_cases c : j < 10
    · cases ca : a.testBit j with
      | true => exact (hs j c ca).symm
      | false =>
        cases cb : b.testBit j with
        | false => rfl
        | true => exact absurd ⟨j, c, ca, cb⟩ hno
    · have h2 : (2 : Nat) ^ 10 ≤ 2 ^ j := Nat.pow_le_pow_right (by decide) (by omega)
      rw [Nat.testBit_lt_two_pow (show a < 2 ^ j by omega), Nat.testBit_lt_two_pow (show b < 2 ^ j by omega)]
  obtain ⟨k, k1, k2, k3⟩ := hx
  have key : ∀ n, n ≤ 10 → foldN (fun k a' => a' + (if a.testBit k = true then 1 else 0)) n 0 + (if k < n then 1 else 0) ≤ foldN (fun k a' => a' + (if b.testBit k = true then 1 else 0)) n 0 := by
    intro n
    induction n with
    | zero =>
      intro _
      rw [if_neg (by omega)]
      exact Nat.le_refl _
    | succ n ih =>
      intro hn
      have ih := ih (by omega)
      unfold foldN
      by_cases ck : k = n
      · subst ck
        rw [if_neg (Nat.lt_irrefl _)] at ih
        rw [k2, k3, if_neg (show ¬ (false = true) by decide), if_pos (show k < k + 1 by omega), if_pos (show true = true from rfl)]
        omega
      · have e1 : (if k < n + 1 then 1 else 0) = (if k < n then 1 else 0) := by
          by_cases c : k < n
          · rw [if_pos c, if_pos (by omega)]
          · rw [if_neg c, if_neg (by omega)]
        rw [e1]
        cases ca : a.testBit n with
        | false =>
          rw [if_neg (by decide)]
          omega
        | true =>
          rw [hs n (by omega) ca, if_pos rfl]
          omega
  have := key 10 (Nat.le_refl _)
  rw [if_pos k1] at this
  unfold cnt
  omega
/-- the class's best so far, the reference's -/
def ctB (o : Nat) (V : Nat → Bool) : Nat → Nat
  | 0 => o
  | i + 1 => if dif i o = 0 ∧ cnt i < cnt (ctB o V i) ∧ V i = true then i else ctB o V i
def lsO : Option Nat → Nat
  | none => 100000000
  | some s => cnt s
def ctR (o : Nat) (V : Nat → Bool) : Nat → Option Nat
  | 0 => none
  | i + 1 => if dif i o = 0 ∧ cnt i < lsO (ctR o V i) ∧ V i = true then some i else ctR o V i
theorem ct_rel {o : Nat} {V : Nat → Bool} (ho : o < 1024) : ∀ i, i ≤ o → (ctR o V i = none ∧ ctB o V i = o) ∨ ∃ s, ctR o V i = some s ∧ ctB o V i = s ∧ s < o ∧ dif s o = 0
  | 0, _ => Or.inl ⟨rfl, rfl⟩
  | i + 1, h => by
    unfold ctR ctB
    rcases ct_rel (V := V) ho i (by omega) with ⟨h1, h2⟩ | ⟨s, h1, h2, h3, h4⟩
    · rw [h1, h2]
      by_cases c : dif i o = 0 ∧ V i = true
      · have l1 := cnt_lt (by omega) ho c.1 (show i ≠ o by omega)
        have l2 := cnt_le i
        rw [if_pos ⟨c.1, by show cnt i < 100000000; omega, c.2⟩, if_pos ⟨c.1, l1, c.2⟩]
        exact Or.inr ⟨i, rfl, rfl, by omega, c.1⟩
      · rw [if_neg (fun q => c ⟨q.1, q.2.2⟩), if_neg (fun q => c ⟨q.1, q.2.2⟩)]
        exact Or.inl ⟨rfl, rfl⟩
    · rw [h1, h2]
      have ee : (dif i o = 0 ∧ cnt i < lsO (some s) ∧ V i = true) ↔ (dif i o = 0 ∧ cnt i < cnt s ∧ V i = true) := Iff.rfl
      by_cases c : dif i o = 0 ∧ cnt i < cnt s ∧ V i = true
      · rw [if_pos (ee.mpr c), if_pos c]
        exact Or.inr ⟨i, rfl, rfl, by omega, c.1⟩
      · rw [if_neg (fun q => c (ee.mp q)), if_neg c]
        exact Or.inr ⟨s, rfl, rfl, h3, h4⟩
theorem ct_end {o : Nat} {V : Nat → Bool} (ho : o < 1024) (hV : V o = true) : ctR o V (o + 1) = some (ctB o V o) := by
  have d0 : dif o o = 0 := dif_0.mpr (fun _ _ h => h)
  unfold ctR
  rcases ct_rel (V := V) ho o (Nat.le_refl _) with ⟨h1, h2⟩ | ⟨s, h1, h2, h3, h4⟩
  · have l2 := cnt_le o
    rw [h1, h2, if_pos ⟨d0, by show cnt o < 100000000; omega, hV⟩]
  · have l1 := cnt_lt (by omega) ho h4 (show s ≠ o by omega)
    rw [h1, h2, if_neg]
    rintro ⟨-, q, -⟩
    have q : cnt o < cnt s := q
    omega
theorem ct_none {o : Nat} {V : Nat → Bool} (hV : ∀ i, dif i o = 0 → V i = false) : ∀ i, ctR o V i = none
  | 0 => rfl
  | i + 1 => by
    unfold ctR
    rw [if_neg]
    · exact ct_none hV i
    · rintro ⟨h1, -, h2⟩
      rw [hV i h1] at h2
      cases h2
theorem ctB_lt {o : Nat} {V : Nat → Bool} (ho : o < 1024) : ∀ i, i ≤ o → ctB o V i < 1024 := fun i hi => by
  rcases ct_rel (V := V) ho i hi with ⟨-, h2⟩ | ⟨s, -, h2, h3, -⟩ <;> omega
theorem ctR_lt {o : Nat} {V : Nat → Bool} : ∀ i s, ctR o V i = some s → s < i
  | 0, _, h => by cases h
  | i + 1, s, h => by
    unfold ctR at h
    by_cases c : dif i o = 0 ∧ cnt i < lsO (ctR o V i) ∧ V i = true
    · rw [if_pos c] at h
      cases h
      omega
    · rw [if_neg c] at h
      have := ctR_lt i s h
      omega
section ON
variable {nP nF nB nT nS nL H hr : Nat} {B : Book} {R : Nat → Int32}
/-- does one come to p, some being gone -/
def rchP (B : Book) (R : Nat → Int32) (nP f u p hr : Nat) (g : Nat) : Bool := itN (stq (fun p q => cnP B R f p q hr) (fun j => g.testBit j) nP) (one u) 10 p
/-- the others -/
def othN (nP u p : Nat) : Nat := setN (fun j => (decide (j < nP) && !decide (j = u)) && !decide (j = p)) 10
theorem oth8 (hp10 : nP ≤ 10) {u p : Nat} (hu : u < 10) (hp : p < 10) : iN (setN (fun _ => true) nP) &&& ((((1 : Int32) <<< (iN u &&& 31)) ||| ((1 : Int32) <<< (iN p &&& 31))) ^^^ (-1)) = iN (othN nP u p) := by
  have h1 : setN (fun _ => true) nP < 1024 := Nat.lt_of_lt_of_le (setN_lt nP) (Nat.pow_le_pow_right (n := 2) (by decide) hp10)
  rw [shl_one hu, shl_one hp, iN_or, andnot h1]
  congr 1
  refine setN_congr (fun j hj => ?_)
  rw [testBit_setN, setN_or, testBit_setN, decide_eq_true hj]
  unfold one
  simp [Bool.and_assoc]
theorem oth9 (hp10 : nP ≤ 10) {u p : Nat} (hu : u < 10) (hp : p < 10) : (((((1 : Int32) <<< (iN nP &&& 31)) - 1) &&& (((1 : Int32) <<< (iN p &&& 31)) ^^^ (-1))) &&& (((1 : Int32) <<< (iN u &&& 31)) ^^^ (-1))) = iN (othN nP u p) := by
  have h1 : setN (fun _ => true) nP < 1024 := Nat.lt_of_lt_of_le (setN_lt nP) (Nat.pow_le_pow_right (n := 2) (by decide) hp10)
  rw [all_n nP hp10, shl_one hu, shl_one hp, andnot h1, andnot (dif_lt _ _)]
  congr 1
  refine setN_congr (fun j hj => ?_)
  rw [dif_bit hj, testBit_setN, testBit_setN, testBit_setN, decide_eq_true hj]
  unfold one
  simp only [Bool.true_and, Bool.and_true]
  rw [Bool.and_assoc, Bool.and_comm (!decide (j = p)), ← Bool.and_assoc]
theorem oth_lt (nP u p : Nat) : othN nP u p < 1024 := setN_lt 10
theorem oth_bit {u p j : Nat} (hj : j < 10) : (othN nP u p).testBit j = ((decide (j < nP) && !decide (j = u)) && !decide (j = p)) := by
  unfold othN
  rw [testBit_setN, decide_eq_true hj, Bool.true_and]
theorem stq_mono {C : Nat → Nat → Bool} {G : Nat → Bool} {S : Nat → Bool} {q : Nat} (h : S q = true) : ∀ n, itN (stq C G nP) S n q = true
  | 0 => h
  | n + 1 => by
    unfold itN
    unfold stq
    rw [show itN (fun S q => S q || (decide (q < nP) && anyN nP (fun p => S p && (!G q && C p q)))) S n q = true from stq_mono h n]
    rfl
/-- all others gone, one comes nowhere -/
theorem rch_oth {f u p : Nat} (hp10 : nP ≤ 10) (hpu : u ≠ p) (hp : p < nP) (hc : cnP B R f u p hr = false) : rchP B R nP f u p hr (othN nP u p) = false := by
  have key : ∀ n q, q < 10 → itN (stq (fun p q => cnP B R f p q hr) (fun j => (othN nP u p).testBit j) nP) (one u) n q = true → q = u := by
    intro n
    induction n with
    | zero =>
      intro q hq h
      exact of_decide_eq_true h
    | succ n ih =>
      intro q hq h
      unfold itN at h
      rw [stq] at h
      rw [Bool.or_eq_true] at h
      rcases h with h | h
      · exact ih q hq h
      · rw [Bool.and_eq_true] at h
        obtain ⟨h1, h2⟩ := h
        obtain ⟨k, k1, k2⟩ := anyN_t.mp h2
        simp only [Bool.and_eq_true] at k2
        obtain ⟨k3, k4, k5⟩ := k2
        have ek := ih k (by omega) k3
        subst ek
        rw [oth_bit hq, h1] at k4
        refine Classical.byContradiction (fun hne => ?_)
        have : q = p := by
          simp [hne] at k4
          exact k4
        subst this
        rw [hc] at k5
        cases k5
  cases c : rchP B R nP f u p hr (othN nP u p) with
  | false => rfl
  | true => exact absurd (key 10 p (by omega) c).symm hpu
/-- one that is there, or can stride there, comes there whatever is gone -/
theorem rch_sub {f u p g : Nat} (hp10 : nP ≤ 10) (hu : u < nP) (hp : p < nP) (h : u = p ∨ cnP B R f u p hr = true) (hg : dif g (othN nP u p) = 0) : rchP B R nP f u p hr g = true := by
  unfold rchP
  rcases h with h | h
  · subst h
    exact stq_mono (by simp [one]) 10
  · have gp : g.testBit p = false := by
      cases c : g.testBit p with
      | false => rfl
      | true =>
        have := dif_0.mp hg p (by omega) c
        rw [oth_bit (by omega)] at this
        simp at this
    have h1 : itN (stq (fun p q => cnP B R f p q hr) (fun j => g.testBit j) nP) (one u) 9 u = true := stq_mono (by simp [one]) 9
    show stq _ _ _ (itN _ _ 9) p = true
    generalize itN (stq (fun p q => cnP B R f p q hr) (fun j => g.testBit j) nP) (one u) 9 = S at h1
    unfold stq
    rw [show anyN nP (fun p_1 => S p_1 && (!g.testBit p && cnP B R f p_1 p hr)) = true from anyN_t.mpr ⟨u, hu, by rw [h1, gp, h]; rfl⟩]
    simp [hp]
end ON
theorem cut8 {nP nF nB nT nS nL H hr : Nat} {B : Book} {R : Nat → Int32} (m8 : M8 1 nP nF nB nT nS nL H B R σ) (hS : SK σ) (hr2 : hr < 100000) (h7 : R 7 = iN hr) {f u p : Nat} (hf : f < nF) (hu : u < nP) (eu : R (17 + f) = iN u) (hp : p < nP) :
    ∃ σ1, s_X2_fewestBetween 113 (some 1) (iN f) (iN p) σ = some (iN (ctB (othN nP u p) (fun g => !rchP B R nP f u p hr g) (othN nP u p)), σ1) ∧ Ag S8p σ σ1 := by
  have hp10 := m8.p10
  have hf4 := m8.f4
  obtain ⟨s1, d1, d2, d3⟩ := draw8 m8 hS hf
  have P1 : Ag S8p σ s1 := d2.mono (fun a k w => Or.inr (Or.inr (Or.inr (Or.inr (by omega)))))
  have n8 := m8.agp P1
  have al := all8 n8
  obtain ⟨s2, u1, u2⟩ := unb8 n8 (hr := hr) (by omega) hf (m := nP) (by omega) (Nat.le_refl _) (S := fun _ => true)
  have hS2 := (hS.ag d2).ag u2
  have n82 := n8.ag u2
  have L2 : Lay s2 (ldQ R nP f) := fun p hp => by
    rw [(u2.2.2.2.2 119 p (by unfold S8; omega)).1]
    exact d3 p hp
  have hS1 := hS.ag d2
  have k113 := q_ck113 hS
  have h0a := h_r0_0 n8.2.1
  have h1a := h_ck1 n8.2.1
  have h10a := h_r0_10 n8.2.1
  have k0a := h_ck0 n8.2.1
  have t0 := ht_0 n8.2.1
  rw [show zi s1 (1 + 14) 0 = iN hr from n8.2.2.1.g7.trans h7] at t0
  have h3b := h_r0_3 n82.2.1
  have l7 := h_ld7 (n := f) (by omega) n82.2.1
  rw [n82.2.2.1.on (by omega), eu] at l7
  have ho := oth_lt nP u p
  generalize eo : othN nP u p = o at ho
  have OT := oth8 hp10 (u := u) (p := p) (by omega) (by omega)
  rw [eo] at OT
  have hB : ∀ i, i ≤ o → ctB o (fun g => !rchP B R nP f u p hr g) i < 1024 := fun i hi => ctB_lt ho i hi
  have ctS : ∀ i, ctB o (fun g => !rchP B R nP f u p hr g) (i + 1) = if dif i o = 0 ∧ cnt i < cnt (ctB o (fun g => !rchP B R nP f u p hr g) i) ∧ (!rchP B R nP f u p hr i) = true then i else ctB o (fun g => !rchP B R nP f u p hr g) i := fun i => rfl
  obtain ⟨s3, g1, g2⟩ := loop_to (body := fun v => s_X2_fewestBetween_b60 (v.1) (v.2.1) (v.2.2.1) (v.2.2.2.1) (v.2.2.2.2.1) (v.2.2.2.2.2.1) (v.2.2.2.2.2.2)) (fun _ s => s = s2) (fun s => s = s2) (fun i => (113, iN p, iN (setN (opQ B R nP f hr (fun _ => true)) 10), iN (setN (one u) 10), iN o, iN (ctB o (fun g => !rchP B R nP f u p hr g) i), iN i)) (iN (ctB o (fun g => !rchP B R nP f u p hr g) o)) o (fun i s hi hs => by
    subst hs
    have f1 : ¬ iN o ≤ iN i := (fun h => absurd ((iN_le (by omega) (by omega)).mp h) (by omega))
    have i1 : iN i + 1 = iN (i + 1) := iN_add _ _
    have an := andnot (a := i) (b := o) (by omega)
    have hbi := hB i (by omega)
    have b1 := bc8 (σ := s) (w := i) (by omega)
    have b2 := bc8 (σ := s) hbi
    have kk := q_ck113 hS2
    have hc1 := cnt_le i
    have hc2 := cnt_le (ctB o (fun g => !rchP B R nP f u p hr g) i)
    have rc := reach8 hS2 L2 (S := one u) (O := fun q => opQ B R nP f hr (fun _ => true) q && !i.testBit q) (n := 10) (by decide)
    have e1 : setN (itN (stp (ldQ R nP f) (fun q => opQ B R nP f hr (fun _ => true) q && !i.testBit q)) (one u) 10) 10 = setN (itN (stq (fun p q => cnP B R f p q hr) (fun j => i.testBit j) nP) (one u) 10) 10 := setN_congr (itN_congr (fun S T hST => step_same (G := fun j => i.testBit j) hp10 hST) (fun _ _ => rfl) 10)
    rw [e1] at rc
    have rc : s_X2_reached 113 (iN (setN (one u) 10)) 10 (iN (setN (fun q => opQ B R nP f hr (fun _ => true) q && !i.testBit q) 10)) s = _ := rc
    have ao : iN (setN (opQ B R nP f hr (fun _ => true)) 10) &&& (iN i ^^^ (-1)) = iN (setN (fun q => opQ B R nP f hr (fun _ => true) q && !i.testBit q) 10) := by
      rw [andnot (Nat.lt_of_lt_of_le (setN_lt 10) (by decide))]
      congr 1
      exact setN_congr (fun j hj => by rw [testBit_setN, decide_eq_true hj, Bool.true_and])
    have hb := hb_set (f := itN (stq (fun p q => cnP B R f p q hr) (fun j => i.testBit j) nP) (one u) 10) (n := 10) (k := p) (by decide) (by omega)
    rw [decide_eq_true (show p < 10 by omega), Bool.true_and] at hb
    have hb : hbP _ _ = rchP B R nP f u p hr i := hb
    refine ⟨s, ?_, rfl⟩
    rw [ctS i]
    by_cases c1 : dif i o = 0
    · by_cases c2 : cnt i < cnt (ctB o (fun g => !rchP B R nP f u p hr g) i)
      · have c2b : iN (cnt i) < iN (cnt (ctB o (fun g => !rchP B R nP f u p hr g) i)) := ((iN_lt (by omega) (by omega)).mpr (by omega))
        cases c3 : rchP B R nP f u p hr i with
        | false =>
          rw [c3] at hb
          rw [if_pos ⟨c1, c2, rfl⟩]
          simp only [s_X2_fewestBetween_b60, s_X2_fewestBetween_j119, f1, an, c1, show iN 0 = (0 : Int32) from rfl, b1, b2, c2b, kk, ao, rc, hb8, hb, bI_f, i1, z10', if_true, if_false, bind_ok, Option.bind_some, cb_s]
        | true =>
          rw [c3] at hb
          rw [if_neg (fun q => absurd q.2.2 (by decide))]
          simp only [s_X2_fewestBetween_b60, s_X2_fewestBetween_j119, f1, an, c1, show iN 0 = (0 : Int32) from rfl, b1, b2, c2b, kk, ao, rc, hb8, hb, bI_t, i1, z10', if_true, if_false, bind_ok, Option.bind_some, cb_s]
      · have c2b : ¬ iN (cnt i) < iN (cnt (ctB o (fun g => !rchP B R nP f u p hr g) i)) := (fun h => absurd ((iN_lt (by omega) (by omega)).mp h) (by omega))
        rw [if_neg (fun q => c2 q.2.1)]
        simp only [s_X2_fewestBetween_b60, s_X2_fewestBetween_j119, f1, an, c1, show iN 0 = (0 : Int32) from rfl, b1, b2, c2b, i1, z10', if_true, if_false, bind_ok, Option.bind_some, cb_s]
    · have c1b : ¬ iN (dif i o) = 0 := fun q => c1 ((iN_inj (b := 0) (by have := dif_lt i o; omega) (by decide)).mp q)
      rw [if_neg (fun q => c1 q.1)]
      simp only [s_X2_fewestBetween_b60, s_X2_fewestBetween_j119, f1, an, c1b, i1, z10', if_true, if_false, bind_ok, Option.bind_some, cb_some]) (fun s hs => by
    subst hs
    have f1 : iN o ≤ iN o := Int32.le_refl _
    exact ⟨s, by simp only [s_X2_fewestBetween_b60, f1, z10', if_true, if_false, bind_ok, Option.bind_some, cb_some], rfl⟩) (σ := s2) rfl
  subst g2
  have g1 : s_X2_fewestBetween_l60 (113, iN p, iN (setN (opQ B R nP f hr (fun _ => true)) 10), iN (setN (one u) 10), iN o, iN o, 0) s3 = _ := g1
  refine ⟨s3, ?_, P1.trans u2.p8⟩
  rw [← shl_one (show u < 10 by omega)] at g1
  simp only [s_X2_fewestBetween, k113, d1, h0a, h1a, show (1 : Nat) + 1 = 2 from rfl, al, h10a, k0a, t0, u1, h3b, l7, OT, g1, z10', if_true, if_false, bind_ok, Option.bind_some, cb_some]
def itI : Option Nat → Int32
  | none => -1
  | some s => iN s
theorem cut9 {nP nF nB nT nS nL H hr : Nat} {B : Book} {R : Nat → Int32} (h : M9 nP nF nB nT nS nL H B R σ) {f u p : Nat} (hC : Str σ nP (fun p q => cnP B R f p q hr)) (hf : f < nF) (hu : u < nP) (eu : R (17 + f) = iN u) (hp : p < nP) {p3 : Int32} :
    s_X9_cut_l81 (125, iN f, iN p, p3, iN (othN nP u p), 100000000, -1, 0) σ = some ((p3, iN (lsO (ctR (othN nP u p) (fun g => !rchP B R nP f u p hr g) (othN nP u p + 1))), itI (ctR (othN nP u p) (fun g => !rchP B R nP f u p hr g) (othN nP u p + 1))), σ) := by
  have hp10 := h.2.2.1.1.1
  have bk := q_ck125 h.1
  have ho := oth_lt nP u p
  generalize othN nP u p = o at ho
  have lsb : ∀ x : Option Nat, lsO x ≤ 100000000 := fun x => by
    cases x with
    | none => exact Nat.le_refl _
    | some s =>
      show cnt s ≤ _
      have := cnt_le s
      omega
  have ctS : ∀ i, ctR o (fun g => !rchP B R nP f u p hr g) (i + 1) = if dif i o = 0 ∧ cnt i < lsO (ctR o (fun g => !rchP B R nP f u p hr g) i) ∧ (!rchP B R nP f u p hr i) = true then some i else ctR o (fun g => !rchP B R nP f u p hr g) i := fun i => rfl
  obtain ⟨s3, g1, g2⟩ := loop_to (body := fun v => s_X9_cut_b81 (v.1) (v.2.1) (v.2.2.1) (v.2.2.2.1) (v.2.2.2.2.1) (v.2.2.2.2.2.1) (v.2.2.2.2.2.2.1) (v.2.2.2.2.2.2.2)) (fun _ s => s = σ) (fun s => s = σ) (fun i => (125, iN f, iN p, p3, iN o, iN (lsO (ctR o (fun g => !rchP B R nP f u p hr g) i)), itI (ctR o (fun g => !rchP B R nP f u p hr g) i), iN i)) (p3, iN (lsO (ctR o (fun g => !rchP B R nP f u p hr g) (o + 1))), itI (ctR o (fun g => !rchP B R nP f u p hr g) (o + 1))) (o + 1) (fun i s hi hs => by
    subst hs
    have f1 : ¬ iN o < iN i := (fun h => absurd ((iN_lt (by omega) (by omega)).mp h) (by omega))
    have i1 : iN i + 1 = iN (i + 1) := iN_add _ _
    have an := andnot (a := i) (b := o) (by omega)
    have b1 := ones9 (σ := s) (w := i) (by omega)
    have hc1 := cnt_le i
    have hc2 := lsb (ctR o (fun g => !rchP B R nP f u p hr g) i)
    have nr := near9 h hC (G := fun j => i.testBit j) (f := f) (u := u) (n := 10) hf (by omega) eu (by decide)
    rw [setN_of (show i < 2 ^ 10 by omega)] at nr
    have nr : s_X9_nearBy 125 (iN f) 10 (iN i) s = _ := nr
    have hb := hb_set (f := itN (stq (fun p q => cnP B R f p q hr) (fun j => i.testBit j) nP) (one u) 10) (n := 10) (k := p) (by decide) (by omega)
    rw [decide_eq_true (show p < 10 by omega), Bool.true_and] at hb
    have hb : hbP _ _ = rchP B R nP f u p hr i := hb
    refine ⟨s, ?_, rfl⟩
    rw [ctS i]
    by_cases c1 : dif i o = 0
    · by_cases c2 : cnt i < lsO (ctR o (fun g => !rchP B R nP f u p hr g) i)
      · have c2b : ¬ iN (lsO (ctR o (fun g => !rchP B R nP f u p hr g) i)) ≤ iN (cnt i) := (fun h => absurd ((iN_le (by omega) (by omega)).mp h) (by omega))
        cases c3 : rchP B R nP f u p hr i with
        | false =>
          rw [c3] at hb
          rw [if_pos ⟨c1, c2, rfl⟩]
          simp only [s_X9_cut_b81, s_X9_cut_j135, f1, an, c1, show iN 0 = (0 : Int32) from rfl, b1, c2b, bk, nr, hb9, hb, bI_f, i1, z10', if_true, if_false, bind_ok, Option.bind_some, cb_some]
          rfl
        | true =>
          rw [c3] at hb
          rw [if_neg (fun q => absurd q.2.2 (by decide))]
          simp only [s_X9_cut_b81, s_X9_cut_j135, f1, an, c1, show iN 0 = (0 : Int32) from rfl, b1, c2b, bk, nr, hb9, hb, bI_t, i1, z10', if_true, if_false, bind_ok, Option.bind_some, cb_some]
      · have c2b : iN (lsO (ctR o (fun g => !rchP B R nP f u p hr g) i)) ≤ iN (cnt i) := ((iN_le (by omega) (by omega)).mpr (by omega))
        rw [if_neg (fun q => c2 q.2.1)]
        simp only [s_X9_cut_b81, s_X9_cut_j135, f1, an, c1, show iN 0 = (0 : Int32) from rfl, b1, c2b, i1, z10', if_true, if_false, bind_ok, Option.bind_some, cb_some]
    · have c1b : ¬ iN (dif i o) = 0 := fun q => c1 ((iN_inj (b := 0) (by have := dif_lt i o; omega) (by decide)).mp q)
      rw [if_neg (fun q => c1 q.1)]
      simp only [s_X9_cut_b81, s_X9_cut_j135, f1, an, c1b, i1, z10', if_true, if_false, bind_ok, Option.bind_some, cb_some]) (fun s hs => by
    subst hs
    have f1 : iN o < iN (o + 1) := ((iN_lt (by omega) (by omega)).mpr (by omega))
    exact ⟨s, by simp only [s_X9_cut_b81, f1, z10', if_true, if_false, bind_ok, Option.bind_some, cb_some], rfl⟩) (σ := σ) rfl
  subst g2
  exact g1
theorem b_cut {p1 p2 p3 : Int32} (hr : Rel σ) : Both (s_X8_cut 0 p1 p2 p3) (s_X9_cut 125 p1 p2 p3) σ := by
  have hS := hr.1.1
  refine hr.both2 (fun nP nF nB nT nS nL B m8 m9 => ?_)
  have hf4 := m8.f4
  have hp10 := m8.p10
  obtain ⟨hh, hh1, hh2⟩ := bd_hour m8
  have r0 := q_r0_0 hS
  have k0 := h_ck0 hS.hk1
  have h0 := h_r0_0 hS.hk1
  have h1 := h_ck1 hS.hk1
  have h3 := h_r0_3 hS.hk1
  have cF := m8.2.2.1.g1.trans m8.2.2.2.1.2.1.2.1
  rcases nx p1 (c := nF) (by omega) with ⟨f, hf, rfl⟩ | hx
  · have isf := fk8_t m8.2.1 cF hf4 hf
    have isf9 : ∀ s, M9 nP nF nB nT nS nL 999 B (zi σ 127) s → s_X9_isFolk 125 (iN f) s = some (1, s) := fun s q => fk9_t q.1 q.c1 (Nat.le_trans hf4 (by decide)) hf
    rcases nx p2 (c := nP) (by omega) with ⟨p, hp, rfl⟩ | hx2
    · have isp := one_t m8.2.1 m8.c3 hp10 hp
      have isp9 : ∀ s, M9 nP nF nB nT nS nL 999 B (zi σ 127) s → s_X9_isPerch 125 (iN p) s = some (1, s) := fun s q => pc9_t q.1 q.c0 hp10 hp
      rcases nx p3 (c := 2) (by decide) with ⟨w', hw, rfl⟩ | hx3
      · obtain ⟨u, hu, eu⟩ := on_n m8.2.2.2.1 hf
        have l7 := h_ld7 (n := f) (by omega) m8.2.1
        rw [m8.2.2.1.on (by omega), eu] at l7
        have a0 : ¬ iN w' < 0 := iN_nn (by omega)
        have a1 : iN w' ≤ (1 : Int32) := (iN_le (b := 1) (by omega) (by decide)).mpr (by omega)
        -- the reference's run
        have run9 : ∀ σ1, M9 nP nF nB nT nS nL 999 B (zi σ 127) σ1 → ∃ σ2, s_X9_cut 125 (iN f) (iN p) (iN w') σ1 = some (match ctR (othN nP u p) (fun g => !rchP B (zi σ 127) nP f u p hh g) (othN nP u p + 1) with | none => -1 | some s => if w' = 1 then iN s else iN (cnt s), σ2) ∧ Ag S9p σ1 σ2 := fun σ1 q => by
          have w := q_w125 (k := 0) (v := 0) q.1; have q2 := q.thrown.2; have bk := q_ck125 q2.1; have b3 := q_r125_3 q2.1
          have i9 : ∀ s, s_X9_in (Int32.toInt64 (iN w')) 0 1 s = some (1, s) := fun s => ino_t (c := 2) (by decide) hw rfl rfl
          obtain ⟨s1, g1, g2, g3, g4⟩ := lay9 q2 (hr := hh) (by omega) hh2 hf
          have bb3 := q_r125_3 g4.1
          have l0 : ldI 11 s1 127 0 = some (iN nP) := (rw_0 g4.1).trans (by rw [g4.c0])
          have la := g4.ld17 (n := f) (by omega)
          rw [eu] at la
          have OT := oth9 hp10 (u := u) (p := p) (by omega) (by omega)
          have cr := cut9 g4 g3 hf hu eu hp (p3 := iN w')
          have ia := isf9 _ q2
          have ib := isp9 _ q2
          refine ⟨s1, ?_, q.thrown.1.p.trans g2⟩
          cases hc : ctR (othN nP u p) (fun g => !rchP B (zi σ 127) nP f u p hh g) (othN nP u p + 1) with
          | none =>
            rw [hc] at cr
            simp only [s_X9_cut, w, bk, ia, ib, i9, g1, bb3, l0, la, OT, cr, itI, lsO, z10', if_true, if_false, bind_ok, Option.bind_some, cb_some]
          | some s =>
            rw [hc] at cr
            have hs := ctR_lt _ _ hc
            have ho := oth_lt nP u p
            have n1 : ¬ iN s = -1 := iN_ne (by omega)
            by_cases c1 : w' = 1
            · subst c1
              rw [show iN 1 = (1 : Int32) from rfl] at i9 cr ⊢
              simp only [s_X9_cut, w, bk, ia, ib, i9, g1, bb3, l0, la, OT, cr, itI, lsO, n1, z10', if_true, if_false, bind_ok, Option.bind_some, cb_some]
            · have c1b : ¬ iN w' = 1 := fun q => c1 ((iN_inj (b := 1) (by omega) (by decide)).mp q)
              simp only [s_X9_cut, w, bk, ia, ib, i9, g1, bb3, l0, la, OT, cr, itI, lsO, n1, c1, c1b, z10', if_true, if_false, bind_ok, Option.bind_some, cb_some]
        obtain ⟨s0, y1, y2⟩ := may8 m8 (hr := hh) (by omega) hh2 hf hp eu hu
        by_cases cu : u = p
        · have cn := ct_none (o := othN nP u p) (V := fun g => !rchP B (zi σ 127) nP f u p hh g) (fun i hi => by rw [rch_sub hp10 hu hp (Or.inl cu) hi]; rfl) (othN nP u p + 1)
          rw [cn] at run9
          refine ⟨-1, ⟨σ, ?_, Ag.refl⟩, run9⟩
          subst cu
          simp only [s_X8_cut, r0, k0, h0, h1, h3, isf, isp, l7, a0, a1, z10', if_true, if_false, bind_ok, Option.bind_some, cb_some]
        · have cub : ¬ iN u = iN p := (fun h => absurd ((iN_inj (by omega) (by omega)).mp h) (by omega))
          cases cm : cnP B (zi σ 127) f u p hh with
          | true =>
            rw [cm] at y1
            have cn := ct_none (o := othN nP u p) (V := fun g => !rchP B (zi σ 127) nP f u p hh g) (fun i hi => by rw [rch_sub hp10 hu hp (Or.inr cm) hi]; rfl) (othN nP u p + 1)
            rw [cn] at run9
            refine ⟨-1, ⟨s0, ?_, y2.p8⟩, run9⟩
            simp only [s_X8_cut, r0, k0, h0, h1, h3, isf, isp, l7, a0, a1, cub, y1, bI_t, z10', if_true, if_false, bind_ok, Option.bind_some, cb_some]
          | false =>
            rw [cm] at y1
            have ce := ct_end (V := fun g => !rchP B (zi σ 127) nP f u p hh g) (oth_lt nP u p) (by rw [rch_oth hp10 cu hp cm]; rfl)
            rw [ce] at run9
            have hS0 := hS.ag y2
            obtain ⟨s1, z1, z2⟩ := cut8 (m8.ag y2) hS0 (hr := hh) (by omega) hh2 hf hu eu hp
            have hb := ctB_lt (V := fun g => !rchP B (zi σ 127) nP f u p hh g) (oth_lt nP u p) (othN nP u p) (Nat.le_refl _)
            have r0b := q_r0_0 hS0
            have r10b := q_r0_10 hS0
            have k113 := q_ck113 hS0
            by_cases c1 : w' = 1
            · subst c1
              refine ⟨iN (ctB (othN nP u p) (fun g => !rchP B (zi σ 127) nP f u p hh g) (othN nP u p)), ⟨s1, ?_, y2.p8.trans z2⟩, run9⟩
              have e1 : iN 1 = (1 : Int32) := rfl
              rw [e1] at a0 a1 ⊢
              simp only [s_X8_cut, r0, k0, h0, h1, h3, isf, isp, l7, a0, a1, cub, y1, bI_f, r0b, r10b, k113, z1, z10', if_true, if_false, bind_ok, Option.bind_some, cb_some]
            · have w0 : w' = 0 := by omega
              subst w0
              have b1 := bc8 (σ := s1) hb
              refine ⟨iN (cnt (ctB (othN nP u p) (fun g => !rchP B (zi σ 127) nP f u p hh g) (othN nP u p))), ⟨s1, ?_, y2.p8.trans z2⟩, run9⟩
              have e1 : iN 0 = (0 : Int32) := rfl
              rw [e1] at a0 a1 ⊢
              simp only [s_X8_cut, r0, k0, h0, h1, h3, isf, isp, l7, a0, a1, cub, y1, bI_f, r0b, r10b, k113, z1, b1, z10', if_true, if_false, bind_ok, Option.bind_some, cb_some]
      · refine ⟨-1, ⟨σ, ?_, Ag.refl⟩, fun σ1 q => ⟨_, ?_, q.thrown.1.p⟩⟩
        · by_cases c : p3 < 0
          · simp only [s_X8_cut, r0, k0, h0, h1, isf, isp, c, z10', if_true, if_false, bind_ok, Option.bind_some, cb_some]
          · have c2 : ¬ p3 ≤ 1 := no_le hx3 c (d := 1) (by decide) (by decide)
            simp only [s_X8_cut, r0, k0, h0, h1, isf, isp, c, c2, z10', if_true, if_false, bind_ok, Option.bind_some, cb_some]
        · have w := q_w125 (k := 0) (v := 0) q.1; have q2 := q.thrown.2; have bk := q_ck125 q2.1; have b3 := q_r125_3 q2.1
          have ia := isf9 _ q2
          have ib := isp9 _ q2
          have i9 : ∀ s, s_X9_in (Int32.toInt64 p3) 0 1 s = some (0, s) := fun s => ino_f (c := 2) (by decide) hx3 rfl rfl
          simp only [s_X9_cut, w, bk, ia, ib, i9, z10', if_true, if_false, bind_ok, Option.bind_some, cb_some]
    · have isp := one_f m8.2.1 m8.c3 hx2
      refine ⟨-1, ⟨σ, ?_, Ag.refl⟩, fun σ1 q => ⟨_, ?_, q.thrown.1.p⟩⟩
      · simp only [s_X8_cut, r0, k0, h0, h1, isf, isp, z10', if_true, if_false, bind_ok, Option.bind_some, cb_some]
      · have w := q_w125 (k := 0) (v := 0) q.1; have q2 := q.thrown.2; have bk := q_ck125 q2.1; have b3 := q_r125_3 q2.1
        have ia := isf9 _ q2
        have ib := pc9_f q2.1 q2.c0 hp10 hx2
        simp only [s_X9_cut, w, bk, ia, ib, z10', if_true, if_false, bind_ok, Option.bind_some, cb_some]
  · have isf := fk8_f m8.2.1 cF hx
    refine ⟨-1, ⟨σ, ?_, Ag.refl⟩, fun σ1 q => ⟨_, ?_, q.thrown.1.p⟩⟩
    · simp only [s_X8_cut, r0, k0, isf, z10', if_true, if_false, bind_ok, Option.bind_some, cb_some]
    · have w := q_w125 (k := 0) (v := 0) q.1; have q2 := q.thrown.2; have bk := q_ck125 q2.1; have b3 := q_r125_3 q2.1
      have isf9 := fk9_f q2.1 q2.c1 (Nat.le_trans hf4 (by decide)) hx
      simp only [s_X9_cut, w, bk, isf9, z10', if_true, if_false, bind_ok, Option.bind_some, cb_some]
end V22
