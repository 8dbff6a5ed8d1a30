/-! ===== sets as bits ===== -/
section V20
variable {σ : Hp}
theorem iN_or (a b : Nat) : iN a ||| iN b = iN (a ||| b) := by
  apply Int32.toBitVec_inj.mp
  show BitVec.ofNat 32 a ||| BitVec.ofNat 32 b = BitVec.ofNat 32 (a ||| b)
  exact BitVec.ofNat_or.symm
theorem iN_and (a b : Nat) : iN a &&& iN b = iN (a &&& b) := by
  apply Int32.toBitVec_inj.mp
  show BitVec.ofNat 32 a &&& BitVec.ofNat 32 b = BitVec.ofNat 32 (a &&& b)
  exact BitVec.ofNat_and.symm
theorem shl1 : ∀ k, k < 31 → (1 : Int32) <<< (iN k &&& 31) = iN (2 ^ k) := by decide
theorem sh_n : ∀ k, k < 32 → ((iN k &&& 31).toBitVec.smod 32).toNat = k := by decide
theorem iN_shr {w k : Nat} (hw : w < 2147483648) (hk : k < 32) : iN w >>> (iN k &&& 31) = iN (w >>> k) := by
  have h1 : w >>> k ≤ w := by
    rw [Nat.shiftRight_eq_div_pow]
    exact Nat.div_le_self _ _
  apply Int32.toInt_inj.mp
  show ((iN w).toBitVec.sshiftRight' ((iN k &&& 31).toBitVec.smod 32)).toInt = _
  rw [BitVec.toInt_sshiftRight', sh_n k hk, show (iN w).toBitVec.toInt = (iN w).toInt from rfl, iN_int hw, iN_int (by omega)]
  rfl
theorem hbP_iN {w k : Nat} (hw : w < 2147483648) (hk : k < 32) : hbP (iN w) (iN k) = w.testBit k := by
  unfold hbP
  have h1 : w >>> k ≤ w := by
    rw [Nat.shiftRight_eq_div_pow]
    exact Nat.div_le_self _ _
  rw [iN_shr hw hk, show (1 : Int32) = iN 1 from rfl, iN_and]
  have h2 : w >>> k &&& 1 < 2147483648 := Nat.lt_of_le_of_lt Nat.and_le_left (by omega)
  rw [show decide (iN (w >>> k &&& 1) = iN 1) = decide (w >>> k &&& 1 = 1) from decide_eq_decide.mpr (iN_inj h2 (by decide))]
  unfold Nat.testBit
  rw [Nat.and_comm]
  have h3 : (1 &&& w >>> k) = (w >>> k) % 2 := Nat.one_and_eq_mod_two _
  rw [h3]
  have h4 : (w >>> k) % 2 = 0 ∨ (w >>> k) % 2 = 1 := by omega
  rcases h4 with h4 | h4 <;> rw [h4] <;> rfl
/-- the places of a set below n, as bits -/
def setN (f : Nat → Bool) (n : Nat) : Nat := foldN (fun k a => if f k = true then a ||| 2 ^ k else a) n 0
theorem setN_0 {f : Nat → Bool} : setN f 0 = 0 := rfl
theorem setN_s {f : Nat → Bool} {n : Nat} : setN f (n + 1) = if f n = true then setN f n ||| 2 ^ n else setN f n := rfl
theorem testBit_setN {f : Nat → Bool} : ∀ (n j : Nat), (setN f n).testBit j = (decide (j < n) && f j)
  | 0, j => by
    rw [setN_0, Nat.zero_testBit]
    simp
  | n + 1, j => by
    rw [setN_s]
    by_cases c : f n = true
    · rw [if_pos c, Nat.testBit_or, testBit_setN n j, Nat.testBit_two_pow]
      by_cases h : n = j
      · subst h
        simp [c]
      · have : decide (j < n + 1) = decide (j < n) := decide_eq_decide.mpr (by omega)
        rw [this]
        simp [h]
    · rw [if_neg c, testBit_setN n j]
      by_cases h : j = n
      · subst h
        simp [c]
      · have : decide (j < n + 1) = decide (j < n) := decide_eq_decide.mpr (by omega)
        rw [this]
theorem setN_lt {f : Nat → Bool} : ∀ n, setN f n < 2 ^ n
  | 0 => by rw [setN_0]; decide
  | n + 1 => by
    have h := setN_lt (f := f) n
    have h2 : (2 : Nat) ^ n < 2 ^ (n + 1) := Nat.pow_lt_pow_right (by decide) (by omega)
    rw [setN_s]
    by_cases c : f n = true
    · rw [if_pos c]
      exact Nat.or_lt_two_pow (by omega) h2
    · rw [if_neg c]
      omega
theorem setN_31 {f : Nat → Bool} {n : Nat} (hn : n ≤ 30) : setN f n < 2147483648 := by
  have h := setN_lt (f := f) n
  have h2 : (2 : Nat) ^ n ≤ 2 ^ 30 := Nat.pow_le_pow_right (by decide) hn
  omega
theorem setN_ext {f g : Nat → Bool} {n m : Nat} (h : ∀ j, (decide (j < n) && f j) = (decide (j < m) && g j)) : setN f n = setN g m := by
  apply Nat.eq_of_testBit_eq
  intro j
  rw [testBit_setN, testBit_setN, h j]
theorem setN_congr {f g : Nat → Bool} {n : Nat} (h : ∀ j, j < n → f j = g j) : setN f n = setN g n := setN_ext (fun j => by
  by_cases c : j < n
  · rw [h j c]
  · simp [c])
theorem setN_inj {f g : Nat → Bool} {n : Nat} (h : setN f n = setN g n) : ∀ j, j < n → f j = g j := fun j hj => by
  have h1 := testBit_setN (f := f) n j
  have h2 := testBit_setN (f := g) n j
  rw [h, h2] at h1
  simpa [hj] using h1.symm
theorem setN_or {f g : Nat → Bool} {n : Nat} : setN f n ||| setN g n = setN (fun j => f j || g j) n := by
  apply Nat.eq_of_testBit_eq
  intro j
  rw [Nat.testBit_or, testBit_setN, testBit_setN, testBit_setN]
  cases decide (j < n) <;> simp
theorem setN_and {f g : Nat → Bool} {n : Nat} : setN f n &&& setN g n = setN (fun j => f j && g j) n := by
  apply Nat.eq_of_testBit_eq
  intro j
  rw [Nat.testBit_and, testBit_setN, testBit_setN, testBit_setN]
  cases decide (j < n) <;> simp
theorem setN_one {k n : Nat} (hk : k < n) : setN (fun j => decide (j = k)) n = 2 ^ k := by
  apply Nat.eq_of_testBit_eq
  intro j
  rw [testBit_setN, Nat.testBit_two_pow]
  by_cases c : j = k
  · subst c
    simp [hk]
  · simp [c, Ne.symm c]
theorem setN_up {f : Nat → Bool} {n m : Nat} (h : n ≤ m) : setN f n = setN (fun j => decide (j < n) && f j) m := setN_ext (fun j => by
  by_cases c : j < n
  · simp [c, show j < m by omega]
  · simp [c])
theorem setN_z {f : Nat → Bool} {n : Nat} : setN f n = 0 ↔ ∀ j, j < n → f j = false := by
  constructor
  · intro h j hj
    have h1 := testBit_setN (f := f) n j
    rw [h, Nat.zero_testBit] at h1
    simpa [hj] using h1.symm
  · intro h
    apply Nat.eq_of_testBit_eq
    intro j
    rw [testBit_setN, Nat.zero_testBit]
    by_cases c : j < n
    · simp [h j c]
    · simp [c]
/-- every number below 2^n is a set -/
theorem setN_of {w n : Nat} (h : w < 2 ^ n) : setN (fun j => w.testBit j) n = w := by
  apply Nat.eq_of_testBit_eq
  intro j
  rw [testBit_setN]
  by_cases c : j < n
  · simp [c]
  · have h2 : (2 : Nat) ^ n ≤ 2 ^ j := Nat.pow_le_pow_right (by decide) (by omega)
    rw [Nat.testBit_lt_two_pow (by omega)]
    simp [c]
theorem hb_set {f : Nat → Bool} {n k : Nat} (hn : n ≤ 30) (hk : k < 32) : hbP (iN (setN f n)) (iN k) = (decide (k < n) && f k) := by
  rw [hbP_iN (setN_31 hn) hk, testBit_setN]
theorem all_n : ∀ n, n ≤ 10 → ((1 : Int32) <<< (iN n &&& 31)) - 1 = iN (setN (fun _ => true) n) := by decide
/-- is there one below n -/
def anyN (n : Nat) (f : Nat → Bool) : Bool := foldN (fun k a => a || f k) n false
theorem anyN_s {f : Nat → Bool} {n : Nat} : anyN (n + 1) f = (anyN n f || f n) := rfl
theorem anyN_t {f : Nat → Bool} : ∀ {n : Nat}, anyN n f = true ↔ ∃ k, k < n ∧ f k = true
  | 0 => by
    constructor
    · intro h
      cases h
    · rintro ⟨k, h, -⟩
      omega
  | n + 1 => by
    rw [anyN_s, Bool.or_eq_true, anyN_t]
    constructor
    · rintro (⟨k, h1, h2⟩ | h)
      · exact ⟨k, by omega, h2⟩
      · exact ⟨n, by omega, h⟩
    · rintro ⟨k, h1, h2⟩
      by_cases c : k = n
      · subst c
        exact Or.inr h2
      · exact Or.inl ⟨k, by omega, h2⟩
theorem anyN_f {f : Nat → Bool} {n : Nat} : anyN n f = false ↔ ∀ k, k < n → f k = false := by
  constructor
  · intro h k hk
    cases c : f k with
    | false => rfl
    | true =>
      rw [anyN_t.mpr ⟨k, hk, c⟩] at h
      cases h
  · intro h
    cases c : anyN n f with
    | false => rfl
    | true =>
      obtain ⟨k, h1, h2⟩ := anyN_t.mp c
      rw [h k h1] at h2
      cases h2
theorem anyN_congr {f g : Nat → Bool} {n : Nat} (h : ∀ k, k < n → f k = g k) : anyN n f = anyN n g := foldN_congr n (fun i hi x => by rw [h i hi])
end V20
