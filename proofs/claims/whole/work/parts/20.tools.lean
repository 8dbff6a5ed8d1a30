/-! ===== the pure floor's tools: whole numbers as Int32, total runs, loops that end ===== -/
def iN (n : Nat) : Int32 := Int32.ofNat n
theorem iN_nat {n : Nat} (h : n < 2147483648) : (iN n).toNatClampNeg = n := Int32.toNatClampNeg_ofNat_of_lt h
theorem iN_int {n : Nat} (h : n < 2147483648) : (iN n).toInt = (n : Int) := Int32.toInt_ofNat_of_lt h
theorem iN_lt {a b : Nat} (ha : a < 2147483648) (hb : b < 2147483648) : (iN a < iN b) ↔ a < b := Int32.ofNat_lt_iff_lt ha hb
theorem iN_le {a b : Nat} (ha : a < 2147483648) (hb : b < 2147483648) : (iN a ≤ iN b) ↔ a ≤ b := Int32.ofNat_le_iff_le ha hb
theorem iN_add (a b : Nat) : iN a + iN b = iN (a + b) := (Int32.ofNat_add a b).symm
theorem iN_mul (a b : Nat) : iN a * iN b = iN (a * b) := (Int32.ofNat_mul a b).symm
theorem iN_sub {a b : Nat} (h : b ≤ a) : iN a - iN b = iN (a - b) := (Int32.ofNat_sub a b h).symm
theorem iN_inj {a b : Nat} (ha : a < 2147483648) (hb : b < 2147483648) : (iN a = iN b) ↔ a = b := by
  constructor
  · intro h
    have := congrArg Int32.toNatClampNeg h
    rwa [iN_nat ha, iN_nat hb] at this
  · intro h
    rw [h]
theorem iN_nn {n : Nat} (h : n < 2147483648) : ¬ iN n < 0 := by
  rw [show (0 : Int32) = iN 0 from rfl, iN_lt h (by decide)]
  omega
theorem iN_ne {n : Nat} (h : n < 2147483648) : iN n ≠ -1 := by
  intro e
  have := congrArg Int32.toInt e
  rw [iN_int h] at this
  have h2 : (-1 : Int32).toInt = -1 := by decide
  omega
theorem iN_inb {n L : Nat} (h : n < 2147483648) : inb (iN n) L = decide (n < L) := by
  unfold inb
  rw [iN_nat h]
  simp [iN_nn h]
theorem iN_inb' {n L : Nat} (h : n < L) (hL : L < 2147483648) : inb (iN n) L = true := by
  rw [iN_inb (by omega)]
  simpa using h
/-- a number that isn't below 0 -/
theorem iN_of {x : Int32} (h : ¬ x < 0) : ∃ n, n < 2147483648 ∧ x = iN n := by
  have h1 : 0 ≤ x := Int32.not_lt.mp h
  exact ⟨x.toNatClampNeg, Int32.toNatClampNeg_lt x, (Int32.ofNat_toNatClampNeg x h1).symm⟩
theorem iN_lt_of {x : Int32} {m : Nat} (h0 : ¬ x < 0) (h : x < iN m) (hm : m < 2147483648) : ∃ n, n < m ∧ x = iN n := by
  obtain ⟨n, hn, rfl⟩ := iN_of h0
  exact ⟨n, (iN_lt hn hm).mp h, rfl⟩
theorem iN_le_of {x : Int32} {m : Nat} (h0 : ¬ x < 0) (h : x ≤ iN m) (hm : m < 2147483648) : ∃ n, n ≤ m ∧ x = iN n := by
  obtain ⟨n, hn, rfl⟩ := iN_of h0
  exact ⟨n, (iN_le hn hm).mp h, rfl⟩
/-! total runs -/
def Ok {α : Type} (o : Option (α × Hp)) (Q : α → Hp → Prop) : Prop := ∃ r σ, o = some (r, σ) ∧ Q r σ
theorem Ok.ret {α : Type} {r : α} {σ : Hp} {Q : α → Hp → Prop} (h : Q r σ) : Ok (some (r, σ)) Q := ⟨r, σ, rfl, h⟩
theorem Ok.cb {α β : Type} {o : Option (α × Hp)} {f : α → Hp → Option (β × Hp)} {P : α → Hp → Prop} {Q : β → Hp → Prop} (h : Ok o P) (k : ∀ r σ, P r σ → Ok (f r σ) Q) : Ok (cb o f) Q := by
  obtain ⟨r, σ, e, hp⟩ := h
  subst e
  exact k r σ hp
theorem Ok.mono {α : Type} {o : Option (α × Hp)} {P Q : α → Hp → Prop} (h : Ok o P) (k : ∀ r σ, P r σ → Q r σ) : Ok o Q := by
  obtain ⟨r, σ, e, hp⟩ := h
  exact ⟨r, σ, e, k r σ hp⟩
/-! loops that end -/
theorem loopF_unf {V Ex : Type} (body : V → Hp → Option ((V ⊕ Ex) × Hp)) (v : V) (σ : Hp) : loopF body v σ = (body v σ).bind (fun r => match r with | (Sum.inl v2, σ2) => loopF body v2 σ2 | (Sum.inr e, σ2) => some (e, σ2)) := by
  conv => lhs; rw [loopF]
  rfl
theorem loopF_in {V Ex : Type} {body : V → Hp → Option ((V ⊕ Ex) × Hp)} {v v' : V} {σ σ' : Hp} (h : body v σ = some (Sum.inl v', σ')) : loopF body v σ = loopF body v' σ' := by
  rw [loopF_unf, h]
  rfl
theorem loopF_out {V Ex : Type} {body : V → Hp → Option ((V ⊕ Ex) × Hp)} {v : V} {e : Ex} {σ σ' : Hp} (h : body v σ = some (Sum.inr e, σ')) : loopF body v σ = some (e, σ') := by
  rw [loopF_unf, h]
  rfl
/-- a loop with an invariant that counts up to m at most -/
theorem loopF_run {V Ex : Type} {body : V → Hp → Option ((V ⊕ Ex) × Hp)} (I : Nat → V → Hp → Prop) (m : Nat) {Q : Ex → Hp → Prop} (hb : ∀ i v σ, i ≤ m → I i v σ → Ok (body v σ) (fun x σ' => (∃ v', x = Sum.inl v' ∧ i < m ∧ I (i + 1) v' σ') ∨ (∃ e, x = Sum.inr e ∧ Q e σ'))) : ∀ (d i : Nat), i + d = m → ∀ v σ, I i v σ → Ok (loopF body v σ) Q := by
  intro d
  induction d with
  | zero =>
    intro i hi v σ h
    obtain ⟨x, σ', e, h1⟩ := hb i v σ (by omega) h
    rcases h1 with ⟨v', rfl, h2, h3⟩ | ⟨e2, rfl, h2⟩
    · omega
    · rw [loopF_out e]
      exact Ok.ret h2
  | succ d ih =>
    intro i hi v σ h
    obtain ⟨x, σ', e, h1⟩ := hb i v σ (by omega) h
    rcases h1 with ⟨v', rfl, h2, h3⟩ | ⟨e2, rfl, h2⟩
    · rw [loopF_in e]
      exact ih (i + 1) (by omega) v' σ' h3
    · rw [loopF_out e]
      exact Ok.ret h2
theorem loopF_run0 {V Ex : Type} {body : V → Hp → Option ((V ⊕ Ex) × Hp)} (I : Nat → V → Hp → Prop) (m : Nat) {Q : Ex → Hp → Prop} {v : V} {σ : Hp} (h0 : I 0 v σ) (hb : ∀ i v σ, i ≤ m → I i v σ → Ok (body v σ) (fun x σ' => (∃ v', x = Sum.inl v' ∧ i < m ∧ I (i + 1) v' σ') ∨ (∃ e, x = Sum.inr e ∧ Q e σ'))) : Ok (loopF body v σ) Q := loopF_run I m hb m 0 (by omega) v σ h0
/-! what stays as it was -/
def Ag (S : Nat → Nat → Prop) (σ σ' : Hp) : Prop := zn σ' = zn σ ∧ zk σ' = zk σ ∧ zl σ' = zl σ ∧ zr σ' = zr σ ∧ ∀ a k, ¬ S a k → zi σ' a k = zi σ a k ∧ zj σ' a k = zj σ a k
theorem Ag.refl {S : Nat → Nat → Prop} {σ : Hp} : Ag S σ σ := ⟨rfl, rfl, rfl, rfl, fun _ _ _ => ⟨rfl, rfl⟩⟩
theorem Ag.trans {S : Nat → Nat → Prop} {σ1 σ2 σ3 : Hp} (h1 : Ag S σ1 σ2) (h2 : Ag S σ2 σ3) : Ag S σ1 σ3 :=
  ⟨h2.1.trans h1.1, h2.2.1.trans h1.2.1, h2.2.2.1.trans h1.2.2.1, h2.2.2.2.1.trans h1.2.2.2.1, fun a k h => ⟨(h2.2.2.2.2 a k h).1.trans (h1.2.2.2.2 a k h).1, (h2.2.2.2.2 a k h).2.trans (h1.2.2.2.2 a k h).2⟩⟩
theorem Ag.mono {S T : Nat → Nat → Prop} {σ1 σ2 : Hp} (h : Ag S σ1 σ2) (hs : ∀ a k, S a k → T a k) : Ag T σ1 σ2 :=
  ⟨h.1, h.2.1, h.2.2.1, h.2.2.2.1, fun a k hn => h.2.2.2.2 a k (fun q => hn (hs a k q))⟩
theorem Ag.zsi {S : Nat → Nat → Prop} {σ : Hp} {a k : Nat} {v : Int32} (h : S a k) : Ag S σ (zsi σ a k v) :=
  ⟨rfl, rfl, rfl, rfl, fun b j hn => ⟨by
    show up2 (zi σ) a k v b j = _
    unfold up2
    rw [if_neg]
    rintro ⟨rfl, rfl⟩
    exact hn h, rfl⟩⟩
theorem Ag.zsj {S : Nat → Nat → Prop} {σ : Hp} {a k : Nat} {v : Int64} (h : S a k) : Ag S σ (zsj σ a k v) :=
  ⟨rfl, rfl, rfl, rfl, fun b j hn => ⟨rfl, by
    show up2 (zj σ) a k v b j = _
    unfold up2
    rw [if_neg]
    rintro ⟨rfl, rfl⟩
    exact hn h⟩⟩
theorem zi_zsi {σ : Hp} {a k b j : Nat} {v : Int32} : zi (zsi σ a k v) b j = if b = a ∧ j = k then v else zi σ b j := rfl
theorem zj_zsj {σ : Hp} {a k b j : Nat} {v : Int64} : zj (zsj σ a k v) b j = if b = a ∧ j = k then v else zj σ b j := rfl
theorem zr_zsr {σ : Hp} {a k b j : Nat} {v : Option Nat} : zr (zsr σ a k v) b j = if b = a ∧ j = k then v else zr σ b j := rfl
theorem zj_zsi {σ : Hp} {a k : Nat} {v : Int32} : zj (zsi σ a k v) = zj σ := rfl
theorem zi_zsj {σ : Hp} {a k : Nat} {v : Int64} : zi (zsj σ a k v) = zi σ := rfl
theorem zi_zsr {σ : Hp} {a k : Nat} {v : Option Nat} : zi (zsr σ a k v) = zi σ := rfl
theorem zj_zsr {σ : Hp} {a k : Nat} {v : Option Nat} : zj (zsr σ a k v) = zj σ := rfl
theorem zr_zsi {σ : Hp} {a k : Nat} {v : Int32} : zr (zsi σ a k v) = zr σ := rfl
theorem zr_zsj {σ : Hp} {a k : Nat} {v : Int64} : zr (zsj σ a k v) = zr σ := rfl
theorem zk_zsi {σ : Hp} {a k : Nat} {v : Int32} : zk (zsi σ a k v) = zk σ := rfl
theorem zk_zsj {σ : Hp} {a k : Nat} {v : Int64} : zk (zsj σ a k v) = zk σ := rfl
theorem zk_zsr {σ : Hp} {a k : Nat} {v : Option Nat} : zk (zsr σ a k v) = zk σ := rfl
theorem zl_zsi {σ : Hp} {a k : Nat} {v : Int32} : zl (zsi σ a k v) = zl σ := rfl
theorem zl_zsj {σ : Hp} {a k : Nat} {v : Int64} : zl (zsj σ a k v) = zl σ := rfl
theorem zl_zsr {σ : Hp} {a k : Nat} {v : Option Nat} : zl (zsr σ a k v) = zl σ := rfl
theorem rdI_t {c a k : Nat} {σ : Hp} (h : zk σ a = c) : rdI c σ a k = some (zi σ a k) := if_pos h
theorem rdJ_t {c a k : Nat} {σ : Hp} (h : zk σ a = c) : rdJ c σ a k = some (zj σ a k) := if_pos h
theorem rdR_t {c a k : Nat} {σ : Hp} (h : zk σ a = c) : rdR c σ a k = some (zr σ a k) := if_pos h
theorem wrI_t {c a k : Nat} {v : Int32} {σ : Hp} (h : zk σ a = c) : wrI c σ a k v = some (zsi σ a k v) := if_pos h
theorem wrJ_t {c a k : Nat} {v : Int64} {σ : Hp} (h : zk σ a = c) : wrJ c σ a k v = some (zsj σ a k v) := if_pos h
theorem wrR_t {c a k : Nat} {v : Option Nat} {σ : Hp} (h : zk σ a = c) : wrR c σ a k v = some (zsr σ a k v) := if_pos h
theorem ck_t {c a : Nat} {σ : Hp} (h : zk σ a = c) : ck c σ a = some () := if_pos h
theorem ldI_n {c a n L : Nat} {σ : Hp} (h : zk σ a = c) (hl : zl σ a = L) (hn : n < L) (hL : L < 2147483648) : ldI c σ a (iN n) = some (zi σ a n) := by
  unfold ldI
  rw [if_pos ⟨h, by rw [hl]; exact iN_inb' hn hL⟩, iN_nat (by omega)]
theorem ldJ_n {a n L : Nat} {σ : Hp} (h : zk σ a = 12) (hl : zl σ a = L) (hn : n < L) (hL : L < 2147483648) : ldJ σ a (iN n) = some (zj σ a n) := by
  unfold ldJ
  rw [if_pos ⟨h, by rw [hl]; exact iN_inb' hn hL⟩, iN_nat (by omega)]
theorem ldR_n {c a n L : Nat} {σ : Hp} (h : zk σ a = c) (hl : zl σ a = L) (hn : n < L) (hL : L < 2147483648) : ldR c σ a (iN n) = some (zr σ a n) := by
  unfold ldR
  rw [if_pos ⟨h, by rw [hl]; exact iN_inb' hn hL⟩, iN_nat (by omega)]
theorem stI_n {a n L : Nat} {v : Int32} {σ : Hp} (h : zk σ a = 11) (hl : zl σ a = L) (hn : n < L) (hL : L < 2147483648) : stI σ a (iN n) v = some (zsi σ a n v) := by
  unfold stI
  rw [if_pos ⟨h, by rw [hl]; exact iN_inb' hn hL⟩, iN_nat (by omega)]
theorem stJ_n {a n L : Nat} {v : Int64} {σ : Hp} (h : zk σ a = 12) (hl : zl σ a = L) (hn : n < L) (hL : L < 2147483648) : stJ σ a (iN n) v = some (zsj σ a n v) := by
  unfold stJ
  rw [if_pos ⟨h, by rw [hl]; exact iN_inb' hn hL⟩, iN_nat (by omega)]
