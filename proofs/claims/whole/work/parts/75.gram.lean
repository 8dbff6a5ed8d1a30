/-! ===== the grammar of sums and tests, over tokens: kinds kd, numbers nm, nT of them ===== -/
/-- where it got to, how many parts so far, what was read (none: at that token it can't go on) -/
abbrev Res : Type := Nat × Nat × Option Sem
def bindR (r : Res) (g : Nat → Nat → Sem → Res) : Res := match r with
  | (k, q, none) => (k, q, none)
  | (k, q, some a) => g k q a
def numS (n : Nat) : Sem := fun _ => some (Int32.toInt64 (iN n))
def wordS (n : Nat) : Sem := fun e => some (Int32.toInt64 (e n))
/-- which word, how many numbers may stand behind it -/
def leafW (lw : Bool) (c : Nat) : Option (Nat × Nat) :=
  if lw = true then (if 307 ≤ c ∧ c ≤ 315 then some (c - 307, 0) else none)
  else if c = 309 then some (0, 0) else if c = 324 then some (1, 0) else if c = 325 then some (2, 0) else if c = 326 then some (3, 0) else if c = 308 then some (4, 0)
  else if c = 319 then some (5, 4) else if c = 307 then some (9, 3) else if c = 327 then some (12, 6) else none
def brP (kd : Nat → Nat) (c : Nat) (f : Option (Nat → Nat → Res)) (k q : Nat) : Res := match f with
  | none => (k, q, none)
  | some f => bindR (f (k + 1) q) fun k1 q1 a => if kd k1 = c then (k1 + 1, q1, some a) else (k1, q1, none)
def partP (kd nm : Nat → Nat) (lw : Bool) (f : Option (Nat → Nat → Res)) (k q : Nat) : Res :=
  if kd k = 91 then brP kd 93 f k q
  else if 50 ≤ q then (k, q, none)
  else if kd k = 256 then (if nm k ≤ 1000 then (k + 1, q + 1, some (numS (nm k))) else (k, q, none))
  else match leafW lw (kd k) with
    | none => (k, q, none)
    | some p => if p.2 = 0 then (k + 1, q + 1, some (wordS p.1)) else if kd (k + 1) = 256 ∧ nm (k + 1) < p.2 then (k + 2, q + 1, some (wordS (p.1 + nm (k + 1)))) else (k + 1, q, none)
def accS (mk : Nat → Sem → Sem → Sem) : Option (Nat × Sem) → Sem → Sem
  | none, b => b
  | some p, b => mk p.1 p.2 b
def loopP (f : Nat → Nat → Res) (kd : Nat → Nat) (op : Nat → Option Nat) (mk : Nat → Sem → Sem → Sem) : Nat → Option (Nat × Sem) → Nat → Nat → Res
  | 0, _, k, q => (k, q, none)
  | n + 1, acc, k, q => bindR (f k q) fun k1 q1 b => match op (kd k1) with
    | none => (k1, q1, some (accS mk acc b))
    | some o => loopP f kd op mk n (some (o, accS mk acc b)) (k1 + 1) q1
def termO (c : Nat) : Option Nat := if c = 42 then some 2 else if c = 47 then some 3 else if c = 37 then some 4 else none
def sumO (c : Nat) : Option Nat := if c = 43 then some 0 else if c = 45 then some 1 else none
def cmpO (c : Nat) : Option Nat := if c = 60 then some 5 else if c = 62 then some 6 else if c = 61 then some 7 else none
def andO (c : Nat) : Option Nat := if c = 305 then some 0 else none
def orO (c : Nat) : Option Nat := if c = 304 then some 1 else none
def lnkS (o : Nat) (a b : Sem) : Sem := if o = 1 then orS a b else andS a b
def ntF (kd : Nat → Nat) : Nat → Nat → Nat
  | 0, _ => 0
  | n + 1, k => if kd k = 306 then ntF kd n (k + 1) + 1 else 0
def plain0 (kd : Nat → Nat) (g : Option (Nat → Nat → Res)) (s : Nat → Nat → Res) (k q : Nat) : Res :=
  if kd k = 40 then brP kd 41 g k q
  else bindR (s k q) fun k1 q1 a => match cmpO (kd k1) with
    | none => (k1, q1, none)
    | some o => bindR (s (k1 + 1) q1) fun k2 q2 b => (k2, q2, some (cmbS o a b))
def notS (t : Nat) (a : Sem) : Sem := if t % 2 = 1 then negS a else a
def plainP (kd : Nat → Nat) (nT : Nat) (g : Option (Nat → Nat → Res)) (s : Nat → Nat → Res) (k q : Nat) : Res :=
  bindR (plain0 kd g s (k + ntF kd nT k) q) fun k1 q1 a => (k1, q1, some (notS (ntF kd nT k) a))
def termP (kd nm : Nat → Nat) (lw : Bool) (nT : Nat) (f : Option (Nat → Nat → Res)) (k q : Nat) : Res := loopP (partP kd nm lw f) kd termO cmbS (nT + 1) none k q
def sumP (kd nm : Nat → Nat) (lw : Bool) (nT : Nat) (f : Option (Nat → Nat → Res)) (k q : Nat) : Res := loopP (termP kd nm lw nT f) kd sumO cmbS (nT + 1) none k q
def bothP (kd : Nat → Nat) (nT : Nat) (g : Option (Nat → Nat → Res)) (s : Nat → Nat → Res) (k q : Nat) : Res := loopP (plainP kd nT g s) kd andO lnkS (nT + 1) none k q
def testP (kd : Nat → Nat) (nT : Nat) (g : Option (Nat → Nat → Res)) (s : Nat → Nat → Res) (k q : Nat) : Res := loopP (bothP kd nT g s) kd orO lnkS (nT + 1) none k q
/-- with d brackets still to be opened -/
def lvS (kd nm : Nat → Nat) (lw : Bool) (nT : Nat) : Nat → Nat → Nat → Res
  | 0 => sumP kd nm lw nT none
  | d + 1 => sumP kd nm lw nT (some (lvS kd nm lw nT d))
def lvT (kd nm : Nat → Nat) (lw : Bool) (nT : Nat) : Nat → Nat → Nat → Res
  | 0 => testP kd nT none (lvS kd nm lw nT 0)
  | d + 1 => testP kd nT (some (lvT kd nm lw nT d)) (lvS kd nm lw nT (d + 1))
/-- what is inside brackets -/
def inS (kd nm : Nat → Nat) (lw : Bool) (nT : Nat) : Nat → Option (Nat → Nat → Res)
  | 0 => none
  | d + 1 => some (lvS kd nm lw nT d)
def inT (kd nm : Nat → Nat) (lw : Bool) (nT : Nat) : Nat → Option (Nat → Nat → Res)
  | 0 => none
  | d + 1 => some (lvT kd nm lw nT d)
theorem lvS_eq {kd nm : Nat → Nat} {lw : Bool} {nT : Nat} : ∀ d, lvS kd nm lw nT d = sumP kd nm lw nT (inS kd nm lw nT d)
  | 0 => rfl
  | _ + 1 => rfl
theorem lvT_eq {kd nm : Nat → Nat} {lw : Bool} {nT : Nat} : ∀ d, lvT kd nm lw nT d = testP kd nT (inT kd nm lw nT d) (lvS kd nm lw nT d)
  | 0 => rfl
  | _ + 1 => rfl
/-! what is sure of it -/
def Good (nT : Nat) (tb : Bool) (f : Nat → Nat → Res) : Prop := ∀ k q, k ≤ nT → q ≤ 50 → k ≤ (f k q).1 ∧ (f k q).1 ≤ nT ∧ ∀ a, (f k q).2.2 = some a → k < (f k q).1 ∧ q < (f k q).2.1 ∧ (f k q).2.1 ≤ 50 ∧ (tb = true → isB a)
def GoodO (nT : Nat) (tb : Bool) (f : Option (Nat → Nat → Res)) : Prop := ∀ g, f = some g → Good nT tb g
section GR
variable {kd nm : Nat → Nat} {lw : Bool} {nT : Nat}
theorem kd_lt {k c : Nat} (hE : kd nT = 258) (hk : k ≤ nT) (h : kd k = c) (hc : c ≠ 258) : k < nT := by
  have : k ≠ nT := fun e => hc (by rw [← h, e, hE])
  omega
/-- a bind of a good one -/
theorem bindR_ok {tb : Bool} {f : Nat → Nat → Res} {g : Nat → Nat → Sem → Res} {k q : Nat} (hf : Good nT tb f) (hk : k ≤ nT) (hq : q ≤ 50) {P : Res → Prop} (h1 : ∀ k1 q1, k ≤ k1 → k1 ≤ nT → P (k1, q1, none)) (h2 : ∀ k1 q1 a, k < k1 → k1 ≤ nT → q < q1 → q1 ≤ 50 → (tb = true → isB a) → P (g k1 q1 a)) : P (bindR (f k q) g) := by
  have h := hf k q hk hq
  generalize f k q = r at h
  obtain ⟨k1, q1, o⟩ := r
  obtain ⟨a1, a2, a3⟩ := h
  cases o with
  | none => exact h1 k1 q1 a1 a2
  | some a =>
    obtain ⟨b1, b2, b3, b4⟩ := a3 a rfl
    exact h2 k1 q1 a b1 a2 b2 b3 b4
def Rok (nT : Nat) (tb : Bool) (k q : Nat) (r : Res) : Prop := k ≤ r.1 ∧ r.1 ≤ nT ∧ ∀ a, r.2.2 = some a → k < r.1 ∧ q < r.2.1 ∧ r.2.1 ≤ 50 ∧ (tb = true → isB a)
theorem Rok.no {tb : Bool} {k q k1 q1 : Nat} (h1 : k ≤ k1) (h2 : k1 ≤ nT) : Rok nT tb k q (k1, q1, none) := ⟨h1, h2, fun a h => by cases h⟩
theorem Rok.yes {tb : Bool} {k q k1 q1 : Nat} {a : Sem} (h1 : k < k1) (h2 : k1 ≤ nT) (h3 : q < q1) (h4 : q1 ≤ 50) (h5 : tb = true → isB a) : Rok nT tb k q (k1, q1, some a) := ⟨by show k ≤ k1; omega, h2, fun b h => by cases h; exact ⟨h1, h3, h4, h5⟩⟩
theorem good_br {tb : Bool} {c : Nat} {f : Option (Nat → Nat → Res)} (hE : kd nT = 258) (hf : GoodO nT tb f) (hc : c ≠ 258) {k q : Nat} (hk : k < nT) (hq : q ≤ 50) : Rok nT tb k q (brP kd c f k q) := by
  unfold brP
  cases f with
  | none => exact Rok.no (Nat.le_refl _) (by omega)
  | some g =>
    refine bindR_ok (P := Rok nT tb k q) (hf g rfl) (by omega) hq (fun k1 q1 h1 h2 => Rok.no (by omega) h2) (fun k1 q1 a h1 h2 h3 h4 h5 => ?_)
    by_cases e : kd k1 = c
    · rw [if_pos e]
      have := kd_lt hE h2 e hc
      exact Rok.yes (by omega) (by omega) h3 h4 h5
    · rw [if_neg e]
      exact Rok.no (by omega) h2
theorem leafW_ne {c : Nat} {p : Nat × Nat} (h : leafW lw c = some p) : c ≠ 258 := by
  intro e
  subst e
  cases lw
  · exact absurd (show (none : Option (Nat × Nat)) = some p from h) (by simp)
  · exact absurd (show (none : Option (Nat × Nat)) = some p from h) (by simp)
theorem good_part {f : Option (Nat → Nat → Res)} (hE : kd nT = 258) (hf : GoodO nT false f) : Good nT false (partP kd nm lw f) := by
  intro k q hk hq
  show Rok nT false k q (partP kd nm lw f k q)
  unfold partP
  by_cases c1 : kd k = 91
  · rw [if_pos c1]
    exact good_br hE hf (by decide) (kd_lt hE hk c1 (by decide)) hq
  · rw [if_neg c1]
    by_cases c2 : 50 ≤ q
    · rw [if_pos c2]
      exact Rok.no (Nat.le_refl _) hk
    · rw [if_neg c2]
      by_cases c3 : kd k = 256
      · rw [if_pos c3]
        have := kd_lt hE hk c3 (by decide)
        by_cases c4 : nm k ≤ 1000
        · rw [if_pos c4]
          exact Rok.yes (by omega) (by omega) (by omega) (by omega) (fun h => by cases h)
        · rw [if_neg c4]
          exact Rok.no (Nat.le_refl _) hk
      · rw [if_neg c3]
        cases c4 : leafW lw (kd k) with
        | none => exact Rok.no (Nat.le_refl _) hk
        | some p =>
          have := kd_lt hE hk rfl (leafW_ne c4)
          show Rok nT false k q (if p.2 = 0 then _ else _)
          by_cases c5 : p.2 = 0
          · rw [if_pos c5]
            exact Rok.yes (by omega) (by omega) (by omega) (by omega) (fun h => by cases h)
          · rw [if_neg c5]
            by_cases c6 : kd (k + 1) = 256 ∧ nm (k + 1) < p.2
            · rw [if_pos c6]
              have := kd_lt hE (show k + 1 ≤ nT by omega) c6.1 (by decide)
              exact Rok.yes (by omega) (by omega) (by omega) (by omega) (fun h => by cases h)
            · rw [if_neg c6]
              exact Rok.no (by omega) (by omega)
theorem good_loop {tb : Bool} {f : Nat → Nat → Res} {op : Nat → Option Nat} {mk : Nat → Sem → Sem → Sem} (hE : kd nT = 258) (hf : Good nT tb f) (hop : op 258 = none) (hmk : tb = true → ∀ o a b, isB a → isB b → isB (mk o a b)) :
    ∀ (n : Nat) (acc : Option (Nat × Sem)) (k q : Nat), k ≤ nT → q ≤ 50 → (tb = true → ∀ p, acc = some p → isB p.2) → Rok nT tb k q (loopP f kd op mk n acc k q)
  | 0, _, k, q, hk, _, _ => Rok.no (Nat.le_refl _) hk
  | n + 1, acc, k, q, hk, hq, ha => by
    show Rok nT tb k q (bindR (f k q) _)
    refine bindR_ok (P := Rok nT tb k q) hf hk hq (fun k1 q1 h1 h2 => Rok.no h1 h2) (fun k1 q1 b h1 h2 h3 h4 h5 => ?_)
    have hb : tb = true → isB (accS mk acc b) := fun ht => by
      cases acc with
      | none => exact h5 ht
      | some p => exact hmk ht _ _ _ (ha ht p rfl) (h5 ht)
    cases c : op (kd k1) with
    | none => exact Rok.yes h1 h2 h3 h4 hb
    | some o =>
      have hlt : k1 < nT := kd_lt hE h2 rfl (fun e => by rw [e, hop] at c; cases c)
      obtain ⟨g1, g2, g3⟩ := good_loop hE hf hop hmk n (some (o, accS mk acc b)) (k1 + 1) q1 (by omega) h4 (fun ht p e => by cases e; exact hb ht)
      refine ⟨by show k ≤ (loopP f kd op mk n (some (o, accS mk acc b)) (k1 + 1) q1).1; omega, g2, fun a e => ?_⟩
      obtain ⟨x1, x2, x3, x4⟩ := g3 a e
      exact ⟨by show k < (loopP f kd op mk n (some (o, accS mk acc b)) (k1 + 1) q1).1; omega, by show q < (loopP f kd op mk n (some (o, accS mk acc b)) (k1 + 1) q1).2.1; omega, x3, x4⟩
theorem good_term {f : Option (Nat → Nat → Res)} (hE : kd nT = 258) (hf : GoodO nT false f) : Good nT false (termP kd nm lw nT f) := fun k q hk hq => good_loop hE (good_part hE hf) rfl (fun h => by cases h) _ _ k q hk hq (fun h => by cases h)
theorem good_sum {f : Option (Nat → Nat → Res)} (hE : kd nT = 258) (hf : GoodO nT false f) : Good nT false (sumP kd nm lw nT f) := fun k q hk hq => good_loop hE (good_term hE hf) rfl (fun h => by cases h) _ _ k q hk hq (fun h => by cases h)
theorem ntF_le (hE : kd nT = 258) : ∀ (n k : Nat), k ≤ nT → k + ntF kd n k ≤ nT
  | 0, k, hk => hk
  | n + 1, k, hk => by
    show k + (if kd k = 306 then ntF kd n (k + 1) + 1 else 0) ≤ nT
    by_cases c : kd k = 306
    · rw [if_pos c]
      have := kd_lt hE hk c (by decide)
      have := ntF_le hE n (k + 1) (by omega)
      omega
    · rw [if_neg c]
      omega
theorem isB_not {t : Nat} {a : Sem} (h : isB a) : isB (notS t a) := by
  unfold notS
  split
  · exact isB_neg
  · exact h
theorem good_plain {g : Option (Nat → Nat → Res)} {s : Nat → Nat → Res} (hE : kd nT = 258) (hg : GoodO nT true g) (hs : Good nT false s) : Good nT true (plainP kd nT g s) := by
  intro k q hk hq
  show Rok nT true k q (plainP kd nT g s k q)
  have hn := ntF_le hE nT k hk
  have h0 : Rok nT true (k + ntF kd nT k) q (plain0 kd g s (k + ntF kd nT k) q) := by
    generalize k + ntF kd nT k = j at hn
    unfold plain0
    by_cases c1 : kd j = 40
    · rw [if_pos c1]
      exact good_br hE hg (by decide) (kd_lt hE hn c1 (by decide)) hq
    · rw [if_neg c1]
      refine bindR_ok (P := Rok nT true j q) hs hn hq (fun k1 q1 h1 h2 => Rok.no h1 h2) (fun k1 q1 a h1 h2 h3 h4 _ => ?_)
      cases c2 : cmpO (kd k1) with
      | none => exact Rok.no (by omega) h2
      | some o =>
        have hlt : k1 < nT := kd_lt hE h2 rfl (fun e => by rw [e] at c2; cases c2)
        have ho : 5 ≤ o := by
          unfold cmpO at c2
          split at c2
          · cases c2; decide
          · split at c2
            · cases c2; decide
            · split at c2
              · cases c2; decide
              · cases c2
        refine bindR_ok (P := Rok nT true j q) hs (show k1 + 1 ≤ nT by omega) h4 (fun k2 q2 h5 h6 => Rok.no (by omega) h6) (fun k2 q2 b h5 h6 h7 h8 _ => ?_)
        exact Rok.yes (by omega) h6 (by omega) h8 (fun _ => isB_cmp ho)
  unfold plainP
  generalize plain0 kd g s (k + ntF kd nT k) q = r at h0
  obtain ⟨k1, q1, o⟩ := r
  obtain ⟨a1, a2, a3⟩ := h0
  cases o with
  | none => exact Rok.no (by have : k + ntF kd nT k ≤ k1 := a1; omega) a2
  | some a =>
    obtain ⟨b1, b2, b3, b4⟩ := a3 a rfl
    exact Rok.yes (by have : k + ntF kd nT k < k1 := b1; omega) a2 b2 b3 (fun _ => isB_not (b4 rfl))
theorem isB_lnk (o : Nat) (a b : Sem) (ha : isB a) (hb : isB b) : isB (lnkS o a b) := by
  unfold lnkS
  split
  · exact isB_or ha hb
  · exact isB_and ha hb
theorem good_both {g : Option (Nat → Nat → Res)} {s : Nat → Nat → Res} (hE : kd nT = 258) (hg : GoodO nT true g) (hs : Good nT false s) : Good nT true (bothP kd nT g s) := fun k q hk hq => good_loop hE (good_plain hE hg hs) rfl (fun _ => isB_lnk) _ _ k q hk hq (fun _ _ e => by cases e)
theorem good_test {g : Option (Nat → Nat → Res)} {s : Nat → Nat → Res} (hE : kd nT = 258) (hg : GoodO nT true g) (hs : Good nT false s) : Good nT true (testP kd nT g s) := fun k q hk hq => good_loop hE (good_both hE hg hs) rfl (fun _ => isB_lnk) _ _ k q hk hq (fun _ _ e => by cases e)
theorem good_lvS (hE : kd nT = 258) : ∀ d, Good nT false (lvS kd nm lw nT d)
  | 0 => good_sum hE (fun g e => by cases e)
  | d + 1 => good_sum hE (fun g e => by cases e; exact good_lvS hE d)
theorem good_lvT (hE : kd nT = 258) : ∀ d, Good nT true (lvT kd nm lw nT d)
  | 0 => good_test hE (fun g e => by cases e) (good_lvS hE 0)
  | d + 1 => good_test hE (fun g e => by cases e; exact good_lvT hE d) (good_lvS hE (d + 1))
theorem goodO_S (hE : kd nT = 258) : ∀ d, GoodO nT false (inS kd nm lw nT d)
  | 0 => fun g e => by cases e
  | d + 1 => fun g e => by cases e; exact good_lvS hE d
theorem goodO_T (hE : kd nT = 258) : ∀ d, GoodO nT true (inT kd nm lw nT d)
  | 0 => fun g e => by cases e
  | d + 1 => fun g e => by cases e; exact good_lvT hE d
/-- a row of nots -/
theorem notS_s {t : Nat} {a : Sem} (h : isB a) : negS (notS t a) = notS (t + 1) a := by
  unfold notS
  by_cases c : t % 2 = 1
  · rw [if_pos c, if_neg (by omega)]
    funext e
    unfold negS
    cases d : a e with
    | none => rfl
    | some x =>
      show some (if (if x = 1 then (0 : Int64) else 1) = 1 then (0 : Int64) else 1) = some x
      rcases h e x d with rfl | rfl <;> rfl
  · rw [if_neg c, if_pos (by omega)]
end GR
