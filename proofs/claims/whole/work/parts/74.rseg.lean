/-! ===== what a piece of the reference's code says ===== -/
abbrev Lf : Type := Env → Int32 → Int32 → Int64
/-- what must hold of what follows -/
def rThen (op ar : Nat → Int32) (lf : Int32 → Int32 → Int64) (fin n j : Nat) (st : List Int64) (res : Option Int64) : Option Int64 → Prop
  | some v => rV op ar lf fin n j (v :: st) res
  | none => res = none
def RSeg (op ar : Nat → Int32) (lf : Lf) (i j q : Nat) (a : Sem) : Prop := i < j ∧ 1 ≤ q ∧ ∀ op' ar' : Nat → Int32, (∀ x, i ≤ x → x < j → op' x = op x ∧ ar' x = ar x) → ∀ (e : Env) (st : List Int64) (fin n : Nat) (res : Option Int64), st.length + q ≤ 399 → j ≤ fin → rThen op' ar' (lf e) fin n j st res (a e) → ∃ n', rV op' ar' (lf e) fin n' i st res
section RS1
variable {op ar op1 ar1 : Nat → Int32} {lf : Lf} {i j k q q1 q2 o : Nat} {a b : Sem}
theorem RSeg.congr (h : RSeg op ar lf i j q a) (e : ∀ x, i ≤ x → x < j → op1 x = op x ∧ ar1 x = ar x) : RSeg op1 ar1 lf i j q a :=
  ⟨h.1, h.2.1, fun op' ar' hs => h.2.2 op' ar' (fun x h1 h2 => ⟨(hs x h1 h2).1.trans (e x h1 h2).1, (hs x h1 h2).2.trans (e x h1 h2).2⟩)⟩
theorem r_leaf (h : op i = iN o) (ho : o < 10) : RSeg op ar lf i (i + 1) 1 (fun e => some (lf e (op i) (ar i))) := by
  refine ⟨by omega, Nat.le_refl _, fun op' ar' hs e st fin n res hl hf ht => ⟨n + 1, Or.inr ⟨by omega, ?_, ?_, ?_, ?_⟩⟩⟩
  · intro _
    rw [(hs i (Nat.le_refl _) (by omega)).1, h]
    exact ⟨iN_nn (by omega), (iN_lt (b := 10) (by omega) (by decide)).mpr ho, by omega⟩
  · intro q
    rw [(hs i (Nat.le_refl _) (by omega)).1, h] at q
    exact absurd ((iN_lt (b := 20) (by omega) (by decide)).mpr (by omega)) q
  · intro q
    rw [(hs i (Nat.le_refl _) (by omega)).1, h] at q
    exact absurd ((iN_lt (b := 28) (by omega) (by decide)).mpr (by omega)) q
  · have e1 : rStep op' ar' (lf e) i st = some (i + 1, lf e (op i) (ar i) :: st) := by
      unfold rStep
      rw [(hs i (Nat.le_refl _) (by omega)).1, (hs i (Nat.le_refl _) (by omega)).2, if_pos (by rw [h]; exact (iN_lt (b := 20) (by omega) (by decide)).mpr (by omega))]
    rw [e1]
    exact ht
theorem r_bin (ha : RSeg op ar lf i j q1 a) (hb : RSeg op ar lf j k q2 b) (ho : o < 8) (h : op k = iN (20 + o)) : RSeg op ar lf i (k + 1) (q1 + q2) (cmbS o a b) := by
  obtain ⟨a1, a2, a3⟩ := ha
  obtain ⟨b1, b2, b3⟩ := hb
  refine ⟨by omega, by omega, fun op' ar' hs e st fin n res hl hf ht => ?_⟩
  have A := a3 op' ar' (fun x h1 h2 => hs x h1 (by omega)) e st fin
  have hk : op' k = iN (20 + o) := by rw [(hs k (by omega) (by omega)).1]; exact h
  have l20 : ¬ iN (20 + o) < 20 := fun q => absurd ((iN_lt (b := 20) (by omega) (by decide)).mp q) (by omega)
  have l28 : iN (20 + o) < 28 := (iN_lt (b := 28) (by omega) (by decide)).mpr (by omega)
  have e3 : (iN (20 + o)).toNatClampNeg - 20 = o := by rw [iN_nat (by omega)]; omega
  cases c : a e with
  | none =>
    have hn : cmbS o a b e = none := by unfold cmbS; rw [c]; rfl
    rw [hn] at ht
    have ht : res = none := ht
    rw [c] at A
    exact A 0 res (by omega) (by omega) ht
  | some x =>
    rw [c] at A
    have B := b3 op' ar' (fun y h1 h2 => hs y (by omega) (by omega)) e (x :: st) fin
    cases d : b e with
    | none =>
      have hn : cmbS o a b e = none := by unfold cmbS; rw [c, d]; rfl
      rw [hn] at ht
      have ht : res = none := ht
      rw [d] at B
      obtain ⟨n2, g⟩ := B 0 res (by simp; omega) (by omega) ht
      exact A n2 res (by omega) (by omega) g
    | some y =>
      have hn : cmbS o a b e = jo o x y := by unfold cmbS; rw [c, d]; rfl
      rw [hn] at ht
      rw [d] at B
      have hs1 : rStep op' ar' (lf e) k (y :: x :: st) = (jo o x y).map (fun z => (k + 1, z :: st)) := by
        unfold rStep
        rw [hk, if_neg l20, if_pos l28]
        show (jo ((iN (20 + o)).toNatClampNeg - 20) x y).map _ = _
        rw [e3]
      have K : rV op' ar' (lf e) fin (n + 1) k (y :: x :: st) res := by
        refine Or.inr ⟨by omega, fun q => absurd (by rw [hk] at q; exact q) l20, fun _ _ => by simp, fun q => absurd (by rw [hk]; exact l28) q, ?_⟩
        rw [hs1]
        cases g : jo o x y with
        | none =>
          rw [g] at ht
          exact ht
        | some z =>
          rw [g] at ht
          exact ht
      obtain ⟨n2, g⟩ := B (n + 1) res (by simp; omega) (by omega) K
      exact A n2 res (by omega) (by omega) g
theorem r_not (ha : RSeg op ar lf i j q a) (hb : isB a) (h : op j = 28) : RSeg op ar lf i (j + 1) q (negS a) := by
  obtain ⟨a1, a2, a3⟩ := ha
  refine ⟨by omega, a2, fun op' ar' hs e st fin n res hl hf ht => ?_⟩
  have A := a3 op' ar' (fun x h1 h2 => hs x h1 (by omega)) e st fin
  have hk : op' j = 28 := by rw [(hs j (by omega) (by omega)).1]; exact h
  cases c : a e with
  | none =>
    have hn : negS a e = none := by unfold negS; rw [c]; rfl
    rw [hn] at ht
    rw [c] at A
    exact A 0 res hl (by omega) (show res = none from ht)
  | some x =>
    have hn : negS a e = some (if x = 1 then 0 else 1) := by unfold negS; rw [c]; rfl
    rw [hn] at ht
    rw [c] at A
    refine A (n + 1) res hl (by omega) (Or.inr ⟨by omega, fun q => ?_, fun _ q => ?_, fun _ => ⟨by rw [hk]; decide, by simp, fun q => absurd hk q⟩, ?_⟩)
    · rw [hk] at q; exact absurd q (by decide)
    · rw [hk] at q; exact absurd q (by decide)
    · have e1 : rStep op' ar' (lf e) j (x :: st) = some (j + 1, (1 - x) :: st) := by
        unfold rStep
        rw [hk, if_neg (by decide), if_neg (by decide)]
        rfl
      rw [e1]
      have e2 : (1 - x) = if x = 1 then 0 else 1 := by
        rcases hb e x c with rfl | rfl
        · rfl
        · rfl
      show rV op' ar' (lf e) fin n (j + 1) ((1 - x) :: st) res
      rw [e2]
      exact ht
theorem r_skip {or : Bool} (ha : RSeg op ar lf i j q1 a) (hB : isB a) (hb : RSeg op ar lf (j + 1) k q2 b) (h : op j = if or = true then 30 else 29) (h2 : ar j = iN k) (hk3 : k < 2147483648) : RSeg op ar lf i k (q1 + q2) (if or = true then orS a b else andS a b) := by
  obtain ⟨a1, a2, a3⟩ := ha
  obtain ⟨b1, b2, b3⟩ := hb
  refine ⟨by omega, by omega, fun op' ar' hs e st fin n res hl hf ht => ?_⟩
  have A := a3 op' ar' (fun x h1 h2 => hs x h1 (by omega)) e st fin
  have hk : op' j = if or = true then 30 else 29 := by rw [(hs j (by omega) (by omega)).1]; exact h
  have hk2 : ar' j = iN k := by rw [(hs j (by omega) (by omega)).2]; exact h2
  have kn : (iN k).toNatClampNeg = k := iN_nat hk3
  have k20 : ¬ op' j < 20 := by rw [hk]; cases or <;> decide
  have k28 : ¬ op' j < 28 := by rw [hk]; cases or <;> decide
  have kn28 : ¬ op' j = 28 := by rw [hk]; cases or <;> decide
  have k31 : op' j < 31 := by rw [hk]; cases or <;> decide
  have cond : op' j ≠ 28 → ¬ ar' j < 0 ∧ j < (ar' j).toNatClampNeg ∧ (ar' j).toNatClampNeg ≤ fin := fun _ => by
    rw [hk2, kn]
    exact ⟨iN_nn hk3, by omega, hf⟩
  cases c : a e with
  | none =>
    have hn : (if or = true then orS a b else andS a b) e = none := by
      cases or
      · show andS a b e = none
        unfold andS; rw [c]; rfl
      · show orS a b e = none
        unfold orS; rw [c]; rfl
    rw [hn] at ht
    rw [c] at A
    exact A 0 res (by omega) (by omega) (show res = none from ht)
  | some x =>
    rw [c] at A
    have x01 := hB e x c
    by_cases q : x = (if or = true then (1 : Int64) else 0)
    · have hn : (if or = true then orS a b else andS a b) e = some x := by
        cases or
        · have q1 : ¬ x = 1 := fun z => by rw [z] at q; exact absurd q (by decide)
          show andS a b e = some x
          unfold andS; rw [c]
          show (if x = 1 then b e else some x) = _
          rw [if_neg q1]
        · have q1 : x = 1 := q
          show orS a b e = some x
          unfold orS; rw [c]
          show (if x = 1 then some x else b e) = _
          rw [if_pos q1]
      rw [hn] at ht
      refine A (n + 1) res (by omega) (by omega) (Or.inr ⟨by omega, fun z => absurd z k20, fun _ z => absurd z k28, fun _ => ⟨k31, by simp, cond⟩, ?_⟩)
      have e1 : rStep op' ar' (lf e) j (x :: st) = some (k, x :: st) := by
        unfold rStep
        rw [if_neg k20, if_neg k28]
        show (if op' j = 28 then _ else if x = (if op' j = 29 then (0 : Int64) else 1) then some ((ar' j).toNatClampNeg, x :: st) else some (j + 1, st)) = _
        rw [if_neg kn28, hk2, kn, if_pos]
        rw [q, hk]
        cases or <;> rfl
      rw [e1]
      exact ht
    · have hn : (if or = true then orS a b else andS a b) e = b e := by
        cases or
        · have q1 : x = 1 := by
            rcases x01 with z | z
            · exact absurd z q
            · exact z
          show andS a b e = b e
          unfold andS; rw [c]
          show (if x = 1 then b e else some x) = _
          rw [if_pos q1]
        · have q1 : ¬ x = 1 := q
          show orS a b e = b e
          unfold orS; rw [c]
          show (if x = 1 then some x else b e) = _
          rw [if_neg q1]
      rw [hn] at ht
      obtain ⟨n2, g⟩ := b3 op' ar' (fun y h1 h2 => hs y (by omega) h2) e st fin n res (by omega) hf ht
      refine A (n2 + 1) res (by omega) (by omega) (Or.inr ⟨by omega, fun z => absurd z k20, fun _ z => absurd z k28, fun _ => ⟨k31, by simp, cond⟩, ?_⟩)
      have e1 : rStep op' ar' (lf e) j (x :: st) = some (j + 1, st) := by
        unfold rStep
        rw [if_neg k20, if_neg k28]
        show (if op' j = 28 then _ else if x = (if op' j = 29 then (0 : Int64) else 1) then some ((ar' j).toNatClampNeg, x :: st) else some (j + 1, st)) = _
        rw [if_neg kn28, if_neg]
        rw [hk]
        cases or
        · exact q
        · exact q
      rw [e1]
      exact g
theorem RSeg.val (h : RSeg op ar lf i j q a) (hq : q ≤ 399) (e : Env) : ∃ n, rV op ar (lf e) j n i [] (a e) := by
  refine h.2.2 op ar (fun _ _ _ => ⟨rfl, rfl⟩) e [] j 0 (a e) (by simpa using hq) (Nat.le_refl _) ?_
  cases c : a e with
  | none => rfl
  | some v => exact ⟨Nat.le_refl _, v, rfl, rfl⟩
end RS1
/-! what still waits on the pile -/
def isJ (o : Int32) : Prop := o = 29 ∨ o = 30
abbrev Cd : Type := (Nat → Int32) × (Nat → Int32) × Nat
/-- an operator taken from the pile -/
def set1 (o a : Int32) (x : Cd) : Cd := if o = 29 ∨ o = 30 then (x.1, up x.2.1 a.toNatClampNeg (iN x.2.2), x.2.2) else (up x.1 x.2.2 o, up x.2.1 x.2.2 0, x.2.2 + 1)
/-- the operators at places n .. n + t - 1 of the pile are taken, the upper first -/
def setN1 (po pa : Nat → Int32) (n : Nat) : Nat → Cd → Cd
  | 0, x => x
  | t + 1, x => setN1 po pa n t (set1 (po (n + t)) (pa (n + t)) x)
theorem setN1_add {po pa : Nat → Int32} {n t : Nat} : ∀ (u : Nat) (x : Cd), setN1 po pa n (t + u) x = setN1 po pa n t (setN1 po pa (n + t) u x)
  | 0, _ => rfl
  | u + 1, x => by
    show setN1 po pa n (t + u) (set1 (po (n + (t + u))) (pa (n + (t + u))) x) = setN1 po pa n t (setN1 po pa (n + t) u (set1 (po (n + t + u)) (pa (n + t + u)) x))
    rw [setN1_add u, Nat.add_assoc]
theorem setN1_congr {po pa po1 pa1 : Nat → Int32} {n : Nat} : ∀ (t : Nat) (x : Cd), (∀ i, n ≤ i → i < n + t → po1 i = po i ∧ pa1 i = pa i) → setN1 po1 pa1 n t x = setN1 po pa n t x
  | 0, _, _ => rfl
  | t + 1, x, h => by
    show setN1 po1 pa1 n t (set1 (po1 (n + t)) (pa1 (n + t)) x) = setN1 po pa n t (set1 (po (n + t)) (pa (n + t)) x)
    rw [(h (n + t) (by omega) (by omega)).1, (h (n + t) (by omega) (by omega)).2]
    exact setN1_congr t _ (fun i h1 h2 => h i h1 (by omega))
/-- what is below b stays, if the jumps that wait lie at b or above -/
theorem setN1_low {po pa : Nat → Int32} {n b : Nat} : ∀ (t : Nat) (x : Cd), b ≤ x.2.2 → (∀ i, n ≤ i → i < n + t → (po i = 29 ∨ po i = 30) → b ≤ (pa i).toNatClampNeg) → x.2.2 ≤ (setN1 po pa n t x).2.2 ∧ ∀ y, y < b → (setN1 po pa n t x).1 y = x.1 y ∧ (setN1 po pa n t x).2.1 y = x.2.1 y
  | 0, _, _, _ => ⟨Nat.le_refl _, fun _ _ => ⟨rfl, rfl⟩⟩
  | t + 1, x, hb, h => by
    show _ ≤ (setN1 po pa n t (set1 (po (n + t)) (pa (n + t)) x)).2.2 ∧ ∀ y, y < b → (setN1 po pa n t (set1 (po (n + t)) (pa (n + t)) x)).1 y = _ ∧ (setN1 po pa n t (set1 (po (n + t)) (pa (n + t)) x)).2.1 y = _
    have hj := h (n + t) (by omega) (by omega)
    by_cases c : po (n + t) = 29 ∨ po (n + t) = 30
    · have e : set1 (po (n + t)) (pa (n + t)) x = (x.1, up x.2.1 (pa (n + t)).toNatClampNeg (iN x.2.2), x.2.2) := if_pos c
      rw [e]
      obtain ⟨g1, g2⟩ := setN1_low (b := b) t (x.1, up x.2.1 (pa (n + t)).toNatClampNeg (iN x.2.2), x.2.2) hb (fun i h1 h2 => h i h1 (by omega))
      refine ⟨g1, fun y hy => ⟨(g2 y hy).1, (g2 y hy).2.trans (up_ne ?_)⟩⟩
      have := hj c
      omega
    · have e : set1 (po (n + t)) (pa (n + t)) x = (up x.1 x.2.2 (po (n + t)), up x.2.1 x.2.2 0, x.2.2 + 1) := if_neg c
      rw [e]
      obtain ⟨g1, g2⟩ := setN1_low (b := b) t (up x.1 x.2.2 (po (n + t)), up x.2.1 x.2.2 0, x.2.2 + 1) (show b ≤ x.2.2 + 1 by omega) (fun i h1 h2 => h i h1 (by omega))
      refine ⟨Nat.le_trans (Nat.le_succ _) g1, fun y hy => ⟨(g2 y hy).1.trans (up_ne (by omega)), (g2 y hy).2.trans (up_ne (by omega))⟩⟩
/-- how many operators that become code lie below place n of the pile -/
def wtF (po : Nat → Int32) : Nat → Nat
  | 0 => 0
  | n + 1 => wtF po n + if po n < 29 then 1 else 0
theorem wtF_congr {po po1 : Nat → Int32} : ∀ (n : Nat), (∀ i, i < n → po1 i = po i) → wtF po1 n = wtF po n
  | 0, _ => rfl
  | n + 1, h => by
    show wtF po1 n + _ = wtF po n + _
    rw [wtF_congr n (fun i hi => h i (by omega)), h n (by omega)]
theorem wtF_le {po : Nat → Int32} : ∀ (n : Nat), wtF po n ≤ n
  | 0 => Nat.le_refl _
  | n + 1 => by
    show wtF po n + _ ≤ n + 1
    have := wtF_le (po := po) n
    split <;> omega
theorem set1_c {o a : Int32} {x : Cd} (ho : o < 31) : (set1 o a x).2.2 = x.2.2 + if o < 29 then 1 else 0 := by
  unfold set1
  by_cases c : o = 29 ∨ o = 30
  · rw [if_pos c, if_neg]
    · rfl
    · rcases c with rfl | rfl <;> decide
  · rw [if_neg c, if_pos]
    have h1 : ¬ o = 29 := fun q => c (Or.inl q)
    have h2 : ¬ o = 30 := fun q => c (Or.inr q)
    rw [Int32.lt_iff_toInt_lt] at *
    have e1 : o.toInt ≠ 29 := fun q => h1 (Int32.toInt_inj.mp q)
    have e2 : o.toInt ≠ 30 := fun q => h2 (Int32.toInt_inj.mp q)
    have e3 : (31 : Int32).toInt = 31 := rfl
    have e4 : (29 : Int32).toInt = 29 := rfl
    omega
theorem setN1_c {po pa : Nat → Int32} {n : Nat} : ∀ (t : Nat) (x : Cd), (∀ i, n ≤ i → i < n + t → po i < 31) → (setN1 po pa n t x).2.2 + wtF po n = x.2.2 + wtF po (n + t)
  | 0, _, _ => rfl
  | t + 1, x, h => by
    show (setN1 po pa n t (set1 (po (n + t)) (pa (n + t)) x)).2.2 + _ = x.2.2 + (wtF po (n + t) + if po (n + t) < 29 then 1 else 0)
    have := setN1_c (pa := pa) t (set1 (po (n + t)) (pa (n + t)) x) (fun i h1 h2 => h i h1 (by omega))
    rw [this, set1_c (h (n + t) (by omega) (by omega))]
    omega
