/-! ===== what a piece of code says: for the class's steps, for the reference's ===== -/
abbrev Sem : Type := Env → Option Int64
def cmbS (o : Nat) (a b : Sem) : Sem := fun e => (a e).bind fun x => (b e).bind fun y => jo o x y
def negS (a : Sem) : Sem := fun e => (a e).map fun x => if x = 1 then 0 else 1
def orS (a b : Sem) : Sem := fun e => (a e).bind fun x => if x = 1 then some x else b e
def andS (a b : Sem) : Sem := fun e => (a e).bind fun x => if x = 1 then b e else some x
/-- a test: 0 or 1 -/
def isB (a : Sem) : Prop := ∀ e v, a e = some v → v = 0 ∨ v = 1
theorem isB_neg {a : Sem} : isB (negS a) := fun e v h => by
  unfold negS at h
  cases c : a e with
  | none => rw [c] at h; cases h
  | some x =>
    rw [c] at h
    have h : (if x = 1 then (0 : Int64) else 1) = v := Option.some.inj h
    rw [← h]
    by_cases q : x = 1
    · rw [if_pos q]; exact Or.inl rfl
    · rw [if_neg q]; exact Or.inr rfl
theorem isB_or {a b : Sem} (ha : isB a) (hb : isB b) : isB (orS a b) := fun e v h => by
  unfold orS at h
  cases c : a e with
  | none => rw [c] at h; cases h
  | some x =>
    rw [c] at h
    have h : (if x = 1 then some x else b e) = some v := h
    by_cases q : x = 1
    · rw [if_pos q] at h
      cases h
      exact ha e _ c
    · rw [if_neg q] at h
      exact hb e v h
theorem isB_and {a b : Sem} (ha : isB a) (hb : isB b) : isB (andS a b) := fun e v h => by
  unfold andS at h
  cases c : a e with
  | none => rw [c] at h; cases h
  | some x =>
    rw [c] at h
    have h : (if x = 1 then b e else some x) = some v := h
    by_cases q : x = 1
    · rw [if_pos q] at h
      exact hb e v h
    · rw [if_neg q] at h
      cases h
      exact ha e _ c
theorem jo_cmp {o : Nat} {x y z : Int64} (ho : 5 ≤ o) (h : jo o x y = some z) : z = 0 ∨ z = 1 := by
  have key : ∀ c : Int64, c = 0 ∨ c = 1 → (if 1000000000 < c ∨ c < -1000000000 then none else some c) = some z → z = 0 ∨ z = 1 := by
    intro c hc q
    rcases hc with rfl | rfl
    · rw [if_neg (by decide)] at q; exact Or.inl (Option.some.inj q).symm
    · rw [if_neg (by decide)] at q; exact Or.inr (Option.some.inj q).symm
  have b01 : ∀ p : Prop, ∀ _ : Decidable p, (if p then (1 : Int64) else 0) = 0 ∨ (if p then (1 : Int64) else 0) = 1 := fun p _ => by
    by_cases q : p
    · rw [if_pos q]; exact Or.inr rfl
    · rw [if_neg q]; exact Or.inl rfl
  unfold jo at h
  match o, ho, h with
  | 5, _, h => exact key _ (b01 _ _) h
  | 6, _, h => exact key _ (b01 _ _) h
  | n + 7, _, h => exact key _ (b01 _ _) h
theorem isB_cmp {o : Nat} {a b : Sem} (ho : 5 ≤ o) : isB (cmbS o a b) := fun e v h => by
  unfold cmbS at h
  cases c : a e with
  | none => rw [c] at h; cases h
  | some x =>
    cases d : b e with
    | none => rw [c, d] at h; cases h
    | some y =>
      rw [c, d] at h
      exact jo_cmp ho h
/-! the class's steps -/
def CSeg (s : Nat → Int32) (i j q : Nat) (a : Sem) : Prop := i < j ∧ 1 ≤ q ∧ ∀ s', (∀ x, i ≤ x → x < j → s' x = s x) → ∀ (w : Env) (st : List Int64), st.length + q ≤ 64 →
  ∃ n, n ≤ j - i ∧ ∀ fin, j ≤ fin → ∀ m, cV s' w fin (n + m) i st = (a w).bind fun v => cV s' w fin m j (v :: st)
theorem CSeg.congr {s s1 : Nat → Int32} {i j q : Nat} {a : Sem} (h : CSeg s i j q a) (e : ∀ x, i ≤ x → x < j → s1 x = s x) : CSeg s1 i j q a :=
  ⟨h.1, h.2.1, fun s' hs => h.2.2 s' (fun x h1 h2 => (hs x h1 h2).trans (e x h1 h2))⟩
theorem cV_s {s e : Nat → Int32} {fin n i : Nat} {st : List Int64} (h : i < fin) : cV s e fin (n + 1) i st = (cStep s e i st).bind (fun q => cV s e fin n q.1 q.2) := by
  show (if fin ≤ i then some st else _) = _
  rw [if_neg (by omega)]
theorem c_one {s : Nat → Int32} {i : Nat} {f : Env → Int64} (h : ∀ s' : Nat → Int32, s' i = s i → ∀ (w : Env) (st : List Int64), st.length < 64 → cStep s' w i st = some (i + 1, f w :: st)) : CSeg s i (i + 1) 1 (fun w => some (f w)) := by
  refine ⟨by omega, Nat.le_refl _, fun s' hs w st hl => ⟨1, by omega, fun fin hf m => ?_⟩⟩
  rw [Nat.add_comm 1 m, cV_s (by omega), h s' (hs i (Nat.le_refl _) (by omega)) w st (by omega)]
  rfl
theorem c_bin {s : Nat → Int32} {i j k q1 q2 o : Nat} {a b : Sem} (ha : CSeg s i j q1 a) (hb : CSeg s j k q2 b) (ho : o < 8) (h : s k &&& 15 = iN (2 + o)) : CSeg s i (k + 1) (q1 + q2) (cmbS o a b) := by
  obtain ⟨a1, a2, a3⟩ := ha
  obtain ⟨b1, b2, b3⟩ := hb
  refine ⟨by omega, by omega, fun s' hs w st hl => ?_⟩
  obtain ⟨n1, c1, d1⟩ := a3 s' (fun x h1 h2 => hs x h1 (by omega)) w st (by omega)
  have hk : s' k &&& 15 = iN (2 + o) := by rw [hs k (by omega) (by omega)]; exact h
  have e0 : ¬ iN (2 + o) = 0 := fun q => absurd ((iN_inj (b := 0) (by omega) (by decide)).mp q) (by omega)
  have e1 : ¬ iN (2 + o) = 1 := fun q => absurd ((iN_inj (b := 1) (by omega) (by decide)).mp q) (by omega)
  have e2 : iN (2 + o) < 10 := (iN_lt (b := 10) (by omega) (by decide)).mpr (by omega)
  have e3 : (iN (2 + o)).toNatClampNeg - 2 = o := by rw [iN_nat (by omega)]; omega
  cases c : a w with
  | none =>
    refine ⟨n1, by omega, fun fin hf m => ?_⟩
    have hn : cmbS o a b w = none := by unfold cmbS; rw [c]; rfl
    rw [d1 fin (by omega) m, c, hn]
    rfl
  | some x =>
    obtain ⟨n2, c2, d2⟩ := b3 s' (fun y h1 h2 => hs y (by omega) (by omega)) w (x :: st) (by simp; omega)
    refine ⟨n1 + n2 + 1, by omega, fun fin hf m => ?_⟩
    rw [show n1 + n2 + 1 + m = n1 + (n2 + (m + 1)) by omega, d1 fin (by omega), c]
    show cV s' w fin (n2 + (m + 1)) j (x :: st) = _
    rw [d2 fin (by omega)]
    cases d : b w with
    | none =>
      have hn : cmbS o a b w = none := by unfold cmbS; rw [c, d]; rfl
      rw [hn]
      rfl
    | some y =>
      show cV s' w fin (m + 1) k (y :: x :: st) = _
      have hn : cmbS o a b w = jo o x y := by unfold cmbS; rw [c, d]; rfl
      rw [cV_s (by omega), hn]
      unfold cStep
      rw [hk, if_neg e0, if_neg e1, if_pos e2]
      show (Option.map _ (jo ((iN (2 + o)).toNatClampNeg - 2) x y)).bind _ = _
      rw [e3]
      cases jo o x y <;> rfl
theorem c_not {s : Nat → Int32} {i j q : Nat} {a : Sem} (ha : CSeg s i j q a) (h : s j &&& 15 = 10) : CSeg s i (j + 1) q (negS a) := by
  obtain ⟨a1, a2, a3⟩ := ha
  refine ⟨by omega, a2, fun s' hs w st hl => ?_⟩
  obtain ⟨n1, c1, d1⟩ := a3 s' (fun x h1 h2 => hs x h1 (by omega)) w st hl
  have hk : s' j &&& 15 = 10 := by rw [hs j (by omega) (by omega)]; exact h
  refine ⟨n1 + 1, by omega, fun fin hf m => ?_⟩
  rw [show n1 + 1 + m = n1 + (m + 1) by omega, d1 fin (by omega)]
  cases c : a w with
  | none =>
    have hn : negS a w = none := by unfold negS; rw [c]; rfl
    rw [hn]
    rfl
  | some x =>
    have hn : negS a w = some (if x = 1 then 0 else 1) := by unfold negS; rw [c]; rfl
    rw [hn]
    show cV s' w fin (m + 1) j (x :: st) = cV s' w fin m (j + 1) ((if x = 1 then 0 else 1) :: st)
    rw [cV_s (by omega)]
    unfold cStep
    rw [hk, if_neg (by decide), if_neg (by decide), if_neg (by decide)]
    rfl
theorem c_skip {s : Nat → Int32} {i j k q1 q2 : Nat} {a b : Sem} {or : Bool} (ha : CSeg s i j q1 a) (hb : CSeg s (j + 1) k q2 b) (h : s j &&& 15 = if or = true then 11 else 12) (h2 : s j >>> 4 = iN k) (hk3 : k < 2147483648) : CSeg s i k (q1 + q2) (if or = true then orS a b else andS a b) := by
  obtain ⟨a1, a2, a3⟩ := ha
  obtain ⟨b1, b2, b3⟩ := hb
  refine ⟨by omega, by omega, fun s' hs w st hl => ?_⟩
  obtain ⟨n1, c1, d1⟩ := a3 s' (fun x h1 h2 => hs x h1 (by omega)) w st (by omega)
  have hk : s' j &&& 15 = if or = true then 11 else 12 := by rw [hs j (by omega) (by omega)]; exact h
  have hk2 : s' j >>> 4 = iN k := by rw [hs j (by omega) (by omega)]; exact h2
  have k0 : ¬ (s' j &&& 15) = 0 := by rw [hk]; cases or <;> decide
  have k1 : ¬ (s' j &&& 15) = 1 := by rw [hk]; cases or <;> decide
  have k2 : ¬ (s' j &&& 15) < 10 := by rw [hk]; cases or <;> decide
  have k3 : ¬ (s' j &&& 15) = 10 := by rw [hk]; cases or <;> decide
  have k11 : ((s' j &&& 15) = 11) ↔ or = true := by rw [hk]; cases or <;> decide
  have kn : (iN k).toNatClampNeg = k := iN_nat hk3
  cases c : a w with
  | none =>
    refine ⟨n1, by omega, fun fin hf m => ?_⟩
    have hn : (if or = true then orS a b else andS a b) w = none := by
      cases or
      · show andS a b w = none
        unfold andS; rw [c]; rfl
      · show orS a b w = none
        unfold orS; rw [c]; rfl
    rw [d1 fin (by omega) m, c, hn]
    rfl
  | some x =>
    by_cases q : x = 1 ↔ or = true
    · refine ⟨n1 + 1, by omega, fun fin hf m => ?_⟩
      have hn : (if or = true then orS a b else andS a b) w = some x := by
        cases or
        · have q1 : ¬ x = 1 := fun e => absurd (q.mp e) (by decide)
          show andS a b w = some x
          unfold andS; rw [c]
          show (if x = 1 then b w else some x) = _
          rw [if_neg q1]
        · have q1 : x = 1 := q.mpr rfl
          show orS a b w = some x
          unfold orS; rw [c]
          show (if x = 1 then some x else b w) = _
          rw [if_pos q1]
      rw [show n1 + 1 + m = n1 + (m + 1) by omega, d1 fin (by omega), c, hn]
      show cV s' w fin (m + 1) j (x :: st) = cV s' w fin m k (x :: st)
      rw [cV_s (by omega)]
      unfold cStep
      rw [if_neg k0, if_neg k1, if_neg k2]
      show (if s' j &&& 15 = 10 then _ else if (x = 1 ↔ s' j &&& 15 = 11) then some (max (j + 1) (s' j >>> 4).toNatClampNeg, x :: st) else some (j + 1, st)).bind _ = _
      rw [if_neg k3, if_pos (q.trans k11.symm), hk2, kn, Nat.max_eq_right (by omega)]
      rfl
    · obtain ⟨n2, c2, d2⟩ := b3 s' (fun y h1 h2 => hs y (by omega) h2) w st (by omega)
      refine ⟨n1 + 1 + n2, by omega, fun fin hf m => ?_⟩
      have hn : (if or = true then orS a b else andS a b) w = b w := by
        cases or
        · have q1 : x = 1 := by
            apply Classical.byContradiction
            intro e
            exact q ⟨fun z => absurd z e, fun z => absurd z (by decide)⟩
          show andS a b w = b w
          unfold andS; rw [c]
          show (if x = 1 then b w else some x) = _
          rw [if_pos q1]
        · have q1 : ¬ x = 1 := fun e => q ⟨fun _ => rfl, fun _ => e⟩
          show orS a b w = b w
          unfold orS; rw [c]
          show (if x = 1 then some x else b w) = _
          rw [if_neg q1]
      rw [show n1 + 1 + n2 + m = n1 + (n2 + m + 1) by omega, d1 fin (by omega), c, hn, ← d2 fin hf m]
      show cV s' w fin (n2 + m + 1) j (x :: st) = _
      rw [cV_s (by omega)]
      unfold cStep
      rw [if_neg k0, if_neg k1, if_neg k2]
      show (if s' j &&& 15 = 10 then _ else if (x = 1 ↔ s' j &&& 15 = 11) then some (max (j + 1) (s' j >>> 4).toNatClampNeg, x :: st) else some (j + 1, st)).bind _ = _
      rw [if_neg k3, if_neg (fun e => q (e.trans k11))]
      rfl
theorem CSeg.val {s : Nat → Int32} {i j q : Nat} {a : Sem} (h : CSeg s i j q a) (hq : q ≤ 64) (w : Env) : cVal s w i j = a w := by
  obtain ⟨h1, h2, h3⟩ := h
  obtain ⟨n, c, d⟩ := h3 s (fun _ _ _ => rfl) w [] (by simpa using hq)
  have e := d j (Nat.le_refl _) (j - i - n)
  rw [show n + (j - i - n) = j - i by omega] at e
  unfold cVal
  rw [e]
  cases a w with
  | none => rfl
  | some v =>
    have : ∀ m, cV s w j m j [v] = some [v] := fun m => by
      cases m with
      | zero => rfl
      | succ m =>
        show (if j ≤ j then some [v] else _) = _
        rw [if_pos (Nat.le_refl _)]
    show (match cV s w j (j - i - n) j [v] with | some [v] => some v | _ => none) = some v
    rw [this]
/-! the words of the class's steps -/
def stW (w o : Nat) : Int32 := (iN w <<< (4 &&& 31)) ||| iN o
theorem stW_all : (List.range 1100).all (fun w => (List.range 13).all (fun o => decide (stW w o &&& 15 = iN o ∧ stW w o >>> 4 = iN w))) = true := by decide +kernel
theorem stW_ok {w o : Nat} (hw : w < 1100) (ho : o < 13) : stW w o &&& 15 = iN o ∧ stW w o >>> 4 = iN w :=
  of_decide_eq_true (List.all_eq_true.mp (List.all_eq_true.mp stW_all w (List.mem_range.mpr hw)) o (List.mem_range.mpr ho))
