/-! ===== what both objects stand for: one row of numbers, one book of laws ===== -/
/-- x is a whole number up to m -/
def bd (x : Int32) (m : Nat) : Prop := ∃ n, n ≤ m ∧ x = iN n
def up {α : Type} (R : Nat → α) (i : Nat) (v : α) : Nat → α := fun j => if j = i then v else R j
theorem up_eq {α : Type} {R : Nat → α} {i : Nat} {v : α} : up R i v i = v := if_pos rfl
theorem up_ne {α : Type} {R : Nat → α} {i j : Nat} {v : α} (h : j ≠ i) : up R i v j = R j := if_neg h
theorem up2_up {α : Type} {f : Nat → Nat → α} {a k : Nat} {v : α} : up2 f a k v a = up (f a) k v := by
  funext j
  simp [up2, up]
theorem zi_up {σ : Hp} {a k : Nat} {v : Int32} : zi (zsi σ a k v) a = up (zi σ a) k v := up2_up
theorem zi_ne {σ : Hp} {a b k : Nat} {v : Int32} (h : b ≠ a) : zi (zsi σ a k v) b = zi σ b := up2_ne h
theorem zj_up {σ : Hp} {a k : Nat} {v : Int64} : zj (zsj σ a k v) a = up (zj σ a) k v := up2_up
theorem zj_ne {σ : Hp} {a b k : Nat} {v : Int64} (h : b ≠ a) : zj (zsj σ a k v) b = zj σ b := up2_ne h
theorem zr_up {σ : Hp} {a k : Nat} {v : Option Nat} : zr (zsr σ a k v) a = up (zr σ a) k v := up2_up
theorem zr_ne {σ : Hp} {a b k : Nat} {v : Option Nat} (h : b ≠ a) : zr (zsr σ a k v) b = zr σ b := up2_ne h
/-- where in a House a number of the row stands: its cell behind the House, its place -/
def loc (i : Nat) : Nat × Nat :=
  if i = 0 then (1, 3) else if i < 6 then (0, i + 12) else if i = 6 then (0, 19) else if i < 10 then (14, i - 7) else if i = 10 then (0, 18)
  else if i < 17 then (5, i - 11) else if i < 21 then (7, i - 17) else if i < 24 then (8, i - 21) else if i < 30 then (9, i - 24)
  else if i < 40 then (2, i - 30) else if i < 50 then (3, i - 40) else if i < 150 then (4, i - 50) else if i < 154 then (6, i - 150)
  else if i < 160 then (10, i - 154) else if i < 166 then (11, i - 160) else if i % 2 = 0 then (12, (i - 166) / 2) else (13, (i - 166) / 2)
def HHm (b : Nat) (σ : Hp) (R : Nat → Int32) : Prop := ∀ i, i < 178 → zi σ (b + (loc i).1) (loc i).2 = R i
theorem loc_inj : ∀ i, i < 178 → ∀ j, j < 178 → loc i = loc j → i = j := by
  have h : (List.range 178).all (fun i => (List.range 178).all (fun j => !(loc i == loc j) || (i == j))) = true := by decide +kernel
  intro i hi j hj e
  have h1 := List.all_eq_true.mp (List.all_eq_true.mp h i (List.mem_range.mpr hi)) j (List.mem_range.mpr hj)
  rw [e] at h1
  simpa using h1
theorem loc_lt : ∀ i, i < 178 → (loc i).1 < 15 := by
  have h : (List.range 178).all (fun i => decide ((loc i).1 < 15)) = true := by decide +kernel
  intro i hi
  simpa using List.all_eq_true.mp h i (List.mem_range.mpr hi)
theorem HHm.set {b : Nat} {σ : Hp} {R : Nat → Int32} (h : HHm b σ R) {i : Nat} (hi : i < 178) {o k : Nat} (e : loc i = (o, k)) (v : Int32) : HHm b (zsi σ (b + o) k v) (up R i v) := by
  intro j hj
  rw [zi_zsi]
  unfold up
  by_cases hij : j = i
  · subst hij
    rw [e, if_pos ⟨rfl, rfl⟩, if_pos rfl]
  · rw [if_neg hij, if_neg, h j hj]
    rintro ⟨h1, h2⟩
    refine hij (loc_inj j hj i hi ?_)
    rw [e]
    exact Prod.ext (by omega) h2
/-- of a House only its own first fifteen cells count -/
theorem HHm.congr {b : Nat} {σ σ1 : Hp} {R : Nat → Int32} (h : HHm b σ R) (e : ∀ o, o < 15 → zi σ1 (b + o) = zi σ (b + o)) : HHm b σ1 R := by
  intro i hi
  rw [e _ (loc_lt i hi)]
  exact h i hi
theorem HHm.other {b : Nat} {σ : Hp} {R : Nat → Int32} {a k : Nat} {v : Int32} (h : HHm b σ R) (ha : a < b ∨ b + 15 ≤ a) : HHm b (zsi σ a k v) R := h.congr (fun o ho => zi_ne (by omega))
theorem HHm.otherj {b : Nat} {σ : Hp} {R : Nat → Int32} {a k : Nat} {v : Int64} (h : HHm b σ R) : HHm b (zsj σ a k v) R := h
section HG
variable {b : Nat} {σ : Hp} {R : Nat → Int32}
theorem HHm.g0 (h : HHm b σ R) : zi σ (b + 1) 3 = R 0 := h 0 (by decide)
theorem HHm.g1 (h : HHm b σ R) : zi σ b 13 = R 1 := h 1 (by decide)
theorem HHm.g2 (h : HHm b σ R) : zi σ b 14 = R 2 := h 2 (by decide)
theorem HHm.g3 (h : HHm b σ R) : zi σ b 15 = R 3 := h 3 (by decide)
theorem HHm.g4 (h : HHm b σ R) : zi σ b 16 = R 4 := h 4 (by decide)
theorem HHm.g5 (h : HHm b σ R) : zi σ b 17 = R 5 := h 5 (by decide)
theorem HHm.g6 (h : HHm b σ R) : zi σ b 19 = R 6 := h 6 (by decide)
theorem HHm.g10 (h : HHm b σ R) : zi σ b 18 = R 10 := h 10 (by decide)
theorem HHm.g7 (h : HHm b σ R) : zi σ (b + 14) 0 = R 7 := h 7 (by decide)
theorem HHm.g8 (h : HHm b σ R) : zi σ (b + 14) 1 = R 8 := h 8 (by decide)
theorem HHm.g9 (h : HHm b σ R) : zi σ (b + 14) 2 = R 9 := h 9 (by decide)
theorem loc_doors : ∀ r, r < 6 → loc (11 + r) = (5, r) := by decide +kernel
theorem HHm.doors (h : HHm b σ R) {r : Nat} (h1 : r < 6) : zi σ (b + 5) r = R (11 + r) := by
  have := h (11 + r) (by omega)
  rwa [loc_doors r h1] at this
theorem loc_on : ∀ f, f < 4 → loc (17 + f) = (7, f) := by decide +kernel
theorem HHm.on (h : HHm b σ R) {f : Nat} (h1 : f < 4) : zi σ (b + 7) f = R (17 + f) := by
  have := h (17 + f) (by omega)
  rwa [loc_on f h1] at this
theorem loc_sow : ∀ k, k < 3 → loc (21 + k) = (8, k) := by decide +kernel
theorem HHm.sow (h : HHm b σ R) {k : Nat} (h1 : k < 3) : zi σ (b + 8) k = R (21 + k) := by
  have := h (21 + k) (by omega)
  rwa [loc_sow k h1] at this
theorem loc_lies : ∀ t, t < 6 → loc (24 + t) = (9, t) := by decide +kernel
theorem HHm.lies (h : HHm b σ R) {t : Nat} (h1 : t < 6) : zi σ (b + 9) t = R (24 + t) := by
  have := h (24 + t) (by omega)
  rwa [loc_lies t h1] at this
theorem loc_room : ∀ p, p < 10 → loc (30 + p) = (2, p) := by decide +kernel
theorem HHm.room (h : HHm b σ R) {p : Nat} (h1 : p < 10) : zi σ (b + 2) p = R (30 + p) := by
  have := h (30 + p) (by omega)
  rwa [loc_room p h1] at this
theorem loc_high : ∀ p, p < 10 → loc (40 + p) = (3, p) := by decide +kernel
theorem HHm.high (h : HHm b σ R) {p : Nat} (h1 : p < 10) : zi σ (b + 3) p = R (40 + p) := by
  have := h (40 + p) (by omega)
  rwa [loc_high p h1] at this
theorem loc_link : ∀ i, i < 100 → loc (50 + i) = (4, i) := by decide +kernel
theorem HHm.link (h : HHm b σ R) {i : Nat} (h1 : i < 100) : zi σ (b + 4) i = R (50 + i) := by
  have := h (50 + i) (by omega)
  rwa [loc_link i h1] at this
theorem loc_legs : ∀ f, f < 4 → loc (150 + f) = (6, f) := by decide +kernel
theorem HHm.legs (h : HHm b σ R) {f : Nat} (h1 : f < 4) : zi σ (b + 6) f = R (150 + f) := by
  have := h (150 + f) (by omega)
  rwa [loc_legs f h1] at this
theorem loc_folks : ∀ t, t < 6 → loc (154 + t) = (10, t) := by decide +kernel
theorem HHm.folks (h : HHm b σ R) {t : Nat} (h1 : t < 6) : zi σ (b + 10) t = R (154 + t) := by
  have := h (154 + t) (by omega)
  rwa [loc_folks t h1] at this
theorem loc_badgers : ∀ t, t < 6 → loc (160 + t) = (11, t) := by decide +kernel
theorem HHm.badgers (h : HHm b σ R) {t : Nat} (h1 : t < 6) : zi σ (b + 11) t = R (160 + t) := by
  have := h (160 + t) (by omega)
  rwa [loc_badgers t h1] at this
theorem loc_seenH : ∀ s, s < 6 → loc (166 + 2 * s) = (12, s) := by decide +kernel
theorem HHm.seenH (h : HHm b σ R) {s : Nat} (h1 : s < 6) : zi σ (b + 12) s = R (166 + 2 * s) := by
  have := h (166 + 2 * s) (by omega)
  rwa [loc_seenH s h1] at this
theorem loc_seenR : ∀ s, s < 6 → loc (167 + 2 * s) = (13, s) := by decide +kernel
theorem HHm.seenR (h : HHm b σ R) {s : Nat} (h1 : s < 6) : zi σ (b + 13) s = R (167 + 2 * s) := by
  have := h (167 + 2 * s) (by omega)
  rwa [loc_seenR s h1] at this
theorem loc_terms : ∀ i, i < 3 → loc (7 + i) = (14, i) := by decide +kernel
theorem HHm.terms (h : HHm b σ R) {i : Nat} (h1 : i < 3) : zi σ (b + 14) i = R (7 + i) := by
  have := h (7 + i) (by omega)
  rwa [loc_terms i h1] at this
end HG
/-- what must hold of the number at place i -/
def okI (nP nF nT H i : Nat) (x : Int32) : Prop :=
  if i = 7 then bd x H else if i = 8 then bd x 10 else if i = 9 then bd x 9 else if i = 10 then bd x 999
  else if i < 17 then bd x 63 else if i < 21 then bd x 9 ∧ (i - 17 < nF → x < iN nP) else if i < 24 then bd x 5
  else if i < 30 then bd x 9 ∧ (i - 24 < nT → x < iN nP) else if i < 40 then bd x 5 else if i < 50 then bd x 9
  else if i < 150 then bd x 9 ∧ ((i - 50) % 11 = 0 → x = 0) else if i < 166 then bd x 9 else if i % 2 = 0 then bd x 60 else bd x 5
/-- the row as it may be: so many perches, folk, badgers, things, seen ones, laws; the hour up to H -/
def WF (nP nF nB nT nS nL H : Nat) (R : Nat → Int32) : Prop :=
  (nP ≤ 10 ∧ nF ≤ 4 ∧ nB ≤ 3 ∧ nT ≤ 6 ∧ nS ≤ 6 ∧ nL ≤ 6) ∧ (R 0 = iN nP ∧ R 1 = iN nF ∧ R 2 = iN nB ∧ R 3 = iN nT ∧ R 4 = iN nS ∧ R 5 = iN nL) ∧ (R 6 = -1 ∨ ∃ j, j < nL ∧ R 6 = iN j) ∧ (∀ i, 6 < i → i < 178 → okI nP nF nT H i (R i))
theorem WF.put {nP nF nB nT nS nL H : Nat} {R : Nat → Int32} (h : WF nP nF nB nT nS nL H R) {i : Nat} {v : Int32} (hi : 6 < i) (hv : okI nP nF nT H i v) : WF nP nF nB nT nS nL H (up R i v) := by
  obtain ⟨h1, h2, h3, h4⟩ := h
  have e : ∀ j, j ≤ 6 → up R i v j = R j := fun j hj => up_ne (by omega)
  refine ⟨h1, ?_, ?_, fun j hj1 hj2 => ?_⟩
  · rw [e 0 (by decide), e 1 (by decide), e 2 (by decide), e 3 (by decide), e 4 (by decide), e 5 (by decide)]
    exact h2
  · rw [e 6 (by decide)]
    exact h3
  · by_cases hij : j = i
    · subst hij
      rw [up_eq]
      exact hv
    · rw [up_ne hij]
      exact h4 j hj1 hj2
section WG
variable {nP nF nB nT nS nL H : Nat} {R : Nat → Int32}
theorem WF.hour (h : WF nP nF nB nT nS nL H R) : bd (R 7) H := h.2.2.2 7 (by decide) (by decide)
theorem WF.snores (h : WF nP nF nB nT nS nL H R) : bd (R 8) 10 := h.2.2.2 8 (by decide) (by decide)
theorem WF.mood (h : WF nP nF nB nT nS nL H R) : bd (R 9) 9 := h.2.2.2 9 (by decide) (by decide)
theorem WF.caught (h : WF nP nF nB nT nS nL H R) : bd (R 10) 999 := h.2.2.2 10 (by decide) (by decide)
theorem WF.at {i : Nat} {Q : Prop} (h : WF nP nF nB nT nS nL H R) (h1 : 6 < i) (h2 : i < 178) (e : okI nP nF nT H i (R i) = Q) : Q := e ▸ h.2.2.2 i h1 h2
theorem okI_c {i : Nat} {x : Int32} {c : Prop} [Decidable c] {a b : Prop} (h : c) : (if c then a else b) = a := if_pos h
theorem WF.doors (h : WF nP nF nB nT nS nL H R) {r : Nat} (hr : r < 6) : bd (R (11 + r)) 63 := by
  have := h.2.2.2 (11 + r) (by omega) (by omega)
  unfold okI at this
  rwa [if_neg (by omega), if_neg (by omega), if_neg (by omega), if_neg (by omega), if_pos (by omega)] at this
theorem WF.on (h : WF nP nF nB nT nS nL H R) {f : Nat} (hf : f < 4) : bd (R (17 + f)) 9 ∧ (f < nF → R (17 + f) < iN nP) := by
  have := h.2.2.2 (17 + f) (by omega) (by omega)
  unfold okI at this
  rwa [if_neg (by omega), if_neg (by omega), if_neg (by omega), if_neg (by omega), if_neg (by omega), if_pos (by omega), show 17 + f - 17 = f by omega] at this
theorem WF.sow (h : WF nP nF nB nT nS nL H R) {k : Nat} (hk : k < 3) : bd (R (21 + k)) 5 := by
  have := h.2.2.2 (21 + k) (by omega) (by omega)
  unfold okI at this
  rwa [if_neg (by omega), if_neg (by omega), if_neg (by omega), if_neg (by omega), if_neg (by omega), if_neg (by omega), if_pos (by omega)] at this
theorem WF.lies (h : WF nP nF nB nT nS nL H R) {t : Nat} (ht : t < 6) : bd (R (24 + t)) 9 ∧ (t < nT → R (24 + t) < iN nP) := by
  have := h.2.2.2 (24 + t) (by omega) (by omega)
  unfold okI at this
  rwa [if_neg (by omega), if_neg (by omega), if_neg (by omega), if_neg (by omega), if_neg (by omega), if_neg (by omega), if_neg (by omega), if_pos (by omega), show 24 + t - 24 = t by omega] at this
theorem WF.room (h : WF nP nF nB nT nS nL H R) {p : Nat} (hp : p < 10) : bd (R (30 + p)) 5 := by
  have := h.2.2.2 (30 + p) (by omega) (by omega)
  unfold okI at this
  rwa [if_neg (by omega), if_neg (by omega), if_neg (by omega), if_neg (by omega), if_neg (by omega), if_neg (by omega), if_neg (by omega), if_neg (by omega), if_pos (by omega)] at this
theorem WF.high (h : WF nP nF nB nT nS nL H R) {p : Nat} (hp : p < 10) : bd (R (40 + p)) 9 := by
  have := h.2.2.2 (40 + p) (by omega) (by omega)
  unfold okI at this
  rwa [if_neg (by omega), if_neg (by omega), if_neg (by omega), if_neg (by omega), if_neg (by omega), if_neg (by omega), if_neg (by omega), if_neg (by omega), if_neg (by omega), if_pos (by omega)] at this
theorem WF.link (h : WF nP nF nB nT nS nL H R) {i : Nat} (hi : i < 100) : bd (R (50 + i)) 9 ∧ (i % 11 = 0 → R (50 + i) = 0) := by
  have := h.2.2.2 (50 + i) (by omega) (by omega)
  unfold okI at this
  rwa [if_neg (by omega), if_neg (by omega), if_neg (by omega), if_neg (by omega), if_neg (by omega), if_neg (by omega), if_neg (by omega), if_neg (by omega), if_neg (by omega), if_neg (by omega), if_pos (by omega), show 50 + i - 50 = i by omega] at this
theorem WF.bd9 (h : WF nP nF nB nT nS nL H R) {i : Nat} (hi : 150 ≤ i) (hi2 : i < 166) : bd (R i) 9 := by
  have := h.2.2.2 i (by omega) (by omega)
  unfold okI at this
  rwa [if_neg (by omega), if_neg (by omega), if_neg (by omega), if_neg (by omega), if_neg (by omega), if_neg (by omega), if_neg (by omega), if_neg (by omega), if_neg (by omega), if_neg (by omega), if_neg (by omega), if_pos (by omega)] at this
theorem WF.seenH (h : WF nP nF nB nT nS nL H R) {s : Nat} (hs : s < 6) : bd (R (166 + 2 * s)) 60 := by
  have := h.2.2.2 (166 + 2 * s) (by omega) (by omega)
  unfold okI at this
  rwa [if_neg (by omega), if_neg (by omega), if_neg (by omega), if_neg (by omega), if_neg (by omega), if_neg (by omega), if_neg (by omega), if_neg (by omega), if_neg (by omega), if_neg (by omega), if_neg (by omega), if_neg (by omega), if_pos (by omega)] at this
theorem WF.seenR (h : WF nP nF nB nT nS nL H R) {s : Nat} (hs : s < 6) : bd (R (167 + 2 * s)) 5 := by
  have := h.2.2.2 (167 + 2 * s) (by omega) (by omega)
  unfold okI at this
  rwa [if_neg (by omega), if_neg (by omega), if_neg (by omega), if_neg (by omega), if_neg (by omega), if_neg (by omega), if_neg (by omega), if_neg (by omega), if_neg (by omega), if_neg (by omega), if_neg (by omega), if_neg (by omega), if_neg (by omega)] at this
end WG
/-! the machines that reckon -/
def jo (o : Nat) (x y : Int64) : Option Int64 :=
  (match o with
  | 0 => some (x + y)
  | 1 => some (x - y)
  | 2 => some (x * y)
  | 3 => if y = 0 then none else some (x / y)
  | 4 => if y = 0 then none else some (x - x / y * y)
  | 5 => some (if x < y then 1 else 0)
  | 6 => some (if y < x then 1 else 0)
  | _ => some (if x = y then 1 else 0)).bind (fun z => if 1000000000 < z ∨ z < -1000000000 then none else some z)
def cStep (s e : Nat → Int32) (i : Nat) (st : List Int64) : Option (Nat × List Int64) :=
  if s i &&& 15 = 0 then (if st.length < 64 then some (i + 1, Int32.toInt64 (s i >>> 4) :: st) else none)
  else if s i &&& 15 = 1 then (if st.length < 64 ∧ ¬ s i >>> 4 < 0 ∧ s i >>> 4 < 18 then some (i + 1, Int32.toInt64 (e (s i >>> 4).toNatClampNeg) :: st) else none)
  else if s i &&& 15 < 10 then (match st with
    | y :: x :: r => (jo ((s i &&& 15).toNatClampNeg - 2) x y).map (fun z => (i + 1, z :: r))
    | _ => none)
  else (match st with
    | x :: r => if s i &&& 15 = 10 then some (i + 1, (if x = 1 then 0 else 1) :: r)
      else if (x = 1 ↔ s i &&& 15 = 11) then some (max (i + 1) (s i >>> 4).toNatClampNeg, x :: r) else some (i + 1, r)
    | _ => none)
def cV (s e : Nat → Int32) (fin : Nat) : Nat → Nat → List Int64 → Option (List Int64)
  | 0, _, st => some st
  | n + 1, i, st => if fin ≤ i then some st else (cStep s e i st).bind (fun q => cV s e fin n q.1 q.2)
/-- what the class reckons from place i to place fin: none for BROKEN -/
def cVal (s e : Nat → Int32) (i fin : Nat) : Option Int64 :=
  match cV s e fin (fin - i) i [] with
  | some [v] => some v
  | _ => none
def rStep (op ar : Nat → Int32) (lf : Int32 → Int32 → Int64) (k : Nat) (st : List Int64) : Option (Nat × List Int64) :=
  if op k < 20 then some (k + 1, lf (op k) (ar k) :: st)
  else if op k < 28 then (match st with
    | y :: x :: r => (jo ((op k).toNatClampNeg - 20) x y).map (fun z => (k + 1, z :: r))
    | _ => none)
  else (match st with
    | x :: r => if op k = 28 then some (k + 1, (1 - x) :: r)
      else if x = (if op k = 29 then 0 else 1) then some ((ar k).toNatClampNeg, x :: r) else some (k + 1, r)
    | _ => none)
/-- nothing goes wrong in the reference's reckoning, and what comes of it: none if it broke -/
def rV (op ar : Nat → Int32) (lf : Int32 → Int32 → Int64) (fin : Nat) : Nat → Nat → List Int64 → Option Int64 → Prop
  | 0, k, st, res => fin ≤ k ∧ ∃ v, st = [v] ∧ res = some v
  | n + 1, k, st, res => (fin ≤ k ∧ ∃ v, st = [v] ∧ res = some v) ∨ (k < fin ∧ (op k < 20 → ¬ op k < 0 ∧ op k < 10 ∧ st.length < 399) ∧ (¬ op k < 20 → op k < 28 → 2 ≤ st.length) ∧ (¬ op k < 28 → op k < 31 ∧ 1 ≤ st.length ∧ (op k ≠ 28 → ¬ ar k < 0 ∧ k < (ar k).toNatClampNeg ∧ (ar k).toNatClampNeg ≤ fin)) ∧ (match rStep op ar lf k st with
      | none => res = none
      | some q => rV op ar lf fin n q.1 q.2 res))
/-- a book of laws: how many clauses each has; of each clause its head, its sum, its test -/
abbrev Env : Type := Nat → Int32
abbrev Book : Type := Nat → Nat × (Nat → Nat × (Env → Option Int64) × (Env → Option Int64))
/-- the reference's leaf: of a law's words -/
def lfL (e : Env) : Int32 → Int32 → Int64 := fun o a => if o = 0 then Int32.toInt64 a else Int32.toInt64 (e (o.toNatClampNeg - 1))
def opL (R : Nat → Int32) (j : Nat) : Nat → Int32 := fun k => R (178 + 900 * j + 98 + 2 * k)
def arL (R : Nat → Int32) (j : Nat) : Nat → Int32 := fun k => R (178 + 900 * j + 98 + 2 * k + 1)
/-- law j of the row says what the book says -/
def LR1 (R : Nat → Int32) (B : Book) (j : Nat) : Prop :=
  (B j).1 ≤ 12 ∧ R (178 + 900 * j + 1) = iN (B j).1 ∧ ∀ c, c < (B j).1 → ((B j).2 c).1 < 3 ∧ R (178 + 900 * j + 2 + 8 * c) = iN ((B j).2 c).1 ∧
    ∃ k3 k4 k5 k6 : Nat, k3 ≤ 400 ∧ k4 ≤ 400 ∧ k5 ≤ 400 ∧ k6 ≤ 400 ∧ R (178 + 900 * j + 2 + 8 * c + 3) = iN k3 ∧ R (178 + 900 * j + 2 + 8 * c + 4) = iN k4 ∧ R (178 + 900 * j + 2 + 8 * c + 5) = iN k5 ∧ R (178 + 900 * j + 2 + 8 * c + 6) = iN k6 ∧
      (((B j).2 c).1 ≠ 2 → ∀ e : Env, ∃ n, rV (opL R j) (arL R j) (lfL e) k4 n k3 [] (((B j).2 c).2.1 e)) ∧
      (k5 < k6 → ∀ e : Env, ∃ n, rV (opL R j) (arL R j) (lfL e) k6 n k5 [] (((B j).2 c).2.2 e)) ∧ (¬ k5 < k6 → ∀ e : Env, ((B j).2 c).2.2 e = some 1) ∧ (∀ (e : Env) (v : Int64), ((B j).2 c).2.2 e = some v → v = 0 ∨ v = 1)
/-- the text t in the heap says what law j of the book says -/
def LC1 (σ : Hp) (t : Nat) (B : Book) (j : Nat) : Prop :=
  156 ≤ t ∧ t < zn σ ∧ zk σ t = 7 ∧ (∃ a r, zr σ t 0 = some a ∧ zr σ t 1 = some r ∧ 156 ≤ a ∧ a < zn σ ∧ 156 ≤ r ∧ r < zn σ ∧ zk σ a = 11 ∧ zk σ r = 11 ∧ zl σ a ≤ 600 ∧ zl σ r = 6 * (B j).1 ∧ zi σ t 2 = iN (B j).1 ∧
    ∀ c, c < (B j).1 → zi σ r (6 * c) = iN (300 + ((B j).2 c).1) ∧ ∃ f m e : Nat, f ≤ zl σ a ∧ m ≤ zl σ a ∧ e ≤ zl σ a ∧ zi σ r (6 * c + 1) = iN f ∧ zi σ r (6 * c + 3) = iN m ∧ zi σ r (6 * c + 4) = iN e ∧
      (((B j).2 c).1 ≠ 2 → ∀ w : Env, (∀ k, 9 ≤ k → w k = -1) → cVal (zi σ a) w f m = ((B j).2 c).2.1 w) ∧ (m < e → ∀ w : Env, (∀ k, 9 ≤ k → w k = -1) → cVal (zi σ a) w m e = ((B j).2 c).2.2 w) ∧ (¬ m < e → ∀ w : Env, ((B j).2 c).2.2 w = some 1))
def LRow (R : Nat → Int32) (B : Book) (nL : Nat) : Prop := ∀ j, j < nL → LR1 R B j
def LHouse (b : Nat) (σ : Hp) (B : Book) (nL : Nat) : Prop := ∀ j, j < nL → ∃ t, zr σ (b + 15) j = some t ∧ LC1 σ t B j
