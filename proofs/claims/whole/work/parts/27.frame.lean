/-! ===== what each part of the relation does not feel ===== -/
section FR
variable {σ : Hp} {a k b nP nF nT n : Nat} {v : Int32} {w : Int64}
theorem zi_free {a1 k1 : Nat} (h : ¬ (a1 = a ∧ k1 = k)) : zi (zsi σ a k v) a1 k1 = zi σ a1 k1 := if_neg h
def fTp (a k : Nat) : Bool := !(a == 98 && k == 1) && !(a == 125 && k == 13) && !(a == 99) && !(a == 134)
theorem Tp.fz (h : Tp n σ) (hf : fTp a k = true) : Tp n (zsi σ a k v) := by
  unfold Tp at *
  rw [zi_free (a1 := 98) (k1 := 1) (by rintro ⟨rfl, rfl⟩; simp [fTp] at hf), zi_free (a1 := 125) (k1 := 13) (by rintro ⟨rfl, rfl⟩; simp [fTp] at hf), zi_ne (b := 99) (by rintro rfl; simp [fTp] at hf), zi_ne (b := 134) (by rintro rfl; simp [fTp] at hf)]
  exact h
theorem Tp.fj (h : Tp n σ) : Tp n (zsj σ a k w) := h
def fRf (a k : Nat) : Bool := !(a == 0 && k == 18) && !(a == 125 && k == 1) && !(a == 124) && !(a == 126)
theorem Rf.fz (h : Rf σ) (hf : fRf a k = true) : Rf (zsi σ a k v) := by
  unfold Rf at *
  rw [zi_free (a1 := 0) (k1 := 18) (by rintro ⟨rfl, rfl⟩; simp [fRf] at hf), zi_free (a1 := 125) (k1 := 1) (by rintro ⟨rfl, rfl⟩; simp [fRf] at hf), zi_ne (b := 124) (by rintro rfl; simp [fRf] at hf), zi_ne (b := 126) (by rintro rfl; simp [fRf] at hf)]
  exact h
theorem Rf.fj (h : Rf σ) : Rf (zsj σ a k w) := h
def fDk (a k : Nat) : Bool := !(a == 0 && k == 12) && !(a == 39 && k == 13) && !(a == 39 && k == 14) && !(a == 125 && k == 56) && !(a == 125 && k == 57) && !(a == 46) && !(a == 47) && !(a == 155)
theorem Dk.fz (h : Dk σ) (hf : fDk a k = true) : Dk (zsi σ a k v) := by
  unfold Dk at *
  rw [zi_free (a1 := 0) (k1 := 12) (by rintro ⟨rfl, rfl⟩; simp [fDk] at hf), zi_free (a1 := 39) (k1 := 13) (by rintro ⟨rfl, rfl⟩; simp [fDk] at hf), zi_free (a1 := 39) (k1 := 14) (by rintro ⟨rfl, rfl⟩; simp [fDk] at hf), zi_free (a1 := 125) (k1 := 56) (by rintro ⟨rfl, rfl⟩; simp [fDk] at hf), zi_free (a1 := 125) (k1 := 57) (by rintro ⟨rfl, rfl⟩; simp [fDk] at hf), zi_ne (b := 46) (by rintro rfl; simp [fDk] at hf), zi_ne (b := 47) (by rintro rfl; simp [fDk] at hf), zi_ne (b := 155) (by rintro rfl; simp [fDk] at hf)]
  exact h
theorem Dk.fj (h : Dk σ) : Dk (zsj σ a k w) := h
def fSm (a k : Nat) : Bool := !(a == 0 && k == 16) && !(a == 125 && k == 11) && !(a == 0 && k == 15) && !(a == 125 && k == 18) && !(a == 0 && k == 17) && !(a == 125 && k == 52) && !(a == 125 && k == 20)
theorem Sm.fz (h : Sm σ) (hf : fSm a k = true) : Sm (zsi σ a k v) := by
  unfold Sm at *
  rw [zi_free (a1 := 0) (k1 := 16) (by rintro ⟨rfl, rfl⟩; simp [fSm] at hf), zi_free (a1 := 125) (k1 := 11) (by rintro ⟨rfl, rfl⟩; simp [fSm] at hf), zi_free (a1 := 0) (k1 := 15) (by rintro ⟨rfl, rfl⟩; simp [fSm] at hf), zi_free (a1 := 125) (k1 := 18) (by rintro ⟨rfl, rfl⟩; simp [fSm] at hf), zi_free (a1 := 0) (k1 := 17) (by rintro ⟨rfl, rfl⟩; simp [fSm] at hf), zi_free (a1 := 125) (k1 := 52) (by rintro ⟨rfl, rfl⟩; simp [fSm] at hf), zi_free (a1 := 125) (k1 := 20) (by rintro ⟨rfl, rfl⟩; simp [fSm] at hf)]
  exact h
theorem Sm.fj (h : Sm σ) : Sm (zsj σ a k w) := h
def fUn (a k : Nat) : Bool := !(a == 109 && k == 1) && !(a == 125 && k == 8) && !(a == 110) && !(a == 131) && !(a == 130) && !(a == 127)
theorem Un.fz (h : Un nP nF nT n σ) (hf : fUn a k = true) : Un nP nF nT n (zsi σ a k v) := by
  unfold Un at *
  rw [zi_free (a1 := 109) (k1 := 1) (by rintro ⟨rfl, rfl⟩; simp [fUn] at hf), zi_free (a1 := 125) (k1 := 8) (by rintro ⟨rfl, rfl⟩; simp [fUn] at hf), zi_ne (b := 110) (by rintro rfl; simp [fUn] at hf), zi_ne (b := 131) (by rintro rfl; simp [fUn] at hf), zi_ne (b := 130) (by rintro rfl; simp [fUn] at hf), zi_ne (b := 127) (by rintro rfl; simp [fUn] at hf)]
  exact h
theorem Un.fj (h : Un nP nF nT n σ) : Un nP nF nT n (zsj σ a k w) := h
theorem CW.fz (h : CW σ) : CW (zsi σ a k v) := h
def fCW (a : Nat) : Bool := !(a == 140) && !(a == 141) && !(a == 142) && !(a == 152) && !(a == 153)
theorem CW.fj (h : CW σ) (hf : fCW a = true) : CW (zsj σ a k w) := by
  unfold CW at *
  rw [zj_ne (b := 140) (by rintro rfl; simp [fCW] at hf), zj_ne (b := 141) (by rintro rfl; simp [fCW] at hf), zj_ne (b := 142) (by rintro rfl; simp [fCW] at hf), zj_ne (b := 152) (by rintro rfl; simp [fCW] at hf), zj_ne (b := 153) (by rintro rfl; simp [fCW] at hf)]
  exact h
def fCr (b a : Nat) : Bool := (decide (a < b) || decide (b + 15 ≤ a)) && decide (a < 156)
theorem Cr.fz {nB nS nL H : Nat} {B : Book} {R : Nat → Int32} (h : Cr b σ nP nF nB nT nS nL H B R) (hf : fCr b a = true) : Cr b (zsi σ a k v) nP nF nB nT nS nL H B R := by
  have h2 : (a < b ∨ b + 15 ≤ a) ∧ a < 156 := by simpa [fCr] using hf
  exact ⟨h.1, h.2.1.other h2.1, h.2.2.1, h.2.2.2.zsi h2.2⟩
theorem Cr.fj {nB nS nL H : Nat} {B : Book} {R : Nat → Int32} (h : Cr b σ nP nF nB nT nS nL H B R) : Cr b (zsj σ a k w) nP nF nB nT nS nL H B R :=
  ⟨h.1, h.2.1, h.2.2.1, h.2.2.2.zsj⟩
theorem ImF.fz {z1 z2 : Int32} {R : Nat → Int32} (h : ImF b σ z1 z2 R) (hf : fCr b a = true) : ImF b (zsi σ a k v) z1 z2 R := by
  refine ⟨h.1, ?_⟩
  rcases h.2 with h1 | ⟨h1, nP, nF, nB, nT, nS, nL, B, h2⟩
  · exact Or.inl h1
  · exact Or.inr ⟨h1, nP, nF, nB, nT, nS, nL, B, h2.fz hf⟩
theorem ImF.fj {z1 z2 : Int32} {R : Nat → Int32} (h : ImF b σ z1 z2 R) : ImF b (zsj σ a k w) z1 z2 R := by
  refine ⟨h.1, ?_⟩
  rcases h.2 with h1 | ⟨h1, nP, nF, nB, nT, nS, nL, B, h2⟩
  · exact Or.inl h1
  · exact Or.inr ⟨h1, nP, nF, nB, nT, nS, nL, B, h2.fj⟩
def fIm (a : Nat) : Bool := fCr 59 a && fCr 78 a && !(a == 97) && !(a == 129) && !(a == 128)
theorem Im.fz (h : Im σ) (hf : fIm a = true) : Im (zsi σ a k v) := by
  have h1 : (((fCr 59 a = true ∧ fCr 78 a = true) ∧ a ≠ 97) ∧ a ≠ 129) ∧ a ≠ 128 := by simpa [fIm] using hf
  unfold Im
  rw [zi_ne (Ne.symm h1.1.1.2), zi_ne (Ne.symm h1.1.2), zi_ne (Ne.symm h1.2)]
  exact ⟨h.1.fz h1.1.1.1.1, h.2.1.fz h1.1.1.1.2, h.2.2⟩
theorem Im.fj (h : Im σ) : Im (zsj σ a k w) := ⟨h.1.fj, h.2.1.fj, h.2.2⟩
theorem SK.fz (h : SK σ) : SK (zsi σ a k v) := h
theorem SK.fj (h : SK σ) : SK (zsj σ a k w) := h
/-- both refuse alike -/
theorem Rf.bad {s : Int32} {x y : Nat} (h : Rf σ) (hx : (x, y) ∈ [(0, 1), (1, 2), (2, 3), (3, 5), (4, 6)]) : Rf (zsi (zsi (zsi (zsi σ 0 18 s) 124 x (zi σ 124 x + 1)) 125 1 s) 126 y (zi σ 126 y + 1)) := by
  obtain ⟨h1, h2, h3, h4, h5, h6⟩ := h
  simp only [List.mem_cons, Prod.mk.injEq, List.not_mem_nil, or_false] at hx
  unfold Rf
  rcases hx with ⟨rfl, rfl⟩ | ⟨rfl, rfl⟩ | ⟨rfl, rfl⟩ | ⟨rfl, rfl⟩ | ⟨rfl, rfl⟩ <;> (unfold RfF; simp (disch := first | omega | decide) only [zi_hit, zi_miss, zi_ne, h2, h3, h4, h5, h6, and_self])
theorem Rf.ok (h : Rf σ) : Rf (zsi (zsi σ 0 18 0) 125 1 0) := by
  obtain ⟨h1, h2, h3, h4, h5, h6⟩ := h
  exact ⟨rfl, h2, h3, h4, h5, h6⟩
end FR
