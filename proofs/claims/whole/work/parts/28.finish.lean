/-! ===== how a call ends ===== -/
section FI
variable {σ : Hp}
theorem Rf.of {σ1 : Hp} (h : Rf σ) (e1 : zi σ1 0 18 = zi σ1 125 1) (e2 : zi σ1 124 = zi σ 124) (e3 : zi σ1 126 = zi σ 126) : Rf σ1 := by
  unfold Rf at *
  rw [e2, e3]
  exact ⟨e1, h.2⟩
/-- both refused with the same number -/
theorem Rf.bad2 {s : Int32} {x y : Nat} {z : Int32} (h : Rf σ) (hx : (x, y) ∈ [(0, 1), (1, 2), (2, 3), (3, 5), (4, 6)]) (hz : z = zi σ 126 y + 1) : Rf (zsi (zsi (zsi (zsi (zsi σ 0 18 s) 124 x (zi σ 124 x + 1)) 125 0 0) 125 1 s) 126 y z) := by
  subst hz
  obtain ⟨h1, h2, h3, h4, h5, h6⟩ := h
  simp only [List.mem_cons, Prod.mk.injEq, List.not_mem_nil, or_false] at hx
  unfold Rf
  rcases hx with ⟨rfl, rfl⟩ | ⟨rfl, rfl⟩ | ⟨rfl, rfl⟩ | ⟨rfl, rfl⟩ | ⟨rfl, rfl⟩ <;> (unfold RfF; simp (disch := first | omega | decide) only [zi_hit, zi_miss, zi_ne, h2, h3, h4, h5, h6, and_self])
theorem Rel.bad {s : Int32} {x y : Nat} {z : Int32} (h : Rel σ) (hx : (x, y) ∈ [(0, 1), (1, 2), (2, 3), (3, 5), (4, 6)]) (hz : z = zi σ 126 y + 1) : Rel (zsi (zsi (zsi (zsi (zsi σ 0 18 s) 124 x (zi σ 124 x + 1)) 125 0 0) 125 1 s) 126 y z) := by
  obtain ⟨⟨hS, ⟨nt, hT⟩, hR, hM, hW, hD, hI⟩, nP, nF, nB, nT, nS, nL, B, n, hC, hU⟩ := h
  refine ⟨⟨hS, ⟨nt, ?_⟩, hR.bad2 hx hz, ?_, hW, ?_, ?_⟩, nP, nF, nB, nT, nS, nL, B, n, ?_, ?_⟩
  · exact ((((hT.fz rfl).fz rfl).fz rfl).fz rfl).fz rfl
  · exact ((((hM.fz rfl).fz rfl).fz rfl).fz rfl).fz rfl
  · exact ((((hD.fz rfl).fz rfl).fz rfl).fz rfl).fz rfl
  · exact ((((hI.fz rfl).fz rfl).fz rfl).fz rfl).fz rfl
  · exact ((((hC.fz rfl).fz rfl).fz rfl).fz rfl).fz rfl
  · exact ((((hU.fz rfl).fz rfl).fz rfl).fz rfl).fz rfl
/-- the last answer was no refusal -/
theorem Rel.ok (h : Rel σ) : Rel (zsi (zsi (zsi σ 0 18 0) 125 0 0) 125 1 0) := by
  obtain ⟨⟨hS, ⟨nt, hT⟩, hR, hM, hW, hD, hI⟩, nP, nF, nB, nT, nS, nL, B, n, hC, hU⟩ := h
  refine ⟨⟨hS, ⟨nt, ?_⟩, ⟨rfl, hR.2⟩, ?_, hW, ?_, ?_⟩, nP, nF, nB, nT, nS, nL, B, n, ?_, ?_⟩
  · exact ((hT.fz rfl).fz rfl).fz rfl
  · exact ((hM.fz rfl).fz rfl).fz rfl
  · exact ((hD.fz rfl).fz rfl).fz rfl
  · exact ((hI.fz rfl).fz rfl).fz rfl
  · exact ((hC.fz rfl).fz rfl).fz rfl
  · exact ((hU.fz rfl).fz rfl).fz rfl
/-- only 'thrown' was set -/
theorem Rel.thrown (h : Rel σ) : Rel (zsi σ 125 0 0) := by
  obtain ⟨⟨hS, ⟨nt, hT⟩, hR, hM, hW, hD, hI⟩, nP, nF, nB, nT, nS, nL, B, n, hC, hU⟩ := h
  exact ⟨⟨hS, ⟨nt, hT.fz rfl⟩, hR.fz rfl, hM.fz rfl, hW, hD.fz rfl, hI.fz rfl⟩, nP, nF, nB, nT, nS, nL, B, n, hC.fz rfl, hU.fz rfl⟩
theorem no_le {x : Int32} {c d : Nat} (h : no x c) (h0 : ¬ x < 0) (hd : d < c) (hc : c < 2147483648) : ¬ x ≤ iN d := by
  rcases h with h | h
  · exact absurd h h0
  · intro h2
    have h3 := Int32.le_iff_toInt_le.mp h
    have h4 := Int32.le_iff_toInt_le.mp h2
    rw [iN_int hc] at h3
    rw [iN_int (by omega)] at h4
    omega
theorem ino_f {x : Int32} {c : Nat} {lo hi : Int64} (hc : c < 2147483648) (h : no x c) (h1 : lo.toInt = 0) (h2 : hi.toInt = (c : Int) - 1) : s_X9_in (Int32.toInt64 x) lo hi σ = some (0, σ) := by
  have := no_int hc h
  exact in_f (by rw [l64]; omega)
theorem ino_t {n c : Nat} {lo hi : Int64} (hc : c < 2147483648) (h : n < c) (h1 : lo.toInt = 0) (h2 : hi.toInt = (c : Int) - 1) : s_X9_in (Int32.toInt64 (iN n)) lo hi σ = some (1, σ) :=
  in_t (by rw [iN64 (by omega)]; omega) (by rw [iN64 (by omega)]; omega)
theorem Both.bad {f g : Hp → Option (Int32 × Hp)} {s : Int32} {x y : Nat} (hr : Rel σ) (hx : (x, y) ∈ [(0, 1), (1, 2), (2, 3), (3, 5), (4, 6)]) (h1 : f σ = some (s, zsi (zsi σ 0 18 s) 124 x (zi σ 124 x + 1))) (h2 : ∀ σ1, SK σ1 → zi σ1 127 = zi σ 127 → g σ1 = some (s, zsi (zsi (zsi σ1 125 0 0) 125 1 s) 126 y (zi σ1 126 y + 1))) : Both f g σ := by
  have hS : SK (zsi (zsi σ 0 18 s) 124 x (zi σ 124 x + 1)) := hr.1.1
  have e : zi (zsi (zsi σ 0 18 s) 124 x (zi σ 124 x + 1)) 127 = zi σ 127 := by
    rw [zi_ne (by decide), zi_ne (by decide)]
  refine Both.mk h1 (h2 _ hS e) (hr.bad hx ?_) (hS.2.1 125 (by decide)).1
  rw [zi_ne (by decide), zi_ne (by decide)]
end FI
