/-! ===== the call orders ===== -/
section BOR
variable {σ : Hp} {nP nF nB nT nS nL n nt L : Nat} {B : Book} {R : Nat → Int32}
theorem RfF.b2 {s s1 s2 : Int32} {r1 r2 r1' r2' : Nat → Int32} (h : RfF s1 s2 r1 r2) (a : ∀ j, j ≠ 2 → r1' j = r1 j) (a2 : r1' 2 = r1 2 + 1) (b : ∀ j, j ≠ 3 → r2' j = r2 j) (b3 : r2' 3 = r2 3 + 1) : RfF s s r1' r2' := by
  obtain ⟨h1, h2, h3, h4, h5, h6⟩ := h
  unfold RfF
  rw [a 0 (by decide), a 1 (by decide), a2, a 3 (by decide), a 4 (by decide), b 1 (by decide), b 2 (by decide), b3, b 5 (by decide), b 6 (by decide), h4]
  exact ⟨rfl, h2, h3, rfl, h5, h6⟩
def S8x (a k : Nat) : Prop := S8o a k ∨ S8e a k
theorem S8x.in {a k : Nat} (h : S8x a k) : LO a k ∧ a ≤ 124 := by
  unfold S8x S8o S8e at h
  unfold LO
  omega
theorem Slo.lo {a k : Nat} (h : Slo a k) : LO a k := by
  unfold Slo at h
  unfold LO
  omega
theorem S46.lo {a k : Nat} (h : S46 a k) : LO a k := by
  unfold S46 at h
  unfold LO
  omega
theorem SOr.lo {a k : Nat} (h : SOr a k) : LO a k := by
  have := h.in
  unfold LO
  omega
/-- orders read in vain -/
theorem orders_bad {k1 : Nat} {u1 : Hp} {g : Hp → Option (Int32 × Hp)} (hr : Rel σ) (E1 : Ag S8o σ u1) (v98 : zi u1 98 1 = 0) (v17 : zi u1 0 17 = -1) (v15 : zi u1 0 15 = iN (psN (tbO σ) nt k1))
    (h9 : ∀ u2, Ag (fun a k => S8o a k ∨ (a = 0 ∧ k = 18) ∨ a = 124) σ u2 → ∃ u3 u4, g u2 = some (-6, zsi (zsi u4 125 1 (-6)) 126 6 (zi u4 126 6 + 1)) ∧ Ag Slo u2 u3 ∧ zi u3 125 52 = -1 ∧ Ag Ste u3 u4 ∧ zi u4 125 18 = iN (psN (tbO σ) nt k1) ∧ zi u4 125 13 = 0 ∧ zi u4 125 20 = 0) :
    ∃ t, g (zsi (zsi u1 0 18 (-6)) 124 4 (zi u1 124 4 + 1)) = some (-6, t) ∧ Rel t := by
  obtain ⟨⟨hS, ⟨nt', hT⟩, hR, hM, hW, hD, hI⟩, nP, nF, nB, nT, nS, nL, B, n, hC, hU⟩ := id hr
  have Ea : Ag (fun a k => (a = 0 ∧ k = 18) ∨ a = 124) u1 (zsi (zsi u1 0 18 (-6)) 124 4 (zi u1 124 4 + 1)) := (Ag.zsi (Or.inl ⟨rfl, rfl⟩)).trans (Ag.zsi (Or.inr rfl))
  have d18 : zi (zsi (zsi u1 0 18 (-6)) 124 4 (zi u1 124 4 + 1)) 0 18 = -6 := (congrFun (zi_ne (by decide)) 18).trans zi_hit
  have d124 : ∀ j, j ≠ 4 → zi (zsi (zsi u1 0 18 (-6)) 124 4 (zi u1 124 4 + 1)) 124 j = zi σ 124 j := fun j hj => (zi_miss hj).trans ((congrFun (zi_ne (by decide)) j).trans (E1.2.2.2.2 124 j (by unfold S8o; omega)).1)
  have d4 : zi (zsi (zsi u1 0 18 (-6)) 124 4 (zi u1 124 4 + 1)) 124 4 = zi σ 124 4 + 1 := zi_hit.trans (by rw [(E1.2.2.2.2 124 4 (by unfold S8o; omega)).1])
  generalize zsi (zsi u1 0 18 (-6)) 124 4 (zi u1 124 4 + 1) = u2 at Ea d18 d124 d4
  have Eb : Ag (fun a k => S8o a k ∨ (a = 0 ∧ k = 18) ∨ a = 124) σ u2 := (E1.mono (fun a k q => Or.inl q)).trans (Ea.mono (fun a k q => Or.inr q))
  obtain ⟨u3, u4, x, E3, v52, E4, w18, w13, w20⟩ := h9 u2 Eb
  refine ⟨_, x, ?_⟩
  have Et : Ag (fun a k => (a = 125 ∧ k = 1) ∨ a = 126) u4 (zsi (zsi u4 125 1 (-6)) 126 6 (zi u4 126 6 + 1)) := (Ag.zsi (Or.inl ⟨rfl, rfl⟩)).trans (Ag.zsi (Or.inr rfl))
  have t1 : zi (zsi (zsi u4 125 1 (-6)) 126 6 (zi u4 126 6 + 1)) 125 1 = -6 := (congrFun (zi_ne (by decide)) 1).trans zi_hit
  have t126 : ∀ j, j ≠ 6 → zi (zsi (zsi u4 125 1 (-6)) 126 6 (zi u4 126 6 + 1)) 126 j = zi u4 126 j := fun j hj => (zi_miss hj).trans (congrFun (zi_ne (by decide)) j)
  have t6 : zi (zsi (zsi u4 125 1 (-6)) 126 6 (zi u4 126 6 + 1)) 126 6 = zi u4 126 6 + 1 := zi_hit
  generalize zsi (zsi u4 125 1 (-6)) 126 6 (zi u4 126 6 + 1) = t at Et t1 t126 t6
  have E24 : Ag (fun a k => Slo a k ∨ Ste a k) u2 u4 := (E3.mono (fun a k q => Or.inl q)).trans (E4.mono (fun a k q => Or.inr q))
  have c24 : ∀ a k, a ≤ 134 → a ≠ 125 → zi u4 a k = zi u2 a k := fun a k h1 h2 => (E24.2.2.2.2 a k (fun q => by unfold Slo Ste at q; omega)).1
  have ct : ∀ a k, a ≤ 134 → a ≠ 125 → a ≠ 126 → zi t a k = zi u2 a k := fun a k h1 h2 h3 => ((Et.2.2.2.2 a k (by omega)).1).trans (c24 a k h1 h2)
  have c2 : ∀ a k, a ≠ 124 → ¬ (a = 0 ∧ k = 18) → zi u2 a k = zi u1 a k := fun a k h1 h2 => (Ea.2.2.2.2 a k (by omega)).1
  have E : Ag (fun a k => (a = 98 ∧ k = 1) ∨ (100 ≤ a ∧ a ≤ 105) ∨ (a = 0 ∧ (k = 15 ∨ k = 17 ∨ k = 18)) ∨ a = 124 ∨ (a = 125 ∧ (k = 0 ∨ k = 1 ∨ (13 ≤ k ∧ k ≤ 21) ∨ k = 23 ∨ k = 26 ∨ k = 29 ∨ k = 30 ∨ k = 52)) ∨ (135 ≤ a ∧ a ≤ 139) ∨ a = 154 ∨ a = 126) σ t := ((Eb.mono (fun a k q => by unfold S8o at q; omega)).trans (E24.mono (fun a k q => by unfold Slo Ste at q; omega))).trans (Et.mono (fun a k q => by omega))
  have EH : GH LO σ t := GH.ofAg (E.mono (fun a k q => by unfold LO; omega))
  have e127 : zi t 127 = zi σ 127 := agr E (fun k q => by omega)
  refine ⟨restO hr.1 EH ?_ ?_ ?_ ?_ ?_ ?_ (fun j _ => by rw [E.2.2.2.1]), nP, nF, nB, nT, nS, nL, B, n, ?_, hU.gg E (fun a k q => by
    have q2 : (a ≠ 109 ∧ a ≠ 110 ∧ a ≠ 131 ∧ a ≠ 130 ∧ a ≠ 127) ∧ (a = 125 → k ≠ 8) := by rcases q with q | q | q | q | q | q | q | q <;> omega
    clear q
    unfold fUn
    simp
    omega)⟩
  · rw [ct 98 1 (by decide) (by decide) (by decide), c2 98 1 (by decide) (by omega)]
    exact v98
  · rw [(Et.2.2.2.2 125 13 (by omega)).1]
    exact w13
  · rw [ct 0 15 (by decide) (by decide) (by decide), c2 0 15 (by decide) (by omega), v15, (Et.2.2.2.2 125 18 (by omega)).1, w18]
  · rw [ct 0 17 (by decide) (by decide) (by decide), c2 0 17 (by decide) (by omega), v17, (Et.2.2.2.2 125 52 (by omega)).1, (E4.2.2.2.2 125 52 (by unfold Ste; omega)).1, v52]
  · rw [(Et.2.2.2.2 125 20 (by omega)).1]
    exact w20
  · have q : RfF (-6) (-6) (zi t 124) (zi t 126) := by
      refine RfF.b4 hR (fun j hj => ?_) ?_ (fun j hj => ?_) ?_
      · rw [ct 124 j (by decide) (by decide) (by decide)]
        exact d124 j hj
      · rw [ct 124 4 (by decide) (by decide) (by decide)]
        exact d4
      · rw [t126 j hj, c24 126 j (by decide) (by decide), (Eb.2.2.2.2 126 j (by unfold S8o; omega)).1]
      · rw [t6, c24 126 6 (by decide) (by decide), (Eb.2.2.2.2 126 6 (by unfold S8o; omega)).1]
    have e1 : zi t 0 18 = -6 := by
      rw [ct 0 18 (by decide) (by decide) (by decide)]
      exact d18
    unfold Rf
    rw [e1, t1]
    exact q
  · rw [e127]
    exact hC.gg E (fun a k q => by
      have q2 : (a = 0 ∨ 16 ≤ a) ∧ a < 156 := by rcases q with q | q | q | q | q | q | q | q <;> omega
      clear q
      unfold fCr
      simp
      omega)
end BOR
