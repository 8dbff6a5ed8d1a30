/-! ===== the reference's reader on its way ===== -/
section RSS
variable {σ : Hp} {tb : Nat → Nat} {L nT k b q c n o : Nat} {lw : Bool}
def RS (tb : Nat → Nat) (L nT : Nat) (lw : Bool) (k b q c n o : Nat) (σ : Hp) : Prop := RT tb L nT k σ ∧ zi σ 125 19 = 0 ∧ zi σ 125 20 = bI (!lw) ∧ zi σ 125 26 = iN q ∧ zi σ 125 23 = iN c ∧ zi σ 125 29 = iN n ∧ zi σ 125 30 = iN o ∧ PV n σ ∧ c + wtF (zi σ 138) n ≤ b ∧ n ≤ b ∧ b ≤ nT
def Sm9 (c0 n0 a k : Nat) : Prop := (a = 125 ∧ (k = 14 ∨ k = 15 ∨ k = 16 ∨ k = 17 ∨ k = 18 ∨ k = 19 ∨ k = 23 ∨ k = 26 ∨ k = 29 ∨ k = 30)) ∨ ((a = 136 ∨ a = 137) ∧ c0 ≤ k) ∨ ((a = 138 ∨ a = 139) ∧ n0 ≤ k)
theorem Sm9.mono {c0 n0 c1 n1 a k : Nat} (h : Sm9 c1 n1 a k) (hc : c0 ≤ c1) (hn : n0 ≤ n1) : Sm9 c0 n0 a k := by
  unfold Sm9 at *
  omega
theorem Sn9.sm {c0 n0 a k : Nat} (h : Sn9 a k) : Sm9 c0 n0 a k := by
  unfold Sn9 at h
  unfold Sm9
  omega
theorem RS.le (h : RS tb L nT lw k b q c n o σ) : k ≤ nT ∧ nT ≤ L ∧ L ≤ 400 := ⟨h.1.2.2.2.1, h.1.2.2.1.1, h.1.2.1.1⟩
theorem RS.next (h : RS tb L nT lw k b q c n o σ) (hk : k < nT) : ∃ σ1, s_X9_next 125 σ = some ((), σ1) ∧ Ag Sn9 σ σ1 ∧ RS tb L nT lw (k + 1) b q c n o σ1 := by
  obtain ⟨h1, h2, h3, h4, h5, h6, h7, h8, h9, h10, h11⟩ := h
  obtain ⟨σ1, a, e, r⟩ := next9k h1 hk
  have g : ∀ j, (j ≠ 14 ∧ j ≠ 15 ∧ j ≠ 16 ∧ j ≠ 17) → zi σ1 125 j = zi σ 125 j := fun j hj => (e.2.2.2.2 125 j (by unfold Sn9; omega)).1
  have g2 : zi σ1 138 = zi σ 138 := funext fun i => (e.2.2.2.2 138 i (by unfold Sn9; omega)).1
  have g3 : zi σ1 139 = zi σ 139 := funext fun i => (e.2.2.2.2 139 i (by unfold Sn9; omega)).1
  exact ⟨σ1, a, e, r, by rw [g 19 (by omega)]; exact h2, by rw [g 20 (by omega)]; exact h3, by rw [g 26 (by omega)]; exact h4, by rw [g 23 (by omega)]; exact h5, by rw [g 29 (by omega)]; exact h6, by rw [g 30 (by omega)]; exact h7, h8.congr (fun i _ => by rw [g2, g3]; exact ⟨rfl, rfl⟩), by rw [g2]; exact h9, h10, h11⟩
theorem RS.must (h : RS tb L nT lw k b q c n o σ) (hk : k < nT) : ∃ σ1, s_X9_must 125 1 σ = some ((), σ1) ∧ Ag Sn9 σ σ1 ∧ RS tb L nT lw (k + 1) b q c n o σ1 := by
  obtain ⟨σ1, a, e, r⟩ := h.next hk
  have i19 := q_i125 (k := 19) h.1.1
  rw [h.2.1] at i19
  have bk := q_ck125 h.1.1
  exact ⟨σ1, by simp only [s_X9_must, s_X9_must_j24, i19, bk, a, z10', bos, cbs, if_true, if_false], e, r⟩
theorem RS.push (h : RS tb L nT lw k b q c n o σ) {ob a : Nat} (h1 : 20 ≤ ob) (h2 : ob ≤ 32) (ha : (ob = 29 ∨ ob = 30) → a < 400) (hb : b + 1 ≤ nT) : ∃ σ1, s_X9_push 125 (iN ob) (iN a) σ = some ((), σ1) ∧ Ag (Sm9 c n) σ σ1 ∧ RS tb L nT lw k (b + 1) q c (n + 1) o σ1 ∧ zi σ1 138 n = iN ob ∧ zi σ1 139 n = iN a ∧ zi σ1 136 = zi σ 136 ∧ zi σ1 137 = zi σ 137 ∧ (∀ i, i ≠ n → zi σ1 138 i = zi σ 138 i ∧ zi σ1 139 i = zi σ 139 i) := by
  have hl := h.le
  obtain ⟨g1, g2, g3, g4, g5, g6, g7, g8, g9, g10, g11⟩ := h
  have p := push9 g1.1 g6 (by omega) (iN ob) (iN a)
  have e : Ag (Sm9 c n) σ (zsi (zsi (zsi σ 138 n (iN ob)) 139 n (iN a)) 125 29 (iN (n + 1))) := ((Ag.zsi (by unfold Sm9; omega)).trans (Ag.zsi (by unfold Sm9; omega))).trans (Ag.zsi (by unfold Sm9; omega))
  have e2 : Ag (fun a j => (a = 125 ∧ j = 29) ∨ (138 ≤ a ∧ a ≤ 139)) σ (zsi (zsi (zsi σ 138 n (iN ob)) 139 n (iN a)) 125 29 (iN (n + 1))) := ((Ag.zsi (by omega)).trans (Ag.zsi (by omega))).trans (Ag.zsi (by omega))
  have v29 : zi (zsi (zsi (zsi σ 138 n (iN ob)) 139 n (iN a)) 125 29 (iN (n + 1))) 125 29 = iN (n + 1) := zi_hit
  have v138 : zi (zsi (zsi (zsi σ 138 n (iN ob)) 139 n (iN a)) 125 29 (iN (n + 1))) 138 = up (zi σ 138) n (iN ob) := by rw [zi_ne (by decide), zi_ne (by decide), zi_up]
  have v139 : zi (zsi (zsi (zsi σ 138 n (iN ob)) 139 n (iN a)) 125 29 (iN (n + 1))) 139 = up (zi σ 139) n (iN a) := by rw [zi_ne (by decide), zi_up, zi_ne (by decide)]
  have v136 : zi (zsi (zsi (zsi σ 138 n (iN ob)) 139 n (iN a)) 125 29 (iN (n + 1))) 136 = zi σ 136 := by rw [zi_ne (by decide), zi_ne (by decide), zi_ne (by decide)]
  have v137 : zi (zsi (zsi (zsi σ 138 n (iN ob)) 139 n (iN a)) 125 29 (iN (n + 1))) 137 = zi σ 137 := by rw [zi_ne (by decide), zi_ne (by decide), zi_ne (by decide)]
  generalize zsi (zsi (zsi σ 138 n (iN ob)) 139 n (iN a)) 125 29 (iN (n + 1)) = σ1 at p e e2 v29 v138 v139 v136 v137
  have g : ∀ j, j ≠ 29 → zi σ1 125 j = zi σ 125 j := fun j hj => (e2.2.2.2.2 125 j (by omega)).1
  have at138 : zi σ1 138 n = iN ob := by rw [v138]; exact up_eq
  refine ⟨σ1, p, e, ⟨g1.ag e2 (fun a k z => by omega), by rw [g 19 (by omega)]; exact g2, by rw [g 20 (by omega)]; exact g3, by rw [g 26 (by omega)]; exact g4, by rw [g 23 (by omega)]; exact g5, v29, by rw [g 30 (by omega)]; exact g7, fun i hi => ?_, ?_, by omega, hb⟩, at138, by rw [v139]; exact up_eq, v136, v137, fun i hi => by rw [v138, v139, up_ne hi, up_ne hi]; exact ⟨rfl, rfl⟩⟩
  · by_cases z : i = n
    · subst z
      exact ⟨ob, h1, h2, at138, fun z => ⟨a, ha z, by rw [v139]; exact up_eq⟩⟩
    · obtain ⟨o2, x1, x2, x3, x4⟩ := g8 i (by omega)
      exact ⟨o2, x1, x2, by rw [v138, up_ne z]; exact x3, fun y => by rw [v139, up_ne z]; exact x4 y⟩
  · rw [wtF_s at138 (by omega), wtF_congr n (fun i hi => by rw [v138, up_ne (by omega)])]
    split <;> omega
theorem RS.emit (h : RS tb L nT lw k b q c n o σ) (hb : b + 1 ≤ nT) (op ar : Int32) : ∃ σ1, s_X9_emit 125 op ar σ = some ((), σ1) ∧ Ag (Sm9 c n) σ σ1 ∧ RS tb L nT lw k (b + 1) q (c + 1) n o σ1 ∧ zi σ1 136 = up (zi σ 136) c op ∧ zi σ1 137 = up (zi σ 137) c ar ∧ zi σ1 138 = zi σ 138 ∧ zi σ1 139 = zi σ 139 := by
  have hl := h.le
  obtain ⟨g1, g2, g3, g4, g5, g6, g7, g8, g9, g10, g11⟩ := h
  have p := emit9 g1.1 g5 (by omega) op ar
  have e : Ag (Sm9 c n) σ (zsi (zsi (zsi σ 136 c op) 137 c ar) 125 23 (iN (c + 1))) := ((Ag.zsi (by unfold Sm9; omega)).trans (Ag.zsi (by unfold Sm9; omega))).trans (Ag.zsi (by unfold Sm9; omega))
  have e2 : Ag (fun a j => (a = 125 ∧ j = 23) ∨ (136 ≤ a ∧ a ≤ 137)) σ (zsi (zsi (zsi σ 136 c op) 137 c ar) 125 23 (iN (c + 1))) := ((Ag.zsi (by omega)).trans (Ag.zsi (by omega))).trans (Ag.zsi (by omega))
  have v23 : zi (zsi (zsi (zsi σ 136 c op) 137 c ar) 125 23 (iN (c + 1))) 125 23 = iN (c + 1) := zi_hit
  have v136 : zi (zsi (zsi (zsi σ 136 c op) 137 c ar) 125 23 (iN (c + 1))) 136 = up (zi σ 136) c op := by rw [zi_ne (by decide), zi_ne (by decide), zi_up]
  have v137 : zi (zsi (zsi (zsi σ 136 c op) 137 c ar) 125 23 (iN (c + 1))) 137 = up (zi σ 137) c ar := by rw [zi_ne (by decide), zi_up, zi_ne (by decide)]
  have v138 : zi (zsi (zsi (zsi σ 136 c op) 137 c ar) 125 23 (iN (c + 1))) 138 = zi σ 138 := by rw [zi_ne (by decide), zi_ne (by decide), zi_ne (by decide)]
  have v139 : zi (zsi (zsi (zsi σ 136 c op) 137 c ar) 125 23 (iN (c + 1))) 139 = zi σ 139 := by rw [zi_ne (by decide), zi_ne (by decide), zi_ne (by decide)]
  generalize zsi (zsi (zsi σ 136 c op) 137 c ar) 125 23 (iN (c + 1)) = σ1 at p e e2 v23 v136 v137 v138 v139
  have g : ∀ j, j ≠ 23 → zi σ1 125 j = zi σ 125 j := fun j hj => (e2.2.2.2.2 125 j (by omega)).1
  exact ⟨σ1, p, e, ⟨g1.ag e2 (fun a k z => by omega), by rw [g 19 (by omega)]; exact g2, by rw [g 20 (by omega)]; exact g3, by rw [g 26 (by omega)]; exact g4, v23, by rw [g 29 (by omega)]; exact g6, by rw [g 30 (by omega)]; exact g7, g8.congr (fun i _ => by rw [v138, v139]; exact ⟨rfl, rfl⟩), by rw [v138]; omega, by omega, hb⟩, v136, v137, v138, v139⟩
/-- a field of the reader's is set -/
theorem RS.set (h : RS tb L nT lw k b q c n o σ) {j : Nat} {v : Int32} (hj : j = 26 ∨ j = 30) : Ag (Sm9 c n) σ (zsi σ 125 j v) ∧ (∀ q1 o1, (j = 26 → v = iN q1 ∧ o1 = o) → (j = 30 → v = iN o1 ∧ q1 = q) → RS tb L nT lw k b q1 c n o1 (zsi σ 125 j v)) ∧ zi (zsi σ 125 j v) 136 = zi σ 136 ∧ zi (zsi σ 125 j v) 137 = zi σ 137 ∧ zi (zsi σ 125 j v) 138 = zi σ 138 ∧ zi (zsi σ 125 j v) 139 = zi σ 139 := by
  obtain ⟨g1, g2, g3, g4, g5, g6, g7, g8, g9, g10, g11⟩ := h
  have e2 : Ag (fun a i => a = 125 ∧ i = j) σ (zsi σ 125 j v) := Ag.zsi ⟨rfl, rfl⟩
  have v138 : zi (zsi σ 125 j v) 138 = zi σ 138 := zi_ne (by decide)
  have v139 : zi (zsi σ 125 j v) 139 = zi σ 139 := zi_ne (by decide)
  have vj : zi (zsi σ 125 j v) 125 j = v := zi_hit
  refine ⟨Ag.zsi (by unfold Sm9; omega), fun q1 o1 h26 h30 => ?_, zi_ne (by decide), zi_ne (by decide), v138, v139⟩
  have g : ∀ i, i ≠ j → zi (zsi σ 125 j v) 125 i = zi σ 125 i := fun i hi => (e2.2.2.2.2 125 i (by omega)).1
  refine ⟨g1.ag e2 (fun a k z => by omega), by rw [g 19 (by omega)]; exact g2, by rw [g 20 (by omega)]; exact g3, ?_, by rw [g 23 (by omega)]; exact g5, by rw [g 29 (by omega)]; exact g6, ?_, g8.congr (fun i _ => by rw [v138, v139]; exact ⟨rfl, rfl⟩), by rw [v138]; exact g9, g10, g11⟩
  · by_cases c : j = 26
    · subst c
      rw [vj]
      exact (h26 rfl).1
    · rw [g 26 (by omega), (h30 (by omega)).2]
      exact g4
  · by_cases c : j = 30
    · subst c
      rw [vj]
      exact (h30 rfl).1
    · rw [g 30 (by omega), (h26 (by omega)).2]
      exact g7
/-- the top of the pile is taken away -/
theorem RS.pop (h : RS tb L nT lw k b q c (n + 1) o σ) : wrI 9 σ 125 29 (iN (n + 1) - 1) = some (zsi σ 125 29 (iN n)) ∧ Ag (Sm9 c n) σ (zsi σ 125 29 (iN n)) ∧ RS tb L nT lw k b q c n o (zsi σ 125 29 (iN n)) ∧ zi (zsi σ 125 29 (iN n)) 136 = zi σ 136 ∧ zi (zsi σ 125 29 (iN n)) 137 = zi σ 137 ∧ zi (zsi σ 125 29 (iN n)) 138 = zi σ 138 ∧ zi (zsi σ 125 29 (iN n)) 139 = zi σ 139 := by
  obtain ⟨g1, g2, g3, g4, g5, g6, g7, g8, g9, g10, g11⟩ := h
  have d : iN (n + 1) - 1 = iN n := iN_sub (b := 1) (by omega)
  have e2 : Ag (fun a i => a = 125 ∧ i = 29) σ (zsi σ 125 29 (iN n)) := Ag.zsi ⟨rfl, rfl⟩
  have v138 : zi (zsi σ 125 29 (iN n)) 138 = zi σ 138 := zi_ne (by decide)
  have v139 : zi (zsi σ 125 29 (iN n)) 139 = zi σ 139 := zi_ne (by decide)
  have vj : zi (zsi σ 125 29 (iN n)) 125 29 = iN n := zi_hit
  have g : ∀ i, i ≠ 29 → zi (zsi σ 125 29 (iN n)) 125 i = zi σ 125 i := fun i hi => (e2.2.2.2.2 125 i (by omega)).1
  have hw : wtF (zi σ 138) n ≤ wtF (zi σ 138) (n + 1) := wtF_mono (po := zi σ 138) n 1
  rw [d]
  exact ⟨q_w125 g1.1, Ag.zsi (by unfold Sm9; omega), ⟨g1.ag e2 (fun a k z => by omega), by rw [g 19 (by omega)]; exact g2, by rw [g 20 (by omega)]; exact g3, by rw [g 26 (by omega)]; exact g4, by rw [g 23 (by omega)]; exact g5, vj, by rw [g 30 (by omega)]; exact g7, fun i hi => (g8.congr (fun i _ => by rw [v138, v139]; exact ⟨rfl, rfl⟩) : PV (n + 1) (zsi σ 125 29 (iN n))) i (by omega), by rw [v138]; omega, by omega, g11⟩, zi_ne (by decide), zi_ne (by decide), v138, v139⟩
/-- what binds at least so much is settled -/
theorem RS.settle {least c0 t : Nat} (h : RS tb L nT lw k b q c (n + t) o σ) (hl : least ≤ 6) (hP : Pnd least c0 n t σ) (hK : KB least n σ) (hc : c0 ≤ c) :
    ∃ σ1 c1, s_X9_settle 125 (iN least) σ = some ((), σ1) ∧ Ag (Sm9 c0 n) σ σ1 ∧ RS tb L nT lw k b q c1 n o σ1 ∧ c ≤ c1 ∧ (zi σ1 136, zi σ1 137, c1) = setN1 (zi σ 138) (zi σ 139) n t (zi σ 136, zi σ 137, c) ∧ zi σ1 138 = zi σ 138 ∧ zi σ1 139 = zi σ 139 := by
  have hle := h.le
  obtain ⟨g1, g2, g3, g4, g5, g6, g7, g8, g9, g10, g11⟩ := h
  obtain ⟨σ1, x1, x2, xj, x3, x4, x5, x6⟩ := settle_l hl t c σ g1.1 g5 g6 (hP.mono (Nat.le_refl _) (Nat.zero_le _)) hK (by omega) (by omega)
  have z138 : zi σ1 138 = zi σ 138 := funext fun i => (x2.2.2.2.2 138 i (by unfold Sst; omega)).1
  have z139 : zi σ1 139 = zi σ 139 := funext fun i => (x2.2.2.2.2 139 i (by unfold Sst; omega)).1
  have lo := setN1_low (po := zi σ 138) (pa := zi σ 139) (n := n) (b := c0) t (zi σ 136, zi σ 137, c) hc (fun i q1 q2 hj => by
    obtain ⟨o, a1, a2, a3, -, a5⟩ := hP i q1 q2
    rw [a3] at hj
    obtain ⟨a, b1, b2, b3⟩ := a5 (hj.imp (fun z => (iN_inj (b := 29) (by omega) (by decide)).mp z) (fun z => (iN_inj (b := 30) (by omega) (by decide)).mp z))
    rw [b3, iN_nat (by omega)]
    exact b1)
  have cc := setN1_c (po := zi σ 138) (pa := zi σ 139) (n := n) t (zi σ 136, zi σ 137, c) (fun i q1 q2 => by
    obtain ⟨o, a1, a2, a3, -, -⟩ := hP i q1 q2
    rw [a3]
    exact (iN_lt (b := 31) (by omega) (by decide)).mpr (by omega))
  generalize setN1 (zi σ 138) (zi σ 139) n t (zi σ 136, zi σ 137, c) = x at x4 x5 x6 lo cc
  obtain ⟨xo, xa, xc⟩ := x
  have x4 : zi σ1 136 = xo := x4
  have x5 : zi σ1 137 = xa := x5
  have x6 : zi σ1 125 23 = iN xc := x6
  have cc : xc + wtF (zi σ 138) n = c + wtF (zi σ 138) (n + t) := cc
  have lo1 : c ≤ xc := lo.1
  have lo2 : ∀ y, y < c0 → xo y = zi σ 136 y ∧ xa y = zi σ 137 y := lo.2
  have e : Ag (Sm9 c0 n) σ σ1 := ⟨x2.1, x2.2.1, x2.2.2.1, x2.2.2.2.1, fun a j hn => by
    by_cases s : Sst a j
    · rcases s with ⟨rfl, s⟩ | rfl | rfl
      · exact absurd (by unfold Sm9; omega) hn
      · have : j < c0 := by unfold Sm9 at hn; omega
        exact ⟨by rw [x4]; exact (lo2 j this).1, by rw [xj]⟩
      · have : j < c0 := by unfold Sm9 at hn; omega
        exact ⟨by rw [x5]; exact (lo2 j this).2, by rw [xj]⟩
    · exact x2.2.2.2.2 a j s⟩
  have g : ∀ j, j ≠ 23 → j ≠ 29 → zi σ1 125 j = zi σ 125 j := fun j h1 h2 => (x2.2.2.2.2 125 j (by unfold Sst; omega)).1
  refine ⟨σ1, xc, ?_, e, ⟨g1.ag x2 (fun a k z => by unfold Sst at z; omega), by rw [g 19 (by omega) (by omega)]; exact g2, by rw [g 20 (by omega) (by omega)]; exact g3, by rw [g 26 (by omega) (by omega)]; exact g4, x6, x3, by rw [g 30 (by omega) (by omega)]; exact g7, fun i hi => (g8.congr (fun i _ => by rw [z138, z139]; exact ⟨rfl, rfl⟩) : PV (n + t) σ1) i (by omega), by rw [z138]; omega, by omega, g11⟩, lo1, by rw [x4, x5], z138, z139⟩
  simp only [s_X9_settle, x1, cbs]
end RSS
