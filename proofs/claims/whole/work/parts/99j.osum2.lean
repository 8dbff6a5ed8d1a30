/-! ===== the reference's sum of an order ===== -/
section OSN
variable {σ : Hp} {nF nB nT : Nat} {R : Nat → Int32} {e : Env}
def SUm (a k : Nat) : Prop := a = 145 ∨ (a = 125 ∧ (k = 20 ∨ k = 38 ∨ k = 39 ∨ k = 53))
/-- the words of an order as the reference holds them -/
def OW9 (nF nB nT : Nat) (R : Nat → Int32) (e : Env) (σ : Hp) : Prop := SK σ ∧ zi σ 127 = R ∧ (R 1 = iN nF ∧ R 2 = iN nB ∧ R 3 = iN nT ∧ nF ≤ 4 ∧ nB ≤ 3 ∧ nT ≤ 6) ∧ (∀ k, k < 5 → zj σ 144 (k + 1) = Int32.toInt64 (e k)) ∧ (∀ f, f < 4 → e (5 + f) = if f < nF then R (17 + f) else -1) ∧ (∀ f, f < 3 → e (9 + f) = if f < nB then R (21 + f) else -1) ∧ ∀ f, f < 6 → e (12 + f) = if f < nT then R (24 + f) else -1
theorem OW9.ag {S : Nat → Nat → Prop} {σ1 : Hp} (h : OW9 nF nB nT R e σ) (E : Ag S σ σ1) (hs : ∀ a k, S a k → a ≠ 127 ∧ a ≠ 144) : OW9 nF nB nT R e σ1 := by
  obtain ⟨h1, h2, h3, h4, h5⟩ := h
  exact ⟨h1.ag E, (funext fun k => (E.2.2.2.2 127 k (fun q => (hs _ _ q).1 rfl)).1).trans h2, h3, fun k hk => ((E.2.2.2.2 144 (k + 1) (fun q => (hs _ _ q).2 rfl)).2).trans (h4 k hk), h5⟩
theorem sumOf9 {x c c1 q : Nat} {a : Sem} (h : OW9 nF nB nT R e σ) (h53 : zi σ 125 53 = 0) (hx : x + 1 < 96) (v0 : zi σ 154 x = iN c) (v1 : zi σ 154 (x + 1) = iN c1) (hc : c1 ≤ 400) (hs : RSeg (zi σ 136) (zi σ 137) (lfB false) c c1 q a) (hq : q ≤ 399) : ∃ v σ1, s_X9_sumOf 125 (iN x) σ = some (v, σ1) ∧ Ag SUm σ σ1 ∧ zi σ1 125 20 = 0 ∧ ((a e = none ∧ zi σ1 125 53 = 1) ∨ ∃ w, a e = some w ∧ zi σ1 125 53 = 0 ∧ v = Int64.toInt32 w) := by
  have lt := hs.1
  obtain ⟨m, hv⟩ := hs.val hq e
  obtain ⟨hS, h127, ⟨w1, w2, w3, hF, hB, hT⟩, h5, hf, hb, ht⟩ := id h
  have i53 := q_i125 (k := 53) hS
  rw [h53] at i53
  have r49 := q_r125_49 hS
  have ix : iN x + 1 = iN (x + 1) := iN_add x 1
  have l1 := q_ld154 (n := x) (by omega) hS
  rw [v0] at l1
  have l2 := q_ld154 (n := x + 1) hx hS
  rw [v1] at l2
  have ne : ¬ iN c = iN c1 := fun z => by have := (iN_inj (by omega) (by omega)).mp z; omega
  have w20 := q_wz125 (k := 20) (v := 1) (Or.inr rfl) hS
  have e1 : Ag SUm σ (zsi σ 125 20 1) := Ag.zsi (Or.inr ⟨rfl, Or.inl rfl⟩)
  have v20 : zi (zsi σ 125 20 1) 125 20 = 1 := zi_hit
  have z1 : ∀ b, b ≠ 125 → zi (zsi σ 125 20 1) b = zi σ b := fun b hb => zi_ne hb
  generalize zsi σ 125 20 1 = u1 at w20 e1 v20 z1
  have h1 : OW9 nF nB nT R e u1 := h.ag e1 (fun a k q => by unfold SUm at q; omega)
  have r49b := q_r125_49 h1.1
  have l1b := q_ld154 (n := x) (by omega) h1.1
  rw [z1 154 (by decide), v0] at l1b
  have l2b := q_ld154 (n := x + 1) hx h1.1
  rw [z1 154 (by decide), v1] at l2b
  have bk := q_ck125 h1.1
  have src := Osrc (fin := c1) h1.1 v20 h1.2.1 w1 w2 w3 hF hB hT h1.2.2.2.1 hf hb ht hc
  rw [z1 136 (by decide), z1 137 (by decide)] at src
  obtain ⟨u2, x2, e2, y2⟩ := reck9 h1.1 hc (by omega) hv src
  have e02 : Ag SUm σ u2 := e1.trans (e2.mono (fun a k q => by
    rcases q with q | ⟨p, q | q⟩
    · exact Or.inl q
    · exact Or.inr ⟨p, Or.inr (Or.inl q)⟩
    · exact Or.inr ⟨p, Or.inr (Or.inr (Or.inl q))⟩))
  have S2 := hS.ag e02
  have w20b := q_wz125 (k := 20) (v := 0) (Or.inl rfl) S2
  have e3 : Ag SUm σ (zsi u2 125 20 0) := e02.trans (Ag.zsi (Or.inr ⟨rfl, Or.inl rfl⟩))
  have S3 := hS.ag e3
  have i38 := q_i125 (k := 38) S3
  rw [zi_miss (by decide)] at i38
  have f20 : zi (zsi u2 125 20 0) 125 20 = 0 := zi_hit
  have j39 : zj (zsi u2 125 20 0) 125 39 = zj u2 125 39 := rfl
  generalize zsi u2 125 20 0 = u3 at w20b e3 S3 i38 f20 j39
  have fin : ∀ v, v = 0 ∨ v = 1 → zi u2 125 38 = v → s_X9_sumOf 125 (iN x) σ = some (Int64.toInt32 (zj u2 125 39), zsi u3 125 53 v) ∧ Ag SUm σ (zsi u3 125 53 v) ∧ zi (zsi u3 125 53 v) 125 20 = 0 ∧ zi (zsi u3 125 53 v) 125 53 = v := fun v hv e38 => by
    rw [e38] at i38
    have w53 := q_wz125 (k := 53) (v := v) hv S3
    have e4 : Ag SUm σ (zsi u3 125 53 v) := e3.trans (Ag.zsi (Or.inr ⟨rfl, Or.inr (Or.inr (Or.inr rfl))⟩))
    have j := q_j125 (k := 39) (hS.ag e4)
    rw [show zj (zsi u3 125 53 v) 125 39 = zj u2 125 39 from j39] at j
    refine ⟨?_, e4, (zi_miss (by decide)).trans f20, zi_hit⟩
    generalize zsi u3 125 53 v = u4 at w53 j
    unfold s_X9_sumOf
    rw [i53, bos, if_pos rfl, r49, bos, bos, l1, bos, bos, bos, ix, l2, bos, if_neg ne, w20, bos, r49b, bos, bos, l1b, bos, bos, bos, l2b, bos, bk, bos, x2, cbs, w20b, bos, i38, bos, w53, bos, j, bos]
  rcases y2 with ⟨y3, y4⟩ | ⟨w, y3, y4, y5⟩
  · obtain ⟨g1, g2, g3, g4⟩ := fin 1 (Or.inr rfl) y4
    exact ⟨_, _, g1, g2, g3, Or.inl ⟨y3, g4⟩⟩
  · obtain ⟨g1, g2, g3, g4⟩ := fin 0 (Or.inl rfl) y4
    exact ⟨_, _, g1, g2, g3, Or.inr ⟨w, y3, g4, by rw [y5]⟩⟩
end OSN
