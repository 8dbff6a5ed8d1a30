/-! ===== the class's reader follows the grammar: parts, chains ===== -/
theorem cbs {α β : Type} (v : α) (σ : Hp) (f : α → Hp → Option β) : cb (some (v, σ)) f = f v σ := by
  have h : (some (v, σ)).bind (fun p : α × Hp => f p.1 p.2) = f v σ := Option.bind_some _ _
  exact h
theorem bos {α β : Type} (a : α) (f : α → Option β) : (Option.some a).bind f = f a := by
  have h : (Option.some a).bind f = f a := Option.bind_some _ _
  exact h
section CQ
variable {σ : Hp} {tb : Nat → Nat} {L nT k q sc : Nat} {lw : Bool}
/-- what comes of a reader that began with sc steps at token k0 with q0 parts -/
def CRes (tb : Nat → Nat) (L nT : Nat) (lw : Bool) (sc : Nat) (σ : Hp) (k0 q0 : Nat) (o : Option (Int32 × Hp)) (r : Res) : Prop :=
  match r with
  | (k1, q1, some a) => ∃ σ1 sc1, o = some (1, σ1) ∧ Ag (Sp sc) σ σ1 ∧ CP tb L nT lw k1 q1 sc1 σ1 ∧ sc1 + k0 ≤ sc + k1 ∧ CSeg (zi σ1 104) sc sc1 (q1 - q0) a
  | (k1, _, none) => ∃ σ1, o = some (0, σ1) ∧ Ag (SpF sc) σ σ1 ∧ zi σ1 100 11 = iN (psN tb L k1)
/-- a reader does what the grammar's f says -/
def CFn (tb : Nat → Nat) (L nT : Nat) (lw : Bool) (f : Nat → Nat → Res) (run : Hp → Option (Int32 × Hp)) : Prop := ∀ k q sc σ, k ≤ nT → q ≤ 50 → sc ≤ k → CP tb L nT lw k q sc σ → CRes tb L nT lw sc σ k q (run σ) (f k q)
theorem CRes.fail (h : CP tb L nT lw k q sc σ) {s0 k0 q0 q1 : Nat} {σ0 : Hp} (e : Ag (Sp s0) σ0 σ) (hs : s0 ≤ sc) : CRes tb L nT lw s0 σ0 k0 q0 (some (0, zsi σ 100 11 (iN (psN tb L k)))) (k, q1, none) :=
  ⟨_, rfl, (agF e).trans ((failed8 h).1.mono (fun a k q => q.mono hs)), (failed8 h).2⟩
theorem num8now (h : CP tb L nT lw k q sc σ) (hk : k < nT) : s_X4_numberNow 100 σ = some (iN (nmN tb L k), σ) := by
  have hn := h.2.1.1
  have hL := h.2.1.2.1
  have i6 := q_i100 (k := 6) h.1
  rw [h.2.2.1] at i6
  have i5 := q_i100 (k := 5) h.1
  rw [h.2.1.2.2.2.1] at i5
  have f0 : ¬ iN k < 0 := iN_nn (by omega)
  have f1 : ¬ iN nT ≤ iN k := fun q => absurd ((iN_le (by omega) (by omega)).mp q) (by omega)
  have r := q_r100_2 h.1
  have l := q_ld103 (n := k) (by omega) h.1
  rw [(h.2.1.2.2.2.2.2.1 k hk).2.2.2] at l
  simp only [s_X4_numberNow, i6, i5, f0, f1, r, l, if_false, Option.bind_some]
theorem num8now_E (h : CP tb L nT lw nT q sc σ) : s_X4_numberNow 100 σ = some (0, σ) := by
  have hn := h.2.1.1
  have hL := h.2.1.2.1
  have i6 := q_i100 (k := 6) h.1
  rw [h.2.2.1] at i6
  have i5 := q_i100 (k := 5) h.1
  rw [h.2.1.2.2.2.1] at i5
  have f0 : ¬ iN nT < 0 := iN_nn (by omega)
  have f1 : iN nT ≤ iN nT := Int32.le_refl _
  simp only [s_X4_numberNow, i6, i5, f0, f1, if_true, if_false, Option.bind_some]
/-- a number is taken, if it is one from lo to hi -/
theorem takeNum8_t (h : CP tb L nT lw k q sc σ) (hk : k ≤ nT) {lo hi : Nat} (hl : lo ≤ hi) (hh : hi < 100000) (e : kdN tb L k = 256) (h1 : lo ≤ nmN tb L k) (h2 : nmN tb L k ≤ hi) : s_X4_takeNumber 100 (iN lo) (iN hi) σ = some (1, zsi σ 100 6 (iN (k + 1))) := by
  have hkl : k < nT := kd_lt h.2.1.kE hk e (by decide)
  have kk := q_ck100 h.1
  have kd := kind8 h hk
  rw [e] at kd
  have kd : s_X4_kind 100 σ = some (256, σ) := kd
  have nn := num8now h hkl
  have hm := nmN_le (tb := tb) (L := L) (k := k)
  have f1 : ¬ iN (nmN tb L k) < iN lo := fun q => absurd ((iN_lt (by omega) (by omega)).mp q) (by omega)
  have f2 : iN (nmN tb L k) ≤ iN hi := (iN_le (by omega) (by omega)).mpr h2
  have i6 := q_i100 (k := 6) h.1
  rw [h.2.2.1] at i6
  have w := q_w100 (k := 6) (v := iN (k + 1)) h.1
  have i1 : iN k + 1 = iN (k + 1) := iN_add k 1
  simp only [s_X4_takeNumber, kk, kd, nn, f1, f2, i6, i1, w, if_true, if_false, bos, cbs]
theorem takeNum8_f (h : CP tb L nT lw k q sc σ) (hk : k ≤ nT) {lo hi : Nat} (hh : hi < 100000) (hlo : lo < 100000) (e : ¬ (kdN tb L k = 256 ∧ lo ≤ nmN tb L k ∧ nmN tb L k ≤ hi)) : s_X4_takeNumber 100 (iN lo) (iN hi) σ = some (0, zsi σ 100 11 (iN (psN tb L k))) := by
  have kk := q_ck100 h.1
  have kd := kind8 h hk
  have fl := fail8 h hk
  have hlt := kdN_lt (L := L) (k := k) h.2.1.2.2.1
  have hm := nmN_le (tb := tb) (L := L) (k := k)
  by_cases c : kdN tb L k = 256
  · have hkl : k < nT := kd_lt h.2.1.kE hk c (by decide)
    rw [c] at kd
    have kd : s_X4_kind 100 σ = some (256, σ) := kd
    have nn := num8now h hkl
    by_cases c1 : nmN tb L k < lo
    · have f1 : iN (nmN tb L k) < iN lo := (iN_lt (by omega) (by omega)).mpr c1
      simp only [s_X4_takeNumber, s_X4_takeNumber_j26, kk, kd, nn, f1, fl, zbo_0, if_true, bos, cbs]
    · have f1 : ¬ iN (nmN tb L k) < iN lo := fun q => absurd ((iN_lt (by omega) (by omega)).mp q) (by omega)
      have f2 : ¬ iN (nmN tb L k) ≤ iN hi := fun q => e ⟨c, by omega, (iN_le (by omega) (by omega)).mp q⟩
      simp only [s_X4_takeNumber, s_X4_takeNumber_j26, kk, kd, nn, f1, f2, fl, zbo_0, if_true, if_false, bos, cbs]
  · have ne : ¬ iN (kdN tb L k) = 256 := fun q => c ((iN_inj (b := 256) (by omega) (by decide)).mp q)
    simp only [s_X4_takeNumber, s_X4_takeNumber_j26, kk, kd, ne, fl, zbo_0, if_false, bos, cbs]
/-- a step that pushes -/
theorem push_seg {s : Nat → Int32} {sc w o : Nat} {f : Env → Int64} (hs : s sc = stW w o) (h : ∀ (s' : Nat → Int32), s' sc = stW w o → ∀ (e : Env) (st : List Int64), st.length < 64 → cStep s' e sc st = some (sc + 1, f e :: st)) : CSeg s sc (sc + 1) 1 (fun e => some (f e)) := c_one (fun s' hs' e st hl => h s' (hs'.trans hs) e st hl)
theorem numSeg {s : Nat → Int32} {n : Nat} (hn : n < 1100) (hs : s sc = stW n 0) : CSeg s sc (sc + 1) 1 (numS n) := push_seg hs (fun s' hs' e st hl => by
  unfold cStep
  rw [hs', (stW_ok hn (by omega)).1, (stW_ok hn (by omega)).2, if_pos (show iN 0 = 0 from rfl), if_pos hl])
theorem wordSeg {s : Nat → Int32} {n : Nat} (hn : n < 18) (hs : s sc = stW n 1) : CSeg s sc (sc + 1) 1 (wordS n) := push_seg hs (fun s' hs' e st hl => by
  unfold cStep
  have a : ¬ iN n < 0 := iN_nn (by omega)
  have b : iN n < 18 := (iN_lt (b := 18) (by omega) (by decide)).mpr hn
  rw [hs', (stW_ok (by omega) (by omega)).1, (stW_ok (by omega) (by omega)).2, if_neg (show ¬ iN 1 = 0 by decide), if_pos (show iN 1 = 1 from rfl), if_pos ⟨hl, a, b⟩, iN_nat (by omega)])
/-- one step more, when a step was added -/
theorem added8 (h : CP tb L nT lw k q sc σ) (hs : sc < 600) (o w : Nat) : ∃ σ1, s_X4_addStep 100 (iN o) (iN w) σ = some ((), σ1) ∧ Ag (Sp sc) σ σ1 ∧ CP tb L nT lw k q (sc + 1) σ1 ∧ zi σ1 104 sc = stW w o :=
  ⟨_, addStep8 h hs o w, (h.step _).1, (h.step _).2, zi_hit⟩
end CQ
