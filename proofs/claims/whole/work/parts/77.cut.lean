/-! ===== the class cuts a text into tokens; its reader's small steps ===== -/
section CU
variable {σ : Hp} {tb : Nat → Nat} {L nT k q sc : Nat} {lw : Bool}
def Sc8 (a k : Nat) : Prop := (a = 100 ∧ k = 5) ∨ (101 ≤ a ∧ a ≤ 103)
def Tj8 (tb : Nat → Nat) (L j : Nat) (σ : Hp) : Prop := psN tb L j < L ∧ zi σ 101 j = iN (kdN tb L j) ∧ zi σ 102 j = iN (psN tb L j) ∧ zi σ 103 j = iN (nmN tb L j)
theorem addTok8 (hS : SK σ) {t : Nat} {a p n : Int32} (ht : t < 400) (h5 : zi σ 100 5 = iN t) :
    s_X4_addToken 100 a p n σ = some ((), zsi (zsi (zsi (zsi σ 101 t a) 102 t p) 103 t n) 100 5 (iN (t + 1))) := by
  have i5 := q_i100 (k := 5) hS
  rw [h5] at i5
  have f : ¬ 400 ≤ iN t := fun q => absurd ((iN_le (a := 400) (by decide) (by omega)).mp q) (by omega)
  have r0 := q_r100_0 hS
  have s1 := q_st101 (n := t) (v := a) (by omega) hS
  have S1 : SK (zsi σ 101 t a) := hS
  have i5a := q_i100 (k := 5) S1
  rw [zi_ne (by decide), h5] at i5a
  have r1 := q_r100_1 S1
  have s2 := q_st102 (n := t) (v := p) (by omega) S1
  have S2 : SK (zsi (zsi σ 101 t a) 102 t p) := hS
  have i5b := q_i100 (k := 5) S2
  rw [zi_ne (by decide), zi_ne (by decide), h5] at i5b
  have r2 := q_r100_2 S2
  have s3 := q_st103 (n := t) (v := n) (by omega) S2
  have S3 : SK (zsi (zsi (zsi σ 101 t a) 102 t p) 103 t n) := hS
  have i5c := q_i100 (k := 5) S3
  rw [zi_ne (by decide), zi_ne (by decide), zi_ne (by decide), h5] at i5c
  have w := q_w100 (k := 5) (v := iN (t + 1)) S3
  have i1 : iN t + 1 = iN (t + 1) := iN_add t 1
  simp only [s_X4_addToken, i5, f, r0, s1, i5a, r1, s2, i5b, r2, s3, i5c, i1, w, if_false, Option.bind_some]
theorem Tj8.ag {j t : Nat} {S : Nat → Nat → Prop} {σ1 : Hp} (h : Tj8 tb L j σ) (e : Ag S σ σ1) (hs : ∀ a, 101 ≤ a → a ≤ 103 → S a j → t ≤ j) (hj : j < t) : Tj8 tb L j σ1 := by
  obtain ⟨h1, h2, h3, h4⟩ := h
  exact ⟨h1, by rw [(e.2.2.2.2 101 j (fun q => by have := hs 101 (by omega) (by omega) q; omega)).1]; exact h2, by rw [(e.2.2.2.2 102 j (fun q => by have := hs 102 (by omega) (by omega) q; omega)).1]; exact h3, by rw [(e.2.2.2.2 103 j (fun q => by have := hs 103 (by omega) (by omega) q; omega)).1]; exact h4⟩
theorem b7_mx (hL : L ≤ 400) {i : Nat} (hi : i < L) : (if iN i + 1 < iN (teN tb L i) then iN (teN tb L i) else iN i + 1) = iN (teN tb L i) := by
  have te := teN_le (tb := tb) hi
  have i1 : iN i + 1 = iN (i + 1) := iN_add i 1
  rw [i1]
  by_cases c : i + 1 < teN tb L i
  · rw [if_pos ((iN_lt (by omega) (by omega)).mpr c)]
  · rw [if_neg (fun q => c ((iN_lt (by omega) (by omega)).mp q)), show i + 1 = teN tb L i by omega]
theorem b7_blank (hS : SK σ) (hB : TB8 tb σ) (hL : L ≤ 400) {i : Nat} (hi : i < L) (c : tb i = 32) : s_X4_cutIntoTokens_b7 100 (some 98) (iN L) (iN i) σ = some (Sum.inl (100, some 98, iN L, iN (teN tb L i)), σ) := by
  have f1 : ¬ iN L ≤ iN i := fun q => absurd ((iN_le (by omega) (by omega)).mp q) (by omega)
  have k98 := q_ck98 hS
  have b := byte8 hS hB (i := i) (by omega)
  have e := eot8 hS hB hL hi
  have mx := b7_mx (tb := tb) hL hi
  have a1 := letter8_f (σ := σ) (hB.1 i) (by rw [c]; decide)
  have a2 := digit8_f (σ := σ) (hB.1 i) (by rw [c]; decide)
  have q1 : iN (tb i) = 32 := by rw [c]; rfl
  have q0 : (0 : Int32) = 0 := rfl
  unfold s_X4_cutIntoTokens_b7
  rw [if_neg f1, Option.bind_some, k98, Option.bind_some, b, cb_some, e, cb_some, a1, cb_some, if_pos q0, a2, cb_some, if_pos q0, if_pos q1]
  unfold s_X4_cutIntoTokens_j92
  rw [mx]
theorem b7_sign (hS : SK σ) (hB : TB8 tb σ) (hL : L ≤ 400) {i t : Nat} (hi : i < L) (ht : t < 400) (h5 : zi σ 100 5 = iN t) (c0 : clsN (tb i) = 0) (c : tb i ≠ 32) : s_X4_cutIntoTokens_b7 100 (some 98) (iN L) (iN i) σ = some (Sum.inl (100, some 98, iN L, iN (teN tb L i)), zsi (zsi (zsi (zsi σ 101 t (iN (tb i))) 102 t (iN i)) 103 t 0) 100 5 (iN (t + 1))) := by
  have f1 : ¬ iN L ≤ iN i := fun q => absurd ((iN_le (by omega) (by omega)).mp q) (by omega)
  have k98 := q_ck98 hS
  have b := byte8 hS hB (i := i) (by omega)
  have e := eot8 hS hB hL hi
  have mx := b7_mx (tb := tb) hL hi
  have hb := hB.1 i
  have a1 := letter8_f (σ := σ) (hB.1 i) (by omega)
  have a2 := digit8_f (σ := σ) (hB.1 i) (by omega)
  have q1 : ¬ iN (tb i) = 32 := fun q => c ((iN_inj (b := 32) (by omega) (by decide)).mp q)
  have kk := q_ck100 hS
  have at8 := addTok8 (a := iN (tb i)) (p := iN i) (n := 0) hS ht h5
  generalize zsi (zsi (zsi (zsi σ 101 t (iN (tb i))) 102 t (iN i)) 103 t 0) 100 5 (iN (t + 1)) = u at at8 ⊢
  have q0 : (0 : Int32) = 0 := rfl
  unfold s_X4_cutIntoTokens_b7
  rw [if_neg f1, Option.bind_some, k98, Option.bind_some, b, cb_some, e, cb_some, a1, cb_some, if_pos q0, a2, cb_some, if_pos q0, if_neg q1, kk, Option.bind_some, at8, cb_some]
  unfold s_X4_cutIntoTokens_j92
  rw [mx]
theorem b7_word (hS : SK σ) (hB : TB8 tb σ) (hL : L ≤ 400) {i t : Nat} (hi : i < L) (ht : t < 400) (h5 : zi σ 100 5 = iN t) (c : clsN (tb i) = 1) : s_X4_cutIntoTokens_b7 100 (some 98) (iN L) (iN i) σ = some (Sum.inl (100, some 98, iN L, iN (teN tb L i)), zsi (zsi (zsi (zsi σ 101 t (iN (kindN tb L i))) 102 t (iN i)) 103 t 0) 100 5 (iN (t + 1))) := by
  have f1 : ¬ iN L ≤ iN i := fun q => absurd ((iN_le (by omega) (by omega)).mp q) (by omega)
  have k98 := q_ck98 hS
  have b := byte8 hS hB (i := i) (by omega)
  have e := eot8 hS hB hL hi
  have mx := b7_mx (tb := tb) hL hi
  have a1 := letter8_t (σ := σ) c
  have w := word8 hS hB hL hi c
  have kk := q_ck100 hS
  have at8 := addTok8 (a := iN (kindN tb L i)) (p := iN i) (n := 0) hS ht h5
  generalize zsi (zsi (zsi (zsi σ 101 t (iN (kindN tb L i))) 102 t (iN i)) 103 t 0) 100 5 (iN (t + 1)) = u at at8 ⊢
  simp only [s_X4_cutIntoTokens_b7, s_X4_cutIntoTokens_j92, f1, k98, b, e, a1, w, kk, at8, mx, z10', if_true, if_false, bind_ok, Option.bind_some, cb_some]
theorem b7_num (hS : SK σ) (hB : TB8 tb σ) (hL : L ≤ 400) {i t : Nat} (hi : i < L) (ht : t < 400) (h5 : zi σ 100 5 = iN t) (c : clsN (tb i) = 2) : s_X4_cutIntoTokens_b7 100 (some 98) (iN L) (iN i) σ = some (Sum.inl (100, some 98, iN L, iN (teN tb L i)), zsi (zsi (zsi (zsi σ 101 t 256) 102 t (iN i)) 103 t (iN (nmbN tb L i))) 100 5 (iN (t + 1))) := by
  have f1 : ¬ iN L ≤ iN i := fun q => absurd ((iN_le (by omega) (by omega)).mp q) (by omega)
  have k98 := q_ck98 hS
  have b := byte8 hS hB (i := i) (by omega)
  have e := eot8 hS hB hL hi
  have mx := b7_mx (tb := tb) hL hi
  have a1 := letter8_f (σ := σ) (hB.1 i) (by omega)
  have a2 := digit8_t (σ := σ) c
  have w := num8 hS hB hL hi c
  have kk := q_ck100 hS
  have at8 := addTok8 (a := 256) (p := iN i) (n := iN (nmbN tb L i)) hS ht h5
  generalize zsi (zsi (zsi (zsi σ 101 t 256) 102 t (iN i)) 103 t (iN (nmbN tb L i))) 100 5 (iN (t + 1)) = u at at8 ⊢
  have q0 : (0 : Int32) = 0 := rfl
  unfold s_X4_cutIntoTokens_b7
  rw [if_neg f1, Option.bind_some, k98, Option.bind_some, b, cb_some, e, cb_some, a1, cb_some, if_pos q0, a2, cb_some, if_neg z10', w, cb_some, kk, Option.bind_some, at8, cb_some]
  unfold s_X4_cutIntoTokens_j92
  rw [mx]
theorem tok_step (hS : SK σ) (hB : TB8 tb σ) (hL : L ≤ 400) {i t : Nat} (hi : i < L) (ht : t ≤ i) (h5 : zi σ 100 5 = iN t) (hps : psN tb L t = skN tb L i) (hj : ∀ j, j < t → Tj8 tb L j σ) :
    ∃ t2 σ1, s_X4_cutIntoTokens_b7 100 (some 98) (iN L) (iN i) σ = some (Sum.inl (100, some 98, iN L, iN (teN tb L i)), σ1) ∧ Ag Sc8 σ σ1 ∧ t2 ≤ teN tb L i ∧ zi σ1 100 5 = iN t2 ∧ psN tb L t2 = skN tb L (teN tb L i) ∧ ∀ j, j < t2 → Tj8 tb L j σ1 := by
  have te := teN_le (tb := tb) hi
  have added : ∀ (a n : Int32), tb i ≠ 32 → iN (kindN tb L i) = a → iN (nmbN tb L i) = n → s_X4_cutIntoTokens_b7 100 (some 98) (iN L) (iN i) σ = some (Sum.inl (100, some 98, iN L, iN (teN tb L i)), zsi (zsi (zsi (zsi σ 101 t a) 102 t (iN i)) 103 t n) 100 5 (iN (t + 1))) → ∃ t2 σ1, s_X4_cutIntoTokens_b7 100 (some 98) (iN L) (iN i) σ = some (Sum.inl (100, some 98, iN L, iN (teN tb L i)), σ1) ∧ Ag Sc8 σ σ1 ∧ t2 ≤ teN tb L i ∧ zi σ1 100 5 = iN t2 ∧ psN tb L t2 = skN tb L (teN tb L i) ∧ ∀ j, j < t2 → Tj8 tb L j σ1 := by
    intro a n hnb ha hn hb
    have ps : psN tb L t = i := hps.trans (skN_n hi hnb)
    have A : Ag (fun a k => (a = 100 ∧ k = 5) ∨ (101 ≤ a ∧ a ≤ 103 ∧ k = t)) σ (zsi (zsi (zsi (zsi σ 101 t a) 102 t (iN i)) 103 t n) 100 5 (iN (t + 1))) := (((Ag.zsi (Or.inr ⟨by omega, by omega, rfl⟩)).trans (Ag.zsi (Or.inr ⟨by omega, by omega, rfl⟩))).trans (Ag.zsi (Or.inr ⟨by omega, by omega, rfl⟩))).trans (Ag.zsi (Or.inl ⟨rfl, rfl⟩))
    have g5 : zi (zsi (zsi (zsi (zsi σ 101 t a) 102 t (iN i)) 103 t n) 100 5 (iN (t + 1))) 100 5 = iN (t + 1) := zi_hit
    have g1 : zi (zsi (zsi (zsi (zsi σ 101 t a) 102 t (iN i)) 103 t n) 100 5 (iN (t + 1))) 101 t = a := by
      rw [zi_ne (by decide), zi_ne (by decide), zi_ne (by decide), zi_hit]
    have g2 : zi (zsi (zsi (zsi (zsi σ 101 t a) 102 t (iN i)) 103 t n) 100 5 (iN (t + 1))) 102 t = iN i := by
      rw [zi_ne (by decide), zi_ne (by decide), zi_hit]
    have g3 : zi (zsi (zsi (zsi (zsi σ 101 t a) 102 t (iN i)) 103 t n) 100 5 (iN (t + 1))) 103 t = n := by
      rw [zi_ne (by decide), zi_hit]
    generalize zsi (zsi (zsi (zsi σ 101 t a) 102 t (iN i)) 103 t n) 100 5 (iN (t + 1)) = u at hb A g5 g1 g2 g3
    refine ⟨t + 1, u, hb, A.mono (fun a k q => by unfold Sc8; omega), by omega, g5, ?_, fun j hj2 => ?_⟩
    · rw [psN_s (by omega), ps]
    · by_cases c : j = t
      · subst c
        refine ⟨by omega, ?_, ?_, ?_⟩
        · rw [g1]
          unfold kdN
          rw [if_pos (by omega), ps, ← ha]
        · rw [g2, ps]
        · rw [g3]
          unfold nmN
          rw [ps, ← hn]
      · exact (hj j (by omega)).ag (t := t) A (fun a h1 h2 q => by omega) (by omega)
  rcases cls_3 (tb i) with c | c | c
  · by_cases c2 : tb i = 32
    · have e1 : teN tb L i = i + 1 := by
        unfold teN
        cases hn : L - (i + 1) with
        | zero => rfl
        | succ m => exact runN_f (decide_eq_false (fun q => q.1 c))
      refine ⟨t, σ, b7_blank hS hB hL hi c2, Ag.refl, by omega, h5, ?_, hj⟩
      rw [hps, skN_b hi c2, e1]
    · exact added (iN (tb i)) 0 c2 (by unfold kindN; rw [if_neg (by omega), if_neg (by omega)]) (by unfold nmbN; rw [if_neg (by omega)]; rfl) (b7_sign hS hB hL hi (by omega) h5 c c2)
  · have := cls1.mp c
    exact added (iN (kindN tb L i)) 0 (by omega) rfl (by unfold nmbN; rw [if_neg (by omega)]; rfl) (b7_word hS hB hL hi (by omega) h5 c)
  · have := cls2.mp c
    exact added 256 (iN (nmbN tb L i)) (by omega) (by unfold kindN; rw [if_neg (by omega), if_pos c]; rfl) rfl (b7_num hS hB hL hi (by omega) h5 c)
theorem cut_l (hL : L ≤ 400) : ∀ (n i t : Nat) (σ : Hp), L - i ≤ n → i ≤ L → SK σ → TB8 tb σ → t ≤ i → zi σ 100 5 = iN t → psN tb L t = skN tb L i → (∀ j, j < t → Tj8 tb L j σ) →
    ∃ nT σ1, s_X4_cutIntoTokens_l7 (100, some 98, iN L, iN i) σ = some ((100, iN L), σ1) ∧ Ag Sc8 σ σ1 ∧ nT ≤ L ∧ zi σ1 100 5 = iN nT ∧ psN tb L nT = L ∧ ∀ j, j < nT → Tj8 tb L j σ1
  | 0, i, t, σ, hn, hi, hS, hB, ht, h5, hps, hj => by
    have e : i = L := by omega
    subst e
    have f1 : iN i ≤ iN i := Int32.le_refl _
    exact ⟨t, σ, loopF_out (body := fun v => s_X4_cutIntoTokens_b7 (v.1) (v.2.1) (v.2.2.1) (v.2.2.2)) (v := (100, some 98, iN i, iN i)) (by simp only [s_X4_cutIntoTokens_b7, f1, if_true]), Ag.refl, ht, h5, hps.trans skN_L, hj⟩
  | n + 1, i, t, σ, hn, hi, hS, hB, ht, h5, hps, hj => by
    by_cases c : i < L
    · obtain ⟨t2, σ1, g1, g2, g3, g4, g5, g6⟩ := tok_step hS hB hL c ht h5 hps hj
      have te := teN_le (tb := tb) c
      obtain ⟨nT, σ2, x1, x2, x3⟩ := cut_l hL n (teN tb L i) t2 σ1 (by omega) te.2 (hS.ag g2) (hB.ag g2 (fun k q => by unfold Sc8 at q; omega)) g3 g4 g5 g6
      exact ⟨nT, σ2, (loopF_in (body := fun v => s_X4_cutIntoTokens_b7 (v.1) (v.2.1) (v.2.2.1) (v.2.2.2)) (v := (100, some 98, iN L, iN i)) g1).trans x1, g2.trans x2, x3⟩
    · have e : i = L := by omega
      subst e
      have f1 : iN i ≤ iN i := Int32.le_refl _
      exact ⟨t, σ, loopF_out (body := fun v => s_X4_cutIntoTokens_b7 (v.1) (v.2.1) (v.2.2.1) (v.2.2.2)) (v := (100, some 98, iN i, iN i)) (by simp only [s_X4_cutIntoTokens_b7, f1, if_true]), Ag.refl, ht, h5, hps.trans skN_L, hj⟩
/-- the tokens as the class holds them -/
def TK8 (tb : Nat → Nat) (L nT : Nat) (σ : Hp) : Prop := nT ≤ L ∧ L ≤ 400 ∧ (∀ i, tb i ≤ 255) ∧ zi σ 100 5 = iN nT ∧ psN tb L nT = L ∧ (∀ j, j < nT → Tj8 tb L j σ) ∧ zi σ 102 nT = iN L
theorem cutT8 (hL : L ≤ 400) (hS : SK σ) (hB : TB8 tb σ) : ∃ nT σ1, s_X4_cutIntoTokens 100 (some 98) (iN L) σ = some ((), σ1) ∧ Ag Sc8 σ σ1 ∧ TK8 tb L nT σ1 := by
  have w := q_w100 (k := 5) (v := 0) hS
  have S1 : SK (zsi σ 100 5 0) := hS
  obtain ⟨nT, σ1, g1, g2, g3, g4, g5, g6⟩ := cut_l hL L 0 0 (zsi σ 100 5 0) (by omega) (by omega) S1 (hB.ag (S := Sc8) (Ag.zsi (Or.inl ⟨rfl, rfl⟩)) (fun k q => by unfold Sc8 at q; omega)) (Nat.le_refl _) zi_hit rfl (fun j hj => by omega)
  have g1 : s_X4_cutIntoTokens_l7 (100, some 98, iN L, 0) (zsi σ 100 5 0) = _ := g1
  have S2 := S1.ag g2
  have r0 := q_r100_0 S2
  have i5 := q_i100 (k := 5) S2
  rw [g4] at i5
  have s1 := q_st101 (n := nT) (v := 258) (by omega) S2
  have S3 : SK (zsi σ1 101 nT 258) := S2
  have r1 := q_r100_1 S3
  have i5b := q_i100 (k := 5) S3
  rw [zi_ne (by decide), g4] at i5b
  have s2 := q_st102 (n := nT) (v := iN L) (by omega) S3
  have A : Ag (fun a k => 101 ≤ a ∧ a ≤ 102 ∧ k = nT) σ1 (zsi (zsi σ1 101 nT 258) 102 nT (iN L)) := (Ag.zsi ⟨by omega, by omega, rfl⟩).trans (Ag.zsi ⟨by omega, by omega, rfl⟩)
  refine ⟨nT, zsi (zsi σ1 101 nT 258) 102 nT (iN L), ?_, ((Ag.zsi (Or.inl ⟨rfl, rfl⟩)).trans g2).trans (A.mono (fun a k q => by unfold Sc8; omega)), g3, hL, hB.1, ?_, g5, fun j hj => ?_, zi_hit⟩
  · simp only [s_X4_cutIntoTokens, w, g1, r0, i5, s1, r1, i5b, s2, Option.bind_some, cb_some]
  · rw [zi_ne (by decide), zi_ne (by decide), g4]
  · exact (g6 j hj).ag (t := nT) A (fun a h1 h2 q => by omega) hj
theorem TK8.ps (h : TK8 tb L nT σ) {j : Nat} (hj : j ≤ nT) : zi σ 102 j = iN (psN tb L j) := by
  by_cases c : j = nT
  · rw [c, h.2.2.2.2.2.2, h.2.2.2.2.1]
  · exact (h.2.2.2.2.2.1 j (by omega)).2.2.1
theorem TK8.kE (h : TK8 tb L nT σ) : kdN tb L nT = 258 := by
  unfold kdN
  rw [h.2.2.2.2.1, if_neg (Nat.lt_irrefl _)]
theorem kdN_lt (ht : ∀ i, tb i ≤ 255) {k : Nat} : kdN tb L k < 328 := by
  unfold kdN
  split
  · unfold kindN
    split
    · have := kindW_rng (l := ltN tb (psN tb L k) (teN tb L (psN tb L k) - psN tb L k))
      omega
    · split
      · decide
      · have := ht (psN tb L k)
        omega
  · decide
theorem nmN_le {k : Nat} : nmN tb L k ≤ 1001 := by
  unfold nmN nmbN
  split
  · exact numN_le _ _ _ (by omega)
  · omega
theorem TK8.ag {S : Nat → Nat → Prop} {σ1 : Hp} (h : TK8 tb L nT σ) (e : Ag S σ σ1) (hs : ∀ a k, S a k → ¬ Sc8 a k) : TK8 tb L nT σ1 := by
  obtain ⟨h1, h2, h3, h4, h5, h6, h7⟩ := h
  refine ⟨h1, h2, h3, by rw [(e.2.2.2.2 100 5 (fun q => hs _ _ q (Or.inl ⟨rfl, rfl⟩))).1]; exact h4, h5, fun j hj => (h6 j hj).ag (t := j + 1) e (fun a x y q => absurd (Or.inr ⟨x, y⟩) (hs a j q)) (by omega), by rw [(e.2.2.2.2 102 nT (fun q => hs _ _ q (Or.inr (by omega)))).1]; exact h7⟩
/-- the reader on its way: at token k, so many parts q and steps sc so far -/
def CP (tb : Nat → Nat) (L nT : Nat) (lw : Bool) (k q sc : Nat) (σ : Hp) : Prop := SK σ ∧ TK8 tb L nT σ ∧ zi σ 100 6 = iN k ∧ zi σ 100 7 = iN sc ∧ zi σ 100 9 = iN q ∧ zi σ 100 10 = bI lw
def Sp (sc a k : Nat) : Prop := (a = 100 ∧ (k = 6 ∨ k = 7 ∨ k = 9)) ∨ (a = 104 ∧ sc ≤ k)
/-- where it fails, fault too -/
def SpF (sc a k : Nat) : Prop := (a = 100 ∧ (k = 6 ∨ k = 7 ∨ k = 9 ∨ k = 11)) ∨ (a = 104 ∧ sc ≤ k)
theorem SpF.mono {sc sc1 a k : Nat} (h : SpF sc1 a k) (e : sc ≤ sc1) : SpF sc a k := by
  unfold SpF at *
  omega
theorem agF {sc : Nat} {σ1 : Hp} (h : Ag (Sp sc) σ σ1) : Ag (SpF sc) σ σ1 := h.mono (fun a k q => by unfold Sp at q; unfold SpF; omega)
theorem Sp.mono {sc sc1 a k : Nat} (h : Sp sc1 a k) (e : sc ≤ sc1) : Sp sc a k := by
  unfold Sp at *
  omega
theorem CP.to {k1 q1 sc1 s0 : Nat} {σ1 : Hp} (h : CP tb L nT lw k q sc σ) (e : Ag (Sp s0) σ σ1) (h6 : zi σ1 100 6 = iN k1) (h7 : zi σ1 100 7 = iN sc1) (h9 : zi σ1 100 9 = iN q1) : CP tb L nT lw k1 q1 sc1 σ1 :=
  ⟨h.1.ag e, h.2.1.ag e (fun a k q => by unfold Sp at q; unfold Sc8; omega), h6, h7, h9, by rw [(e.2.2.2.2 100 10 (by unfold Sp; omega)).1]; exact h.2.2.2.2.2⟩
theorem CP.next (h : CP tb L nT lw k q sc σ) : Ag (Sp sc) σ (zsi σ 100 6 (iN (k + 1))) ∧ CP tb L nT lw (k + 1) q sc (zsi σ 100 6 (iN (k + 1))) := by
  have e : Ag (Sp sc) σ (zsi σ 100 6 (iN (k + 1))) := Ag.zsi (by unfold Sp; omega)
  exact ⟨e, h.to e zi_hit (by rw [zi_miss (by decide)]; exact h.2.2.2.1) (by rw [zi_miss (by decide)]; exact h.2.2.2.2.1)⟩
theorem kind8 (h : CP tb L nT lw k q sc σ) (hk : k ≤ nT) : s_X4_kind 100 σ = some (iN (kdN tb L k), σ) := by
  have hn := h.2.1.1
  have hL := h.2.1.2.1
  have i6 := q_i100 (k := 6) h.1
  rw [h.2.2.1] at i6
  have i5 := q_i100 (k := 5) h.1
  rw [h.2.1.2.2.2.1] at i5
  have f0 : ¬ iN k < 0 := iN_nn (by omega)
  by_cases c : k < nT
  · have f1 : ¬ iN nT ≤ iN k := fun q => absurd ((iN_le (by omega) (by omega)).mp q) (by omega)
    have r := q_r100_0 h.1
    have l := q_ld101 (n := k) (by omega) h.1
    rw [(h.2.1.2.2.2.2.2.1 k c).2.1] at l
    simp only [s_X4_kind, i6, i5, f0, f1, r, l, if_false, Option.bind_some]
  · have e : k = nT := by omega
    subst e
    have f1 : iN k ≤ iN k := Int32.le_refl _
    rw [h.2.1.kE]
    simp only [s_X4_kind, i6, i5, f0, f1, if_true, if_false, Option.bind_some]
    rfl
theorem fail8 (h : CP tb L nT lw k q sc σ) (hk : k ≤ nT) : s_X4_fail 100 σ = some (0, zsi σ 100 11 (iN (psN tb L k))) := by
  have hn := h.2.1.1
  have hL := h.2.1.2.1
  have i6 := q_i100 (k := 6) h.1
  rw [h.2.2.1] at i6
  have i5 := q_i100 (k := 5) h.1
  rw [h.2.1.2.2.2.1] at i5
  have f0 : ¬ iN k < 0 := iN_nn (by omega)
  have f1 : ¬ iN nT < iN k := fun q => absurd ((iN_lt (by omega) (by omega)).mp q) (by omega)
  have r := q_r100_1 h.1
  have l := q_ld102 (n := k) (by omega) h.1
  rw [h.2.1.ps hk] at l
  have w := q_w100 (k := 11) (v := iN (psN tb L k)) h.1
  simp only [s_X4_fail, i6, i5, f0, f1, r, l, w, if_false, Option.bind_some]
theorem failed8 (h : CP tb L nT lw k q sc σ) : Ag (SpF sc) σ (zsi σ 100 11 (iN (psN tb L k))) ∧ zi (zsi σ 100 11 (iN (psN tb L k))) 100 11 = iN (psN tb L k) := ⟨Ag.zsi (by unfold SpF; omega), zi_hit⟩
theorem take8_t (h : CP tb L nT lw k q sc σ) (hk : k ≤ nT) {c : Nat} (e : kdN tb L k = c) : s_X4_take 100 (iN c) σ = some (1, zsi σ 100 6 (iN (k + 1))) := by
  have kk := q_ck100 h.1
  have kd := kind8 h hk
  rw [e] at kd
  have i6 := q_i100 (k := 6) h.1
  rw [h.2.2.1] at i6
  have w := q_w100 (k := 6) (v := iN (k + 1)) h.1
  have i1 : iN k + 1 = iN (k + 1) := iN_add k 1
  simp only [s_X4_take, kk, kd, i6, i1, w, if_true, bind_ok, Option.bind_some, cb_some]
theorem zbo_0 : zbo (0 : Int32) = some () := if_pos (Or.inl rfl)
theorem zbo_1 : zbo (1 : Int32) = some () := if_pos (Or.inr rfl)
theorem take8_f (h : CP tb L nT lw k q sc σ) (hk : k ≤ nT) {c : Nat} (hc : c < 400) (e : kdN tb L k ≠ c) : s_X4_take 100 (iN c) σ = some (0, zsi σ 100 11 (iN (psN tb L k))) := by
  have kk := q_ck100 h.1
  have kd := kind8 h hk
  have fl := fail8 h hk
  have hl := kdN_lt (L := L) (k := k) h.2.1.2.2.1
  have ne : ¬ iN (kdN tb L k) = iN c := fun q => e ((iN_inj (by omega) (by omega)).mp q)
  simp only [s_X4_take, kk, kd, ne, fl, zbo_0, if_false, bind_ok, Option.bind_some, cb_some]
theorem addStep8 (h : CP tb L nT lw k q sc σ) (hs : sc < 600) (o w : Nat) : s_X4_addStep 100 (iN o) (iN w) σ = some ((), zsi (zsi σ 100 7 (iN (sc + 1))) 104 sc (stW w o)) := by
  have i7 := q_i100 (k := 7) h.1
  rw [h.2.2.2.1] at i7
  have f : ¬ 600 ≤ iN sc := fun q => absurd ((iN_le (a := 600) (by decide) (by omega)).mp q) (by omega)
  have r := q_r100_3 h.1
  have i1 : iN sc + 1 = iN (sc + 1) := iN_add sc 1
  have ww := q_w100 (k := 7) (v := iN (sc + 1)) h.1
  have S1 : SK (zsi σ 100 7 (iN (sc + 1))) := h.1
  have st := q_st104 (n := sc) (v := stW w o) hs S1
  have st : stI (zsi σ 100 7 (iN (sc + 1))) 104 (iN sc) ((iN w <<< (4 &&& 31)) ||| iN o) = _ := st
  simp only [s_X4_addStep, i7, f, r, i1, ww, st, if_false, Option.bind_some]
theorem CP.step (h : CP tb L nT lw k q sc σ) (v : Int32) : Ag (Sp sc) σ (zsi (zsi σ 100 7 (iN (sc + 1))) 104 sc v) ∧ CP tb L nT lw k q (sc + 1) (zsi (zsi σ 100 7 (iN (sc + 1))) 104 sc v) := by
  have e : Ag (Sp sc) σ (zsi (zsi σ 100 7 (iN (sc + 1))) 104 sc v) := (Ag.zsi (by unfold Sp; omega)).trans (Ag.zsi (by unfold Sp; omega))
  exact ⟨e, h.to e (by rw [zi_ne (by decide), zi_miss (by decide)]; exact h.2.2.1) (by rw [zi_ne (by decide), zi_hit]) (by rw [zi_ne (by decide), zi_miss (by decide)]; exact h.2.2.2.2.1)⟩
theorem skip8 (h : CP tb L nT lw k q sc σ) (hs : sc ≤ 600) {p o : Nat} (hp : p < sc) (ho : o < 13) (hw : zi σ 104 p = stW 0 o) : s_X4_skipTillHere 100 (iN p) σ = some ((), zsi σ 104 p (stW sc o)) := by
  have f0 : ¬ iN p < 0 := iN_nn (by omega)
  have i7 := q_i100 (k := 7) h.1
  rw [h.2.2.2.1] at i7
  have f1 : ¬ iN sc ≤ iN p := fun q => absurd ((iN_le (by omega) (by omega)).mp q) (by omega)
  have r := q_r100_3 h.1
  have l := q_ld104 (n := p) (by omega) h.1
  rw [hw] at l
  have b := (stW_ok (w := 0) (by omega) ho).1
  have st := q_st104 (n := p) (v := stW sc o) (by omega) h.1
  have st : stI σ 104 (iN p) ((iN sc <<< (4 &&& 31)) ||| iN o) = _ := st
  simp only [s_X4_skipTillHere, f0, i7, f1, r, l, b, st, if_false, Option.bind_some]
theorem skip8_no : s_X4_skipTillHere 100 (-1) σ = some ((), σ) := by
  have f0 : (-1 : Int32) < 0 := by decide
  simp only [s_X4_skipTillHere, f0, if_true]
end CU
