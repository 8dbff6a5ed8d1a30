/-! ===== the class's reader: a part ===== -/
section CR1
variable {σ : Hp} {tb : Nat → Nat} {L nT k q sc o : Nat} {lw : Bool} {rc : RCT}
theorem orderW8 {c : Nat} (hc : c < 400) : s_X4_orderWordOf (iN c) σ = some ((match leafW false c with | none => -1 | some p => iN p.1), σ) := by
  by_cases h307 : c = 307
  · subst h307; rfl
  by_cases h308 : c = 308
  · subst h308; rfl
  by_cases h309 : c = 309
  · subst h309; rfl
  by_cases h310 : c = 310
  · subst h310; rfl
  by_cases h311 : c = 311
  · subst h311; rfl
  by_cases h312 : c = 312
  · subst h312; rfl
  by_cases h313 : c = 313
  · subst h313; rfl
  by_cases h314 : c = 314
  · subst h314; rfl
  by_cases h315 : c = 315
  · subst h315; rfl
  by_cases h316 : c = 316
  · subst h316; rfl
  by_cases h317 : c = 317
  · subst h317; rfl
  by_cases h318 : c = 318
  · subst h318; rfl
  by_cases h319 : c = 319
  · subst h319; rfl
  by_cases h320 : c = 320
  · subst h320; rfl
  by_cases h321 : c = 321
  · subst h321; rfl
  by_cases h322 : c = 322
  · subst h322; rfl
  by_cases h323 : c = 323
  · subst h323; rfl
  by_cases h324 : c = 324
  · subst h324; rfl
  by_cases h325 : c = 325
  · subst h325; rfl
  by_cases h326 : c = 326
  · subst h326; rfl
  by_cases h327 : c = 327
  · subst h327; rfl
  have n307 : ¬ iN c = 307 := fun q => absurd ((iN_inj (b := 307) (by omega) (by decide)).mp q) h307
  have n308 : ¬ iN c = 308 := fun q => absurd ((iN_inj (b := 308) (by omega) (by decide)).mp q) h308
  have n309 : ¬ iN c = 309 := fun q => absurd ((iN_inj (b := 309) (by omega) (by decide)).mp q) h309
  have n310 : ¬ iN c = 310 := fun q => absurd ((iN_inj (b := 310) (by omega) (by decide)).mp q) h310
  have n311 : ¬ iN c = 311 := fun q => absurd ((iN_inj (b := 311) (by omega) (by decide)).mp q) h311
  have n312 : ¬ iN c = 312 := fun q => absurd ((iN_inj (b := 312) (by omega) (by decide)).mp q) h312
  have n313 : ¬ iN c = 313 := fun q => absurd ((iN_inj (b := 313) (by omega) (by decide)).mp q) h313
  have n314 : ¬ iN c = 314 := fun q => absurd ((iN_inj (b := 314) (by omega) (by decide)).mp q) h314
  have n315 : ¬ iN c = 315 := fun q => absurd ((iN_inj (b := 315) (by omega) (by decide)).mp q) h315
  have n316 : ¬ iN c = 316 := fun q => absurd ((iN_inj (b := 316) (by omega) (by decide)).mp q) h316
  have n317 : ¬ iN c = 317 := fun q => absurd ((iN_inj (b := 317) (by omega) (by decide)).mp q) h317
  have n318 : ¬ iN c = 318 := fun q => absurd ((iN_inj (b := 318) (by omega) (by decide)).mp q) h318
  have n319 : ¬ iN c = 319 := fun q => absurd ((iN_inj (b := 319) (by omega) (by decide)).mp q) h319
  have n320 : ¬ iN c = 320 := fun q => absurd ((iN_inj (b := 320) (by omega) (by decide)).mp q) h320
  have n321 : ¬ iN c = 321 := fun q => absurd ((iN_inj (b := 321) (by omega) (by decide)).mp q) h321
  have n322 : ¬ iN c = 322 := fun q => absurd ((iN_inj (b := 322) (by omega) (by decide)).mp q) h322
  have n323 : ¬ iN c = 323 := fun q => absurd ((iN_inj (b := 323) (by omega) (by decide)).mp q) h323
  have n324 : ¬ iN c = 324 := fun q => absurd ((iN_inj (b := 324) (by omega) (by decide)).mp q) h324
  have n325 : ¬ iN c = 325 := fun q => absurd ((iN_inj (b := 325) (by omega) (by decide)).mp q) h325
  have n326 : ¬ iN c = 326 := fun q => absurd ((iN_inj (b := 326) (by omega) (by decide)).mp q) h326
  have n327 : ¬ iN c = 327 := fun q => absurd ((iN_inj (b := 327) (by omega) (by decide)).mp q) h327
  have e : leafW false c = none := by
    unfold leafW
    rw [if_neg (by decide), if_neg h309, if_neg h324, if_neg h325, if_neg h326, if_neg h308, if_neg h319, if_neg h307, if_neg h327]
  rw [e]
  simp only [s_X4_orderWordOf, n307, n308, n309, n310, n311, n312, n313, n314, n315, n316, n317, n318, n319, n320, n321, n322, n323, n324, n325, n326, n327, if_false]
theorem many8 {c : Nat} {p : Nat × Nat} (hc : c < 400) (h : leafW false c = some p) : s_X4_manyOf (iN c) σ = some (iN p.2, σ) ∧ p.1 + p.2 ≤ 18 ∧ p.1 < 18 := by
  by_cases h309 : c = 309
  · subst h309; cases h; exact ⟨rfl, by decide, by decide⟩
  by_cases h324 : c = 324
  · subst h324; cases h; exact ⟨rfl, by decide, by decide⟩
  by_cases h325 : c = 325
  · subst h325; cases h; exact ⟨rfl, by decide, by decide⟩
  by_cases h326 : c = 326
  · subst h326; cases h; exact ⟨rfl, by decide, by decide⟩
  by_cases h308 : c = 308
  · subst h308; cases h; exact ⟨rfl, by decide, by decide⟩
  by_cases h319 : c = 319
  · subst h319; cases h; exact ⟨rfl, by decide, by decide⟩
  by_cases h307 : c = 307
  · subst h307; cases h; exact ⟨rfl, by decide, by decide⟩
  by_cases h327 : c = 327
  · subst h327; cases h; exact ⟨rfl, by decide, by decide⟩
  unfold leafW at h
  rw [if_neg (by decide), if_neg h309, if_neg h324, if_neg h325, if_neg h326, if_neg h308, if_neg h319, if_neg h307, if_neg h327] at h
  cases h
theorem lawW8 {c : Nat} (hc : c < 400) : s_X4_lawWordOf (iN c) σ = some ((match leafW true c with | none => -1 | some p => iN p.1), σ) := by
  by_cases h : 307 ≤ c ∧ c ≤ 315
  · have e : leafW true c = some (c - 307, 0) := by
      unfold leafW
      rw [if_pos rfl, if_pos h]
    rw [e]
    have f1 : ¬ iN c < 307 := fun q => absurd ((iN_lt (b := 307) (by omega) (by decide)).mp q) (by omega)
    have f2 : ¬ 315 < iN c := fun q => absurd ((iN_lt (a := 315) (by decide) (by omega)).mp q) (by omega)
    have d : iN c - 307 = iN (c - 307) := iN_sub (b := 307) h.1
    simp only [s_X4_lawWordOf, f1, f2, d, if_false]
  · have e : leafW true c = none := by
      unfold leafW
      rw [if_pos rfl, if_neg h]
    rw [e]
    by_cases f1 : iN c < 307
    · simp only [s_X4_lawWordOf, f1, if_true]
    · have h1 : ¬ c < 307 := fun q => f1 ((iN_lt (b := 307) (by omega) (by decide)).mpr q)
      have f2 : 315 < iN c := (iN_lt (a := 315) (by decide) (by omega)).mpr (by omega)
      simp only [s_X4_lawWordOf, f1, f2, if_true, if_false]
theorem leaf18 {c : Nat} {p : Nat × Nat} (h : leafW true c = some p) : p.2 = 0 ∧ p.1 < 9 := by
  unfold leafW at h
  rw [if_pos rfl] at h
  split at h
  · rw [← Option.some.inj h]
    exact ⟨rfl, by show c - 307 < 9; omega⟩
  · exact absurd h (by simp)
theorem part8 {f : Option (Nat → Nat → Res)} (ho : o ≤ 8) (hn : f = none → o = 8) (hs : ∀ g, f = some g → o < 8 ∧ CFn tb L nT lw g (fun σ => rc 2 100 0 (iN (o + 1)) σ) ∧ Good nT false g) : CFn tb L nT lw (partP (kdN tb L) (nmN tb L) lw f) (fun σ => s_X4_readPart rc 100 (iN o) σ) := by
  intro k q sc σ hk hq hsc h
  show CRes tb L nT lw sc σ k q (s_X4_readPart rc 100 (iN o) σ) (partP (kdN tb L) (nmN tb L) lw f k q)
  have hE := h.2.1.kE
  have hL := h.2.1.2.1
  have hnL := h.2.1.1
  have kk := q_ck100 h.1
  have kd := kind8 h hk
  have hlt := kdN_lt (L := L) (k := k) h.2.1.2.2.1
  have fl := fail8 h hk
  by_cases c1 : kdN tb L k = 91
  · have hkl : k < nT := kd_lt hE hk c1 (by decide)
    rw [c1] at kd
    have kd : s_X4_kind 100 σ = some (91, σ) := kd
    have eP : partP (kdN tb L) (nmN tb L) lw f k q = brP (kdN tb L) 93 f k q := if_pos c1
    rw [eP]
    cases f with
    | none =>
      have h8 := hn rfl
      subst h8
      have f1 : ¬ iN 8 < 8 := by decide
      have e : s_X4_readPart rc 100 (iN 8) σ = some (0, zsi σ 100 11 (iN (psN tb L k))) := by
        simp only [s_X4_readPart, kk, kd, f1, fl, zbo_0, if_true, if_false, bos, cbs]
      rw [e]
      exact CRes.fail h Ag.refl (Nat.le_refl _)
    | some g =>
      obtain ⟨h8, hC, hG⟩ := hs g rfl
      have f1 : iN o < 8 := (iN_lt (b := 8) (by omega) (by decide)).mpr h8
      have i6 := q_i100 (k := 6) h.1
      rw [h.2.2.1] at i6
      have w := q_w100 (k := 6) (v := iN (k + 1)) h.1
      have i1 : iN k + 1 = iN (k + 1) := iN_add k 1
      have o1 : iN o + 1 = iN (o + 1) := iN_add o 1
      obtain ⟨eN, hN⟩ := h.next
      have hr := hC (k + 1) q sc _ (by omega) hq (by omega) hN
      have hg := hG (k + 1) q (by omega) hq
      have k1 := q_ck100 hN.1
      generalize zsi σ 100 6 (iN (k + 1)) = σ1 at w eN hN hr k1
      have hr : CRes tb L nT lw sc σ1 (k + 1) q (rc 2 100 0 (iN (o + 1)) σ1) (g (k + 1) q) := hr
      show CRes tb L nT lw sc σ k q _ (bindR (g (k + 1) q) _)
      generalize g (k + 1) q = r at hr hg
      obtain ⟨k1', q1, oa⟩ := r
      cases oa with
      | none =>
        obtain ⟨σ2, x1, x2, x3⟩ := hr
        refine ⟨σ2, ?_, (agF eN).trans x2, x3⟩
        simp only [s_X4_readPart, kk, kd, f1, i6, i1, w, o1, k1, x1, if_true, bos, cbs]
      | some a =>
        obtain ⟨σ2, sc1, x1, x2, x3, x4, x5⟩ := hr
        have k2 := q_ck100 x3.1
        have hk1 : k1' ≤ nT := hg.2.1
        by_cases c2 : kdN tb L k1' = 93
        · have tk := take8_t x3 hk1 c2
          have tk : s_X4_take 100 93 σ2 = _ := tk
          obtain ⟨eM, hM⟩ := x3.next
          have e104 : ∀ x, zi (zsi σ2 100 6 (iN (k1' + 1))) 104 x = zi σ2 104 x := fun x => by rw [zi_ne (by decide)]
          generalize zsi σ2 100 6 (iN (k1' + 1)) = σ3 at tk eM hM e104
          show CRes tb L nT lw sc σ k q _ (if kdN tb L k1' = 93 then (k1' + 1, q1, some a) else (k1', q1, none))
          rw [if_pos c2]
          have hse := x5.1
          refine ⟨σ3, sc1, ?_, (eN.trans x2).trans (eM.mono (fun a k q => q.mono (by omega))), hM, by omega, x5.congr (fun x _ _ => e104 x)⟩
          simp only [s_X4_readPart, kk, kd, f1, i6, i1, w, o1, k1, x1, k2, tk, z10', if_true, if_false, bos, cbs]
        · have tk := take8_f x3 hk1 (c := 93) (by decide) c2
          have tk : s_X4_take 100 93 σ2 = _ := tk
          show CRes tb L nT lw sc σ k q _ (if kdN tb L k1' = 93 then (k1' + 1, q1, some a) else (k1', q1, none))
          rw [if_neg c2]
          have hse := x5.1
          have e : s_X4_readPart rc 100 (iN o) σ = some (0, zsi σ2 100 11 (iN (psN tb L k1'))) := by
            simp only [s_X4_readPart, kk, kd, f1, i6, i1, w, o1, k1, x1, k2, tk, z10', if_true, if_false, bos, cbs]
          rw [e]
          exact CRes.fail x3 (eN.trans x2) (by omega)
  · have ne91 : ¬ iN (kdN tb L k) = 91 := fun z => c1 ((iN_inj (b := 91) (by omega) (by decide)).mp z)
    have i9 := q_i100 (k := 9) h.1
    rw [h.2.2.2.2.1] at i9
    have eP : partP (kdN tb L) (nmN tb L) lw f k q = (if 50 ≤ q then (k, q, none) else if kdN tb L k = 256 then (if nmN tb L k ≤ 1000 then (k + 1, q + 1, some (numS (nmN tb L k))) else (k, q, none)) else match leafW lw (kdN tb L k) with
      | none => (k, q, none)
      | some p => if p.2 = 0 then (k + 1, q + 1, some (wordS p.1)) else if kdN tb L (k + 1) = 256 ∧ nmN tb L (k + 1) < p.2 then (k + 2, q + 1, some (wordS (p.1 + nmN tb L (k + 1)))) else (k + 1, q, none)) := if_neg c1
    rw [eP]
    by_cases c2 : 50 ≤ q
    · rw [if_pos c2]
      have f1 : ¬ iN q < 50 := fun z => absurd ((iN_lt (b := 50) (by omega) (by decide)).mp z) (by omega)
      have e : s_X4_readPart rc 100 (iN o) σ = some (0, zsi σ 100 11 (iN (psN tb L k))) := by
        simp only [s_X4_readPart, kk, kd, ne91, i9, f1, fl, zbo_0, if_true, if_false, bos, cbs]
      rw [e]
      exact CRes.fail h Ag.refl (Nat.le_refl _)
    · rw [if_neg c2]
      have f1 : iN q < 50 := (iN_lt (b := 50) (by omega) (by decide)).mpr (by omega)
      have w9 := q_w100 (k := 9) (v := iN (q + 1)) h.1
      have q1 : iN q + 1 = iN (q + 1) := iN_add q 1
      have e1 : Ag (Sp sc) σ (zsi σ 100 9 (iN (q + 1))) := Ag.zsi (by unfold Sp; omega)
      have h1 : CP tb L nT lw k (q + 1) sc (zsi σ 100 9 (iN (q + 1))) := h.to e1 (by rw [zi_miss (by decide)]; exact h.2.2.1) (by rw [zi_miss (by decide)]; exact h.2.2.2.1) zi_hit
      generalize zsi σ 100 9 (iN (q + 1)) = σ1 at w9 e1 h1
      have kk1 := q_ck100 h1.1
      by_cases c3 : kdN tb L k = 256
      · have hkl : k < nT := kd_lt hE hk c3 (by decide)
        have q256 : iN (kdN tb L k) = 256 := by rw [c3]; rfl
        have ne : ¬ (256 : Int32) = 91 := by decide
        rw [if_pos c3]
        have nn := num8now h1 hkl
        have hm := nmN_le (tb := tb) (L := L) (k := k)
        obtain ⟨σ2, a1, a2, a3, a4⟩ := added8 h1 (by omega) 0 (nmN tb L k)
        have a1 : s_X4_addStep 100 0 (iN (nmN tb L k)) σ1 = _ := a1
        have kk2 := q_ck100 a3.1
        by_cases c4 : nmN tb L k ≤ 1000
        · rw [if_pos c4]
          have tk := takeNum8_t a3 hk (lo := 0) (hi := 1000) (by decide) (by decide) c3 (Nat.zero_le _) c4
          have tk : s_X4_takeNumber 100 0 1000 σ2 = _ := tk
          obtain ⟨eM, hM⟩ := a3.next
          have e104 : zi (zsi σ2 100 6 (iN (k + 1))) 104 sc = stW (nmN tb L k) 0 := by
            rw [zi_ne (by decide)]
            exact a4
          generalize zsi σ2 100 6 (iN (k + 1)) = σ3 at tk eM hM e104
          refine ⟨σ3, sc + 1, ?_, (e1.trans a2).trans (eM.mono (fun a k q => q.mono (by omega))), hM, by omega, ?_⟩
          · rw [q256] at kd
            simp only [s_X4_readPart, kk, kd, ne, i9, f1, q1, w9, kk1, nn, a1, kk2, tk, zbo_1, if_true, if_false, bos, cbs]
          · rw [show q + 1 - q = 1 by omega]
            exact numSeg (by omega) e104
        · rw [if_neg c4]
          have tk := takeNum8_f a3 hk (lo := 0) (hi := 1000) (by decide) (by decide) (fun z => c4 z.2.2)
          have tk : s_X4_takeNumber 100 0 1000 σ2 = _ := tk
          have e : s_X4_readPart rc 100 (iN o) σ = some (0, zsi σ2 100 11 (iN (psN tb L k))) := by
            rw [q256] at kd
            simp only [s_X4_readPart, kk, kd, ne, i9, f1, q1, w9, kk1, nn, a1, kk2, tk, zbo_0, if_true, if_false, bos, cbs]
          rw [e]
          exact CRes.fail a3 (e1.trans a2) (by omega)
      · have ne256 : ¬ iN (kdN tb L k) = 256 := fun z => c3 ((iN_inj (b := 256) (by omega) (by decide)).mp z)
        rw [if_neg c3]
        have i10 := q_i100 (k := 10) h1.1
        rw [h1.2.2.2.2.2] at i10
        have fl1 := fail8 h1 hk
        have lead : ∀ X : Int32 × Hp, (∀ Y, (lw = false → s_X4_orderWordOf (iN (kdN tb L k)) σ1 = some (Y, σ1)) → (lw = true → s_X4_lawWordOf (iN (kdN tb L k)) σ1 = some (Y, σ1)) → s_X4_readPart_j125 rc 100 (iN (kdN tb L k)) Y σ1 = some X → s_X4_readPart rc 100 (iN o) σ = some X) := by
          intro X Y y1 y2 y3
          cases lw with
          | false =>
            have i10 : rdI 4 σ1 100 10 = some 0 := i10
            have y1 := y1 rfl
            simp only [s_X4_readPart, kk, kd, ne91, i9, f1, q1, w9, ne256, i10, y1, y3, if_true, if_false, bos, cbs]
          | true =>
            have i10 : rdI 4 σ1 100 10 = some 1 := i10
            have y2 := y2 rfl
            simp only [s_X4_readPart, kk, kd, ne91, i9, f1, q1, w9, ne256, i10, y2, y3, z10', if_true, if_false, bos, cbs]
        cases c4 : leafW lw (kdN tb L k) with
        | none =>
          have e : s_X4_readPart rc 100 (iN o) σ = some (0, zsi σ1 100 11 (iN (psN tb L k))) := by
            refine lead _ (-1) (fun z => ?_) (fun z => ?_) ?_
            · subst z
              have := orderW8 (σ := σ1) (c := kdN tb L k) (by omega)
              rw [c4] at this
              exact this
            · subst z
              have := lawW8 (σ := σ1) (c := kdN tb L k) (by omega)
              rw [c4] at this
              exact this
            · simp only [s_X4_readPart_j125, kk1, fl1, zbo_0, if_true, bos, cbs]
          rw [e]
          exact CRes.fail h1 e1 (Nat.le_refl _)
        | some p =>
          have hkl : k < nT := kd_lt hE hk rfl (leafW_ne c4)
          have lead2 : ∀ X : Int32 × Hp, s_X4_readPart_j125 rc 100 (iN (kdN tb L k)) (iN p.1) σ1 = some X → s_X4_readPart rc 100 (iN o) σ = some X := fun X hX => lead X (iN p.1) (fun z => by
            subst z
            have := orderW8 (σ := σ1) (c := kdN tb L k) (by omega)
            rw [c4] at this
            exact this) (fun z => by
            subst z
            have := lawW8 (σ := σ1) (c := kdN tb L k) (by omega)
            rw [c4] at this
            exact this) hX
          have hp18 : p.1 + p.2 ≤ 18 ∧ p.1 < 18 := by
            cases lw with
            | false => exact (many8 (σ := σ) (by omega) c4).2
            | true => have := leaf18 c4; omega
          have nm1 : ¬ iN p.1 = -1 := iN_ne (by omega)
          have i6 := q_i100 (k := 6) h1.1
          rw [h1.2.2.1] at i6
          have w6 := q_w100 (k := 6) (v := iN (k + 1)) h1.1
          have k1 : iN k + 1 = iN (k + 1) := iN_add k 1
          obtain ⟨eN, hN⟩ := h1.next
          generalize zsi σ1 100 6 (iN (k + 1)) = σ2 at w6 eN hN
          have i10b := q_i100 (k := 10) hN.1
          rw [hN.2.2.2.2.2] at i10b
          have kk2 := q_ck100 hN.1
          show CRes tb L nT lw sc σ k q _ (if p.2 = 0 then (k + 1, q + 1, some (wordS p.1)) else if kdN tb L (k + 1) = 256 ∧ nmN tb L (k + 1) < p.2 then (k + 2, q + 1, some (wordS (p.1 + nmN tb L (k + 1)))) else (k + 1, q, none))
          by_cases c5 : p.2 = 0
          · rw [if_pos c5]
            obtain ⟨σ3, a1, a2, a3, a4⟩ := added8 hN (by omega) 1 p.1
            have a1 : s_X4_addStep 100 1 (iN p.1) σ2 = _ := a1
            refine ⟨σ3, sc + 1, lead2 _ ?_, (e1.trans eN).trans a2, a3, by omega, ?_⟩
            · cases lw with
              | false =>
                have i10b : rdI 4 σ2 100 10 = some 0 := i10b
                have m := (many8 (σ := σ2) (by omega) c4).1
                rw [c5] at m
                have m : s_X4_manyOf (iN (kdN tb L k)) σ2 = some (0, σ2) := m
                simp only [s_X4_readPart_j125, s_X4_readPart_j161, nm1, i6, k1, w6, i10b, m, kk2, a1, if_true, if_false, bos, cbs]
              | true =>
                have i10b : rdI 4 σ2 100 10 = some 1 := i10b
                simp only [s_X4_readPart_j125, s_X4_readPart_j161, nm1, i6, k1, w6, i10b, kk2, a1, z10', if_true, if_false, bos, cbs]
            · rw [show q + 1 - q = 1 by omega]
              exact wordSeg hp18.2 a4
          · rw [if_neg c5]
            have elw : lw = false := by
              cases lw with
              | false => rfl
              | true => exact absurd (leaf18 c4).1 c5
            subst elw
            have i10b : rdI 4 σ2 100 10 = some 0 := i10b
            have m := (many8 (σ := σ2) (by omega) c4).1
            have mz : ¬ iN p.2 = 0 := fun z => c5 ((iN_inj (b := 0) (by omega) (by decide)).mp z)
            have m1 : iN p.2 - 1 = iN (p.2 - 1) := iN_sub (b := 1) (by omega)
            -- the number there
            obtain ⟨nv, n1, n2⟩ : ∃ nv, s_X4_numberNow 100 σ2 = some (iN nv, σ2) ∧ (k + 1 < nT → nv = nmN tb L (k + 1)) := by
              by_cases c6 : k + 1 < nT
              · exact ⟨_, num8now hN c6, fun _ => rfl⟩
              · have e : k + 1 = nT := by omega
                rw [e] at hN
                exact ⟨0, num8now_E hN, fun z => absurd z c6⟩
            obtain ⟨σ3, a1, a2, a3, a4⟩ := added8 hN (by omega) 1 (p.1 + nv)
            have a1 : s_X4_addStep 100 1 (iN p.1 + iN nv) σ2 = some ((), σ3) := by rw [iN_add]; exact a1
            have kk3 := q_ck100 a3.1
            by_cases c6 : kdN tb L (k + 1) = 256 ∧ nmN tb L (k + 1) < p.2
            · rw [if_pos c6]
              have hk2 : k + 1 < nT := kd_lt hE (by omega) c6.1 (by decide)
              have en := n2 hk2
              have tk := takeNum8_t a3 (by omega) (lo := 0) (hi := p.2 - 1) (by omega) (by omega) c6.1 (Nat.zero_le _) (by omega)
              have tk : s_X4_takeNumber 100 0 (iN (p.2 - 1)) σ3 = _ := tk
              obtain ⟨eM, hM⟩ := a3.next
              have e104 : zi (zsi σ3 100 6 (iN (k + 1 + 1))) 104 sc = stW (p.1 + nv) 1 := by
                rw [zi_ne (by decide)]
                exact a4
              generalize zsi σ3 100 6 (iN (k + 1 + 1)) = σ4 at tk eM hM e104
              refine ⟨σ4, sc + 1, lead2 _ ?_, ((e1.trans eN).trans a2).trans (eM.mono (fun a k q => q.mono (by omega))), hM, by omega, ?_⟩
              · simp only [s_X4_readPart_j125, s_X4_readPart_j161, nm1, i6, k1, w6, i10b, m, mz, m1, kk2, n1, a1, kk3, tk, zbo_1, if_true, if_false, bos, cbs]
              · rw [show q + 1 - q = 1 by omega, ← en]
                exact wordSeg (by omega) e104
            · rw [if_neg c6]
              have tk := takeNum8_f a3 (by omega) (lo := 0) (hi := p.2 - 1) (by omega) (by decide) (fun z => c6 ⟨z.1, by omega⟩)
              have tk : s_X4_takeNumber 100 0 (iN (p.2 - 1)) σ3 = _ := tk
              have e : s_X4_readPart rc 100 (iN o) σ = some (0, zsi σ3 100 11 (iN (psN tb L (k + 1)))) := lead2 _ (by
                simp only [s_X4_readPart_j125, s_X4_readPart_j161, nm1, i6, k1, w6, i10b, m, mz, m1, kk2, n1, a1, kk3, tk, zbo_0, if_true, if_false, bos, cbs])
              rw [e]
              exact CRes.fail a3 ((e1.trans eN).trans a2) (by omega)
end CR1
