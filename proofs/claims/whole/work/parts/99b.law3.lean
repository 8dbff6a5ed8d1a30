/-! ===== the call law ===== -/
section V44
variable {σ : Hp} {nP nF nB nT nS nL n nt L : Nat} {B : Book} {tb : Nat → Nat}
theorem TN.le {n : Nat} (h : TN tb L n) (hL : L ≤ 400) : n ≤ 400 := by have := h.1; omega
theorem b_law (hr : Rel σ) : Both (s_X8_law 0) (s_X9_law 125) σ := by
  obtain ⟨⟨hS, ⟨nt, hT⟩, hR, hM, hW, hD, hI⟩, nP, nF, nB, nT, nS, nL, B, n, hC, hU⟩ := id hr
  by_cases h6 : nL = 6
  · subst h6
    exact law_full hr hC hT
  · have hn : nL < 6 := by have := hC.1.1.2.2.2.2.2; omega
    have g17 : zi σ 1 17 = iN nL := hC.2.1.g5.trans hC.1.2.1.2.2.2.2.2
    have R5 : zi σ 127 5 = iN nL := hC.1.2.1.2.2.2.2.2
    obtain ⟨nX, hN, h8⟩ := law8_go hS hT g17 hn
    have nX400 := hN.le hT.1
    have B0 := tb9 hT
    generalize htb : tbO σ = tb at hN h8 B0
    have h9 := fun s (a1 : SK s) (a2 : TB9 tb nt s) (a3 : CW s) (a4 : zi s 127 5 = iN nL) => law9_go a1 a2 hN a3 a4 hn
    generalize textP (kdN tb nt) (nmN tb nt) true nX 12 0 0 = r at h8 h9
    obtain ⟨k1, ol⟩ := r
    cases ol with
    | none =>
      obtain ⟨u1, E1, v98, cl, x8⟩ := h8
      have S1 := hS.ag E1
      have Ea : Ag LF u1 (zsi (zsi (zsi u1 0 15 (iN (psN tb nt k1))) 0 18 (-6)) 124 4 (zi (zsi u1 0 15 (iN (psN tb nt k1))) 124 4 + 1)) := ((Ag.zsi (by unfold LF; omega)).trans (Ag.zsi (by unfold LF; omega))).trans (Ag.zsi (by unfold LF; omega))
      have d98 : zi (zsi (zsi (zsi u1 0 15 (iN (psN tb nt k1))) 0 18 (-6)) 124 4 (zi (zsi u1 0 15 (iN (psN tb nt k1))) 124 4 + 1)) 98 1 = 0 := by
        rw [zi_ne (by decide), zi_ne (by decide), zi_ne (by decide)]
        exact v98
      have d15 : zi (zsi (zsi (zsi u1 0 15 (iN (psN tb nt k1))) 0 18 (-6)) 124 4 (zi (zsi u1 0 15 (iN (psN tb nt k1))) 124 4 + 1)) 0 15 = iN (psN tb nt k1) := by
        rw [zi_ne (by decide), zi_miss (by decide), zi_hit]
      have d18 : zi (zsi (zsi (zsi u1 0 15 (iN (psN tb nt k1))) 0 18 (-6)) 124 4 (zi (zsi u1 0 15 (iN (psN tb nt k1))) 124 4 + 1)) 0 18 = -6 := by
        rw [zi_ne (by decide), zi_hit]
      have d17 : zi (zsi (zsi (zsi u1 0 15 (iN (psN tb nt k1))) 0 18 (-6)) 124 4 (zi (zsi u1 0 15 (iN (psN tb nt k1))) 124 4 + 1)) 0 17 = zi σ 0 17 := by
        rw [zi_ne (by decide), zi_miss (by decide), zi_miss (by decide), cl 0 (by omega)]
      have d124 : ∀ j, j ≠ 4 → zi (zsi (zsi (zsi u1 0 15 (iN (psN tb nt k1))) 0 18 (-6)) 124 4 (zi (zsi u1 0 15 (iN (psN tb nt k1))) 124 4 + 1)) 124 j = zi σ 124 j := fun j hj => by
        rw [zi_miss hj, zi_ne (by decide), zi_ne (by decide), cl 124 (by omega)]
      have d4 : zi (zsi (zsi (zsi u1 0 15 (iN (psN tb nt k1))) 0 18 (-6)) 124 4 (zi (zsi u1 0 15 (iN (psN tb nt k1))) 124 4 + 1)) 124 4 = zi σ 124 4 + 1 := by
        rw [zi_hit, zi_ne (by decide), cl 124 (by omega)]
      have dc : ∀ a, 125 ≤ a → zi (zsi (zsi (zsi u1 0 15 (iN (psN tb nt k1))) 0 18 (-6)) 124 4 (zi (zsi u1 0 15 (iN (psN tb nt k1))) 124 4 + 1)) a = zi σ a := fun a ha => by
        rw [zi_ne (by omega), zi_ne (by omega), zi_ne (by omega), cl a (by omega)]
      have Eb := E1.trans Ea
      generalize (zsi (zsi (zsi u1 0 15 (iN (psN tb nt k1))) 0 18 (-6)) 124 4 (zi (zsi u1 0 15 (iN (psN tb nt k1))) 124 4 + 1)) = u2 at x8 d98 d15 d18 d17 d124 d4 dc Eb
      have S2 := hS.ag Eb
      obtain ⟨u3, x3, E3, y3⟩ := h9 u2 S2 ⟨B0.1, B0.2.1, by rw [dc 134 (by decide)]; exact B0.2.2.1, by rw [dc 125 (by decide)]; exact B0.2.2.2⟩ (hW.gg Eb (fun a j q => by unfold LF at q; unfold fCW; simp; omega)) (by rw [dc 127 (by decide)]; exact R5)
      obtain ⟨u4, x4, E4, w18, w13, w20⟩ := law9_f y3
      have c3 : ∀ a k, ¬ ((a = 125 ∧ k ≠ 1 ∧ k ≠ 52) ∨ (135 ≤ a ∧ a ≤ 139)) → zi u4 a k = zi u2 a k := fun a k hn => by
        rw [(E4.2.2.2.2 a k (fun q => hn (by unfold Ste at q; omega))).1, (E3.2.2.2.2 a k (fun q => hn (by have := q.is; omega))).1]
      have Et : Ag LF σ (zsi (zsi u4 125 1 (-6)) 126 6 (zi u4 126 6 + 1)) := (((Eb.trans (E3.mono (fun a k q => q.lf))).trans (E4.mono (fun a k q => by unfold Ste at q; unfold LF; omega))).trans (Ag.zsi (by unfold LF; omega))).trans (Ag.zsi (by unfold LF; omega))
      refine Both.mk x8 (x3.trans x4) (relF hr (GG.ofAg Et) (fun j => by rw [Et.2.2.2.1]) ?_ ?_ ?_ ?_ ?_ ?_) (S2.2.1 125 (by decide)).1
      · rw [zi_ne (by decide), zi_ne (by decide), c3 98 1 (by omega)]
        exact d98
      · rw [zi_ne (by decide), zi_miss (by decide)]
        exact w13
      · rw [zi_ne (by decide), zi_ne (by decide), c3 0 15 (by omega), zi_ne (by decide), zi_miss (by decide), w18]
        exact d15
      · rw [zi_ne (by decide), zi_ne (by decide), c3 0 17 (by omega), zi_ne (by decide), zi_miss (by decide), c3 125 52 (by omega), dc 125 (by decide), d17]
        exact hM.2.2.1
      · rw [zi_ne (by decide), zi_miss (by decide)]
        exact w20
      · have q : RfF (-6) (-6) (zi (zsi (zsi u4 125 1 (-6)) 126 6 (zi u4 126 6 + 1)) 124) (zi (zsi (zsi u4 125 1 (-6)) 126 6 (zi u4 126 6 + 1)) 126) := by
          refine RfF.b4 hR (fun j hj => ?_) ?_ (fun j hj => ?_) ?_
          · rw [zi_ne (by decide), zi_ne (by decide), c3 124 j (by omega)]
            exact d124 j hj
          · rw [zi_ne (by decide), zi_ne (by decide), c3 124 4 (by omega)]
            exact d4
          · rw [zi_miss hj, zi_ne (by decide), c3 126 j (by omega), dc 126 (by decide)]
          · rw [zi_hit, c3 126 6 (by omega), dc 126 (by decide)]
        have e1 : zi (zsi (zsi u4 125 1 (-6)) 126 6 (zi u4 126 6 + 1)) 0 18 = -6 := by
          rw [zi_ne (by decide), zi_ne (by decide), c3 0 18 (by omega)]
          exact d18
        have e2 : zi (zsi (zsi u4 125 1 (-6)) 126 6 (zi u4 126 6 + 1)) 125 1 = -6 := by
          rw [zi_ne (by decide), zi_hit]
        unfold Rf
        rw [e1, e2]
        exact q
    | some l =>
      obtain ⟨s0, s1, t, E0, v98, cl, G, ht, hTx, x8⟩ := h8
      subst ht
      have z156 := hS.1
      have E1 : GG LSw σ s1 := (GG.ofAg (E0.mono (fun a k q => Or.inl q))).trans (GG.ofGr G)
      have Ea : GG LSw s1 (zsi (zsi (zsr (zsi s1 0 15 (-1)) 16 nL (some (zn σ))) 1 17 (iN (nL + 1))) 0 18 0) := (((GG.ofAg (Ag.zsi (by unfold LSw LF; omega))).trans GG.zsr).trans (GG.ofAg (Ag.zsi (by unfold LSw LF; omega)))).trans (GG.ofAg (Ag.zsi (by unfold LSw LF; omega)))
      have lowS : ∀ a, a < 156 → zi s1 a = zi s0 a := fun a ha => (G.2 a (by rw [E0.1]; omega)).2.2.2.1
      have zr1 : zr s1 16 = zr σ 16 := ((G.2 16 (by rw [E0.1]; omega)).2.2.1).trans (by rw [E0.2.2.2.1])
      have d98 : zi (zsi (zsi (zsr (zsi s1 0 15 (-1)) 16 nL (some (zn σ))) 1 17 (iN (nL + 1))) 0 18 0) 98 1 = 0 := by
        rw [zi_ne (by decide), zi_ne (by decide)]
        show zi (zsi s1 0 15 (-1)) 98 1 = 0
        rw [zi_ne (by decide), lowS 98 (by decide)]
        exact v98
      have d15 : zi (zsi (zsi (zsr (zsi s1 0 15 (-1)) 16 nL (some (zn σ))) 1 17 (iN (nL + 1))) 0 18 0) 0 15 = -1 := by
        rw [zi_miss (by decide), zi_ne (by decide)]
        show zi (zsi s1 0 15 (-1)) 0 15 = -1
        exact zi_hit
      have d18 : zi (zsi (zsi (zsr (zsi s1 0 15 (-1)) 16 nL (some (zn σ))) 1 17 (iN (nL + 1))) 0 18 0) 0 18 = 0 := zi_hit
      have d17 : zi (zsi (zsi (zsr (zsi s1 0 15 (-1)) 16 nL (some (zn σ))) 1 17 (iN (nL + 1))) 0 18 0) 0 17 = zi σ 0 17 := by
        rw [zi_miss (by decide), zi_ne (by decide)]
        show zi (zsi s1 0 15 (-1)) 0 17 = _
        rw [zi_miss (by decide), lowS 0 (by decide), cl 0 (by omega)]
      have dH : zi (zsi (zsi (zsr (zsi s1 0 15 (-1)) 16 nL (some (zn σ))) 1 17 (iN (nL + 1))) 0 18 0) 1 17 = iN (nL + 1) := by
        rw [zi_ne (by decide), zi_hit]
      have dH1 : ∀ k, k ≠ 17 → zi (zsi (zsi (zsr (zsi s1 0 15 (-1)) 16 nL (some (zn σ))) 1 17 (iN (nL + 1))) 0 18 0) 1 k = zi σ 1 k := fun k hk => by
        rw [zi_ne (by decide), zi_miss hk]
        show zi (zsi s1 0 15 (-1)) 1 k = _
        rw [zi_ne (by decide), lowS 1 (by decide), cl 1 (by omega)]
      have dc : ∀ a, 106 ≤ a → a < 156 → zi (zsi (zsi (zsr (zsi s1 0 15 (-1)) 16 nL (some (zn σ))) 1 17 (iN (nL + 1))) 0 18 0) a = zi σ a := fun a h1 h2 => by
        rw [zi_ne (by omega), zi_ne (by omega)]
        show zi (zsi s1 0 15 (-1)) a = _
        rw [zi_ne (by omega), lowS a h2, cl a (by omega)]
      have dr : ∀ j, zr (zsi (zsi (zsr (zsi s1 0 15 (-1)) 16 nL (some (zn σ))) 1 17 (iN (nL + 1))) 0 18 0) 16 j = if j = nL then some (zn σ) else zr σ 16 j := fun j => by
        show up2 (zr s1) 16 nL (some (zn σ)) 16 j = _
        rw [up2_eq, zr1]
      have E2 := E1.trans Ea
      have hTx2 := hTx.gg Ea
      generalize (zsi (zsi (zsr (zsi s1 0 15 (-1)) 16 nL (some (zn σ))) 1 17 (iN (nL + 1))) 0 18 0) = u2 at x8 d98 d15 d18 d17 dH dH1 dc dr E2 hTx2
      have S2 := E2.sk hS
      have CW2 : CW (mask2 σ u2) := hW.gg E2.ag (fun a k q => by unfold LSw LF at q; unfold fCW; simp; omega)
      obtain ⟨u3, x3, E3, y3⟩ := h9 u2 S2 ⟨B0.1, B0.2.1, by rw [dc 134 (by decide) (by decide)]; exact B0.2.2.1, by rw [dc 125 (by decide) (by decide)]; exact B0.2.2.2⟩ CW2 (by rw [dc 127 (by decide) (by decide)]; exact R5)
      obtain ⟨q1, c1, hX, he, h21, hl, hrow⟩ := y3
      have hc1 : c1 ≤ 400 := by
        have a := hX.2.2.2.2.2
        have b := hX.1.2.2.2.1
        omega
      have c3 : ∀ a k, ¬ ((a = 125 ∧ k ≠ 1 ∧ k ≠ 13 ∧ k ≠ 52) ∨ (135 ≤ a ∧ a ≤ 139)) → zi u3 a k = zi u2 a k := fun a k hn => (E3.2.2.2.2 a k (fun q => hn (by have := q.is; omega))).1
      obtain ⟨u4, x4, E4, w1, w13, w20, w5, wl, wr, wo⟩ := law9_t (nL := nL) hX he h21 hl hc1 (by rw [c3 127 5 (by omega), dc 127 (by decide) (by decide)]; exact R5) hn
      have c4 : ∀ a k, ¬ ((a = 125 ∧ k ≠ 52) ∨ (135 ≤ a ∧ a ≤ 139) ∨ (a = 127 ∧ (k = 5 ∨ (178 + 900 * nL ≤ k ∧ k < 178 + 900 * nL + 900)))) → zi u4 a k = zi u2 a k := fun a k hn => by
        rw [(E4.2.2.2.2 a k (fun q => hn (by unfold Slk at q; omega))).1, c3 a k (by omega)]
      have E24 : GG LSw u2 u4 := (GG.ofAg (S := LSw) (E3.mono (fun a k q => Or.inl q.lf))).trans (GG.ofAg (S := LSw) (E4.mono (fun a k q => by unfold Slk at q; unfold LSw LF; omega)))
      have zr4 : zr u4 = zr u2 := E4.2.2.2.1.trans E3.2.2.2.1
      refine Both.mk x8 (x3.trans x4) (law_kept hr.1 hC hU hn (E2.trans E24) (fun j => by rw [zr4]; exact dr j) (hTx2.gg E24) ?_ (fun k hk => ?_) w5 (fun i h1 h2 => ?_) (fun j hj x hx => ?_) hl hc1 hrow wl wr (fun k hk => wo k hk) ?_ w13 ?_ ?_ w20 (hR.of ?_ ?_ ?_)) (S2.2.1 125 (by decide)).1
      · rw [c4 1 17 (by omega)]
        exact dH
      · rw [c4 1 k (by omega)]
        exact dH1 k hk
      · rw [c4 127 i (by omega), dc 127 (by decide) (by decide)]
      · rw [c4 127 _ (by omega), dc 127 (by decide) (by decide)]
      · rw [c4 98 1 (by omega)]
        exact d98
      · rw [c4 0 15 (by omega), d15, (E4.2.2.2.2 125 18 (by unfold Slk; omega)).1]
        exact hX.1.2.2.2.2.2.2.symm
      · rw [c4 0 17 (by omega), c4 125 52 (by omega), d17, dc 125 (by decide) (by decide)]
        exact hM.2.2.1
      · rw [c4 0 18 (by omega), d18, w1]
      · exact funext fun k => by rw [c4 124 k (by omega), dc 124 (by decide) (by decide)]
      · exact funext fun k => by rw [c4 126 k (by omega), dc 126 (by decide) (by decide)]
end V44
