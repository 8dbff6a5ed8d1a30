/-! ===== dusks ===== -/
section V40
variable {σ : Hp}
def TDu (a k : Nat) : Prop := SD 39 a ∨ S8 a k ∨ (a = 0 ∧ (k = 12 ∨ k = 18)) ∨ S9 a k ∨ a = 146 ∨ a = 127 ∨ (a = 125 ∧ (k = 1 ∨ k = 54 ∨ k = 56 ∨ k = 57)) ∨ a = 155 ∨ (a = 130 ∧ 368 ≤ k)
theorem TDu.cases {a k : Nat} (h : TDu a k) : (39 ≤ a ∧ a < 54) ∨ (a = 18 ∨ a = 19 ∨ a = 56 ∨ a = 57) ∨ (a = 0 ∧ (k = 12 ∨ k = 18)) ∨ (143 ≤ a ∧ a ≤ 146) ∨ a = 127 ∨ (a = 125 ∧ (k = 0 ∨ k = 34 ∨ k = 38 ∨ k = 39 ∨ k = 40 ∨ k = 1 ∨ k = 54 ∨ k = 56 ∨ k = 57)) ∨ a = 155 ∨ (a = 130 ∧ 368 ≤ k) := by
  unfold TDu SD S8 S9 at h
  omega
theorem TDu.parts {a k : Nat} (h : TDu a k) : fTp a k = true ∧ fSm a k = true ∧ fCW a = true ∧ fCr 1 a = true ∧ fCr 59 a = true ∧ fCr 78 a = true ∧ a ≠ 124 ∧ a ≠ 126 ∧ a < 156 ∧ a ≠ 97 ∧ a ≠ 128 ∧ a ≠ 129 := by
  have hq := h.cases
  have c1 : fCr 1 a = true := by unfold fCr; simp; omega
  have c6 : fCr 59 a = true := by unfold fCr; simp; omega
  have c7 : fCr 78 a = true := by unfold fCr; simp; omega
  have c2 : fCW a = true := by unfold fCW; simp; omega
  have c3 : fTp a k = true := by unfold fTp; simp; omega
  have c4 : fSm a k = true := by unfold fSm; simp; omega
  exact ⟨c3, c4, c2, c1, c6, c7, by omega, by omega, by omega, by omega, by omega, by omega⟩
theorem S8d.td {a k : Nat} (h : S8d a k) : TDu a k := by
  unfold S8d Sb at h
  unfold TDu SD S8 at *
  omega
theorem S9d.td {a k : Nat} (h : S9d a k) : TDu a k := by
  rcases h with (q | q | q) | q
  · exact Or.inr (Or.inr (Or.inr (Or.inl q)))
  · unfold TDu; omega
  · unfold TDu; omega
  · unfold TDu; omega
theorem b_dusks {p1 p2 : Int32} (hr : Rel σ) : Both (s_X8_dusks 0 p1 p2) (s_X9_dusks 125 p1 p2) σ := by
  obtain ⟨⟨hS, ⟨nt, hT⟩, hR, hM, hW, hD, hI⟩, nP, nF, nB, nT, nS, nL, B, n, hC, hU⟩ := id hr
  have k8 := q_ck0 hS
  have bad1 : (∀ t : Hp, s_X9_in (Int32.toInt64 p1) 0 1000000 t = some (0, t) ∨ (s_X9_in (Int32.toInt64 p1) 0 1000000 t = some (1, t) ∧ s_X9_in (Int32.toInt64 p2) 1 60 t = some (0, t))) → (p1 < 0 ∨ 1000000 < p1 ∨ p2 < 1 ∨ ¬ p2 ≤ 60) → Both (s_X8_dusks 0 p1 p2) (s_X9_dusks 125 p1 p2) σ := by
    intro h9 h8
    have rf := ref8_1 hS
    refine Both.bad (s := -1) (x := 0) (y := 1) hr (by decide) ?_ (fun t ht e1 => ?_)
    · by_cases c1 : p1 < 0
      · simp only [s_X8_dusks, s_X8_dusks_j22, c1, k8, rf, z10', if_true, if_false, bind_ok, Option.bind_some, cb_some]
      · by_cases c2 : 1000000 < p1
        · simp only [s_X8_dusks, s_X8_dusks_j22, c1, c2, k8, rf, z10', if_true, if_false, bind_ok, Option.bind_some, cb_some]
        · by_cases c3 : p2 < 1
          · simp only [s_X8_dusks, s_X8_dusks_j22, c1, c2, c3, k8, rf, z10', if_true, if_false, bind_ok, Option.bind_some, cb_some]
          · have c4 : ¬ p2 ≤ 60 := by
              rcases h8 with q | q | q | q
              · exact absurd q c1
              · exact absurd q c2
              · exact absurd q c3
              · exact q
            simp only [s_X8_dusks, s_X8_dusks_j22, c1, c2, c3, c4, k8, rf, z10', if_true, if_false, bind_ok, Option.bind_some, cb_some]
    · have w := q_w125 (k := 0) (v := 0) ht
      have th : SK (zsi t 125 0 0) := ht
      have bk := q_ck125 th
      have tl := tell9_1 th
      rw [zi_ne (by decide)] at tl
      rcases h9 (zsi t 125 0 0) with q | ⟨q1, q2⟩
      · simp only [s_X9_dusks, s_X9_dusks_j29, w, q, bk, tl, z10', if_true, if_false, bind_ok, Option.bind_some, cb_some]
      · simp only [s_X9_dusks, s_X9_dusks_j29, w, q1, q2, bk, tl, z10', if_true, if_false, bind_ok, Option.bind_some, cb_some]
  rcases nx p1 (c := 1000001) (by omega) with ⟨s, hs, rfl⟩ | hx
  · have i9 : ∀ t : Hp, s_X9_in (Int32.toInt64 (iN s)) 0 1000000 t = some (1, t) := fun t => ino_t (c := 1000001) (by decide) hs rfl rfl
    rcases nx1 p2 (c := 61) (by omega) with ⟨N, hN1, hN2, rfl⟩ | hx
    · have i9b : ∀ t : Hp, s_X9_in (Int32.toInt64 (iN N)) 1 60 t = some (1, t) := fun t => in_t (by rw [iN64 (by omega)]; show (1 : Int) ≤ _; omega) (by rw [iN64 (by omega)]; show _ ≤ (60 : Int); omega)
      have c1 : ¬ iN s < 0 := iN_nn (by omega)
      have c2 : ¬ 1000000 < iN s := fun q => absurd ((iN_lt (a := 1000000) (by decide) (by omega)).mp q) (by omega)
      have c3 : ¬ iN N < 1 := fun q => absurd ((iN_lt (b := 1) (by omega) (by decide)).mp q) (by omega)
      have c4 : iN N ≤ 60 := (iN_le (b := 60) (by omega) (by decide)).mpr (by omega)
      have m8 : M8 1 nP nF nB nT nS nL 999 B (zi σ 127) σ := ⟨Or.inl rfl, hS.hk1, hC.2.1, hC.1, hC.2.2.2, hC.2.2.1⟩
      have hF4 := m8.f4
      have r0 := q_r0_0 hS
      have i13 := h_i0 (k := 13) hS.hk1
      rw [hC.2.1.g1, hC.1.2.1.2.1] at i13
      by_cases hF : 0 < nF
      · have hP : 0 < nP := by
          have h1 := (hC.1.on (f := 0) (by decide)).2 hF
          obtain ⟨x, x1, x2⟩ := (hC.1.on (f := 0) (by decide)).1
          have h10 := m8.p10
          rw [x2] at h1
          have := (iN_lt (by omega) (by omega)).mp h1
          omega
        have f1 : ¬ iN nF < 1 := fun q => absurd ((iN_lt (b := 1) (by omega) (by decide)).mp q) (by omega)
        have h0 := h_r0_0 hS.hk1
        have i3 := h_i1 (k := 3) hS.hk1
        rw [hC.2.1.g0, hC.1.2.1.1] at i3
        have hP10 := m8.p10
        have f2 : (1 : Int32) ≤ iN nP := (iN_le (a := 1) (by decide) (by omega)).mpr hP
        have r2 := q_r0_2 hS
        have k39 := h_ck0 hS.hk39
        obtain ⟨hh, hh1, hh2⟩ := bd_hour m8
        obtain ⟨s1, a1, a2, a3, a4⟩ := copyFrom8 hS.hk39 hS.hk1 (show Apart 39 1 by unfold Apart; omega) (fun j hj => hI.2.2.k 1 (Or.inl rfl) j hj)
        have F1 : Fr TDu 39 σ s1 := a2.fr (fun a k q => Or.inl q)
        have S1 := F1.sk hS (by omega)
        have wz := q_wz0 (k := 12) (v := 1) (Or.inr rfl) S1
        have F2 : Fr TDu 39 σ (zsi s1 0 12 1) := F1.then (Ag.zsi (Or.inr (Or.inr (Or.inl ⟨rfl, Or.inl rfl⟩))))
        have S2 := F2.sk hS (by omega)
        have P : ∀ a j, TDu a j → _ := fun a j q => q.parts
        have C39 : Cr 39 (zsi s1 0 12 1) nP nF nB nT nS nL 999 B (zi σ 127) := hC.copied F2 (by omega) (fun a j q => (P a j q).2.2.2.2.2.2.2.2.1) ((a3 _ hC.2.1).congr (fun o ho => zi_ne (by omega))) (fun j hj => a4 j hj)
        have M2 : M8 39 nP nF nB nT nS nL 999 B (zi σ 127) (zsi s1 0 12 1) := ⟨Or.inr rfl, S2.hk39, C39.2.1, C39.1, C39.2.2.2, C39.2.2.1⟩
        have n13 : zi (zsi s1 0 12 1) 1 13 = iN nF := by
          rw [zi_ne (by decide), (a2.2.2.2.1 1 13 (by unfold SD; omega)).1]
          exact (hC.2.1.g1).trans hC.1.2.1.2.1
        have n3 : zi (zsi s1 0 12 1) 2 3 = iN nP := by
          rw [zi_ne (by decide), (a2.2.2.2.1 2 3 (by unfold SD; omega)).1]
          exact (hC.2.1.g0).trans hC.1.2.1.1
        have e12 : zi (zsi s1 0 12 1) 0 12 = 1 := zi_hit
        have e18 : zi (zsi s1 0 12 1) 1 18 = zi σ 127 10 := by
          rw [zi_ne (by decide), (a2.2.2.2.1 1 18 (by unfold SD; omega)).1]
          exact hC.2.1.g10
        have e127a : zi (zsi s1 0 12 1) 127 = zi σ 127 := by
          rw [zi_ne (by decide)]
          exact funext fun k => (a2.2.2.2.1 127 k (by unfold SD; omega)).1
        generalize zsi s1 0 12 1 = s2 at wz F2 S2 C39 M2 n13 n3 e12 e18 e127a
        obtain ⟨s3, b1, b2, b3⟩ := duskL8 hF hP (show N < 2147483648 by omega) N (zi σ 127) s hh 0 s2 (by omega) M2 S2 n13 n3 hh2 hh1 (by omega)
        have b1 : s_X8_dusks_l81 (0, iN N, iN s, 0) s2 = _ := b1
        obtain ⟨c, d1, d2⟩ := hC.1.caught
        obtain ⟨c2', d3, d4, d5⟩ := dkR_10 (B := B) (nB := nB) hF hP N (zi σ 127) s hh c hC.1 d1 d2
        have S3 := S2.ag b2
        have F3 : Fr TDu 39 σ s3 := F2.then (b2.mono (fun a k q => q.td))
        have r2' := q_r0_2 S3
        have i18 := h_i0 (k := 18) b3.2.1
        rw [b3.2.2.1.g10, d5] at i18
        have r0' := q_r0_0 S3
        have j18 := h_i0 (k := 18) S3.hk1
        rw [(b2.2.2.2.2 1 18 (by unfold S8d Sb S8; omega)).1, e18, d2] at j18
        have k8' := q_ck0 S3
        have ed : iN c2' - iN c = iN (c2' - c) := iN_sub d3
        have gr := grant8 S3 (v := iN (c2' - c))
        have S4 : SK (zsi s3 0 18 0) := S3
        have x8 : s_X8_dusks 0 (iN s) (iN N) σ = some (iN (c2' - c), zsi s3 0 18 0) := by
          simp only [s_X8_dusks, s_X8_dusks_j189, c1, c2, c3, c4, r0, i13, f1, h0, i3, f2, r2, k39, a1, wz, b1, r2', i18, r0', j18, k8', ed, gr, z10', if_true, if_false, bind_ok, Option.bind_some, cb_some]
        have F4 : Fr TDu 39 σ (zsi s3 0 18 0) := F3.then (Ag.zsi (Or.inr (Or.inr (Or.inl ⟨rfl, Or.inr rfl⟩))))
        have w := q_w125 (k := 0) (v := 0) S4
        have F5 : Fr TDu 39 σ (zsi (zsi s3 0 18 0) 125 0 0) := F4.then (Ag.zsi (Or.inr (Or.inr (Or.inr (Or.inl (Or.inr ⟨rfl, Or.inl rfl⟩))))))
        have U0 : SK (zsi (zsi s3 0 18 0) 125 0 0) := S3
        have e127 : zi (zsi (zsi s3 0 18 0) 125 0 0) 127 = zi σ 127 := by
          rw [zi_ne (by decide), zi_ne (by decide)]
          exact (funext fun k => (b2.2.2.2.2 127 k (by unfold S8d Sb S8; omega)).1).trans e127a
        have e39 : ∀ a k, 39 ≤ a → a < 54 → zi (zsi (zsi s3 0 18 0) 125 0 0) a k = zi s3 a k := fun a k q1 q2 => by
          rw [zi_ne (by omega), zi_ne (by omega)]
        have e012 : zi (zsi (zsi s3 0 18 0) 125 0 0) 0 12 = 1 := by
          rw [zi_ne (by omega), zi_miss (by decide), (b2.2.2.2.2 0 12 (by unfold S8d Sb S8; omega)).1]
          exact e12
        have e018 : zi (zsi (zsi s3 0 18 0) 125 0 0) 0 18 = 0 := by
          rw [zi_ne (by omega), zi_hit]
        generalize zsi (zsi s3 0 18 0) 125 0 0 = u0 at w F5 U0 e127 e39 e012 e018
        have M0 : M9 nP nF nB nT nS nL 999 B (zi σ 127) u0 := ⟨U0, e127, hC.1, hC.2.2.1, (F5.1.2.2.2.2 125 20 (fun q => by have := q.cases; omega)).1.trans hM.2.2.2⟩
        have bk := q_ck125 U0
        have b30 := q_r125_3 U0
        have l1 : ldI 11 u0 127 1 = some (iN nF) := by
          rw [show (1 : Int32) = iN 1 from rfl, q_ld127 (by omega) U0, e127, hC.1.2.1.2.1]
        have nz : ¬ iN nF = 0 := fun q => absurd ((iN_inj (b := 0) (by omega) (by decide)).mp q) (by omega)
        obtain ⟨u1, g1, g2, g3, g4⟩ := keep9 U0 (k := 16) (by decide)
        have g1 : s_X9_keepAll 125 16 u0 = _ := g1
        have F6 : Fr TDu 39 σ u1 := F5.then (g2.mono (fun a k q => by unfold TDu; unfold Cp at q; omega))
        have M1 : M9 nP nF nB nT nS nL 999 B (zi σ 127) u1 := M0.row (g2.mono (fun a k q => Or.inl (Or.inr (Or.inr (by unfold Cp at q; omega))))) ((funext fun k => (g2.2.2.2.2 127 k (by unfold Cp; omega)).1).trans e127) hC.1
        have wj : wrJ 9 u1 125 54 (Int32.toInt64 (iN s)) = some (zsj u1 125 54 (jN s)) := by
          rw [j_iN (by omega)]
          exact q_wj125 M1.1
        have M2' := m9_j (v := jN s) M1
        have hj : zj (zsj u1 125 54 (jN s)) 125 54 = jN s := zj_hit
        have F7 : Fr TDu 39 σ (zsj u1 125 54 (jN s)) := F6.then (Ag.zsj (by unfold TDu; omega))
        have z130 : ∀ i, i < 23 → zi (zsj u1 125 54 (jN s)) 130 (23 * 16 + i) = zi u0 127 (7 + i) := g3
        have o39 : ∀ a k, (a < 39 ∨ (39 ≤ a ∧ a < 54)) → zi (zsj u1 125 54 (jN s)) a k = zi u0 a k := fun a k q => (g2.2.2.2.2 a k (by unfold Cp; omega)).1
        generalize zsj u1 125 54 (jN s) = u2 at wj M2' hj F7 z130 o39
        have b32 := q_r125_3 M2'.1
        have l10 : ldI 11 u2 127 10 = some (iN c) := by
          rw [show (10 : Int32) = iN 10 from rfl, q_ld127 (by omega) M2'.1, M2'.2.1, d2]
        obtain ⟨u3, t1, t2, t3⟩ := duskL9 (l3 := iN c) hF hP (show N < 2147483648 by omega) N (zi σ 127) s hh 0 u2 (by omega) M2' hj hh2 hh1 (by omega)
        have t1 : s_X9_dusks_l74 (125, iN N, iN c, 0) u2 = _ := t1
        generalize dkR B nP nF nB N (zi σ 127) s hh = R' at b3 d5 t3
        obtain ⟨u4, v1, v2, v3⟩ := dusk_keep t3.1 (l3 := iN c)
        have S4' := t3.1.ag v2
        have e4 : zi u4 127 = R' := (funext fun k => (v2.2.2.2.2 127 k (by unfold Cp; omega)).1).trans t3.2.1
        have b34 := q_r125_3 S4'
        have l1' : ldI 11 u4 127 1 = some (iN nF) := by
          rw [show (1 : Int32) = iN 1 from rfl, q_ld127 (by omega) S4', e4, t3.2.2.1.2.1.2.1]
        have w56 := q_w125 (k := 56) (v := iN nF) S4'
        have S5' : SK (zsi u4 125 56 (iN nF)) := S4'
        have b35 := q_r125_3 S5'
        have l2' : ldI 11 (zsi u4 125 56 (iN nF)) 127 2 = some (iN nB) := by
          rw [show (2 : Int32) = iN 2 from rfl, q_ld127 (by omega) S5', zi_ne (by decide), e4, t3.2.2.1.2.1.2.2.1]
        have w57 := q_w125 (k := 57) (v := iN nB) S5'
        have S6' : SK (zsi (zsi u4 125 56 (iN nF)) 125 57 (iN nB)) := S4'
        have b36 := q_r125_3 S6'
        have l10' : ldI 11 (zsi (zsi u4 125 56 (iN nF)) 125 57 (iN nB)) 127 10 = some (iN c2') := by
          rw [show (10 : Int32) = iN 10 from rfl, q_ld127 (by omega) S6', zi_ne (by decide), zi_ne (by decide), e4, d5]
        have bk6 := q_ck125 S6'
        obtain ⟨u7, y1, y2, y3, -⟩ := put9 S6' (k := 16) (by decide)
        have y1 : s_X9_putBack 125 16 _ = _ := y1
        have S7' := S6'.ag y2
        have bk7 := q_ck125 S7'
        have tl := tell9 S7' (n := c2' - c) (by omega)
        have x9 : s_X9_dusks 125 (iN s) (iN N) (zsi s3 0 18 0) = some (iN (c2' - c), zsi u7 125 1 0) := by
          simp only [s_X9_dusks, s_X9_dusks_j174, w, i9, i9b, b30, l1, nz, bk, g1, wj, b32, l10, t1, v1, b34, l1', w56, b35, l2', w57, b36, l10', bk6, y1, bk7, ed, tl, z10', if_true, if_false, bind_ok, Option.bind_some, cb_some]
        have E : Fr TDu 39 σ (zsi u7 125 1 0) := (((((F7.then (t2.mono (fun a k q => q.td))).then (v2.mono (fun a k q => by unfold TDu; unfold Cp at q; omega))).then (Ag.zsi (by unfold TDu; omega))).then (Ag.zsi (by unfold TDu; omega))).then (y2.mono (fun a k q => by unfold TDu; unfold Cp at q; omega))).then (Ag.zsi (by unfold TDu; omega))
        -- what stands of the class's after the reference's run
        have low : ∀ a k, (a < 39 ∨ (39 ≤ a ∧ a < 54)) → zi (zsi u7 125 1 0) a k = zi u0 a k := fun a k q => by
          rw [zi_ne (by omega), (y2.2.2.2.2 a k (by unfold Cp; omega)).1, zi_ne (by omega), zi_ne (by omega), (v2.2.2.2.2 a k (by unfold Cp; omega)).1, (t2.2.2.2.2 a k (fun q2 => by unfold S9d S9t S9 at q2; omega)).1, o39 a k q]
        have n127 : zi (zsi u7 125 1 0) 127 = zi σ 127 := by
          rw [zi_ne (by decide)]
          refine funext fun k => ?_
          by_cases ck : 7 ≤ k ∧ k < 30
          · obtain ⟨i, hi, rfl⟩ : ∃ i, i < 23 ∧ k = 7 + i := ⟨k - 7, by omega, by omega⟩
            rw [y3 i hi, zi_ne (by decide), zi_ne (by decide), (v2.2.2.2.2 130 _ (by unfold Cp; omega)).1, (t2.2.2.2.2 130 _ (fun q2 => by unfold S9d S9t S9 at q2; omega)).1, z130 i hi, e127]
          · rw [(y2.2.2.2.2 127 k (by unfold Cp; omega)).1, zi_ne (by decide), zi_ne (by decide), (v2.2.2.2.2 127 k (by unfold Cp; omega)).1, (t2.2.2.2.2 127 k (fun q2 => by unfold S9d S9t S9 at q2; omega)).1, M2'.2.1]
        have f56 : zi (zsi u7 125 1 0) 125 56 = iN nF := by
          rw [zi_miss (by decide), (y2.2.2.2.2 125 56 (by unfold Cp; omega)).1, zi_miss (by decide), zi_hit]
        have f57 : zi (zsi u7 125 1 0) 125 57 = iN nB := by
          rw [zi_miss (by decide), (y2.2.2.2.2 125 57 (by unfold Cp; omega)).1, zi_hit]
        have f1' : zi (zsi u7 125 1 0) 125 1 = 0 := zi_hit
        have f155 : ∀ i, i < 23 → zi (zsi u7 125 1 0) 155 i = R' (7 + i) := fun i hi => by
          rw [zi_ne (by decide), (y2.2.2.2.2 155 i (by unfold Cp; omega)).1, zi_ne (by decide), zi_ne (by decide), v3 i hi, t3.2.1]
        have hTf : Tp nt (mask σ (zsi u7 125 1 0)) := hT.gg E.1 (fun a j q => (P a j q).1)
        have hMf : Sm (mask σ (zsi u7 125 1 0)) := hM.gg E.1 (fun a j q => (P a j q).2.1)
        have hWf : CW (mask σ (zsi u7 125 1 0)) := hW.gg E.1 (fun a j q => (P a j q).2.2.1)
        have f97 : ∀ j, zi (zsi u7 125 1 0) 97 j = zi σ 97 j := fun j => (E.1.2.2.2.2 97 j (fun q => (P _ _ q).2.2.2.2.2.2.2.2.2.1 rfl)).1
        have f128 : ∀ j, zi (zsi u7 125 1 0) 128 j = zi σ 128 j := fun j => (E.1.2.2.2.2 128 j (fun q => (P _ _ q).2.2.2.2.2.2.2.2.2.2.1 rfl)).1
        have f129 : ∀ j, zi (zsi u7 125 1 0) 129 j = zi σ 129 j := fun j => (E.1.2.2.2.2 129 j (fun q => (P _ _ q).2.2.2.2.2.2.2.2.2.2.2 rfl)).1
        have S8' : SK (zsi u7 125 1 0) := S7'
        have cf : ∀ a k, ¬ TDu a k → zi (zsi u7 125 1 0) a k = zi σ a k := fun a k q => (E.1.2.2.2.2 a k q).1
        generalize zsi u7 125 1 0 = u8 at x9 E low n127 f56 f57 f1' f155 hTf hMf hWf f97 f128 f129 S8' cf
        refine Both.mk x8 x9 ⟨⟨S8', ⟨nt, hTf⟩, ?_, hMf, hWf, ?_, ?_⟩, nP, nF, nB, nT, nS, nL, B, n, ?_, ?_⟩ (S4.2.1 125 (by decide)).1
        · exact hR.of ((low 0 18 (by omega)).trans (e018.trans f1'.symm)) (funext fun j => cf 124 j (fun q => (P _ _ q).2.2.2.2.2.2.1 rfl)) (funext fun j => cf 126 j (fun q => (P _ _ q).2.2.2.2.2.2.2.1 rfl))
        · refine Or.inr ⟨(low 0 12 (by omega)).trans e012, nF, nB, hF4, m8.b3, ?_, f56, ?_, f57, fun i hi => ?_, fun i hi => ?_⟩
          · rw [low 39 13 (by omega), e39 39 13 (by omega) (by omega)]
            exact b3.2.2.1.g1.trans b3.2.2.2.1.2.1.2.1
          · rw [low 39 14 (by omega), e39 39 14 (by omega) (by omega)]
            exact b3.2.2.1.g2.trans b3.2.2.2.1.2.1.2.2.1
          · rw [low 46 i (by omega), e39 46 i (by omega) (by omega), f155 (10 + i) (by omega), show 7 + (10 + i) = 17 + i by omega]
            exact b3.2.2.1.on (by omega)
          · have := m8.b3
            rw [low 47 i (by omega), e39 47 i (by omega) (by omega), f155 (14 + i) (by omega), show 7 + (14 + i) = 21 + i by omega]
            exact b3.2.2.1.sow (by omega)
        · refine ⟨?_, ?_, fun b hb j hj => ?_⟩
          · exact (hI.1.fr E (by omega) (by omega) (fun a j q => (P a j q).2.2.2.2.1)).low (f97 0) (f129 0) (fun i _ => f128 i)
          · exact (hI.2.1.fr E (by omega) (by omega) (fun a j q => (P a j q).2.2.2.2.2.1)).low (f97 1) (f129 1) (fun i _ => f128 _)
          · rw [E.2 _ _ (by omega), show zk u8 = zk σ from E.1.2.1, show zn u8 = zn σ from E.1.1]
            exact hI.2.2 b hb j hj
        · rw [n127]
          exact hC.fr E (by omega) (by omega) (fun a j q => (P a j q).2.2.2.1)
        · refine hU.pp (cf 109 1 (fun q => by have := q.cases; omega)) (cf 125 8 (fun q => by have := q.cases; omega)) (funext fun k => cf 110 k (fun q => by have := q.cases; omega)) (funext fun k => cf 131 k (fun q => by have := q.cases; omega)) n127 (fun k hk => cf 130 k (fun q => by have := q.cases; omega))
      · have e0 : nF = 0 := by omega
        subst e0
        have f1 : iN 0 < 1 := by decide
        have rf := ref8_3 hS
        refine Both.bad (s := -3) (x := 2) (y := 3) hr (by decide) ?_ (fun t ht e1 => ?_)
        · simp only [s_X8_dusks, s_X8_dusks_j53, c1, c2, c3, c4, r0, i13, f1, k8, rf, z10', if_true, if_false, bind_ok, Option.bind_some, cb_some]
        · have w := q_w125 (k := 0) (v := 0) ht
          have th : SK (zsi t 125 0 0) := ht
          have bk := q_ck125 th
          have b3 := q_r125_3 th
          have l1 : ldI 11 (zsi t 125 0 0) 127 1 = some (iN 0) := by
            rw [show (1 : Int32) = iN 1 from rfl, q_ld127 (by omega) th, zi_ne (by decide), e1, hC.1.2.1.2.1]
          have z0 : iN 0 = 0 := rfl
          have tl := tell9_3 th
          rw [zi_ne (by decide)] at tl
          simp only [s_X9_dusks, w, i9, i9b, b3, l1, z0, bk, tl, z10', if_true, if_false, bind_ok, Option.bind_some, cb_some]
    · refine bad1 (fun t => Or.inr ⟨i9 t, in1_f (c := 61) (by decide) hx rfl rfl⟩) ?_
      by_cases c3 : p2 < 1
      · exact Or.inr (Or.inr (Or.inl c3))
      · exact Or.inr (Or.inr (Or.inr (no1_le hx c3 (d := 60) (by decide) (by decide))))
  · refine bad1 (fun t => Or.inl (ino_f (c := 1000001) (by decide) hx rfl rfl)) ?_
    rcases hx with q | q
    · exact Or.inl q
    · exact Or.inr (Or.inl (Int32.lt_of_lt_of_le (by decide) q))
end V40
