/-! ===== undo ===== -/
section V34
variable {σ : Hp} {nP nF nB nT nS nL n : Nat} {B : Book} {R : Nat → Int32}
/-- the row with what was kept of it -/
def lowR (u R : Nat → Int32) (n i : Nat) : Int32 := if 7 ≤ i ∧ i < 30 then u (23 * n + (i - 7)) else R i
theorem lowR_eq {u R R2 : Nat → Int32} (h : ∀ i, i < 23 → u (23 * n + i) = R2 (7 + i)) (h2 : ∀ i, ¬ (7 ≤ i ∧ i < 30) → R2 i = R i) : lowR u R n = R2 := funext fun i => by
  unfold lowR
  by_cases c : 7 ≤ i ∧ i < 30
  · rw [if_pos c, h (i - 7) (by omega), show 7 + (i - 7) = i by omega]
  · rw [if_neg c, h2 i c]
def SU (a k : Nat) : Prop := SH a k ∨ (a = 109 ∧ k = 1)
theorem UnF.last {l1 l2 : Int32} {d so u R : Nat → Int32} (h : UnF nP nF nT (n + 1) l1 l2 d so u R) : UStep nP nF nT (fun m => d (7 * n + m)) (so n) (fun i => u (23 * n + i)) (fun i => R (7 + i)) := by
  refine (h.2.2.2 n (by omega)).congr (fun _ _ => rfl) rfl (fun i hi => ?_) (fun i hi => ?_)
  · unfold snap
    rw [if_neg (by omega)]
  · unfold snap
    rw [if_pos rfl]
theorem Rel.undid {sC tE : Hp} (hr : Rel σ) (hC : Cr 1 σ nP nF nB nT nS nL 999 B (zi σ 127)) (hU : Un nP nF nT (n + 1) σ)
    (e1 : Ag SU σ sC) (d1 : zi sC 109 1 = iN n) (e2 : Ag (fun a k => (a = 125 ∧ k = 8) ∨ Cp 127 7 23 a k) (zsi (zsi sC 0 18 0) 125 0 0) tE) (r1 : zi tE 125 8 = iN n) (r2 : zi tE 127 = lowR (zi σ 130) (zi σ 127) n)
    (hH : HHm 1 sC (lowR (zi σ 130) (zi σ 127) n)) : Rel (zsi tE 125 1 0) := by
  have E1 : Ag TD σ sC := e1.mono (fun a k q => q.elim Or.inl (fun w => Or.inr (Or.inr (Or.inl (Or.inr w)))))
  have E2 : Ag TD sC (zsi (zsi sC 0 18 0) 125 0 0) := (Ag.zsi (Or.inr (Or.inr (Or.inr (Or.inr (Or.inr ⟨rfl, rfl⟩)))))).trans (Ag.zsi (Or.inr (Or.inr (Or.inr (Or.inr (Or.inl ⟨rfl, Or.inl rfl⟩))))))
  have E3 : Ag TD (zsi (zsi sC 0 18 0) 125 0 0) tE := e2.mono (fun a k q => q.elim (fun w => Or.inr (Or.inr (Or.inr (Or.inl (Or.inr (Or.inr w)))))) (fun w => Or.inr (Or.inl (Or.inr ⟨w.1, w.2.1, by have := w.2.2; omega⟩))))
  have E4 : Ag TD tE (zsi tE 125 1 0) := Ag.zsi (Or.inr (Or.inr (Or.inr (Or.inr (Or.inl ⟨rfl, Or.inr rfl⟩)))))
  have E := ((E1.trans E2).trans E3).trans E4
  obtain ⟨⟨hS, ⟨nt, hT⟩, hR, hM, hw, hD, hI⟩, -⟩ := hr
  have k8 : ∀ a j, a ≤ 124 → ¬ (a = 0 ∧ j = 18) → zi (zsi tE 125 1 0) a j = zi sC a j := fun a j ha hn => by
    rw [zi_ne (by omega), (e2.2.2.2.2 a j (by
      rintro (q | q)
      · omega
      · have := q.1; omega)).1, zi_ne (by omega), zi_free hn]
  have k9 : ∀ a j, a = 131 ∨ a = 130 ∨ a = 110 → zi (zsi tE 125 1 0) a j = zi σ a j := fun a j ha => by
    have n8 : ¬ SU a j := by
      rintro ((q | q) | q)
      · rcases q with q | q
        · unfold S8 at q; omega
        · omega
      · omega
      · omega
    rw [zi_ne (by omega), (e2.2.2.2.2 a j (by
      rintro (q | q)
      · omega
      · have := q.1; omega)).1, zi_ne (by omega), zi_ne (by omega), (e1.2.2.2.2 a j n8).1]
  have f127 : zi (zsi tE 125 1 0) 127 = lowR (zi σ 130) (zi σ 127) n := (zi_ne (by decide)).trans r2
  have hl := hU.last
  have hW : WF nP nF nB nT nS nL 999 (lowR (zi σ 130) (zi σ 127) n) := by
    obtain ⟨h1, h2, h3, h4⟩ := hC.1
    have lo : ∀ i, i < 7 → lowR (zi σ 130) (zi σ 127) n i = zi σ 127 i := fun i hi => if_neg (by omega)
    refine ⟨h1, ?_, ?_, fun i h5 h6 => ?_⟩
    · rw [lo 0 (by decide), lo 1 (by decide), lo 2 (by decide), lo 3 (by decide), lo 4 (by decide), lo 5 (by decide)]
      exact h2
    · rw [lo 6 (by decide)]
      exact h3
    · by_cases c : 7 ≤ i ∧ i < 30
      · have := hl.2.1 (i - 7) (by omega)
        rw [show 7 + (i - 7) = i by omega] at this
        rw [show lowR (zi σ 130) (zi σ 127) n i = _ from if_pos c]
        exact this
      · rw [show lowR (zi σ 130) (zi σ 127) n i = _ from if_neg c]
        exact h4 i h5 h6
  refine ⟨⟨hS.ag E, ⟨nt, hT.gg E (fun _ _ q => q.parts.1)⟩, ?_, hM.gg E (fun _ _ q => q.parts.2.1), hw.gg E (fun _ _ q => q.parts.2.2.2.2.1), hD.gg E (fun _ _ q => q.parts.2.2.1), hI.gg E (fun _ _ q => q.parts.2.2.2.1)⟩, nP, nF, nB, nT, nS, nL, B, n, ?_, ?_⟩
  · refine hR.of ?_ (funext fun j => (E.2.2.2.2 124 j (fun q => q.parts.2.2.2.2.2.1 rfl)).1) (funext fun j => (E.2.2.2.2 126 j (fun q => q.parts.2.2.2.2.2.2.1 rfl)).1)
    rw [zi_hit, zi_ne (by decide), (e2.2.2.2.2 0 18 (by
      rintro (q | q)
      · omega
      · exact absurd q.1 (by decide))).1, zi_ne (by decide), zi_hit]
  · rw [f127]
    exact ⟨hW, hH.congr (fun o ho => funext fun j => k8 _ j (by omega) (by omega)), hC.2.2.1.td (fun i hi => if_neg (by omega)), hC.2.2.2.td E⟩
  · unfold Un
    obtain ⟨h1, h2, h3, h4⟩ := hU
    refine ⟨by omega, ?_, ?_, fun k hk => ?_⟩
    · rw [k8 109 1 (by decide) (by omega)]
      exact d1
    · rw [zi_miss (by decide)]
      exact r1
    · refine (h4 k (by omega)).congr (fun m hm => k9 110 _ (Or.inr (Or.inr rfl))) (k9 131 _ (Or.inl rfl)) (fun i hi => ?_) (fun i hi => ?_)
      · unfold snap
        rw [if_neg (by omega), if_neg (by omega), k9 130 _ (Or.inr (Or.inl rfl))]
      · unfold snap
        by_cases c : k + 1 = n
        · rw [if_pos c, if_neg (by omega), f127, show lowR (zi σ 130) (zi σ 127) n (7 + i) = _ from if_pos ⟨by omega, by omega⟩, c, show 7 + i - 7 = i by omega]
        · rw [if_neg c, if_neg (by omega), k9 130 _ (Or.inr (Or.inl rfl))]
theorem turn8 {s : Hp} (hK : HK 1 s) (hH : HHm 1 s R) {x y : Nat} (hx : x < 6) (hy : y < 6) (hxy : x ≠ y) :
    ∃ s1, s_X1_turnDoor 1 (iN x) (iN y) s = some ((), s1) ∧ Ag (fun a _ => a = 6) s s1 ∧ HHm 1 s1 (drR R x y) := by
  have ex : zi s 6 x = R (11 + x) := hH.doors hx
  have ey : zi s 6 y = R (11 + y) := hH.doors hy
  have hH1 : HHm 1 (zsi s (1 + 5) x (R (11 + x) ^^^ (1 <<< iN y))) _ := hH.set (by omega) (loc_doors x hx) _
  have hH2 : HHm 1 (zsi (zsi s 6 x (R (11 + x) ^^^ (1 <<< iN y))) 6 y (R (11 + y) ^^^ (1 <<< iN x))) (drR R x y) := hH1.set (by omega) (loc_doors y hy) _
  have K1 : HK 1 (zsi s 6 x (R (11 + x) ^^^ (1 <<< iN y))) := hK
  have h1B := h_r0_1 hK
  have l5 : ldI 11 s (1 + 5) (iN x) = some (R (11 + x)) := (h_ld5 (n := x) hx hK).trans (congrArg some ex)
  have s5 : stI s (1 + 5) (iN x) (R (11 + x) ^^^ (1 <<< iN y)) = some (zsi s 6 x (R (11 + x) ^^^ (1 <<< iN y))) := h_st5 hx hK
  have h1C := h_r0_1 K1
  have m5 : ldI 11 (zsi s 6 x (R (11 + x) ^^^ (1 <<< iN y))) (1 + 5) (iN y) = some (R (11 + y)) := (h_ld5 (n := y) hy K1).trans (congrArg some ((zi_miss (fun e => hxy e.symm)).trans ey))
  have t5 : stI (zsi s 6 x (R (11 + x) ^^^ (1 <<< iN y))) (1 + 5) (iN y) (R (11 + y) ^^^ (1 <<< iN x)) = some (zsi (zsi s 6 x (R (11 + x) ^^^ (1 <<< iN y))) 6 y (R (11 + y) ^^^ (1 <<< iN x))) := h_st5 hy K1
  have ax8B := rm8_t (σ := s) hx
  have ay8B := rm8_t (σ := s) hy
  have fx := sh5 x hx
  have fy := sh5 y hy
  exact ⟨zsi (zsi s 6 x (R (11 + x) ^^^ (1 <<< iN y))) 6 y (R (11 + y) ^^^ (1 <<< iN x)), by simp only [s_X1_turnDoor, ax8B, ay8B, h1B, l5, fy, fx, s5, h1C, m5, t5, z10', if_true, if_false, bind_ok, Option.bind_some, cb_some], (Ag.zsi (S := fun a _ => a = 6) rfl).trans (Ag.zsi rfl), hH2⟩
/-- the class takes the last deed back -/
theorem takeBack8 (hS : SK σ) (hC : Cr 1 σ nP nF nB nT nS nL 999 B (zi σ 127)) (hU : Un nP nF nT (n + 1) σ) :
    ∃ sC, s_X0_takeBack 109 (some 1) σ = some (zi σ 131 n, sC) ∧ Ag SU σ sC ∧ zi sC 109 1 = iN n ∧ HHm 1 sC (lowR (zi σ 130) (zi σ 127) n) ∧ ∃ v, v < 4 ∧ zi σ 131 n = iN v := by
  have hn16 := hU.1
  have i1 := q_i109 (k := 1) hS
  rw [hU.2.1] at i1
  have ck := q_ck109 hS
  have f0 : (0 : Int32) < iN (n + 1) := (iN_lt (a := 0) (by decide) (by omega)).mpr (by omega)
  have f1 : iN (n + 1) ≤ 16 := (iN_le (b := 16) (by omega) (by decide)).mpr (by omega)
  have x1 := dn1 (m := n) (by omega)
  have w := q_w109 (k := 1) (v := iN n) hS
  have E0 : Ag SU σ (zsi σ 109 1 (iN n)) := Ag.zsi (Or.inr ⟨rfl, rfl⟩)
  have S0 := hS.ag E0
  have i2 := q_i109 (k := 1) S0
  rw [zi_hit] at i2
  have r0 := q_r109_0 S0
  have m7 : ∀ m, m < 8 → iN n * 7 + iN m = iN (7 * n + m) := fun m _ => by rw [show (7 : Int32) = iN 7 from rfl, iN_mul, iN_add, Nat.mul_comm]
  have ms0 := m7 0 (by decide)
  have ms1 := m7 1 (by decide)
  have ms2 := m7 2 (by decide)
  have ms3 := m7 3 (by decide)
  have ms4 := m7 4 (by decide)
  have ms0 : iN n * 7 + 0 = _ := ms0
  have ms1 : iN n * 7 + 1 = _ := ms1
  have ms2 : iN n * 7 + 2 = _ := ms2
  have ms3 : iN n * 7 + 3 = _ := ms3
  have ms4 : iN n * 7 + 4 = _ := ms4
  have l0 := q_ld110 (n := 7 * n + 0) (by omega) S0
  have l1 := q_ld110 (n := 7 * n + 1) (by omega) S0
  have l2 := q_ld110 (n := 7 * n + 2) (by omega) S0
  rw [zi_ne (by decide)] at l0 l1 l2
  have hK := S0.hk1
  have hH : HHm 1 (zsi σ 109 1 (iN n)) (zi σ 127) := hC.2.1.other (Or.inr (by decide))
  have k1 := h_ck0 hK
  obtain ⟨q0, q1, q2⟩ := hU.last
  have q0 : zi σ 110 (7 * n + 0) = zi σ 131 n := q0
  rw [q0] at l0
  have hF4 := hC.1.1.2.1
  have hT6 := hC.1.1.2.2.2.1
  rcases q2 with ⟨e0, f, hf, e1, e2⟩ | ⟨e0, t, ht, e1, e2⟩ | ⟨e0, x, y, hx, hy, hxy, e1, e1', e2⟩ | ⟨e0, e2⟩
  · have e1 : zi σ 110 (7 * n + 1) = iN f := e1
    rw [e0] at l0
    rw [e1] at l1
    have f8 := fk8_t hK (hH.g1.trans hC.1.2.1.2.1) hF4 hf
    have r3 := h_r0_3 hK
    have st : stI (zsi σ 109 1 (iN n)) (1 + 7) (iN f) (zi σ 110 (7 * n + 2)) = some (zsi (zsi σ 109 1 (iN n)) 8 f (zi σ 110 (7 * n + 2))) := h_st7 (by omega) hK
    refine ⟨zsi (zsi σ 109 1 (iN n)) 8 f (zi σ 110 (7 * n + 2)), ?_, E0.trans (Ag.zsi (Or.inl (Or.inr (by decide)))), by rw [zi_ne (by decide), zi_hit], ?_, 0, by decide, e0⟩
    · rw [e0]
      simp only [s_X0_takeBack, s_X0_isEmpty, ck, i1, f0, f1, x1, w, i2, r0, ms0, ms1, ms2, l0, l1, l2, k1, f8, r3, st, z10', if_true, if_false, bind_ok, Option.bind_some, cb_some]
    · have e : lowR (zi σ 130) (zi σ 127) n = up (zi σ 127) (17 + f) (zi σ 110 (7 * n + 2)) := lowR_eq (fun i hi => by
        refine (e2 i hi).trans ?_
        by_cases c : i = 10 + f
        · subst c
          rw [up_eq, show 7 + (10 + f) = 17 + f by omega, up_eq]
        · rw [up_ne c, up_ne (by omega)]) (fun i hi => up_ne (by omega))
      rw [e]
      exact hH.set (o := 7) (by omega) (loc_on f (by omega)) _
  · have e1 : zi σ 110 (7 * n + 1) = iN t := e1
    rw [e0] at l0
    rw [e1] at l1
    have f8 := th8_t hK (hH.g3.trans hC.1.2.1.2.2.2.1) hT6 ht
    have r3 := h_r0_5 hK
    have st : stI (zsi σ 109 1 (iN n)) (1 + 9) (iN t) (zi σ 110 (7 * n + 2)) = some (zsi (zsi σ 109 1 (iN n)) 10 t (zi σ 110 (7 * n + 2))) := h_st9 (by omega) hK
    have z0 : ¬ (1 : Int32) = 0 := by decide
    refine ⟨zsi (zsi σ 109 1 (iN n)) 10 t (zi σ 110 (7 * n + 2)), ?_, E0.trans (Ag.zsi (Or.inl (Or.inr (by decide)))), by rw [zi_ne (by decide), zi_hit], ?_, 1, by decide, e0⟩
    · rw [e0]
      simp only [s_X0_takeBack, s_X0_takeBack_j90, s_X0_isEmpty, ck, i1, f0, f1, x1, w, i2, r0, ms0, ms1, ms2, l0, l1, l2, z0, k1, f8, r3, st, z10', if_true, if_false, bind_ok, Option.bind_some, cb_some]
    · have e : lowR (zi σ 130) (zi σ 127) n = up (zi σ 127) (24 + t) (zi σ 110 (7 * n + 2)) := lowR_eq (fun i hi => by
        refine (e2 i hi).trans ?_
        by_cases c : i = 17 + t
        · subst c
          rw [up_eq, show 7 + (17 + t) = 24 + t by omega, up_eq]
        · rw [up_ne c, up_ne (by omega)]) (fun i hi => up_ne (by omega))
      rw [e]
      exact hH.set (o := 9) (by omega) (loc_lies t (by omega)) _
  · have e1 : zi σ 110 (7 * n + 1) = iN x := e1
    have e1' : zi σ 110 (7 * n + 2) = iN y := e1'
    rw [e0] at l0
    rw [e1] at l1
    rw [e1'] at l2
    have z0 : ¬ (2 : Int32) = 0 := by decide
    have z1 : ¬ (2 : Int32) = 1 := by decide
    obtain ⟨s1, t1, t2, t3⟩ := turn8 hK hH hx hy hxy
    refine ⟨s1, ?_, E0.trans (t2.mono (fun a k q => Or.inl (Or.inr (by omega)))), ((t2.2.2.2.2 109 1 (show ¬ ((109 : Nat) = 6) by decide)).1).trans zi_hit, ?_, 2, by decide, e0⟩
    · rw [e0]
      simp only [s_X0_takeBack, s_X0_takeBack_j90, s_X0_takeBack_j116, s_X0_isEmpty, ck, i1, f0, f1, x1, w, i2, r0, ms0, ms1, ms2, l0, l1, l2, z0, z1, k1, t1, z10', if_true, if_false, bind_ok, Option.bind_some, cb_some]
    · have e : lowR (zi σ 130) (zi σ 127) n = drR (zi σ 127) x y := lowR_eq (fun i hi => by
        refine (e2 i hi).trans ?_
        by_cases c : i = 4 + y
        · subst c
          rw [up_eq]
          show zi σ 127 (7 + (4 + y)) ^^^ _ = _
          unfold drR
          rw [show 7 + (4 + y) = 11 + y by omega, up_eq]
        · rw [up_ne c]
          by_cases c2 : i = 4 + x
          · subst c2
            rw [up_eq]
            show zi σ 127 (7 + (4 + x)) ^^^ _ = _
            unfold drR
            rw [show 7 + (4 + x) = 11 + x by omega, up_ne (by omega), up_eq]
          · rw [up_ne c2]
            unfold drR
            rw [up_ne (by omega), up_ne (by omega)]) (fun i hi => by
        unfold drR
        rw [up_ne (by omega), up_ne (by omega)])
      rw [e]
      exact t3
  · rw [e0] at l0
    have z0 : ¬ (3 : Int32) = 0 := by decide
    have z1 : ¬ (3 : Int32) = 1 := by decide
    have z2 : ¬ (3 : Int32) = 2 := by decide
    have l3 := q_ld110 (n := 7 * n + 3) (by omega) S0
    rw [zi_ne (by decide)] at l3
    have w18 : wrI 1 (zsi σ 109 1 (iN n)) 1 18 (zi σ 110 (7 * n + 3)) = some (zsi (zsi σ 109 1 (iN n)) 1 18 (zi σ 110 (7 * n + 3))) := h_w0 hK
    have E1 : Ag SU σ (zsi (zsi σ 109 1 (iN n)) 1 18 (zi σ 110 (7 * n + 3))) := E0.trans (Ag.zsi (Or.inl (Or.inr (by decide))))
    have H1 : HHm 1 (zsi (zsi σ 109 1 (iN n)) 1 18 (zi σ 110 (7 * n + 3))) (up (zi σ 127) 10 (zi σ 110 (7 * n + 3))) := hH.set (o := 0) (k := 18) (by decide) (by decide +kernel) _
    generalize hs1 : zsi (zsi σ 109 1 (iN n)) 1 18 (zi σ 110 (7 * n + 3)) = s1 at w18 E1 H1
    have S1 := hS.ag E1
    have r01 := q_r109_0 S1
    have r4 := h_r0_4 S1.hk1
    have no110 : ∀ j, ¬ SU 110 j := by
      rintro j ((q | q) | q)
      · exact S8p.n (by simp [free, fUn]) q
      · omega
      · omega
    have c110 : ∀ j, zi s1 110 j = zi σ 110 j := fun j => (E1.2.2.2.2 110 j (no110 j)).1
    obtain ⟨s2, a1, a2, a3⟩ := acopy_n (σ := s1) (a := 110) (b := 9) (sp := 7 * n + 4) (dp := 0) (n := 3) (La := 112) (Lb := 3) (S1.2.1 110 (by decide)).1 (S1.hk1.1 8 (by decide)).1 (by decide) (S1.2.1 110 (by decide)).2 (S1.hk1.1 8 (by decide)).2 (by omega) (by decide) (by decide) (by decide)
    have a1 : acopy s1 110 (iN (7 * n + 4)) (1 + 8) 0 3 = some s2 := a1
    have E2 : Ag SU σ s2 := E1.trans (a2.mono (fun a k q => Or.inl (Or.inr (by have := q.1; omega))))
    have S2 := hS.ag E2
    have H2 : HHm 1 s2 (up (up (up (up (zi σ 127) 10 (zi σ 110 (7 * n + 3))) (21 + 0) (zi σ 110 (7 * n + 4))) (21 + 1) (zi σ 110 (7 * n + 5))) (21 + 2) (zi σ 110 (7 * n + 6))) := by
      refine (((H1.set (o := 8) (by decide) (loc_sow 0 (by decide)) (zi σ 110 (7 * n + 4))).set (o := 8) (by decide) (loc_sow 1 (by decide)) (zi σ 110 (7 * n + 5))).set (o := 8) (by decide) (loc_sow 2 (by decide)) (zi σ 110 (7 * n + 6))).congr (fun o ho => funext fun k => ?_)
      by_cases c : 1 + o = 9 ∧ k < 3
      · obtain ⟨c1, c2⟩ := c
        obtain rfl : o = 8 := by omega
        match k, c2 with
        | 0, _ => exact ((a3 0 (by decide)).trans (c110 _)).trans ((zi_miss (by decide)).trans ((zi_miss (by decide)).trans zi_hit)).symm
        | 1, _ => exact ((a3 1 (by decide)).trans (c110 _)).trans ((zi_miss (by decide)).trans zi_hit).symm
        | 2, _ => exact ((a3 2 (by decide)).trans (c110 _)).trans zi_hit.symm
        | k + 3, h => exact absurd h (by omega)
      · rw [(a2.2.2.2.2 (1 + o) k (fun q => c ⟨q.1, by have := q.2.2; omega⟩)).1]
        rw [zi_free (by omega), zi_free (by omega), zi_free (by omega)]
    have r10 := h_r0_10 S2.hk1
    have l14 := h_ld14 (n := 0) (by decide) S2.hk1
    have e7 : zi s2 (1 + 14) 0 = zi σ 127 7 := by
      rw [H2.g7, up_ne (by decide), up_ne (by decide), up_ne (by decide), up_ne (by decide)]
    rw [e7] at l14
    have l14 : ldI 11 s2 (1 + 14) 0 = _ := l14
    have st : stI s2 (1 + 14) 0 (zi σ 127 7 - 1) = some (zsi s2 15 0 (zi σ 127 7 - 1)) := h_st14 (n := 0) (by decide) S2.hk1
    refine ⟨zsi s2 15 0 (zi σ 127 7 - 1), ?_, E2.trans (Ag.zsi (Or.inl (Or.inr (by decide)))), ?_, ?_, 3, by decide, e0⟩
    · rw [e0]
      simp only [s_X0_takeBack, s_X0_takeBack_j90, s_X0_takeBack_j116, s_X0_isEmpty, ck, i1, f0, f1, x1, w, i2, r0, ms0, ms1, ms2, ms3, ms4, l0, l1, l2, z0, z1, z2, l3, hs1, w18, r01, r4, a1, r10, l14, st, z10', if_true, if_false, bind_ok, Option.bind_some, cb_some]
    · rw [zi_ne (by decide), (a2.2.2.2.2 109 1 (fun q => absurd q.1 (by decide))).1, ← hs1, zi_ne (by decide), zi_hit]
    · have e : lowR (zi σ 130) (zi σ 127) n = up (up (up (up (up (zi σ 127) 10 (zi σ 110 (7 * n + 3))) (21 + 0) (zi σ 110 (7 * n + 4))) (21 + 1) (zi σ 110 (7 * n + 5))) (21 + 2) (zi σ 110 (7 * n + 6))) 7 (zi σ 127 7 - 1) := lowR_eq (fun i hi => by
        refine (e2 i hi).trans ?_
        by_cases c16 : i = 16
        · subst c16; rw [up_eq, up_ne (by decide), up_eq]
        rw [up_ne c16]
        by_cases c15 : i = 15
        · subst c15; rw [up_eq, up_ne (by decide), up_ne (by decide), up_eq]
        rw [up_ne c15]
        by_cases c14 : i = 14
        · subst c14; rw [up_eq, up_ne (by decide), up_ne (by decide), up_ne (by decide), up_eq]
        rw [up_ne c14]
        by_cases c3 : i = 3
        · subst c3; rw [up_eq, up_ne (by decide), up_ne (by decide), up_ne (by decide), up_ne (by decide), up_eq]
        rw [up_ne c3]
        by_cases c0 : i = 0
        · subst c0
          rw [up_eq, up_eq]
        · rw [up_ne c0, up_ne (by omega), up_ne (by omega), up_ne (by omega), up_ne (by omega), up_ne (by omega)]) (fun i hi => by
        rw [up_ne (by omega), up_ne (by omega), up_ne (by omega), up_ne (by omega), up_ne (by omega)])
      rw [e]
      exact H2.set (o := 14) (k := 0) (by decide) (by decide +kernel) _
theorem b_undo (hr : Rel σ) : Both (s_X8_undo 0) (s_X9_undo 125) σ := by
  obtain ⟨⟨hS, -, -, hM, -, -, -⟩, nP, nF, nB, nT, nS, nL, B, m, hC, hU⟩ := id hr
  have r8 := q_r0_8 hS
  have k109 := q_ck109 hS
  have i1 := q_i109 (k := 1) hS
  have hm := hU.1
  rw [hU.2.1] at i1
  match m, hm, hU, i1 with
  | 0, _, hU, i1 =>
    have f0 : ¬ (0 : Int32) < iN 0 := by decide
    have k8 := q_ck0 hS
    have st := settle_3 hS
    have h8 : s_X8_undo 0 σ = some (-3, zsi (zsi σ 0 18 (-3)) 124 2 (zi σ 124 2 + 1)) := by
      simp only [s_X8_undo, s_X8_undo_j27, s_X0_isEmpty, r8, k109, i1, f0, k8, st, z10', if_true, if_false, bind_ok, Option.bind_some, cb_some]
    have S1 : SK (zsi (zsi σ 0 18 (-3)) 124 2 (zi σ 124 2 + 1)) := hS
    have w := q_w125 (k := 0) (v := 0) S1
    have S2 : SK (zsi (zsi (zsi σ 0 18 (-3)) 124 2 (zi σ 124 2 + 1)) 125 0 0) := hS
    have bk := q_ck125 S2
    have i8 := q_i125 (k := 8) S2
    rw [zi_miss (by decide), zi_ne (by decide), zi_ne (by decide), hU.2.2.1, show iN 0 = (0 : Int32) from rfl] at i8
    have tl := tell9_3 S2
    generalize hz : zi (zsi (zsi (zsi σ 0 18 (-3)) 124 2 (zi σ 124 2 + 1)) 125 0 0) 126 3 + 1 = z at tl
    have h9 : s_X9_undo 125 (zsi (zsi σ 0 18 (-3)) 124 2 (zi σ 124 2 + 1)) = some (-3, zsi (zsi (zsi (zsi (zsi σ 0 18 (-3)) 124 2 (zi σ 124 2 + 1)) 125 0 0) 125 1 (-3)) 126 3 z) := by
      simp only [s_X9_undo, w, i8, bk, tl, z10', if_true, if_false, bind_ok, Option.bind_some, cb_some]
    exact Both.mk h8 h9 (hr.bad (by decide) (by rw [← hz, zi_ne (by decide), zi_ne (by decide), zi_ne (by decide)])) (S1.2.1 125 (by decide)).1
  | n + 1, hm, hU, i1 =>
    have f0 : (0 : Int32) < iN (n + 1) := (iN_lt (a := 0) (by decide) (by omega)).mpr (by omega)
    obtain ⟨sC, a1, a2, a3, a4, v, hv, ev⟩ := takeBack8 hS hC hU
    have SC := hS.ag a2
    have r0 := q_r0_0 hS
    have k8C := q_ck0 SC
    have gr := settle_n SC (n := v) (by omega)
    rw [ev] at a1
    -- the reference
    have SE : SK (zsi sC 0 18 0) := SC
    have S0 : SK (zsi (zsi sC 0 18 0) 125 0 0) := SC
    have w := q_w125 (k := 0) (v := 0) SE
    have i8 := q_i125 (k := 8) S0
    have n9 : ∀ a k, 124 ≤ a → ¬ SU a k := by
      rintro a k ha ((q | q) | q)
      · rcases q with q | q
        · unfold S8 at q; omega
        · omega
      · omega
      · omega
    have e8 : zi (zsi (zsi sC 0 18 0) 125 0 0) 125 8 = iN (n + 1) := by
      rw [zi_miss (by decide), zi_ne (by decide), (a2.2.2.2.2 125 8 (n9 _ _ (by decide))).1]
      exact hU.2.2.1
    rw [e8] at i8
    have z8 : ¬ iN (n + 1) = 0 := fun q => absurd ((iN_inj (b := 0) (by omega) (by decide)).mp q) (by omega)
    have x1 := dn1 (m := n) (by omega)
    have w8 := q_w125 (k := 8) (v := iN n) S0
    have S1 : SK (zsi (zsi (zsi sC 0 18 0) 125 0 0) 125 8 (iN n)) := SC
    have i81 := q_i125 (k := 8) S1
    rw [zi_hit] at i81
    have bk1 := q_ck125 S1
    obtain ⟨t1, p1, p2, p3, p4⟩ := put9 S1 (k := n) (by omega)
    have T1 := S1.ag p2
    have r7 := q_r125_7 T1
    have i82 := q_i125 (k := 8) T1
    rw [(p2.2.2.2.2 125 8 (fun q => absurd q.1 (by decide))).1, zi_hit] at i82
    have l131 := q_ld131 (n := n) (by omega) T1
    rw [(p2.2.2.2.2 131 n (fun q => absurd q.1 (by decide))).1, zi_ne (by decide), zi_ne (by decide), zi_ne (by decide), (a2.2.2.2.2 131 n (n9 _ _ (by decide))).1, ev] at l131
    have bk2 := q_ck125 T1
    have tl := tell9 T1 (n := v) (by omega)
    have c130 : ∀ j, zi (zsi (zsi (zsi sC 0 18 0) 125 0 0) 125 8 (iN n)) 130 j = zi σ 130 j := fun j => by
      rw [zi_ne (by decide), zi_ne (by decide), zi_ne (by decide), (a2.2.2.2.2 130 j (n9 _ _ (by decide))).1]
    have r2 : zi t1 127 = lowR (zi σ 130) (zi σ 127) n := funext fun i => by
      unfold lowR
      by_cases c : 7 ≤ i ∧ i < 30
      · have := p3 (i - 7) (by omega)
        rw [show 7 + (i - 7) = i by omega, c130] at this
        rw [if_pos c, this]
      · rw [if_neg c, (p2.2.2.2.2 127 i (fun q => c ⟨q.2.1, by have := q.2.2; omega⟩)).1, zi_ne (by decide), zi_ne (by decide), zi_ne (by decide), (a2.2.2.2.2 127 i (n9 _ _ (by decide))).1]
    have e2 : Ag (fun a k => (a = 125 ∧ k = 8) ∨ Cp 127 7 23 a k) (zsi (zsi sC 0 18 0) 125 0 0) t1 := (Ag.zsi (Or.inl ⟨rfl, rfl⟩)).trans (p2.mono (fun _ _ q => Or.inr q))
    refine Both.mk (r := iN v) (σ1 := zsi sC 0 18 0) (σ2 := zsi t1 125 1 0) ?_ ?_ (hr.undid hC hU a2 a3 e2 ?_ r2 a4) (SE.2.1 125 (by decide)).1
    · simp only [s_X8_undo, s_X8_undo_j27, s_X0_isEmpty, r8, k109, i1, f0, r0, a1, k8C, gr, z10', if_true, if_false, bind_ok, Option.bind_some, cb_some]
    · simp only [s_X9_undo, w, i8, z8, x1, w8, i81, bk1, p1, r7, i82, l131, bk2, tl, z10', if_true, if_false, bind_ok, Option.bind_some, cb_some]
    · rw [(p2.2.2.2.2 125 8 (fun q => absurd q.1 (by decide))).1, zi_hit]
end V34
