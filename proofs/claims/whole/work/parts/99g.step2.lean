/-! ===== put, door, pass within orders ===== -/
section STQ
variable {σ τ : Hp} {nP nF nB nT nS nL n : Nat} {B : Book} {R R1 : Nat → Int32}
theorem step_put (p1 p2 : Int32) : StepOK nP nF nB nT nS nL B (s_X8_tryPut 0 p1 p2) (s_X9_putNow 125 p1 p2) := by
  intro R n σ h
  obtain ⟨hS, m8, n1, hn16⟩ := id h
  have hw := m8.2.2.2.1
  have hT6 := hw.1.2.2.2.1
  have hP10 := m8.p10
  have c15 : zi σ 1 15 = iN nT := m8.2.2.1.g3.trans hw.2.1.2.2.2.1
  have r0 := q_r0_0 hS
  have k0 := h_ck0 m8.2.1
  have h0 := h_r0_0 m8.2.1
  have k1 := h_ck1 m8.2.1
  have w3 : R 3 = iN nT := hw.2.1.2.2.2.1
  have w0 : R 0 = iN nP := hw.2.1.1
  rcases nx p1 (c := nT) (by omega) with ⟨f, hf, rfl⟩ | hx
  · have f8 := th8_t m8.2.1 c15 hT6 hf
    rcases nx p2 (c := nP) (by omega) with ⟨q, hq, rfl⟩ | hx
    · have o8 := one_t m8.2.1 m8.c3 hP10 hq
      have h5 := h_r0_5 m8.2.1
      have l9 := h_ld9 (n := f) (by omega) m8.2.1
      rw [m8.2.2.1.lies (by omega)] at l9
      obtain ⟨⟨p, hp, ep⟩, -⟩ := hw.lies (t := f) (by omega)
      rw [ep] at l9
      by_cases same : p = q
      · subst same
        refine step_no h (v := -3) (Or.inr (Or.inr rfl)) (σ1 := σ) ?_ Ag.refl (fun t th => ?_)
        · simp only [s_X8_tryPut, r0, k0, f8, h0, k1, o8, h5, l9, z10', if_true, if_false, bind_ok, Option.bind_some, cb_some]
        · have m9t := th.1
          have bk := q_ck125 m9t.1
          have fk := th9_t m9t.1 (by rw [m9t.2.1]; exact w3) (Nat.le_trans hT6 (by decide)) hf
          have pc := pc9_t m9t.1 (by rw [m9t.2.1]; exact w0) hP10 hq
          have b3 := q_r125_3 m9t.1
          have l24 := m9t.ld24 (n := f) (by omega)
          rw [ep] at l24
          refine ⟨t, ?_, Ag.refl⟩
          simp only [s_X9_putNow, bk, fk, pc, b3, l24, z10', if_true, if_false, bind_ok, Option.bind_some, cb_some]
      · have ns : ¬ iN p = iN q := fun e => same ((iN_inj (by omega) (by omega)).mp e)
        obtain ⟨sB, d0, d1, d2, d3, d4⟩ := deed8 hS n1 hn16 (k := 1) (a := iN f) (b := iN p)
        have SB := hS.ag d1
        have hW1 : WF nP nF nB nT nS nL 999 (up R (24 + f) (iN q)) := hw.put (by omega) (by
          unfold okI
          rw [if_neg (by omega), if_neg (by omega), if_neg (by omega), if_neg (by omega), if_neg (by omega), if_neg (by omega), if_neg (by omega), if_pos (by omega)]
          exact ⟨⟨q, by omega, rfl⟩, fun _ => (iN_lt (by omega) (by omega)).mpr hq⟩)
        have ho : ∀ o, o < 15 → zi sB (1 + o) = zi σ (1 + o) := fun o ho => funext fun k => (d1.2.2.2.2 (1 + o) k (by rintro (q | q) <;> omega)).1
        have hHC : HHm 1 (zsi sB 10 f (iN q)) (up R (24 + f) (iN q)) := m8.2.2.1.row1 (by omega) (loc_lies f (by omega)) ho (fun _ _ => rfl)
        have SE2 : Ag SH sB (zsi sB 10 f (iN q)) := Ag.zsi (Or.inr (by decide))
        have SC : SK (zsi sB 10 f (iN q)) := SB.ag SE2
        have E8 : Ag SO8 σ (zsi sB 10 f (iN q)) := (d1.mono (fun _ _ q => Or.inr q)).trans (SE2.mono (fun _ _ q => Or.inl q))
        have r0B := q_r0_0 SB
        have h5B := h_r0_5 SB.hk1
        have st9 : stI sB (1 + 9) (iN f) (iN q) = some (zsi sB 10 f (iN q)) := h_st9 (by omega) SB.hk1
        have r8 := q_r0_8 hS
        have k109 := q_ck109 hS
        have nC : zi (zsi sB 10 f (iN q)) 109 1 = iN (stay n + 1) := (congrFun (zi_ne (by decide)) 1).trans d2
        have hst := stay_lt hn16
        generalize zsi sB 10 f (iN q) = sC at hHC SE2 SC E8 st9 nC
        refine ⟨iN p, sC, up R (24 + f) (iN q), stay n + 1, ?_, ⟨SC, m8.low SC (E8.mono (fun _ _ q => q.td)) hHC hW1 (fun i hi => up_ne (by omega)), nC, by omega⟩, E8, Or.inr (Or.inr (Or.inr ⟨p, by omega, rfl⟩)), fun τ h9 hd => ?_⟩
        · simp only [s_X8_tryPut, r0, k0, f8, h0, k1, o8, h5, l9, ns, r8, k109, d0, r0B, h5B, st9, z10', if_true, if_false, bind_ok, Option.bind_some, cb_some]
        · have m9E := h9.1
          have bk := q_ck125 m9E.1
          have fk := th9_t m9E.1 (by rw [m9E.2.1]; exact w3) (Nat.le_trans hT6 (by decide)) hf
          have pc := pc9_t m9E.1 (by rw [m9E.2.1]; exact w0) hP10 hq
          have b3 := q_r125_3 m9E.1
          have l24 := m9E.ld24 (n := f) (by omega)
          rw [ep] at l24
          obtain ⟨t2, g0, r1, r2, r3, r4, r5, r6⟩ := remember9 m9E.1 h9.2 hn16 (k := 1)
          have St2 := m9E.1.ag r1
          have b32 := q_r125_3 St2
          have sf : stI t2 127 (24 + iN f) (iN q) = some (zsi t2 127 (24 + f) (iN q)) := by
            rw [show (24 : Int32) = iN 24 from rfl, iN_add]
            exact q_st127 (by omega) St2
          have e127 : zi t2 127 = R := by
            rw [← m9E.2.1]
            exact funext fun k => (r1.2.2.2.2 127 k (by rintro (q | q | q) <;> omega)).1
          have eR : zi (zsi t2 127 (24 + f) (iN q)) 127 = up R (24 + f) (iN q) := by rw [zi_up, e127]
          have E5 : Ag S9t t2 (zsi t2 127 (24 + f) (iN q)) := Ag.zsi (Or.inr (Or.inr ⟨rfl, by omega, by omega⟩))
          have E9 : Ag SO9 τ (zsi t2 127 (24 + f) (iN q)) := (r1.mono (fun _ _ q => Or.inr q)).trans (E5.mono (fun _ _ q => Or.inl q))
          have D := hd.more Ag.refl d1 d2 d3 d4 SE2 Ag.refl m9E.2.1 r2 r3 r4 r5 r6 E5 (R1 := up R (24 + f) (iN q)) (ustep1 hw hf rfl rfl (by show iN p = _; exact ep.symm))
          refine ⟨_, ?_, ⟨m9E.low (E9.mono (fun _ _ q => q.td)) eR hW1, D.2.2.1⟩, D, E9⟩
          simp only [s_X9_putNow, bk, fk, pc, b3, l24, ns, g0, b32, sf, z10', if_true, if_false, bind_ok, Option.bind_some, cb_some]
    · have o8 := one_f m8.2.1 m8.c3 hx
      refine step_no h (v := -2) (Or.inr (Or.inl rfl)) (σ1 := σ) ?_ Ag.refl (fun t th => ?_)
      · simp only [s_X8_tryPut, r0, k0, f8, h0, k1, o8, z10', if_true, if_false, bind_ok, Option.bind_some, cb_some]
      · have th2 := th.1
        have bk := q_ck125 th2.1
        have fk := th9_t th2.1 (by rw [th2.2.1]; exact w3) (Nat.le_trans hT6 (by decide)) hf
        have pc := pc9_f th2.1 (by rw [th2.2.1]; exact w0) hP10 hx
        refine ⟨t, ?_, Ag.refl⟩
        simp only [s_X9_putNow, bk, fk, pc, z10', if_true, if_false, bind_ok, Option.bind_some, cb_some]
  · have f8 := th8_f m8.2.1 c15 hx
    refine step_no h (v := -2) (Or.inr (Or.inl rfl)) (σ1 := σ) ?_ Ag.refl (fun t th => ?_)
    · simp only [s_X8_tryPut, r0, k0, f8, z10', if_true, if_false, bind_ok, Option.bind_some, cb_some]
    · have th2 := th.1
      have bk := q_ck125 th2.1
      have fk := th9_f th2.1 (by rw [th2.2.1]; exact w3) (Nat.le_trans hT6 (by decide)) hx
      refine ⟨t, ?_, Ag.refl⟩
      simp only [s_X9_putNow, bk, fk, z10', if_true, if_false, bind_ok, Option.bind_some, cb_some]
theorem step_door (p1 p2 : Int32) : StepOK nP nF nB nT nS nL B (s_X8_tryDoor 0 p1 p2) (s_X9_doorNow 125 p1 p2) := by
  intro R n σ h
  obtain ⟨hS, m8, n1, hn16⟩ := id h
  have hw := m8.2.2.2.1
  have r0 := q_r0_0 hS
  rcases nx p1 (c := 6) (by omega) with ⟨x, hx, rfl⟩ | hx
  · have ax8 := rm8_t (σ := σ) hx
    rcases nx p2 (c := 6) (by omega) with ⟨y, hy, rfl⟩ | hy
    · have ay8 := rm8_t (σ := σ) hy
      by_cases same : x = y
      · subst same
        refine step_no h (v := -1) (Or.inl rfl) (σ1 := σ) ?_ Ag.refl (fun t th => ?_)
        · simp only [s_X8_tryDoor, ax8, z10', if_true, if_false, bind_ok, Option.bind_some, cb_some]
        · have ax := rm9_t (σ := t) hx
          refine ⟨t, ?_, Ag.refl⟩
          simp only [s_X9_doorNow, ax, z10', if_true, if_false, bind_ok, Option.bind_some, cb_some]
      · have ns : ¬ iN x = iN y := fun e => same ((iN_inj (by omega) (by omega)).mp e)
        obtain ⟨sB, d0, d1, d2, d3, d4⟩ := deed8 hS n1 hn16 (k := 2) (a := iN x) (b := iN y)
        have SB := hS.ag d1
        have hW1 := drR_wf hw hx hy
        have EB : Ag TD σ sB := d1.mono (fun _ _ q => Or.inr (Or.inr (Or.inl q)))
        have ho : ∀ o, o < 15 → zi sB (1 + o) = zi σ (1 + o) := fun o ho => funext fun k => (d1.2.2.2.2 (1 + o) k (by rintro (q | q) <;> omega)).1
        have hB : HHm 1 sB R := m8.2.2.1.congr ho
        have ex : zi sB 6 x = R (11 + x) := hB.doors hx
        have ey : zi sB 6 y = R (11 + y) := hB.doors hy
        have hH1 : HHm 1 (zsi sB (1 + 5) x (R (11 + x) ^^^ (1 <<< iN y))) _ := hB.set (by omega) (loc_doors x hx) _
        have hH2 : HHm 1 (zsi (zsi sB 6 x (R (11 + x) ^^^ (1 <<< iN y))) 6 y (R (11 + y) ^^^ (1 <<< iN x))) (drR R x y) := hH1.set (by omega) (loc_doors y hy) _
        have E1 : Ag SH sB (zsi sB 6 x (R (11 + x) ^^^ (1 <<< iN y))) := Ag.zsi (Or.inr (by decide))
        have SE2 : Ag SH sB (zsi (zsi sB 6 x (R (11 + x) ^^^ (1 <<< iN y))) 6 y (R (11 + y) ^^^ (1 <<< iN x))) := E1.trans (Ag.zsi (Or.inr (by decide)))
        have S1 := SB.ag E1
        have SC := SB.ag SE2
        have EC : Ag TD σ (zsi (zsi sB 6 x (R (11 + x) ^^^ (1 <<< iN y))) 6 y (R (11 + y) ^^^ (1 <<< iN x))) := EB.trans (SE2.mono (fun _ _ q => Or.inl q))
        have m8C := m8.low SC EC hH2 hW1 (fun i hi => by unfold drR; rw [up_ne (by omega), up_ne (by omega)])
        have op := open8 m8C hx hy
        have r0B := q_r0_0 SB
        have k0B := h_ck0 SB.hk1
        have h1B := h_r0_1 SB.hk1
        have l5 := h_ld5 (n := x) hx SB.hk1
        have l5 : ldI 11 sB (1 + 5) (iN x) = some (R (11 + x)) := l5.trans (congrArg some ex)
        have s5 : stI sB (1 + 5) (iN x) (R (11 + x) ^^^ (1 <<< iN y)) = some (zsi sB 6 x (R (11 + x) ^^^ (1 <<< iN y))) := h_st5 hx SB.hk1
        have h1C := h_r0_1 S1.hk1
        have m5 : ldI 11 (zsi sB 6 x (R (11 + x) ^^^ (1 <<< iN y))) (1 + 5) (iN y) = some (R (11 + y)) := (h_ld5 (n := y) hy S1.hk1).trans (congrArg some ((zi_miss (fun e => same e.symm)).trans ey))
        have t5 : stI (zsi sB 6 x (R (11 + x) ^^^ (1 <<< iN y))) (1 + 5) (iN y) (R (11 + y) ^^^ (1 <<< iN x)) = some (zsi (zsi sB 6 x (R (11 + x) ^^^ (1 <<< iN y))) 6 y (R (11 + y) ^^^ (1 <<< iN x))) := h_st5 hy S1.hk1
        have ax8B := rm8_t (σ := sB) hx
        have ay8B := rm8_t (σ := sB) hy
        have fx := sh5 x hx
        have fy := sh5 y hy
        have td : s_X1_turnDoor 1 (iN x) (iN y) sB = some ((), zsi (zsi sB 6 x (R (11 + x) ^^^ (1 <<< iN y))) 6 y (R (11 + y) ^^^ (1 <<< iN x))) := by
          simp only [s_X1_turnDoor, ax8B, ay8B, h1B, l5, fy, fx, s5, h1C, m5, t5, z10', if_true, if_false, bind_ok, Option.bind_some, cb_some]
        have nC : zi (zsi (zsi sB 6 x (R (11 + x) ^^^ (1 <<< iN y))) 6 y (R (11 + y) ^^^ (1 <<< iN x))) 109 1 = iN (stay n + 1) := by
          rw [zi_ne (by decide), zi_ne (by decide)]
          exact d2
        generalize zsi (zsi sB 6 x (R (11 + x) ^^^ (1 <<< iN y))) 6 y (R (11 + y) ^^^ (1 <<< iN x)) = sC at *
        obtain ⟨v, hv, ev⟩ := bI_n (c := hbP (drR R x y (11 + x)) (iN y))
        have r0C := q_r0_0 SC
        have k0C := h_ck0 SC.hk1
        have r8 := q_r0_8 hS
        have k109 := q_ck109 hS
        have E8 : Ag SO8 σ sC := (d1.mono (fun _ _ q => Or.inr q)).trans (SE2.mono (fun _ _ q => Or.inl q))
        have hst := stay_lt hn16
        refine ⟨iN v, sC, drR R x y, stay n + 1, ?_, ⟨SC, m8C, nC, by omega⟩, E8, Or.inr (Or.inr (Or.inr ⟨v, by omega, rfl⟩)), fun τ h9 hd => ?_⟩
        · rw [ev] at op
          have hv2 : v = 0 ∨ v = 1 := by omega
          rcases hv2 with rfl | rfl
          · have op : s_X1_isOpen 1 (iN x) (iN y) sC = some (0, sC) := op
            simp only [s_X8_tryDoor, ax8, ay8, ns, r8, r0, k109, d0, r0B, k0B, td, r0C, k0C, op, z10', if_true, if_false, bind_ok, Option.bind_some, cb_some]
            rfl
          · have op : s_X1_isOpen 1 (iN x) (iN y) sC = some (1, sC) := op
            simp only [s_X8_tryDoor, ax8, ay8, ns, r8, r0, k109, d0, r0B, k0B, td, r0C, k0C, op, z10', if_true, if_false, bind_ok, Option.bind_some, cb_some]
            rfl
        · have m9E := h9.1
          have bk := q_ck125 m9E.1
          have ax := rm9_t (σ := τ) hx
          have ay := rm9_t (σ := τ) hy
          obtain ⟨t2, g0, r1, r2, r3, r4, r5, r6⟩ := remember9 m9E.1 h9.2 hn16 (k := 2)
          have St2 := m9E.1.ag r1
          have e127 : zi t2 127 = R := by
            rw [← m9E.2.1]
            exact funext fun k => (r1.2.2.2.2 127 k (by rintro (q | q | q) <;> omega)).1
          have b32 := q_r125_3 St2
          have l1 : ldI 11 t2 127 (11 + iN x) = some (R (11 + x)) := by
            rw [show (11 : Int32) = iN 11 from rfl, iN_add, q_ld127 (by omega) St2, e127]
          have u1 : ∀ v, stI t2 127 (11 + iN x) v = some (zsi t2 127 (11 + x) v) := fun v => by
            rw [show (11 : Int32) = iN 11 from rfl, iN_add]
            exact q_st127 (by omega) St2
          have u1 := u1 (R (11 + x) ^^^ (1 <<< iN y))
          have St3 : SK (zsi t2 127 (11 + x) (R (11 + x) ^^^ (1 <<< iN y))) := St2
          have b33 := q_r125_3 St3
          have l2 : ldI 11 (zsi t2 127 (11 + x) (R (11 + x) ^^^ (1 <<< iN y))) 127 (11 + iN y) = some (R (11 + y)) := by
            rw [show (11 : Int32) = iN 11 from rfl, iN_add, q_ld127 (by omega) St3, zi_miss (by omega), e127]
          have u2 : ∀ v, stI (zsi t2 127 (11 + x) (R (11 + x) ^^^ (1 <<< iN y))) 127 (11 + iN y) v = some (zsi (zsi t2 127 (11 + x) (R (11 + x) ^^^ (1 <<< iN y))) 127 (11 + y) v) := fun v => by
            rw [show (11 : Int32) = iN 11 from rfl, iN_add]
            exact q_st127 (by omega) St3
          have u2 := u2 (R (11 + y) ^^^ (1 <<< iN x))
          have St4 : SK (zsi (zsi t2 127 (11 + x) (R (11 + x) ^^^ (1 <<< iN y))) 127 (11 + y) (R (11 + y) ^^^ (1 <<< iN x))) := St2
          have eR : zi (zsi (zsi t2 127 (11 + x) (R (11 + x) ^^^ (1 <<< iN y))) 127 (11 + y) (R (11 + y) ^^^ (1 <<< iN x))) 127 = drR R x y := by
            rw [zi_up, zi_up, e127]
            rfl
          have E4 : Ag S9t t2 (zsi (zsi t2 127 (11 + x) (R (11 + x) ^^^ (1 <<< iN y))) 127 (11 + y) (R (11 + y) ^^^ (1 <<< iN x))) := (Ag.zsi (Or.inr (Or.inr ⟨rfl, by omega, by omega⟩))).trans (Ag.zsi (Or.inr (Or.inr ⟨rfl, by omega, by omega⟩)))
          have b34 := q_r125_3 St4
          have l3 : ldI 11 (zsi (zsi t2 127 (11 + x) (R (11 + x) ^^^ (1 <<< iN y))) 127 (11 + y) (R (11 + y) ^^^ (1 <<< iN x))) 127 (11 + iN x) = some (drR R x y (11 + x)) := by
            rw [show (11 : Int32) = iN 11 from rfl, iN_add, q_ld127 (by omega) St4, eR]
          have b01 := (bit01 (drR R x y (11 + x)) (iN y)).trans ev
          generalize zsi (zsi t2 127 (11 + x) (R (11 + x) ^^^ (1 <<< iN y))) 127 (11 + y) (R (11 + y) ^^^ (1 <<< iN x)) = tE at *
          rw [fy] at b01
          have E9 : Ag SO9 τ tE := (r1.mono (fun _ _ q => Or.inr q)).trans (E4.mono (fun _ _ q => Or.inl q))
          have D := hd.more Ag.refl d1 d2 d3 d4 SE2 Ag.refl m9E.2.1 r2 r3 r4 r5 r6 E4 (R1 := drR R x y) (ustep2 hw hx hy same rfl rfl rfl)
          refine ⟨tE, ?_, ⟨m9E.low (E9.mono (fun _ _ q => q.td)) eR hW1, D.2.2.1⟩, D, E9⟩
          simp only [s_X9_doorNow, bk, ax, ay, ns, g0, b32, l1, fy, u1, b33, l2, fx, u2, b34, l3, b01, z10', if_true, if_false, bind_ok, Option.bind_some, cb_some]
    · have ay8 := rm8_f (σ := σ) hy
      refine step_no h (v := -1) (Or.inl rfl) (σ1 := σ) ?_ Ag.refl (fun t th => ?_)
      · simp only [s_X8_tryDoor, ax8, ay8, z10', if_true, if_false, bind_ok, Option.bind_some, cb_some]
      · have ax := rm9_t (σ := t) hx
        have ay := rm9_f (σ := t) hy
        refine ⟨t, ?_, Ag.refl⟩
        simp only [s_X9_doorNow, ax, ay, z10', if_true, if_false, bind_ok, Option.bind_some, cb_some]
  · have ax8 := rm8_f (σ := σ) hx
    refine step_no h (v := -1) (Or.inl rfl) (σ1 := σ) ?_ Ag.refl (fun t th => ?_)
    · simp only [s_X8_tryDoor, ax8, z10', if_true, if_false, bind_ok, Option.bind_some, cb_some]
    · have ax := rm9_f (σ := t) hx
      refine ⟨t, ?_, Ag.refl⟩
      simp only [s_X9_doorNow, ax, z10', if_true, if_false, bind_ok, Option.bind_some, cb_some]
theorem step_pass : StepOK nP nF nB nT nS nL B (s_X8_tryPass 0) (s_X9_passNow 125) := by
  intro R n σ h
  obtain ⟨hS, m8, n1, hn16⟩ := id h
  obtain ⟨hh, hh1, hh2⟩ := bd_hour m8
  have hw := m8.2.2.2.1
  have r0 := q_r0_0 hS
  have r10 := h_r0_10 m8.2.1
  have l14 := h_ld14 (n := 0) (by decide) m8.2.1
  rw [m8.2.2.1.g7, hh2] at l14
  have l14 : ldI 11 σ (1 + 14) 0 = _ := l14
  by_cases full : hh = 999
  · have f1 : ¬ iN hh < 999 := fun q => absurd ((iN_lt (b := 999) (by omega) (by decide)).mp q) (by omega)
    refine step_no h (v := -3) (Or.inr (Or.inr rfl)) (σ1 := σ) ?_ Ag.refl (fun t th => ?_)
    · simp only [s_X8_tryPass, r0, r10, l14, f1, z10', if_true, if_false, bind_ok, Option.bind_some, cb_some]
    · have th2 := th.1
      have b3 := q_r125_3 th2.1
      have e7 : iN hh = 999 := by rw [full]; rfl
      have l7 : ldI 11 t 127 7 = some (iN hh) := by
        rw [show (7 : Int32) = iN 7 from rfl, q_ld127 (by omega) th2.1, th2.2.1, hh2]
      refine ⟨t, ?_, Ag.refl⟩
      simp only [s_X9_passNow, b3, l7, e7, z10', if_true, if_false, bind_ok, Option.bind_some, cb_some]
  · have f1 : iN hh < 999 := (iN_lt (b := 999) (by omega) (by decide)).mpr (by omega)
    have f9 : ¬ iN hh = 999 := fun q => full ((iN_inj (b := 999) (by omega) (by decide)).mp q)
    obtain ⟨sB, d0, d1, d2, d3, d4⟩ := deed8 hS n1 hn16 (k := 3) (a := 0) (b := 0)
    have SB := hS.ag d1
    have EB : Ag TD σ sB := d1.mono (fun _ _ q => Or.inr (Or.inr (Or.inl q)))
    have ho : ∀ o, o < 15 → zi sB (1 + o) = zi σ (1 + o) := fun o ho => funext fun k => (d1.2.2.2.2 (1 + o) k (by rintro (q | q) <;> omega)).1
    have m8B := m8.low SB EB (m8.2.2.1.congr ho) hw (fun _ _ => rfl)
    obtain ⟨sD, p1, p2, p3⟩ := passHour8 m8B (hr := hh) (by omega) hh2 (H2 := 999) (by omega) (by omega)
    have SD := SB.ag p2
    have SE2 : Ag SH sB sD := p2.mono (fun a k q => by
      rcases q with q | q | q | q
      · exact Or.inl (Or.inl q)
      · exact Or.inr (by omega)
      · exact Or.inr (by omega)
      · exact Or.inr (by omega))
    have E8 : Ag SO8 σ sD := (d1.mono (fun _ _ q => Or.inr q)).trans (SE2.mono (fun _ _ q => Or.inl q))
    have p4 := pcN_le (B := B) (R := R) (nB := nB) (hr := hh) nF
    have hF4 := m8.f4
    have r8 := q_r0_8 hS
    have k109 := q_ck109 hS
    have r0B := q_r0_0 SB
    have k0B := h_ck0 SB.hk1
    have nD : zi sD 109 1 = iN (stay n + 1) := by
      rw [(SE2.2.2.2.2 109 1 (by
        rintro (q | q)
        · exact S8p.n rfl q
        · omega)).1]
      exact d2
    have hst := stay_lt hn16
    refine ⟨iN (pcN B R nB hh nF), sD, psR B R nF nB hh, stay n + 1, ?_, ⟨SD, p3, nD, by omega⟩, E8, Or.inr (Or.inr (Or.inr ⟨_, by omega, rfl⟩)), fun τ h9 hd => ?_⟩
    · simp only [s_X8_tryPass, r0, r10, l14, f1, r8, k109, d0, r0B, k0B, p1, z10', if_true, if_false, bind_ok, Option.bind_some, cb_some]
    · have m9E := h9.1
      have bk := q_ck125 m9E.1
      have b3 := q_r125_3 m9E.1
      have l7 := q_ld127 (n := 7) (by decide) m9E.1
      rw [m9E.2.1, hh2] at l7
      have l7 : ldI 11 τ 127 7 = _ := l7
      obtain ⟨t2, g0, r1, r2, r3, r4, r5, r6⟩ := remember9 m9E.1 h9.2 hn16 (k := 3)
      have e127 : zi t2 127 = R := by
        rw [← m9E.2.1]
        exact funext fun k => (r1.2.2.2.2 127 k (by rintro (q | q | q) <;> omega)).1
      have m9t2 := m9E.low (r1.mono (fun _ _ q => Or.inr (Or.inr (Or.inr (Or.inl q))))) e127 hw
      have bk2 := q_ck125 m9t2.1
      obtain ⟨tE, x1, x2, x3⟩ := passIt9 m9t2 (hr := hh) (by omega) hh2 (H2 := 999) (by omega) (by omega)
      have D := hd.more Ag.refl d1 d2 d3 d4 SE2 Ag.refl m9E.2.1 r2 r3 r4 r5 r6 x2 (R1 := psR B R nF nB hh) (ustep3 hw m8.b3 hh2 rfl (m8.2.2.1.g10) (m8.2.2.1.sow (k := 0) (by decide)) (m8.2.2.1.sow (k := 1) (by decide)) (m8.2.2.1.sow (k := 2) (by decide)))
      refine ⟨tE, ?_, ⟨x3, D.2.2.1⟩, D, (r1.mono (fun _ _ q => Or.inr q)).trans (x2.mono (fun _ _ q => Or.inl q))⟩
      simp only [s_X9_passNow, bk, b3, l7, f9, g0, bk2, x1, z10', if_true, if_false, bind_ok, Option.bind_some, cb_some]
end STQ
