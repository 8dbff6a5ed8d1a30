/-! ===== tracks: where, meeting ===== -/
section V19
variable {σ : Hp}
/-- the room of a badger n hours on -/
def trP (B : Book) (R : Nat → Int32) (bd hr : Nat) : Nat → Int32
  | 0 => R (21 + bd)
  | n + 1 => goP B R (trP B R bd hr n).toNatClampNeg bd (hr + n)
/-- the row n hours on -/
def rowN (B : Book) (R : Nat → Int32) (nB hr : Nat) : Nat → Nat → Int32
  | 0 => R
  | n + 1 => goR B (rowN B R nB hr n) nB (hr + n)
section ON
variable {b nP nF nB nT nS nL H hr : Nat} {B : Book} {R : Nat → Int32}
theorem trP_n {bd : Nat} (h : WF nP nF nB nT nS nL H R) (hb : bd < 3) : ∀ n, ∃ r, r < 6 ∧ trP B R bd hr n = iN r
  | 0 => sow_n h hb
  | n + 1 => by
    obtain ⟨r, r1, r2⟩ := trP_n h hb n
    unfold trP
    rw [r2, iN_nat (by omega)]
    exact goP_n r1
theorem rowN_sq (hb : nB ≤ 3) : ∀ n, SQ R (rowN B R nB hr n)
  | 0 => fun _ _ _ => rfl
  | n + 1 => fun i h1 h2 => (goR_sq hb i h1 h2).trans (rowN_sq hb n i h1 h2)
theorem rowN_sow (h : WF nP nF nB nT nS nL H R) {bd : Nat} (hb : bd < nB) : ∀ n, rowN B R nB hr n (21 + bd) = trP B R bd hr n
  | 0 => rfl
  | n + 1 => by
    have hb3 := h.1.2.2.1
    obtain ⟨r, r1, r2⟩ := trP_n (B := B) (hr := hr) h (bd := bd) (by omega) n
    unfold rowN trP
    rw [goR_sow hb, rowN_sow h hb n, r2, iN_nat (by omega), (rowN_sq hb3 n).go r1]
theorem rowN_7 (h7 : R 7 = iN hr) : ∀ n, rowN B R nB hr n 7 = iN (hr + n)
  | 0 => h7
  | n + 1 => rfl
theorem goN9 {i : Nat} (h : M9 nP nF nB nT nS nL H B (rowN B R nB hr i) σ) (h3 : hr + i < 90000) (h7 : R 7 = iN hr) (hH : hr + i + 1 ≤ H) :
    ∃ σ1, s_X9_allGo 125 σ = some ((), σ1) ∧ Ag S9v σ σ1 ∧ zj σ1 127 = zj σ 127 ∧ M9 nP nF nB nT nS nL H B (rowN B R nB hr (i + 1)) σ1 := by
  obtain ⟨s1, g1, g2, g3⟩ := allGo9 h (hr := hr + i) (by omega) (rowN_7 h7 i) (Nat.le_refl _) hH
  exact ⟨s1, g1, g2.mono (fun _ _ q => q.v), g3⟩
theorem goT9 {i : Nat} (h : M9 nP nF nB nT nS nL H B (rowN B R nB hr i) σ) (h3 : hr + i < 90000) (h7 : R 7 = iN hr) (hH : hr + i + 1 ≤ H) :
    ∃ σ1, s_X9_allGo 125 σ = some ((), σ1) ∧ Ag S9t σ σ1 ∧ zj σ1 127 = zj σ 127 ∧ M9 nP nF nB nT nS nL H B (rowN B R nB hr (i + 1)) σ1 :=
  allGo9 h (hr := hr + i) (by omega) (rowN_7 h7 i) (Nat.le_refl _) hH
theorem M9.keep (h : M9 nP nF nB nT nS nL H B R σ) : ∃ σ1, s_X9_keepAll 125 16 σ = some ((), σ1) ∧ Ag S9p σ σ1 ∧ M9 nP nF nB nT nS nL H B R σ1 ∧ (∀ i, i < 23 → zi σ1 130 (368 + i) = R (7 + i)) ∧ zj σ1 = zj σ := by
  obtain ⟨σ1, h1, h2, h3, h4⟩ := keep9 h.1 (k := 16) (by decide)
  have A : Ag S9p σ σ1 := h2.mono (fun a k q => Or.inr (Or.inr ⟨q.1, q.2.1⟩))
  refine ⟨σ1, h1, A, h.row (A.mono (fun _ _ q => Or.inl q)) ?_ h.2.2.1, fun i hi => ?_, h4⟩
  · rw [← h.2.1]
    exact funext fun k => (h2.2.2.2.2 127 k (fun q => absurd q.1 (by decide))).1
  · rw [← h.2.1]
    exact h3 i hi
/-- the row put back -/
theorem put_back {s sa : Hp} (h : M9 nP nF nB nT nS nL H B R σ) (ha : Ag S9p σ sa) (hk : ∀ i, i < 23 → zi sa 130 (368 + i) = R (7 + i)) (hj : zj sa = zj σ) (e : Ag S9v sa s) (he : zj s 127 = zj sa 127) :
    ∃ s1, s_X9_putBack 125 16 s = some ((), s1) ∧ Ag S9p σ s1 := by
  have hS : SK s := (h.1.ag ha).ag e
  obtain ⟨s1, h1, h2, h3, h4⟩ := put9 hS (k := 16) (by decide)
  refine ⟨s1, h1, ?_⟩
  have A : Ag S9w σ s1 := ((ha.mono (fun _ _ q => Or.inl q)).trans (e.mono (fun _ _ q => q.w))).trans (h2.mono (fun a k q => Or.inr ⟨q.1, q.2.1, q.2.2⟩))
  refine A.unrow (fun i h7 h8 => ?_) (fun i _ _ => ?_)
  · obtain ⟨k, rfl⟩ : ∃ k, i = 7 + k := ⟨i - 7, by omega⟩
    rw [h3 k (by omega), h.2.1, ← hk k (by omega)]
    refine (e.2.2.2.2 130 (368 + k) ?_).1
    rintro (q | q | q)
    · exact S9.n (by decide) (Or.inl (by decide)) q
    · omega
    · omega
  · rw [h4, he, hj]
/-- the class's track of a badger -/
theorem track8 (h : M8 1 nP nF nB nT nS nL H B R σ) (hS : SK σ) (hr2 : hr < 100000) (h7 : R 7 = iN hr) {bd : Nat} (hb : bd < nB) :
    ∃ σ1, s_X2_drawTrack 113 (some 1) (iN bd) σ = some ((), σ1) ∧ Ag (fun a k => S8 a k ∨ a = 116 + bd) σ σ1 ∧ ∀ n, n < 61 → zi σ1 (116 + bd) n = trP B R bd hr n := by
  have hb3 := h.b3
  have k0 := h_ck0 h.2.1
  have isb := bg8_t h.2.1 (h.2.2.1.g2.trans h.2.2.2.1.2.1.2.2.1) hb3 hb
  have r1 := q_r113_1 hS
  have l115 : ldR 16 σ 115 (iN bd) = some (some (116 + bd)) := by
    rw [q_ld115 (by omega) hS]
    have hbd : bd = 0 ∨ bd = 1 ∨ bd = 2 := by omega
    rcases hbd with rfl | rfl | rfl
    · rw [q_r115_0 hS]
    · rw [q_r115_1 hS]
    · rw [q_r115_2 hS]
  have r4 := h_r0_4 h.2.1
  have l8 := h_ld8 (n := bd) (by omega) h.2.1
  rw [h.2.2.1.sow (by omega)] at l8
  have st : ∀ (s : Hp), SK s → ∀ n, n < 61 → ∀ v, stI s (116 + bd) (iN n) v = some (zsi s (116 + bd) n v) := fun s q n hn v => by
    have hbd : bd = 0 ∨ bd = 1 ∨ bd = 2 := by omega
    rcases hbd with rfl | rfl | rfl
    · exact q_st116 hn q
    · exact q_st117 hn q
    · exact q_st118 hn q
  have P : ∀ {s : Hp}, Ag (fun a k => S8 a k ∨ a = 116 + bd) σ s → Ag S8p σ s := fun q => q.mono (fun a k w => w.elim Or.inl (fun e => Or.inr (Or.inr (Or.inr (Or.inr (by omega))))))
  obtain ⟨σ1, g1, g2, g3⟩ := loop_to (body := fun v => s_X2_drawTrack_b27 (v.1) (v.2.1) (v.2.2.1) (v.2.2.2.1) (v.2.2.2.2)) (fun i s => Ag (fun a k => S8 a k ∨ a = 116 + bd) σ s ∧ ∀ n, n < i → zi s (116 + bd) n = trP B R bd hr n) (fun s => Ag (fun a k => S8 a k ∨ a = 116 + bd) σ s ∧ ∀ n, n < 61 → zi s (116 + bd) n = trP B R bd hr n) (fun i => (some 1, iN bd, some (116 + bd), trP B R bd hr i, iN i)) () 61 (fun i s hi hs => by
    obtain ⟨hs1, hs2⟩ := hs
    obtain ⟨r, r1, r2⟩ := trP_n (B := B) (hr := hr) h.2.2.2.1 (bd := bd) (by omega) i
    have f1 : ¬ (60 : Int32) < iN i := fun q => absurd ((iN_lt (a := 60) (by decide) (by omega)).mp q) (by omega)
    have s1 := st s (hS.ag hs1) i hi (trP B R bd hr i)
    have A2 : Ag (fun a k => S8 a k ∨ a = 116 + bd) σ (zsi s (116 + bd) i (trP B R bd hr i)) := hs1.trans (Ag.zsi (Or.inr rfl))
    have n8 := h.agp (P A2)
    have r10 := h_r0_10 n8.2.1
    have kk := h_ck0 n8.2.1
    have t0 := ht_0 n8.2.1
    rw [show zi (zsi s (116 + bd) i (trP B R bd hr i)) (1 + 14) 0 = iN hr from n8.2.2.1.g7.trans h7] at t0
    have i0 : iN hr + iN i = iN (hr + i) := iN_add _ _
    have i1 : iN i + 1 = iN (i + 1) := iN_add _ _
    obtain ⟨s2, u1, u2⟩ := goes8 n8 (hr := hr + i) (by omega) (bd := bd) r1
    have e1 : trP B R bd hr (i + 1) = goP B R r bd (hr + i) := by
      unfold trP
      rw [r2, iN_nat (by omega)]
    refine ⟨s2, ?_, A2.trans (u2.mono (fun a k q => Or.inl q)), fun n hn => ?_⟩
    · rw [e1]
      rw [r2] at s1 r10 kk t0 u1 ⊢
      simp only [s_X2_drawTrack_b27, f1, s1, r10, kk, t0, i0, i1, u1, z10', if_true, if_false, bind_ok, Option.bind_some, cb_some]
    · rw [(u2.2.2.2.2 (116 + bd) n (fun q => by unfold S8 at q; omega)).1]
      by_cases c : n = i
      · subst c
        exact zi_hit
      · rw [zi_miss c]
        exact hs2 n (by omega)) (fun s hs => by
    have f1 : (60 : Int32) < iN 61 := by decide
    exact ⟨s, by simp only [s_X2_drawTrack_b27, f1, z10', if_true, if_false, bind_ok, Option.bind_some, cb_some], hs⟩) (σ := σ) ⟨Ag.refl, fun n hn => by omega⟩
  refine ⟨σ1, ?_, g2, g3⟩
  have g1 : s_X2_drawTrack_l27 (some 1, iN bd, some (116 + bd), R (21 + bd), 0) σ = _ := g1
  simp only [s_X2_drawTrack, k0, isb, r1, l115, r4, l8, g1, z10', if_true, if_false, bind_ok, Option.bind_some, cb_some]
theorem trk_p {s : Hp} {bd : Nat} (hb : bd < 3) (e : Ag (fun a k => S8 a k ∨ a = 116 + bd) σ s) : Ag S8p σ s := e.mono (fun a k w => w.elim Or.inl (fun e => Or.inr (Or.inr (Or.inr (Or.inr (by omega))))))
theorem ldtr {s : Hp} (hS : SK s) {bd n : Nat} (hb : bd < 3) (hn : n < 61) : ldI 11 s (116 + bd) (iN n) = some (zi s (116 + bd) n) := by
  have hbd : bd = 0 ∨ bd = 1 ∨ bd = 2 := by omega
  rcases hbd with rfl | rfl | rfl
  · exact q_ld116 hn hS
  · exact q_ld117 hn hS
  · exact q_ld118 hn hS
theorem ld115 {s : Hp} (hS : SK s) {bd : Nat} (hb : bd < 3) : ldR 16 s 115 (iN bd) = some (some (116 + bd)) := by
  rw [q_ld115 hb hS]
  have hbd : bd = 0 ∨ bd = 1 ∨ bd = 2 := by omega
  rcases hbd with rfl | rfl | rfl
  · rw [q_r115_0 hS]
  · rw [q_r115_1 hS]
  · rw [q_r115_2 hS]
end ON
theorem b_where {p1 p2 : Int32} (hr : Rel σ) : Both (s_X8_where 0 p1 p2) (s_X9_where 125 p1 p2) σ := by
  have hS := hr.1.1
  refine hr.both2 (fun nP nF nB nT nS nL B m8 m9 => ?_)
  have hb3 := m8.b3
  obtain ⟨hh, hh1, hh2⟩ := bd_hour m8
  have r0 := q_r0_0 hS
  have k0 := h_ck0 hS.hk1
  have cB := m8.2.2.1.g2.trans m8.2.2.2.1.2.1.2.2.1
  rcases nx p1 (c := nB) (by omega) with ⟨k, hk, rfl⟩ | hx
  · have of8 := bg8_t m8.2.1 cB hb3 hk
    rcases nx p2 (c := 61) (by decide) with ⟨n, hn, rfl⟩ | hx2
    · refine ⟨trP B (zi σ 127) k hh n, ?_, fun σ1 q => ?_⟩
      · obtain ⟨σ1, g1, g2, g3⟩ := track8 m8 hS (hr := hh) (by omega) hh2 hk
        have hS1 := hS.ag g2
        have a0 : ¬ iN n < 0 := iN_nn (by omega)
        have a1 : iN n ≤ (60 : Int32) := (iN_le (b := 60) (by omega) (by decide)).mpr (by omega)
        have r10 := q_r0_10 hS
        have k113 := q_ck113 hS
        have r10b := q_r0_10 hS1
        have r1b := q_r113_1 hS1
        have l1 := ld115 hS1 (bd := k) (by omega)
        have l2 := ldtr hS1 (bd := k) (by omega) hn
        rw [g3 n hn] at l2
        refine ⟨σ1, ?_, trk_p (by omega) g2⟩
        simp only [s_X8_where, r0, k0, of8, a0, a1, r10, k113, g1, r10b, r1b, l1, l2, z10', if_true, if_false, bind_ok, Option.bind_some, cb_some]
      · have w := q_w125 (k := 0) (v := 0) q.1; have q2 := q.thrown.2; have bk := q_ck125 q2.1; have b3 := q_r125_3 q2.1
        have of9 := bg9_t q2.1 q2.c2 (Nat.le_trans hb3 (by decide)) hk
        have i9 : ∀ s, s_X9_in (Int32.toInt64 (iN n)) 0 60 s = some (1, s) := fun s => ino_t (c := 61) (by decide) hn rfl rfl
        obtain ⟨sa, u1, u2, u3, u4, u5⟩ := (q2.hi (H2 := 2000) (by decide)).keep
        obtain ⟨s, g1, g2, g3, g4⟩ := loop_to (body := fun v => s_X9_where_b35 (v.1) (v.2.1) (v.2.2.1) (v.2.2.2)) (fun i s => Ag S9v sa s ∧ zj s 127 = zj sa 127 ∧ M9 nP nF nB nT nS nL 2000 B (rowN B (zi σ 127) nB hh i) s) (fun s => Ag S9v sa s ∧ zj s 127 = zj sa 127 ∧ M9 nP nF nB nT nS nL 2000 B (rowN B (zi σ 127) nB hh n) s) (fun i => (125, iN k, iN n, iN i)) (125, iN k) n (fun i s hi hs => by
          obtain ⟨w1, w2, w3⟩ := hs
          have bk := q_ck125 w3.1
          have f1 : ¬ iN n ≤ iN i := (fun h => absurd ((iN_le (by omega) (by omega)).mp h) (by omega))
          have i1 : iN i + 1 = iN (i + 1) := iN_add _ _
          obtain ⟨s2, v1, v2, v3, v4⟩ := goN9 w3 (by omega) hh2 (by omega)
          exact ⟨s2, by simp only [s_X9_where_b35, bk, f1, v1, i1, z10', if_true, if_false, bind_ok, Option.bind_some, cb_some], w1.trans v2, v3.trans w2, v4⟩) (fun s hs => by
          have f1 : iN n ≤ iN n := Int32.le_refl _
          exact ⟨s, by simp only [s_X9_where_b35, f1, z10', if_true, if_false, bind_ok, Option.bind_some, cb_some], hs⟩) (σ := sa) ⟨Ag.refl, rfl, u3⟩
        have g1 : s_X9_where_l35 (125, iN k, iN n, 0) sa = _ := g1
        obtain ⟨s1, x1, x2⟩ := put_back q2 u2 u4 u5 g2 g3
        have bkb := q_ck125 g4.1
        have b3b := q_r125_3 g4.1
        have l := g4.ld21 (n := k) (by omega)
        rw [rowN_sow q2.2.2.1 hk n] at l
        refine ⟨s1, ?_, q.thrown.1.p.trans x2⟩
        simp only [s_X9_where, w, bk, of9, i9, u1, g1, b3b, l, bkb, x1, z10', if_true, if_false, bind_ok, Option.bind_some, cb_some]
    · refine ⟨-1, ⟨σ, ?_, Ag.refl⟩, fun σ1 q => ⟨_, ?_, q.thrown.1.p⟩⟩
      · by_cases c : p2 < 0
        · simp only [s_X8_where, r0, k0, of8, c, z10', if_true, if_false, bind_ok, Option.bind_some, cb_some]
        · have c2 : ¬ p2 ≤ 60 := no_le hx2 c (d := 60) (by decide) (by decide)
          simp only [s_X8_where, r0, k0, of8, c, c2, z10', if_true, if_false, bind_ok, Option.bind_some, cb_some]
      · have w := q_w125 (k := 0) (v := 0) q.1; have q2 := q.thrown.2; have bk := q_ck125 q2.1; have b3 := q_r125_3 q2.1
        have of9 := bg9_t q2.1 q2.c2 (Nat.le_trans hb3 (by decide)) hk
        have i9 : ∀ s, s_X9_in (Int32.toInt64 p2) 0 60 s = some (0, s) := fun s => ino_f (c := 61) (by decide) hx2 rfl rfl
        simp only [s_X9_where, w, bk, of9, i9, z10', if_true, if_false, bind_ok, Option.bind_some, cb_some]
  · have of8 := bg8_f m8.2.1 cB hx
    refine ⟨-1, ⟨σ, ?_, Ag.refl⟩, fun σ1 q => ⟨_, ?_, q.thrown.1.p⟩⟩
    · simp only [s_X8_where, r0, k0, of8, z10', if_true, if_false, bind_ok, Option.bind_some, cb_some]
    · have w := q_w125 (k := 0) (v := 0) q.1; have q2 := q.thrown.2; have bk := q_ck125 q2.1; have b3 := q_r125_3 q2.1
      have of9 := bg9_f q2.1 q2.c2 (Nat.le_trans hb3 (by decide)) hx
      simp only [s_X9_where, w, bk, of9, z10', if_true, if_false, bind_ok, Option.bind_some, cb_some]
theorem b_meeting {p1 p2 : Int32} (hr : Rel σ) : Both (s_X8_meeting 0 p1 p2) (s_X9_meeting 125 p1 p2) σ := by
  have hS := hr.1.1
  refine hr.both2 (fun nP nF nB nT nS nL B m8 m9 => ?_)
  have hb3 := m8.b3
  have hf4 := m8.f4
  have hp10 := m8.p10
  obtain ⟨hh, hh1, hh2⟩ := bd_hour m8
  have r0 := q_r0_0 hS
  have k0 := h_ck0 hS.hk1
  have cB := m8.2.2.1.g2.trans m8.2.2.2.1.2.1.2.2.1
  have cF := m8.2.2.1.g1.trans m8.2.2.2.1.2.1.2.1
  rcases nx p1 (c := nF) (by omega) with ⟨f, hf, rfl⟩ | hx
  · have isf := fk8_t m8.2.1 cF hf4 hf
    rcases nx p2 (c := nB) (by omega) with ⟨k, hk, rfl⟩ | hx2
    · have of8 := bg8_t m8.2.1 cB hb3 hk
      obtain ⟨u, hu, eu⟩ := on_n m8.2.2.2.1 hf
      refine ⟨match firstP (fun n => decide (trP B (zi σ 127) k hh n = zi σ 127 (30 + u))) 61 0 with | some n => iN n | none => -1, ?_, fun σ1 q => ?_⟩
      · obtain ⟨σ1, g1, g2, g3⟩ := track8 m8 hS (hr := hh) (by omega) hh2 hk
        have P := trk_p (by omega) g2
        have hS1 := hS.ag g2
        have n8 := m8.agp P
        have r10 := q_r0_10 hS
        have k113 := q_ck113 hS
        have r0b := q_r0_0 hS1
        have r10b := q_r0_10 hS1
        have r1b := q_r113_1 hS1
        have h0b := h_r0_0 n8.2.1
        have h3b := h_r0_3 n8.2.1
        have h1b := h_ck1 n8.2.1
        have l7 := h_ld7 (n := f) (by omega) n8.2.1
        rw [n8.2.2.1.on (by omega), eu] at l7
        have ro := roomOf8 n8 hu
        have l1 := ld115 hS1 (bd := k) (by omega)
        obtain ⟨σ2, h3, h4⟩ := loop_first (body := fun v => s_X8_meeting_b59 (v.1) (v.2.1) (v.2.2.1) (v.2.2.2)) (fun _ s => s = σ1) (fun s => s = σ1) (fun i => (0, iN k, zi σ 127 (30 + u), iN i)) (fun n => decide (trP B (zi σ 127) k hh n = zi σ 127 (30 + u))) (fun o => match o with | some n => iN n | none => -1) 61 (fun i s hi hs => by
          subst hs
          have f1 : ¬ (60 : Int32) < iN i := fun q => absurd ((iN_lt (a := 60) (by decide) (by omega)).mp q) (by omega)
          have i1 : iN i + 1 = iN (i + 1) := iN_add _ _
          have l2 := ldtr hS1 (bd := k) (by omega) hi
          rw [g3 i hi] at l2
          constructor
          · intro c
            have c := of_decide_eq_true c
            exact ⟨s, by simp only [s_X8_meeting_b59, r10b, r1b, l1, l2, f1, c, z10', if_true, if_false, bind_ok, Option.bind_some, cb_some], rfl⟩
          · intro c
            have c := of_decide_eq_false c
            exact ⟨s, by simp only [s_X8_meeting_b59, r10b, r1b, l1, l2, f1, c, i1, z10', if_true, if_false, bind_ok, Option.bind_some, cb_some], rfl⟩) (fun s hs => by
          subst hs
          have f1 : (60 : Int32) < iN 61 := by decide
          exact ⟨s, by simp only [s_X8_meeting_b59, f1, z10', if_true, if_false, bind_ok, Option.bind_some, cb_some], rfl⟩) (σ := σ1) rfl
        subst h4
        refine ⟨σ2, ?_, P⟩
        have h3 : s_X8_meeting_l59 (0, iN k, zi σ 127 (30 + u), 0) σ2 = _ := h3
        simp only [s_X8_meeting, r0, k0, isf, of8, r10, k113, g1, r0b, h0b, h3b, h1b, l7, ro, h3, z10', if_true, if_false, bind_ok, Option.bind_some, cb_some]
      · have w := q_w125 (k := 0) (v := 0) q.1; have q2 := q.thrown.2; have bk := q_ck125 q2.1; have b3 := q_r125_3 q2.1
        have of9 := bg9_t q2.1 q2.c2 (Nat.le_trans hb3 (by decide)) hk
        have isf9 := fk9_t q2.1 q2.c1 (Nat.le_trans hf4 (by decide)) hf
        have la := q2.ld17 (n := f) (by omega)
        rw [eu] at la
        have lb := q2.ld30 (n := u) (by omega)
        obtain ⟨sa, u1, u2, u3, u4, u5⟩ := (q2.hi (H2 := 2000) (by decide)).keep
        obtain ⟨s, g1, g2, g3⟩ := loop_first (body := fun v => s_X9_meeting_b50 (v.1) (v.2.1) (v.2.2.1) (v.2.2.2)) (fun i s => Ag S9v sa s ∧ zj s 127 = zj sa 127 ∧ M9 nP nF nB nT nS nL 2000 B (rowN B (zi σ 127) nB hh i) s) (fun s => Ag S9v sa s ∧ zj s 127 = zj sa 127) (fun i => (125, iN k, zi σ 127 (30 + u), iN i)) (fun n => decide (trP B (zi σ 127) k hh n = zi σ 127 (30 + u))) (fun o => (125, match o with | some n => iN n | none => iN 61)) 61 (fun i s hi hs => by
          obtain ⟨w1, w2, w3⟩ := hs
          have bk := q_ck125 w3.1
          have b3 := q_r125_3 w3.1
          have l := w3.ld21 (n := k) (by omega)
          rw [rowN_sow q2.2.2.1 hk i] at l
          have f1 : ¬ (60 : Int32) < iN i := fun q => absurd ((iN_lt (a := 60) (by decide) (by omega)).mp q) (by omega)
          have i1 : iN i + 1 = iN (i + 1) := iN_add _ _
          constructor
          · intro c
            have c := of_decide_eq_true c
            exact ⟨s, by simp only [s_X9_meeting_b50, b3, l, f1, c, z10', if_true, if_false, bind_ok, Option.bind_some, cb_some], w1, w2⟩
          · intro c
            have c := of_decide_eq_false c
            obtain ⟨s2, v1, v2, v3, v4⟩ := goN9 w3 (by omega) hh2 (by omega)
            exact ⟨s2, by simp only [s_X9_meeting_b50, bk, b3, l, f1, c, v1, i1, z10', if_true, if_false, bind_ok, Option.bind_some, cb_some], w1.trans v2, v3.trans w2, v4⟩) (fun s hs => by
          have f1 : (60 : Int32) < iN 61 := by decide
          exact ⟨s, by simp only [s_X9_meeting_b50, f1, z10', if_true, if_false, bind_ok, Option.bind_some, cb_some], hs.1, hs.2.1⟩) (σ := sa) ⟨Ag.refl, rfl, u3⟩
        have g1 : s_X9_meeting_l50 (125, iN k, zi σ 127 (30 + u), 0) sa = _ := g1
        obtain ⟨s1, x1, x2⟩ := put_back q2 u2 u4 u5 g2 g3
        have bkb := q_ck125 ((u3.1).ag g2)
        refine ⟨s1, ?_, q.thrown.1.p.trans x2⟩
        cases hff : firstP (fun n => decide (trP B (zi σ 127) k hh n = zi σ 127 (30 + u))) 61 0 with
        | none =>
          rw [hff] at g1
          have f2 : ¬ iN 61 ≤ 60 := by decide
          simp only [s_X9_meeting, s_X9_meeting_j80, w, bk, b3, isf9, of9, la, lb, u1, g1, bkb, x1, f2, z10', if_true, if_false, bind_ok, Option.bind_some, cb_some]
        | some n =>
          rw [hff] at g1
          have hn := firstP_lt hff
          have f2 : iN n ≤ (60 : Int32) := (iN_le (b := 60) (by omega) (by decide)).mpr (by omega)
          simp only [s_X9_meeting, s_X9_meeting_j80, w, bk, b3, isf9, of9, la, lb, u1, g1, bkb, x1, f2, z10', if_true, if_false, bind_ok, Option.bind_some, cb_some]
    · have of8 := bg8_f m8.2.1 cB hx2
      refine ⟨-1, ⟨σ, ?_, Ag.refl⟩, fun σ1 q => ⟨_, ?_, q.thrown.1.p⟩⟩
      · simp only [s_X8_meeting, r0, k0, isf, of8, z10', if_true, if_false, bind_ok, Option.bind_some, cb_some]
      · have w := q_w125 (k := 0) (v := 0) q.1; have q2 := q.thrown.2; have bk := q_ck125 q2.1; have b3 := q_r125_3 q2.1
        have isf9 := fk9_t q2.1 q2.c1 (Nat.le_trans hf4 (by decide)) hf
        have of9 := bg9_f q2.1 q2.c2 (Nat.le_trans hb3 (by decide)) hx2
        simp only [s_X9_meeting, w, bk, isf9, of9, z10', if_true, if_false, bind_ok, Option.bind_some, cb_some]
  · have isf := fk8_f m8.2.1 cF hx
    refine ⟨-1, ⟨σ, ?_, Ag.refl⟩, fun σ1 q => ⟨_, ?_, q.thrown.1.p⟩⟩
    · simp only [s_X8_meeting, r0, k0, isf, z10', if_true, if_false, bind_ok, Option.bind_some, cb_some]
    · have w := q_w125 (k := 0) (v := 0) q.1; have q2 := q.thrown.2; have bk := q_ck125 q2.1; have b3 := q_r125_3 q2.1
      have isf9 := fk9_f q2.1 q2.c1 (Nat.le_trans hf4 (by decide)) hx
      simp only [s_X9_meeting, w, bk, isf9, z10', if_true, if_false, bind_ok, Option.bind_some, cb_some]
end V19
