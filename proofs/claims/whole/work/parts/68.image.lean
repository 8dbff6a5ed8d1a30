/-! ===== images ===== -/
section V36
variable {σ : Hp} {nP nF nB nT nS nL H : Nat} {B : Book} {R R1 : Nat → Int32}
theorem rV_congr {op ar op1 ar1 : Nat → Int32} {lf : Int32 → Int32 → Int64} {fin : Nat} (h : ∀ k, k < fin → op1 k = op k ∧ ar1 k = ar k) :
    ∀ (n k : Nat) (st : List Int64) (res : Option Int64), rV op ar lf fin n k st res → rV op1 ar1 lf fin n k st res
  | 0, _, _, _, q => q
  | n + 1, k, st, res, q => by
    rcases q with q | ⟨q1, q2, q3, q4, q5⟩
    · exact Or.inl q
    · obtain ⟨e1, e2⟩ := h k q1
      have e3 : rStep op1 ar1 lf k st = rStep op ar lf k st := by
        unfold rStep
        rw [e1, e2]
      refine Or.inr ⟨q1, ?_, ?_, ?_, ?_⟩
      · rw [e1]; exact q2
      · rw [e1]; exact q3
      · rw [e1, e2]; exact q4
      · rw [e3]
        cases e : rStep op ar lf k st with
        | none =>
          rw [e] at q5
          exact q5
        | some p =>
          rw [e] at q5
          exact rV_congr h n _ _ _ q5
theorem LR1.low {j : Nat} (h : LR1 R B j) (hj : j < 6) (e : ∀ i, 178 ≤ i → i < 5578 → R1 i = R i) : LR1 R1 B j := by
  obtain ⟨h1, h2, h3⟩ := h
  have ec : ∀ k, k < 400 → opL R1 j k = opL R j k ∧ arL R1 j k = arL R j k := fun k hk => ⟨e _ (by omega) (by omega), e _ (by omega) (by omega)⟩
  refine ⟨h1, by rw [e _ (by omega) (by omega)]; exact h2, fun c hc => ?_⟩
  obtain ⟨g1, g2, k3, k4, k5, k6, b3, b4, b5, b6, c3, c4, c5, c6, r1, r2, r3, r4⟩ := h3 c hc
  refine ⟨g1, by rw [e _ (by omega) (by omega)]; exact g2, k3, k4, k5, k6, b3, b4, b5, b6, by rw [e _ (by omega) (by omega)]; exact c3, by rw [e _ (by omega) (by omega)]; exact c4, by rw [e _ (by omega) (by omega)]; exact c5, by rw [e _ (by omega) (by omega)]; exact c6, fun hn w => ?_, fun hk w => ?_, r3, r4⟩
  · obtain ⟨n, q⟩ := r1 hn w
    exact ⟨n, rV_congr (fun k hk => ec k (by omega)) _ _ _ _ q⟩
  · obtain ⟨n, q⟩ := r2 hk w
    exact ⟨n, rV_congr (fun k hk => ec k (by omega)) _ _ _ _ q⟩
theorem WF.low (h : WF nP nF nB nT nS nL H R) (e : ∀ i, i < 178 → R1 i = R i) : WF nP nF nB nT nS nL H R1 := by
  obtain ⟨h1, h2, h3, h4⟩ := h
  refine ⟨h1, ?_, ?_, fun i a b => by rw [e i b]; exact h4 i a b⟩
  · rw [e 0 (by decide), e 1 (by decide), e 2 (by decide), e 3 (by decide), e 4 (by decide), e 5 (by decide)]
    exact h2
  · rw [e 6 (by decide)]
    exact h3
theorem Cr.low {b : Nat} (h : Cr b σ nP nF nB nT nS nL H B R) (e : ∀ i, i < 5578 → R1 i = R i) : Cr b σ nP nF nB nT nS nL H B R1 :=
  ⟨h.1.low (fun i hi => e i (by omega)), fun i hi => by rw [e i (by omega)]; exact h.2.1 i hi, fun j hj => (h.2.2.1 j hj).low (by have := h.1.1.2.2.2.2.2; omega) (fun i _ hi => e i hi), h.2.2.2⟩
/-- a step that may copy the texts of the House at d -/
def Fr (S : Nat → Nat → Prop) (d : Nat) (σ t : Hp) : Prop := Ag S σ (mask σ t) ∧ ∀ a k, a ≠ d + 15 → zr t a k = zr σ a k
theorem rq_a : rqL.all (fun t => decide (t.1 ≠ 16 ∧ t.1 ≠ 35 ∧ t.1 ≠ 54 ∧ t.1 ≠ 74 ∧ t.1 ≠ 93)) = true := by decide +kernel
theorem rq_d (t : Nat × Nat × Nat) (h : t ∈ rqL) : t.1 ≠ 16 ∧ t.1 ≠ 35 ∧ t.1 ≠ 54 ∧ t.1 ≠ 74 ∧ t.1 ≠ 93 := of_decide_eq_true (List.all_eq_true.mp rq_a t h)
theorem Fr.sk {S : Nat → Nat → Prop} {d : Nat} {t : Hp} (e : Fr S d σ t) (h : SK σ) (hd : d = 1 ∨ d = 20 ∨ d = 39 ∨ d = 59 ∨ d = 78) : SK t := by
  obtain ⟨⟨e1, e2, e3, -, -⟩, e5⟩ := e
  have e1 : zn t = zn σ := e1
  have e2 : zk t = zk σ := e2
  have e3 : zl t = zl σ := e3
  refine ⟨by rw [e1]; exact h.1, fun a ha => by rw [e2, e3]; exact h.2.1 a ha, fun q hq => ?_⟩
  have := rq_d q hq
  rw [e5 _ _ (by omega)]
  exact h.2.2 q hq
theorem LC1.fr {S : Nat → Nat → Prop} {d t j : Nat} {s : Hp} (h : LC1 σ t B j) (e : Fr S d σ s) (hd : d + 15 < 156) (hs : ∀ a k, S a k → a < 156) : LC1 s t B j := by
  obtain ⟨⟨e1, e2, e3, -, e4⟩, e5⟩ := e
  have e1 : zn s = zn σ := e1
  have e2 : zk s = zk σ := e2
  have e3 : zl s = zl σ := e3
  exact h.same (Nat.le_of_eq e1.symm) (fun a ha _ => ⟨by rw [e2], by rw [e3], funext fun k => e5 a k (by omega), funext fun k => (e4 a k (fun q => by have := hs a k q; omega)).1⟩)
theorem Cr.fr {S : Nat → Nat → Prop} {b d : Nat} {s : Hp} (h : Cr b σ nP nF nB nT nS nL H B R) (e : Fr S d σ s) (hd : d + 15 < 156) (hbd : b ≠ d) (hs : ∀ a k, S a k → fCr b a = true) : Cr b s nP nF nB nT nS nL H B R := by
  have lo : ∀ a k, S a k → (a < b ∨ b + 15 ≤ a) ∧ a < 156 := fun a k q => by
    have := hs a k q
    unfold fCr at this
    simpa using this
  refine ⟨h.1, h.2.1.congr (fun o ho => funext fun k => (e.1.2.2.2.2 (b + o) k (fun q => by have := lo _ _ q; omega)).1), h.2.2.1, fun j hj => ?_⟩
  obtain ⟨t, q1, q2⟩ := h.2.2.2 j hj
  exact ⟨t, by rw [e.2 _ _ (by omega)]; exact q1, q2.fr e hd (fun a k q => (lo a k q).2)⟩
theorem ImF.fr {S : Nat → Nat → Prop} {b d : Nat} {s : Hp} {z1 z2 : Int32} (h : ImF b σ z1 z2 R) (e : Fr S d σ s) (hd : d + 15 < 156) (hbd : b ≠ d) (hs : ∀ a k, S a k → fCr b a = true) : ImF b s z1 z2 R := by
  refine ⟨h.1, ?_⟩
  rcases h.2 with h1 | ⟨h1, nP, nF, nB, nT, nS, nL, B, h2⟩
  · exact Or.inl h1
  · exact Or.inr ⟨h1, nP, nF, nB, nT, nS, nL, B, h2.fr e hd hbd hs⟩
/-- the copied House says what the other says -/
theorem Cr.copied {S : Nat → Nat → Prop} {c d : Nat} {s : Hp} (h : Cr c σ nP nF nB nT nS nL H B R) (e : Fr S d σ s) (hd : d + 15 < 156) (hs : ∀ a k, S a k → a < 156) (hH : HHm d s R) (hx : ∀ j, j < 6 → zr s (d + 15) j = zr σ (c + 15) j) : Cr d s nP nF nB nT nS nL H B R := by
  refine ⟨h.1, hH, h.2.2.1, fun j hj => ?_⟩
  obtain ⟨t, q1, q2⟩ := h.2.2.2 j hj
  exact ⟨t, by rw [hx j (by have := h.1.1.2.2.2.2.2; omega)]; exact q1, q2.fr e hd hs⟩
theorem TxF.copied {c d : Nat} {s : Hp} (h : TxF (zr σ) (zk σ) (zn σ)) (en : zn s = zn σ) (ek : zk s = zk σ) (er : ∀ a k, a ≠ d + 15 → zr s a k = zr σ a k) (hc : c = 1 ∨ c = 59 ∨ c = 78) (hd : d = 1 ∨ d = 59 ∨ d = 78) (hx : ∀ j, j < 6 → zr s (d + 15) j = zr σ (c + 15) j) : TxF (zr s) (zk s) (zn s) := fun b hb j hj => by
  rw [ek, en]
  by_cases e : b = d
  · subst e
    rw [hx j hj]
    exact h c hc j hj
  · rw [er _ _ (by omega)]
    exact h b hb j hj
/-- the k-th image's House -/
def imB (k : Nat) : Nat := if k = 0 then 59 else 78
theorem imB_of {k : Nat} (h : k < 2) : (k = 0 ∧ imB k = 59) ∨ (k = 1 ∧ imB k = 78) := by
  unfold imB
  by_cases c : k = 0
  · exact Or.inl ⟨c, if_pos c⟩
  · exact Or.inr ⟨by omega, if_neg c⟩
theorem SK.hkI (h : SK σ) {k : Nat} (hk : k < 2) : HK (imB k) σ := by
  rcases imB_of hk with ⟨rfl, e⟩ | ⟨rfl, e⟩
  · rw [e]; exact h.hk59
  · rw [e]; exact h.hk78
theorem q_imB (h : SK σ) {k : Nat} (hk : k < 2) : ldR 14 σ 58 (iN k) = some (some (imB k)) := by
  rw [q_ld58 hk h]
  rcases imB_of hk with ⟨rfl, e⟩ | ⟨rfl, e⟩
  · rw [e, q_r58_0 h]
  · rw [e, q_r58_1 h]
/-- what an image changes -/
def TI (d a k : Nat) : Prop := SD d a ∨ a = 97 ∨ (a = 0 ∧ k = 18) ∨ (a = 125 ∧ (k = 0 ∨ k = 1)) ∨ a = 128 ∨ a = 129
theorem TI.parts {d a k : Nat} (hd : d = 59 ∨ d = 78) (h : TI d a k) : fTp a k = true ∧ fSm a k = true ∧ fDk a k = true ∧ fUn a k = true ∧ fCW a = true ∧ fCr 1 a = true ∧ a ≠ 124 ∧ a ≠ 126 ∧ a ≠ 127 ∧ a < 156 := by
  unfold TI SD at h
  have hq : (59 ≤ a ∧ a < 74) ∨ (78 ≤ a ∧ a < 93) ∨ a = 97 ∨ (a = 0 ∧ k = 18) ∨ (a = 125 ∧ (k = 0 ∨ k = 1)) ∨ a = 128 ∨ a = 129 := by omega
  have c1 : fCr 1 a = true := by unfold fCr; simp; omega
  have c2 : fCW a = true := by unfold fCW; simp; omega
  have c3 : fTp a k = true := by unfold fTp; simp; omega
  have c4 : fSm a k = true := by unfold fSm; simp; omega
  have c5 : fDk a k = true := by unfold fDk; simp; omega
  have c6 : fUn a k = true := by unfold fUn; simp; omega
  exact ⟨c3, c4, c5, c6, c2, c1, by omega, by omega, by omega, by omega⟩
theorem agmask {S : Nat → Nat → Prop} {s t : Hp} (h : Ag S s t) : Ag S (mask σ s) (mask σ t) := ⟨h.1, h.2.1, h.2.2.1, rfl, h.2.2.2.2⟩
theorem Fr.then {S : Nat → Nat → Prop} {d : Nat} {s t : Hp} (h : Fr S d σ s) (e : Ag S s t) : Fr S d σ t := ⟨h.1.trans (agmask e), fun a k ha => by rw [e.2.2.2.1]; exact h.2 a k ha⟩
theorem Ac.fr {S : Nat → Nat → Prop} {d : Nat} {s : Hp} (h : Ac d σ s) (hs : ∀ a k, SD d a → S a k) : Fr S d σ s := ⟨h.ag.mono (fun a k q => hs a k q), h.2.2.2.2⟩
theorem ImF.low {b : Nat} {z1 z2 y1 y2 : Int32} (h : ImF b σ z1 z2 R) (e1 : y1 = z1) (e2 : y2 = z2) (e : ∀ i, i < 5578 → R1 i = R i) : ImF b σ y1 y2 R1 := by
  subst e1
  subst e2
  refine ⟨h.1, ?_⟩
  rcases h.2 with h1 | ⟨h1, nP, nF, nB, nT, nS, nL, B, h2⟩
  · exact Or.inl h1
  · exact Or.inr ⟨h1, nP, nF, nB, nT, nS, nL, B, h2.low e⟩
theorem loopIm {s : Hp} (hS : SK s) {k : Nat} (hk : k < 2) :
    ∃ t, s_X9_image_l23 (125, iN k, 0) s = some ((125, iN k), t) ∧ Ag (Cp 128 (5578 * k) 5578) s t ∧ ∀ i, i < 5578 → zi t 128 (5578 * k + i) = zi s 127 i := by
  obtain ⟨t, g1, g2, g3, -⟩ := loop_copy (body := fun v => s_X9_image_b23 (v.1) (v.2.1) (v.2.2)) 128 (5578 * k) 127 0 5578 (fun i => (125, iN k, iN i)) (125, iN k) (Or.inl (by decide)) hS (fun i t hi ht => by
    have f1 : ¬ (5578 : Int32) ≤ iN i := fun q => absurd ((iN_le (a := 5578) (by decide) (by omega)).mp q) (by omega)
    have r4 := q_r125_4 ht
    have b3 := q_r125_3 ht
    have i1 : iN i + 1 = iN (i + 1) := iN_add i 1
    have l := q_ld127 (n := i) hi ht
    have st : ∀ v, stI t 128 (5578 * iN k + iN i) v = some (zsi t 128 (5578 * k + i) v) := fun v => by
      rw [show (5578 : Int32) = iN 5578 from rfl, iN_mul, iN_add]
      exact q_st128 (by omega) ht
    rw [show 0 + i = i by omega]
    simp only [s_X9_image_b23, f1, r4, b3, l, st, i1, z10', if_true, if_false, bind_ok, Option.bind_some, cb_some]) (fun t ht => by
    have f1 : (5578 : Int32) ≤ iN 5578 := by decide
    simp only [s_X9_image_b23, f1, z10', if_true, if_false, bind_ok, Option.bind_some, cb_some])
  refine ⟨t, g1, g2, fun i hi => ?_⟩
  have := g3 i hi
  rwa [show 0 + i = i by omega] at this
theorem b_image {p : Int32} (hr : Rel σ) : Both (s_X8_image 0 p) (s_X9_image 125 p) σ := by
  obtain ⟨⟨hS, ⟨nt, hT⟩, hR, hM, hW, hD, hI⟩, nP, nF, nB, nT, nS, nL, B, n, hC, hU⟩ := id hr
  rcases nx p (c := 2) (by omega) with ⟨k, hk, rfl⟩ | hx
  · have hdk := imB_of hk
    have hd2 : imB k = 59 ∨ imB k = 78 := by omega
    have p0 : ¬ iN k < 0 := iN_nn (by omega)
    have p1 : iN k < 2 := (iN_lt (b := 2) (by omega) (by decide)).mpr hk
    have r3 := q_r0_3 hS
    have l58 := q_imB hS hk
    have r0 := q_r0_0 hS
    have kd := h_ck0 (hS.hkI hk)
    obtain ⟨s1, a1, a2, a3, a4⟩ := copyFrom8 (hS.hkI hk) hS.hk1 (show Apart (imB k) 1 by unfold Apart; omega) (fun j hj => hI.2.2.k 1 (Or.inl rfl) j hj)
    have F1 : Fr (TI (imB k)) (imB k) σ s1 := a2.fr (fun a k q => Or.inl q)
    have S1 := F1.sk hS (by omega)
    have r4 := q_r0_4 S1
    have st97 := q_st97 (n := k) (v := 1) hk (Or.inr rfl) S1
    have S2 : SK (zsi s1 97 k 1) := S1
    have k8 := q_ck0 S2
    have gr := grant8 S2 (v := 0)
    have S3 : SK (zsi (zsi s1 97 k 1) 0 18 0) := S1
    have w := q_w125 (k := 0) (v := 0) S3
    have S4 : SK (zsi (zsi (zsi s1 97 k 1) 0 18 0) 125 0 0) := S1
    have i9 := ino_t (σ := zsi (zsi (zsi s1 97 k 1) 0 18 0) 125 0 0) (c := 2) (lo := 0) (hi := 1) (by decide) hk rfl rfl
    obtain ⟨t1, g1, g2, g3⟩ := loopIm S4 hk
    have T1 := S4.ag g2
    have r5 := q_r125_5 T1
    have st129 := q_st129 (n := k) (v := 1) hk (Or.inr rfl) T1
    have T2 : SK (zsi t1 129 k 1) := T1
    have bk := q_ck125 T2
    have tl := tell9 T2 (n := 0) (by decide)
    have tl : s_X9_tell 125 0 (zsi t1 129 k 1) = some (0, zsi (zsi t1 129 k 1) 125 1 0) := tl
    have E2 : Ag (TI (imB k)) s1 (zsi (zsi (zsi s1 97 k 1) 0 18 0) 125 0 0) := ((Ag.zsi (Or.inr (Or.inl rfl))).trans (Ag.zsi (Or.inr (Or.inr (Or.inl ⟨rfl, rfl⟩))))).trans (Ag.zsi (Or.inr (Or.inr (Or.inr (Or.inl ⟨rfl, Or.inl rfl⟩)))))
    have E3 : Ag (TI (imB k)) t1 (zsi (zsi t1 129 k 1) 125 1 0) := (Ag.zsi (Or.inr (Or.inr (Or.inr (Or.inr (Or.inr rfl)))))).trans (Ag.zsi (Or.inr (Or.inr (Or.inr (Or.inl ⟨rfl, Or.inr rfl⟩)))))
    have E := ((F1.then E2).then (g2.mono (fun a j q => Or.inr (Or.inr (Or.inr (Or.inr (Or.inl q.1))))))).then E3
    have P : ∀ a j, TI (imB k) a j → _ := fun a j q => q.parts hd2
    have e127 : zi (zsi (zsi t1 129 k 1) 125 1 0) 127 = zi σ 127 := funext fun j => (E.1.2.2.2.2 127 j (fun q => (P _ _ q).2.2.2.2.2.2.2.2.1 rfl)).1
    have f128 : ∀ j, ¬ (5578 * k ≤ j ∧ j < 5578 * k + 5578) → zi (zsi (zsi t1 129 k 1) 125 1 0) 128 j = zi σ 128 j := fun j hj => by
      rw [zi_ne (by decide), zi_ne (by decide), (g2.2.2.2.2 128 j (fun q => hj q.2)).1, zi_ne (by decide), zi_ne (by decide), zi_ne (by decide)]
      exact (a2.2.2.2.1 128 j (by unfold SD; omega)).1
    have f97 : ∀ j, zi (zsi (zsi t1 129 k 1) 125 1 0) 97 j = if j = k then 1 else zi σ 97 j := fun j => by
      rw [zi_ne (by decide), zi_ne (by decide), (g2.2.2.2.2 97 j (fun q => absurd q.1 (by decide))).1, zi_ne (by decide), zi_ne (by decide)]
      by_cases c : j = k
      · subst c
        rw [zi_hit, if_pos rfl]
      · rw [zi_miss c, if_neg c]
        exact (a2.2.2.2.1 97 j (by unfold SD; omega)).1
    have f129 : ∀ j, zi (zsi (zsi t1 129 k 1) 125 1 0) 129 j = if j = k then 1 else zi σ 129 j := fun j => by
      rw [zi_ne (by decide)]
      by_cases c : j = k
      · subst c
        rw [zi_hit, if_pos rfl]
      · rw [zi_miss c, if_neg c, (g2.2.2.2.2 129 j (fun q => absurd q.1 (by decide))).1, zi_ne (by decide), zi_ne (by decide), zi_ne (by decide)]
        exact (a2.2.2.2.1 129 j (by unfold SD; omega)).1
    have c127 : ∀ i, zi (zsi (zsi (zsi s1 97 k 1) 0 18 0) 125 0 0) 127 i = zi σ 127 i := fun i => by
      rw [zi_ne (by decide), zi_ne (by decide), zi_ne (by decide)]
      exact (a2.2.2.2.1 127 i (by unfold SD; omega)).1
    have n128 : ∀ i, i < 5578 → zi (zsi (zsi t1 129 k 1) 125 1 0) 128 (5578 * k + i) = zi σ 127 i := fun i hi => by
      rw [zi_ne (by decide), zi_ne (by decide), g3 i hi, c127]
    have hH : HHm (imB k) (zsi (zsi t1 129 k 1) 125 1 0) (zi σ 127) := (a3 _ hC.2.1).congr (fun o ho => funext fun j => by
      rw [zi_ne (by omega), zi_ne (by omega), (g2.2.2.2.2 _ j (fun q => by have := q.1; omega)).1, zi_ne (by omega), zi_ne (by omega), zi_ne (by omega)])
    have er : zr (zsi (zsi t1 129 k 1) 125 1 0) = zr s1 := g2.2.2.2.1
    have hx' : ∀ j, j < 6 → zr (zsi (zsi t1 129 k 1) 125 1 0) (imB k + 15) j = zr σ (1 + 15) j := fun j hj => by rw [er]; exact a4 j hj
    have hN : Cr (imB k) (zsi (zsi t1 129 k 1) 125 1 0) nP nF nB nT nS nL 999 B (zi σ 127) := hC.copied E (by omega) (fun a j q => (P a j q).2.2.2.2.2.2.2.2.2) hH hx'
    have h18 : zi (zsi (zsi t1 129 k 1) 125 1 0) 0 18 = 0 := by
      rw [zi_ne (by decide), zi_ne (by decide), (g2.2.2.2.2 0 18 (fun q => absurd q.1 (by decide))).1, zi_ne (by decide), zi_hit]
    have hTf : Tp nt (mask σ (zsi (zsi t1 129 k 1) 125 1 0)) := hT.gg E.1 (fun a j q => (P a j q).1)
    have hMf : Sm (mask σ (zsi (zsi t1 129 k 1) 125 1 0)) := hM.gg E.1 (fun a j q => (P a j q).2.1)
    have hWf : CW (mask σ (zsi (zsi t1 129 k 1) 125 1 0)) := hW.gg E.1 (fun a j q => (P a j q).2.2.2.2.1)
    have hDf : Dk (mask σ (zsi (zsi t1 129 k 1) 125 1 0)) := hD.gg E.1 (fun a j q => (P a j q).2.2.1)
    have hUf : Un nP nF nT n (mask σ (zsi (zsi t1 129 k 1) 125 1 0)) := hU.gg E.1 (fun a j q => (P a j q).2.2.2.1)
    refine Both.mk (r := 0) (σ1 := zsi (zsi s1 97 k 1) 0 18 0) (σ2 := zsi (zsi t1 129 k 1) 125 1 0) ?_ ?_ ?_ (S3.2.1 125 (by decide)).1
    · simp only [s_X8_image, p0, p1, r3, l58, r0, kd, a1, r4, st97, k8, gr, z10', if_true, if_false, bind_ok, Option.bind_some, cb_some]
    · simp only [s_X9_image, w, i9, g1, r5, st129, bk, tl, z10', if_true, if_false, bind_ok, Option.bind_some, cb_some]
    · refine ⟨⟨E.sk hS (by omega), ⟨nt, hTf⟩, ?_, hMf, hWf, hDf, ?_⟩, nP, nF, nB, nT, nS, nL, B, n, ?_, hUf⟩
      · refine hR.of (h18.trans zi_hit.symm) (funext fun j => (E.1.2.2.2.2 124 j (fun q => (P _ _ q).2.2.2.2.2.2.1 rfl)).1) (funext fun j => (E.1.2.2.2.2 126 j (fun q => (P _ _ q).2.2.2.2.2.2.2.1 rfl)).1)
      · refine ⟨?_, ?_, TxF.copied hI.2.2 (by exact E.1.1) (by exact E.1.2.1) E.2 (Or.inl rfl) (by omega) hx'⟩
        · rcases hdk with ⟨rfl, ed⟩ | ⟨rfl, ed⟩
          · rw [ed] at hN
            refine ⟨by rw [f97, f129, if_pos rfl, if_pos rfl], Or.inr ⟨by rw [f97, if_pos rfl], nP, nF, nB, nT, nS, nL, B, hN.low (fun i hi => ?_)⟩⟩
            have := n128 i hi
            rwa [show 5578 * 0 + i = i by omega] at this
          · refine (hI.1.fr E (by omega) (by omega) (fun a j q => ?_)).low (by rw [f97, if_neg (by decide)]) (by rw [f129, if_neg (by decide)]) (fun i hi => f128 i (by omega))
            unfold TI SD at q
            unfold fCr
            simp
            omega
        · rcases hdk with ⟨rfl, ed⟩ | ⟨rfl, ed⟩
          · refine (hI.2.1.fr E (by omega) (by omega) (fun a j q => ?_)).low (by rw [f97, if_neg (by decide)]) (by rw [f129, if_neg (by decide)]) (fun i hi => f128 _ (by omega))
            unfold TI SD at q
            unfold fCr
            simp
            omega
          · rw [ed] at hN
            refine ⟨by rw [f97, f129, if_pos rfl, if_pos rfl], Or.inr ⟨by rw [f97, if_pos rfl], nP, nF, nB, nT, nS, nL, B, hN.low (fun i hi => ?_)⟩⟩
            have := n128 i hi
            rwa [show 5578 * 1 + i = 5578 + i by omega] at this
      · rw [e127]
        exact hC.fr E (by omega) (by omega) (fun a j q => (P a j q).2.2.2.2.2.1)
  · have k8 := q_ck0 hS
    have rf := ref8_1 hS
    refine Both.bad (s := -1) (x := 0) (y := 1) hr (by decide) ?_ (fun t ht e1 => ?_)
    · by_cases n0 : p < 0
      · simp only [s_X8_image, s_X8_image_j9, n0, k8, rf, z10', if_true, if_false, bind_ok, Option.bind_some, cb_some]
      · have n1 : ¬ p < 2 := fun e => by
          rcases hx with e2 | e2
          · exact n0 e2
          · exact absurd (Int32.lt_of_lt_of_le e e2) Int32.lt_irrefl
        simp only [s_X8_image, s_X8_image_j9, n0, n1, k8, rf, z10', if_true, if_false, bind_ok, Option.bind_some, cb_some]
    · have w := q_w125 (k := 0) (v := 0) ht
      have th : SK (zsi t 125 0 0) := ht
      have bk := q_ck125 th
      have i9 := ino_f (σ := zsi t 125 0 0) (c := 2) (lo := 0) (hi := 1) (by decide) hx rfl rfl
      have tl := tell9_1 th
      rw [zi_ne (by decide)] at tl
      simp only [s_X9_image, w, bk, i9, tl, z10', if_true, if_false, bind_ok, Option.bind_some, cb_some]
/-! back -/
def TK (a k : Nat) : Prop := SD 1 a ∨ (a = 0 ∧ k = 18) ∨ (a = 125 ∧ (k = 0 ∨ k = 1 ∨ k = 8)) ∨ (a = 109 ∧ k = 1) ∨ a = 127
theorem TK.parts {a k : Nat} (h : TK a k) : fTp a k = true ∧ fSm a k = true ∧ fDk a k = true ∧ fCW a = true ∧ fCr 59 a = true ∧ fCr 78 a = true ∧ a ≠ 124 ∧ a ≠ 126 ∧ a < 156 ∧ a ≠ 97 ∧ a ≠ 128 ∧ a ≠ 129 := by
  unfold TK SD at h
  have hq : (1 ≤ a ∧ a < 16) ∨ (a = 0 ∧ k = 18) ∨ (a = 125 ∧ (k = 0 ∨ k = 1 ∨ k = 8)) ∨ (a = 109 ∧ k = 1) ∨ a = 127 := by omega
  have c1 : fCr 59 a = true := by unfold fCr; simp; omega
  have c7 : fCr 78 a = true := by unfold fCr; simp; omega
  have c2 : fCW a = true := by unfold fCW; simp; omega
  have c3 : fTp a k = true := by unfold fTp; simp; omega
  have c4 : fSm a k = true := by unfold fSm; simp; omega
  have c5 : fDk a k = true := by unfold fDk; simp; omega
  exact ⟨c3, c4, c5, c2, c1, c7, by omega, by omega, by omega, by omega, by omega, by omega⟩
theorem loopBk {s : Hp} (hS : SK s) {k : Nat} (hk : k < 2) :
    ∃ t, s_X9_back_l39 (125, iN k, 0) s = some (125, t) ∧ Ag (Cp 127 0 5578) s t ∧ ∀ i, i < 5578 → zi t 127 i = zi s 128 (5578 * k + i) := by
  obtain ⟨t, g1, g2, g3, -⟩ := loop_copy (body := fun v => s_X9_back_b39 (v.1) (v.2.1) (v.2.2)) 127 0 128 (5578 * k) 5578 (fun i => (125, iN k, iN i)) 125 (Or.inl (by decide)) hS (fun i t hi ht => by
    have f1 : ¬ (5578 : Int32) ≤ iN i := fun q => absurd ((iN_le (a := 5578) (by decide) (by omega)).mp q) (by omega)
    have r4 := q_r125_4 ht
    have b3 := q_r125_3 ht
    have i1 : iN i + 1 = iN (i + 1) := iN_add i 1
    have l : ldI 11 t 128 (5578 * iN k + iN i) = some (zi t 128 (5578 * k + i)) := by
      rw [show (5578 : Int32) = iN 5578 from rfl, iN_mul, iN_add]
      exact q_ld128 (by omega) ht
    have st := q_st127 (n := i) (v := zi t 128 (5578 * k + i)) hi ht
    rw [show 0 + i = i by omega]
    simp only [s_X9_back_b39, f1, r4, b3, l, st, i1, z10', if_true, if_false, bind_ok, Option.bind_some, cb_some]) (fun t ht => by
    have f1 : (5578 : Int32) ≤ iN 5578 := by decide
    simp only [s_X9_back_b39, f1, z10', if_true, if_false, bind_ok, Option.bind_some, cb_some])
  refine ⟨t, g1, g2, fun i hi => ?_⟩
  have := g3 i hi
  rwa [show 0 + i = i by omega] at this
theorem b_back {p : Int32} (hr : Rel σ) : Both (s_X8_back 0 p) (s_X9_back 125 p) σ := by
  obtain ⟨⟨hS, ⟨nt, hT⟩, hR, hM, hW, hD, hI⟩, nP0, nF0, nB0, nT0, nS0, nL0, B0, n0, hC0, hU0⟩ := id hr
  have k8 := q_ck0 hS
  rcases nx p (c := 2) (by omega) with ⟨k, hk, rfl⟩ | hx
  · have hdk := imB_of hk
    have p0 : ¬ iN k < 0 := iN_nn (by omega)
    have p1 : iN k < 2 := (iN_lt (b := 2) (by omega) (by decide)).mpr hk
    have r4 := q_r0_4 hS
    have l97 := q_ld97 (n := k) hk hS
    have hIk : ImF (imB k) σ (zi σ 97 k) (zi σ 129 k) (fun i => zi σ 128 (5578 * k + i)) := by
      rcases hdk with ⟨rfl, ed⟩ | ⟨rfl, ed⟩
      · rw [ed]
        exact hI.1.low rfl rfl (fun i _ => by rw [show 5578 * 0 + i = i by omega])
      · rw [ed]
        exact hI.2.1
    have i9 : ∀ t : Hp, s_X9_in (Int32.toInt64 (iN k)) 0 1 t = some (1, t) := fun t => ino_t (c := 2) (by decide) hk rfl rfl
    obtain ⟨e97, hz⟩ := hIk
    rcases hz with z0 | ⟨z1, nP, nF, nB, nT, nS, nL, B, hK⟩
    · rw [z0] at l97 e97
      have rf := ref8_2 hS
      have h8 : s_X8_back 0 (iN k) σ = some (-2, zsi (zsi σ 0 18 (-2)) 124 1 (zi σ 124 1 + 1)) := by
        simp only [s_X8_back, p0, p1, r4, l97, k8, rf, z10', if_true, if_false, bind_ok, Option.bind_some, cb_some]
      have S1 : SK (zsi (zsi σ 0 18 (-2)) 124 1 (zi σ 124 1 + 1)) := hS
      have w := q_w125 (k := 0) (v := 0) S1
      have S2 : SK (zsi (zsi (zsi σ 0 18 (-2)) 124 1 (zi σ 124 1 + 1)) 125 0 0) := hS
      have bk := q_ck125 S2
      have i9 := i9 (zsi (zsi (zsi σ 0 18 (-2)) 124 1 (zi σ 124 1 + 1)) 125 0 0)
      have r5 := q_r125_5 S2
      have l129 := q_ld129 (n := k) hk S2
      rw [zi_ne (by decide), zi_ne (by decide), zi_ne (by decide), ← e97] at l129
      have tl := tell9_2 S2
      generalize hz : zi (zsi (zsi (zsi σ 0 18 (-2)) 124 1 (zi σ 124 1 + 1)) 125 0 0) 126 2 + 1 = z at tl
      have h9 : s_X9_back 125 (iN k) (zsi (zsi σ 0 18 (-2)) 124 1 (zi σ 124 1 + 1)) = some (-2, zsi (zsi (zsi (zsi (zsi σ 0 18 (-2)) 124 1 (zi σ 124 1 + 1)) 125 0 0) 125 1 (-2)) 126 2 z) := by
        simp only [s_X9_back, w, i9, r5, l129, bk, tl, z10', if_true, if_false, bind_ok, Option.bind_some, cb_some]
      exact Both.mk h8 h9 (hr.bad (by decide) (by rw [← hz, zi_ne (by decide), zi_ne (by decide), zi_ne (by decide)])) (S1.2.1 125 (by decide)).1
    · rw [z1] at l97 e97
      have r0 := q_r0_0 hS
      have r3 := q_r0_3 hS
      have l58 := q_imB hS hk
      have k1 := h_ck0 hS.hk1
      obtain ⟨s1, a1, a2, a3, a4⟩ := copyFrom8 hS.hk1 (hS.hkI hk) (show Apart 1 (imB k) by unfold Apart; omega) (fun j hj => hI.2.2.k (imB k) (by omega) j hj)
      have F1 : Fr TK 1 σ s1 := a2.fr (fun a k q => Or.inl q)
      have S1 := F1.sk hS (by omega)
      have r8 := q_r0_8 S1
      have k109 := q_ck109 S1
      have cl := clear8 S1
      have S2 : SK (zsi s1 109 1 0) := S1
      have k8' := q_ck0 S2
      have gr := grant8 S2 (v := 0)
      have S3 : SK (zsi (zsi s1 109 1 0) 0 18 0) := S1
      have w := q_w125 (k := 0) (v := 0) S3
      have S4 : SK (zsi (zsi (zsi s1 109 1 0) 0 18 0) 125 0 0) := S1
      have i9 := i9 (zsi (zsi (zsi s1 109 1 0) 0 18 0) 125 0 0)
      have r5 := q_r125_5 S4
      have l129 := q_ld129 (n := k) hk S4
      have c129 : zi s1 129 k = zi σ 129 k := (a2.2.2.2.1 129 k (by unfold SD; omega)).1
      rw [zi_ne (by decide), zi_ne (by decide), zi_ne (by decide), c129, ← e97] at l129
      obtain ⟨t1, g1, g2, g3⟩ := loopBk S4 hk
      have T1 := S4.ag g2
      have bk := q_ck125 T1
      have la := last9 T1 (n := 0) (by decide)
      have la : s_X9_lasting 125 0 t1 = some (0, zsi (zsi t1 125 8 0) 125 1 0) := la
      have E2 : Ag TK s1 (zsi (zsi (zsi s1 109 1 0) 0 18 0) 125 0 0) := ((Ag.zsi (Or.inr (Or.inr (Or.inr (Or.inl ⟨rfl, rfl⟩))))).trans (Ag.zsi (Or.inr (Or.inl ⟨rfl, rfl⟩)))).trans (Ag.zsi (Or.inr (Or.inr (Or.inl ⟨rfl, Or.inl rfl⟩))))
      have E3 : Ag TK t1 (zsi (zsi t1 125 8 0) 125 1 0) := (Ag.zsi (Or.inr (Or.inr (Or.inl ⟨rfl, Or.inr (Or.inr rfl)⟩)))).trans (Ag.zsi (Or.inr (Or.inr (Or.inl ⟨rfl, Or.inr (Or.inl rfl)⟩))))
      have E := ((F1.then E2).then (g2.mono (fun a j q => Or.inr (Or.inr (Or.inr (Or.inr q.1)))))).then E3
      have P : ∀ a j, TK a j → _ := fun a j q => q.parts
      have n127 : ∀ i, i < 5578 → zi (zsi (zsi t1 125 8 0) 125 1 0) 127 i = zi σ 128 (5578 * k + i) := fun i hi => by
        rw [zi_ne (by decide), zi_ne (by decide), g3 i hi, zi_ne (by decide), zi_ne (by decide), zi_ne (by decide)]
        exact (a2.2.2.2.1 128 _ (by unfold SD; omega)).1
      have hK2 := hK.low (R1 := zi (zsi (zsi t1 125 8 0) 125 1 0) 127) n127
      have hH : HHm 1 (zsi (zsi t1 125 8 0) 125 1 0) (zi (zsi (zsi t1 125 8 0) 125 1 0) 127) := (a3 _ hK2.2.1).congr (fun o ho => funext fun j => by
        rw [zi_ne (by omega), zi_ne (by omega), (g2.2.2.2.2 _ j (fun q => by have := q.1; omega)).1, zi_ne (by omega), zi_ne (by omega), zi_ne (by omega)])
      have er : zr (zsi (zsi t1 125 8 0) 125 1 0) = zr s1 := g2.2.2.2.1
      have hx' : ∀ j, j < 6 → zr (zsi (zsi t1 125 8 0) 125 1 0) (1 + 15) j = zr σ (imB k + 15) j := fun j hj => by rw [er]; exact a4 j hj
      have hN : Cr 1 (zsi (zsi t1 125 8 0) 125 1 0) nP nF nB nT nS nL 999 B (zi (zsi (zsi t1 125 8 0) 125 1 0) 127) := hK2.copied E (by omega) (fun a j q => (P a j q).2.2.2.2.2.2.2.2.1) hH hx'
      have h18 : zi (zsi (zsi t1 125 8 0) 125 1 0) 0 18 = 0 := by
        rw [zi_ne (by decide), zi_ne (by decide), (g2.2.2.2.2 0 18 (fun q => absurd q.1 (by decide))).1, zi_ne (by decide), zi_hit]
      have h109 : zi (zsi (zsi t1 125 8 0) 125 1 0) 109 1 = 0 := by
        rw [zi_ne (by decide), zi_ne (by decide), (g2.2.2.2.2 109 1 (fun q => absurd q.1 (by decide))).1, zi_ne (by decide), zi_ne (by decide), zi_hit]
      have h8' : zi (zsi (zsi t1 125 8 0) 125 1 0) 125 8 = 0 := by
        rw [zi_miss (by decide), zi_hit]
      have hTf : Tp nt (mask σ (zsi (zsi t1 125 8 0) 125 1 0)) := hT.gg E.1 (fun a j q => (P a j q).1)
      have hMf : Sm (mask σ (zsi (zsi t1 125 8 0) 125 1 0)) := hM.gg E.1 (fun a j q => (P a j q).2.1)
      have hWf : CW (mask σ (zsi (zsi t1 125 8 0) 125 1 0)) := hW.gg E.1 (fun a j q => (P a j q).2.2.2.1)
      have hDf : Dk (mask σ (zsi (zsi t1 125 8 0) 125 1 0)) := hD.gg E.1 (fun a j q => (P a j q).2.2.1)
      have f97 : ∀ j, zi (zsi (zsi t1 125 8 0) 125 1 0) 97 j = zi σ 97 j := fun j => (E.1.2.2.2.2 97 j (fun q => (P _ _ q).2.2.2.2.2.2.2.2.2.1 rfl)).1
      have f128 : ∀ j, zi (zsi (zsi t1 125 8 0) 125 1 0) 128 j = zi σ 128 j := fun j => (E.1.2.2.2.2 128 j (fun q => (P _ _ q).2.2.2.2.2.2.2.2.2.2.1 rfl)).1
      have f129 : ∀ j, zi (zsi (zsi t1 125 8 0) 125 1 0) 129 j = zi σ 129 j := fun j => (E.1.2.2.2.2 129 j (fun q => (P _ _ q).2.2.2.2.2.2.2.2.2.2.2 rfl)).1
      refine Both.mk (r := 0) (σ1 := zsi (zsi s1 109 1 0) 0 18 0) (σ2 := zsi (zsi t1 125 8 0) 125 1 0) ?_ ?_ ?_ (S3.2.1 125 (by decide)).1
      · simp only [s_X8_back, p0, p1, r4, l97, r0, r3, l58, k1, a1, r8, k109, cl, k8', gr, z10', if_true, if_false, bind_ok, Option.bind_some, cb_some]
      · simp only [s_X9_back, w, i9, r5, l129, g1, bk, la, z10', if_true, if_false, bind_ok, Option.bind_some, cb_some]
      · refine ⟨⟨E.sk hS (by omega), ⟨nt, hTf⟩, ?_, hMf, hWf, hDf, ?_⟩, nP, nF, nB, nT, nS, nL, B, 0, hN, Un.zero h109 h8'⟩
        · exact hR.of (h18.trans zi_hit.symm) (funext fun j => (E.1.2.2.2.2 124 j (fun q => (P _ _ q).2.2.2.2.2.2.1 rfl)).1) (funext fun j => (E.1.2.2.2.2 126 j (fun q => (P _ _ q).2.2.2.2.2.2.2.1 rfl)).1)
        · refine ⟨?_, ?_, TxF.copied hI.2.2 (by exact E.1.1) (by exact E.1.2.1) E.2 (by omega) (Or.inl rfl) hx'⟩
          · exact (hI.1.fr E (by omega) (by omega) (fun a j q => (P a j q).2.2.2.2.1)).low (f97 0) (f129 0) (fun i _ => f128 i)
          · exact (hI.2.1.fr E (by omega) (by omega) (fun a j q => (P a j q).2.2.2.2.2.1)).low (f97 1) (f129 1) (fun i _ => f128 _)
  · have rf := ref8_1 hS
    refine Both.bad (s := -1) (x := 0) (y := 1) hr (by decide) ?_ (fun t ht e1 => ?_)
    · by_cases n0 : p < 0
      · simp only [s_X8_back, s_X8_back_j9, n0, k8, rf, z10', if_true, if_false, bind_ok, Option.bind_some, cb_some]
      · have n1 : ¬ p < 2 := fun e => by
          rcases hx with e2 | e2
          · exact n0 e2
          · exact absurd (Int32.lt_of_lt_of_le e e2) Int32.lt_irrefl
        simp only [s_X8_back, s_X8_back_j9, n0, n1, k8, rf, z10', if_true, if_false, bind_ok, Option.bind_some, cb_some]
    · have w := q_w125 (k := 0) (v := 0) ht
      have th : SK (zsi t 125 0 0) := ht
      have bk := q_ck125 th
      have i9 := ino_f (σ := zsi t 125 0 0) (c := 2) (lo := 0) (hi := 1) (by decide) hx rfl rfl
      have tl := tell9_1 th
      rw [zi_ne (by decide)] at tl
      simp only [s_X9_back, w, bk, i9, tl, z10', if_true, if_false, bind_ok, Option.bind_some, cb_some]
end V36
