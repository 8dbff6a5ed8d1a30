/-! ===== stride, put, door ===== -/
section V32
variable {σ : Hp}
theorem agput {S : Nat → Nat → Prop} {s t : Hp} (h : Ag S s t) {a k : Nat} {v : Int32} : Ag S (zsi s a k v) (zsi t a k v) :=
  ⟨h.1, h.2.1, h.2.2.1, h.2.2.2.1, fun b j hn => by
    refine ⟨?_, (h.2.2.2.2 b j hn).2⟩
    by_cases c : b = a ∧ j = k
    · obtain ⟨rfl, rfl⟩ := c
      rw [zi_hit, zi_hit]
    · rw [zi_free c, zi_free c]
      exact (h.2.2.2.2 b j hn).1⟩
theorem settle_n (h : SK σ) {n : Nat} (hn : n < 2147483648) : s_X8_settle 0 (iN n) σ = some (iN n, zsi σ 0 18 0) := by
  have h0 : (0 : Int32) ≤ iN n := Int32.not_lt.mp (iN_nn hn)
  simp only [s_X8_settle, h0, q_ck0 h, grant8 h, z10', if_true, if_false, bind_ok, Option.bind_some, cb_some]
theorem settle_1 (h : SK σ) : s_X8_settle 0 (-1) σ = some (-1, zsi (zsi σ 0 18 (-1)) 124 0 (zi σ 124 0 + 1)) := by
  have h0 : ¬ (0 : Int32) ≤ -1 := by decide
  simp only [s_X8_settle, h0, q_ck0 h, ref8_1 h, z10', if_true, if_false, bind_ok, Option.bind_some, cb_some]
theorem settle_2 (h : SK σ) : s_X8_settle 0 (-2) σ = some (-2, zsi (zsi σ 0 18 (-2)) 124 1 (zi σ 124 1 + 1)) := by
  have h0 : ¬ (0 : Int32) ≤ -2 := by decide
  simp only [s_X8_settle, h0, q_ck0 h, ref8_2 h, z10', if_true, if_false, bind_ok, Option.bind_some, cb_some]
theorem settle_3 (h : SK σ) : s_X8_settle 0 (-3) σ = some (-3, zsi (zsi σ 0 18 (-3)) 124 2 (zi σ 124 2 + 1)) := by
  have h0 : ¬ (0 : Int32) ≤ -3 := by decide
  simp only [s_X8_settle, h0, q_ck0 h, ref8_3 h, z10', if_true, if_false, bind_ok, Option.bind_some, cb_some]
theorem S8p.n {a k : Nat} (h : free a k = false) : ¬ S8p a k := fun q => by rw [fr_S8p a k q] at h; cases h
/-- refused after some reckoning -/
theorem Both.badp {f g : Hp → Option (Int32 × Hp)} {s : Int32} {x y : Nat} {σ1 : Hp} (hr : Rel σ) (hx : (x, y) ∈ [(0, 1), (1, 2), (2, 3), (3, 5), (4, 6)]) (E8 : Ag S8p σ σ1)
    (h1 : f σ = some (s, zsi (zsi σ1 0 18 s) 124 x (zi σ1 124 x + 1)))
    (h2 : ∀ t, SK t → zi t 127 = zi σ 127 → zi t 125 20 = zi σ 125 20 → ∃ t2, Ag S9p (zsi t 125 0 0) t2 ∧ g t = some (s, zsi (zsi t2 125 1 s) 126 y (zi t2 126 y + 1))) : Both f g σ := by
  have r1 := hr.ag E8 fr_S8p
  have hS1 : SK (zsi (zsi σ1 0 18 s) 124 x (zi σ1 124 x + 1)) := r1.1.1
  obtain ⟨t2, q1, q2⟩ := h2 _ hS1 (by
    rw [zi_ne (by decide), zi_ne (by decide)]
    exact funext fun k => (E8.2.2.2.2 127 k (S8p.n (by simp [free, fUn]))).1) (by
    rw [zi_ne (by decide), zi_ne (by decide)]
    exact (E8.2.2.2.2 125 20 (S8p.n rfl)).1)
  refine Both.mk h1 q2 ?_ (hS1.2.1 125 (by decide)).1
  have e : zi t2 126 y = zi σ1 126 y := by
    rw [(q1.2.2.2.2 126 y (by
      rintro (q | q | q)
      · exact S9.n (by decide) (Or.inl (by decide)) q
      · omega
      · omega)).1, zi_ne (by decide), zi_ne (by decide), zi_ne (by decide)]
  exact (r1.bad hx (z := zi t2 126 y + 1) (by rw [e])).p (agput (agput q1))
/-- what a deed changes -/
def SH (a k : Nat) : Prop := S8p a k ∨ (1 ≤ a ∧ a ≤ 15)
def TD (a k : Nat) : Prop := SH a k ∨ S9w a k ∨ S110 a k ∨ S131 a k ∨ (a = 125 ∧ (k = 0 ∨ k = 1)) ∨ (a = 0 ∧ k = 18)
theorem TD.cases {a k : Nat} (h : TD a k) : free a k = true ∨ (1 ≤ a ∧ a ≤ 15) ∨ (a = 127 ∧ 7 ≤ k ∧ k < 30) ∨ (146 ≤ a ∧ a ≤ 151) ∨ a = 130 ∨ a = 110 ∨ (a = 109 ∧ k = 1) ∨ a = 131 ∨ (a = 125 ∧ (k = 8 ∨ k = 0 ∨ k = 1)) ∨ (a = 0 ∧ k = 18) := by
  rcases h with (h | h) | ((h | h | h) | h) | (h | h) | (h | h | h) | h | h
  · exact Or.inl (fr_S8p a k h)
  · exact Or.inr (Or.inl h)
  · exact Or.inl (fr_S9 a k h)
  · exact Or.inr (Or.inr (Or.inr (Or.inl h)))
  · exact Or.inr (Or.inr (Or.inr (Or.inr (Or.inl h.1))))
  · exact Or.inr (Or.inr (Or.inl h))
  · exact Or.inr (Or.inr (Or.inr (Or.inr (Or.inr (Or.inl h)))))
  · exact Or.inr (Or.inr (Or.inr (Or.inr (Or.inr (Or.inr (Or.inl h))))))
  · exact Or.inr (Or.inr (Or.inr (Or.inr (Or.inl h.1))))
  · exact Or.inr (Or.inr (Or.inr (Or.inr (Or.inr (Or.inr (Or.inr (Or.inl h)))))))
  · exact Or.inr (Or.inr (Or.inr (Or.inr (Or.inr (Or.inr (Or.inr (Or.inr (Or.inl ⟨h.1, Or.inl h.2⟩))))))))
  · exact Or.inr (Or.inr (Or.inr (Or.inr (Or.inr (Or.inr (Or.inr (Or.inr (Or.inl ⟨h.1, Or.inr h.2⟩))))))))
  · exact Or.inr (Or.inr (Or.inr (Or.inr (Or.inr (Or.inr (Or.inr (Or.inr (Or.inr h))))))))
theorem TD.parts {a k : Nat} (h : TD a k) : fTp a k = true ∧ fSm a k = true ∧ fDk a k = true ∧ fIm a = true ∧ fCW a = true ∧ a ≠ 124 ∧ a ≠ 126 ∧ a < 156 ∧ (a = 125 → k ≠ 20) ∧ (a = 127 → k < 178) := by
  rcases h.cases with h | h | h | h | rfl | rfl | ⟨rfl, rfl⟩ | rfl | ⟨rfl, rfl | rfl | rfl⟩ | ⟨rfl, rfl⟩
  · have h2 := h
    unfold free at h
    simp only [Bool.and_eq_true] at h
    refine ⟨h.1.1.1.1.1.1.1, h.1.1.1.1.2, h.1.1.1.1.1.2, h.1.2, h.2, ?_, ?_, ?_, ?_, ?_⟩
    · rintro rfl; simp [free, fRf] at h2
    · rintro rfl; simp [free, fRf] at h2
    · have := h.1.1.2; unfold fCr at this; simp at this; exact this.2
    · rintro rfl rfl; simp [free, fSm] at h2
    · rintro rfl; simp [free, fUn] at h2
  · have h3 : a = 1 ∨ a = 2 ∨ a = 3 ∨ a = 4 ∨ a = 5 ∨ a = 6 ∨ a = 7 ∨ a = 8 ∨ a = 9 ∨ a = 10 ∨ a = 11 ∨ a = 12 ∨ a = 13 ∨ a = 14 ∨ a = 15 := by omega
    rcases h3 with rfl | rfl | rfl | rfl | rfl | rfl | rfl | rfl | rfl | rfl | rfl | rfl | rfl | rfl | rfl <;> simp [fTp, fSm, fDk, fIm, fCr, fCW]
  · obtain ⟨rfl, h1, h2⟩ := h
    refine ⟨rfl, rfl, rfl, rfl, rfl, by decide, by decide, by decide, fun q => absurd q (by decide), fun _ => by omega⟩
  · have h3 : a = 146 ∨ a = 147 ∨ a = 148 ∨ a = 149 ∨ a = 150 ∨ a = 151 := by omega
    rcases h3 with rfl | rfl | rfl | rfl | rfl | rfl <;> simp [fTp, fSm, fDk, fIm, fCr, fCW]
  · simp [fTp, fSm, fDk, fIm, fCr, fCW]
  · simp [fTp, fSm, fDk, fIm, fCr, fCW]
  · simp [fTp, fSm, fDk, fIm, fCr, fCW]
  · simp [fTp, fSm, fDk, fIm, fCr, fCW]
  · simp [fTp, fSm, fDk, fIm, fCr, fCW]
  · simp [fTp, fSm, fDk, fIm, fCr, fCW]
  · simp [fTp, fSm, fDk, fIm, fCr, fCW]
  · simp [fTp, fSm, fDk, fIm, fCr, fCW]
section DI
variable {nP nF nB nT nS nL n : Nat} {B : Book} {R R1 : Nat → Int32}
theorem LHouse.td {s : Hp} (h : LHouse 1 σ B nL) (E : Ag TD σ s) : LHouse 1 s B nL := fun j hj => by
  obtain ⟨t, q1, q2⟩ := h j hj
  exact ⟨t, by rw [E.2.2.2.1]; exact q1, q2.same (Nat.le_of_eq E.1.symm) (fun a ha _ => ⟨by rw [E.2.1], by rw [E.2.2.1], by rw [E.2.2.2.1], funext fun k => (E.2.2.2.2 a k (fun q => by have := q.parts.2.2.2.2.2.2.2.1; omega)).1⟩)⟩
theorem LRow.td (h : LRow R B nL) (e : ∀ i, 178 ≤ i → R1 i = R i) : LRow R1 B nL := fun j hj => (h j hj).congr e
theorem Ag.row178 {s : Hp} (E : Ag TD σ s) : ∀ i, 178 ≤ i → zi s 127 i = zi σ 127 i := fun i hi => (E.2.2.2.2 127 i (fun q => by have := q.parts.2.2.2.2.2.2.2.2.2 rfl; omega)).1
theorem M8.low {H H1 : Nat} {s : Hp} (h : M8 1 nP nF nB nT nS nL H B R σ) (hS : SK s) (E : Ag TD σ s) (hH : HHm 1 s R1) (hW : WF nP nF nB nT nS nL H1 R1) (hT : ∀ i, 178 ≤ i → R1 i = R i) : M8 1 nP nF nB nT nS nL H1 B R1 s :=
  ⟨h.1, hS.hk1, hH, hW, h.2.2.2.2.1.td E, h.2.2.2.2.2.td hT⟩
theorem M9.low {H H1 : Nat} {s : Hp} (h : M9 nP nF nB nT nS nL H B R σ) (E : Ag TD σ s) (hR : zi s 127 = R1) (hW : WF nP nF nB nT nS nL H1 R1) : M9 nP nF nB nT nS nL H1 B R1 s :=
  ⟨h.1.ag E, hR, hW, h.2.2.2.1.td (fun i hi => by rw [← hR, ← h.2.1]; exact E.row178 i hi), ((E.2.2.2.2 125 20 (fun q => q.parts.2.2.2.2.2.2.2.2.1 rfl rfl)).1).trans h.2.2.2.2⟩
theorem newD_congr {k a b : Int32} {s : Hp} (h1 : zi s 1 18 = zi σ 1 18) (h2 : ∀ j, zi s 9 j = zi σ 9 j) : ∀ m, newD k a b s m = newD k a b σ m
  | 0 => rfl
  | 1 => rfl
  | 2 => rfl
  | 3 => h1
  | m + 4 => h2 m
theorem Rel.did {sA sB sC t1 t2 tE : Hp} {k a b : Int32} (hr : Rel σ) (hC : Cr 1 σ nP nF nB nT nS nL 999 B (zi σ 127)) (hU : Un nP nF nT n σ)
    (e1 : Ag S8p σ sA) (d1 : Ag S110 sA sB) (d2 : zi sB 109 1 = iN (stay n + 1)) (d3 : ∀ j m, j < stay n → m < 7 → zi sB 110 (7 * j + m) = zi sA 110 (7 * was n j + m)) (d4 : ∀ m, m < 7 → zi sB 110 (7 * stay n + m) = newD k a b sA m)
    (e2 : Ag SH sB sC) (e3 : Ag S9p (zsi (zsi sC 0 18 0) 125 0 0) t1)
    (r1 : Ag S131 t1 t2) (r2 : zi t2 125 8 = iN (stay n + 1)) (r3 : ∀ j i, j < stay n → i < 23 → zi t2 130 (23 * j + i) = zi t1 130 (23 * was n j + i)) (r4 : ∀ i, i < 23 → zi t2 130 (23 * stay n + i) = zi t1 127 (7 + i)) (r5 : ∀ j, j < stay n → zi t2 131 j = zi t1 131 (was n j)) (r6 : zi t2 131 (stay n) = k)
    (e4 : Ag S9w t2 tE) (hH : HHm 1 sC (zi tE 127)) (hW : WF nP nF nB nT nS nL 999 (zi tE 127))
    (hu : UStep nP nF nT (newD k a b σ) k (fun i => zi σ 127 (7 + i)) (fun i => zi tE 127 (7 + i))) : Rel (zsi tE 125 1 0) := by
  have E1 : Ag TD σ sC := ((e1.mono (fun _ _ q => Or.inl (Or.inl q))).trans (d1.mono (fun _ _ q => Or.inr (Or.inr (Or.inl q))))).trans (e2.mono (fun _ _ q => Or.inl q))
  have E2 : Ag TD sC (zsi (zsi sC 0 18 0) 125 0 0) := (Ag.zsi (Or.inr (Or.inr (Or.inr (Or.inr (Or.inr ⟨rfl, rfl⟩)))))).trans (Ag.zsi (Or.inr (Or.inr (Or.inr (Or.inr (Or.inl ⟨rfl, Or.inl rfl⟩))))))
  have E3 : Ag TD (zsi (zsi sC 0 18 0) 125 0 0) t2 := (e3.mono (fun _ _ q => Or.inr (Or.inl (Or.inl q)))).trans (r1.mono (fun _ _ q => Or.inr (Or.inr (Or.inr (Or.inl q)))))
  have E4 : Ag TD t2 (zsi tE 125 1 0) := (e4.mono (fun _ _ q => Or.inr (Or.inl q))).trans (Ag.zsi (Or.inr (Or.inr (Or.inr (Or.inr (Or.inl ⟨rfl, Or.inr rfl⟩))))))
  have E := ((E1.trans E2).trans E3).trans E4
  obtain ⟨⟨hS, ⟨nt, hT⟩, hR, hM, hw, hD, hI⟩, -⟩ := hr
  -- what the class's and the reference's steps keep
  have k8 : ∀ a j, a ≤ 124 → ¬ (a = 0 ∧ j = 18) → zi (zsi tE 125 1 0) a j = zi sC a j := fun a j ha hn => by
    rw [zi_ne (by omega), (e4.2.2.2.2 a j (by
      rintro ((q | q | q) | q)
      · rcases q with q | q <;> omega
      · omega
      · omega
      · omega)).1, (r1.2.2.2.2 a j (by
      rintro (q | q | q) <;> omega)).1, (e3.2.2.2.2 a j (by
      rintro (q | q | q)
      · rcases q with q | q <;> omega
      · omega
      · omega)).1, zi_ne (by omega), zi_free hn]
  have k9 : ∀ a j, 124 ≤ a → zi t1 a j = zi (zsi (zsi sC 0 18 0) 125 0 0) a j → ¬ (a = 125 ∧ j = 0) → zi t1 a j = zi σ a j := fun a j ha h hn => by
    have n8 : ¬ S8p a j := by
      rintro (q | q)
      · unfold S8 at q; omega
      · omega
    rw [h, zi_free hn, zi_ne (by omega), (e2.2.2.2.2 a j (by
      rintro (q | q)
      · exact n8 q
      · omega)).1, (d1.2.2.2.2 a j (by
      rintro (q | q) <;> omega)).1, (e1.2.2.2.2 a j n8).1]
  have t131 : ∀ j, zi t1 131 j = zi σ 131 j := fun j => k9 131 j (by decide) (e3.2.2.2.2 131 j (by
    rintro (q | q | q)
    · exact S9.n (by decide) (Or.inl (by decide)) q
    · omega
    · omega)).1 (by omega)
  have t127 : ∀ j, zi t1 127 j = zi σ 127 j := fun j => k9 127 j (by decide) (e3.2.2.2.2 127 j (by
    rintro (q | q | q)
    · exact S9.n (by decide) (Or.inl (by decide)) q
    · omega
    · omega)).1 (by omega)
  have t130 : ∀ j, j < 368 → zi t1 130 j = zi σ 130 j := fun j hj => k9 130 j (by decide) (e3.2.2.2.2 130 j (by
    rintro (q | q | q)
    · exact S9.n (by decide) (Or.inl (by decide)) q
    · omega
    · omega)).1 (by omega)
  have f127 : zi (zsi tE 125 1 0) 127 = zi tE 127 := zi_ne (by decide)
  have hn16 := hU.1
  have hst := stay_lt hn16
  have f131 : ∀ j, zi (zsi tE 125 1 0) 131 j = zi t2 131 j := fun j => by
    rw [zi_ne (by decide), (e4.2.2.2.2 131 j (by
      rintro ((q | q | q) | q)
      · exact S9.n (by decide) (Or.inl (by decide)) q
      · omega
      · omega
      · omega)).1]
  have f130 : ∀ j, j < 368 → zi (zsi tE 125 1 0) 130 j = zi t2 130 j := fun j hj => by
    rw [zi_ne (by decide), (e4.2.2.2.2 130 j (by
      rintro ((q | q | q) | q)
      · exact S9.n (by decide) (Or.inl (by decide)) q
      · omega
      · omega
      · omega)).1]
  have f110 : ∀ j, zi (zsi tE 125 1 0) 110 j = zi sB 110 j := fun j => by
    rw [k8 110 j (by decide) (by omega), (e2.2.2.2.2 110 j (by
      rintro (q | q)
      · exact S8p.n (by simp [free, fUn]) q
      · omega)).1]
  have a110 : ∀ j, zi sA 110 j = zi σ 110 j := fun j => (e1.2.2.2.2 110 j (S8p.n (by simp [free, fUn]))).1
  have dD : ∀ m, newD k a b sA m = newD k a b σ m := newD_congr ((e1.2.2.2.2 1 18 (S8p.n rfl)).1) (fun j => (e1.2.2.2.2 9 j (S8p.n (fr_house (b := 1) (o := 8) (Or.inl rfl) (by decide)))).1)
  refine ⟨⟨hS.ag E, ⟨nt, hT.gg E (fun _ _ q => q.parts.1)⟩, ?_, hM.gg E (fun _ _ q => q.parts.2.1), hw.gg E (fun _ _ q => q.parts.2.2.2.2.1), hD.gg E (fun _ _ q => q.parts.2.2.1), hI.gg E (fun _ _ q => q.parts.2.2.2.1)⟩, nP, nF, nB, nT, nS, nL, B, stay n + 1, ?_, ?_⟩
  · refine hR.of ?_ (funext fun j => (E.2.2.2.2 124 j (fun q => q.parts.2.2.2.2.2.1 rfl)).1) (funext fun j => (E.2.2.2.2 126 j (fun q => q.parts.2.2.2.2.2.2.1 rfl)).1)
    rw [zi_hit, zi_ne (by decide), (e4.2.2.2.2 0 18 (by
      rintro ((q | q | q) | q)
      · rcases q with q | q <;> omega
      · omega
      · omega
      · omega)).1, (r1.2.2.2.2 0 18 (by rintro (q | q | q) <;> omega)).1, (e3.2.2.2.2 0 18 (by
      rintro (q | q | q)
      · rcases q with q | q <;> omega
      · omega
      · omega)).1, zi_ne (by decide), zi_hit]
  · rw [f127]
    exact ⟨hW, hH.congr (fun o ho => funext fun j => k8 _ j (by omega) (by omega)), hC.2.2.1.td (fun i hi => by rw [← f127]; exact E.row178 i hi), hC.2.2.2.td E⟩
  · unfold Un at *
    refine hU.more ?_ ?_ (fun j m hj hm => ?_) (fun j hj => ?_) (fun j i hj hi => ?_) (fun i hi => ?_) ?_
    · rw [k8 109 1 (by decide) (by omega), (e2.2.2.2.2 109 1 (by
        rintro (q | q)
        · exact S8p.n rfl q
        · omega)).1]
      exact d2
    · rw [zi_miss (by decide), (e4.2.2.2.2 125 8 (by
        rintro ((q | q | q) | q)
        · rcases q with q | q <;> omega
        · omega
        · omega
        · omega)).1]
      exact r2
    · rw [f110, d3 j m hj hm, a110]
    · rw [f131, r5 j hj, t131]
    · rw [f130 _ (by omega), r3 j i hj hi, t130 _ (by
        have : was n j < 16 := by unfold was stay at *; split at hj <;> split <;> omega
        omega)]
    · rw [f130 _ (by omega), r4 i hi, t127]
    · refine hu.congr (fun m hm => ?_) ?_ (fun _ _ => rfl) (fun i hi => ?_)
      · show zi (zsi tE 125 1 0) 110 _ = _
        rw [f110, d4 m hm, dD]
      · rw [f131]
        exact r6
      · rw [f127]
end DI
end V32
