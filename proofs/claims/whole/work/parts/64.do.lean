/-! ===== stride, put, door ===== -/
section V32
variable {σ : Hp}
theorem agput {S : Nat → Nat → Prop} {s t : Hp} (h : Ag S s t) {a k : Nat} {v : Int32} : Ag S (zsi s a k v) (zsi t a k v) :=
  ⟨h.1, h.2.1, h.2.2.1, h.2.2.2.1, fun b j hn => by
    refine ⟨?_, (h.2.2.2.2 b j hn).2⟩
    by_cases c : b = a ∧ j = k
    · obtain ⟨rfl, rfl⟩ := c
      rw [zi_hit, zi_hit]
    · rw [zi_free c, zi_free c]
      exact (h.2.2.2.2 b j hn).1⟩
theorem settle_n (h : SK σ) {n : Nat} (hn : n < 2147483648) : s_X8_settle 0 (iN n) σ = some (iN n, zsi σ 0 18 0) := by
  have h0 : (0 : Int32) ≤ iN n := Int32.not_lt.mp (iN_nn hn)
  simp only [s_X8_settle, h0, q_ck0 h, grant8 h, z10', if_true, if_false, bind_ok, Option.bind_some, cb_some]
theorem settle_1 (h : SK σ) : s_X8_settle 0 (-1) σ = some (-1, zsi (zsi σ 0 18 (-1)) 124 0 (zi σ 124 0 + 1)) := by
  have h0 : ¬ (0 : Int32) ≤ -1 := by decide
  simp only [s_X8_settle, h0, q_ck0 h, ref8_1 h, z10', if_true, if_false, bind_ok, Option.bind_some, cb_some]
theorem settle_2 (h : SK σ) : s_X8_settle 0 (-2) σ = some (-2, zsi (zsi σ 0 18 (-2)) 124 1 (zi σ 124 1 + 1)) := by
  have h0 : ¬ (0 : Int32) ≤ -2 := by decide
  simp only [s_X8_settle, h0, q_ck0 h, ref8_2 h, z10', if_true, if_false, bind_ok, Option.bind_some, cb_some]
theorem settle_3 (h : SK σ) : s_X8_settle 0 (-3) σ = some (-3, zsi (zsi σ 0 18 (-3)) 124 2 (zi σ 124 2 + 1)) := by
  have h0 : ¬ (0 : Int32) ≤ -3 := by decide
  simp only [s_X8_settle, h0, q_ck0 h, ref8_3 h, z10', if_true, if_false, bind_ok, Option.bind_some, cb_some]
theorem S8p.n {a k : Nat} (h : free a k = false) : ¬ S8p a k := fun q => by rw [fr_S8p a k q] at h; cases h
/-- refused after some reckoning -/
theorem Both.badp {f g : Hp → Option (Int32 × Hp)} {s : Int32} {x y : Nat} {σ1 : Hp} (hr : Rel σ) (hx : (x, y) ∈ [(0, 1), (1, 2), (2, 3), (3, 5), (4, 6)]) (E8 : Ag S8p σ σ1)
    (h1 : f σ = some (s, zsi (zsi σ1 0 18 s) 124 x (zi σ1 124 x + 1)))
    (h2 : ∀ t, SK t → zi t 127 = zi σ 127 → zi t 125 20 = zi σ 125 20 → ∃ t2, Ag S9p (zsi t 125 0 0) t2 ∧ g t = some (s, zsi (zsi t2 125 1 s) 126 y (zi t2 126 y + 1))) : Both f g σ := by
  have r1 := hr.ag E8 fr_S8p
  have hS1 : SK (zsi (zsi σ1 0 18 s) 124 x (zi σ1 124 x + 1)) := r1.1.1
  obtain ⟨t2, q1, q2⟩ := h2 _ hS1 (by
    rw [zi_ne (by decide), zi_ne (by decide)]
    exact funext fun k => (E8.2.2.2.2 127 k (S8p.n (by simp [free, fUn]))).1) (by
    rw [zi_ne (by decide), zi_ne (by decide)]
    exact (E8.2.2.2.2 125 20 (S8p.n rfl)).1)
  refine Both.mk h1 q2 ?_ (hS1.2.1 125 (by decide)).1
  have e : zi t2 126 y = zi σ1 126 y := by
    rw [(q1.2.2.2.2 126 y (by
      rintro (q | q | q)
      · exact S9.n (by decide) (Or.inl (by decide)) q
      · omega
      · omega)).1, zi_ne (by decide), zi_ne (by decide), zi_ne (by decide)]
  exact (r1.bad hx (z := zi t2 126 y + 1) (by rw [e])).p (agput (agput q1))
/-- what a deed changes -/
def SH (a k : Nat) : Prop := S8p a k ∨ (1 ≤ a ∧ a ≤ 15)
def TD (a k : Nat) : Prop := SH a k ∨ S9w a k ∨ S110 a k ∨ S131 a k ∨ (a = 125 ∧ (k = 0 ∨ k = 1)) ∨ (a = 0 ∧ k = 18)
theorem TD.cases {a k : Nat} (h : TD a k) : free a k = true ∨ (1 ≤ a ∧ a ≤ 15) ∨ (a = 127 ∧ 7 ≤ k ∧ k < 30) ∨ (146 ≤ a ∧ a ≤ 151) ∨ a = 130 ∨ a = 110 ∨ (a = 109 ∧ k = 1) ∨ a = 131 ∨ (a = 125 ∧ (k = 8 ∨ k = 0 ∨ k = 1)) ∨ (a = 0 ∧ k = 18) := by
  rcases h with (h | h) | ((h | h | h) | h) | (h | h) | (h | h | h) | h | h
  · exact Or.inl (fr_S8p a k h)
  · exact Or.inr (Or.inl h)
  · exact Or.inl (fr_S9 a k h)
  · exact Or.inr (Or.inr (Or.inr (Or.inl h)))
  · exact Or.inr (Or.inr (Or.inr (Or.inr (Or.inl h.1))))
  · exact Or.inr (Or.inr (Or.inl h))
  · exact Or.inr (Or.inr (Or.inr (Or.inr (Or.inr (Or.inl h)))))
  · exact Or.inr (Or.inr (Or.inr (Or.inr (Or.inr (Or.inr (Or.inl h))))))
  · exact Or.inr (Or.inr (Or.inr (Or.inr (Or.inl h.1))))
  · exact Or.inr (Or.inr (Or.inr (Or.inr (Or.inr (Or.inr (Or.inr (Or.inl h)))))))
  · exact Or.inr (Or.inr (Or.inr (Or.inr (Or.inr (Or.inr (Or.inr (Or.inr (Or.inl ⟨h.1, Or.inl h.2⟩))))))))
  · exact Or.inr (Or.inr (Or.inr (Or.inr (Or.inr (Or.inr (Or.inr (Or.inr (Or.inl ⟨h.1, Or.inr h.2⟩))))))))
  · exact Or.inr (Or.inr (Or.inr (Or.inr (Or.inr (Or.inr (Or.inr (Or.inr (Or.inr h))))))))
theorem TD.parts {a k : Nat} (h : TD a k) : fTp a k = true ∧ fSm a k = true ∧ fDk a k = true ∧ fIm a = true ∧ fCW a = true ∧ a ≠ 124 ∧ a ≠ 126 ∧ a < 156 ∧ (a = 125 → k ≠ 20) ∧ (a = 127 → k < 178) := by
  rcases h.cases with h | h | h | h | rfl | rfl | ⟨rfl, rfl⟩ | rfl | ⟨rfl, rfl | rfl | rfl⟩ | ⟨rfl, rfl⟩
  · have h2 := h
    unfold free at h
    simp only [Bool.and_eq_true] at h
    refine ⟨h.1.1.1.1.1.1.1, h.1.1.1.1.2, h.1.1.1.1.1.2, h.1.2, h.2, ?_, ?_, ?_, ?_, ?_⟩
    · rintro rfl; simp [free, fRf] at h2
    · rintro rfl; simp [free, fRf] at h2
    · have := h.1.1.2; unfold fCr at this; simp at this; exact this.2
    · rintro rfl rfl; simp [free, fSm] at h2
    · rintro rfl; simp [free, fUn] at h2
  · have h3 : a = 1 ∨ a = 2 ∨ a = 3 ∨ a = 4 ∨ a = 5 ∨ a = 6 ∨ a = 7 ∨ a = 8 ∨ a = 9 ∨ a = 10 ∨ a = 11 ∨ a = 12 ∨ a = 13 ∨ a = 14 ∨ a = 15 := by omega
    rcases h3 with rfl | rfl | rfl | rfl | rfl | rfl | rfl | rfl | rfl | rfl | rfl | rfl | rfl | rfl | rfl <;> simp [fTp, fSm, fDk, fIm, fCr, fCW]
  · obtain ⟨rfl, h1, h2⟩ := h
    refine ⟨rfl, rfl, rfl, rfl, rfl, by decide, by decide, by decide, fun q => absurd q (by decide), fun _ => by omega⟩
  · have h3 : a = 146 ∨ a = 147 ∨ a = 148 ∨ a = 149 ∨ a = 150 ∨ a = 151 := by omega
    rcases h3 with rfl | rfl | rfl | rfl | rfl | rfl <;> simp [fTp, fSm, fDk, fIm, fCr, fCW]
  · simp [fTp, fSm, fDk, fIm, fCr, fCW]
  · simp [fTp, fSm, fDk, fIm, fCr, fCW]
  · simp [fTp, fSm, fDk, fIm, fCr, fCW]
  · simp [fTp, fSm, fDk, fIm, fCr, fCW]
  · simp [fTp, fSm, fDk, fIm, fCr, fCW]
  · simp [fTp, fSm, fDk, fIm, fCr, fCW]
  · simp [fTp, fSm, fDk, fIm, fCr, fCW]
  · simp [fTp, fSm, fDk, fIm, fCr, fCW]
section DI
variable {nP nF nB nT nS nL n : Nat} {B : Book} {R R1 : Nat → Int32}
theorem LHouse.td {s : Hp} (h : LHouse 1 σ B nL) (E : Ag TD σ s) : LHouse 1 s B nL := fun j hj => by
  obtain ⟨t, q1, q2⟩ := h j hj
  exact ⟨t, by rw [E.2.2.2.1]; exact q1, q2.same (Nat.le_of_eq E.1.symm) (fun a ha _ => ⟨by rw [E.2.1], by rw [E.2.2.1], by rw [E.2.2.2.1], funext fun k => (E.2.2.2.2 a k (fun q => by have := q.parts.2.2.2.2.2.2.2.1; omega)).1⟩)⟩
theorem LRow.td (h : LRow R B nL) (e : ∀ i, 178 ≤ i → R1 i = R i) : LRow R1 B nL := fun j hj => (h j hj).congr e
theorem Ag.row178 {s : Hp} (E : Ag TD σ s) : ∀ i, 178 ≤ i → zi s 127 i = zi σ 127 i := fun i hi => (E.2.2.2.2 127 i (fun q => by have := q.parts.2.2.2.2.2.2.2.2.2 rfl; omega)).1
theorem M8.low {H H1 : Nat} {s : Hp} (h : M8 1 nP nF nB nT nS nL H B R σ) (hS : SK s) (E : Ag TD σ s) (hH : HHm 1 s R1) (hW : WF nP nF nB nT nS nL H1 R1) (hT : ∀ i, 178 ≤ i → R1 i = R i) : M8 1 nP nF nB nT nS nL H1 B R1 s :=
  ⟨h.1, hS.hk1, hH, hW, h.2.2.2.2.1.td E, h.2.2.2.2.2.td hT⟩
theorem M9.low {H H1 : Nat} {s : Hp} (h : M9 nP nF nB nT nS nL H B R σ) (E : Ag TD σ s) (hR : zi s 127 = R1) (hW : WF nP nF nB nT nS nL H1 R1) : M9 nP nF nB nT nS nL H1 B R1 s :=
  ⟨h.1.ag E, hR, hW, h.2.2.2.1.td (fun i hi => by rw [← hR, ← h.2.1]; exact E.row178 i hi), ((E.2.2.2.2 125 20 (fun q => q.parts.2.2.2.2.2.2.2.2.1 rfl rfl)).1).trans h.2.2.2.2⟩
theorem newD_congr {k a b : Int32} {s : Hp} (h1 : zi s 1 18 = zi σ 1 18) (h2 : ∀ j, zi s 9 j = zi σ 9 j) : ∀ m, newD k a b s m = newD k a b σ m
  | 0 => rfl
  | 1 => rfl
  | 2 => rfl
  | 3 => h1
  | m + 4 => h2 m
theorem Rel.did {sA sB sC t1 t2 tE : Hp} {k a b : Int32} (hr : Rel σ) (hC : Cr 1 σ nP nF nB nT nS nL 999 B (zi σ 127)) (hU : Un nP nF nT n σ)
    (e1 : Ag S8p σ sA) (d1 : Ag S110 sA sB) (d2 : zi sB 109 1 = iN (stay n + 1)) (d3 : ∀ j m, j < stay n → m < 7 → zi sB 110 (7 * j + m) = zi sA 110 (7 * was n j + m)) (d4 : ∀ m, m < 7 → zi sB 110 (7 * stay n + m) = newD k a b sA m)
    (e2 : Ag SH sB sC) (e3 : Ag S9p (zsi (zsi sC 0 18 0) 125 0 0) t1)
    (r1 : Ag S131 t1 t2) (r2 : zi t2 125 8 = iN (stay n + 1)) (r3 : ∀ j i, j < stay n → i < 23 → zi t2 130 (23 * j + i) = zi t1 130 (23 * was n j + i)) (r4 : ∀ i, i < 23 → zi t2 130 (23 * stay n + i) = zi t1 127 (7 + i)) (r5 : ∀ j, j < stay n → zi t2 131 j = zi t1 131 (was n j)) (r6 : zi t2 131 (stay n) = k)
    (e4 : Ag S9w t2 tE) (hH : HHm 1 sC (zi tE 127)) (hW : WF nP nF nB nT nS nL 999 (zi tE 127))
    (hu : UStep nP nF nT (newD k a b σ) k (fun i => zi σ 127 (7 + i)) (fun i => zi tE 127 (7 + i))) : Rel (zsi tE 125 1 0) := by
  have E1 : Ag TD σ sC := ((e1.mono (fun _ _ q => Or.inl (Or.inl q))).trans (d1.mono (fun _ _ q => Or.inr (Or.inr (Or.inl q))))).trans (e2.mono (fun _ _ q => Or.inl q))
  have E2 : Ag TD sC (zsi (zsi sC 0 18 0) 125 0 0) := (Ag.zsi (Or.inr (Or.inr (Or.inr (Or.inr (Or.inr ⟨rfl, rfl⟩)))))).trans (Ag.zsi (Or.inr (Or.inr (Or.inr (Or.inr (Or.inl ⟨rfl, Or.inl rfl⟩))))))
  have E3 : Ag TD (zsi (zsi sC 0 18 0) 125 0 0) t2 := (e3.mono (fun _ _ q => Or.inr (Or.inl (Or.inl q)))).trans (r1.mono (fun _ _ q => Or.inr (Or.inr (Or.inr (Or.inl q)))))
  have E4 : Ag TD t2 (zsi tE 125 1 0) := (e4.mono (fun _ _ q => Or.inr (Or.inl q))).trans (Ag.zsi (Or.inr (Or.inr (Or.inr (Or.inr (Or.inl ⟨rfl, Or.inr rfl⟩))))))
  have E := ((E1.trans E2).trans E3).trans E4
  obtain ⟨⟨hS, ⟨nt, hT⟩, hR, hM, hw, hD, hI⟩, -⟩ := hr
  -- what the class's and the reference's steps keep
  have k8 : ∀ a j, a ≤ 124 → ¬ (a = 0 ∧ j = 18) → zi (zsi tE 125 1 0) a j = zi sC a j := fun a j ha hn => by
    rw [zi_ne (by omega), (e4.2.2.2.2 a j (by
      rintro ((q | q | q) | q)
      · rcases q with q | q <;> omega
      · omega
      · omega
      · omega)).1, (r1.2.2.2.2 a j (by
      rintro (q | q | q) <;> omega)).1, (e3.2.2.2.2 a j (by
      rintro (q | q | q)
      · rcases q with q | q <;> omega
      · omega
      · omega)).1, zi_ne (by omega), zi_free hn]
  have k9 : ∀ a j, 124 ≤ a → zi t1 a j = zi (zsi (zsi sC 0 18 0) 125 0 0) a j → ¬ (a = 125 ∧ j = 0) → zi t1 a j = zi σ a j := fun a j ha h hn => by
    have n8 : ¬ S8p a j := by
      rintro (q | q)
      · unfold S8 at q; omega
      · omega
    rw [h, zi_free hn, zi_ne (by omega), (e2.2.2.2.2 a j (by
      rintro (q | q)
      · exact n8 q
      · omega)).1, (d1.2.2.2.2 a j (by
      rintro (q | q) <;> omega)).1, (e1.2.2.2.2 a j n8).1]
  have t131 : ∀ j, zi t1 131 j = zi σ 131 j := fun j => k9 131 j (by decide) (e3.2.2.2.2 131 j (by
    rintro (q | q | q)
    · exact S9.n (by decide) (Or.inl (by decide)) q
    · omega
    · omega)).1 (by omega)
  have t127 : ∀ j, zi t1 127 j = zi σ 127 j := fun j => k9 127 j (by decide) (e3.2.2.2.2 127 j (by
    rintro (q | q | q)
    · exact S9.n (by decide) (Or.inl (by decide)) q
    · omega
    · omega)).1 (by omega)
  have t130 : ∀ j, j < 368 → zi t1 130 j = zi σ 130 j := fun j hj => k9 130 j (by decide) (e3.2.2.2.2 130 j (by
    rintro (q | q | q)
    · exact S9.n (by decide) (Or.inl (by decide)) q
    · omega
    · omega)).1 (by omega)
  have f127 : zi (zsi tE 125 1 0) 127 = zi tE 127 := zi_ne (by decide)
  have hn16 := hU.1
  have hst := stay_lt hn16
  have f131 : ∀ j, zi (zsi tE 125 1 0) 131 j = zi t2 131 j := fun j => by
    rw [zi_ne (by decide), (e4.2.2.2.2 131 j (by
      rintro ((q | q | q) | q)
      · exact S9.n (by decide) (Or.inl (by decide)) q
      · omega
      · omega
      · omega)).1]
  have f130 : ∀ j, j < 368 → zi (zsi tE 125 1 0) 130 j = zi t2 130 j := fun j hj => by
    rw [zi_ne (by decide), (e4.2.2.2.2 130 j (by
      rintro ((q | q | q) | q)
      · exact S9.n (by decide) (Or.inl (by decide)) q
      · omega
      · omega
      · omega)).1]
  have f110 : ∀ j, zi (zsi tE 125 1 0) 110 j = zi sB 110 j := fun j => by
    rw [k8 110 j (by decide) (by omega), (e2.2.2.2.2 110 j (by
      rintro (q | q)
      · exact S8p.n (by simp [free, fUn]) q
      · omega)).1]
  have a110 : ∀ j, zi sA 110 j = zi σ 110 j := fun j => (e1.2.2.2.2 110 j (S8p.n (by simp [free, fUn]))).1
  have dD : ∀ m, newD k a b sA m = newD k a b σ m := newD_congr ((e1.2.2.2.2 1 18 (S8p.n rfl)).1) (fun j => (e1.2.2.2.2 9 j (S8p.n (fr_house (b := 1) (o := 8) (Or.inl rfl) (by decide)))).1)
  refine ⟨⟨hS.ag E, ⟨nt, hT.gg E (fun _ _ q => q.parts.1)⟩, ?_, hM.gg E (fun _ _ q => q.parts.2.1), hw.gg E (fun _ _ q => q.parts.2.2.2.2.1), hD.gg E (fun _ _ q => q.parts.2.2.1), hI.gg E (fun _ _ q => q.parts.2.2.2.1)⟩, nP, nF, nB, nT, nS, nL, B, stay n + 1, ?_, ?_⟩
  · refine hR.of ?_ (funext fun j => (E.2.2.2.2 124 j (fun q => q.parts.2.2.2.2.2.1 rfl)).1) (funext fun j => (E.2.2.2.2 126 j (fun q => q.parts.2.2.2.2.2.2.1 rfl)).1)
    rw [zi_hit, zi_ne (by decide), (e4.2.2.2.2 0 18 (by
      rintro ((q | q | q) | q)
      · rcases q with q | q <;> omega
      · omega
      · omega
      · omega)).1, (r1.2.2.2.2 0 18 (by rintro (q | q | q) <;> omega)).1, (e3.2.2.2.2 0 18 (by
      rintro (q | q | q)
      · rcases q with q | q <;> omega
      · omega
      · omega)).1, zi_ne (by decide), zi_hit]
  · rw [f127]
    exact ⟨hW, hH.congr (fun o ho => funext fun j => k8 _ j (by omega) (by omega)), hC.2.2.1.td (fun i hi => by rw [← f127]; exact E.row178 i hi), hC.2.2.2.td E⟩
  · unfold Un at *
    refine hU.more ?_ ?_ (fun j m hj hm => ?_) (fun j hj => ?_) (fun j i hj hi => ?_) (fun i hi => ?_) ?_
    · rw [k8 109 1 (by decide) (by omega), (e2.2.2.2.2 109 1 (by
        rintro (q | q)
        · exact S8p.n rfl q
        · omega)).1]
      exact d2
    · rw [zi_miss (by decide), (e4.2.2.2.2 125 8 (by
        rintro ((q | q | q) | q)
        · rcases q with q | q <;> omega
        · omega
        · omega
        · omega)).1]
      exact r2
    · rw [f110, d3 j m hj hm, a110]
    · rw [f131, r5 j hj, t131]
    · rw [f130 _ (by omega), r3 j i hj hi, t130 _ (by
        have : was n j < 16 := by unfold was stay at *; split at hj <;> split <;> omega
        omega)]
    · rw [f130 _ (by omega), r4 i hi, t127]
    · refine hu.congr (fun m hm => ?_) ?_ (fun _ _ => rfl) (fun i hi => ?_)
      · show zi (zsi tE 125 1 0) 110 _ = _
        rw [f110, d4 m hm, dD]
      · rw [f131]
        exact r6
      · rw [f127]
end DI
section MK
variable {nP nF nB nT nS nL n : Nat} {B : Book} {R : Nat → Int32}
/-- the deed of one place -/
theorem ustep0 {f p : Nat} {v : Int32} {d : Nat → Int32} (h : WF nP nF nB nT nS nL 999 R) (hf : f < nF) (hon : R (17 + f) = iN p) (d0 : d 0 = 0) (d1 : d 1 = iN f) (d2 : d 2 = iN p) : UStep nP nF nT d 0 (fun i => R (7 + i)) (fun i => up R (17 + f) v (7 + i)) := by
  refine ⟨d0, fun i hi => h.2.2.2 _ (by omega) (by omega), Or.inl ⟨rfl, f, hf, d1, fun i hi => ?_⟩⟩
  by_cases c : i = 10 + f
  · subst c
    rw [up_eq, d2]
    show R (7 + (10 + f)) = _
    rw [show 7 + (10 + f) = 17 + f by omega]
    exact hon
  · rw [up_ne c, up_ne (by omega)]
theorem ustep1 {f : Nat} {v : Int32} {d : Nat → Int32} (h : WF nP nF nB nT nS nL 999 R) (hf : f < nT) (d0 : d 0 = 1) (d1 : d 1 = iN f) (d2 : d 2 = R (24 + f)) : UStep nP nF nT d 1 (fun i => R (7 + i)) (fun i => up R (24 + f) v (7 + i)) := by
  refine ⟨d0, fun i hi => h.2.2.2 _ (by omega) (by omega), Or.inr (Or.inl ⟨rfl, f, hf, d1, fun i hi => ?_⟩)⟩
  by_cases c : i = 17 + f
  · subst c
    rw [up_eq, d2]
    show R (7 + (17 + f)) = _
    rw [show 7 + (17 + f) = 24 + f by omega]
  · rw [up_ne c, up_ne (by omega)]
theorem ag9p {s t : Hp} (e : Ag S9 s t) : Ag S9p s t := e.mono (fun _ _ q => Or.inl q)
theorem n8p {s t : Hp} (e : Ag S8p s t) {a : Nat} (h : ∀ k, free a k = false) : zi t a = zi s a := funext fun k => (e.2.2.2.2 a k (S8p.n (h k))).1
/-- the model after the class -/
theorem m9_after {sC : Hp} (m9 : M9 nP nF nB nT nS nL 999 B (zi σ 127) σ) (E : Ag (fun a k => SH a k ∨ S110 a k) σ sC) : M9 nP nF nB nT nS nL 999 B (zi σ 127) (zsi (zsi sC 0 18 0) 125 0 0) := by
  have no : ∀ {a k : Nat}, 124 ≤ a → ¬ (SH a k ∨ S110 a k) := by
    rintro a k ha ((q | q) | q)
    · rcases q with q | q
      · unfold S8 at q; omega
      · omega
    · omega
    · rcases q with q | q <;> omega
  refine ⟨(show SK sC from m9.1.ag E), ?_, m9.2.2.1, m9.2.2.2.1, ?_⟩
  · rw [zi_ne (by decide), zi_ne (by decide)]
    exact funext fun k => (E.2.2.2.2 127 k (no (by decide))).1
  · rw [zi_miss (by decide), zi_ne (by decide), (E.2.2.2.2 125 20 (no (by decide))).1]
    exact m9.2.2.2.2
theorem m9_p {s t : Hp} (m9 : M9 nP nF nB nT nS nL 999 B R s) (e : Ag S9p s t) : M9 nP nF nB nT nS nL 999 B R t :=
  m9.low (e.mono (fun _ _ q => Or.inr (Or.inl (Or.inl q)))) ((funext fun k => (e.2.2.2.2 127 k (S9p.n fr_127 (Or.inl (by decide)))).1).trans m9.2.1) m9.2.2.1
theorem bI_n {c : Bool} : ∃ m, m < 2 ∧ bI c = iN m := by
  cases c
  · exact ⟨0, by decide, rfl⟩
  · exact ⟨1, by decide, rfl⟩
theorem HHm.row1 {s s1 : Hp} {i o k : Nat} {v : Int32} (h : HHm 1 σ R) (hi : i < 178) (e : loc i = (o, k)) (E : ∀ o, o < 15 → zi s (1 + o) = zi σ (1 + o)) (E1 : ∀ o2, o2 < 15 → zi s1 (1 + o2) = zi (CLowerHalfLaw_law_r4637_57a93e.zsi s (1 + o) k v) (1 + o2)) : HHm 1 s1 (up R i v) :=
  ((h.congr E).set hi e v).congr E1
end MK
theorem b_stride {p1 p2 : Int32} (hr : Rel σ) : Both (s_X8_stride 0 p1 p2) (s_X9_stride 125 p1 p2) σ := by
  obtain ⟨⟨hS, -, -, hM, -, -, -⟩, nP, nF, nB, nT, nS, nL, B, n, hC, hU⟩ := id hr
  have m8 : M8 1 nP nF nB nT nS nL 999 B (zi σ 127) σ := ⟨Or.inl rfl, hS.hk1, hC.2.1, hC.1, hC.2.2.2, hC.2.2.1⟩
  have m9 : M9 nP nF nB nT nS nL 999 B (zi σ 127) σ := ⟨hS, rfl, hC.1, hC.2.2.1, hM.2.2.2⟩
  obtain ⟨hh, hh1, hh2⟩ := bd_hour m8
  have hF4 := m8.f4
  have hP10 := m8.p10
  have c13 : zi σ 1 13 = iN nF := m8.2.2.1.g1.trans m8.2.2.2.1.2.1.2.1
  have k8 := q_ck0 hS
  have r0 := q_r0_0 hS
  have k0 := h_ck0 m8.2.1
  have h0 := h_r0_0 m8.2.1
  have k1 := h_ck1 m8.2.1
  have w1 : zi σ 127 1 = iN nF := m9.2.2.1.2.1.2.1
  have w0 : zi σ 127 0 = iN nP := m9.2.2.1.2.1.1
  rcases nx p1 (c := nF) (by omega) with ⟨f, hf, rfl⟩ | hx
  · have f8 := fk8_t m8.2.1 c13 hF4 hf
    rcases nx p2 (c := nP) (by omega) with ⟨q, hq, rfl⟩ | hx
    · have o8 := one_t m8.2.1 m8.c3 hP10 hq
      obtain ⟨p, hp, hon⟩ := on_n m8.2.2.2.1 hf
      obtain ⟨sA, a1, a2⟩ := may8 m8 (by omega) hh2 hf hq hon hp
      have A2 : Ag S8p σ sA := a2.p8
      have SA := hS.ag a2
      have m8A := m8.agp A2
      cases cn : cnP B (zi σ 127) f p q hh with
      | false =>
        rw [cn] at a1
        have a1 : s_X1_mayStride 1 (iN f) (iN q) σ = some (0, sA) := a1
        have k8A := q_ck0 SA
        have st := settle_3 SA
        refine Both.badp hr (s := -3) (x := 2) (y := 3) (by decide) A2 ?_ (fun t ht e1 e2 => ?_)
        · simp only [s_X8_stride, s_X8_tryStride, k8, r0, k0, f8, h0, k1, o8, a1, k8A, st, z10', if_true, if_false, bind_ok, Option.bind_some, cb_some]
        · have m9t : M9 nP nF nB nT nS nL 999 B (zi σ 127) t := ⟨ht, e1, hC.1, hC.2.2.1, e2.trans hM.2.2.2⟩
          obtain ⟨th1, th2⟩ := m9t.thrown
          have w := q_w125 (k := 0) (v := 0) ht
          have bk := q_ck125 th2.1
          have fk := fk9_t th2.1 (by rw [th2.2.1]; exact w1) (Nat.le_trans hF4 (by decide)) hf
          have pc := pc9_t th2.1 (by rw [th2.2.1]; exact w0) hP10 hq
          have b3 := q_r125_3 th2.1
          have l17 := th2.ld17 (n := f) (by omega)
          rw [hon] at l17
          obtain ⟨t2, c1, c2⟩ := can9 th2 (hr := hh) (by omega) hh2 hf hp hq
          rw [cn] at c1
          have c1 : s_X9_canStride 125 (iN f) (iN p) (iN q) (zsi t 125 0 0) = some (0, t2) := c1
          have bk2 := q_ck125 (th2.1.ag c2)
          have tl := tell9_3 (th2.1.ag c2)
          refine ⟨t2, ag9p c2, ?_⟩
          simp only [s_X9_stride, s_X9_strideNow, w, bk, fk, pc, b3, l17, c1, bk2, tl, z10', if_true, if_false, bind_ok, Option.bind_some, cb_some]
      | true =>
        rw [cn] at a1
        have a1 : s_X1_mayStride 1 (iN f) (iN q) σ = some (1, sA) := a1
        have hn16 := hU.1
        have n1 : zi sA 109 1 = iN n := ((A2.2.2.2.2 109 1 (S8p.n rfl)).1).trans hU.2.1
        obtain ⟨sB, d0, d1, d2, d3, d4⟩ := deed8 SA n1 hn16 (k := 0) (a := iN f) (b := iN p)
        have SB := SA.ag d1
        have hW1 : WF nP nF nB nT nS nL 999 (up (zi σ 127) (17 + f) (iN q)) := hC.1.put (by omega) (by
          unfold okI
          rw [if_neg (by omega), if_neg (by omega), if_neg (by omega), if_neg (by omega), if_neg (by omega), if_pos (by omega)]
          exact ⟨⟨q, by omega, rfl⟩, fun _ => (iN_lt (by omega) (by omega)).mpr hq⟩)
        have EB : Ag TD σ sB := (A2.mono (fun _ _ q => Or.inl (Or.inl q))).trans (d1.mono (fun _ _ q => Or.inr (Or.inr (Or.inl q))))
        have ho : ∀ o, o < 15 → zi sB (1 + o) = zi σ (1 + o) := fun o ho => funext fun k => by
          rw [(d1.2.2.2.2 (1 + o) k (by rintro (q | q) <;> omega)).1, (A2.2.2.2.2 (1 + o) k (S8p.n (fr_house (Or.inl rfl) ho))).1]
        have EC : Ag TD σ (zsi sB 8 f (iN q)) := EB.trans (Ag.zsi (Or.inl (Or.inr (by decide))))
        have hHC : HHm 1 (zsi sB 8 f (iN q)) (up (zi σ 127) (17 + f) (iN q)) := m8.2.2.1.row1 (by omega) (loc_on f (by omega)) ho (fun _ _ => rfl)
        have hT : ∀ i, 178 ≤ i → up (zi σ 127) (17 + f) (iN q) i = zi σ 127 i := fun i hi => up_ne (by omega)
        have SC : SK (zsi sB 8 f (iN q)) := hS.ag EC
        have m8C := m8.low SC EC hHC hW1 hT
        obtain ⟨sD, s1, s2⟩ := safe8 m8C (hr := hh) (by omega) hq
        have SD := SC.ag s2
        obtain ⟨v, hv, ev⟩ := bI_n (c := sfP B (up (zi σ 127) (17 + f) (iN q)) q hh)
        rw [ev] at s1
        have SE2 : Ag SH sB sD := (Ag.zsi (σ := sB) (a := 8) (k := f) (v := iN q) (S := SH) (Or.inr (by decide))).trans (s2.mono (fun _ _ q => Or.inl (Or.inl q)))
        have E8 : Ag (fun a k => SH a k ∨ S110 a k) σ sD := ((A2.mono (fun _ _ q => Or.inl (Or.inl q))).trans (d1.mono (fun _ _ q => Or.inr q))).trans (SE2.mono (fun _ _ q => Or.inl q))
        have m9E := m9_after m9 E8
        -- the reference
        have SE : SK (zsi sD 0 18 0) := SD
        have w := q_w125 (k := 0) (v := 0) SE
        have bk := q_ck125 m9E.1
        have fk := fk9_t m9E.1 (by rw [m9E.2.1]; exact w1) (Nat.le_trans hF4 (by decide)) hf
        have pc := pc9_t m9E.1 (by rw [m9E.2.1]; exact w0) hP10 hq
        have b3 := q_r125_3 m9E.1
        have l17 := m9E.ld17 (n := f) (by omega)
        rw [hon] at l17
        obtain ⟨t1, c1, c2⟩ := can9 m9E (hr := hh) (by omega) hh2 hf hp hq
        rw [cn] at c1
        have c1 : s_X9_canStride 125 (iN f) (iN p) (iN q) (zsi (zsi sD 0 18 0) 125 0 0) = some (1, t1) := c1
        have m9t1 := m9_p m9E (ag9p c2)
        have bk1 := q_ck125 m9t1.1
        have n2 : zi t1 125 8 = iN n := by
          rw [(c2.2.2.2.2 125 8 (S9.n (by decide) (Or.inr (by decide)))).1, zi_miss (by decide), zi_ne (by decide), (E8.2.2.2.2 125 8 (by
            rintro ((q | q) | q)
            · exact S8p.n rfl q
            · omega
            · rcases q with q | q <;> omega)).1]
          exact hU.2.2.1
        obtain ⟨t2, g0, r1, r2, r3, r4, r5, r6⟩ := remember9 m9t1.1 n2 hn16 (k := 0)
        have St2 := m9t1.1.ag r1
        have b32 := q_r125_3 St2
        have sf : stI t2 127 (17 + iN f) (iN q) = some (zsi t2 127 (17 + f) (iN q)) := by
          rw [show (17 : Int32) = iN 17 from rfl, iN_add]
          exact q_st127 (by omega) St2
        have e127 : zi t2 127 = zi σ 127 := by
          rw [← m9t1.2.1]
          exact funext fun k => (r1.2.2.2.2 127 k (by rintro (q | q | q) <;> omega)).1
        have eR : zi (zsi t2 127 (17 + f) (iN q)) 127 = up (zi σ 127) (17 + f) (iN q) := by rw [zi_up, e127]
        have E4 : Ag TD t1 (zsi t2 127 (17 + f) (iN q)) := (r1.mono (fun _ _ q => Or.inr (Or.inr (Or.inr (Or.inl q))))).trans (Ag.zsi (Or.inr (Or.inl (Or.inr ⟨rfl, by omega, by omega⟩))))
        have m9t3 := m9t1.low E4 eR hW1
        have bk3 := q_ck125 m9t3.1
        have h7 : up (zi σ 127) (17 + f) (iN q) 7 = iN hh := (up_ne (by omega)).trans hh2
        obtain ⟨t4, x1, x2⟩ := safe9 m9t3 (hr := hh) (by omega) h7 (p := q) (by omega)
        rw [ev] at x1
        have St4 := m9t3.1.ag x2
        have bk4 := q_ck125 St4
        have tl := tell9 St4 (n := v) (by omega)
        have e127f : zi t4 127 = up (zi σ 127) (17 + f) (iN q) := by
          rw [← eR]
          exact funext fun k => (x2.2.2.2.2 127 k (S9.n (by decide) (Or.inl (by decide)))).1
        have r3A := h_r0_3 m8A.2.1
        have l7A := h_ld7 (n := f) (by omega) m8A.2.1
        rw [m8A.2.2.1.on (by omega), hon] at l7A
        have r0A := q_r0_0 SA
        have r8A := q_r0_8 SA
        have k109 := q_ck109 SA
        have r0B := q_r0_0 SB
        have r3B := h_r0_3 SB.hk1
        have st7 : stI sB (1 + 7) (iN f) (iN q) = some (zsi sB 8 f (iN q)) := h_st7 (by omega) SB.hk1
        have r0C := q_r0_0 SC
        have r10C := h_r0_10 SC.hk1
        have l14C := h_ld14 (n := 0) (by decide) SC.hk1
        rw [m8C.2.2.1.g7, h7] at l14C
        have l14C : ldI 11 (zsi sB 8 f (iN q)) (1 + 14) 0 = _ := l14C
        have k0C := h_ck0 SC.hk1
        have k8D := q_ck0 SD
        have gr := settle_n SD (n := v) (by omega)
        refine Both.mk (r := iN v) (σ1 := zsi sD 0 18 0) (σ2 := zsi t4 125 1 0) ?_ ?_ (hr.did hC hU A2 d1 d2 d3 d4 SE2 (ag9p c2) r1 r2 r3 r4 r5 r6 ?_ ?_ ?_ ?_) (SE.2.1 125 (by decide)).1
        · have hv2 : v = 0 ∨ v = 1 := by omega
          rcases hv2 with rfl | rfl
          · have s1 : s_X1_isSafe 1 (iN q) (iN hh) (zsi sB 8 f (iN q)) = some (0, sD) := s1
            have gr : s_X8_settle 0 0 sD = some (0, zsi sD 0 18 0) := gr
            simp only [s_X8_stride, s_X8_tryStride, k8, r0, k0, f8, h0, k1, o8, a1, r8A, r0A, r3A, l7A, k109, d0, r0B, r3B, st7, r0C, r10C, l14C, k0C, s1, k8D, gr, z10', if_true, if_false, bind_ok, Option.bind_some, cb_some]
            rfl
          · have s1 : s_X1_isSafe 1 (iN q) (iN hh) (zsi sB 8 f (iN q)) = some (1, sD) := s1
            have gr : s_X8_settle 0 1 sD = some (1, zsi sD 0 18 0) := gr
            simp only [s_X8_stride, s_X8_tryStride, k8, r0, k0, f8, h0, k1, o8, a1, r8A, r0A, r3A, l7A, k109, d0, r0B, r3B, st7, r0C, r10C, l14C, k0C, s1, k8D, gr, z10', if_true, if_false, bind_ok, Option.bind_some, cb_some]
            rfl
        · have hv2 : v = 0 ∨ v = 1 := by omega
          rcases hv2 with rfl | rfl
          · have x1 : s_X9_isSafe 125 (iN q) (zsi t2 127 (17 + f) (iN q)) = some (0, t4) := x1
            have tl : s_X9_tell 125 0 t4 = some (0, zsi t4 125 1 0) := tl
            simp only [s_X9_stride, s_X9_strideNow, w, bk, fk, pc, b3, l17, c1, bk1, g0, b32, sf, bk3, x1, bk4, tl, z10', if_true, if_false, bind_ok, Option.bind_some, cb_some]
            rfl
          · have x1 : s_X9_isSafe 125 (iN q) (zsi t2 127 (17 + f) (iN q)) = some (1, t4) := x1
            have tl : s_X9_tell 125 1 t4 = some (1, zsi t4 125 1 0) := tl
            simp only [s_X9_stride, s_X9_strideNow, w, bk, fk, pc, b3, l17, c1, bk1, g0, b32, sf, bk3, x1, bk4, tl, z10', if_true, if_false, bind_ok, Option.bind_some, cb_some]
            rfl
        · exact (Ag.zsi (Or.inr ⟨rfl, by omega, by omega⟩)).trans (x2.mono (fun _ _ q => q.w))
        · rw [e127f]
          exact hHC.congr (fun o ho => funext fun k => (s2.2.2.2.2 (1 + o) k (by unfold S8; omega)).1)
        · rw [e127f]
          exact hW1
        · rw [e127f]
          exact ustep0 hC.1 hf hon rfl rfl rfl
    · have o8 := one_f m8.2.1 m8.c3 hx
      have st := settle_2 hS
      refine Both.bad (s := -2) (x := 1) (y := 2) hr (by decide) ?_ (fun t ht e1 => ?_)
      · simp only [s_X8_stride, s_X8_tryStride, k8, r0, k0, f8, h0, k1, o8, st, z10', if_true, if_false, bind_ok, Option.bind_some, cb_some]
      · have w := q_w125 (k := 0) (v := 0) ht
        have th : SK (zsi t 125 0 0) := ht
        have bk := q_ck125 th
        have fk := fk9_t th (by rw [zi_ne (by decide), e1]; exact w1) (Nat.le_trans hF4 (by decide)) hf
        have pc := pc9_f th (by rw [zi_ne (by decide), e1]; exact w0) hP10 hx
        have tl := tell9_2 th
        rw [zi_ne (by decide)] at tl
        simp only [s_X9_stride, s_X9_strideNow, w, bk, fk, pc, tl, z10', if_true, if_false, bind_ok, Option.bind_some, cb_some]
  · have f8 := fk8_f m8.2.1 c13 hx
    have st := settle_2 hS
    refine Both.bad (s := -2) (x := 1) (y := 2) hr (by decide) ?_ (fun t ht e1 => ?_)
    · simp only [s_X8_stride, s_X8_tryStride, k8, r0, k0, f8, st, z10', if_true, if_false, bind_ok, Option.bind_some, cb_some]
    · have w := q_w125 (k := 0) (v := 0) ht
      have th : SK (zsi t 125 0 0) := ht
      have bk := q_ck125 th
      have fk := fk9_f th (by rw [zi_ne (by decide), e1]; exact w1) (Nat.le_trans hF4 (by decide)) hx
      have tl := tell9_2 th
      rw [zi_ne (by decide)] at tl
      simp only [s_X9_stride, s_X9_strideNow, w, bk, fk, tl, z10', if_true, if_false, bind_ok, Option.bind_some, cb_some]
theorem b_put {p1 p2 : Int32} (hr : Rel σ) : Both (s_X8_put 0 p1 p2) (s_X9_put 125 p1 p2) σ := by
  obtain ⟨⟨hS, -, -, hM, -, -, -⟩, nP, nF, nB, nT, nS, nL, B, n, hC, hU⟩ := id hr
  have m8 : M8 1 nP nF nB nT nS nL 999 B (zi σ 127) σ := ⟨Or.inl rfl, hS.hk1, hC.2.1, hC.1, hC.2.2.2, hC.2.2.1⟩
  have m9 : M9 nP nF nB nT nS nL 999 B (zi σ 127) σ := ⟨hS, rfl, hC.1, hC.2.2.1, hM.2.2.2⟩
  have hT6 := hC.1.1.2.2.2.1
  have hP10 := m8.p10
  have c15 : zi σ 1 15 = iN nT := m8.2.2.1.g3.trans m8.2.2.2.1.2.1.2.2.2.1
  have k8 := q_ck0 hS
  have r0 := q_r0_0 hS
  have k0 := h_ck0 m8.2.1
  have h0 := h_r0_0 m8.2.1
  have k1 := h_ck1 m8.2.1
  have w3 : zi σ 127 3 = iN nT := m9.2.2.1.2.1.2.2.2.1
  have w0 : zi σ 127 0 = iN nP := m9.2.2.1.2.1.1
  rcases nx p1 (c := nT) (by omega) with ⟨f, hf, rfl⟩ | hx
  · have f8 := th8_t m8.2.1 c15 hT6 hf
    rcases nx p2 (c := nP) (by omega) with ⟨q, hq, rfl⟩ | hx
    · have o8 := one_t m8.2.1 m8.c3 hP10 hq
      have h5 := h_r0_5 m8.2.1
      have l9 := h_ld9 (n := f) (by omega) m8.2.1
      rw [m8.2.2.1.lies (by omega)] at l9
      obtain ⟨⟨p, hp, ep⟩, -⟩ := hC.1.lies (t := f) (by omega)
      rw [ep] at l9
      by_cases same : p = q
      · subst same
        have st := settle_3 hS
        refine Both.bad (s := -3) (x := 2) (y := 3) hr (by decide) ?_ (fun t ht e1 => ?_)
        · simp only [s_X8_put, s_X8_tryPut, k8, r0, k0, f8, h0, k1, o8, h5, l9, st, z10', if_true, if_false, bind_ok, Option.bind_some, cb_some]
        · have m9t : SK (zsi t 125 0 0) := ht
          have e127 : zi (zsi t 125 0 0) 127 = zi σ 127 := (zi_ne (by decide)).trans e1
          have w := q_w125 (k := 0) (v := 0) ht
          have bk := q_ck125 m9t
          have fk := th9_t m9t (by rw [e127]; exact w3) (Nat.le_trans hT6 (by decide)) hf
          have pc := pc9_t m9t (by rw [e127]; exact w0) hP10 hq
          have b3 := q_r125_3 m9t
          have l24 : ldI 11 (zsi t 125 0 0) 127 (24 + iN f) = some (iN p) := by
            rw [show (24 : Int32) = iN 24 from rfl, iN_add, q_ld127 (by omega) m9t, e127, ep]
          have tl := tell9_3 m9t
          rw [zi_ne (by decide)] at tl
          simp only [s_X9_put, s_X9_putNow, w, bk, fk, pc, b3, l24, tl, z10', if_true, if_false, bind_ok, Option.bind_some, cb_some]
      · have ns : ¬ iN p = iN q := fun e => same ((iN_inj (by omega) (by omega)).mp e)
        have hn16 := hU.1
        obtain ⟨sB, d0, d1, d2, d3, d4⟩ := deed8 hS hU.2.1 hn16 (k := 1) (a := iN f) (b := iN p)
        have SB := hS.ag d1
        have hW1 : WF nP nF nB nT nS nL 999 (up (zi σ 127) (24 + f) (iN q)) := hC.1.put (by omega) (by
          unfold okI
          rw [if_neg (by omega), if_neg (by omega), if_neg (by omega), if_neg (by omega), if_neg (by omega), if_neg (by omega), if_neg (by omega), if_pos (by omega)]
          exact ⟨⟨q, by omega, rfl⟩, fun _ => (iN_lt (by omega) (by omega)).mpr hq⟩)
        have EB : Ag TD σ sB := d1.mono (fun _ _ q => Or.inr (Or.inr (Or.inl q)))
        have ho : ∀ o, o < 15 → zi sB (1 + o) = zi σ (1 + o) := fun o ho => funext fun k => (d1.2.2.2.2 (1 + o) k (by rintro (q | q) <;> omega)).1
        have EC : Ag TD σ (zsi sB 10 f (iN q)) := EB.trans (Ag.zsi (Or.inl (Or.inr (by decide))))
        have hHC : HHm 1 (zsi sB 10 f (iN q)) (up (zi σ 127) (24 + f) (iN q)) := m8.2.2.1.row1 (by omega) (loc_lies f (by omega)) ho (fun _ _ => rfl)
        have SC : SK (zsi sB 10 f (iN q)) := hS.ag EC
        have SE2 : Ag SH sB (zsi sB 10 f (iN q)) := Ag.zsi (Or.inr (by decide))
        have E8 : Ag (fun a k => SH a k ∨ S110 a k) σ (zsi sB 10 f (iN q)) := (d1.mono (fun _ _ q => Or.inr q)).trans (SE2.mono (fun _ _ q => Or.inl q))
        have m9E := m9_after m9 E8
        have SE : SK (zsi (zsi sB 10 f (iN q)) 0 18 0) := SC
        have w := q_w125 (k := 0) (v := 0) SE
        have bk := q_ck125 m9E.1
        have fk := th9_t m9E.1 (by rw [m9E.2.1]; exact w3) (Nat.le_trans hT6 (by decide)) hf
        have pc := pc9_t m9E.1 (by rw [m9E.2.1]; exact w0) hP10 hq
        have b3 := q_r125_3 m9E.1
        have l24 := m9E.ld24 (n := f) (by omega)
        rw [ep] at l24
        have n2 : zi (zsi (zsi (zsi sB 10 f (iN q)) 0 18 0) 125 0 0) 125 8 = iN n := by
          rw [zi_miss (by decide), zi_ne (by decide), (E8.2.2.2.2 125 8 (by
            rintro ((q | q) | q)
            · exact S8p.n rfl q
            · omega
            · rcases q with q | q <;> omega)).1]
          exact hU.2.2.1
        obtain ⟨t2, g0, r1, r2, r3, r4, r5, r6⟩ := remember9 m9E.1 n2 hn16 (k := 1)
        have St2 := m9E.1.ag r1
        have b32 := q_r125_3 St2
        have sf : stI t2 127 (24 + iN f) (iN q) = some (zsi t2 127 (24 + f) (iN q)) := by
          rw [show (24 : Int32) = iN 24 from rfl, iN_add]
          exact q_st127 (by omega) St2
        have e127 : zi t2 127 = zi σ 127 := by
          rw [← m9E.2.1]
          exact funext fun k => (r1.2.2.2.2 127 k (by rintro (q | q | q) <;> omega)).1
        have eR : zi (zsi t2 127 (24 + f) (iN q)) 127 = up (zi σ 127) (24 + f) (iN q) := by rw [zi_up, e127]
        have St3 : SK (zsi t2 127 (24 + f) (iN q)) := St2
        have bk3 := q_ck125 St3
        have tl := tell9 St3 (n := p) (by omega)
        have r0B := q_r0_0 SB
        have h5B := h_r0_5 SB.hk1
        have st9 : stI sB (1 + 9) (iN f) (iN q) = some (zsi sB 10 f (iN q)) := h_st9 (by omega) SB.hk1
        have r8 := q_r0_8 hS
        have k109 := q_ck109 hS
        have k8C := q_ck0 SC
        have gr := settle_n SC (n := p) (by omega)
        refine Both.mk (r := iN p) (σ1 := zsi (zsi sB 10 f (iN q)) 0 18 0) (σ2 := zsi (zsi t2 127 (24 + f) (iN q)) 125 1 0) ?_ ?_ (hr.did hC hU Ag.refl d1 d2 d3 d4 SE2 Ag.refl r1 r2 r3 r4 r5 r6 ?_ ?_ ?_ ?_) (SE.2.1 125 (by decide)).1
        · simp only [s_X8_put, s_X8_tryPut, k8, r0, k0, f8, h0, k1, o8, h5, l9, ns, r8, k109, d0, r0B, h5B, st9, k8C, gr, z10', if_true, if_false, bind_ok, Option.bind_some, cb_some]
        · simp only [s_X9_put, s_X9_putNow, w, bk, fk, pc, b3, l24, ns, g0, b32, sf, bk3, tl, z10', if_true, if_false, bind_ok, Option.bind_some, cb_some]
        · exact Ag.zsi (Or.inr ⟨rfl, by omega, by omega⟩)
        · rw [eR]
          exact hHC
        · rw [eR]
          exact hW1
        · rw [eR]
          exact ustep1 hC.1 hf rfl rfl (by show iN p = _; exact ep.symm)
    · have o8 := one_f m8.2.1 m8.c3 hx
      have st := settle_2 hS
      refine Both.bad (s := -2) (x := 1) (y := 2) hr (by decide) ?_ (fun t ht e1 => ?_)
      · simp only [s_X8_put, s_X8_tryPut, k8, r0, k0, f8, h0, k1, o8, st, z10', if_true, if_false, bind_ok, Option.bind_some, cb_some]
      · have w := q_w125 (k := 0) (v := 0) ht
        have th : SK (zsi t 125 0 0) := ht
        have bk := q_ck125 th
        have fk := th9_t th (by rw [zi_ne (by decide), e1]; exact w3) (Nat.le_trans hT6 (by decide)) hf
        have pc := pc9_f th (by rw [zi_ne (by decide), e1]; exact w0) hP10 hx
        have tl := tell9_2 th
        rw [zi_ne (by decide)] at tl
        simp only [s_X9_put, s_X9_putNow, w, bk, fk, pc, tl, z10', if_true, if_false, bind_ok, Option.bind_some, cb_some]
  · have f8 := th8_f m8.2.1 c15 hx
    have st := settle_2 hS
    refine Both.bad (s := -2) (x := 1) (y := 2) hr (by decide) ?_ (fun t ht e1 => ?_)
    · simp only [s_X8_put, s_X8_tryPut, k8, r0, k0, f8, st, z10', if_true, if_false, bind_ok, Option.bind_some, cb_some]
    · have w := q_w125 (k := 0) (v := 0) ht
      have th : SK (zsi t 125 0 0) := ht
      have bk := q_ck125 th
      have fk := th9_f th (by rw [zi_ne (by decide), e1]; exact w3) (Nat.le_trans hT6 (by decide)) hx
      have tl := tell9_2 th
      rw [zi_ne (by decide)] at tl
      simp only [s_X9_put, s_X9_putNow, w, bk, fk, tl, z10', if_true, if_false, bind_ok, Option.bind_some, cb_some]
/-! door -/
section DO
variable {nP nF nB nT nS nL n : Nat} {B : Book} {R : Nat → Int32}
theorem sh5 : ∀ y, y < 6 → iN y &&& 31 = iN y := by decide
theorem iN_xor (a b : Nat) : iN a ^^^ iN b = iN (a ^^^ b) := by
  apply Int32.toBitVec_inj.mp
  apply BitVec.eq_of_getLsbD_eq
  intro i hi
  have e : ∀ n : Nat, (iN n).toBitVec = BitVec.ofNat 32 n := fun n => rfl
  rw [Int32.toBitVec_xor, BitVec.getLsbD_xor, e, e, e, BitVec.getLsbD_ofNat, BitVec.getLsbD_ofNat, BitVec.getLsbD_ofNat, Nat.testBit_xor]
  simp [hi]
theorem bd_xor {x : Int32} {y : Nat} (h : bd x 63) (hy : y < 6) : bd (x ^^^ (1 <<< iN y)) 63 := by
  obtain ⟨m, h1, rfl⟩ := h
  rw [← sh5 y hy, shl1 y (by omega), iN_xor]
  refine ⟨_, ?_, rfl⟩
  have h2 : m < 2 ^ 6 := by omega
  have h3 : 2 ^ y < 2 ^ 6 := Nat.pow_lt_pow_right (by decide) hy
  have := Nat.xor_lt_two_pow h2 h3
  omega
theorem and1 (x : Int32) : x &&& 1 = 0 ∨ x &&& 1 = 1 := by
  have h1 : (x &&& 1).toBitVec.toNat ≤ 1 := by
    rw [Int32.toBitVec_and, show (1 : Int32).toBitVec = 1#32 from rfl, BitVec.toNat_and]
    exact Nat.and_le_right
  have h2 : x &&& 1 = Int32.ofNat (x &&& 1).toBitVec.toNat := (Int32.ofNat_bitVecToNat (x &&& 1).toBitVec).symm
  rcases Nat.le_one_iff_eq_zero_or_eq_one.mp h1 with h | h
  · rw [h] at h2
    exact Or.inl h2
  · rw [h] at h2
    exact Or.inr h2
theorem bit01 (x k : Int32) : (x >>> (k &&& 31)) &&& 1 = bI (hbP x k) := by
  unfold hbP bI
  rcases and1 (x >>> (k &&& 31)) with h | h
  · rw [h]; rfl
  · rw [h]; rfl
def drR (R : Nat → Int32) (x y : Nat) : Nat → Int32 := up (up R (11 + x) (R (11 + x) ^^^ (1 <<< iN y))) (11 + y) (R (11 + y) ^^^ (1 <<< iN x))
theorem drR_wf (h : WF nP nF nB nT nS nL 999 R) {x y : Nat} (hx : x < 6) (hy : y < 6) : WF nP nF nB nT nS nL 999 (drR R x y) := by
  have ok : ∀ {i : Nat} {v : Int32}, i < 6 → bd v 63 → okI nP nF nT 999 (11 + i) v := fun {i v} hi hv => by
    unfold okI
    rw [if_neg (by omega), if_neg (by omega), if_neg (by omega), if_neg (by omega), if_pos (by omega)]
    exact hv
  exact (h.put (by omega) (ok hx (bd_xor (h.doors hx) hy))).put (by omega) (ok hy (bd_xor (h.doors hy) hx))
theorem ustep2 {x y : Nat} {d : Nat → Int32} (h : WF nP nF nB nT nS nL 999 R) (hx : x < 6) (hy : y < 6) (hxy : x ≠ y) (d0 : d 0 = 2) (d1 : d 1 = iN x) (d2 : d 2 = iN y) : UStep nP nF nT d 2 (fun i => R (7 + i)) (fun i => drR R x y (7 + i)) := by
  refine ⟨d0, fun i hi => h.2.2.2 _ (by omega) (by omega), Or.inr (Or.inr (Or.inl ⟨rfl, x, y, hx, hy, hxy, d1, d2, fun i hi => ?_⟩))⟩
  have xx : ∀ a b : Int32, a ^^^ b ^^^ b = a := fun a b => by rw [Int32.xor_assoc, Int32.xor_self, Int32.xor_zero]
  have ex : drR R x y (7 + (4 + x)) = R (11 + x) ^^^ (1 <<< iN y) := by
    unfold drR
    rw [show 7 + (4 + x) = 11 + x by omega, up_ne (by omega), up_eq]
  have ey : drR R x y (7 + (4 + y)) = R (11 + y) ^^^ (1 <<< iN x) := by
    unfold drR
    rw [show 7 + (4 + y) = 11 + y by omega, up_eq]
  by_cases c : i = 4 + y
  · subst c
    rw [up_eq]
    show R (7 + (4 + y)) = drR R x y (7 + (4 + y)) ^^^ _
    rw [ey, xx, show 7 + (4 + y) = 11 + y by omega]
  · rw [up_ne c]
    by_cases c2 : i = 4 + x
    · subst c2
      rw [up_eq]
      show R (7 + (4 + x)) = drR R x y (7 + (4 + x)) ^^^ _
      rw [ex, xx, show 7 + (4 + x) = 11 + x by omega]
    · rw [up_ne c2]
      show R (7 + i) = drR R x y (7 + i)
      unfold drR
      rw [up_ne (by omega), up_ne (by omega)]
end DO
theorem b_door {p1 p2 : Int32} (hr : Rel σ) : Both (s_X8_door 0 p1 p2) (s_X9_door 125 p1 p2) σ := by
  obtain ⟨⟨hS, -, -, hM, -, -, -⟩, nP, nF, nB, nT, nS, nL, B, n, hC, hU⟩ := id hr
  have m8 : M8 1 nP nF nB nT nS nL 999 B (zi σ 127) σ := ⟨Or.inl rfl, hS.hk1, hC.2.1, hC.1, hC.2.2.2, hC.2.2.1⟩
  have m9 : M9 nP nF nB nT nS nL 999 B (zi σ 127) σ := ⟨hS, rfl, hC.1, hC.2.2.1, hM.2.2.2⟩
  have k8 := q_ck0 hS
  have r0 := q_r0_0 hS
  have st := settle_1 hS
  rcases nx p1 (c := 6) (by omega) with ⟨x, hx, rfl⟩ | hx
  · have ax8 := rm8_t (σ := σ) hx
    rcases nx p2 (c := 6) (by omega) with ⟨y, hy, rfl⟩ | hy
    · have ay8 := rm8_t (σ := σ) hy
      by_cases same : x = y
      · subst same
        refine Both.bad (s := -1) (x := 0) (y := 1) hr (by decide) ?_ (fun t ht e1 => ?_)
        · simp only [s_X8_door, s_X8_tryDoor, k8, ax8, st, z10', if_true, if_false, bind_ok, Option.bind_some, cb_some]
        · have w := q_w125 (k := 0) (v := 0) ht
          have th : SK (zsi t 125 0 0) := ht
          have bk := q_ck125 th
          have ax := rm9_t (σ := zsi t 125 0 0) hx
          have tl := tell9_1 th
          rw [zi_ne (by decide)] at tl
          simp only [s_X9_door, s_X9_doorNow, w, bk, ax, tl, z10', if_true, if_false, bind_ok, Option.bind_some, cb_some]
      · have ns : ¬ iN x = iN y := fun e => same ((iN_inj (by omega) (by omega)).mp e)
        have hn16 := hU.1
        obtain ⟨sB, d0, d1, d2, d3, d4⟩ := deed8 hS hU.2.1 hn16 (k := 2) (a := iN x) (b := iN y)
        have SB := hS.ag d1
        have hW1 := drR_wf hC.1 hx hy
        have EB : Ag TD σ sB := d1.mono (fun _ _ q => Or.inr (Or.inr (Or.inl q)))
        have ho : ∀ o, o < 15 → zi sB (1 + o) = zi σ (1 + o) := fun o ho => funext fun k => (d1.2.2.2.2 (1 + o) k (by rintro (q | q) <;> omega)).1
        have hB : HHm 1 sB (zi σ 127) := m8.2.2.1.congr ho
        have ex : zi sB 6 x = zi σ 127 (11 + x) := hB.doors hx
        have ey : zi sB 6 y = zi σ 127 (11 + y) := hB.doors hy
        have hH1 : HHm 1 (zsi sB (1 + 5) x (zi σ 127 (11 + x) ^^^ (1 <<< iN y))) _ := hB.set (by omega) (loc_doors x hx) _
        have hH2 : HHm 1 (zsi (zsi sB 6 x (zi σ 127 (11 + x) ^^^ (1 <<< iN y))) 6 y (zi σ 127 (11 + y) ^^^ (1 <<< iN x))) (drR (zi σ 127) x y) := hH1.set (by omega) (loc_doors y hy) _
        have E1 : Ag SH sB (zsi sB 6 x (zi σ 127 (11 + x) ^^^ (1 <<< iN y))) := Ag.zsi (Or.inr (by decide))
        have SE2 : Ag SH sB (zsi (zsi sB 6 x (zi σ 127 (11 + x) ^^^ (1 <<< iN y))) 6 y (zi σ 127 (11 + y) ^^^ (1 <<< iN x))) := E1.trans (Ag.zsi (Or.inr (by decide)))
        have S1 := SB.ag E1
        have SC := SB.ag SE2
        have EC : Ag TD σ (zsi (zsi sB 6 x (zi σ 127 (11 + x) ^^^ (1 <<< iN y))) 6 y (zi σ 127 (11 + y) ^^^ (1 <<< iN x))) := EB.trans (SE2.mono (fun _ _ q => Or.inl q))
        have m8C := m8.low SC EC hH2 hW1 (fun i hi => by unfold drR; rw [up_ne (by omega), up_ne (by omega)])
        have op := open8 m8C hx hy
        have r0B := q_r0_0 SB
        have k0B := h_ck0 SB.hk1
        have h1B := h_r0_1 SB.hk1
        have l5 := h_ld5 (n := x) hx SB.hk1
        have l5 : ldI 11 sB (1 + 5) (iN x) = some (zi σ 127 (11 + x)) := l5.trans (congrArg some ex)
        have s5 : stI sB (1 + 5) (iN x) (zi σ 127 (11 + x) ^^^ (1 <<< iN y)) = some (zsi sB 6 x (zi σ 127 (11 + x) ^^^ (1 <<< iN y))) := h_st5 hx SB.hk1
        have h1C := h_r0_1 S1.hk1
        have m5 : ldI 11 (zsi sB 6 x (zi σ 127 (11 + x) ^^^ (1 <<< iN y))) (1 + 5) (iN y) = some (zi σ 127 (11 + y)) := (h_ld5 (n := y) hy S1.hk1).trans (congrArg some ((zi_miss (fun e => same e.symm)).trans ey))
        have t5 : stI (zsi sB 6 x (zi σ 127 (11 + x) ^^^ (1 <<< iN y))) (1 + 5) (iN y) (zi σ 127 (11 + y) ^^^ (1 <<< iN x)) = some (zsi (zsi sB 6 x (zi σ 127 (11 + x) ^^^ (1 <<< iN y))) 6 y (zi σ 127 (11 + y) ^^^ (1 <<< iN x))) := h_st5 hy S1.hk1
        have ax8B := rm8_t (σ := sB) hx
        have ay8B := rm8_t (σ := sB) hy
        have fx := sh5 x hx
        have fy := sh5 y hy
        have td : s_X1_turnDoor 1 (iN x) (iN y) sB = some ((), zsi (zsi sB 6 x (zi σ 127 (11 + x) ^^^ (1 <<< iN y))) 6 y (zi σ 127 (11 + y) ^^^ (1 <<< iN x))) := by
          simp only [s_X1_turnDoor, ax8B, ay8B, h1B, l5, fy, fx, s5, h1C, m5, t5, z10', if_true, if_false, bind_ok, Option.bind_some, cb_some]
        generalize zsi (zsi sB 6 x (zi σ 127 (11 + x) ^^^ (1 <<< iN y))) 6 y (zi σ 127 (11 + y) ^^^ (1 <<< iN x)) = sC at *
        obtain ⟨v, hv, ev⟩ := bI_n (c := hbP (drR (zi σ 127) x y (11 + x)) (iN y))
        have r0C := q_r0_0 SC
        have k0C := h_ck0 SC.hk1
        have r8 := q_r0_8 hS
        have k109 := q_ck109 hS
        have k8C := q_ck0 SC
        have gr := settle_n SC (n := v) (by omega)
        have E8 : Ag (fun a k => SH a k ∨ S110 a k) σ sC := (d1.mono (fun _ _ q => Or.inr q)).trans (SE2.mono (fun _ _ q => Or.inl q))
        have m9E := m9_after m9 E8
        have SE : SK (zsi sC 0 18 0) := SC
        have w := q_w125 (k := 0) (v := 0) SE
        have bk := q_ck125 m9E.1
        have ax := rm9_t (σ := zsi (zsi sC 0 18 0) 125 0 0) hx
        have ay := rm9_t (σ := zsi (zsi sC 0 18 0) 125 0 0) hy
        have n2 : zi (zsi (zsi sC 0 18 0) 125 0 0) 125 8 = iN n := by
          rw [zi_miss (by decide), zi_ne (by decide), (E8.2.2.2.2 125 8 (by
            rintro ((q | q) | q)
            · exact S8p.n rfl q
            · omega
            · rcases q with q | q <;> omega)).1]
          exact hU.2.2.1
        obtain ⟨t2, g0, r1, r2, r3, r4, r5, r6⟩ := remember9 m9E.1 n2 hn16 (k := 2)
        have St2 := m9E.1.ag r1
        have e127 : zi t2 127 = zi σ 127 := by
          rw [← m9E.2.1]
          exact funext fun k => (r1.2.2.2.2 127 k (by rintro (q | q | q) <;> omega)).1
        have b32 := q_r125_3 St2
        have l1 : ldI 11 t2 127 (11 + iN x) = some (zi σ 127 (11 + x)) := by
          rw [show (11 : Int32) = iN 11 from rfl, iN_add, q_ld127 (by omega) St2, e127]
        have u1 : ∀ v, stI t2 127 (11 + iN x) v = some (zsi t2 127 (11 + x) v) := fun v => by
          rw [show (11 : Int32) = iN 11 from rfl, iN_add]
          exact q_st127 (by omega) St2
        have u1 := u1 (zi σ 127 (11 + x) ^^^ (1 <<< iN y))
        have St3 : SK (zsi t2 127 (11 + x) (zi σ 127 (11 + x) ^^^ (1 <<< iN y))) := St2
        have b33 := q_r125_3 St3
        have l2 : ldI 11 (zsi t2 127 (11 + x) (zi σ 127 (11 + x) ^^^ (1 <<< iN y))) 127 (11 + iN y) = some (zi σ 127 (11 + y)) := by
          rw [show (11 : Int32) = iN 11 from rfl, iN_add, q_ld127 (by omega) St3, zi_miss (by omega), e127]
        have u2 : ∀ v, stI (zsi t2 127 (11 + x) (zi σ 127 (11 + x) ^^^ (1 <<< iN y))) 127 (11 + iN y) v = some (zsi (zsi t2 127 (11 + x) (zi σ 127 (11 + x) ^^^ (1 <<< iN y))) 127 (11 + y) v) := fun v => by
          rw [show (11 : Int32) = iN 11 from rfl, iN_add]
          exact q_st127 (by omega) St3
        have u2 := u2 (zi σ 127 (11 + y) ^^^ (1 <<< iN x))
        have St4 : SK (zsi (zsi t2 127 (11 + x) (zi σ 127 (11 + x) ^^^ (1 <<< iN y))) 127 (11 + y) (zi σ 127 (11 + y) ^^^ (1 <<< iN x))) := St2
        have eR : zi (zsi (zsi t2 127 (11 + x) (zi σ 127 (11 + x) ^^^ (1 <<< iN y))) 127 (11 + y) (zi σ 127 (11 + y) ^^^ (1 <<< iN x))) 127 = drR (zi σ 127) x y := by
          rw [zi_up, zi_up, e127]
          rfl
        have E4 : Ag S9w t2 (zsi (zsi t2 127 (11 + x) (zi σ 127 (11 + x) ^^^ (1 <<< iN y))) 127 (11 + y) (zi σ 127 (11 + y) ^^^ (1 <<< iN x))) := (Ag.zsi (Or.inr ⟨rfl, by omega, by omega⟩)).trans (Ag.zsi (Or.inr ⟨rfl, by omega, by omega⟩))
        have b34 := q_r125_3 St4
        have l3 : ldI 11 (zsi (zsi t2 127 (11 + x) (zi σ 127 (11 + x) ^^^ (1 <<< iN y))) 127 (11 + y) (zi σ 127 (11 + y) ^^^ (1 <<< iN x))) 127 (11 + iN x) = some (drR (zi σ 127) x y (11 + x)) := by
          rw [show (11 : Int32) = iN 11 from rfl, iN_add, q_ld127 (by omega) St4, eR]
        have bk4 := q_ck125 St4
        have tl := tell9 St4 (n := v) (by omega)
        have b01 := (bit01 (drR (zi σ 127) x y (11 + x)) (iN y)).trans ev
        generalize zsi (zsi t2 127 (11 + x) (zi σ 127 (11 + x) ^^^ (1 <<< iN y))) 127 (11 + y) (zi σ 127 (11 + y) ^^^ (1 <<< iN x)) = tE at *
        rw [fy] at b01
        refine Both.mk (r := iN v) (σ1 := zsi sC 0 18 0) (σ2 := zsi tE 125 1 0) ?_ ?_ (hr.did hC hU Ag.refl d1 d2 d3 d4 SE2 Ag.refl r1 r2 r3 r4 r5 r6 E4 ?_ ?_ ?_) (SE.2.1 125 (by decide)).1
        · rw [ev] at op
          have hv2 : v = 0 ∨ v = 1 := by omega
          rcases hv2 with rfl | rfl
          · have op : s_X1_isOpen 1 (iN x) (iN y) sC = some (0, sC) := op
            have gr : s_X8_settle 0 0 sC = some (0, zsi sC 0 18 0) := gr
            simp only [s_X8_door, s_X8_tryDoor, k8, ax8, ay8, ns, r8, r0, k109, d0, r0B, k0B, td, r0C, k0C, op, k8C, gr, z10', if_true, if_false, bind_ok, Option.bind_some, cb_some]
            rfl
          · have op : s_X1_isOpen 1 (iN x) (iN y) sC = some (1, sC) := op
            have gr : s_X8_settle 0 1 sC = some (1, zsi sC 0 18 0) := gr
            simp only [s_X8_door, s_X8_tryDoor, k8, ax8, ay8, ns, r8, r0, k109, d0, r0B, k0B, td, r0C, k0C, op, k8C, gr, z10', if_true, if_false, bind_ok, Option.bind_some, cb_some]
            rfl
        · simp only [s_X9_door, s_X9_doorNow, w, bk, ax, ay, ns, g0, b32, l1, fy, u1, b33, l2, fx, u2, b34, l3, b01, bk4, tl, z10', if_true, if_false, bind_ok, Option.bind_some, cb_some]
        · rw [eR]
          exact hH2
        · rw [eR]
          exact hW1
        · rw [eR]
          exact ustep2 hC.1 hx hy same rfl rfl rfl
    · have ay8 := rm8_f (σ := σ) hy
      refine Both.bad (s := -1) (x := 0) (y := 1) hr (by decide) ?_ (fun t ht e1 => ?_)
      · simp only [s_X8_door, s_X8_tryDoor, k8, ax8, ay8, st, z10', if_true, if_false, bind_ok, Option.bind_some, cb_some]
      · have w := q_w125 (k := 0) (v := 0) ht
        have th : SK (zsi t 125 0 0) := ht
        have bk := q_ck125 th
        have ax := rm9_t (σ := zsi t 125 0 0) hx
        have ay := rm9_f (σ := zsi t 125 0 0) hy
        have tl := tell9_1 th
        rw [zi_ne (by decide)] at tl
        simp only [s_X9_door, s_X9_doorNow, w, bk, ax, ay, tl, z10', if_true, if_false, bind_ok, Option.bind_some, cb_some]
  · have ax8 := rm8_f (σ := σ) hx
    refine Both.bad (s := -1) (x := 0) (y := 1) hr (by decide) ?_ (fun t ht e1 => ?_)
    · simp only [s_X8_door, s_X8_tryDoor, k8, ax8, st, z10', if_true, if_false, bind_ok, Option.bind_some, cb_some]
    · have w := q_w125 (k := 0) (v := 0) ht
      have th : SK (zsi t 125 0 0) := ht
      have bk := q_ck125 th
      have ax := rm9_f (σ := zsi t 125 0 0) hx
      have tl := tell9_1 th
      rw [zi_ne (by decide)] at tl
      simp only [s_X9_door, s_X9_doorNow, w, bk, ax, tl, z10', if_true, if_false, bind_ok, Option.bind_some, cb_some]
end V32
