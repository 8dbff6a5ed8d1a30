/-! ===== the fixed shape of the 156 cells that the two constructors make ===== -/
theorem stZ_n {a n L : Nat} {v : Int32} {σ : Hp} (h : zk σ a = 13) (hl : zl σ a = L) (hn : n < L) (hL : L < 2147483648) (hv : v = 0 ∨ v = 1) : stZ σ a (iN n) v = some (zsi σ a n v) := by
  unfold stZ
  rw [if_pos ⟨h, by rw [hl]; exact iN_inb' hn hL⟩, iN_nat (by omega)]
  rcases hv with rfl | rfl <;> rfl
theorem stB_n {a n L : Nat} {v : Int32} {σ : Hp} (h : zk σ a = 10) (hl : zl σ a = L) (hn : n < L) (hL : L < 2147483648) : stB σ a (iN n) v = some (zsi σ a n (vp_nar .byte v)) := by
  unfold stB
  rw [if_pos ⟨h, by rw [hl]; exact iN_inb' hn hL⟩, iN_nat (by omega)]
def kqL : List Nat := [8, 1, 3, 11, 11, 11, 11, 11, 11, 11, 11, 11, 11, 11, 11, 11, 15, 5, 11, 12, 1, 3, 11, 11, 11, 11, 11, 11, 11, 11, 11, 11, 11, 11, 11, 15, 5, 11, 12, 1, 3, 11, 11, 11, 11, 11, 11, 11, 11, 11, 11, 11, 11, 11, 15, 5, 11, 12, 14, 1, 3, 11, 11, 11, 11, 11, 11, 11, 11, 11, 11, 11, 11, 11, 15, 5, 11, 12, 1, 3, 11, 11, 11, 11, 11, 11, 11, 11, 11, 11, 11, 11, 11, 15, 5, 11, 12, 13, 6, 10, 4, 11, 11, 11, 11, 11, 5, 11, 12, 0, 11, 0, 11, 2, 11, 16, 11, 11, 11, 11, 11, 11, 11, 12, 11, 9, 11, 11, 11, 13, 11, 11, 11, 11, 11, 11, 11, 11, 11, 11, 12, 12, 12, 12, 12, 12, 11, 13, 13, 13, 11, 12, 12, 12, 11, 11]
def lqL : List Nat := [0, 0, 0, 10, 10, 100, 6, 4, 4, 3, 6, 6, 6, 6, 6, 3, 6, 0, 18, 64, 0, 0, 10, 10, 100, 6, 4, 4, 3, 6, 6, 6, 6, 6, 3, 6, 0, 18, 64, 0, 0, 10, 10, 100, 6, 4, 4, 3, 6, 6, 6, 6, 6, 3, 6, 0, 18, 64, 2, 0, 0, 10, 10, 100, 6, 4, 4, 3, 6, 6, 6, 6, 6, 3, 6, 0, 18, 64, 0, 0, 10, 10, 100, 6, 4, 4, 3, 6, 6, 6, 6, 6, 3, 6, 0, 18, 64, 2, 0, 400, 0, 401, 401, 401, 600, 72, 0, 18, 64, 0, 112, 0, 112, 0, 48, 3, 61, 61, 61, 10, 48, 49, 6, 20, 5, 0, 7, 5578, 11156, 2, 414, 16, 368, 16, 400, 96, 400, 400, 400, 400, 9, 8, 3, 13, 13, 400, 3, 490, 490, 100, 183, 21, 4, 3, 96, 23]
def rqL : List (Nat × Nat × Nat) := [(0, 0, 1), (0, 1, 20), (0, 2, 39), (0, 3, 58), (0, 4, 97), (0, 5, 98), (0, 6, 100), (0, 7, 106), (0, 8, 109), (0, 9, 111), (0, 10, 113), (0, 11, 124), (1, 0, 2), (1, 1, 6), (1, 2, 7), (1, 3, 8), (1, 4, 9), (1, 5, 10), (1, 6, 11), (1, 7, 12), (1, 8, 13), (1, 9, 14), (1, 10, 15), (1, 11, 16), (1, 12, 17), (2, 0, 3), (2, 1, 4), (2, 2, 5), (17, 0, 18), (17, 1, 19), (20, 0, 21), (20, 1, 25), (20, 2, 26), (20, 3, 27), (20, 4, 28), (20, 5, 29), (20, 6, 30), (20, 7, 31), (20, 8, 32), (20, 9, 33), (20, 10, 34), (20, 11, 35), (20, 12, 36), (21, 0, 22), (21, 1, 23), (21, 2, 24), (36, 0, 37), (36, 1, 38), (39, 0, 40), (39, 1, 44), (39, 2, 45), (39, 3, 46), (39, 4, 47), (39, 5, 48), (39, 6, 49), (39, 7, 50), (39, 8, 51), (39, 9, 52), (39, 10, 53), (39, 11, 54), (39, 12, 55), (40, 0, 41), (40, 1, 42), (40, 2, 43), (55, 0, 56), (55, 1, 57), (58, 0, 59), (58, 1, 78), (59, 0, 60), (59, 1, 64), (59, 2, 65), (59, 3, 66), (59, 4, 67), (59, 5, 68), (59, 6, 69), (59, 7, 70), (59, 8, 71), (59, 9, 72), (59, 10, 73), (59, 11, 74), (59, 12, 75), (60, 0, 61), (60, 1, 62), (60, 2, 63), (75, 0, 76), (75, 1, 77), (78, 0, 79), (78, 1, 83), (78, 2, 84), (78, 3, 85), (78, 4, 86), (78, 5, 87), (78, 6, 88), (78, 7, 89), (78, 8, 90), (78, 9, 91), (78, 10, 92), (78, 11, 93), (78, 12, 94), (79, 0, 80), (79, 1, 81), (79, 2, 82), (94, 0, 95), (94, 1, 96), (98, 0, 99), (100, 0, 101), (100, 1, 102), (100, 2, 103), (100, 3, 104), (100, 4, 105), (106, 0, 107), (106, 1, 108), (109, 0, 110), (111, 0, 112), (113, 0, 114), (113, 1, 115), (113, 2, 119), (113, 3, 120), (113, 4, 121), (113, 5, 122), (113, 6, 123), (115, 0, 116), (115, 1, 117), (115, 2, 118), (125, 2, 126), (125, 3, 127), (125, 4, 128), (125, 5, 129), (125, 6, 130), (125, 7, 131), (125, 9, 132), (125, 10, 133), (125, 12, 134), (125, 22, 135), (125, 24, 136), (125, 25, 137), (125, 27, 138), (125, 28, 139), (125, 31, 140), (125, 32, 141), (125, 33, 142), (125, 35, 143), (125, 36, 144), (125, 37, 145), (125, 41, 146), (125, 42, 147), (125, 43, 148), (125, 44, 149), (125, 45, 150), (125, 46, 151), (125, 47, 152), (125, 48, 153), (125, 49, 154), (125, 55, 155)]
def SK (σ : Hp) : Prop := 156 ≤ zn σ ∧ (∀ a, a < 156 → zk σ a = kqL.getD a 0 ∧ zl σ a = lqL.getD a 0) ∧ (∀ t ∈ rqL, zr σ t.1 t.2.1 = some t.2.2)
theorem SK_zsi {σ : Hp} {a k : Nat} {v : Int32} : SK (zsi σ a k v) = SK σ := rfl
theorem SK_zsj {σ : Hp} {a k : Nat} {v : Int64} : SK (zsj σ a k v) = SK σ := rfl
theorem SK.same {σ σ1 : Hp} (h : SK σ) (e0 : zn σ1 = zn σ) (e1 : zk σ1 = zk σ) (e2 : zl σ1 = zl σ) (e3 : zr σ1 = zr σ) : SK σ1 := by
  unfold SK at *
  rw [e0, e1, e2, e3]
  exact h
theorem SK.ag {S : Nat → Nat → Prop} {σ σ1 : Hp} (h : SK σ) (e : Ag S σ σ1) : SK σ1 := h.same e.1 e.2.1 e.2.2.1 e.2.2.2.1
theorem SK.zsr {σ : Hp} {a k : Nat} {v : Option Nat} (h : SK σ) (ha : rqL.all (fun t => !(t.1 == a)) = true) : SK (zsr σ a k v) := by
  refine ⟨h.1, h.2.1, fun t ht => ?_⟩
  show up2 (zr σ) a k v t.1 t.2.1 = _
  have h1 := List.all_eq_true.mp ha t ht
  have h2 : t.1 ≠ a := by simpa using h1
  rw [up2_ne h2]
  exact h.2.2 t ht
theorem SK.mkc {σ : Hp} {c n : Nat} (h : SK σ) : SK (mkC σ c n) := by
  have h0 := h.1
  refine ⟨Nat.le_succ_of_le h.1, fun a ha => ?_, fun t ht => ?_⟩
  · have hne : a ≠ zn σ := by omega
    have e1 : zk (mkC σ c n) a = zk σ a := va_up_ne _ _ hne
    have e2 : zl (mkC σ c n) a = zl σ a := va_up_ne _ _ hne
    rw [e1, e2]
    exact h.2.1 a ha
  · have h5 : t.1 < 156 := by
      have hd : rqL.all (fun t => decide (t.1 < 156)) = true := by decide
      simpa using List.all_eq_true.mp hd t ht
    have hne : t.1 ≠ zn σ := by omega
    have e3 : zr (mkC σ c n) t.1 = zr σ t.1 := va_up_ne _ _ hne
    rw [e3]
    exact h.2.2 t ht
section SKs
variable {σ : Hp}
theorem q_ck0 (h : SK σ) : ck 8 σ 0 = some () := ck_t (h.2.1 0 (by decide)).1
theorem q_i0 {k : Nat} (h : SK σ) : rdI 8 σ 0 k = some (zi σ 0 k) := rdI_t (h.2.1 0 (by decide)).1
theorem q_j0 {k : Nat} (h : SK σ) : rdJ 8 σ 0 k = some (zj σ 0 k) := rdJ_t (h.2.1 0 (by decide)).1
theorem q_w0 {k : Nat} {v : Int32} (h : SK σ) : wrI 8 σ 0 k v = some (zsi σ 0 k v) := wrI_t (h.2.1 0 (by decide)).1
theorem q_wj0 {k : Nat} {v : Int64} (h : SK σ) : wrJ 8 σ 0 k v = some (zsj σ 0 k v) := wrJ_t (h.2.1 0 (by decide)).1
theorem q_wz0 {k : Nat} {v : Int32} (hv : v = 0 ∨ v = 1) (h : SK σ) : wrZ 8 σ 0 k v = some (zsi σ 0 k v) := if_pos ⟨(h.2.1 0 (by decide)).1, hv⟩
theorem q_r0_0 (h : SK σ) : rdR 8 σ 0 0 = some (some 1) := (rdR_t (h.2.1 0 (by decide)).1).trans (congrArg some (h.2.2 (0, 0, 1) (by decide)))
theorem q_r0_1 (h : SK σ) : rdR 8 σ 0 1 = some (some 20) := (rdR_t (h.2.1 0 (by decide)).1).trans (congrArg some (h.2.2 (0, 1, 20) (by decide)))
theorem q_r0_2 (h : SK σ) : rdR 8 σ 0 2 = some (some 39) := (rdR_t (h.2.1 0 (by decide)).1).trans (congrArg some (h.2.2 (0, 2, 39) (by decide)))
theorem q_r0_3 (h : SK σ) : rdR 8 σ 0 3 = some (some 58) := (rdR_t (h.2.1 0 (by decide)).1).trans (congrArg some (h.2.2 (0, 3, 58) (by decide)))
theorem q_r0_4 (h : SK σ) : rdR 8 σ 0 4 = some (some 97) := (rdR_t (h.2.1 0 (by decide)).1).trans (congrArg some (h.2.2 (0, 4, 97) (by decide)))
theorem q_r0_5 (h : SK σ) : rdR 8 σ 0 5 = some (some 98) := (rdR_t (h.2.1 0 (by decide)).1).trans (congrArg some (h.2.2 (0, 5, 98) (by decide)))
theorem q_r0_6 (h : SK σ) : rdR 8 σ 0 6 = some (some 100) := (rdR_t (h.2.1 0 (by decide)).1).trans (congrArg some (h.2.2 (0, 6, 100) (by decide)))
theorem q_r0_7 (h : SK σ) : rdR 8 σ 0 7 = some (some 106) := (rdR_t (h.2.1 0 (by decide)).1).trans (congrArg some (h.2.2 (0, 7, 106) (by decide)))
theorem q_r0_8 (h : SK σ) : rdR 8 σ 0 8 = some (some 109) := (rdR_t (h.2.1 0 (by decide)).1).trans (congrArg some (h.2.2 (0, 8, 109) (by decide)))
theorem q_r0_9 (h : SK σ) : rdR 8 σ 0 9 = some (some 111) := (rdR_t (h.2.1 0 (by decide)).1).trans (congrArg some (h.2.2 (0, 9, 111) (by decide)))
theorem q_r0_10 (h : SK σ) : rdR 8 σ 0 10 = some (some 113) := (rdR_t (h.2.1 0 (by decide)).1).trans (congrArg some (h.2.2 (0, 10, 113) (by decide)))
theorem q_r0_11 (h : SK σ) : rdR 8 σ 0 11 = some (some 124) := (rdR_t (h.2.1 0 (by decide)).1).trans (congrArg some (h.2.2 (0, 11, 124) (by decide)))
theorem q_ln97 (h : SK σ) : lnA 13 σ 97 = some (iN 2) := (if_pos (h.2.1 97 (by decide)).1).trans (congrArg (fun n => some (Int32.ofNat n)) (h.2.1 97 (by decide)).2)
theorem q_ld97 {n : Nat} (hn : n < 2) (h : SK σ) : ldI 13 σ 97 (iN n) = some (zi σ 97 n) := ldI_n (h.2.1 97 (by decide)).1 (h.2.1 97 (by decide)).2 hn (by decide)
theorem q_st97 {n : Nat} {v : Int32} (hn : n < 2) (hv : v = 0 ∨ v = 1) (h : SK σ) : stZ σ 97 (iN n) v = some (zsi σ 97 n v) := stZ_n (h.2.1 97 (by decide)).1 (h.2.1 97 (by decide)).2 hn (by decide) hv
theorem q_ck98 (h : SK σ) : ck 6 σ 98 = some () := ck_t (h.2.1 98 (by decide)).1
theorem q_i98 {k : Nat} (h : SK σ) : rdI 6 σ 98 k = some (zi σ 98 k) := rdI_t (h.2.1 98 (by decide)).1
theorem q_j98 {k : Nat} (h : SK σ) : rdJ 6 σ 98 k = some (zj σ 98 k) := rdJ_t (h.2.1 98 (by decide)).1
theorem q_w98 {k : Nat} {v : Int32} (h : SK σ) : wrI 6 σ 98 k v = some (zsi σ 98 k v) := wrI_t (h.2.1 98 (by decide)).1
theorem q_wj98 {k : Nat} {v : Int64} (h : SK σ) : wrJ 6 σ 98 k v = some (zsj σ 98 k v) := wrJ_t (h.2.1 98 (by decide)).1
theorem q_wz98 {k : Nat} {v : Int32} (hv : v = 0 ∨ v = 1) (h : SK σ) : wrZ 6 σ 98 k v = some (zsi σ 98 k v) := if_pos ⟨(h.2.1 98 (by decide)).1, hv⟩
theorem q_r98_0 (h : SK σ) : rdR 6 σ 98 0 = some (some 99) := (rdR_t (h.2.1 98 (by decide)).1).trans (congrArg some (h.2.2 (98, 0, 99) (by decide)))
theorem q_ln99 (h : SK σ) : lnA 10 σ 99 = some (iN 400) := (if_pos (h.2.1 99 (by decide)).1).trans (congrArg (fun n => some (Int32.ofNat n)) (h.2.1 99 (by decide)).2)
theorem q_ld99 {n : Nat} (hn : n < 400) (h : SK σ) : ldI 10 σ 99 (iN n) = some (zi σ 99 n) := ldI_n (h.2.1 99 (by decide)).1 (h.2.1 99 (by decide)).2 hn (by decide)
theorem q_st99 {n : Nat} {v : Int32} (hn : n < 400) (h : SK σ) : stB σ 99 (iN n) v = some (zsi σ 99 n (vp_nar .byte v)) := stB_n (h.2.1 99 (by decide)).1 (h.2.1 99 (by decide)).2 hn (by decide)
theorem q_ck100 (h : SK σ) : ck 4 σ 100 = some () := ck_t (h.2.1 100 (by decide)).1
theorem q_i100 {k : Nat} (h : SK σ) : rdI 4 σ 100 k = some (zi σ 100 k) := rdI_t (h.2.1 100 (by decide)).1
theorem q_j100 {k : Nat} (h : SK σ) : rdJ 4 σ 100 k = some (zj σ 100 k) := rdJ_t (h.2.1 100 (by decide)).1
theorem q_w100 {k : Nat} {v : Int32} (h : SK σ) : wrI 4 σ 100 k v = some (zsi σ 100 k v) := wrI_t (h.2.1 100 (by decide)).1
theorem q_wj100 {k : Nat} {v : Int64} (h : SK σ) : wrJ 4 σ 100 k v = some (zsj σ 100 k v) := wrJ_t (h.2.1 100 (by decide)).1
theorem q_wz100 {k : Nat} {v : Int32} (hv : v = 0 ∨ v = 1) (h : SK σ) : wrZ 4 σ 100 k v = some (zsi σ 100 k v) := if_pos ⟨(h.2.1 100 (by decide)).1, hv⟩
theorem q_r100_0 (h : SK σ) : rdR 4 σ 100 0 = some (some 101) := (rdR_t (h.2.1 100 (by decide)).1).trans (congrArg some (h.2.2 (100, 0, 101) (by decide)))
theorem q_r100_1 (h : SK σ) : rdR 4 σ 100 1 = some (some 102) := (rdR_t (h.2.1 100 (by decide)).1).trans (congrArg some (h.2.2 (100, 1, 102) (by decide)))
theorem q_r100_2 (h : SK σ) : rdR 4 σ 100 2 = some (some 103) := (rdR_t (h.2.1 100 (by decide)).1).trans (congrArg some (h.2.2 (100, 2, 103) (by decide)))
theorem q_r100_3 (h : SK σ) : rdR 4 σ 100 3 = some (some 104) := (rdR_t (h.2.1 100 (by decide)).1).trans (congrArg some (h.2.2 (100, 3, 104) (by decide)))
theorem q_r100_4 (h : SK σ) : rdR 4 σ 100 4 = some (some 105) := (rdR_t (h.2.1 100 (by decide)).1).trans (congrArg some (h.2.2 (100, 4, 105) (by decide)))
theorem q_ln101 (h : SK σ) : lnA 11 σ 101 = some (iN 401) := (if_pos (h.2.1 101 (by decide)).1).trans (congrArg (fun n => some (Int32.ofNat n)) (h.2.1 101 (by decide)).2)
theorem q_ld101 {n : Nat} (hn : n < 401) (h : SK σ) : ldI 11 σ 101 (iN n) = some (zi σ 101 n) := ldI_n (h.2.1 101 (by decide)).1 (h.2.1 101 (by decide)).2 hn (by decide)
theorem q_st101 {n : Nat} {v : Int32} (hn : n < 401) (h : SK σ) : stI σ 101 (iN n) v = some (zsi σ 101 n v) := stI_n (h.2.1 101 (by decide)).1 (h.2.1 101 (by decide)).2 hn (by decide)
theorem q_ln102 (h : SK σ) : lnA 11 σ 102 = some (iN 401) := (if_pos (h.2.1 102 (by decide)).1).trans (congrArg (fun n => some (Int32.ofNat n)) (h.2.1 102 (by decide)).2)
theorem q_ld102 {n : Nat} (hn : n < 401) (h : SK σ) : ldI 11 σ 102 (iN n) = some (zi σ 102 n) := ldI_n (h.2.1 102 (by decide)).1 (h.2.1 102 (by decide)).2 hn (by decide)
theorem q_st102 {n : Nat} {v : Int32} (hn : n < 401) (h : SK σ) : stI σ 102 (iN n) v = some (zsi σ 102 n v) := stI_n (h.2.1 102 (by decide)).1 (h.2.1 102 (by decide)).2 hn (by decide)
theorem q_ln103 (h : SK σ) : lnA 11 σ 103 = some (iN 401) := (if_pos (h.2.1 103 (by decide)).1).trans (congrArg (fun n => some (Int32.ofNat n)) (h.2.1 103 (by decide)).2)
theorem q_ld103 {n : Nat} (hn : n < 401) (h : SK σ) : ldI 11 σ 103 (iN n) = some (zi σ 103 n) := ldI_n (h.2.1 103 (by decide)).1 (h.2.1 103 (by decide)).2 hn (by decide)
theorem q_st103 {n : Nat} {v : Int32} (hn : n < 401) (h : SK σ) : stI σ 103 (iN n) v = some (zsi σ 103 n v) := stI_n (h.2.1 103 (by decide)).1 (h.2.1 103 (by decide)).2 hn (by decide)
theorem q_ln104 (h : SK σ) : lnA 11 σ 104 = some (iN 600) := (if_pos (h.2.1 104 (by decide)).1).trans (congrArg (fun n => some (Int32.ofNat n)) (h.2.1 104 (by decide)).2)
theorem q_ld104 {n : Nat} (hn : n < 600) (h : SK σ) : ldI 11 σ 104 (iN n) = some (zi σ 104 n) := ldI_n (h.2.1 104 (by decide)).1 (h.2.1 104 (by decide)).2 hn (by decide)
theorem q_st104 {n : Nat} {v : Int32} (hn : n < 600) (h : SK σ) : stI σ 104 (iN n) v = some (zsi σ 104 n v) := stI_n (h.2.1 104 (by decide)).1 (h.2.1 104 (by decide)).2 hn (by decide)
theorem q_ln105 (h : SK σ) : lnA 11 σ 105 = some (iN 72) := (if_pos (h.2.1 105 (by decide)).1).trans (congrArg (fun n => some (Int32.ofNat n)) (h.2.1 105 (by decide)).2)
theorem q_ld105 {n : Nat} (hn : n < 72) (h : SK σ) : ldI 11 σ 105 (iN n) = some (zi σ 105 n) := ldI_n (h.2.1 105 (by decide)).1 (h.2.1 105 (by decide)).2 hn (by decide)
theorem q_st105 {n : Nat} {v : Int32} (hn : n < 72) (h : SK σ) : stI σ 105 (iN n) v = some (zsi σ 105 n v) := stI_n (h.2.1 105 (by decide)).1 (h.2.1 105 (by decide)).2 hn (by decide)
theorem q_ck106 (h : SK σ) : ck 5 σ 106 = some () := ck_t (h.2.1 106 (by decide)).1
theorem q_i106 {k : Nat} (h : SK σ) : rdI 5 σ 106 k = some (zi σ 106 k) := rdI_t (h.2.1 106 (by decide)).1
theorem q_j106 {k : Nat} (h : SK σ) : rdJ 5 σ 106 k = some (zj σ 106 k) := rdJ_t (h.2.1 106 (by decide)).1
theorem q_w106 {k : Nat} {v : Int32} (h : SK σ) : wrI 5 σ 106 k v = some (zsi σ 106 k v) := wrI_t (h.2.1 106 (by decide)).1
theorem q_wj106 {k : Nat} {v : Int64} (h : SK σ) : wrJ 5 σ 106 k v = some (zsj σ 106 k v) := wrJ_t (h.2.1 106 (by decide)).1
theorem q_wz106 {k : Nat} {v : Int32} (hv : v = 0 ∨ v = 1) (h : SK σ) : wrZ 5 σ 106 k v = some (zsi σ 106 k v) := if_pos ⟨(h.2.1 106 (by decide)).1, hv⟩
theorem q_r106_0 (h : SK σ) : rdR 5 σ 106 0 = some (some 107) := (rdR_t (h.2.1 106 (by decide)).1).trans (congrArg some (h.2.2 (106, 0, 107) (by decide)))
theorem q_r106_1 (h : SK σ) : rdR 5 σ 106 1 = some (some 108) := (rdR_t (h.2.1 106 (by decide)).1).trans (congrArg some (h.2.2 (106, 1, 108) (by decide)))
theorem q_ln107 (h : SK σ) : lnA 11 σ 107 = some (iN 18) := (if_pos (h.2.1 107 (by decide)).1).trans (congrArg (fun n => some (Int32.ofNat n)) (h.2.1 107 (by decide)).2)
theorem q_ld107 {n : Nat} (hn : n < 18) (h : SK σ) : ldI 11 σ 107 (iN n) = some (zi σ 107 n) := ldI_n (h.2.1 107 (by decide)).1 (h.2.1 107 (by decide)).2 hn (by decide)
theorem q_st107 {n : Nat} {v : Int32} (hn : n < 18) (h : SK σ) : stI σ 107 (iN n) v = some (zsi σ 107 n v) := stI_n (h.2.1 107 (by decide)).1 (h.2.1 107 (by decide)).2 hn (by decide)
theorem q_ln108 (h : SK σ) : lnA 12 σ 108 = some (iN 64) := (if_pos (h.2.1 108 (by decide)).1).trans (congrArg (fun n => some (Int32.ofNat n)) (h.2.1 108 (by decide)).2)
theorem q_ld108 {n : Nat} (hn : n < 64) (h : SK σ) : ldJ σ 108 (iN n) = some (zj σ 108 n) := ldJ_n (h.2.1 108 (by decide)).1 (h.2.1 108 (by decide)).2 hn (by decide)
theorem q_st108 {n : Nat} {v : Int64} (hn : n < 64) (h : SK σ) : stJ σ 108 (iN n) v = some (zsj σ 108 n v) := stJ_n (h.2.1 108 (by decide)).1 (h.2.1 108 (by decide)).2 hn (by decide)
theorem q_ck109 (h : SK σ) : ck 0 σ 109 = some () := ck_t (h.2.1 109 (by decide)).1
theorem q_i109 {k : Nat} (h : SK σ) : rdI 0 σ 109 k = some (zi σ 109 k) := rdI_t (h.2.1 109 (by decide)).1
theorem q_j109 {k : Nat} (h : SK σ) : rdJ 0 σ 109 k = some (zj σ 109 k) := rdJ_t (h.2.1 109 (by decide)).1
theorem q_w109 {k : Nat} {v : Int32} (h : SK σ) : wrI 0 σ 109 k v = some (zsi σ 109 k v) := wrI_t (h.2.1 109 (by decide)).1
theorem q_wj109 {k : Nat} {v : Int64} (h : SK σ) : wrJ 0 σ 109 k v = some (zsj σ 109 k v) := wrJ_t (h.2.1 109 (by decide)).1
theorem q_wz109 {k : Nat} {v : Int32} (hv : v = 0 ∨ v = 1) (h : SK σ) : wrZ 0 σ 109 k v = some (zsi σ 109 k v) := if_pos ⟨(h.2.1 109 (by decide)).1, hv⟩
theorem q_r109_0 (h : SK σ) : rdR 0 σ 109 0 = some (some 110) := (rdR_t (h.2.1 109 (by decide)).1).trans (congrArg some (h.2.2 (109, 0, 110) (by decide)))
theorem q_ln110 (h : SK σ) : lnA 11 σ 110 = some (iN 112) := (if_pos (h.2.1 110 (by decide)).1).trans (congrArg (fun n => some (Int32.ofNat n)) (h.2.1 110 (by decide)).2)
theorem q_ld110 {n : Nat} (hn : n < 112) (h : SK σ) : ldI 11 σ 110 (iN n) = some (zi σ 110 n) := ldI_n (h.2.1 110 (by decide)).1 (h.2.1 110 (by decide)).2 hn (by decide)
theorem q_st110 {n : Nat} {v : Int32} (hn : n < 112) (h : SK σ) : stI σ 110 (iN n) v = some (zsi σ 110 n v) := stI_n (h.2.1 110 (by decide)).1 (h.2.1 110 (by decide)).2 hn (by decide)
theorem q_ck111 (h : SK σ) : ck 0 σ 111 = some () := ck_t (h.2.1 111 (by decide)).1
theorem q_i111 {k : Nat} (h : SK σ) : rdI 0 σ 111 k = some (zi σ 111 k) := rdI_t (h.2.1 111 (by decide)).1
theorem q_j111 {k : Nat} (h : SK σ) : rdJ 0 σ 111 k = some (zj σ 111 k) := rdJ_t (h.2.1 111 (by decide)).1
theorem q_w111 {k : Nat} {v : Int32} (h : SK σ) : wrI 0 σ 111 k v = some (zsi σ 111 k v) := wrI_t (h.2.1 111 (by decide)).1
theorem q_wj111 {k : Nat} {v : Int64} (h : SK σ) : wrJ 0 σ 111 k v = some (zsj σ 111 k v) := wrJ_t (h.2.1 111 (by decide)).1
theorem q_wz111 {k : Nat} {v : Int32} (hv : v = 0 ∨ v = 1) (h : SK σ) : wrZ 0 σ 111 k v = some (zsi σ 111 k v) := if_pos ⟨(h.2.1 111 (by decide)).1, hv⟩
theorem q_r111_0 (h : SK σ) : rdR 0 σ 111 0 = some (some 112) := (rdR_t (h.2.1 111 (by decide)).1).trans (congrArg some (h.2.2 (111, 0, 112) (by decide)))
theorem q_ln112 (h : SK σ) : lnA 11 σ 112 = some (iN 112) := (if_pos (h.2.1 112 (by decide)).1).trans (congrArg (fun n => some (Int32.ofNat n)) (h.2.1 112 (by decide)).2)
theorem q_ld112 {n : Nat} (hn : n < 112) (h : SK σ) : ldI 11 σ 112 (iN n) = some (zi σ 112 n) := ldI_n (h.2.1 112 (by decide)).1 (h.2.1 112 (by decide)).2 hn (by decide)
theorem q_st112 {n : Nat} {v : Int32} (hn : n < 112) (h : SK σ) : stI σ 112 (iN n) v = some (zsi σ 112 n v) := stI_n (h.2.1 112 (by decide)).1 (h.2.1 112 (by decide)).2 hn (by decide)
theorem q_ck113 (h : SK σ) : ck 2 σ 113 = some () := ck_t (h.2.1 113 (by decide)).1
theorem q_i113 {k : Nat} (h : SK σ) : rdI 2 σ 113 k = some (zi σ 113 k) := rdI_t (h.2.1 113 (by decide)).1
theorem q_j113 {k : Nat} (h : SK σ) : rdJ 2 σ 113 k = some (zj σ 113 k) := rdJ_t (h.2.1 113 (by decide)).1
theorem q_w113 {k : Nat} {v : Int32} (h : SK σ) : wrI 2 σ 113 k v = some (zsi σ 113 k v) := wrI_t (h.2.1 113 (by decide)).1
theorem q_wj113 {k : Nat} {v : Int64} (h : SK σ) : wrJ 2 σ 113 k v = some (zsj σ 113 k v) := wrJ_t (h.2.1 113 (by decide)).1
theorem q_wz113 {k : Nat} {v : Int32} (hv : v = 0 ∨ v = 1) (h : SK σ) : wrZ 2 σ 113 k v = some (zsi σ 113 k v) := if_pos ⟨(h.2.1 113 (by decide)).1, hv⟩
theorem q_r113_0 (h : SK σ) : rdR 2 σ 113 0 = some (some 114) := (rdR_t (h.2.1 113 (by decide)).1).trans (congrArg some (h.2.2 (113, 0, 114) (by decide)))
theorem q_r113_1 (h : SK σ) : rdR 2 σ 113 1 = some (some 115) := (rdR_t (h.2.1 113 (by decide)).1).trans (congrArg some (h.2.2 (113, 1, 115) (by decide)))
theorem q_r113_2 (h : SK σ) : rdR 2 σ 113 2 = some (some 119) := (rdR_t (h.2.1 113 (by decide)).1).trans (congrArg some (h.2.2 (113, 2, 119) (by decide)))
theorem q_r113_3 (h : SK σ) : rdR 2 σ 113 3 = some (some 120) := (rdR_t (h.2.1 113 (by decide)).1).trans (congrArg some (h.2.2 (113, 3, 120) (by decide)))
theorem q_r113_4 (h : SK σ) : rdR 2 σ 113 4 = some (some 121) := (rdR_t (h.2.1 113 (by decide)).1).trans (congrArg some (h.2.2 (113, 4, 121) (by decide)))
theorem q_r113_5 (h : SK σ) : rdR 2 σ 113 5 = some (some 122) := (rdR_t (h.2.1 113 (by decide)).1).trans (congrArg some (h.2.2 (113, 5, 122) (by decide)))
theorem q_r113_6 (h : SK σ) : rdR 2 σ 113 6 = some (some 123) := (rdR_t (h.2.1 113 (by decide)).1).trans (congrArg some (h.2.2 (113, 6, 123) (by decide)))
theorem q_ln114 (h : SK σ) : lnA 11 σ 114 = some (iN 48) := (if_pos (h.2.1 114 (by decide)).1).trans (congrArg (fun n => some (Int32.ofNat n)) (h.2.1 114 (by decide)).2)
theorem q_ld114 {n : Nat} (hn : n < 48) (h : SK σ) : ldI 11 σ 114 (iN n) = some (zi σ 114 n) := ldI_n (h.2.1 114 (by decide)).1 (h.2.1 114 (by decide)).2 hn (by decide)
theorem q_st114 {n : Nat} {v : Int32} (hn : n < 48) (h : SK σ) : stI σ 114 (iN n) v = some (zsi σ 114 n v) := stI_n (h.2.1 114 (by decide)).1 (h.2.1 114 (by decide)).2 hn (by decide)
theorem q_ln115 (h : SK σ) : lnA 16 σ 115 = some (iN 3) := (if_pos (h.2.1 115 (by decide)).1).trans (congrArg (fun n => some (Int32.ofNat n)) (h.2.1 115 (by decide)).2)
theorem q_ld115 {n : Nat} (hn : n < 3) (h : SK σ) : ldR 16 σ 115 (iN n) = some (zr σ 115 n) := ldR_n (h.2.1 115 (by decide)).1 (h.2.1 115 (by decide)).2 hn (by decide)
theorem q_ln116 (h : SK σ) : lnA 11 σ 116 = some (iN 61) := (if_pos (h.2.1 116 (by decide)).1).trans (congrArg (fun n => some (Int32.ofNat n)) (h.2.1 116 (by decide)).2)
theorem q_ld116 {n : Nat} (hn : n < 61) (h : SK σ) : ldI 11 σ 116 (iN n) = some (zi σ 116 n) := ldI_n (h.2.1 116 (by decide)).1 (h.2.1 116 (by decide)).2 hn (by decide)
theorem q_st116 {n : Nat} {v : Int32} (hn : n < 61) (h : SK σ) : stI σ 116 (iN n) v = some (zsi σ 116 n v) := stI_n (h.2.1 116 (by decide)).1 (h.2.1 116 (by decide)).2 hn (by decide)
theorem q_ln117 (h : SK σ) : lnA 11 σ 117 = some (iN 61) := (if_pos (h.2.1 117 (by decide)).1).trans (congrArg (fun n => some (Int32.ofNat n)) (h.2.1 117 (by decide)).2)
theorem q_ld117 {n : Nat} (hn : n < 61) (h : SK σ) : ldI 11 σ 117 (iN n) = some (zi σ 117 n) := ldI_n (h.2.1 117 (by decide)).1 (h.2.1 117 (by decide)).2 hn (by decide)
theorem q_st117 {n : Nat} {v : Int32} (hn : n < 61) (h : SK σ) : stI σ 117 (iN n) v = some (zsi σ 117 n v) := stI_n (h.2.1 117 (by decide)).1 (h.2.1 117 (by decide)).2 hn (by decide)
theorem q_ln118 (h : SK σ) : lnA 11 σ 118 = some (iN 61) := (if_pos (h.2.1 118 (by decide)).1).trans (congrArg (fun n => some (Int32.ofNat n)) (h.2.1 118 (by decide)).2)
theorem q_ld118 {n : Nat} (hn : n < 61) (h : SK σ) : ldI 11 σ 118 (iN n) = some (zi σ 118 n) := ldI_n (h.2.1 118 (by decide)).1 (h.2.1 118 (by decide)).2 hn (by decide)
theorem q_st118 {n : Nat} {v : Int32} (hn : n < 61) (h : SK σ) : stI σ 118 (iN n) v = some (zsi σ 118 n v) := stI_n (h.2.1 118 (by decide)).1 (h.2.1 118 (by decide)).2 hn (by decide)
theorem q_ln119 (h : SK σ) : lnA 11 σ 119 = some (iN 10) := (if_pos (h.2.1 119 (by decide)).1).trans (congrArg (fun n => some (Int32.ofNat n)) (h.2.1 119 (by decide)).2)
theorem q_ld119 {n : Nat} (hn : n < 10) (h : SK σ) : ldI 11 σ 119 (iN n) = some (zi σ 119 n) := ldI_n (h.2.1 119 (by decide)).1 (h.2.1 119 (by decide)).2 hn (by decide)
theorem q_st119 {n : Nat} {v : Int32} (hn : n < 10) (h : SK σ) : stI σ 119 (iN n) v = some (zsi σ 119 n v) := stI_n (h.2.1 119 (by decide)).1 (h.2.1 119 (by decide)).2 hn (by decide)
theorem q_ln120 (h : SK σ) : lnA 11 σ 120 = some (iN 48) := (if_pos (h.2.1 120 (by decide)).1).trans (congrArg (fun n => some (Int32.ofNat n)) (h.2.1 120 (by decide)).2)
theorem q_ld120 {n : Nat} (hn : n < 48) (h : SK σ) : ldI 11 σ 120 (iN n) = some (zi σ 120 n) := ldI_n (h.2.1 120 (by decide)).1 (h.2.1 120 (by decide)).2 hn (by decide)
theorem q_st120 {n : Nat} {v : Int32} (hn : n < 48) (h : SK σ) : stI σ 120 (iN n) v = some (zsi σ 120 n v) := stI_n (h.2.1 120 (by decide)).1 (h.2.1 120 (by decide)).2 hn (by decide)
theorem q_ln121 (h : SK σ) : lnA 11 σ 121 = some (iN 49) := (if_pos (h.2.1 121 (by decide)).1).trans (congrArg (fun n => some (Int32.ofNat n)) (h.2.1 121 (by decide)).2)
theorem q_ld121 {n : Nat} (hn : n < 49) (h : SK σ) : ldI 11 σ 121 (iN n) = some (zi σ 121 n) := ldI_n (h.2.1 121 (by decide)).1 (h.2.1 121 (by decide)).2 hn (by decide)
theorem q_st121 {n : Nat} {v : Int32} (hn : n < 49) (h : SK σ) : stI σ 121 (iN n) v = some (zsi σ 121 n v) := stI_n (h.2.1 121 (by decide)).1 (h.2.1 121 (by decide)).2 hn (by decide)
theorem q_ln122 (h : SK σ) : lnA 11 σ 122 = some (iN 6) := (if_pos (h.2.1 122 (by decide)).1).trans (congrArg (fun n => some (Int32.ofNat n)) (h.2.1 122 (by decide)).2)
theorem q_ld122 {n : Nat} (hn : n < 6) (h : SK σ) : ldI 11 σ 122 (iN n) = some (zi σ 122 n) := ldI_n (h.2.1 122 (by decide)).1 (h.2.1 122 (by decide)).2 hn (by decide)
theorem q_st122 {n : Nat} {v : Int32} (hn : n < 6) (h : SK σ) : stI σ 122 (iN n) v = some (zsi σ 122 n v) := stI_n (h.2.1 122 (by decide)).1 (h.2.1 122 (by decide)).2 hn (by decide)
theorem q_ln123 (h : SK σ) : lnA 12 σ 123 = some (iN 20) := (if_pos (h.2.1 123 (by decide)).1).trans (congrArg (fun n => some (Int32.ofNat n)) (h.2.1 123 (by decide)).2)
theorem q_ld123 {n : Nat} (hn : n < 20) (h : SK σ) : ldJ σ 123 (iN n) = some (zj σ 123 n) := ldJ_n (h.2.1 123 (by decide)).1 (h.2.1 123 (by decide)).2 hn (by decide)
theorem q_st123 {n : Nat} {v : Int64} (hn : n < 20) (h : SK σ) : stJ σ 123 (iN n) v = some (zsj σ 123 n v) := stJ_n (h.2.1 123 (by decide)).1 (h.2.1 123 (by decide)).2 hn (by decide)
theorem q_ln124 (h : SK σ) : lnA 11 σ 124 = some (iN 5) := (if_pos (h.2.1 124 (by decide)).1).trans (congrArg (fun n => some (Int32.ofNat n)) (h.2.1 124 (by decide)).2)
theorem q_ld124 {n : Nat} (hn : n < 5) (h : SK σ) : ldI 11 σ 124 (iN n) = some (zi σ 124 n) := ldI_n (h.2.1 124 (by decide)).1 (h.2.1 124 (by decide)).2 hn (by decide)
theorem q_st124 {n : Nat} {v : Int32} (hn : n < 5) (h : SK σ) : stI σ 124 (iN n) v = some (zsi σ 124 n v) := stI_n (h.2.1 124 (by decide)).1 (h.2.1 124 (by decide)).2 hn (by decide)
theorem q_ln58 (h : SK σ) : lnA 14 σ 58 = some (iN 2) := (if_pos (h.2.1 58 (by decide)).1).trans (congrArg (fun n => some (Int32.ofNat n)) (h.2.1 58 (by decide)).2)
theorem q_ld58 {n : Nat} (hn : n < 2) (h : SK σ) : ldR 14 σ 58 (iN n) = some (zr σ 58 n) := ldR_n (h.2.1 58 (by decide)).1 (h.2.1 58 (by decide)).2 hn (by decide)
theorem q_ck125 (h : SK σ) : ck 9 σ 125 = some () := ck_t (h.2.1 125 (by decide)).1
theorem q_i125 {k : Nat} (h : SK σ) : rdI 9 σ 125 k = some (zi σ 125 k) := rdI_t (h.2.1 125 (by decide)).1
theorem q_j125 {k : Nat} (h : SK σ) : rdJ 9 σ 125 k = some (zj σ 125 k) := rdJ_t (h.2.1 125 (by decide)).1
theorem q_w125 {k : Nat} {v : Int32} (h : SK σ) : wrI 9 σ 125 k v = some (zsi σ 125 k v) := wrI_t (h.2.1 125 (by decide)).1
theorem q_wj125 {k : Nat} {v : Int64} (h : SK σ) : wrJ 9 σ 125 k v = some (zsj σ 125 k v) := wrJ_t (h.2.1 125 (by decide)).1
theorem q_wz125 {k : Nat} {v : Int32} (hv : v = 0 ∨ v = 1) (h : SK σ) : wrZ 9 σ 125 k v = some (zsi σ 125 k v) := if_pos ⟨(h.2.1 125 (by decide)).1, hv⟩
theorem q_r125_2 (h : SK σ) : rdR 9 σ 125 2 = some (some 126) := (rdR_t (h.2.1 125 (by decide)).1).trans (congrArg some (h.2.2 (125, 2, 126) (by decide)))
theorem q_r125_3 (h : SK σ) : rdR 9 σ 125 3 = some (some 127) := (rdR_t (h.2.1 125 (by decide)).1).trans (congrArg some (h.2.2 (125, 3, 127) (by decide)))
theorem q_r125_4 (h : SK σ) : rdR 9 σ 125 4 = some (some 128) := (rdR_t (h.2.1 125 (by decide)).1).trans (congrArg some (h.2.2 (125, 4, 128) (by decide)))
theorem q_r125_5 (h : SK σ) : rdR 9 σ 125 5 = some (some 129) := (rdR_t (h.2.1 125 (by decide)).1).trans (congrArg some (h.2.2 (125, 5, 129) (by decide)))
theorem q_r125_6 (h : SK σ) : rdR 9 σ 125 6 = some (some 130) := (rdR_t (h.2.1 125 (by decide)).1).trans (congrArg some (h.2.2 (125, 6, 130) (by decide)))
theorem q_r125_7 (h : SK σ) : rdR 9 σ 125 7 = some (some 131) := (rdR_t (h.2.1 125 (by decide)).1).trans (congrArg some (h.2.2 (125, 7, 131) (by decide)))
theorem q_r125_9 (h : SK σ) : rdR 9 σ 125 9 = some (some 132) := (rdR_t (h.2.1 125 (by decide)).1).trans (congrArg some (h.2.2 (125, 9, 132) (by decide)))
theorem q_r125_10 (h : SK σ) : rdR 9 σ 125 10 = some (some 133) := (rdR_t (h.2.1 125 (by decide)).1).trans (congrArg some (h.2.2 (125, 10, 133) (by decide)))
theorem q_r125_12 (h : SK σ) : rdR 9 σ 125 12 = some (some 134) := (rdR_t (h.2.1 125 (by decide)).1).trans (congrArg some (h.2.2 (125, 12, 134) (by decide)))
theorem q_r125_22 (h : SK σ) : rdR 9 σ 125 22 = some (some 135) := (rdR_t (h.2.1 125 (by decide)).1).trans (congrArg some (h.2.2 (125, 22, 135) (by decide)))
theorem q_r125_24 (h : SK σ) : rdR 9 σ 125 24 = some (some 136) := (rdR_t (h.2.1 125 (by decide)).1).trans (congrArg some (h.2.2 (125, 24, 136) (by decide)))
theorem q_r125_25 (h : SK σ) : rdR 9 σ 125 25 = some (some 137) := (rdR_t (h.2.1 125 (by decide)).1).trans (congrArg some (h.2.2 (125, 25, 137) (by decide)))
theorem q_r125_27 (h : SK σ) : rdR 9 σ 125 27 = some (some 138) := (rdR_t (h.2.1 125 (by decide)).1).trans (congrArg some (h.2.2 (125, 27, 138) (by decide)))
theorem q_r125_28 (h : SK σ) : rdR 9 σ 125 28 = some (some 139) := (rdR_t (h.2.1 125 (by decide)).1).trans (congrArg some (h.2.2 (125, 28, 139) (by decide)))
theorem q_r125_31 (h : SK σ) : rdR 9 σ 125 31 = some (some 140) := (rdR_t (h.2.1 125 (by decide)).1).trans (congrArg some (h.2.2 (125, 31, 140) (by decide)))
theorem q_r125_32 (h : SK σ) : rdR 9 σ 125 32 = some (some 141) := (rdR_t (h.2.1 125 (by decide)).1).trans (congrArg some (h.2.2 (125, 32, 141) (by decide)))
theorem q_r125_33 (h : SK σ) : rdR 9 σ 125 33 = some (some 142) := (rdR_t (h.2.1 125 (by decide)).1).trans (congrArg some (h.2.2 (125, 33, 142) (by decide)))
theorem q_r125_35 (h : SK σ) : rdR 9 σ 125 35 = some (some 143) := (rdR_t (h.2.1 125 (by decide)).1).trans (congrArg some (h.2.2 (125, 35, 143) (by decide)))
theorem q_r125_36 (h : SK σ) : rdR 9 σ 125 36 = some (some 144) := (rdR_t (h.2.1 125 (by decide)).1).trans (congrArg some (h.2.2 (125, 36, 144) (by decide)))
theorem q_r125_37 (h : SK σ) : rdR 9 σ 125 37 = some (some 145) := (rdR_t (h.2.1 125 (by decide)).1).trans (congrArg some (h.2.2 (125, 37, 145) (by decide)))
theorem q_r125_41 (h : SK σ) : rdR 9 σ 125 41 = some (some 146) := (rdR_t (h.2.1 125 (by decide)).1).trans (congrArg some (h.2.2 (125, 41, 146) (by decide)))
theorem q_r125_42 (h : SK σ) : rdR 9 σ 125 42 = some (some 147) := (rdR_t (h.2.1 125 (by decide)).1).trans (congrArg some (h.2.2 (125, 42, 147) (by decide)))
theorem q_r125_43 (h : SK σ) : rdR 9 σ 125 43 = some (some 148) := (rdR_t (h.2.1 125 (by decide)).1).trans (congrArg some (h.2.2 (125, 43, 148) (by decide)))
theorem q_r125_44 (h : SK σ) : rdR 9 σ 125 44 = some (some 149) := (rdR_t (h.2.1 125 (by decide)).1).trans (congrArg some (h.2.2 (125, 44, 149) (by decide)))
theorem q_r125_45 (h : SK σ) : rdR 9 σ 125 45 = some (some 150) := (rdR_t (h.2.1 125 (by decide)).1).trans (congrArg some (h.2.2 (125, 45, 150) (by decide)))
theorem q_r125_46 (h : SK σ) : rdR 9 σ 125 46 = some (some 151) := (rdR_t (h.2.1 125 (by decide)).1).trans (congrArg some (h.2.2 (125, 46, 151) (by decide)))
theorem q_r125_47 (h : SK σ) : rdR 9 σ 125 47 = some (some 152) := (rdR_t (h.2.1 125 (by decide)).1).trans (congrArg some (h.2.2 (125, 47, 152) (by decide)))
theorem q_r125_48 (h : SK σ) : rdR 9 σ 125 48 = some (some 153) := (rdR_t (h.2.1 125 (by decide)).1).trans (congrArg some (h.2.2 (125, 48, 153) (by decide)))
theorem q_r125_49 (h : SK σ) : rdR 9 σ 125 49 = some (some 154) := (rdR_t (h.2.1 125 (by decide)).1).trans (congrArg some (h.2.2 (125, 49, 154) (by decide)))
theorem q_r125_55 (h : SK σ) : rdR 9 σ 125 55 = some (some 155) := (rdR_t (h.2.1 125 (by decide)).1).trans (congrArg some (h.2.2 (125, 55, 155) (by decide)))
theorem q_ln126 (h : SK σ) : lnA 11 σ 126 = some (iN 7) := (if_pos (h.2.1 126 (by decide)).1).trans (congrArg (fun n => some (Int32.ofNat n)) (h.2.1 126 (by decide)).2)
theorem q_ld126 {n : Nat} (hn : n < 7) (h : SK σ) : ldI 11 σ 126 (iN n) = some (zi σ 126 n) := ldI_n (h.2.1 126 (by decide)).1 (h.2.1 126 (by decide)).2 hn (by decide)
theorem q_st126 {n : Nat} {v : Int32} (hn : n < 7) (h : SK σ) : stI σ 126 (iN n) v = some (zsi σ 126 n v) := stI_n (h.2.1 126 (by decide)).1 (h.2.1 126 (by decide)).2 hn (by decide)
theorem q_ln127 (h : SK σ) : lnA 11 σ 127 = some (iN 5578) := (if_pos (h.2.1 127 (by decide)).1).trans (congrArg (fun n => some (Int32.ofNat n)) (h.2.1 127 (by decide)).2)
theorem q_ld127 {n : Nat} (hn : n < 5578) (h : SK σ) : ldI 11 σ 127 (iN n) = some (zi σ 127 n) := ldI_n (h.2.1 127 (by decide)).1 (h.2.1 127 (by decide)).2 hn (by decide)
theorem q_st127 {n : Nat} {v : Int32} (hn : n < 5578) (h : SK σ) : stI σ 127 (iN n) v = some (zsi σ 127 n v) := stI_n (h.2.1 127 (by decide)).1 (h.2.1 127 (by decide)).2 hn (by decide)
theorem q_ln128 (h : SK σ) : lnA 11 σ 128 = some (iN 11156) := (if_pos (h.2.1 128 (by decide)).1).trans (congrArg (fun n => some (Int32.ofNat n)) (h.2.1 128 (by decide)).2)
theorem q_ld128 {n : Nat} (hn : n < 11156) (h : SK σ) : ldI 11 σ 128 (iN n) = some (zi σ 128 n) := ldI_n (h.2.1 128 (by decide)).1 (h.2.1 128 (by decide)).2 hn (by decide)
theorem q_st128 {n : Nat} {v : Int32} (hn : n < 11156) (h : SK σ) : stI σ 128 (iN n) v = some (zsi σ 128 n v) := stI_n (h.2.1 128 (by decide)).1 (h.2.1 128 (by decide)).2 hn (by decide)
theorem q_ln129 (h : SK σ) : lnA 13 σ 129 = some (iN 2) := (if_pos (h.2.1 129 (by decide)).1).trans (congrArg (fun n => some (Int32.ofNat n)) (h.2.1 129 (by decide)).2)
theorem q_ld129 {n : Nat} (hn : n < 2) (h : SK σ) : ldI 13 σ 129 (iN n) = some (zi σ 129 n) := ldI_n (h.2.1 129 (by decide)).1 (h.2.1 129 (by decide)).2 hn (by decide)
theorem q_st129 {n : Nat} {v : Int32} (hn : n < 2) (hv : v = 0 ∨ v = 1) (h : SK σ) : stZ σ 129 (iN n) v = some (zsi σ 129 n v) := stZ_n (h.2.1 129 (by decide)).1 (h.2.1 129 (by decide)).2 hn (by decide) hv
theorem q_ln130 (h : SK σ) : lnA 11 σ 130 = some (iN 414) := (if_pos (h.2.1 130 (by decide)).1).trans (congrArg (fun n => some (Int32.ofNat n)) (h.2.1 130 (by decide)).2)
theorem q_ld130 {n : Nat} (hn : n < 414) (h : SK σ) : ldI 11 σ 130 (iN n) = some (zi σ 130 n) := ldI_n (h.2.1 130 (by decide)).1 (h.2.1 130 (by decide)).2 hn (by decide)
theorem q_st130 {n : Nat} {v : Int32} (hn : n < 414) (h : SK σ) : stI σ 130 (iN n) v = some (zsi σ 130 n v) := stI_n (h.2.1 130 (by decide)).1 (h.2.1 130 (by decide)).2 hn (by decide)
theorem q_ln131 (h : SK σ) : lnA 11 σ 131 = some (iN 16) := (if_pos (h.2.1 131 (by decide)).1).trans (congrArg (fun n => some (Int32.ofNat n)) (h.2.1 131 (by decide)).2)
theorem q_ld131 {n : Nat} (hn : n < 16) (h : SK σ) : ldI 11 σ 131 (iN n) = some (zi σ 131 n) := ldI_n (h.2.1 131 (by decide)).1 (h.2.1 131 (by decide)).2 hn (by decide)
theorem q_st131 {n : Nat} {v : Int32} (hn : n < 16) (h : SK σ) : stI σ 131 (iN n) v = some (zsi σ 131 n v) := stI_n (h.2.1 131 (by decide)).1 (h.2.1 131 (by decide)).2 hn (by decide)
theorem q_ln132 (h : SK σ) : lnA 11 σ 132 = some (iN 368) := (if_pos (h.2.1 132 (by decide)).1).trans (congrArg (fun n => some (Int32.ofNat n)) (h.2.1 132 (by decide)).2)
theorem q_ld132 {n : Nat} (hn : n < 368) (h : SK σ) : ldI 11 σ 132 (iN n) = some (zi σ 132 n) := ldI_n (h.2.1 132 (by decide)).1 (h.2.1 132 (by decide)).2 hn (by decide)
theorem q_st132 {n : Nat} {v : Int32} (hn : n < 368) (h : SK σ) : stI σ 132 (iN n) v = some (zsi σ 132 n v) := stI_n (h.2.1 132 (by decide)).1 (h.2.1 132 (by decide)).2 hn (by decide)
theorem q_ln133 (h : SK σ) : lnA 11 σ 133 = some (iN 16) := (if_pos (h.2.1 133 (by decide)).1).trans (congrArg (fun n => some (Int32.ofNat n)) (h.2.1 133 (by decide)).2)
theorem q_ld133 {n : Nat} (hn : n < 16) (h : SK σ) : ldI 11 σ 133 (iN n) = some (zi σ 133 n) := ldI_n (h.2.1 133 (by decide)).1 (h.2.1 133 (by decide)).2 hn (by decide)
theorem q_st133 {n : Nat} {v : Int32} (hn : n < 16) (h : SK σ) : stI σ 133 (iN n) v = some (zsi σ 133 n v) := stI_n (h.2.1 133 (by decide)).1 (h.2.1 133 (by decide)).2 hn (by decide)
theorem q_ln134 (h : SK σ) : lnA 11 σ 134 = some (iN 400) := (if_pos (h.2.1 134 (by decide)).1).trans (congrArg (fun n => some (Int32.ofNat n)) (h.2.1 134 (by decide)).2)
theorem q_ld134 {n : Nat} (hn : n < 400) (h : SK σ) : ldI 11 σ 134 (iN n) = some (zi σ 134 n) := ldI_n (h.2.1 134 (by decide)).1 (h.2.1 134 (by decide)).2 hn (by decide)
theorem q_st134 {n : Nat} {v : Int32} (hn : n < 400) (h : SK σ) : stI σ 134 (iN n) v = some (zsi σ 134 n v) := stI_n (h.2.1 134 (by decide)).1 (h.2.1 134 (by decide)).2 hn (by decide)
theorem q_ln135 (h : SK σ) : lnA 11 σ 135 = some (iN 96) := (if_pos (h.2.1 135 (by decide)).1).trans (congrArg (fun n => some (Int32.ofNat n)) (h.2.1 135 (by decide)).2)
theorem q_ld135 {n : Nat} (hn : n < 96) (h : SK σ) : ldI 11 σ 135 (iN n) = some (zi σ 135 n) := ldI_n (h.2.1 135 (by decide)).1 (h.2.1 135 (by decide)).2 hn (by decide)
theorem q_st135 {n : Nat} {v : Int32} (hn : n < 96) (h : SK σ) : stI σ 135 (iN n) v = some (zsi σ 135 n v) := stI_n (h.2.1 135 (by decide)).1 (h.2.1 135 (by decide)).2 hn (by decide)
theorem q_ln136 (h : SK σ) : lnA 11 σ 136 = some (iN 400) := (if_pos (h.2.1 136 (by decide)).1).trans (congrArg (fun n => some (Int32.ofNat n)) (h.2.1 136 (by decide)).2)
theorem q_ld136 {n : Nat} (hn : n < 400) (h : SK σ) : ldI 11 σ 136 (iN n) = some (zi σ 136 n) := ldI_n (h.2.1 136 (by decide)).1 (h.2.1 136 (by decide)).2 hn (by decide)
theorem q_st136 {n : Nat} {v : Int32} (hn : n < 400) (h : SK σ) : stI σ 136 (iN n) v = some (zsi σ 136 n v) := stI_n (h.2.1 136 (by decide)).1 (h.2.1 136 (by decide)).2 hn (by decide)
theorem q_ln137 (h : SK σ) : lnA 11 σ 137 = some (iN 400) := (if_pos (h.2.1 137 (by decide)).1).trans (congrArg (fun n => some (Int32.ofNat n)) (h.2.1 137 (by decide)).2)
theorem q_ld137 {n : Nat} (hn : n < 400) (h : SK σ) : ldI 11 σ 137 (iN n) = some (zi σ 137 n) := ldI_n (h.2.1 137 (by decide)).1 (h.2.1 137 (by decide)).2 hn (by decide)
theorem q_st137 {n : Nat} {v : Int32} (hn : n < 400) (h : SK σ) : stI σ 137 (iN n) v = some (zsi σ 137 n v) := stI_n (h.2.1 137 (by decide)).1 (h.2.1 137 (by decide)).2 hn (by decide)
theorem q_ln138 (h : SK σ) : lnA 11 σ 138 = some (iN 400) := (if_pos (h.2.1 138 (by decide)).1).trans (congrArg (fun n => some (Int32.ofNat n)) (h.2.1 138 (by decide)).2)
theorem q_ld138 {n : Nat} (hn : n < 400) (h : SK σ) : ldI 11 σ 138 (iN n) = some (zi σ 138 n) := ldI_n (h.2.1 138 (by decide)).1 (h.2.1 138 (by decide)).2 hn (by decide)
theorem q_st138 {n : Nat} {v : Int32} (hn : n < 400) (h : SK σ) : stI σ 138 (iN n) v = some (zsi σ 138 n v) := stI_n (h.2.1 138 (by decide)).1 (h.2.1 138 (by decide)).2 hn (by decide)
theorem q_ln139 (h : SK σ) : lnA 11 σ 139 = some (iN 400) := (if_pos (h.2.1 139 (by decide)).1).trans (congrArg (fun n => some (Int32.ofNat n)) (h.2.1 139 (by decide)).2)
theorem q_ld139 {n : Nat} (hn : n < 400) (h : SK σ) : ldI 11 σ 139 (iN n) = some (zi σ 139 n) := ldI_n (h.2.1 139 (by decide)).1 (h.2.1 139 (by decide)).2 hn (by decide)
theorem q_st139 {n : Nat} {v : Int32} (hn : n < 400) (h : SK σ) : stI σ 139 (iN n) v = some (zsi σ 139 n v) := stI_n (h.2.1 139 (by decide)).1 (h.2.1 139 (by decide)).2 hn (by decide)
theorem q_ln140 (h : SK σ) : lnA 12 σ 140 = some (iN 9) := (if_pos (h.2.1 140 (by decide)).1).trans (congrArg (fun n => some (Int32.ofNat n)) (h.2.1 140 (by decide)).2)
theorem q_ld140 {n : Nat} (hn : n < 9) (h : SK σ) : ldJ σ 140 (iN n) = some (zj σ 140 n) := ldJ_n (h.2.1 140 (by decide)).1 (h.2.1 140 (by decide)).2 hn (by decide)
theorem q_st140 {n : Nat} {v : Int64} (hn : n < 9) (h : SK σ) : stJ σ 140 (iN n) v = some (zsj σ 140 n v) := stJ_n (h.2.1 140 (by decide)).1 (h.2.1 140 (by decide)).2 hn (by decide)
theorem q_ln141 (h : SK σ) : lnA 12 σ 141 = some (iN 8) := (if_pos (h.2.1 141 (by decide)).1).trans (congrArg (fun n => some (Int32.ofNat n)) (h.2.1 141 (by decide)).2)
theorem q_ld141 {n : Nat} (hn : n < 8) (h : SK σ) : ldJ σ 141 (iN n) = some (zj σ 141 n) := ldJ_n (h.2.1 141 (by decide)).1 (h.2.1 141 (by decide)).2 hn (by decide)
theorem q_st141 {n : Nat} {v : Int64} (hn : n < 8) (h : SK σ) : stJ σ 141 (iN n) v = some (zsj σ 141 n v) := stJ_n (h.2.1 141 (by decide)).1 (h.2.1 141 (by decide)).2 hn (by decide)
theorem q_ln142 (h : SK σ) : lnA 12 σ 142 = some (iN 3) := (if_pos (h.2.1 142 (by decide)).1).trans (congrArg (fun n => some (Int32.ofNat n)) (h.2.1 142 (by decide)).2)
theorem q_ld142 {n : Nat} (hn : n < 3) (h : SK σ) : ldJ σ 142 (iN n) = some (zj σ 142 n) := ldJ_n (h.2.1 142 (by decide)).1 (h.2.1 142 (by decide)).2 hn (by decide)
theorem q_st142 {n : Nat} {v : Int64} (hn : n < 3) (h : SK σ) : stJ σ 142 (iN n) v = some (zsj σ 142 n v) := stJ_n (h.2.1 142 (by decide)).1 (h.2.1 142 (by decide)).2 hn (by decide)
theorem q_ln143 (h : SK σ) : lnA 12 σ 143 = some (iN 13) := (if_pos (h.2.1 143 (by decide)).1).trans (congrArg (fun n => some (Int32.ofNat n)) (h.2.1 143 (by decide)).2)
theorem q_ld143 {n : Nat} (hn : n < 13) (h : SK σ) : ldJ σ 143 (iN n) = some (zj σ 143 n) := ldJ_n (h.2.1 143 (by decide)).1 (h.2.1 143 (by decide)).2 hn (by decide)
theorem q_st143 {n : Nat} {v : Int64} (hn : n < 13) (h : SK σ) : stJ σ 143 (iN n) v = some (zsj σ 143 n v) := stJ_n (h.2.1 143 (by decide)).1 (h.2.1 143 (by decide)).2 hn (by decide)
theorem q_ln144 (h : SK σ) : lnA 12 σ 144 = some (iN 13) := (if_pos (h.2.1 144 (by decide)).1).trans (congrArg (fun n => some (Int32.ofNat n)) (h.2.1 144 (by decide)).2)
theorem q_ld144 {n : Nat} (hn : n < 13) (h : SK σ) : ldJ σ 144 (iN n) = some (zj σ 144 n) := ldJ_n (h.2.1 144 (by decide)).1 (h.2.1 144 (by decide)).2 hn (by decide)
theorem q_st144 {n : Nat} {v : Int64} (hn : n < 13) (h : SK σ) : stJ σ 144 (iN n) v = some (zsj σ 144 n v) := stJ_n (h.2.1 144 (by decide)).1 (h.2.1 144 (by decide)).2 hn (by decide)
theorem q_ln145 (h : SK σ) : lnA 12 σ 145 = some (iN 400) := (if_pos (h.2.1 145 (by decide)).1).trans (congrArg (fun n => some (Int32.ofNat n)) (h.2.1 145 (by decide)).2)
theorem q_ld145 {n : Nat} (hn : n < 400) (h : SK σ) : ldJ σ 145 (iN n) = some (zj σ 145 n) := ldJ_n (h.2.1 145 (by decide)).1 (h.2.1 145 (by decide)).2 hn (by decide)
theorem q_st145 {n : Nat} {v : Int64} (hn : n < 400) (h : SK σ) : stJ σ 145 (iN n) v = some (zsj σ 145 n v) := stJ_n (h.2.1 145 (by decide)).1 (h.2.1 145 (by decide)).2 hn (by decide)
theorem q_ln146 (h : SK σ) : lnA 11 σ 146 = some (iN 3) := (if_pos (h.2.1 146 (by decide)).1).trans (congrArg (fun n => some (Int32.ofNat n)) (h.2.1 146 (by decide)).2)
theorem q_ld146 {n : Nat} (hn : n < 3) (h : SK σ) : ldI 11 σ 146 (iN n) = some (zi σ 146 n) := ldI_n (h.2.1 146 (by decide)).1 (h.2.1 146 (by decide)).2 hn (by decide)
theorem q_st146 {n : Nat} {v : Int32} (hn : n < 3) (h : SK σ) : stI σ 146 (iN n) v = some (zsi σ 146 n v) := stI_n (h.2.1 146 (by decide)).1 (h.2.1 146 (by decide)).2 hn (by decide)
theorem q_ln147 (h : SK σ) : lnA 13 σ 147 = some (iN 490) := (if_pos (h.2.1 147 (by decide)).1).trans (congrArg (fun n => some (Int32.ofNat n)) (h.2.1 147 (by decide)).2)
theorem q_ld147 {n : Nat} (hn : n < 490) (h : SK σ) : ldI 13 σ 147 (iN n) = some (zi σ 147 n) := ldI_n (h.2.1 147 (by decide)).1 (h.2.1 147 (by decide)).2 hn (by decide)
theorem q_st147 {n : Nat} {v : Int32} (hn : n < 490) (hv : v = 0 ∨ v = 1) (h : SK σ) : stZ σ 147 (iN n) v = some (zsi σ 147 n v) := stZ_n (h.2.1 147 (by decide)).1 (h.2.1 147 (by decide)).2 hn (by decide) hv
theorem q_ln148 (h : SK σ) : lnA 13 σ 148 = some (iN 490) := (if_pos (h.2.1 148 (by decide)).1).trans (congrArg (fun n => some (Int32.ofNat n)) (h.2.1 148 (by decide)).2)
theorem q_ld148 {n : Nat} (hn : n < 490) (h : SK σ) : ldI 13 σ 148 (iN n) = some (zi σ 148 n) := ldI_n (h.2.1 148 (by decide)).1 (h.2.1 148 (by decide)).2 hn (by decide)
theorem q_st148 {n : Nat} {v : Int32} (hn : n < 490) (hv : v = 0 ∨ v = 1) (h : SK σ) : stZ σ 148 (iN n) v = some (zsi σ 148 n v) := stZ_n (h.2.1 148 (by decide)).1 (h.2.1 148 (by decide)).2 hn (by decide) hv
theorem q_ln149 (h : SK σ) : lnA 13 σ 149 = some (iN 100) := (if_pos (h.2.1 149 (by decide)).1).trans (congrArg (fun n => some (Int32.ofNat n)) (h.2.1 149 (by decide)).2)
theorem q_ld149 {n : Nat} (hn : n < 100) (h : SK σ) : ldI 13 σ 149 (iN n) = some (zi σ 149 n) := ldI_n (h.2.1 149 (by decide)).1 (h.2.1 149 (by decide)).2 hn (by decide)
theorem q_st149 {n : Nat} {v : Int32} (hn : n < 100) (hv : v = 0 ∨ v = 1) (h : SK σ) : stZ σ 149 (iN n) v = some (zsi σ 149 n v) := stZ_n (h.2.1 149 (by decide)).1 (h.2.1 149 (by decide)).2 hn (by decide) hv
theorem q_ln150 (h : SK σ) : lnA 11 σ 150 = some (iN 183) := (if_pos (h.2.1 150 (by decide)).1).trans (congrArg (fun n => some (Int32.ofNat n)) (h.2.1 150 (by decide)).2)
theorem q_ld150 {n : Nat} (hn : n < 183) (h : SK σ) : ldI 11 σ 150 (iN n) = some (zi σ 150 n) := ldI_n (h.2.1 150 (by decide)).1 (h.2.1 150 (by decide)).2 hn (by decide)
theorem q_st150 {n : Nat} {v : Int32} (hn : n < 183) (h : SK σ) : stI σ 150 (iN n) v = some (zsi σ 150 n v) := stI_n (h.2.1 150 (by decide)).1 (h.2.1 150 (by decide)).2 hn (by decide)
theorem q_ln151 (h : SK σ) : lnA 12 σ 151 = some (iN 21) := (if_pos (h.2.1 151 (by decide)).1).trans (congrArg (fun n => some (Int32.ofNat n)) (h.2.1 151 (by decide)).2)
theorem q_ld151 {n : Nat} (hn : n < 21) (h : SK σ) : ldJ σ 151 (iN n) = some (zj σ 151 n) := ldJ_n (h.2.1 151 (by decide)).1 (h.2.1 151 (by decide)).2 hn (by decide)
theorem q_st151 {n : Nat} {v : Int64} (hn : n < 21) (h : SK σ) : stJ σ 151 (iN n) v = some (zsj σ 151 n v) := stJ_n (h.2.1 151 (by decide)).1 (h.2.1 151 (by decide)).2 hn (by decide)
theorem q_ln152 (h : SK σ) : lnA 12 σ 152 = some (iN 4) := (if_pos (h.2.1 152 (by decide)).1).trans (congrArg (fun n => some (Int32.ofNat n)) (h.2.1 152 (by decide)).2)
theorem q_ld152 {n : Nat} (hn : n < 4) (h : SK σ) : ldJ σ 152 (iN n) = some (zj σ 152 n) := ldJ_n (h.2.1 152 (by decide)).1 (h.2.1 152 (by decide)).2 hn (by decide)
theorem q_st152 {n : Nat} {v : Int64} (hn : n < 4) (h : SK σ) : stJ σ 152 (iN n) v = some (zsj σ 152 n v) := stJ_n (h.2.1 152 (by decide)).1 (h.2.1 152 (by decide)).2 hn (by decide)
theorem q_ln153 (h : SK σ) : lnA 12 σ 153 = some (iN 3) := (if_pos (h.2.1 153 (by decide)).1).trans (congrArg (fun n => some (Int32.ofNat n)) (h.2.1 153 (by decide)).2)
theorem q_ld153 {n : Nat} (hn : n < 3) (h : SK σ) : ldJ σ 153 (iN n) = some (zj σ 153 n) := ldJ_n (h.2.1 153 (by decide)).1 (h.2.1 153 (by decide)).2 hn (by decide)
theorem q_st153 {n : Nat} {v : Int64} (hn : n < 3) (h : SK σ) : stJ σ 153 (iN n) v = some (zsj σ 153 n v) := stJ_n (h.2.1 153 (by decide)).1 (h.2.1 153 (by decide)).2 hn (by decide)
theorem q_ln154 (h : SK σ) : lnA 11 σ 154 = some (iN 96) := (if_pos (h.2.1 154 (by decide)).1).trans (congrArg (fun n => some (Int32.ofNat n)) (h.2.1 154 (by decide)).2)
theorem q_ld154 {n : Nat} (hn : n < 96) (h : SK σ) : ldI 11 σ 154 (iN n) = some (zi σ 154 n) := ldI_n (h.2.1 154 (by decide)).1 (h.2.1 154 (by decide)).2 hn (by decide)
theorem q_st154 {n : Nat} {v : Int32} (hn : n < 96) (h : SK σ) : stI σ 154 (iN n) v = some (zsi σ 154 n v) := stI_n (h.2.1 154 (by decide)).1 (h.2.1 154 (by decide)).2 hn (by decide)
theorem q_ln155 (h : SK σ) : lnA 11 σ 155 = some (iN 23) := (if_pos (h.2.1 155 (by decide)).1).trans (congrArg (fun n => some (Int32.ofNat n)) (h.2.1 155 (by decide)).2)
theorem q_ld155 {n : Nat} (hn : n < 23) (h : SK σ) : ldI 11 σ 155 (iN n) = some (zi σ 155 n) := ldI_n (h.2.1 155 (by decide)).1 (h.2.1 155 (by decide)).2 hn (by decide)
theorem q_st155 {n : Nat} {v : Int32} (hn : n < 23) (h : SK σ) : stI σ 155 (iN n) v = some (zsi σ 155 n v) := stI_n (h.2.1 155 (by decide)).1 (h.2.1 155 (by decide)).2 hn (by decide)
theorem q_r58_0 (h : SK σ) : zr σ 58 0 = some 59 := (h.2.2 (58, 0, 59) (by decide))
theorem q_r58_1 (h : SK σ) : zr σ 58 1 = some 78 := (h.2.2 (58, 1, 78) (by decide))
theorem q_r115_0 (h : SK σ) : zr σ 115 0 = some 116 := (h.2.2 (115, 0, 116) (by decide))
theorem q_r115_1 (h : SK σ) : zr σ 115 1 = some 117 := (h.2.2 (115, 1, 117) (by decide))
theorem q_r115_2 (h : SK σ) : zr σ 115 2 = some 118 := (h.2.2 (115, 2, 118) (by decide))
end SKs
/-! ===== a House at b ===== -/
def hkL : List Nat := [1, 3, 11, 11, 11, 11, 11, 11, 11, 11, 11, 11, 11, 11, 11, 15, 5, 11, 12]
def hlL : List Nat := [0, 0, 10, 10, 100, 6, 4, 4, 3, 6, 6, 6, 6, 6, 3, 6, 0, 18, 64]
def hrL : List (Nat × Nat × Nat) := [(0, 0, 1), (0, 1, 5), (0, 2, 6), (0, 3, 7), (0, 4, 8), (0, 5, 9), (0, 6, 10), (0, 7, 11), (0, 8, 12), (0, 9, 13), (0, 10, 14), (0, 11, 15), (0, 12, 16), (1, 0, 2), (1, 1, 3), (1, 2, 4), (16, 0, 17), (16, 1, 18)]
def HK (b : Nat) (σ : Hp) : Prop := (∀ a, a < 19 → zk σ (b + a) = hkL.getD a 0 ∧ zl σ (b + a) = hlL.getD a 0) ∧ (∀ t ∈ hrL, zr σ (b + t.1) t.2.1 = some (b + t.2.2))
theorem HK_zsi {b : Nat} {σ : Hp} {a k : Nat} {v : Int32} : HK b (zsi σ a k v) = HK b σ := rfl
theorem HK_zsj {b : Nat} {σ : Hp} {a k : Nat} {v : Int64} : HK b (zsj σ a k v) = HK b σ := rfl
theorem HK.same {b : Nat} {σ σ1 : Hp} (h : HK b σ) (e1 : zk σ1 = zk σ) (e2 : zl σ1 = zl σ) (e3 : zr σ1 = zr σ) : HK b σ1 := by
  unfold HK at *
  rw [e1, e2, e3]
  exact h
theorem HK.ag {b : Nat} {S : Nat → Nat → Prop} {σ σ1 : Hp} (h : HK b σ) (e : Ag S σ σ1) : HK b σ1 := h.same e.2.1 e.2.2.1 e.2.2.2.1
theorem SK.hk1 {σ : Hp} (h : SK σ) : HK 1 σ := by
  refine ⟨fun a ha => ?_, fun t ht => ?_⟩
  · have e : ∀ a, a < 19 → kqL.getD (1 + a) 0 = hkL.getD a 0 ∧ lqL.getD (1 + a) 0 = hlL.getD a 0 := by decide
    have h1 := h.2.1 (1 + a) (by omega)
    exact ⟨h1.1.trans (e a ha).1, h1.2.trans (e a ha).2⟩
  · have e : hrL.all (fun t => decide ((1 + t.1, t.2.1, 1 + t.2.2) ∈ rqL)) = true := by decide
    have h1 : (1 + t.1, t.2.1, 1 + t.2.2) ∈ rqL := by simpa using List.all_eq_true.mp e t ht
    exact h.2.2 _ h1
theorem SK.hk20 {σ : Hp} (h : SK σ) : HK 20 σ := by
  refine ⟨fun a ha => ?_, fun t ht => ?_⟩
  · have e : ∀ a, a < 19 → kqL.getD (20 + a) 0 = hkL.getD a 0 ∧ lqL.getD (20 + a) 0 = hlL.getD a 0 := by decide
    have h1 := h.2.1 (20 + a) (by omega)
    exact ⟨h1.1.trans (e a ha).1, h1.2.trans (e a ha).2⟩
  · have e : hrL.all (fun t => decide ((20 + t.1, t.2.1, 20 + t.2.2) ∈ rqL)) = true := by decide
    have h1 : (20 + t.1, t.2.1, 20 + t.2.2) ∈ rqL := by simpa using List.all_eq_true.mp e t ht
    exact h.2.2 _ h1
theorem SK.hk39 {σ : Hp} (h : SK σ) : HK 39 σ := by
  refine ⟨fun a ha => ?_, fun t ht => ?_⟩
  · have e : ∀ a, a < 19 → kqL.getD (39 + a) 0 = hkL.getD a 0 ∧ lqL.getD (39 + a) 0 = hlL.getD a 0 := by decide
    have h1 := h.2.1 (39 + a) (by omega)
    exact ⟨h1.1.trans (e a ha).1, h1.2.trans (e a ha).2⟩
  · have e : hrL.all (fun t => decide ((39 + t.1, t.2.1, 39 + t.2.2) ∈ rqL)) = true := by decide
    have h1 : (39 + t.1, t.2.1, 39 + t.2.2) ∈ rqL := by simpa using List.all_eq_true.mp e t ht
    exact h.2.2 _ h1
theorem SK.hk59 {σ : Hp} (h : SK σ) : HK 59 σ := by
  refine ⟨fun a ha => ?_, fun t ht => ?_⟩
  · have e : ∀ a, a < 19 → kqL.getD (59 + a) 0 = hkL.getD a 0 ∧ lqL.getD (59 + a) 0 = hlL.getD a 0 := by decide
    have h1 := h.2.1 (59 + a) (by omega)
    exact ⟨h1.1.trans (e a ha).1, h1.2.trans (e a ha).2⟩
  · have e : hrL.all (fun t => decide ((59 + t.1, t.2.1, 59 + t.2.2) ∈ rqL)) = true := by decide
    have h1 : (59 + t.1, t.2.1, 59 + t.2.2) ∈ rqL := by simpa using List.all_eq_true.mp e t ht
    exact h.2.2 _ h1
theorem SK.hk78 {σ : Hp} (h : SK σ) : HK 78 σ := by
  refine ⟨fun a ha => ?_, fun t ht => ?_⟩
  · have e : ∀ a, a < 19 → kqL.getD (78 + a) 0 = hkL.getD a 0 ∧ lqL.getD (78 + a) 0 = hlL.getD a 0 := by decide
    have h1 := h.2.1 (78 + a) (by omega)
    exact ⟨h1.1.trans (e a ha).1, h1.2.trans (e a ha).2⟩
  · have e : hrL.all (fun t => decide ((78 + t.1, t.2.1, 78 + t.2.2) ∈ rqL)) = true := by decide
    have h1 : (78 + t.1, t.2.1, 78 + t.2.2) ∈ rqL := by simpa using List.all_eq_true.mp e t ht
    exact h.2.2 _ h1
section HKs
variable {σ : Hp} {b : Nat}
theorem h_ck0 (h : HK b σ) : ck 1 σ b = some () := ck_t (h.1 0 (by decide)).1
theorem h_i0 {k : Nat} (h : HK b σ) : rdI 1 σ b k = some (zi σ b k) := rdI_t (h.1 0 (by decide)).1
theorem h_w0 {k : Nat} {v : Int32} (h : HK b σ) : wrI 1 σ b k v = some (zsi σ b k v) := wrI_t (h.1 0 (by decide)).1
theorem h_r0_0 (h : HK b σ) : rdR 1 σ b 0 = some (some (b + 1)) := (rdR_t (h.1 0 (by decide)).1).trans (congrArg some (h.2 (0, 0, 1) (by decide)))
theorem h_r0_1 (h : HK b σ) : rdR 1 σ b 1 = some (some (b + 5)) := (rdR_t (h.1 0 (by decide)).1).trans (congrArg some (h.2 (0, 1, 5) (by decide)))
theorem h_r0_2 (h : HK b σ) : rdR 1 σ b 2 = some (some (b + 6)) := (rdR_t (h.1 0 (by decide)).1).trans (congrArg some (h.2 (0, 2, 6) (by decide)))
theorem h_r0_3 (h : HK b σ) : rdR 1 σ b 3 = some (some (b + 7)) := (rdR_t (h.1 0 (by decide)).1).trans (congrArg some (h.2 (0, 3, 7) (by decide)))
theorem h_r0_4 (h : HK b σ) : rdR 1 σ b 4 = some (some (b + 8)) := (rdR_t (h.1 0 (by decide)).1).trans (congrArg some (h.2 (0, 4, 8) (by decide)))
theorem h_r0_5 (h : HK b σ) : rdR 1 σ b 5 = some (some (b + 9)) := (rdR_t (h.1 0 (by decide)).1).trans (congrArg some (h.2 (0, 5, 9) (by decide)))
theorem h_r0_6 (h : HK b σ) : rdR 1 σ b 6 = some (some (b + 10)) := (rdR_t (h.1 0 (by decide)).1).trans (congrArg some (h.2 (0, 6, 10) (by decide)))
theorem h_r0_7 (h : HK b σ) : rdR 1 σ b 7 = some (some (b + 11)) := (rdR_t (h.1 0 (by decide)).1).trans (congrArg some (h.2 (0, 7, 11) (by decide)))
theorem h_r0_8 (h : HK b σ) : rdR 1 σ b 8 = some (some (b + 12)) := (rdR_t (h.1 0 (by decide)).1).trans (congrArg some (h.2 (0, 8, 12) (by decide)))
theorem h_r0_9 (h : HK b σ) : rdR 1 σ b 9 = some (some (b + 13)) := (rdR_t (h.1 0 (by decide)).1).trans (congrArg some (h.2 (0, 9, 13) (by decide)))
theorem h_r0_10 (h : HK b σ) : rdR 1 σ b 10 = some (some (b + 14)) := (rdR_t (h.1 0 (by decide)).1).trans (congrArg some (h.2 (0, 10, 14) (by decide)))
theorem h_r0_11 (h : HK b σ) : rdR 1 σ b 11 = some (some (b + 15)) := (rdR_t (h.1 0 (by decide)).1).trans (congrArg some (h.2 (0, 11, 15) (by decide)))
theorem h_r0_12 (h : HK b σ) : rdR 1 σ b 12 = some (some (b + 16)) := (rdR_t (h.1 0 (by decide)).1).trans (congrArg some (h.2 (0, 12, 16) (by decide)))
theorem h_ck1 (h : HK b σ) : ck 3 σ (b + 1) = some () := ck_t (h.1 1 (by decide)).1
theorem h_i1 {k : Nat} (h : HK b σ) : rdI 3 σ (b + 1) k = some (zi σ (b + 1) k) := rdI_t (h.1 1 (by decide)).1
theorem h_w1 {k : Nat} {v : Int32} (h : HK b σ) : wrI 3 σ (b + 1) k v = some (zsi σ (b + 1) k v) := wrI_t (h.1 1 (by decide)).1
theorem h_r1_0 (h : HK b σ) : rdR 3 σ (b + 1) 0 = some (some (b + 2)) := (rdR_t (h.1 1 (by decide)).1).trans (congrArg some (h.2 (1, 0, 2) (by decide)))
theorem h_r1_1 (h : HK b σ) : rdR 3 σ (b + 1) 1 = some (some (b + 3)) := (rdR_t (h.1 1 (by decide)).1).trans (congrArg some (h.2 (1, 1, 3) (by decide)))
theorem h_r1_2 (h : HK b σ) : rdR 3 σ (b + 1) 2 = some (some (b + 4)) := (rdR_t (h.1 1 (by decide)).1).trans (congrArg some (h.2 (1, 2, 4) (by decide)))
theorem h_ln2 (h : HK b σ) : lnA 11 σ (b + 2) = some (iN 10) := (if_pos (h.1 2 (by decide)).1).trans (congrArg (fun n => some (Int32.ofNat n)) (h.1 2 (by decide)).2)
theorem h_ld2 {n : Nat} (hn : n < 10) (h : HK b σ) : ldI 11 σ (b + 2) (iN n) = some (zi σ (b + 2) n) := ldI_n (h.1 2 (by decide)).1 (h.1 2 (by decide)).2 hn (by decide)
theorem h_st2 {n : Nat} {v : Int32} (hn : n < 10) (h : HK b σ) : stI σ (b + 2) (iN n) v = some (zsi σ (b + 2) n v) := stI_n (h.1 2 (by decide)).1 (h.1 2 (by decide)).2 hn (by decide)
theorem h_ln3 (h : HK b σ) : lnA 11 σ (b + 3) = some (iN 10) := (if_pos (h.1 3 (by decide)).1).trans (congrArg (fun n => some (Int32.ofNat n)) (h.1 3 (by decide)).2)
theorem h_ld3 {n : Nat} (hn : n < 10) (h : HK b σ) : ldI 11 σ (b + 3) (iN n) = some (zi σ (b + 3) n) := ldI_n (h.1 3 (by decide)).1 (h.1 3 (by decide)).2 hn (by decide)
theorem h_st3 {n : Nat} {v : Int32} (hn : n < 10) (h : HK b σ) : stI σ (b + 3) (iN n) v = some (zsi σ (b + 3) n v) := stI_n (h.1 3 (by decide)).1 (h.1 3 (by decide)).2 hn (by decide)
theorem h_ln4 (h : HK b σ) : lnA 11 σ (b + 4) = some (iN 100) := (if_pos (h.1 4 (by decide)).1).trans (congrArg (fun n => some (Int32.ofNat n)) (h.1 4 (by decide)).2)
theorem h_ld4 {n : Nat} (hn : n < 100) (h : HK b σ) : ldI 11 σ (b + 4) (iN n) = some (zi σ (b + 4) n) := ldI_n (h.1 4 (by decide)).1 (h.1 4 (by decide)).2 hn (by decide)
theorem h_st4 {n : Nat} {v : Int32} (hn : n < 100) (h : HK b σ) : stI σ (b + 4) (iN n) v = some (zsi σ (b + 4) n v) := stI_n (h.1 4 (by decide)).1 (h.1 4 (by decide)).2 hn (by decide)
theorem h_ln5 (h : HK b σ) : lnA 11 σ (b + 5) = some (iN 6) := (if_pos (h.1 5 (by decide)).1).trans (congrArg (fun n => some (Int32.ofNat n)) (h.1 5 (by decide)).2)
theorem h_ld5 {n : Nat} (hn : n < 6) (h : HK b σ) : ldI 11 σ (b + 5) (iN n) = some (zi σ (b + 5) n) := ldI_n (h.1 5 (by decide)).1 (h.1 5 (by decide)).2 hn (by decide)
theorem h_st5 {n : Nat} {v : Int32} (hn : n < 6) (h : HK b σ) : stI σ (b + 5) (iN n) v = some (zsi σ (b + 5) n v) := stI_n (h.1 5 (by decide)).1 (h.1 5 (by decide)).2 hn (by decide)
theorem h_ln6 (h : HK b σ) : lnA 11 σ (b + 6) = some (iN 4) := (if_pos (h.1 6 (by decide)).1).trans (congrArg (fun n => some (Int32.ofNat n)) (h.1 6 (by decide)).2)
theorem h_ld6 {n : Nat} (hn : n < 4) (h : HK b σ) : ldI 11 σ (b + 6) (iN n) = some (zi σ (b + 6) n) := ldI_n (h.1 6 (by decide)).1 (h.1 6 (by decide)).2 hn (by decide)
theorem h_st6 {n : Nat} {v : Int32} (hn : n < 4) (h : HK b σ) : stI σ (b + 6) (iN n) v = some (zsi σ (b + 6) n v) := stI_n (h.1 6 (by decide)).1 (h.1 6 (by decide)).2 hn (by decide)
theorem h_ln7 (h : HK b σ) : lnA 11 σ (b + 7) = some (iN 4) := (if_pos (h.1 7 (by decide)).1).trans (congrArg (fun n => some (Int32.ofNat n)) (h.1 7 (by decide)).2)
theorem h_ld7 {n : Nat} (hn : n < 4) (h : HK b σ) : ldI 11 σ (b + 7) (iN n) = some (zi σ (b + 7) n) := ldI_n (h.1 7 (by decide)).1 (h.1 7 (by decide)).2 hn (by decide)
theorem h_st7 {n : Nat} {v : Int32} (hn : n < 4) (h : HK b σ) : stI σ (b + 7) (iN n) v = some (zsi σ (b + 7) n v) := stI_n (h.1 7 (by decide)).1 (h.1 7 (by decide)).2 hn (by decide)
theorem h_ln8 (h : HK b σ) : lnA 11 σ (b + 8) = some (iN 3) := (if_pos (h.1 8 (by decide)).1).trans (congrArg (fun n => some (Int32.ofNat n)) (h.1 8 (by decide)).2)
theorem h_ld8 {n : Nat} (hn : n < 3) (h : HK b σ) : ldI 11 σ (b + 8) (iN n) = some (zi σ (b + 8) n) := ldI_n (h.1 8 (by decide)).1 (h.1 8 (by decide)).2 hn (by decide)
theorem h_st8 {n : Nat} {v : Int32} (hn : n < 3) (h : HK b σ) : stI σ (b + 8) (iN n) v = some (zsi σ (b + 8) n v) := stI_n (h.1 8 (by decide)).1 (h.1 8 (by decide)).2 hn (by decide)
theorem h_ln9 (h : HK b σ) : lnA 11 σ (b + 9) = some (iN 6) := (if_pos (h.1 9 (by decide)).1).trans (congrArg (fun n => some (Int32.ofNat n)) (h.1 9 (by decide)).2)
theorem h_ld9 {n : Nat} (hn : n < 6) (h : HK b σ) : ldI 11 σ (b + 9) (iN n) = some (zi σ (b + 9) n) := ldI_n (h.1 9 (by decide)).1 (h.1 9 (by decide)).2 hn (by decide)
theorem h_st9 {n : Nat} {v : Int32} (hn : n < 6) (h : HK b σ) : stI σ (b + 9) (iN n) v = some (zsi σ (b + 9) n v) := stI_n (h.1 9 (by decide)).1 (h.1 9 (by decide)).2 hn (by decide)
theorem h_ln10 (h : HK b σ) : lnA 11 σ (b + 10) = some (iN 6) := (if_pos (h.1 10 (by decide)).1).trans (congrArg (fun n => some (Int32.ofNat n)) (h.1 10 (by decide)).2)
theorem h_ld10 {n : Nat} (hn : n < 6) (h : HK b σ) : ldI 11 σ (b + 10) (iN n) = some (zi σ (b + 10) n) := ldI_n (h.1 10 (by decide)).1 (h.1 10 (by decide)).2 hn (by decide)
theorem h_st10 {n : Nat} {v : Int32} (hn : n < 6) (h : HK b σ) : stI σ (b + 10) (iN n) v = some (zsi σ (b + 10) n v) := stI_n (h.1 10 (by decide)).1 (h.1 10 (by decide)).2 hn (by decide)
theorem h_ln11 (h : HK b σ) : lnA 11 σ (b + 11) = some (iN 6) := (if_pos (h.1 11 (by decide)).1).trans (congrArg (fun n => some (Int32.ofNat n)) (h.1 11 (by decide)).2)
theorem h_ld11 {n : Nat} (hn : n < 6) (h : HK b σ) : ldI 11 σ (b + 11) (iN n) = some (zi σ (b + 11) n) := ldI_n (h.1 11 (by decide)).1 (h.1 11 (by decide)).2 hn (by decide)
theorem h_st11 {n : Nat} {v : Int32} (hn : n < 6) (h : HK b σ) : stI σ (b + 11) (iN n) v = some (zsi σ (b + 11) n v) := stI_n (h.1 11 (by decide)).1 (h.1 11 (by decide)).2 hn (by decide)
theorem h_ln12 (h : HK b σ) : lnA 11 σ (b + 12) = some (iN 6) := (if_pos (h.1 12 (by decide)).1).trans (congrArg (fun n => some (Int32.ofNat n)) (h.1 12 (by decide)).2)
theorem h_ld12 {n : Nat} (hn : n < 6) (h : HK b σ) : ldI 11 σ (b + 12) (iN n) = some (zi σ (b + 12) n) := ldI_n (h.1 12 (by decide)).1 (h.1 12 (by decide)).2 hn (by decide)
theorem h_st12 {n : Nat} {v : Int32} (hn : n < 6) (h : HK b σ) : stI σ (b + 12) (iN n) v = some (zsi σ (b + 12) n v) := stI_n (h.1 12 (by decide)).1 (h.1 12 (by decide)).2 hn (by decide)
theorem h_ln13 (h : HK b σ) : lnA 11 σ (b + 13) = some (iN 6) := (if_pos (h.1 13 (by decide)).1).trans (congrArg (fun n => some (Int32.ofNat n)) (h.1 13 (by decide)).2)
theorem h_ld13 {n : Nat} (hn : n < 6) (h : HK b σ) : ldI 11 σ (b + 13) (iN n) = some (zi σ (b + 13) n) := ldI_n (h.1 13 (by decide)).1 (h.1 13 (by decide)).2 hn (by decide)
theorem h_st13 {n : Nat} {v : Int32} (hn : n < 6) (h : HK b σ) : stI σ (b + 13) (iN n) v = some (zsi σ (b + 13) n v) := stI_n (h.1 13 (by decide)).1 (h.1 13 (by decide)).2 hn (by decide)
theorem h_ln14 (h : HK b σ) : lnA 11 σ (b + 14) = some (iN 3) := (if_pos (h.1 14 (by decide)).1).trans (congrArg (fun n => some (Int32.ofNat n)) (h.1 14 (by decide)).2)
theorem h_ld14 {n : Nat} (hn : n < 3) (h : HK b σ) : ldI 11 σ (b + 14) (iN n) = some (zi σ (b + 14) n) := ldI_n (h.1 14 (by decide)).1 (h.1 14 (by decide)).2 hn (by decide)
theorem h_st14 {n : Nat} {v : Int32} (hn : n < 3) (h : HK b σ) : stI σ (b + 14) (iN n) v = some (zsi σ (b + 14) n v) := stI_n (h.1 14 (by decide)).1 (h.1 14 (by decide)).2 hn (by decide)
theorem h_ln15 (h : HK b σ) : lnA 15 σ (b + 15) = some (iN 6) := (if_pos (h.1 15 (by decide)).1).trans (congrArg (fun n => some (Int32.ofNat n)) (h.1 15 (by decide)).2)
theorem h_ld15 {n : Nat} (hn : n < 6) (h : HK b σ) : ldR 15 σ (b + 15) (iN n) = some (zr σ (b + 15) n) := ldR_n (h.1 15 (by decide)).1 (h.1 15 (by decide)).2 hn (by decide)
theorem h_k15 (h : HK b σ) : zk σ (b + 15) = 15 := (h.1 15 (by decide)).1
theorem h_l15 (h : HK b σ) : zl σ (b + 15) = 6 := (h.1 15 (by decide)).2
theorem h_ck16 (h : HK b σ) : ck 5 σ (b + 16) = some () := ck_t (h.1 16 (by decide)).1
theorem h_i16 {k : Nat} (h : HK b σ) : rdI 5 σ (b + 16) k = some (zi σ (b + 16) k) := rdI_t (h.1 16 (by decide)).1
theorem h_w16 {k : Nat} {v : Int32} (h : HK b σ) : wrI 5 σ (b + 16) k v = some (zsi σ (b + 16) k v) := wrI_t (h.1 16 (by decide)).1
theorem h_r16_0 (h : HK b σ) : rdR 5 σ (b + 16) 0 = some (some (b + 17)) := (rdR_t (h.1 16 (by decide)).1).trans (congrArg some (h.2 (16, 0, 17) (by decide)))
theorem h_r16_1 (h : HK b σ) : rdR 5 σ (b + 16) 1 = some (some (b + 18)) := (rdR_t (h.1 16 (by decide)).1).trans (congrArg some (h.2 (16, 1, 18) (by decide)))
theorem h_ln17 (h : HK b σ) : lnA 11 σ (b + 17) = some (iN 18) := (if_pos (h.1 17 (by decide)).1).trans (congrArg (fun n => some (Int32.ofNat n)) (h.1 17 (by decide)).2)
theorem h_ld17 {n : Nat} (hn : n < 18) (h : HK b σ) : ldI 11 σ (b + 17) (iN n) = some (zi σ (b + 17) n) := ldI_n (h.1 17 (by decide)).1 (h.1 17 (by decide)).2 hn (by decide)
theorem h_st17 {n : Nat} {v : Int32} (hn : n < 18) (h : HK b σ) : stI σ (b + 17) (iN n) v = some (zsi σ (b + 17) n v) := stI_n (h.1 17 (by decide)).1 (h.1 17 (by decide)).2 hn (by decide)
theorem h_ln18 (h : HK b σ) : lnA 12 σ (b + 18) = some (iN 64) := (if_pos (h.1 18 (by decide)).1).trans (congrArg (fun n => some (Int32.ofNat n)) (h.1 18 (by decide)).2)
theorem h_ld18 {n : Nat} (hn : n < 64) (h : HK b σ) : ldJ σ (b + 18) (iN n) = some (zj σ (b + 18) n) := ldJ_n (h.1 18 (by decide)).1 (h.1 18 (by decide)).2 hn (by decide)
theorem h_st18 {n : Nat} {v : Int64} (hn : n < 64) (h : HK b σ) : stJ σ (b + 18) (iN n) v = some (zsj σ (b + 18) n v) := stJ_n (h.1 18 (by decide)).1 (h.1 18 (by decide)).2 hn (by decide)
end HKs
