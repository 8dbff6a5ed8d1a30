/-! ===== what the runs of pure functions are rewritten with ===== -/
section EX
variable {σ : Hp} {a b k j : Nat}
theorem zi_hit {v : Int32} : zi (zsi σ a k v) a k = v := if_pos ⟨rfl, rfl⟩
theorem zi_miss {v : Int32} (h : j ≠ k) : zi (zsi σ a k v) a j = zi σ a j := if_neg (fun e => h e.2)
theorem zj_hit {v : Int64} : zj (zsj σ a k v) a k = v := if_pos ⟨rfl, rfl⟩
theorem zj_miss {v : Int64} (h : j ≠ k) : zj (zsj σ a k v) a j = zj σ a j := if_neg (fun e => h e.2)
theorem bind_ok {α β : Type} (a : α) (f : α → Option β) : (Option.some a).bind f = f a := rfl
theorem rw_0 (h : SK σ) : ldI 11 σ 127 0 = some (zi σ 127 0) := q_ld127 (n := 0) (by decide) h
theorem rs_0 {v : Int32} (h : SK σ) : stI σ 127 0 v = some (zsi σ 127 0 v) := q_st127 (n := 0) (by decide) h
theorem rw_1 (h : SK σ) : ldI 11 σ 127 1 = some (zi σ 127 1) := q_ld127 (n := 1) (by decide) h
theorem rs_1 {v : Int32} (h : SK σ) : stI σ 127 1 v = some (zsi σ 127 1 v) := q_st127 (n := 1) (by decide) h
theorem rw_2 (h : SK σ) : ldI 11 σ 127 2 = some (zi σ 127 2) := q_ld127 (n := 2) (by decide) h
theorem rs_2 {v : Int32} (h : SK σ) : stI σ 127 2 v = some (zsi σ 127 2 v) := q_st127 (n := 2) (by decide) h
theorem rw_3 (h : SK σ) : ldI 11 σ 127 3 = some (zi σ 127 3) := q_ld127 (n := 3) (by decide) h
theorem rs_3 {v : Int32} (h : SK σ) : stI σ 127 3 v = some (zsi σ 127 3 v) := q_st127 (n := 3) (by decide) h
theorem rw_4 (h : SK σ) : ldI 11 σ 127 4 = some (zi σ 127 4) := q_ld127 (n := 4) (by decide) h
theorem rs_4 {v : Int32} (h : SK σ) : stI σ 127 4 v = some (zsi σ 127 4 v) := q_st127 (n := 4) (by decide) h
theorem rw_5 (h : SK σ) : ldI 11 σ 127 5 = some (zi σ 127 5) := q_ld127 (n := 5) (by decide) h
theorem rs_5 {v : Int32} (h : SK σ) : stI σ 127 5 v = some (zsi σ 127 5 v) := q_st127 (n := 5) (by decide) h
theorem rw_6 (h : SK σ) : ldI 11 σ 127 6 = some (zi σ 127 6) := q_ld127 (n := 6) (by decide) h
theorem rs_6 {v : Int32} (h : SK σ) : stI σ 127 6 v = some (zsi σ 127 6 v) := q_st127 (n := 6) (by decide) h
theorem rw_7 (h : SK σ) : ldI 11 σ 127 7 = some (zi σ 127 7) := q_ld127 (n := 7) (by decide) h
theorem rs_7 {v : Int32} (h : SK σ) : stI σ 127 7 v = some (zsi σ 127 7 v) := q_st127 (n := 7) (by decide) h
theorem rw_8 (h : SK σ) : ldI 11 σ 127 8 = some (zi σ 127 8) := q_ld127 (n := 8) (by decide) h
theorem rs_8 {v : Int32} (h : SK σ) : stI σ 127 8 v = some (zsi σ 127 8 v) := q_st127 (n := 8) (by decide) h
theorem rw_9 (h : SK σ) : ldI 11 σ 127 9 = some (zi σ 127 9) := q_ld127 (n := 9) (by decide) h
theorem rs_9 {v : Int32} (h : SK σ) : stI σ 127 9 v = some (zsi σ 127 9 v) := q_st127 (n := 9) (by decide) h
theorem rw_10 (h : SK σ) : ldI 11 σ 127 10 = some (zi σ 127 10) := q_ld127 (n := 10) (by decide) h
theorem rs_10 {v : Int32} (h : SK σ) : stI σ 127 10 v = some (zsi σ 127 10 v) := q_st127 (n := 10) (by decide) h
theorem ht_0 (h : HK b σ) : ldI 11 σ (b + 14) 0 = some (zi σ (b + 14) 0) := h_ld14 (n := 0) (by decide) h
theorem hs_0 {v : Int32} (h : HK b σ) : stI σ (b + 14) 0 v = some (zsi σ (b + 14) 0 v) := h_st14 (n := 0) (by decide) h
theorem ht_1 (h : HK b σ) : ldI 11 σ (b + 14) 1 = some (zi σ (b + 14) 1) := h_ld14 (n := 1) (by decide) h
theorem hs_1 {v : Int32} (h : HK b σ) : stI σ (b + 14) 1 v = some (zsi σ (b + 14) 1 v) := h_st14 (n := 1) (by decide) h
theorem ht_2 (h : HK b σ) : ldI 11 σ (b + 14) 2 = some (zi σ (b + 14) 2) := h_ld14 (n := 2) (by decide) h
theorem hs_2 {v : Int32} (h : HK b σ) : stI σ (b + 14) 2 v = some (zsi σ (b + 14) 2 v) := h_st14 (n := 2) (by decide) h
end EX
