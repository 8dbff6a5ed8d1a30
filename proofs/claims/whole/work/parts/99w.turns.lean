/-! ===== a turn of the law, all turns ===== -/
section TRN
variable {σ : Hp} {c a1 a2 a3 a4 a5 : Int32}
theorem so_t {c : Prop} [Decidable c] {a b : Prop} (hc : c) (h : a) : if c then a else b := by
  rw [if_pos hc]
  exact h
theorem so_f {c : Prop} [Decidable c] {a b : Prop} (hc : ¬ c) (h : b) : if c then a else b := by
  rw [if_neg hc]
  exact h
set_option maxRecDepth 100000 in
theorem one_turn (hr : Rel σ) : ∃ σ2, SO c a1 a2 a3 a4 a5 σ σ2 ∧ Rel σ2 := by
  unfold SO
  by_cases c0 : c = 0
  · obtain ⟨r, σ1, σ2, h1, h2, h3, h4⟩ := b_perch (p1 := a1) (p2 := a2) hr
    exact ⟨σ2, so_t c0 ⟨r, σ1, h1, h2, h3⟩, h4⟩
  by_cases c1 : c = 1
  · obtain ⟨r, σ1, σ2, h1, h2, h3, h4⟩ := b_at (p1 := a1) (p2 := a2) hr
    exact ⟨σ2, so_f c0 (so_t c1 ⟨r, σ1, h1, h2, h3⟩), h4⟩
  by_cases c2 : c = 2
  · obtain ⟨r, σ1, σ2, h1, h2, h3, h4⟩ := b_folk (p1 := a1) (p2 := a2) hr
    exact ⟨σ2, so_f c0 (so_f c1 (so_t c2 ⟨r, σ1, h1, h2, h3⟩)), h4⟩
  by_cases c3 : c = 3
  · obtain ⟨r, σ1, σ2, h1, h2, h3, h4⟩ := b_of (p1 := a1) (p2 := a2) hr
    exact ⟨σ2, so_f c0 (so_f c1 (so_f c2 (so_t c3 ⟨r, σ1, h1, h2, h3⟩))), h4⟩
  by_cases c4 : c = 4
  · obtain ⟨r, σ1, σ2, h1, h2, h3, h4⟩ := b_badger (p1 := a1) hr
    exact ⟨σ2, so_f c0 (so_f c1 (so_f c2 (so_f c3 (so_t c4 ⟨r, σ1, h1, h2, h3⟩)))), h4⟩
  by_cases c5 : c = 5
  · obtain ⟨r, σ1, σ2, h1, h2, h3, h4⟩ := b_sow (p1 := a1) (p2 := a2) hr
    exact ⟨σ2, so_f c0 (so_f c1 (so_f c2 (so_f c3 (so_f c4 (so_t c5 ⟨r, σ1, h1, h2, h3⟩))))), h4⟩
  by_cases c6 : c = 6
  · obtain ⟨r, σ1, σ2, h1, h2, h3, h4⟩ := b_thing (p1 := a1) (p2 := a2) (p3 := a3) hr
    exact ⟨σ2, so_f c0 (so_f c1 (so_f c2 (so_f c3 (so_f c4 (so_f c5 (so_t c6 ⟨r, σ1, h1, h2, h3⟩)))))), h4⟩
  by_cases c7 : c = 7
  · obtain ⟨r, σ1, σ2, h1, h2, h3, h4⟩ := b_has (p1 := a1) (p2 := a2) hr
    exact ⟨σ2, so_f c0 (so_f c1 (so_f c2 (so_f c3 (so_f c4 (so_f c5 (so_f c6 (so_t c7 ⟨r, σ1, h1, h2, h3⟩))))))), h4⟩
  by_cases c8 : c = 8
  · obtain ⟨r, σ1, σ2, h1, h2, h3, h4⟩ := b_link (p1 := a1) (p2 := a2) (p3 := a3) hr
    exact ⟨σ2, so_f c0 (so_f c1 (so_f c2 (so_f c3 (so_f c4 (so_f c5 (so_f c6 (so_f c7 (so_t c8 ⟨r, σ1, h1, h2, h3⟩)))))))), h4⟩
  by_cases c9 : c = 9
  · obtain ⟨r, σ1, σ2, h1, h2, h3, h4⟩ := b_room (p1 := a1) (p2 := a2) hr
    exact ⟨σ2, so_f c0 (so_f c1 (so_f c2 (so_f c3 (so_f c4 (so_f c5 (so_f c6 (so_f c7 (so_f c8 (so_t c9 ⟨r, σ1, h1, h2, h3⟩))))))))), h4⟩
  by_cases c10 : c = 10
  · obtain ⟨r, σ1, σ2, h1, h2, h3, h4⟩ := b_can (p1 := a1) (p2 := a2) hr
    exact ⟨σ2, so_f c0 (so_f c1 (so_f c2 (so_f c3 (so_f c4 (so_f c5 (so_f c6 (so_f c7 (so_f c8 (so_f c9 (so_t c10 ⟨r, σ1, h1, h2, h3⟩)))))))))), h4⟩
  by_cases c11 : c = 11
  · obtain ⟨r, σ1, σ2, h1, h2, h3, h4⟩ := b_terms (p1 := a1) (p2 := a2) hr
    exact ⟨σ2, so_f c0 (so_f c1 (so_f c2 (so_f c3 (so_f c4 (so_f c5 (so_f c6 (so_f c7 (so_f c8 (so_f c9 (so_f c10 (so_t c11 ⟨r, σ1, h1, h2, h3⟩))))))))))), h4⟩
  by_cases c12 : c = 12
  · obtain ⟨r, σ1, σ2, h1, h2, h3, h4⟩ := b_feed (p1 := a1) (p2 := a2) (p3 := a3) (p4 := a4) (p5 := a5) hr
    exact ⟨σ2, so_f c0 (so_f c1 (so_f c2 (so_f c3 (so_f c4 (so_f c5 (so_f c6 (so_f c7 (so_f c8 (so_f c9 (so_f c10 (so_f c11 (so_t c12 ⟨r, σ1, h1, h2, h3⟩)))))))))))), h4⟩
  by_cases c13 : c = 13
  · obtain ⟨r, σ1, σ2, h1, h2, h3, h4⟩ := b_end (p1 := a1) hr
    exact ⟨σ2, so_f c0 (so_f c1 (so_f c2 (so_f c3 (so_f c4 (so_f c5 (so_f c6 (so_f c7 (so_f c8 (so_f c9 (so_f c10 (so_f c11 (so_f c12 (so_t c13 ⟨r, σ1, h1, h2, h3⟩))))))))))))), h4⟩
  by_cases c14 : c = 14
  · obtain ⟨r, σ1, σ2, h1, h2, h3, h4⟩ := b_row  hr
    exact ⟨σ2, so_f c0 (so_f c1 (so_f c2 (so_f c3 (so_f c4 (so_f c5 (so_f c6 (so_f c7 (so_f c8 (so_f c9 (so_f c10 (so_f c11 (so_f c12 (so_f c13 (so_t c14 ⟨r, σ1, h1, h2, h3⟩)))))))))))))), h4⟩
  by_cases c15 : c = 15
  · obtain ⟨r, σ1, σ2, h1, h2, h3, h4⟩ := b_scratches  hr
    exact ⟨σ2, so_f c0 (so_f c1 (so_f c2 (so_f c3 (so_f c4 (so_f c5 (so_f c6 (so_f c7 (so_f c8 (so_f c9 (so_f c10 (so_f c11 (so_f c12 (so_f c13 (so_f c14 (so_t c15 ⟨r, σ1, h1, h2, h3⟩))))))))))))))), h4⟩
  by_cases c16 : c = 16
  · obtain ⟨r, σ1, σ2, h1, h2, h3, h4⟩ := b_law  hr
    exact ⟨σ2, so_f c0 (so_f c1 (so_f c2 (so_f c3 (so_f c4 (so_f c5 (so_f c6 (so_f c7 (so_f c8 (so_f c9 (so_f c10 (so_f c11 (so_f c12 (so_f c13 (so_f c14 (so_f c15 (so_t c16 ⟨r, σ1, h1, h2, h3⟩)))))))))))))))), h4⟩
  by_cases c17 : c = 17
  · obtain ⟨r, σ1, σ2, h1, h2, h3, h4⟩ := b_orders  hr
    exact ⟨σ2, so_f c0 (so_f c1 (so_f c2 (so_f c3 (so_f c4 (so_f c5 (so_f c6 (so_f c7 (so_f c8 (so_f c9 (so_f c10 (so_f c11 (so_f c12 (so_f c13 (so_f c14 (so_f c15 (so_f c16 (so_t c17 ⟨r, σ1, h1, h2, h3⟩))))))))))))))))), h4⟩
  by_cases c18 : c = 18
  · obtain ⟨r, σ1, σ2, h1, h2, h3, h4⟩ := b_fault  hr
    exact ⟨σ2, so_f c0 (so_f c1 (so_f c2 (so_f c3 (so_f c4 (so_f c5 (so_f c6 (so_f c7 (so_f c8 (so_f c9 (so_f c10 (so_f c11 (so_f c12 (so_f c13 (so_f c14 (so_f c15 (so_f c16 (so_f c17 (so_t c18 ⟨r, σ1, h1, h2, h3⟩)))))))))))))))))), h4⟩
  by_cases c19 : c = 19
  · obtain ⟨r, σ1, σ2, h1, h2, h3, h4⟩ := b_stopped  hr
    exact ⟨σ2, so_f c0 (so_f c1 (so_f c2 (so_f c3 (so_f c4 (so_f c5 (so_f c6 (so_f c7 (so_f c8 (so_f c9 (so_f c10 (so_f c11 (so_f c12 (so_f c13 (so_f c14 (so_f c15 (so_f c16 (so_f c17 (so_f c18 (so_t c19 ⟨r, σ1, h1, h2, h3⟩))))))))))))))))))), h4⟩
  by_cases c20 : c = 20
  · obtain ⟨r, σ1, σ2, h1, h2, h3, h4⟩ := b_force (p1 := a1) hr
    exact ⟨σ2, so_f c0 (so_f c1 (so_f c2 (so_f c3 (so_f c4 (so_f c5 (so_f c6 (so_f c7 (so_f c8 (so_f c9 (so_f c10 (so_f c11 (so_f c12 (so_f c13 (so_f c14 (so_f c15 (so_f c16 (so_f c17 (so_f c18 (so_f c19 (so_t c20 ⟨r, σ1, h1, h2, h3⟩)))))))))))))))))))), h4⟩
  by_cases c21 : c = 21
  · obtain ⟨r, σ1, σ2, h1, h2, h3, h4⟩ := b_stride (p1 := a1) (p2 := a2) hr
    exact ⟨σ2, so_f c0 (so_f c1 (so_f c2 (so_f c3 (so_f c4 (so_f c5 (so_f c6 (so_f c7 (so_f c8 (so_f c9 (so_f c10 (so_f c11 (so_f c12 (so_f c13 (so_f c14 (so_f c15 (so_f c16 (so_f c17 (so_f c18 (so_f c19 (so_f c20 (so_t c21 ⟨r, σ1, h1, h2, h3⟩))))))))))))))))))))), h4⟩
  by_cases c22 : c = 22
  · obtain ⟨r, σ1, σ2, h1, h2, h3, h4⟩ := b_put (p1 := a1) (p2 := a2) hr
    exact ⟨σ2, so_f c0 (so_f c1 (so_f c2 (so_f c3 (so_f c4 (so_f c5 (so_f c6 (so_f c7 (so_f c8 (so_f c9 (so_f c10 (so_f c11 (so_f c12 (so_f c13 (so_f c14 (so_f c15 (so_f c16 (so_f c17 (so_f c18 (so_f c19 (so_f c20 (so_f c21 (so_t c22 ⟨r, σ1, h1, h2, h3⟩)))))))))))))))))))))), h4⟩
  by_cases c23 : c = 23
  · obtain ⟨r, σ1, σ2, h1, h2, h3, h4⟩ := b_door (p1 := a1) (p2 := a2) hr
    exact ⟨σ2, so_f c0 (so_f c1 (so_f c2 (so_f c3 (so_f c4 (so_f c5 (so_f c6 (so_f c7 (so_f c8 (so_f c9 (so_f c10 (so_f c11 (so_f c12 (so_f c13 (so_f c14 (so_f c15 (so_f c16 (so_f c17 (so_f c18 (so_f c19 (so_f c20 (so_f c21 (so_f c22 (so_t c23 ⟨r, σ1, h1, h2, h3⟩))))))))))))))))))))))), h4⟩
  by_cases c24 : c = 24
  · obtain ⟨r, σ1, σ2, h1, h2, h3, h4⟩ := b_pass  hr
    exact ⟨σ2, so_f c0 (so_f c1 (so_f c2 (so_f c3 (so_f c4 (so_f c5 (so_f c6 (so_f c7 (so_f c8 (so_f c9 (so_f c10 (so_f c11 (so_f c12 (so_f c13 (so_f c14 (so_f c15 (so_f c16 (so_f c17 (so_f c18 (so_f c19 (so_f c20 (so_f c21 (so_f c22 (so_f c23 (so_t c24 ⟨r, σ1, h1, h2, h3⟩)))))))))))))))))))))))), h4⟩
  by_cases c25 : c = 25
  · obtain ⟨r, σ1, σ2, h1, h2, h3, h4⟩ := b_undo  hr
    exact ⟨σ2, so_f c0 (so_f c1 (so_f c2 (so_f c3 (so_f c4 (so_f c5 (so_f c6 (so_f c7 (so_f c8 (so_f c9 (so_f c10 (so_f c11 (so_f c12 (so_f c13 (so_f c14 (so_f c15 (so_f c16 (so_f c17 (so_f c18 (so_f c19 (so_f c20 (so_f c21 (so_f c22 (so_f c23 (so_f c24 (so_t c25 ⟨r, σ1, h1, h2, h3⟩))))))))))))))))))))))))), h4⟩
  by_cases c26 : c = 26
  · obtain ⟨r, σ1, σ2, h1, h2, h3, h4⟩ := b_soonest (p1 := a1) (p2 := a2) (p3 := a3) hr
    exact ⟨σ2, so_f c0 (so_f c1 (so_f c2 (so_f c3 (so_f c4 (so_f c5 (so_f c6 (so_f c7 (so_f c8 (so_f c9 (so_f c10 (so_f c11 (so_f c12 (so_f c13 (so_f c14 (so_f c15 (so_f c16 (so_f c17 (so_f c18 (so_f c19 (so_f c20 (so_f c21 (so_f c22 (so_f c23 (so_f c24 (so_f c25 (so_t c26 ⟨r, σ1, h1, h2, h3⟩)))))))))))))))))))))))))), h4⟩
  by_cases c27 : c = 27
  · obtain ⟨r, σ1, σ2, h1, h2, h3, h4⟩ := b_near (p1 := a1) (p2 := a2) hr
    exact ⟨σ2, so_f c0 (so_f c1 (so_f c2 (so_f c3 (so_f c4 (so_f c5 (so_f c6 (so_f c7 (so_f c8 (so_f c9 (so_f c10 (so_f c11 (so_f c12 (so_f c13 (so_f c14 (so_f c15 (so_f c16 (so_f c17 (so_f c18 (so_f c19 (so_f c20 (so_f c21 (so_f c22 (so_f c23 (so_f c24 (so_f c25 (so_f c26 (so_t c27 ⟨r, σ1, h1, h2, h3⟩))))))))))))))))))))))))))), h4⟩
  by_cases c28 : c = 28
  · obtain ⟨r, σ1, σ2, h1, h2, h3, h4⟩ := b_cut (p1 := a1) (p2 := a2) (p3 := a3) hr
    exact ⟨σ2, so_f c0 (so_f c1 (so_f c2 (so_f c3 (so_f c4 (so_f c5 (so_f c6 (so_f c7 (so_f c8 (so_f c9 (so_f c10 (so_f c11 (so_f c12 (so_f c13 (so_f c14 (so_f c15 (so_f c16 (so_f c17 (so_f c18 (so_f c19 (so_f c20 (so_f c21 (so_f c22 (so_f c23 (so_f c24 (so_f c25 (so_f c26 (so_f c27 (so_t c28 ⟨r, σ1, h1, h2, h3⟩)))))))))))))))))))))))))))), h4⟩
  by_cases c29 : c = 29
  · obtain ⟨r, σ1, σ2, h1, h2, h3, h4⟩ := b_roost (p1 := a1) hr
    exact ⟨σ2, so_f c0 (so_f c1 (so_f c2 (so_f c3 (so_f c4 (so_f c5 (so_f c6 (so_f c7 (so_f c8 (so_f c9 (so_f c10 (so_f c11 (so_f c12 (so_f c13 (so_f c14 (so_f c15 (so_f c16 (so_f c17 (so_f c18 (so_f c19 (so_f c20 (so_f c21 (so_f c22 (so_f c23 (so_f c24 (so_f c25 (so_f c26 (so_f c27 (so_f c28 (so_t c29 ⟨r, σ1, h1, h2, h3⟩))))))))))))))))))))))))))))), h4⟩
  by_cases c30 : c = 30
  · obtain ⟨r, σ1, σ2, h1, h2, h3, h4⟩ := b_where (p1 := a1) (p2 := a2) hr
    exact ⟨σ2, so_f c0 (so_f c1 (so_f c2 (so_f c3 (so_f c4 (so_f c5 (so_f c6 (so_f c7 (so_f c8 (so_f c9 (so_f c10 (so_f c11 (so_f c12 (so_f c13 (so_f c14 (so_f c15 (so_f c16 (so_f c17 (so_f c18 (so_f c19 (so_f c20 (so_f c21 (so_f c22 (so_f c23 (so_f c24 (so_f c25 (so_f c26 (so_f c27 (so_f c28 (so_f c29 (so_t c30 ⟨r, σ1, h1, h2, h3⟩)))))))))))))))))))))))))))))), h4⟩
  by_cases c31 : c = 31
  · obtain ⟨r, σ1, σ2, h1, h2, h3, h4⟩ := b_meeting (p1 := a1) (p2 := a2) hr
    exact ⟨σ2, so_f c0 (so_f c1 (so_f c2 (so_f c3 (so_f c4 (so_f c5 (so_f c6 (so_f c7 (so_f c8 (so_f c9 (so_f c10 (so_f c11 (so_f c12 (so_f c13 (so_f c14 (so_f c15 (so_f c16 (so_f c17 (so_f c18 (so_f c19 (so_f c20 (so_f c21 (so_f c22 (so_f c23 (so_f c24 (so_f c25 (so_f c26 (so_f c27 (so_f c28 (so_f c29 (so_f c30 (so_t c31 ⟨r, σ1, h1, h2, h3⟩))))))))))))))))))))))))))))))), h4⟩
  by_cases c32 : c = 32
  · obtain ⟨r, σ1, σ2, h1, h2, h3, h4⟩ := b_free (p1 := a1) hr
    exact ⟨σ2, so_f c0 (so_f c1 (so_f c2 (so_f c3 (so_f c4 (so_f c5 (so_f c6 (so_f c7 (so_f c8 (so_f c9 (so_f c10 (so_f c11 (so_f c12 (so_f c13 (so_f c14 (so_f c15 (so_f c16 (so_f c17 (so_f c18 (so_f c19 (so_f c20 (so_f c21 (so_f c22 (so_f c23 (so_f c24 (so_f c25 (so_f c26 (so_f c27 (so_f c28 (so_f c29 (so_f c30 (so_f c31 (so_t c32 ⟨r, σ1, h1, h2, h3⟩)))))))))))))))))))))))))))))))), h4⟩
  by_cases c33 : c = 33
  · obtain ⟨r, σ1, σ2, h1, h2, h3, h4⟩ := b_shares (p := a1) hr
    exact ⟨σ2, so_f c0 (so_f c1 (so_f c2 (so_f c3 (so_f c4 (so_f c5 (so_f c6 (so_f c7 (so_f c8 (so_f c9 (so_f c10 (so_f c11 (so_f c12 (so_f c13 (so_f c14 (so_f c15 (so_f c16 (so_f c17 (so_f c18 (so_f c19 (so_f c20 (so_f c21 (so_f c22 (so_f c23 (so_f c24 (so_f c25 (so_f c26 (so_f c27 (so_f c28 (so_f c29 (so_f c30 (so_f c31 (so_f c32 (so_t c33 ⟨r, σ1, h1, h2, h3⟩))))))))))))))))))))))))))))))))), h4⟩
  by_cases c34 : c = 34
  · obtain ⟨r, σ1, σ2, h1, h2, h3, h4⟩ := b_low (p1 := a1) hr
    exact ⟨σ2, so_f c0 (so_f c1 (so_f c2 (so_f c3 (so_f c4 (so_f c5 (so_f c6 (so_f c7 (so_f c8 (so_f c9 (so_f c10 (so_f c11 (so_f c12 (so_f c13 (so_f c14 (so_f c15 (so_f c16 (so_f c17 (so_f c18 (so_f c19 (so_f c20 (so_f c21 (so_f c22 (so_f c23 (so_f c24 (so_f c25 (so_f c26 (so_f c27 (so_f c28 (so_f c29 (so_f c30 (so_f c31 (so_f c32 (so_f c33 (so_t c34 ⟨r, σ1, h1, h2, h3⟩)))))))))))))))))))))))))))))))))), h4⟩
  by_cases c35 : c = 35
  · obtain ⟨r, σ1, σ2, h1, h2, h3, h4⟩ := b_seen (p1 := a1) (p2 := a2) hr
    exact ⟨σ2, so_f c0 (so_f c1 (so_f c2 (so_f c3 (so_f c4 (so_f c5 (so_f c6 (so_f c7 (so_f c8 (so_f c9 (so_f c10 (so_f c11 (so_f c12 (so_f c13 (so_f c14 (so_f c15 (so_f c16 (so_f c17 (so_f c18 (so_f c19 (so_f c20 (so_f c21 (so_f c22 (so_f c23 (so_f c24 (so_f c25 (so_f c26 (so_f c27 (so_f c28 (so_f c29 (so_f c30 (so_f c31 (so_f c32 (so_f c33 (so_f c34 (so_t c35 ⟨r, σ1, h1, h2, h3⟩))))))))))))))))))))))))))))))))))), h4⟩
  by_cases c36 : c = 36
  · obtain ⟨r, σ1, σ2, h1, h2, h3, h4⟩ := b_forget  hr
    exact ⟨σ2, so_f c0 (so_f c1 (so_f c2 (so_f c3 (so_f c4 (so_f c5 (so_f c6 (so_f c7 (so_f c8 (so_f c9 (so_f c10 (so_f c11 (so_f c12 (so_f c13 (so_f c14 (so_f c15 (so_f c16 (so_f c17 (so_f c18 (so_f c19 (so_f c20 (so_f c21 (so_f c22 (so_f c23 (so_f c24 (so_f c25 (so_f c26 (so_f c27 (so_f c28 (so_f c29 (so_f c30 (so_f c31 (so_f c32 (so_f c33 (so_f c34 (so_f c35 (so_t c36 ⟨r, σ1, h1, h2, h3⟩)))))))))))))))))))))))))))))))))))), h4⟩
  by_cases c37 : c = 37
  · obtain ⟨r, σ1, σ2, h1, h2, h3, h4⟩ := b_canBe  hr
    exact ⟨σ2, so_f c0 (so_f c1 (so_f c2 (so_f c3 (so_f c4 (so_f c5 (so_f c6 (so_f c7 (so_f c8 (so_f c9 (so_f c10 (so_f c11 (so_f c12 (so_f c13 (so_f c14 (so_f c15 (so_f c16 (so_f c17 (so_f c18 (so_f c19 (so_f c20 (so_f c21 (so_f c22 (so_f c23 (so_f c24 (so_f c25 (so_f c26 (so_f c27 (so_f c28 (so_f c29 (so_f c30 (so_f c31 (so_f c32 (so_f c33 (so_f c34 (so_f c35 (so_f c36 (so_t c37 ⟨r, σ1, h1, h2, h3⟩))))))))))))))))))))))))))))))))))))), h4⟩
  by_cases c38 : c = 38
  · obtain ⟨r, σ1, σ2, h1, h2, h3, h4⟩ := b_look (p := a1) hr
    exact ⟨σ2, so_f c0 (so_f c1 (so_f c2 (so_f c3 (so_f c4 (so_f c5 (so_f c6 (so_f c7 (so_f c8 (so_f c9 (so_f c10 (so_f c11 (so_f c12 (so_f c13 (so_f c14 (so_f c15 (so_f c16 (so_f c17 (so_f c18 (so_f c19 (so_f c20 (so_f c21 (so_f c22 (so_f c23 (so_f c24 (so_f c25 (so_f c26 (so_f c27 (so_f c28 (so_f c29 (so_f c30 (so_f c31 (so_f c32 (so_f c33 (so_f c34 (so_f c35 (so_f c36 (so_f c37 (so_t c38 ⟨r, σ1, h1, h2, h3⟩)))))))))))))))))))))))))))))))))))))), h4⟩
  by_cases c39 : c = 39
  · obtain ⟨r, σ1, σ2, h1, h2, h3, h4⟩ := b_few (p1 := a1) (p2 := a2) hr
    exact ⟨σ2, so_f c0 (so_f c1 (so_f c2 (so_f c3 (so_f c4 (so_f c5 (so_f c6 (so_f c7 (so_f c8 (so_f c9 (so_f c10 (so_f c11 (so_f c12 (so_f c13 (so_f c14 (so_f c15 (so_f c16 (so_f c17 (so_f c18 (so_f c19 (so_f c20 (so_f c21 (so_f c22 (so_f c23 (so_f c24 (so_f c25 (so_f c26 (so_f c27 (so_f c28 (so_f c29 (so_f c30 (so_f c31 (so_f c32 (so_f c33 (so_f c34 (so_f c35 (so_f c36 (so_f c37 (so_f c38 (so_t c39 ⟨r, σ1, h1, h2, h3⟩))))))))))))))))))))))))))))))))))))))), h4⟩
  by_cases c40 : c = 40
  · obtain ⟨r, σ1, σ2, h1, h2, h3, h4⟩ := b_compare (p1 := a1) (p2 := a2) hr
    exact ⟨σ2, so_f c0 (so_f c1 (so_f c2 (so_f c3 (so_f c4 (so_f c5 (so_f c6 (so_f c7 (so_f c8 (so_f c9 (so_f c10 (so_f c11 (so_f c12 (so_f c13 (so_f c14 (so_f c15 (so_f c16 (so_f c17 (so_f c18 (so_f c19 (so_f c20 (so_f c21 (so_f c22 (so_f c23 (so_f c24 (so_f c25 (so_f c26 (so_f c27 (so_f c28 (so_f c29 (so_f c30 (so_f c31 (so_f c32 (so_f c33 (so_f c34 (so_f c35 (so_f c36 (so_f c37 (so_f c38 (so_f c39 (so_t c40 ⟨r, σ1, h1, h2, h3⟩)))))))))))))))))))))))))))))))))))))))), h4⟩
  by_cases c41 : c = 41
  · obtain ⟨r, σ1, σ2, h1, h2, h3, h4⟩ := b_dusks (p1 := a1) (p2 := a2) hr
    exact ⟨σ2, so_f c0 (so_f c1 (so_f c2 (so_f c3 (so_f c4 (so_f c5 (so_f c6 (so_f c7 (so_f c8 (so_f c9 (so_f c10 (so_f c11 (so_f c12 (so_f c13 (so_f c14 (so_f c15 (so_f c16 (so_f c17 (so_f c18 (so_f c19 (so_f c20 (so_f c21 (so_f c22 (so_f c23 (so_f c24 (so_f c25 (so_f c26 (so_f c27 (so_f c28 (so_f c29 (so_f c30 (so_f c31 (so_f c32 (so_f c33 (so_f c34 (so_f c35 (so_f c36 (so_f c37 (so_f c38 (so_f c39 (so_f c40 (so_t c41 ⟨r, σ1, h1, h2, h3⟩))))))))))))))))))))))))))))))))))))))))), h4⟩
  by_cases c42 : c = 42
  · obtain ⟨r, σ1, σ2, h1, h2, h3, h4⟩ := b_drawn (p1 := a1) (p2 := a2) hr
    exact ⟨σ2, so_f c0 (so_f c1 (so_f c2 (so_f c3 (so_f c4 (so_f c5 (so_f c6 (so_f c7 (so_f c8 (so_f c9 (so_f c10 (so_f c11 (so_f c12 (so_f c13 (so_f c14 (so_f c15 (so_f c16 (so_f c17 (so_f c18 (so_f c19 (so_f c20 (so_f c21 (so_f c22 (so_f c23 (so_f c24 (so_f c25 (so_f c26 (so_f c27 (so_f c28 (so_f c29 (so_f c30 (so_f c31 (so_f c32 (so_f c33 (so_f c34 (so_f c35 (so_f c36 (so_f c37 (so_f c38 (so_f c39 (so_f c40 (so_f c41 (so_t c42 ⟨r, σ1, h1, h2, h3⟩)))))))))))))))))))))))))))))))))))))))))), h4⟩
  by_cases c43 : c = 43
  · obtain ⟨r, σ1, σ2, h1, h2, h3, h4⟩ := b_image (p := a1) hr
    exact ⟨σ2, so_f c0 (so_f c1 (so_f c2 (so_f c3 (so_f c4 (so_f c5 (so_f c6 (so_f c7 (so_f c8 (so_f c9 (so_f c10 (so_f c11 (so_f c12 (so_f c13 (so_f c14 (so_f c15 (so_f c16 (so_f c17 (so_f c18 (so_f c19 (so_f c20 (so_f c21 (so_f c22 (so_f c23 (so_f c24 (so_f c25 (so_f c26 (so_f c27 (so_f c28 (so_f c29 (so_f c30 (so_f c31 (so_f c32 (so_f c33 (so_f c34 (so_f c35 (so_f c36 (so_f c37 (so_f c38 (so_f c39 (so_f c40 (so_f c41 (so_f c42 (so_t c43 ⟨r, σ1, h1, h2, h3⟩))))))))))))))))))))))))))))))))))))))))))), h4⟩
  by_cases c44 : c = 44
  · obtain ⟨r, σ1, σ2, h1, h2, h3, h4⟩ := b_back (p := a1) hr
    exact ⟨σ2, so_f c0 (so_f c1 (so_f c2 (so_f c3 (so_f c4 (so_f c5 (so_f c6 (so_f c7 (so_f c8 (so_f c9 (so_f c10 (so_f c11 (so_f c12 (so_f c13 (so_f c14 (so_f c15 (so_f c16 (so_f c17 (so_f c18 (so_f c19 (so_f c20 (so_f c21 (so_f c22 (so_f c23 (so_f c24 (so_f c25 (so_f c26 (so_f c27 (so_f c28 (so_f c29 (so_f c30 (so_f c31 (so_f c32 (so_f c33 (so_f c34 (so_f c35 (so_f c36 (so_f c37 (so_f c38 (so_f c39 (so_f c40 (so_f c41 (so_f c42 (so_f c43 (so_t c44 ⟨r, σ1, h1, h2, h3⟩)))))))))))))))))))))))))))))))))))))))))))), h4⟩
  by_cases c45 : c = 45
  · obtain ⟨r, σ1, σ2, h1, h2, h3, h4⟩ := b_count (p1 := a1) hr
    exact ⟨σ2, so_f c0 (so_f c1 (so_f c2 (so_f c3 (so_f c4 (so_f c5 (so_f c6 (so_f c7 (so_f c8 (so_f c9 (so_f c10 (so_f c11 (so_f c12 (so_f c13 (so_f c14 (so_f c15 (so_f c16 (so_f c17 (so_f c18 (so_f c19 (so_f c20 (so_f c21 (so_f c22 (so_f c23 (so_f c24 (so_f c25 (so_f c26 (so_f c27 (so_f c28 (so_f c29 (so_f c30 (so_f c31 (so_f c32 (so_f c33 (so_f c34 (so_f c35 (so_f c36 (so_f c37 (so_f c38 (so_f c39 (so_f c40 (so_f c41 (so_f c42 (so_f c43 (so_f c44 (so_t c45 ⟨r, σ1, h1, h2, h3⟩))))))))))))))))))))))))))))))))))))))))))))), h4⟩
  by_cases c46 : c = 46
  · obtain ⟨r, σ1, σ2, h1, h2, h3, h4⟩ := b_status  hr
    exact ⟨σ2, so_f c0 (so_f c1 (so_f c2 (so_f c3 (so_f c4 (so_f c5 (so_f c6 (so_f c7 (so_f c8 (so_f c9 (so_f c10 (so_f c11 (so_f c12 (so_f c13 (so_f c14 (so_f c15 (so_f c16 (so_f c17 (so_f c18 (so_f c19 (so_f c20 (so_f c21 (so_f c22 (so_f c23 (so_f c24 (so_f c25 (so_f c26 (so_f c27 (so_f c28 (so_f c29 (so_f c30 (so_f c31 (so_f c32 (so_f c33 (so_f c34 (so_f c35 (so_f c36 (so_f c37 (so_f c38 (so_f c39 (so_f c40 (so_f c41 (so_f c42 (so_f c43 (so_f c44 (so_f c45 (so_t c46 ⟨r, σ1, h1, h2, h3⟩)))))))))))))))))))))))))))))))))))))))))))))), h4⟩
  exact ⟨σ, so_f c0 (so_f c1 (so_f c2 (so_f c3 (so_f c4 (so_f c5 (so_f c6 (so_f c7 (so_f c8 (so_f c9 (so_f c10 (so_f c11 (so_f c12 (so_f c13 (so_f c14 (so_f c15 (so_f c16 (so_f c17 (so_f c18 (so_f c19 (so_f c20 (so_f c21 (so_f c22 (so_f c23 (so_f c24 (so_f c25 (so_f c26 (so_f c27 (so_f c28 (so_f c29 (so_f c30 (so_f c31 (so_f c32 (so_f c33 (so_f c34 (so_f c35 (so_f c36 (so_f c37 (so_f c38 (so_f c39 (so_f c40 (so_f c41 (so_f c42 (so_f c43 (so_f c44 (so_f c45 (so_f c46 (rfl))))))))))))))))))))))))))))))))))))))))))))))), hr⟩
theorem all_turns {xv : Nat → Int32} : ∀ (n i : Nat) (σ : Hp), Rel σ → ∃ σf, LR xv n i σ σf
  | 0, _, σ, _ => ⟨σ, rfl⟩
  | n + 1, i, σ, hr => by
    obtain ⟨σ2, h1, h2⟩ := one_turn (c := xv i &&& 63) (a1 := xv (i + 1)) (a2 := xv (i + 2)) (a3 := xv (i + 3)) (a4 := xv (i + 4)) (a5 := xv (i + 5)) hr
    obtain ⟨σf, h3⟩ := all_turns n (i + 6) σ2 h2
    exact ⟨σf, (hr.1.1.2.1 0 (by decide)).1, σ2, h1, h3⟩
end TRN
