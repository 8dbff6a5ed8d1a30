/-! ===== the two objects as they are made ===== -/
section STA
def st0 : Hp := (0, fun _ => 17, fun _ => 0, fun _ _ => 0, fun _ _ => 0, fun _ _ => none)
noncomputable def st1 : Hp := ((s_X8_init 0 (mkC st0 8 0)).getD ((), st0)).2
noncomputable def st2 : Hp := mkC st1 9 0
noncomputable def st3 : Hp := ((s_X9_init 125 st2).getD ((), st0)).2
theorem some_of {α : Type} {o : Option (Unit × α)} {d : Unit × α} (h : o.isSome = true) : o = some ((), (o.getD d).2) := by
  cases o with
  | none => cases h
  | some p => rfl
set_option maxRecDepth 100000 in
theorem init8_ok : (s_X8_init 0 (mkC st0 8 0)).isSome = true := by decide +kernel
set_option maxRecDepth 100000 in
theorem st1_n : zn st1 = 125 := by decide +kernel
set_option maxRecDepth 100000 in
theorem init9_ok : (s_X9_init 125 st2).isSome = true := by decide +kernel
theorem init8_eq : s_X8_init 0 (mkC st0 8 0) = some ((), st1) := some_of init8_ok
theorem init9_eq : s_X9_init 125 st2 = some ((), st3) := some_of init9_ok
set_option maxRecDepth 100000 in
theorem st3_sk : SK st3 := ⟨by decide +kernel, by decide +kernel, by decide +kernel⟩
theorem z_bd {x : Int32} {m : Nat} (h : x = 0) : bd x m := ⟨0, Nat.zero_le _, h⟩
set_option maxRecDepth 100000 in
theorem st3_tp : ∀ i, i < 400 → zi st3 99 i = 0 ∧ zi st3 134 i = 0 := by decide +kernel
set_option maxRecDepth 100000 in
theorem st3_row : ∀ i, i < 178 → zi st3 127 i = if i = 6 then -1 else if i = 8 then 1 else 0 := by decide +kernel
set_option maxRecDepth 100000 in
theorem st3_hh : HHm 1 st3 (zi st3 127) := by
  have h : ∀ i, i < 178 → zi st3 (1 + (loc i).1) (loc i).2 = zi st3 127 i := by decide +kernel
  exact h
set_option maxRecDepth 100000 in
theorem st3_z : (zi st3 98 1 = 0 ∧ zi st3 125 13 = 0) ∧ (zi st3 0 18 = zi st3 125 1 ∧ zi st3 124 0 = zi st3 126 1 ∧ zi st3 124 1 = zi st3 126 2 ∧ zi st3 124 2 = zi st3 126 3 ∧ zi st3 124 3 = zi st3 126 5 ∧ zi st3 124 4 = zi st3 126 6) ∧ (zi st3 0 16 = zi st3 125 11 ∧ zi st3 0 15 = zi st3 125 18 ∧ zi st3 0 17 = zi st3 125 52 ∧ zi st3 125 20 = 0) ∧ (zi st3 0 12 = 0 ∧ zi st3 125 56 = -1 ∧ zi st3 125 57 = -1) ∧ (zi st3 97 0 = zi st3 129 0 ∧ zi st3 97 0 = 0 ∧ zi st3 97 1 = zi st3 129 1 ∧ zi st3 97 1 = 0) ∧ zi st3 109 1 = 0 ∧ zi st3 125 8 = 0 := by decide +kernel
set_option maxRecDepth 100000 in
theorem st3_tx : ∀ j, j < 6 → zr st3 16 j = none ∧ zr st3 74 j = none ∧ zr st3 93 j = none := by decide +kernel
set_option maxRecDepth 100000 in
theorem st3_cw : CW st3 := ⟨⟨by decide +kernel, by decide +kernel, by decide +kernel, by decide +kernel, by decide +kernel, by decide +kernel, by decide +kernel, by decide +kernel, by decide +kernel⟩, ⟨by decide +kernel, by decide +kernel, by decide +kernel, by decide +kernel, by decide +kernel, by decide +kernel, by decide +kernel, by decide +kernel⟩, ⟨by decide +kernel, by decide +kernel, by decide +kernel⟩, ⟨by decide +kernel, by decide +kernel, by decide +kernel, by decide +kernel⟩, by decide +kernel, by decide +kernel, by decide +kernel⟩
theorem ifb {c : Prop} [Decidable c] {A B : Prop} (a : A) (b : B) : if c then A else B := by
  by_cases h : c
  · rw [if_pos h]
    exact a
  · rw [if_neg h]
    exact b
theorem okI_0 {i : Nat} {x : Int32} (h1 : 6 < i) (h2 : i < 178) (h : x = if i = 6 then -1 else if i = 8 then 1 else 0) : okI 0 0 0 999 i x := by
  rw [if_neg (by omega)] at h
  by_cases c : i = 8
  · subst c
    rw [if_pos rfl] at h
    unfold okI
    rw [if_neg (by decide), if_pos rfl]
    exact ⟨1, by decide, h⟩
  · rw [if_neg c] at h
    unfold okI
    exact ifb (z_bd h) (ifb (z_bd h) (ifb (z_bd h) (ifb (z_bd h) (ifb (z_bd h) (ifb ⟨z_bd h, fun q => absurd q (Nat.not_lt_zero _)⟩ (ifb (z_bd h) (ifb ⟨z_bd h, fun q => absurd q (Nat.not_lt_zero _)⟩ (ifb (z_bd h) (ifb (z_bd h) (ifb ⟨z_bd h, fun _ => h⟩ (ifb (z_bd h) (ifb (z_bd h) (z_bd h)))))))))))))
theorem rel_start : Rel st3 := by
  obtain ⟨hT, hR, hM, hD, hI, u1, u2⟩ := st3_z
  refine ⟨⟨st3_sk, ⟨0, Nat.zero_le _, hT.1, hT.2, fun i hi => ?_⟩, hR, hM, st3_cw, Or.inl hD, ⟨⟨hI.1, Or.inl hI.2.1⟩, ⟨hI.2.2.1, Or.inl hI.2.2.2⟩, fun b hb j hj => Or.inl ?_⟩⟩, 0, 0, 0, 0, 0, 0, fun _ => (0, fun _ => (0, one1, one1)), 0, ⟨⟨⟨by decide, by decide, by decide, by decide, by decide, by decide⟩, ⟨st3_row 0 (by decide), st3_row 1 (by decide), st3_row 2 (by decide), st3_row 3 (by decide), st3_row 4 (by decide), st3_row 5 (by decide)⟩, Or.inl (st3_row 6 (by decide)), fun i h1 h2 => okI_0 h1 h2 (st3_row i h2)⟩, st3_hh, fun j hj => absurd hj (Nat.not_lt_zero _), fun j hj => absurd hj (Nat.not_lt_zero _)⟩, Nat.zero_le _, u1, u2, fun k hk => absurd hk (Nat.not_lt_zero _)⟩
  · obtain ⟨a, b⟩ := st3_tp i hi
    rw [a, b]
    exact ⟨by decide, z_bd rfl⟩
  · obtain ⟨a, b, c⟩ := st3_tx j hj
    rcases hb with rfl | rfl | rfl
    · exact a
    · exact b
    · exact c
end STA
