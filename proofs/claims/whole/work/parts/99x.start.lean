/-! ===== the two objects as they are made ===== -/
section STA
def st0 : Hp := (0, fun _ => 17, fun _ => 0, fun _ _ => 0, fun _ _ => 0, fun _ _ => none)
noncomputable def st1 : Hp := ((s_X8_init 0 (mkC st0 8 0)).getD ((), st0)).2
noncomputable def st2 : Hp := mkC st1 9 0
noncomputable def st3 : Hp := ((s_X9_init 125 st2).getD ((), st0)).2
theorem some_of {α : Type} {o : Option (Unit × α)} {d : Unit × α} (h : o.isSome = true) : o = some ((), (o.getD d).2) := by
  cases o with
  | none => cases h
  | some p => rfl
set_option maxRecDepth 100000 in
theorem init8_ok : (s_X8_init 0 (mkC st0 8 0)).isSome = true := by decide +kernel
set_option maxRecDepth 100000 in
theorem st1_n : zn st1 = 125 := by decide +kernel
end STA
