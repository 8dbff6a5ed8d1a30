/-! ===== feed ===== -/
section C9
variable {σ : Hp}
theorem four_b (h : SK σ) {n : Nat} {v s : Int32} (hn : zi σ 125 13 = iN n) (h4 : n < 400) (hs : ¬ s < 0) : s_X9_four_b3 125 v s σ = some (Sum.inl (125, v, s + (-8)), zsi (zsi σ 134 n ((v >>> (s &&& 31)) &&& 255)) 125 13 (iN (n + 1))) := by
  have a5 : iN n + 1 = iN (n + 1) := iN_add n 1
  simp (disch := first | assumption | omega | (simp only [SK_zsi, SK_zsj, HK_zsi, HK_zsj]; assumption) | decide) only [s_X9_four_b3, hs, hn, a5, cb_some, Option.bind_some, if_true, if_false, zi_hit, zi_miss, zi_ne, zj_hit, zj_miss, zj_ne, zi_zsj, zj_zsi, zr_zsi, zr_zsj, bind_ok, ite_self, q_ck125, q_i125, q_j125, q_w125, q_wj125, q_wz125, q_r125_2, q_r125_3, q_r125_4, q_r125_5, q_r125_6, q_r125_7, q_r125_9, q_r125_10, q_r125_12, q_r125_22, q_r125_24, q_r125_25, q_r125_27, q_r125_28, q_r125_31, q_r125_32, q_r125_33, q_r125_35, q_r125_36, q_r125_37, q_r125_41, q_r125_42, q_r125_43, q_r125_44, q_r125_45, q_r125_46, q_r125_47, q_r125_48, q_r125_49, q_r125_55, q_ln126, q_ld126, q_st126, q_ln127, q_ld127, q_st127, q_ln128, q_ld128, q_st128, q_ln129, q_ld129, q_st129, q_ln130, q_ld130, q_st130, q_ln131, q_ld131, q_st131, q_ln132, q_ld132, q_st132, q_ln133, q_ld133, q_st133, q_ln134, q_ld134, q_st134, q_ln135, q_ld135, q_st135, q_ln136, q_ld136, q_st136, q_ln137, q_ld137, q_st137, q_ln138, q_ld138, q_st138, q_ln139, q_ld139, q_st139, q_ln140, q_ld140, q_st140, q_ln141, q_ld141, q_st141, q_ln142, q_ld142, q_st142, q_ln143, q_ld143, q_st143, q_ln144, q_ld144, q_st144, q_ln145, q_ld145, q_st145, q_ln146, q_ld146, q_st146, q_ln147, q_ld147, q_st147, q_ln148, q_ld148, q_st148, q_ln149, q_ld149, q_st149, q_ln150, q_ld150, q_st150, q_ln151, q_ld151, q_st151, q_ln152, q_ld152, q_st152, q_ln153, q_ld153, q_st153, q_ln154, q_ld154, q_st154, q_ln155, q_ld155, q_st155, rw_0, rw_1, rw_2, rw_3, rw_4, rw_5, rw_6, rw_7, rw_8, rw_9, rw_10, rs_0, rs_1, rs_2, rs_3, rs_4, rs_5, rs_6, rs_7, rs_8, rs_9, rs_10]
theorem four9 (h : SK σ) {n : Nat} {v : Int32} (hn : zi σ 125 13 = iN n) (h4 : n + 4 ≤ 400) : s_X9_four 125 v σ = some ((), zsi (zsi (zsi (zsi (zsi (zsi (zsi (zsi σ 134 n ((v >>> (24 &&& 31)) &&& 255)) 125 13 (iN (n + 1))) 134 (n + 1) ((v >>> (16 &&& 31)) &&& 255)) 125 13 (iN (n + 2))) 134 (n + 2) ((v >>> (8 &&& 31)) &&& 255)) 125 13 (iN (n + 3))) 134 (n + 3) ((v >>> (0 &&& 31)) &&& 255)) 125 13 (iN (n + 4))) := by
  have b1 := four_b (v := v) (s := 24) h hn (by omega) (by decide)
  have b2 := four_b (σ := zsi (zsi σ 134 n ((v >>> (24 &&& 31)) &&& 255)) 125 13 (iN (n + 1))) (n := n + 1) (v := v) (s := 16) h.fz.fz zi_hit (by omega) (by decide)
  have b3 := four_b (σ := zsi (zsi (zsi (zsi σ 134 n ((v >>> (24 &&& 31)) &&& 255)) 125 13 (iN (n + 1))) 134 (n + 1) ((v >>> (16 &&& 31)) &&& 255)) 125 13 (iN (n + 2))) (n := n + 2) (v := v) (s := 8) h.fz.fz.fz.fz zi_hit (by omega) (by decide)
  have b4 := four_b (σ := zsi (zsi (zsi (zsi (zsi (zsi σ 134 n ((v >>> (24 &&& 31)) &&& 255)) 125 13 (iN (n + 1))) 134 (n + 1) ((v >>> (16 &&& 31)) &&& 255)) 125 13 (iN (n + 2))) 134 (n + 2) ((v >>> (8 &&& 31)) &&& 255)) 125 13 (iN (n + 3))) (n := n + 3) (v := v) (s := 0) h.fz.fz.fz.fz.fz.fz zi_hit (by omega) (by decide)
  rw [show (24 : Int32) + (-8) = 16 by decide] at b1
  rw [show (16 : Int32) + (-8) = 8 by decide] at b2
  rw [show (8 : Int32) + (-8) = 0 by decide] at b3
  unfold s_X9_four s_X9_four_l3
  rw [loopF_in b1, loopF_in b2, loopF_in b3, loopF_in b4, loopF_out (e := ()) (σ' := _) (by unfold s_X9_four_b3; exact if_pos (show (0 : Int32) + (-8) < 0 by decide))]
  rfl
end C9
