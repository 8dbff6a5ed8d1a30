/-! ===== count ===== -/
section C7
variable {σ : Hp}
theorem b_count0 (hr : Rel σ) : Both (s_X8_count 0 0) (s_X9_count 125 0) σ := by
  obtain ⟨⟨hS, ⟨nt, hT⟩, hR, hM, hW, hD, hI⟩, nP, nF, nB, nT, nS, nL, B, n, hC, hU⟩ := id hr
  obtain ⟨hwf, hh, hlr, hlh⟩ := hC
  have k1 : HK 1 σ := hS.hk1
  have n1 : ¬ (0 : Int32) = 1 := by decide
  have n2 : ¬ (0 : Int32) = 2 := by decide
  have n3 : ¬ (0 : Int32) = 3 := by decide
  have n4 : ¬ (0 : Int32) = 4 := by decide
  have n5 : ¬ (0 : Int32) = 5 := by decide
  have n6 : ¬ (0 : Int32) = 6 := by decide
  have n7 : ¬ (0 : Int32) = 7 := by decide
  have n8 : ¬ (0 : Int32) = 8 := by decide
  have n9 : ¬ (0 : Int32) = 9 := by decide
  have n10 : ¬ (0 : Int32) = 10 := by decide
  have n11 : ¬ (0 : Int32) = 11 := by decide
  have n12 : ¬ (0 : Int32) = 12 := by decide
  have n13 : ¬ (0 : Int32) = 13 := by decide
  have n14 : ¬ (0 : Int32) = 14 := by decide
  have e : zi σ 127 0 = zi σ (1 + 1) 3 := hh.g0.symm
  refine Both.ro hr (v := zi σ (1 + 1) 3) ?_ ?_
  · simp (disch := first | assumption | omega | (simp only [SK_zsi, SK_zsj, HK_zsi, HK_zsj]; assumption) | decide) only [s_X8_count, n1, n2, n3, n4, n5, n6, n7, n8, n9, n10, n11, n12, n13, n14, cb_some, Option.bind_some, if_true, if_false, zi_hit, zi_miss, zi_ne, zj_hit, zj_miss, zj_ne, zi_zsj, zj_zsi, zr_zsi, zr_zsj, bind_ok, ite_self, q_ck0, q_i0, q_j0, q_w0, q_wj0, q_wz0, q_r0_0, q_r0_1, q_r0_2, q_r0_3, q_r0_4, q_r0_5, q_r0_6, q_r0_7, q_r0_8, q_r0_9, q_r0_10, q_r0_11, q_ln97, q_ld97, q_st97, q_ck98, q_i98, q_j98, q_w98, q_wj98, q_wz98, q_r98_0, q_ln99, q_ld99, q_st99, q_ck100, q_i100, q_j100, q_w100, q_wj100, q_wz100, q_r100_0, q_r100_1, q_r100_2, q_r100_3, q_r100_4, q_ln101, q_ld101, q_st101, q_ln102, q_ld102, q_st102, q_ln103, q_ld103, q_st103, q_ln104, q_ld104, q_st104, q_ln105, q_ld105, q_st105, q_ck106, q_i106, q_j106, q_w106, q_wj106, q_wz106, q_r106_0, q_r106_1, q_ln107, q_ld107, q_st107, q_ln108, q_ld108, q_st108, q_ck109, q_i109, q_j109, q_w109, q_wj109, q_wz109, q_r109_0, q_ln110, q_ld110, q_st110, q_ck111, q_i111, q_j111, q_w111, q_wj111, q_wz111, q_r111_0, q_ln112, q_ld112, q_st112, q_ck113, q_i113, q_j113, q_w113, q_wj113, q_wz113, q_r113_0, q_r113_1, q_r113_2, q_r113_3, q_r113_4, q_r113_5, q_r113_6, q_ln114, q_ld114, q_st114, q_ln115, q_ld115, q_ln116, q_ld116, q_st116, q_ln117, q_ld117, q_st117, q_ln118, q_ld118, q_st118, q_ln119, q_ld119, q_st119, q_ln120, q_ld120, q_st120, q_ln121, q_ld121, q_st121, q_ln122, q_ld122, q_st122, q_ln123, q_ld123, q_st123, q_ln124, q_ld124, q_st124, q_ln58, q_ld58, q_r58_0, q_r58_1, q_r115_0, q_r115_1, q_r115_2, h_ck0, h_i0, h_w0, h_r0_0, h_r0_1, h_r0_2, h_r0_3, h_r0_4, h_r0_5, h_r0_6, h_r0_7, h_r0_8, h_r0_9, h_r0_10, h_r0_11, h_r0_12, h_ck1, h_i1, h_w1, h_r1_0, h_r1_1, h_r1_2, h_ln2, h_ld2, h_st2, h_ln3, h_ld3, h_st3, h_ln4, h_ld4, h_st4, h_ln5, h_ld5, h_st5, h_ln6, h_ld6, h_st6, h_ln7, h_ld7, h_st7, h_ln8, h_ld8, h_st8, h_ln9, h_ld9, h_st9, h_ln10, h_ld10, h_st10, h_ln11, h_ld11, h_st11, h_ln12, h_ld12, h_st12, h_ln13, h_ld13, h_st13, h_ln14, h_ld14, h_st14, h_ln15, h_ld15, h_ck16, h_i16, h_w16, h_r16_0, h_r16_1, h_ln17, h_ld17, h_st17, h_ln18, h_ld18, h_st18, ht_0, ht_1, ht_2, hs_0, hs_1, hs_2]
  · simp (disch := first | assumption | omega | (simp only [SK_zsi, SK_zsj, HK_zsi, HK_zsj]; assumption) | decide) only [s_X9_count, n1, n2, n3, n4, n5, n6, n7, n8, n9, n10, n11, n12, n13, n14, e, cb_some, Option.bind_some, if_true, if_false, zi_hit, zi_miss, zi_ne, zj_hit, zj_miss, zj_ne, zi_zsj, zj_zsi, zr_zsi, zr_zsj, bind_ok, ite_self, q_ck125, q_i125, q_j125, q_w125, q_wj125, q_wz125, q_r125_2, q_r125_3, q_r125_4, q_r125_5, q_r125_6, q_r125_7, q_r125_9, q_r125_10, q_r125_12, q_r125_22, q_r125_24, q_r125_25, q_r125_27, q_r125_28, q_r125_31, q_r125_32, q_r125_33, q_r125_35, q_r125_36, q_r125_37, q_r125_41, q_r125_42, q_r125_43, q_r125_44, q_r125_45, q_r125_46, q_r125_47, q_r125_48, q_r125_49, q_r125_55, q_ln126, q_ld126, q_st126, q_ln127, q_ld127, q_st127, q_ln128, q_ld128, q_st128, q_ln129, q_ld129, q_st129, q_ln130, q_ld130, q_st130, q_ln131, q_ld131, q_st131, q_ln132, q_ld132, q_st132, q_ln133, q_ld133, q_st133, q_ln134, q_ld134, q_st134, q_ln135, q_ld135, q_st135, q_ln136, q_ld136, q_st136, q_ln137, q_ld137, q_st137, q_ln138, q_ld138, q_st138, q_ln139, q_ld139, q_st139, q_ln140, q_ld140, q_st140, q_ln141, q_ld141, q_st141, q_ln142, q_ld142, q_st142, q_ln143, q_ld143, q_st143, q_ln144, q_ld144, q_st144, q_ln145, q_ld145, q_st145, q_ln146, q_ld146, q_st146, q_ln147, q_ld147, q_st147, q_ln148, q_ld148, q_st148, q_ln149, q_ld149, q_st149, q_ln150, q_ld150, q_st150, q_ln151, q_ld151, q_st151, q_ln152, q_ld152, q_st152, q_ln153, q_ld153, q_st153, q_ln154, q_ld154, q_st154, q_ln155, q_ld155, q_st155, rw_0, rw_1, rw_2, rw_3, rw_4, rw_5, rw_6, rw_7, rw_8, rw_9, rw_10, rs_0, rs_1, rs_2, rs_3, rs_4, rs_5, rs_6, rs_7, rs_8, rs_9, rs_10]
theorem b_count1 (hr : Rel σ) : Both (s_X8_count 0 1) (s_X9_count 125 1) σ := by
  obtain ⟨⟨hS, ⟨nt, hT⟩, hR, hM, hW, hD, hI⟩, nP, nF, nB, nT, nS, nL, B, n, hC, hU⟩ := id hr
  obtain ⟨hwf, hh, hlr, hlh⟩ := hC
  have k1 : HK 1 σ := hS.hk1
  have n0 : ¬ (1 : Int32) = 0 := by decide
  have n2 : ¬ (1 : Int32) = 2 := by decide
  have n3 : ¬ (1 : Int32) = 3 := by decide
  have n4 : ¬ (1 : Int32) = 4 := by decide
  have n5 : ¬ (1 : Int32) = 5 := by decide
  have n6 : ¬ (1 : Int32) = 6 := by decide
  have n7 : ¬ (1 : Int32) = 7 := by decide
  have n8 : ¬ (1 : Int32) = 8 := by decide
  have n9 : ¬ (1 : Int32) = 9 := by decide
  have n10 : ¬ (1 : Int32) = 10 := by decide
  have n11 : ¬ (1 : Int32) = 11 := by decide
  have n12 : ¬ (1 : Int32) = 12 := by decide
  have n13 : ¬ (1 : Int32) = 13 := by decide
  have n14 : ¬ (1 : Int32) = 14 := by decide
  have e : zi σ 127 1 = zi σ 1 13 := hh.g1.symm
  refine Both.ro hr (v := zi σ 1 13) ?_ ?_
  · simp (disch := first | assumption | omega | (simp only [SK_zsi, SK_zsj, HK_zsi, HK_zsj]; assumption) | decide) only [s_X8_count, n0, n2, n3, n4, n5, n6, n7, n8, n9, n10, n11, n12, n13, n14, cb_some, Option.bind_some, if_true, if_false, zi_hit, zi_miss, zi_ne, zj_hit, zj_miss, zj_ne, zi_zsj, zj_zsi, zr_zsi, zr_zsj, bind_ok, ite_self, q_ck0, q_i0, q_j0, q_w0, q_wj0, q_wz0, q_r0_0, q_r0_1, q_r0_2, q_r0_3, q_r0_4, q_r0_5, q_r0_6, q_r0_7, q_r0_8, q_r0_9, q_r0_10, q_r0_11, q_ln97, q_ld97, q_st97, q_ck98, q_i98, q_j98, q_w98, q_wj98, q_wz98, q_r98_0, q_ln99, q_ld99, q_st99, q_ck100, q_i100, q_j100, q_w100, q_wj100, q_wz100, q_r100_0, q_r100_1, q_r100_2, q_r100_3, q_r100_4, q_ln101, q_ld101, q_st101, q_ln102, q_ld102, q_st102, q_ln103, q_ld103, q_st103, q_ln104, q_ld104, q_st104, q_ln105, q_ld105, q_st105, q_ck106, q_i106, q_j106, q_w106, q_wj106, q_wz106, q_r106_0, q_r106_1, q_ln107, q_ld107, q_st107, q_ln108, q_ld108, q_st108, q_ck109, q_i109, q_j109, q_w109, q_wj109, q_wz109, q_r109_0, q_ln110, q_ld110, q_st110, q_ck111, q_i111, q_j111, q_w111, q_wj111, q_wz111, q_r111_0, q_ln112, q_ld112, q_st112, q_ck113, q_i113, q_j113, q_w113, q_wj113, q_wz113, q_r113_0, q_r113_1, q_r113_2, q_r113_3, q_r113_4, q_r113_5, q_r113_6, q_ln114, q_ld114, q_st114, q_ln115, q_ld115, q_ln116, q_ld116, q_st116, q_ln117, q_ld117, q_st117, q_ln118, q_ld118, q_st118, q_ln119, q_ld119, q_st119, q_ln120, q_ld120, q_st120, q_ln121, q_ld121, q_st121, q_ln122, q_ld122, q_st122, q_ln123, q_ld123, q_st123, q_ln124, q_ld124, q_st124, q_ln58, q_ld58, q_r58_0, q_r58_1, q_r115_0, q_r115_1, q_r115_2, h_ck0, h_i0, h_w0, h_r0_0, h_r0_1, h_r0_2, h_r0_3, h_r0_4, h_r0_5, h_r0_6, h_r0_7, h_r0_8, h_r0_9, h_r0_10, h_r0_11, h_r0_12, h_ck1, h_i1, h_w1, h_r1_0, h_r1_1, h_r1_2, h_ln2, h_ld2, h_st2, h_ln3, h_ld3, h_st3, h_ln4, h_ld4, h_st4, h_ln5, h_ld5, h_st5, h_ln6, h_ld6, h_st6, h_ln7, h_ld7, h_st7, h_ln8, h_ld8, h_st8, h_ln9, h_ld9, h_st9, h_ln10, h_ld10, h_st10, h_ln11, h_ld11, h_st11, h_ln12, h_ld12, h_st12, h_ln13, h_ld13, h_st13, h_ln14, h_ld14, h_st14, h_ln15, h_ld15, h_ck16, h_i16, h_w16, h_r16_0, h_r16_1, h_ln17, h_ld17, h_st17, h_ln18, h_ld18, h_st18, ht_0, ht_1, ht_2, hs_0, hs_1, hs_2]
  · simp (disch := first | assumption | omega | (simp only [SK_zsi, SK_zsj, HK_zsi, HK_zsj]; assumption) | decide) only [s_X9_count, n0, n2, n3, n4, n5, n6, n7, n8, n9, n10, n11, n12, n13, n14, e, cb_some, Option.bind_some, if_true, if_false, zi_hit, zi_miss, zi_ne, zj_hit, zj_miss, zj_ne, zi_zsj, zj_zsi, zr_zsi, zr_zsj, bind_ok, ite_self, q_ck125, q_i125, q_j125, q_w125, q_wj125, q_wz125, q_r125_2, q_r125_3, q_r125_4, q_r125_5, q_r125_6, q_r125_7, q_r125_9, q_r125_10, q_r125_12, q_r125_22, q_r125_24, q_r125_25, q_r125_27, q_r125_28, q_r125_31, q_r125_32, q_r125_33, q_r125_35, q_r125_36, q_r125_37, q_r125_41, q_r125_42, q_r125_43, q_r125_44, q_r125_45, q_r125_46, q_r125_47, q_r125_48, q_r125_49, q_r125_55, q_ln126, q_ld126, q_st126, q_ln127, q_ld127, q_st127, q_ln128, q_ld128, q_st128, q_ln129, q_ld129, q_st129, q_ln130, q_ld130, q_st130, q_ln131, q_ld131, q_st131, q_ln132, q_ld132, q_st132, q_ln133, q_ld133, q_st133, q_ln134, q_ld134, q_st134, q_ln135, q_ld135, q_st135, q_ln136, q_ld136, q_st136, q_ln137, q_ld137, q_st137, q_ln138, q_ld138, q_st138, q_ln139, q_ld139, q_st139, q_ln140, q_ld140, q_st140, q_ln141, q_ld141, q_st141, q_ln142, q_ld142, q_st142, q_ln143, q_ld143, q_st143, q_ln144, q_ld144, q_st144, q_ln145, q_ld145, q_st145, q_ln146, q_ld146, q_st146, q_ln147, q_ld147, q_st147, q_ln148, q_ld148, q_st148, q_ln149, q_ld149, q_st149, q_ln150, q_ld150, q_st150, q_ln151, q_ld151, q_st151, q_ln152, q_ld152, q_st152, q_ln153, q_ld153, q_st153, q_ln154, q_ld154, q_st154, q_ln155, q_ld155, q_st155, rw_0, rw_1, rw_2, rw_3, rw_4, rw_5, rw_6, rw_7, rw_8, rw_9, rw_10, rs_0, rs_1, rs_2, rs_3, rs_4, rs_5, rs_6, rs_7, rs_8, rs_9, rs_10]
theorem b_count2 (hr : Rel σ) : Both (s_X8_count 0 2) (s_X9_count 125 2) σ := by
  obtain ⟨⟨hS, ⟨nt, hT⟩, hR, hM, hW, hD, hI⟩, nP, nF, nB, nT, nS, nL, B, n, hC, hU⟩ := id hr
  obtain ⟨hwf, hh, hlr, hlh⟩ := hC
  have k1 : HK 1 σ := hS.hk1
  have n0 : ¬ (2 : Int32) = 0 := by decide
  have n1 : ¬ (2 : Int32) = 1 := by decide
  have n3 : ¬ (2 : Int32) = 3 := by decide
  have n4 : ¬ (2 : Int32) = 4 := by decide
  have n5 : ¬ (2 : Int32) = 5 := by decide
  have n6 : ¬ (2 : Int32) = 6 := by decide
  have n7 : ¬ (2 : Int32) = 7 := by decide
  have n8 : ¬ (2 : Int32) = 8 := by decide
  have n9 : ¬ (2 : Int32) = 9 := by decide
  have n10 : ¬ (2 : Int32) = 10 := by decide
  have n11 : ¬ (2 : Int32) = 11 := by decide
  have n12 : ¬ (2 : Int32) = 12 := by decide
  have n13 : ¬ (2 : Int32) = 13 := by decide
  have n14 : ¬ (2 : Int32) = 14 := by decide
  have e : zi σ 127 2 = zi σ 1 14 := hh.g2.symm
  refine Both.ro hr (v := zi σ 1 14) ?_ ?_
  · simp (disch := first | assumption | omega | (simp only [SK_zsi, SK_zsj, HK_zsi, HK_zsj]; assumption) | decide) only [s_X8_count, n0, n1, n3, n4, n5, n6, n7, n8, n9, n10, n11, n12, n13, n14, cb_some, Option.bind_some, if_true, if_false, zi_hit, zi_miss, zi_ne, zj_hit, zj_miss, zj_ne, zi_zsj, zj_zsi, zr_zsi, zr_zsj, bind_ok, ite_self, q_ck0, q_i0, q_j0, q_w0, q_wj0, q_wz0, q_r0_0, q_r0_1, q_r0_2, q_r0_3, q_r0_4, q_r0_5, q_r0_6, q_r0_7, q_r0_8, q_r0_9, q_r0_10, q_r0_11, q_ln97, q_ld97, q_st97, q_ck98, q_i98, q_j98, q_w98, q_wj98, q_wz98, q_r98_0, q_ln99, q_ld99, q_st99, q_ck100, q_i100, q_j100, q_w100, q_wj100, q_wz100, q_r100_0, q_r100_1, q_r100_2, q_r100_3, q_r100_4, q_ln101, q_ld101, q_st101, q_ln102, q_ld102, q_st102, q_ln103, q_ld103, q_st103, q_ln104, q_ld104, q_st104, q_ln105, q_ld105, q_st105, q_ck106, q_i106, q_j106, q_w106, q_wj106, q_wz106, q_r106_0, q_r106_1, q_ln107, q_ld107, q_st107, q_ln108, q_ld108, q_st108, q_ck109, q_i109, q_j109, q_w109, q_wj109, q_wz109, q_r109_0, q_ln110, q_ld110, q_st110, q_ck111, q_i111, q_j111, q_w111, q_wj111, q_wz111, q_r111_0, q_ln112, q_ld112, q_st112, q_ck113, q_i113, q_j113, q_w113, q_wj113, q_wz113, q_r113_0, q_r113_1, q_r113_2, q_r113_3, q_r113_4, q_r113_5, q_r113_6, q_ln114, q_ld114, q_st114, q_ln115, q_ld115, q_ln116, q_ld116, q_st116, q_ln117, q_ld117, q_st117, q_ln118, q_ld118, q_st118, q_ln119, q_ld119, q_st119, q_ln120, q_ld120, q_st120, q_ln121, q_ld121, q_st121, q_ln122, q_ld122, q_st122, q_ln123, q_ld123, q_st123, q_ln124, q_ld124, q_st124, q_ln58, q_ld58, q_r58_0, q_r58_1, q_r115_0, q_r115_1, q_r115_2, h_ck0, h_i0, h_w0, h_r0_0, h_r0_1, h_r0_2, h_r0_3, h_r0_4, h_r0_5, h_r0_6, h_r0_7, h_r0_8, h_r0_9, h_r0_10, h_r0_11, h_r0_12, h_ck1, h_i1, h_w1, h_r1_0, h_r1_1, h_r1_2, h_ln2, h_ld2, h_st2, h_ln3, h_ld3, h_st3, h_ln4, h_ld4, h_st4, h_ln5, h_ld5, h_st5, h_ln6, h_ld6, h_st6, h_ln7, h_ld7, h_st7, h_ln8, h_ld8, h_st8, h_ln9, h_ld9, h_st9, h_ln10, h_ld10, h_st10, h_ln11, h_ld11, h_st11, h_ln12, h_ld12, h_st12, h_ln13, h_ld13, h_st13, h_ln14, h_ld14, h_st14, h_ln15, h_ld15, h_ck16, h_i16, h_w16, h_r16_0, h_r16_1, h_ln17, h_ld17, h_st17, h_ln18, h_ld18, h_st18, ht_0, ht_1, ht_2, hs_0, hs_1, hs_2]
  · simp (disch := first | assumption | omega | (simp only [SK_zsi, SK_zsj, HK_zsi, HK_zsj]; assumption) | decide) only [s_X9_count, n0, n1, n3, n4, n5, n6, n7, n8, n9, n10, n11, n12, n13, n14, e, cb_some, Option.bind_some, if_true, if_false, zi_hit, zi_miss, zi_ne, zj_hit, zj_miss, zj_ne, zi_zsj, zj_zsi, zr_zsi, zr_zsj, bind_ok, ite_self, q_ck125, q_i125, q_j125, q_w125, q_wj125, q_wz125, q_r125_2, q_r125_3, q_r125_4, q_r125_5, q_r125_6, q_r125_7, q_r125_9, q_r125_10, q_r125_12, q_r125_22, q_r125_24, q_r125_25, q_r125_27, q_r125_28, q_r125_31, q_r125_32, q_r125_33, q_r125_35, q_r125_36, q_r125_37, q_r125_41, q_r125_42, q_r125_43, q_r125_44, q_r125_45, q_r125_46, q_r125_47, q_r125_48, q_r125_49, q_r125_55, q_ln126, q_ld126, q_st126, q_ln127, q_ld127, q_st127, q_ln128, q_ld128, q_st128, q_ln129, q_ld129, q_st129, q_ln130, q_ld130, q_st130, q_ln131, q_ld131, q_st131, q_ln132, q_ld132, q_st132, q_ln133, q_ld133, q_st133, q_ln134, q_ld134, q_st134, q_ln135, q_ld135, q_st135, q_ln136, q_ld136, q_st136, q_ln137, q_ld137, q_st137, q_ln138, q_ld138, q_st138, q_ln139, q_ld139, q_st139, q_ln140, q_ld140, q_st140, q_ln141, q_ld141, q_st141, q_ln142, q_ld142, q_st142, q_ln143, q_ld143, q_st143, q_ln144, q_ld144, q_st144, q_ln145, q_ld145, q_st145, q_ln146, q_ld146, q_st146, q_ln147, q_ld147, q_st147, q_ln148, q_ld148, q_st148, q_ln149, q_ld149, q_st149, q_ln150, q_ld150, q_st150, q_ln151, q_ld151, q_st151, q_ln152, q_ld152, q_st152, q_ln153, q_ld153, q_st153, q_ln154, q_ld154, q_st154, q_ln155, q_ld155, q_st155, rw_0, rw_1, rw_2, rw_3, rw_4, rw_5, rw_6, rw_7, rw_8, rw_9, rw_10, rs_0, rs_1, rs_2, rs_3, rs_4, rs_5, rs_6, rs_7, rs_8, rs_9, rs_10]
theorem b_count3 (hr : Rel σ) : Both (s_X8_count 0 3) (s_X9_count 125 3) σ := by
  obtain ⟨⟨hS, ⟨nt, hT⟩, hR, hM, hW, hD, hI⟩, nP, nF, nB, nT, nS, nL, B, n, hC, hU⟩ := id hr
  obtain ⟨hwf, hh, hlr, hlh⟩ := hC
  have k1 : HK 1 σ := hS.hk1
  have n0 : ¬ (3 : Int32) = 0 := by decide
  have n1 : ¬ (3 : Int32) = 1 := by decide
  have n2 : ¬ (3 : Int32) = 2 := by decide
  have n4 : ¬ (3 : Int32) = 4 := by decide
  have n5 : ¬ (3 : Int32) = 5 := by decide
  have n6 : ¬ (3 : Int32) = 6 := by decide
  have n7 : ¬ (3 : Int32) = 7 := by decide
  have n8 : ¬ (3 : Int32) = 8 := by decide
  have n9 : ¬ (3 : Int32) = 9 := by decide
  have n10 : ¬ (3 : Int32) = 10 := by decide
  have n11 : ¬ (3 : Int32) = 11 := by decide
  have n12 : ¬ (3 : Int32) = 12 := by decide
  have n13 : ¬ (3 : Int32) = 13 := by decide
  have n14 : ¬ (3 : Int32) = 14 := by decide
  have e : zi σ 127 3 = zi σ 1 15 := hh.g3.symm
  refine Both.ro hr (v := zi σ 1 15) ?_ ?_
  · simp (disch := first | assumption | omega | (simp only [SK_zsi, SK_zsj, HK_zsi, HK_zsj]; assumption) | decide) only [s_X8_count, n0, n1, n2, n4, n5, n6, n7, n8, n9, n10, n11, n12, n13, n14, cb_some, Option.bind_some, if_true, if_false, zi_hit, zi_miss, zi_ne, zj_hit, zj_miss, zj_ne, zi_zsj, zj_zsi, zr_zsi, zr_zsj, bind_ok, ite_self, q_ck0, q_i0, q_j0, q_w0, q_wj0, q_wz0, q_r0_0, q_r0_1, q_r0_2, q_r0_3, q_r0_4, q_r0_5, q_r0_6, q_r0_7, q_r0_8, q_r0_9, q_r0_10, q_r0_11, q_ln97, q_ld97, q_st97, q_ck98, q_i98, q_j98, q_w98, q_wj98, q_wz98, q_r98_0, q_ln99, q_ld99, q_st99, q_ck100, q_i100, q_j100, q_w100, q_wj100, q_wz100, q_r100_0, q_r100_1, q_r100_2, q_r100_3, q_r100_4, q_ln101, q_ld101, q_st101, q_ln102, q_ld102, q_st102, q_ln103, q_ld103, q_st103, q_ln104, q_ld104, q_st104, q_ln105, q_ld105, q_st105, q_ck106, q_i106, q_j106, q_w106, q_wj106, q_wz106, q_r106_0, q_r106_1, q_ln107, q_ld107, q_st107, q_ln108, q_ld108, q_st108, q_ck109, q_i109, q_j109, q_w109, q_wj109, q_wz109, q_r109_0, q_ln110, q_ld110, q_st110, q_ck111, q_i111, q_j111, q_w111, q_wj111, q_wz111, q_r111_0, q_ln112, q_ld112, q_st112, q_ck113, q_i113, q_j113, q_w113, q_wj113, q_wz113, q_r113_0, q_r113_1, q_r113_2, q_r113_3, q_r113_4, q_r113_5, q_r113_6, q_ln114, q_ld114, q_st114, q_ln115, q_ld115, q_ln116, q_ld116, q_st116, q_ln117, q_ld117, q_st117, q_ln118, q_ld118, q_st118, q_ln119, q_ld119, q_st119, q_ln120, q_ld120, q_st120, q_ln121, q_ld121, q_st121, q_ln122, q_ld122, q_st122, q_ln123, q_ld123, q_st123, q_ln124, q_ld124, q_st124, q_ln58, q_ld58, q_r58_0, q_r58_1, q_r115_0, q_r115_1, q_r115_2, h_ck0, h_i0, h_w0, h_r0_0, h_r0_1, h_r0_2, h_r0_3, h_r0_4, h_r0_5, h_r0_6, h_r0_7, h_r0_8, h_r0_9, h_r0_10, h_r0_11, h_r0_12, h_ck1, h_i1, h_w1, h_r1_0, h_r1_1, h_r1_2, h_ln2, h_ld2, h_st2, h_ln3, h_ld3, h_st3, h_ln4, h_ld4, h_st4, h_ln5, h_ld5, h_st5, h_ln6, h_ld6, h_st6, h_ln7, h_ld7, h_st7, h_ln8, h_ld8, h_st8, h_ln9, h_ld9, h_st9, h_ln10, h_ld10, h_st10, h_ln11, h_ld11, h_st11, h_ln12, h_ld12, h_st12, h_ln13, h_ld13, h_st13, h_ln14, h_ld14, h_st14, h_ln15, h_ld15, h_ck16, h_i16, h_w16, h_r16_0, h_r16_1, h_ln17, h_ld17, h_st17, h_ln18, h_ld18, h_st18, ht_0, ht_1, ht_2, hs_0, hs_1, hs_2]
  · simp (disch := first | assumption | omega | (simp only [SK_zsi, SK_zsj, HK_zsi, HK_zsj]; assumption) | decide) only [s_X9_count, n0, n1, n2, n4, n5, n6, n7, n8, n9, n10, n11, n12, n13, n14, e, cb_some, Option.bind_some, if_true, if_false, zi_hit, zi_miss, zi_ne, zj_hit, zj_miss, zj_ne, zi_zsj, zj_zsi, zr_zsi, zr_zsj, bind_ok, ite_self, q_ck125, q_i125, q_j125, q_w125, q_wj125, q_wz125, q_r125_2, q_r125_3, q_r125_4, q_r125_5, q_r125_6, q_r125_7, q_r125_9, q_r125_10, q_r125_12, q_r125_22, q_r125_24, q_r125_25, q_r125_27, q_r125_28, q_r125_31, q_r125_32, q_r125_33, q_r125_35, q_r125_36, q_r125_37, q_r125_41, q_r125_42, q_r125_43, q_r125_44, q_r125_45, q_r125_46, q_r125_47, q_r125_48, q_r125_49, q_r125_55, q_ln126, q_ld126, q_st126, q_ln127, q_ld127, q_st127, q_ln128, q_ld128, q_st128, q_ln129, q_ld129, q_st129, q_ln130, q_ld130, q_st130, q_ln131, q_ld131, q_st131, q_ln132, q_ld132, q_st132, q_ln133, q_ld133, q_st133, q_ln134, q_ld134, q_st134, q_ln135, q_ld135, q_st135, q_ln136, q_ld136, q_st136, q_ln137, q_ld137, q_st137, q_ln138, q_ld138, q_st138, q_ln139, q_ld139, q_st139, q_ln140, q_ld140, q_st140, q_ln141, q_ld141, q_st141, q_ln142, q_ld142, q_st142, q_ln143, q_ld143, q_st143, q_ln144, q_ld144, q_st144, q_ln145, q_ld145, q_st145, q_ln146, q_ld146, q_st146, q_ln147, q_ld147, q_st147, q_ln148, q_ld148, q_st148, q_ln149, q_ld149, q_st149, q_ln150, q_ld150, q_st150, q_ln151, q_ld151, q_st151, q_ln152, q_ld152, q_st152, q_ln153, q_ld153, q_st153, q_ln154, q_ld154, q_st154, q_ln155, q_ld155, q_st155, rw_0, rw_1, rw_2, rw_3, rw_4, rw_5, rw_6, rw_7, rw_8, rw_9, rw_10, rs_0, rs_1, rs_2, rs_3, rs_4, rs_5, rs_6, rs_7, rs_8, rs_9, rs_10]
theorem b_count4 (hr : Rel σ) : Both (s_X8_count 0 4) (s_X9_count 125 4) σ := by
  obtain ⟨⟨hS, ⟨nt, hT⟩, hR, hM, hW, hD, hI⟩, nP, nF, nB, nT, nS, nL, B, n, hC, hU⟩ := id hr
  obtain ⟨hwf, hh, hlr, hlh⟩ := hC
  have k1 : HK 1 σ := hS.hk1
  have n0 : ¬ (4 : Int32) = 0 := by decide
  have n1 : ¬ (4 : Int32) = 1 := by decide
  have n2 : ¬ (4 : Int32) = 2 := by decide
  have n3 : ¬ (4 : Int32) = 3 := by decide
  have n5 : ¬ (4 : Int32) = 5 := by decide
  have n6 : ¬ (4 : Int32) = 6 := by decide
  have n7 : ¬ (4 : Int32) = 7 := by decide
  have n8 : ¬ (4 : Int32) = 8 := by decide
  have n9 : ¬ (4 : Int32) = 9 := by decide
  have n10 : ¬ (4 : Int32) = 10 := by decide
  have n11 : ¬ (4 : Int32) = 11 := by decide
  have n12 : ¬ (4 : Int32) = 12 := by decide
  have n13 : ¬ (4 : Int32) = 13 := by decide
  have n14 : ¬ (4 : Int32) = 14 := by decide
  have e : zi σ 127 10 = zi σ 1 18 := hh.g10.symm
  refine Both.ro hr (v := zi σ 1 18) ?_ ?_
  · simp (disch := first | assumption | omega | (simp only [SK_zsi, SK_zsj, HK_zsi, HK_zsj]; assumption) | decide) only [s_X8_count, n0, n1, n2, n3, n5, n6, n7, n8, n9, n10, n11, n12, n13, n14, cb_some, Option.bind_some, if_true, if_false, zi_hit, zi_miss, zi_ne, zj_hit, zj_miss, zj_ne, zi_zsj, zj_zsi, zr_zsi, zr_zsj, bind_ok, ite_self, q_ck0, q_i0, q_j0, q_w0, q_wj0, q_wz0, q_r0_0, q_r0_1, q_r0_2, q_r0_3, q_r0_4, q_r0_5, q_r0_6, q_r0_7, q_r0_8, q_r0_9, q_r0_10, q_r0_11, q_ln97, q_ld97, q_st97, q_ck98, q_i98, q_j98, q_w98, q_wj98, q_wz98, q_r98_0, q_ln99, q_ld99, q_st99, q_ck100, q_i100, q_j100, q_w100, q_wj100, q_wz100, q_r100_0, q_r100_1, q_r100_2, q_r100_3, q_r100_4, q_ln101, q_ld101, q_st101, q_ln102, q_ld102, q_st102, q_ln103, q_ld103, q_st103, q_ln104, q_ld104, q_st104, q_ln105, q_ld105, q_st105, q_ck106, q_i106, q_j106, q_w106, q_wj106, q_wz106, q_r106_0, q_r106_1, q_ln107, q_ld107, q_st107, q_ln108, q_ld108, q_st108, q_ck109, q_i109, q_j109, q_w109, q_wj109, q_wz109, q_r109_0, q_ln110, q_ld110, q_st110, q_ck111, q_i111, q_j111, q_w111, q_wj111, q_wz111, q_r111_0, q_ln112, q_ld112, q_st112, q_ck113, q_i113, q_j113, q_w113, q_wj113, q_wz113, q_r113_0, q_r113_1, q_r113_2, q_r113_3, q_r113_4, q_r113_5, q_r113_6, q_ln114, q_ld114, q_st114, q_ln115, q_ld115, q_ln116, q_ld116, q_st116, q_ln117, q_ld117, q_st117, q_ln118, q_ld118, q_st118, q_ln119, q_ld119, q_st119, q_ln120, q_ld120, q_st120, q_ln121, q_ld121, q_st121, q_ln122, q_ld122, q_st122, q_ln123, q_ld123, q_st123, q_ln124, q_ld124, q_st124, q_ln58, q_ld58, q_r58_0, q_r58_1, q_r115_0, q_r115_1, q_r115_2, h_ck0, h_i0, h_w0, h_r0_0, h_r0_1, h_r0_2, h_r0_3, h_r0_4, h_r0_5, h_r0_6, h_r0_7, h_r0_8, h_r0_9, h_r0_10, h_r0_11, h_r0_12, h_ck1, h_i1, h_w1, h_r1_0, h_r1_1, h_r1_2, h_ln2, h_ld2, h_st2, h_ln3, h_ld3, h_st3, h_ln4, h_ld4, h_st4, h_ln5, h_ld5, h_st5, h_ln6, h_ld6, h_st6, h_ln7, h_ld7, h_st7, h_ln8, h_ld8, h_st8, h_ln9, h_ld9, h_st9, h_ln10, h_ld10, h_st10, h_ln11, h_ld11, h_st11, h_ln12, h_ld12, h_st12, h_ln13, h_ld13, h_st13, h_ln14, h_ld14, h_st14, h_ln15, h_ld15, h_ck16, h_i16, h_w16, h_r16_0, h_r16_1, h_ln17, h_ld17, h_st17, h_ln18, h_ld18, h_st18, ht_0, ht_1, ht_2, hs_0, hs_1, hs_2]
  · simp (disch := first | assumption | omega | (simp only [SK_zsi, SK_zsj, HK_zsi, HK_zsj]; assumption) | decide) only [s_X9_count, n0, n1, n2, n3, n5, n6, n7, n8, n9, n10, n11, n12, n13, n14, e, cb_some, Option.bind_some, if_true, if_false, zi_hit, zi_miss, zi_ne, zj_hit, zj_miss, zj_ne, zi_zsj, zj_zsi, zr_zsi, zr_zsj, bind_ok, ite_self, q_ck125, q_i125, q_j125, q_w125, q_wj125, q_wz125, q_r125_2, q_r125_3, q_r125_4, q_r125_5, q_r125_6, q_r125_7, q_r125_9, q_r125_10, q_r125_12, q_r125_22, q_r125_24, q_r125_25, q_r125_27, q_r125_28, q_r125_31, q_r125_32, q_r125_33, q_r125_35, q_r125_36, q_r125_37, q_r125_41, q_r125_42, q_r125_43, q_r125_44, q_r125_45, q_r125_46, q_r125_47, q_r125_48, q_r125_49, q_r125_55, q_ln126, q_ld126, q_st126, q_ln127, q_ld127, q_st127, q_ln128, q_ld128, q_st128, q_ln129, q_ld129, q_st129, q_ln130, q_ld130, q_st130, q_ln131, q_ld131, q_st131, q_ln132, q_ld132, q_st132, q_ln133, q_ld133, q_st133, q_ln134, q_ld134, q_st134, q_ln135, q_ld135, q_st135, q_ln136, q_ld136, q_st136, q_ln137, q_ld137, q_st137, q_ln138, q_ld138, q_st138, q_ln139, q_ld139, q_st139, q_ln140, q_ld140, q_st140, q_ln141, q_ld141, q_st141, q_ln142, q_ld142, q_st142, q_ln143, q_ld143, q_st143, q_ln144, q_ld144, q_st144, q_ln145, q_ld145, q_st145, q_ln146, q_ld146, q_st146, q_ln147, q_ld147, q_st147, q_ln148, q_ld148, q_st148, q_ln149, q_ld149, q_st149, q_ln150, q_ld150, q_st150, q_ln151, q_ld151, q_st151, q_ln152, q_ld152, q_st152, q_ln153, q_ld153, q_st153, q_ln154, q_ld154, q_st154, q_ln155, q_ld155, q_st155, rw_0, rw_1, rw_2, rw_3, rw_4, rw_5, rw_6, rw_7, rw_8, rw_9, rw_10, rs_0, rs_1, rs_2, rs_3, rs_4, rs_5, rs_6, rs_7, rs_8, rs_9, rs_10]
theorem b_count5 (hr : Rel σ) : Both (s_X8_count 0 5) (s_X9_count 125 5) σ := by
  obtain ⟨⟨hS, ⟨nt, hT⟩, hR, hM, hW, hD, hI⟩, nP, nF, nB, nT, nS, nL, B, n, hC, hU⟩ := id hr
  obtain ⟨hwf, hh, hlr, hlh⟩ := hC
  have k1 : HK 1 σ := hS.hk1
  have n0 : ¬ (5 : Int32) = 0 := by decide
  have n1 : ¬ (5 : Int32) = 1 := by decide
  have n2 : ¬ (5 : Int32) = 2 := by decide
  have n3 : ¬ (5 : Int32) = 3 := by decide
  have n4 : ¬ (5 : Int32) = 4 := by decide
  have n6 : ¬ (5 : Int32) = 6 := by decide
  have n7 : ¬ (5 : Int32) = 7 := by decide
  have n8 : ¬ (5 : Int32) = 8 := by decide
  have n9 : ¬ (5 : Int32) = 9 := by decide
  have n10 : ¬ (5 : Int32) = 10 := by decide
  have n11 : ¬ (5 : Int32) = 11 := by decide
  have n12 : ¬ (5 : Int32) = 12 := by decide
  have n13 : ¬ (5 : Int32) = 13 := by decide
  have n14 : ¬ (5 : Int32) = 14 := by decide
  have e : zi σ 127 4 = zi σ 1 16 := hh.g4.symm
  refine Both.ro hr (v := zi σ 1 16) ?_ ?_
  · simp (disch := first | assumption | omega | (simp only [SK_zsi, SK_zsj, HK_zsi, HK_zsj]; assumption) | decide) only [s_X8_count, n0, n1, n2, n3, n4, n6, n7, n8, n9, n10, n11, n12, n13, n14, cb_some, Option.bind_some, if_true, if_false, zi_hit, zi_miss, zi_ne, zj_hit, zj_miss, zj_ne, zi_zsj, zj_zsi, zr_zsi, zr_zsj, bind_ok, ite_self, q_ck0, q_i0, q_j0, q_w0, q_wj0, q_wz0, q_r0_0, q_r0_1, q_r0_2, q_r0_3, q_r0_4, q_r0_5, q_r0_6, q_r0_7, q_r0_8, q_r0_9, q_r0_10, q_r0_11, q_ln97, q_ld97, q_st97, q_ck98, q_i98, q_j98, q_w98, q_wj98, q_wz98, q_r98_0, q_ln99, q_ld99, q_st99, q_ck100, q_i100, q_j100, q_w100, q_wj100, q_wz100, q_r100_0, q_r100_1, q_r100_2, q_r100_3, q_r100_4, q_ln101, q_ld101, q_st101, q_ln102, q_ld102, q_st102, q_ln103, q_ld103, q_st103, q_ln104, q_ld104, q_st104, q_ln105, q_ld105, q_st105, q_ck106, q_i106, q_j106, q_w106, q_wj106, q_wz106, q_r106_0, q_r106_1, q_ln107, q_ld107, q_st107, q_ln108, q_ld108, q_st108, q_ck109, q_i109, q_j109, q_w109, q_wj109, q_wz109, q_r109_0, q_ln110, q_ld110, q_st110, q_ck111, q_i111, q_j111, q_w111, q_wj111, q_wz111, q_r111_0, q_ln112, q_ld112, q_st112, q_ck113, q_i113, q_j113, q_w113, q_wj113, q_wz113, q_r113_0, q_r113_1, q_r113_2, q_r113_3, q_r113_4, q_r113_5, q_r113_6, q_ln114, q_ld114, q_st114, q_ln115, q_ld115, q_ln116, q_ld116, q_st116, q_ln117, q_ld117, q_st117, q_ln118, q_ld118, q_st118, q_ln119, q_ld119, q_st119, q_ln120, q_ld120, q_st120, q_ln121, q_ld121, q_st121, q_ln122, q_ld122, q_st122, q_ln123, q_ld123, q_st123, q_ln124, q_ld124, q_st124, q_ln58, q_ld58, q_r58_0, q_r58_1, q_r115_0, q_r115_1, q_r115_2, h_ck0, h_i0, h_w0, h_r0_0, h_r0_1, h_r0_2, h_r0_3, h_r0_4, h_r0_5, h_r0_6, h_r0_7, h_r0_8, h_r0_9, h_r0_10, h_r0_11, h_r0_12, h_ck1, h_i1, h_w1, h_r1_0, h_r1_1, h_r1_2, h_ln2, h_ld2, h_st2, h_ln3, h_ld3, h_st3, h_ln4, h_ld4, h_st4, h_ln5, h_ld5, h_st5, h_ln6, h_ld6, h_st6, h_ln7, h_ld7, h_st7, h_ln8, h_ld8, h_st8, h_ln9, h_ld9, h_st9, h_ln10, h_ld10, h_st10, h_ln11, h_ld11, h_st11, h_ln12, h_ld12, h_st12, h_ln13, h_ld13, h_st13, h_ln14, h_ld14, h_st14, h_ln15, h_ld15, h_ck16, h_i16, h_w16, h_r16_0, h_r16_1, h_ln17, h_ld17, h_st17, h_ln18, h_ld18, h_st18, ht_0, ht_1, ht_2, hs_0, hs_1, hs_2]
  · simp (disch := first | assumption | omega | (simp only [SK_zsi, SK_zsj, HK_zsi, HK_zsj]; assumption) | decide) only [s_X9_count, n0, n1, n2, n3, n4, n6, n7, n8, n9, n10, n11, n12, n13, n14, e, cb_some, Option.bind_some, if_true, if_false, zi_hit, zi_miss, zi_ne, zj_hit, zj_miss, zj_ne, zi_zsj, zj_zsi, zr_zsi, zr_zsj, bind_ok, ite_self, q_ck125, q_i125, q_j125, q_w125, q_wj125, q_wz125, q_r125_2, q_r125_3, q_r125_4, q_r125_5, q_r125_6, q_r125_7, q_r125_9, q_r125_10, q_r125_12, q_r125_22, q_r125_24, q_r125_25, q_r125_27, q_r125_28, q_r125_31, q_r125_32, q_r125_33, q_r125_35, q_r125_36, q_r125_37, q_r125_41, q_r125_42, q_r125_43, q_r125_44, q_r125_45, q_r125_46, q_r125_47, q_r125_48, q_r125_49, q_r125_55, q_ln126, q_ld126, q_st126, q_ln127, q_ld127, q_st127, q_ln128, q_ld128, q_st128, q_ln129, q_ld129, q_st129, q_ln130, q_ld130, q_st130, q_ln131, q_ld131, q_st131, q_ln132, q_ld132, q_st132, q_ln133, q_ld133, q_st133, q_ln134, q_ld134, q_st134, q_ln135, q_ld135, q_st135, q_ln136, q_ld136, q_st136, q_ln137, q_ld137, q_st137, q_ln138, q_ld138, q_st138, q_ln139, q_ld139, q_st139, q_ln140, q_ld140, q_st140, q_ln141, q_ld141, q_st141, q_ln142, q_ld142, q_st142, q_ln143, q_ld143, q_st143, q_ln144, q_ld144, q_st144, q_ln145, q_ld145, q_st145, q_ln146, q_ld146, q_st146, q_ln147, q_ld147, q_st147, q_ln148, q_ld148, q_st148, q_ln149, q_ld149, q_st149, q_ln150, q_ld150, q_st150, q_ln151, q_ld151, q_st151, q_ln152, q_ld152, q_st152, q_ln153, q_ld153, q_st153, q_ln154, q_ld154, q_st154, q_ln155, q_ld155, q_st155, rw_0, rw_1, rw_2, rw_3, rw_4, rw_5, rw_6, rw_7, rw_8, rw_9, rw_10, rs_0, rs_1, rs_2, rs_3, rs_4, rs_5, rs_6, rs_7, rs_8, rs_9, rs_10]
theorem b_count6 (hr : Rel σ) : Both (s_X8_count 0 6) (s_X9_count 125 6) σ := by
  obtain ⟨⟨hS, ⟨nt, hT⟩, hR, hM, hW, hD, hI⟩, nP, nF, nB, nT, nS, nL, B, n, hC, hU⟩ := id hr
  obtain ⟨hwf, hh, hlr, hlh⟩ := hC
  have k1 : HK 1 σ := hS.hk1
  have n0 : ¬ (6 : Int32) = 0 := by decide
  have n1 : ¬ (6 : Int32) = 1 := by decide
  have n2 : ¬ (6 : Int32) = 2 := by decide
  have n3 : ¬ (6 : Int32) = 3 := by decide
  have n4 : ¬ (6 : Int32) = 4 := by decide
  have n5 : ¬ (6 : Int32) = 5 := by decide
  have n7 : ¬ (6 : Int32) = 7 := by decide
  have n8 : ¬ (6 : Int32) = 8 := by decide
  have n9 : ¬ (6 : Int32) = 9 := by decide
  have n10 : ¬ (6 : Int32) = 10 := by decide
  have n11 : ¬ (6 : Int32) = 11 := by decide
  have n12 : ¬ (6 : Int32) = 12 := by decide
  have n13 : ¬ (6 : Int32) = 13 := by decide
  have n14 : ¬ (6 : Int32) = 14 := by decide
  have e : zi σ 127 5 = zi σ 1 17 := hh.g5.symm
  refine Both.ro hr (v := zi σ 1 17) ?_ ?_
  · simp (disch := first | assumption | omega | (simp only [SK_zsi, SK_zsj, HK_zsi, HK_zsj]; assumption) | decide) only [s_X8_count, n0, n1, n2, n3, n4, n5, n7, n8, n9, n10, n11, n12, n13, n14, cb_some, Option.bind_some, if_true, if_false, zi_hit, zi_miss, zi_ne, zj_hit, zj_miss, zj_ne, zi_zsj, zj_zsi, zr_zsi, zr_zsj, bind_ok, ite_self, q_ck0, q_i0, q_j0, q_w0, q_wj0, q_wz0, q_r0_0, q_r0_1, q_r0_2, q_r0_3, q_r0_4, q_r0_5, q_r0_6, q_r0_7, q_r0_8, q_r0_9, q_r0_10, q_r0_11, q_ln97, q_ld97, q_st97, q_ck98, q_i98, q_j98, q_w98, q_wj98, q_wz98, q_r98_0, q_ln99, q_ld99, q_st99, q_ck100, q_i100, q_j100, q_w100, q_wj100, q_wz100, q_r100_0, q_r100_1, q_r100_2, q_r100_3, q_r100_4, q_ln101, q_ld101, q_st101, q_ln102, q_ld102, q_st102, q_ln103, q_ld103, q_st103, q_ln104, q_ld104, q_st104, q_ln105, q_ld105, q_st105, q_ck106, q_i106, q_j106, q_w106, q_wj106, q_wz106, q_r106_0, q_r106_1, q_ln107, q_ld107, q_st107, q_ln108, q_ld108, q_st108, q_ck109, q_i109, q_j109, q_w109, q_wj109, q_wz109, q_r109_0, q_ln110, q_ld110, q_st110, q_ck111, q_i111, q_j111, q_w111, q_wj111, q_wz111, q_r111_0, q_ln112, q_ld112, q_st112, q_ck113, q_i113, q_j113, q_w113, q_wj113, q_wz113, q_r113_0, q_r113_1, q_r113_2, q_r113_3, q_r113_4, q_r113_5, q_r113_6, q_ln114, q_ld114, q_st114, q_ln115, q_ld115, q_ln116, q_ld116, q_st116, q_ln117, q_ld117, q_st117, q_ln118, q_ld118, q_st118, q_ln119, q_ld119, q_st119, q_ln120, q_ld120, q_st120, q_ln121, q_ld121, q_st121, q_ln122, q_ld122, q_st122, q_ln123, q_ld123, q_st123, q_ln124, q_ld124, q_st124, q_ln58, q_ld58, q_r58_0, q_r58_1, q_r115_0, q_r115_1, q_r115_2, h_ck0, h_i0, h_w0, h_r0_0, h_r0_1, h_r0_2, h_r0_3, h_r0_4, h_r0_5, h_r0_6, h_r0_7, h_r0_8, h_r0_9, h_r0_10, h_r0_11, h_r0_12, h_ck1, h_i1, h_w1, h_r1_0, h_r1_1, h_r1_2, h_ln2, h_ld2, h_st2, h_ln3, h_ld3, h_st3, h_ln4, h_ld4, h_st4, h_ln5, h_ld5, h_st5, h_ln6, h_ld6, h_st6, h_ln7, h_ld7, h_st7, h_ln8, h_ld8, h_st8, h_ln9, h_ld9, h_st9, h_ln10, h_ld10, h_st10, h_ln11, h_ld11, h_st11, h_ln12, h_ld12, h_st12, h_ln13, h_ld13, h_st13, h_ln14, h_ld14, h_st14, h_ln15, h_ld15, h_ck16, h_i16, h_w16, h_r16_0, h_r16_1, h_ln17, h_ld17, h_st17, h_ln18, h_ld18, h_st18, ht_0, ht_1, ht_2, hs_0, hs_1, hs_2]
  · simp (disch := first | assumption | omega | (simp only [SK_zsi, SK_zsj, HK_zsi, HK_zsj]; assumption) | decide) only [s_X9_count, n0, n1, n2, n3, n4, n5, n7, n8, n9, n10, n11, n12, n13, n14, e, cb_some, Option.bind_some, if_true, if_false, zi_hit, zi_miss, zi_ne, zj_hit, zj_miss, zj_ne, zi_zsj, zj_zsi, zr_zsi, zr_zsj, bind_ok, ite_self, q_ck125, q_i125, q_j125, q_w125, q_wj125, q_wz125, q_r125_2, q_r125_3, q_r125_4, q_r125_5, q_r125_6, q_r125_7, q_r125_9, q_r125_10, q_r125_12, q_r125_22, q_r125_24, q_r125_25, q_r125_27, q_r125_28, q_r125_31, q_r125_32, q_r125_33, q_r125_35, q_r125_36, q_r125_37, q_r125_41, q_r125_42, q_r125_43, q_r125_44, q_r125_45, q_r125_46, q_r125_47, q_r125_48, q_r125_49, q_r125_55, q_ln126, q_ld126, q_st126, q_ln127, q_ld127, q_st127, q_ln128, q_ld128, q_st128, q_ln129, q_ld129, q_st129, q_ln130, q_ld130, q_st130, q_ln131, q_ld131, q_st131, q_ln132, q_ld132, q_st132, q_ln133, q_ld133, q_st133, q_ln134, q_ld134, q_st134, q_ln135, q_ld135, q_st135, q_ln136, q_ld136, q_st136, q_ln137, q_ld137, q_st137, q_ln138, q_ld138, q_st138, q_ln139, q_ld139, q_st139, q_ln140, q_ld140, q_st140, q_ln141, q_ld141, q_st141, q_ln142, q_ld142, q_st142, q_ln143, q_ld143, q_st143, q_ln144, q_ld144, q_st144, q_ln145, q_ld145, q_st145, q_ln146, q_ld146, q_st146, q_ln147, q_ld147, q_st147, q_ln148, q_ld148, q_st148, q_ln149, q_ld149, q_st149, q_ln150, q_ld150, q_st150, q_ln151, q_ld151, q_st151, q_ln152, q_ld152, q_st152, q_ln153, q_ld153, q_st153, q_ln154, q_ld154, q_st154, q_ln155, q_ld155, q_st155, rw_0, rw_1, rw_2, rw_3, rw_4, rw_5, rw_6, rw_7, rw_8, rw_9, rw_10, rs_0, rs_1, rs_2, rs_3, rs_4, rs_5, rs_6, rs_7, rs_8, rs_9, rs_10]
theorem b_count7 (hr : Rel σ) : Both (s_X8_count 0 7) (s_X9_count 125 7) σ := by
  obtain ⟨⟨hS, ⟨nt, hT⟩, hR, hM, hW, hD, hI⟩, nP, nF, nB, nT, nS, nL, B, n, hC, hU⟩ := id hr
  obtain ⟨hwf, hh, hlr, hlh⟩ := hC
  have k1 : HK 1 σ := hS.hk1
  have n0 : ¬ (7 : Int32) = 0 := by decide
  have n1 : ¬ (7 : Int32) = 1 := by decide
  have n2 : ¬ (7 : Int32) = 2 := by decide
  have n3 : ¬ (7 : Int32) = 3 := by decide
  have n4 : ¬ (7 : Int32) = 4 := by decide
  have n5 : ¬ (7 : Int32) = 5 := by decide
  have n6 : ¬ (7 : Int32) = 6 := by decide
  have n8 : ¬ (7 : Int32) = 8 := by decide
  have n9 : ¬ (7 : Int32) = 9 := by decide
  have n10 : ¬ (7 : Int32) = 10 := by decide
  have n11 : ¬ (7 : Int32) = 11 := by decide
  have n12 : ¬ (7 : Int32) = 12 := by decide
  have n13 : ¬ (7 : Int32) = 13 := by decide
  have n14 : ¬ (7 : Int32) = 14 := by decide
  have e : zi σ 125 8 = zi σ 109 1 := hU.2.2.1.trans hU.2.1.symm
  refine Both.ro hr (v := zi σ 109 1) ?_ ?_
  · simp (disch := first | assumption | omega | (simp only [SK_zsi, SK_zsj, HK_zsi, HK_zsj]; assumption) | decide) only [s_X8_count, n0, n1, n2, n3, n4, n5, n6, n8, n9, n10, n11, n12, n13, n14, cb_some, Option.bind_some, if_true, if_false, zi_hit, zi_miss, zi_ne, zj_hit, zj_miss, zj_ne, zi_zsj, zj_zsi, zr_zsi, zr_zsj, bind_ok, ite_self, q_ck0, q_i0, q_j0, q_w0, q_wj0, q_wz0, q_r0_0, q_r0_1, q_r0_2, q_r0_3, q_r0_4, q_r0_5, q_r0_6, q_r0_7, q_r0_8, q_r0_9, q_r0_10, q_r0_11, q_ln97, q_ld97, q_st97, q_ck98, q_i98, q_j98, q_w98, q_wj98, q_wz98, q_r98_0, q_ln99, q_ld99, q_st99, q_ck100, q_i100, q_j100, q_w100, q_wj100, q_wz100, q_r100_0, q_r100_1, q_r100_2, q_r100_3, q_r100_4, q_ln101, q_ld101, q_st101, q_ln102, q_ld102, q_st102, q_ln103, q_ld103, q_st103, q_ln104, q_ld104, q_st104, q_ln105, q_ld105, q_st105, q_ck106, q_i106, q_j106, q_w106, q_wj106, q_wz106, q_r106_0, q_r106_1, q_ln107, q_ld107, q_st107, q_ln108, q_ld108, q_st108, q_ck109, q_i109, q_j109, q_w109, q_wj109, q_wz109, q_r109_0, q_ln110, q_ld110, q_st110, q_ck111, q_i111, q_j111, q_w111, q_wj111, q_wz111, q_r111_0, q_ln112, q_ld112, q_st112, q_ck113, q_i113, q_j113, q_w113, q_wj113, q_wz113, q_r113_0, q_r113_1, q_r113_2, q_r113_3, q_r113_4, q_r113_5, q_r113_6, q_ln114, q_ld114, q_st114, q_ln115, q_ld115, q_ln116, q_ld116, q_st116, q_ln117, q_ld117, q_st117, q_ln118, q_ld118, q_st118, q_ln119, q_ld119, q_st119, q_ln120, q_ld120, q_st120, q_ln121, q_ld121, q_st121, q_ln122, q_ld122, q_st122, q_ln123, q_ld123, q_st123, q_ln124, q_ld124, q_st124, q_ln58, q_ld58, q_r58_0, q_r58_1, q_r115_0, q_r115_1, q_r115_2, h_ck0, h_i0, h_w0, h_r0_0, h_r0_1, h_r0_2, h_r0_3, h_r0_4, h_r0_5, h_r0_6, h_r0_7, h_r0_8, h_r0_9, h_r0_10, h_r0_11, h_r0_12, h_ck1, h_i1, h_w1, h_r1_0, h_r1_1, h_r1_2, h_ln2, h_ld2, h_st2, h_ln3, h_ld3, h_st3, h_ln4, h_ld4, h_st4, h_ln5, h_ld5, h_st5, h_ln6, h_ld6, h_st6, h_ln7, h_ld7, h_st7, h_ln8, h_ld8, h_st8, h_ln9, h_ld9, h_st9, h_ln10, h_ld10, h_st10, h_ln11, h_ld11, h_st11, h_ln12, h_ld12, h_st12, h_ln13, h_ld13, h_st13, h_ln14, h_ld14, h_st14, h_ln15, h_ld15, h_ck16, h_i16, h_w16, h_r16_0, h_r16_1, h_ln17, h_ld17, h_st17, h_ln18, h_ld18, h_st18, ht_0, ht_1, ht_2, hs_0, hs_1, hs_2]
  · simp (disch := first | assumption | omega | (simp only [SK_zsi, SK_zsj, HK_zsi, HK_zsj]; assumption) | decide) only [s_X9_count, n0, n1, n2, n3, n4, n5, n6, n8, n9, n10, n11, n12, n13, n14, e, cb_some, Option.bind_some, if_true, if_false, zi_hit, zi_miss, zi_ne, zj_hit, zj_miss, zj_ne, zi_zsj, zj_zsi, zr_zsi, zr_zsj, bind_ok, ite_self, q_ck125, q_i125, q_j125, q_w125, q_wj125, q_wz125, q_r125_2, q_r125_3, q_r125_4, q_r125_5, q_r125_6, q_r125_7, q_r125_9, q_r125_10, q_r125_12, q_r125_22, q_r125_24, q_r125_25, q_r125_27, q_r125_28, q_r125_31, q_r125_32, q_r125_33, q_r125_35, q_r125_36, q_r125_37, q_r125_41, q_r125_42, q_r125_43, q_r125_44, q_r125_45, q_r125_46, q_r125_47, q_r125_48, q_r125_49, q_r125_55, q_ln126, q_ld126, q_st126, q_ln127, q_ld127, q_st127, q_ln128, q_ld128, q_st128, q_ln129, q_ld129, q_st129, q_ln130, q_ld130, q_st130, q_ln131, q_ld131, q_st131, q_ln132, q_ld132, q_st132, q_ln133, q_ld133, q_st133, q_ln134, q_ld134, q_st134, q_ln135, q_ld135, q_st135, q_ln136, q_ld136, q_st136, q_ln137, q_ld137, q_st137, q_ln138, q_ld138, q_st138, q_ln139, q_ld139, q_st139, q_ln140, q_ld140, q_st140, q_ln141, q_ld141, q_st141, q_ln142, q_ld142, q_st142, q_ln143, q_ld143, q_st143, q_ln144, q_ld144, q_st144, q_ln145, q_ld145, q_st145, q_ln146, q_ld146, q_st146, q_ln147, q_ld147, q_st147, q_ln148, q_ld148, q_st148, q_ln149, q_ld149, q_st149, q_ln150, q_ld150, q_st150, q_ln151, q_ld151, q_st151, q_ln152, q_ld152, q_st152, q_ln153, q_ld153, q_st153, q_ln154, q_ld154, q_st154, q_ln155, q_ld155, q_st155, rw_0, rw_1, rw_2, rw_3, rw_4, rw_5, rw_6, rw_7, rw_8, rw_9, rw_10, rs_0, rs_1, rs_2, rs_3, rs_4, rs_5, rs_6, rs_7, rs_8, rs_9, rs_10]
theorem b_count8 (hr : Rel σ) : Both (s_X8_count 0 8) (s_X9_count 125 8) σ := by
  obtain ⟨⟨hS, ⟨nt, hT⟩, hR, hM, hW, hD, hI⟩, nP, nF, nB, nT, nS, nL, B, n, hC, hU⟩ := id hr
  obtain ⟨hwf, hh, hlr, hlh⟩ := hC
  have k1 : HK 1 σ := hS.hk1
  have n0 : ¬ (8 : Int32) = 0 := by decide
  have n1 : ¬ (8 : Int32) = 1 := by decide
  have n2 : ¬ (8 : Int32) = 2 := by decide
  have n3 : ¬ (8 : Int32) = 3 := by decide
  have n4 : ¬ (8 : Int32) = 4 := by decide
  have n5 : ¬ (8 : Int32) = 5 := by decide
  have n6 : ¬ (8 : Int32) = 6 := by decide
  have n7 : ¬ (8 : Int32) = 7 := by decide
  have n9 : ¬ (8 : Int32) = 9 := by decide
  have n10 : ¬ (8 : Int32) = 10 := by decide
  have n11 : ¬ (8 : Int32) = 11 := by decide
  have n12 : ¬ (8 : Int32) = 12 := by decide
  have n13 : ¬ (8 : Int32) = 13 := by decide
  have n14 : ¬ (8 : Int32) = 14 := by decide
  have e : zi σ 125 13 = zi σ 98 1 := hT.2.2.1.trans hT.2.1.symm
  refine Both.ro hr (v := zi σ 98 1) ?_ ?_
  · simp (disch := first | assumption | omega | (simp only [SK_zsi, SK_zsj, HK_zsi, HK_zsj]; assumption) | decide) only [s_X8_count, n0, n1, n2, n3, n4, n5, n6, n7, n9, n10, n11, n12, n13, n14, cb_some, Option.bind_some, if_true, if_false, zi_hit, zi_miss, zi_ne, zj_hit, zj_miss, zj_ne, zi_zsj, zj_zsi, zr_zsi, zr_zsj, bind_ok, ite_self, q_ck0, q_i0, q_j0, q_w0, q_wj0, q_wz0, q_r0_0, q_r0_1, q_r0_2, q_r0_3, q_r0_4, q_r0_5, q_r0_6, q_r0_7, q_r0_8, q_r0_9, q_r0_10, q_r0_11, q_ln97, q_ld97, q_st97, q_ck98, q_i98, q_j98, q_w98, q_wj98, q_wz98, q_r98_0, q_ln99, q_ld99, q_st99, q_ck100, q_i100, q_j100, q_w100, q_wj100, q_wz100, q_r100_0, q_r100_1, q_r100_2, q_r100_3, q_r100_4, q_ln101, q_ld101, q_st101, q_ln102, q_ld102, q_st102, q_ln103, q_ld103, q_st103, q_ln104, q_ld104, q_st104, q_ln105, q_ld105, q_st105, q_ck106, q_i106, q_j106, q_w106, q_wj106, q_wz106, q_r106_0, q_r106_1, q_ln107, q_ld107, q_st107, q_ln108, q_ld108, q_st108, q_ck109, q_i109, q_j109, q_w109, q_wj109, q_wz109, q_r109_0, q_ln110, q_ld110, q_st110, q_ck111, q_i111, q_j111, q_w111, q_wj111, q_wz111, q_r111_0, q_ln112, q_ld112, q_st112, q_ck113, q_i113, q_j113, q_w113, q_wj113, q_wz113, q_r113_0, q_r113_1, q_r113_2, q_r113_3, q_r113_4, q_r113_5, q_r113_6, q_ln114, q_ld114, q_st114, q_ln115, q_ld115, q_ln116, q_ld116, q_st116, q_ln117, q_ld117, q_st117, q_ln118, q_ld118, q_st118, q_ln119, q_ld119, q_st119, q_ln120, q_ld120, q_st120, q_ln121, q_ld121, q_st121, q_ln122, q_ld122, q_st122, q_ln123, q_ld123, q_st123, q_ln124, q_ld124, q_st124, q_ln58, q_ld58, q_r58_0, q_r58_1, q_r115_0, q_r115_1, q_r115_2, h_ck0, h_i0, h_w0, h_r0_0, h_r0_1, h_r0_2, h_r0_3, h_r0_4, h_r0_5, h_r0_6, h_r0_7, h_r0_8, h_r0_9, h_r0_10, h_r0_11, h_r0_12, h_ck1, h_i1, h_w1, h_r1_0, h_r1_1, h_r1_2, h_ln2, h_ld2, h_st2, h_ln3, h_ld3, h_st3, h_ln4, h_ld4, h_st4, h_ln5, h_ld5, h_st5, h_ln6, h_ld6, h_st6, h_ln7, h_ld7, h_st7, h_ln8, h_ld8, h_st8, h_ln9, h_ld9, h_st9, h_ln10, h_ld10, h_st10, h_ln11, h_ld11, h_st11, h_ln12, h_ld12, h_st12, h_ln13, h_ld13, h_st13, h_ln14, h_ld14, h_st14, h_ln15, h_ld15, h_ck16, h_i16, h_w16, h_r16_0, h_r16_1, h_ln17, h_ld17, h_st17, h_ln18, h_ld18, h_st18, ht_0, ht_1, ht_2, hs_0, hs_1, hs_2]
  · simp (disch := first | assumption | omega | (simp only [SK_zsi, SK_zsj, HK_zsi, HK_zsj]; assumption) | decide) only [s_X9_count, n0, n1, n2, n3, n4, n5, n6, n7, n9, n10, n11, n12, n13, n14, e, cb_some, Option.bind_some, if_true, if_false, zi_hit, zi_miss, zi_ne, zj_hit, zj_miss, zj_ne, zi_zsj, zj_zsi, zr_zsi, zr_zsj, bind_ok, ite_self, q_ck125, q_i125, q_j125, q_w125, q_wj125, q_wz125, q_r125_2, q_r125_3, q_r125_4, q_r125_5, q_r125_6, q_r125_7, q_r125_9, q_r125_10, q_r125_12, q_r125_22, q_r125_24, q_r125_25, q_r125_27, q_r125_28, q_r125_31, q_r125_32, q_r125_33, q_r125_35, q_r125_36, q_r125_37, q_r125_41, q_r125_42, q_r125_43, q_r125_44, q_r125_45, q_r125_46, q_r125_47, q_r125_48, q_r125_49, q_r125_55, q_ln126, q_ld126, q_st126, q_ln127, q_ld127, q_st127, q_ln128, q_ld128, q_st128, q_ln129, q_ld129, q_st129, q_ln130, q_ld130, q_st130, q_ln131, q_ld131, q_st131, q_ln132, q_ld132, q_st132, q_ln133, q_ld133, q_st133, q_ln134, q_ld134, q_st134, q_ln135, q_ld135, q_st135, q_ln136, q_ld136, q_st136, q_ln137, q_ld137, q_st137, q_ln138, q_ld138, q_st138, q_ln139, q_ld139, q_st139, q_ln140, q_ld140, q_st140, q_ln141, q_ld141, q_st141, q_ln142, q_ld142, q_st142, q_ln143, q_ld143, q_st143, q_ln144, q_ld144, q_st144, q_ln145, q_ld145, q_st145, q_ln146, q_ld146, q_st146, q_ln147, q_ld147, q_st147, q_ln148, q_ld148, q_st148, q_ln149, q_ld149, q_st149, q_ln150, q_ld150, q_st150, q_ln151, q_ld151, q_st151, q_ln152, q_ld152, q_st152, q_ln153, q_ld153, q_st153, q_ln154, q_ld154, q_st154, q_ln155, q_ld155, q_st155, rw_0, rw_1, rw_2, rw_3, rw_4, rw_5, rw_6, rw_7, rw_8, rw_9, rw_10, rs_0, rs_1, rs_2, rs_3, rs_4, rs_5, rs_6, rs_7, rs_8, rs_9, rs_10]
theorem b_count9 (hr : Rel σ) : Both (s_X8_count 0 9) (s_X9_count 125 9) σ := by
  obtain ⟨⟨hS, ⟨nt, hT⟩, hR, hM, hW, hD, hI⟩, nP, nF, nB, nT, nS, nL, B, n, hC, hU⟩ := id hr
  obtain ⟨hwf, hh, hlr, hlh⟩ := hC
  have k1 : HK 1 σ := hS.hk1
  have n0 : ¬ (9 : Int32) = 0 := by decide
  have n1 : ¬ (9 : Int32) = 1 := by decide
  have n2 : ¬ (9 : Int32) = 2 := by decide
  have n3 : ¬ (9 : Int32) = 3 := by decide
  have n4 : ¬ (9 : Int32) = 4 := by decide
  have n5 : ¬ (9 : Int32) = 5 := by decide
  have n6 : ¬ (9 : Int32) = 6 := by decide
  have n7 : ¬ (9 : Int32) = 7 := by decide
  have n8 : ¬ (9 : Int32) = 8 := by decide
  have n10 : ¬ (9 : Int32) = 10 := by decide
  have n11 : ¬ (9 : Int32) = 11 := by decide
  have n12 : ¬ (9 : Int32) = 12 := by decide
  have n13 : ¬ (9 : Int32) = 13 := by decide
  have n14 : ¬ (9 : Int32) = 14 := by decide
  have c1 : ¬ (9 : Int32) < 9 := by decide
  have c2 : ¬ (14 : Int32) ≤ 9 := by decide
  have c3 : (9 : Int32) < 15 := by decide
  have c4 : ¬ (18 : Int32) ≤ 9 := by decide
  have s1 : (9 : Int32) - 9 = 0 := by decide
  have l8 : ldI 11 σ 124 0 = some (zi σ 124 0) := q_ld124 (n := 0) (by decide) hS
  have l9 : ldI 11 (zsi σ 125 0 0) 126 1 = some (zi (zsi σ 125 0 0) 126 1) := q_ld126 (n := 1) (by decide) hS.fz
  have e : zi σ 126 1 = zi σ 124 0 := hR.2.1.symm
  refine Both.ro hr (v := zi σ 124 0) ?_ ?_
  · simp (disch := first | assumption | omega | (simp only [SK_zsi, SK_zsj, HK_zsi, HK_zsj]; assumption) | decide) only [s_X8_count, n0, n1, n2, n3, n4, n5, n6, n7, n8, n10, n11, n12, n13, n14, c1, c2, c3, c4, s_X8_count_j159, s_X8_countFurther, s_X8_countFurther_j22, s1, l8, cb_some, Option.bind_some, if_true, if_false, zi_hit, zi_miss, zi_ne, zj_hit, zj_miss, zj_ne, zi_zsj, zj_zsi, zr_zsi, zr_zsj, bind_ok, ite_self, q_ck0, q_i0, q_j0, q_w0, q_wj0, q_wz0, q_r0_0, q_r0_1, q_r0_2, q_r0_3, q_r0_4, q_r0_5, q_r0_6, q_r0_7, q_r0_8, q_r0_9, q_r0_10, q_r0_11, q_ln97, q_ld97, q_st97, q_ck98, q_i98, q_j98, q_w98, q_wj98, q_wz98, q_r98_0, q_ln99, q_ld99, q_st99, q_ck100, q_i100, q_j100, q_w100, q_wj100, q_wz100, q_r100_0, q_r100_1, q_r100_2, q_r100_3, q_r100_4, q_ln101, q_ld101, q_st101, q_ln102, q_ld102, q_st102, q_ln103, q_ld103, q_st103, q_ln104, q_ld104, q_st104, q_ln105, q_ld105, q_st105, q_ck106, q_i106, q_j106, q_w106, q_wj106, q_wz106, q_r106_0, q_r106_1, q_ln107, q_ld107, q_st107, q_ln108, q_ld108, q_st108, q_ck109, q_i109, q_j109, q_w109, q_wj109, q_wz109, q_r109_0, q_ln110, q_ld110, q_st110, q_ck111, q_i111, q_j111, q_w111, q_wj111, q_wz111, q_r111_0, q_ln112, q_ld112, q_st112, q_ck113, q_i113, q_j113, q_w113, q_wj113, q_wz113, q_r113_0, q_r113_1, q_r113_2, q_r113_3, q_r113_4, q_r113_5, q_r113_6, q_ln114, q_ld114, q_st114, q_ln115, q_ld115, q_ln116, q_ld116, q_st116, q_ln117, q_ld117, q_st117, q_ln118, q_ld118, q_st118, q_ln119, q_ld119, q_st119, q_ln120, q_ld120, q_st120, q_ln121, q_ld121, q_st121, q_ln122, q_ld122, q_st122, q_ln123, q_ld123, q_st123, q_ln124, q_ld124, q_st124, q_ln58, q_ld58, q_r58_0, q_r58_1, q_r115_0, q_r115_1, q_r115_2, h_ck0, h_i0, h_w0, h_r0_0, h_r0_1, h_r0_2, h_r0_3, h_r0_4, h_r0_5, h_r0_6, h_r0_7, h_r0_8, h_r0_9, h_r0_10, h_r0_11, h_r0_12, h_ck1, h_i1, h_w1, h_r1_0, h_r1_1, h_r1_2, h_ln2, h_ld2, h_st2, h_ln3, h_ld3, h_st3, h_ln4, h_ld4, h_st4, h_ln5, h_ld5, h_st5, h_ln6, h_ld6, h_st6, h_ln7, h_ld7, h_st7, h_ln8, h_ld8, h_st8, h_ln9, h_ld9, h_st9, h_ln10, h_ld10, h_st10, h_ln11, h_ld11, h_st11, h_ln12, h_ld12, h_st12, h_ln13, h_ld13, h_st13, h_ln14, h_ld14, h_st14, h_ln15, h_ld15, h_ck16, h_i16, h_w16, h_r16_0, h_r16_1, h_ln17, h_ld17, h_st17, h_ln18, h_ld18, h_st18, ht_0, ht_1, ht_2, hs_0, hs_1, hs_2]
  · simp (disch := first | assumption | omega | (simp only [SK_zsi, SK_zsj, HK_zsi, HK_zsj]; assumption) | decide) only [s_X9_count, n0, n1, n2, n3, n4, n5, n6, n7, n8, n10, n11, n12, n13, n14, l9, e, cb_some, Option.bind_some, if_true, if_false, zi_hit, zi_miss, zi_ne, zj_hit, zj_miss, zj_ne, zi_zsj, zj_zsi, zr_zsi, zr_zsj, bind_ok, ite_self, q_ck125, q_i125, q_j125, q_w125, q_wj125, q_wz125, q_r125_2, q_r125_3, q_r125_4, q_r125_5, q_r125_6, q_r125_7, q_r125_9, q_r125_10, q_r125_12, q_r125_22, q_r125_24, q_r125_25, q_r125_27, q_r125_28, q_r125_31, q_r125_32, q_r125_33, q_r125_35, q_r125_36, q_r125_37, q_r125_41, q_r125_42, q_r125_43, q_r125_44, q_r125_45, q_r125_46, q_r125_47, q_r125_48, q_r125_49, q_r125_55, q_ln126, q_ld126, q_st126, q_ln127, q_ld127, q_st127, q_ln128, q_ld128, q_st128, q_ln129, q_ld129, q_st129, q_ln130, q_ld130, q_st130, q_ln131, q_ld131, q_st131, q_ln132, q_ld132, q_st132, q_ln133, q_ld133, q_st133, q_ln134, q_ld134, q_st134, q_ln135, q_ld135, q_st135, q_ln136, q_ld136, q_st136, q_ln137, q_ld137, q_st137, q_ln138, q_ld138, q_st138, q_ln139, q_ld139, q_st139, q_ln140, q_ld140, q_st140, q_ln141, q_ld141, q_st141, q_ln142, q_ld142, q_st142, q_ln143, q_ld143, q_st143, q_ln144, q_ld144, q_st144, q_ln145, q_ld145, q_st145, q_ln146, q_ld146, q_st146, q_ln147, q_ld147, q_st147, q_ln148, q_ld148, q_st148, q_ln149, q_ld149, q_st149, q_ln150, q_ld150, q_st150, q_ln151, q_ld151, q_st151, q_ln152, q_ld152, q_st152, q_ln153, q_ld153, q_st153, q_ln154, q_ld154, q_st154, q_ln155, q_ld155, q_st155, rw_0, rw_1, rw_2, rw_3, rw_4, rw_5, rw_6, rw_7, rw_8, rw_9, rw_10, rs_0, rs_1, rs_2, rs_3, rs_4, rs_5, rs_6, rs_7, rs_8, rs_9, rs_10]
theorem b_count10 (hr : Rel σ) : Both (s_X8_count 0 10) (s_X9_count 125 10) σ := by
  obtain ⟨⟨hS, ⟨nt, hT⟩, hR, hM, hW, hD, hI⟩, nP, nF, nB, nT, nS, nL, B, n, hC, hU⟩ := id hr
  obtain ⟨hwf, hh, hlr, hlh⟩ := hC
  have k1 : HK 1 σ := hS.hk1
  have n0 : ¬ (10 : Int32) = 0 := by decide
  have n1 : ¬ (10 : Int32) = 1 := by decide
  have n2 : ¬ (10 : Int32) = 2 := by decide
  have n3 : ¬ (10 : Int32) = 3 := by decide
  have n4 : ¬ (10 : Int32) = 4 := by decide
  have n5 : ¬ (10 : Int32) = 5 := by decide
  have n6 : ¬ (10 : Int32) = 6 := by decide
  have n7 : ¬ (10 : Int32) = 7 := by decide
  have n8 : ¬ (10 : Int32) = 8 := by decide
  have n9 : ¬ (10 : Int32) = 9 := by decide
  have n11 : ¬ (10 : Int32) = 11 := by decide
  have n12 : ¬ (10 : Int32) = 12 := by decide
  have n13 : ¬ (10 : Int32) = 13 := by decide
  have n14 : ¬ (10 : Int32) = 14 := by decide
  have c1 : ¬ (10 : Int32) < 9 := by decide
  have c2 : ¬ (14 : Int32) ≤ 10 := by decide
  have c3 : (10 : Int32) < 15 := by decide
  have c4 : ¬ (18 : Int32) ≤ 10 := by decide
  have s1 : (10 : Int32) - 9 = 1 := by decide
  have l8 : ldI 11 σ 124 1 = some (zi σ 124 1) := q_ld124 (n := 1) (by decide) hS
  have l9 : ldI 11 (zsi σ 125 0 0) 126 2 = some (zi (zsi σ 125 0 0) 126 2) := q_ld126 (n := 2) (by decide) hS.fz
  have e : zi σ 126 2 = zi σ 124 1 := hR.2.2.1.symm
  refine Both.ro hr (v := zi σ 124 1) ?_ ?_
  · simp (disch := first | assumption | omega | (simp only [SK_zsi, SK_zsj, HK_zsi, HK_zsj]; assumption) | decide) only [s_X8_count, n0, n1, n2, n3, n4, n5, n6, n7, n8, n9, n11, n12, n13, n14, c1, c2, c3, c4, s_X8_count_j159, s_X8_countFurther, s_X8_countFurther_j22, s1, l8, cb_some, Option.bind_some, if_true, if_false, zi_hit, zi_miss, zi_ne, zj_hit, zj_miss, zj_ne, zi_zsj, zj_zsi, zr_zsi, zr_zsj, bind_ok, ite_self, q_ck0, q_i0, q_j0, q_w0, q_wj0, q_wz0, q_r0_0, q_r0_1, q_r0_2, q_r0_3, q_r0_4, q_r0_5, q_r0_6, q_r0_7, q_r0_8, q_r0_9, q_r0_10, q_r0_11, q_ln97, q_ld97, q_st97, q_ck98, q_i98, q_j98, q_w98, q_wj98, q_wz98, q_r98_0, q_ln99, q_ld99, q_st99, q_ck100, q_i100, q_j100, q_w100, q_wj100, q_wz100, q_r100_0, q_r100_1, q_r100_2, q_r100_3, q_r100_4, q_ln101, q_ld101, q_st101, q_ln102, q_ld102, q_st102, q_ln103, q_ld103, q_st103, q_ln104, q_ld104, q_st104, q_ln105, q_ld105, q_st105, q_ck106, q_i106, q_j106, q_w106, q_wj106, q_wz106, q_r106_0, q_r106_1, q_ln107, q_ld107, q_st107, q_ln108, q_ld108, q_st108, q_ck109, q_i109, q_j109, q_w109, q_wj109, q_wz109, q_r109_0, q_ln110, q_ld110, q_st110, q_ck111, q_i111, q_j111, q_w111, q_wj111, q_wz111, q_r111_0, q_ln112, q_ld112, q_st112, q_ck113, q_i113, q_j113, q_w113, q_wj113, q_wz113, q_r113_0, q_r113_1, q_r113_2, q_r113_3, q_r113_4, q_r113_5, q_r113_6, q_ln114, q_ld114, q_st114, q_ln115, q_ld115, q_ln116, q_ld116, q_st116, q_ln117, q_ld117, q_st117, q_ln118, q_ld118, q_st118, q_ln119, q_ld119, q_st119, q_ln120, q_ld120, q_st120, q_ln121, q_ld121, q_st121, q_ln122, q_ld122, q_st122, q_ln123, q_ld123, q_st123, q_ln124, q_ld124, q_st124, q_ln58, q_ld58, q_r58_0, q_r58_1, q_r115_0, q_r115_1, q_r115_2, h_ck0, h_i0, h_w0, h_r0_0, h_r0_1, h_r0_2, h_r0_3, h_r0_4, h_r0_5, h_r0_6, h_r0_7, h_r0_8, h_r0_9, h_r0_10, h_r0_11, h_r0_12, h_ck1, h_i1, h_w1, h_r1_0, h_r1_1, h_r1_2, h_ln2, h_ld2, h_st2, h_ln3, h_ld3, h_st3, h_ln4, h_ld4, h_st4, h_ln5, h_ld5, h_st5, h_ln6, h_ld6, h_st6, h_ln7, h_ld7, h_st7, h_ln8, h_ld8, h_st8, h_ln9, h_ld9, h_st9, h_ln10, h_ld10, h_st10, h_ln11, h_ld11, h_st11, h_ln12, h_ld12, h_st12, h_ln13, h_ld13, h_st13, h_ln14, h_ld14, h_st14, h_ln15, h_ld15, h_ck16, h_i16, h_w16, h_r16_0, h_r16_1, h_ln17, h_ld17, h_st17, h_ln18, h_ld18, h_st18, ht_0, ht_1, ht_2, hs_0, hs_1, hs_2]
  · simp (disch := first | assumption | omega | (simp only [SK_zsi, SK_zsj, HK_zsi, HK_zsj]; assumption) | decide) only [s_X9_count, n0, n1, n2, n3, n4, n5, n6, n7, n8, n9, n11, n12, n13, n14, l9, e, cb_some, Option.bind_some, if_true, if_false, zi_hit, zi_miss, zi_ne, zj_hit, zj_miss, zj_ne, zi_zsj, zj_zsi, zr_zsi, zr_zsj, bind_ok, ite_self, q_ck125, q_i125, q_j125, q_w125, q_wj125, q_wz125, q_r125_2, q_r125_3, q_r125_4, q_r125_5, q_r125_6, q_r125_7, q_r125_9, q_r125_10, q_r125_12, q_r125_22, q_r125_24, q_r125_25, q_r125_27, q_r125_28, q_r125_31, q_r125_32, q_r125_33, q_r125_35, q_r125_36, q_r125_37, q_r125_41, q_r125_42, q_r125_43, q_r125_44, q_r125_45, q_r125_46, q_r125_47, q_r125_48, q_r125_49, q_r125_55, q_ln126, q_ld126, q_st126, q_ln127, q_ld127, q_st127, q_ln128, q_ld128, q_st128, q_ln129, q_ld129, q_st129, q_ln130, q_ld130, q_st130, q_ln131, q_ld131, q_st131, q_ln132, q_ld132, q_st132, q_ln133, q_ld133, q_st133, q_ln134, q_ld134, q_st134, q_ln135, q_ld135, q_st135, q_ln136, q_ld136, q_st136, q_ln137, q_ld137, q_st137, q_ln138, q_ld138, q_st138, q_ln139, q_ld139, q_st139, q_ln140, q_ld140, q_st140, q_ln141, q_ld141, q_st141, q_ln142, q_ld142, q_st142, q_ln143, q_ld143, q_st143, q_ln144, q_ld144, q_st144, q_ln145, q_ld145, q_st145, q_ln146, q_ld146, q_st146, q_ln147, q_ld147, q_st147, q_ln148, q_ld148, q_st148, q_ln149, q_ld149, q_st149, q_ln150, q_ld150, q_st150, q_ln151, q_ld151, q_st151, q_ln152, q_ld152, q_st152, q_ln153, q_ld153, q_st153, q_ln154, q_ld154, q_st154, q_ln155, q_ld155, q_st155, rw_0, rw_1, rw_2, rw_3, rw_4, rw_5, rw_6, rw_7, rw_8, rw_9, rw_10, rs_0, rs_1, rs_2, rs_3, rs_4, rs_5, rs_6, rs_7, rs_8, rs_9, rs_10]
theorem b_count11 (hr : Rel σ) : Both (s_X8_count 0 11) (s_X9_count 125 11) σ := by
  obtain ⟨⟨hS, ⟨nt, hT⟩, hR, hM, hW, hD, hI⟩, nP, nF, nB, nT, nS, nL, B, n, hC, hU⟩ := id hr
  obtain ⟨hwf, hh, hlr, hlh⟩ := hC
  have k1 : HK 1 σ := hS.hk1
  have n0 : ¬ (11 : Int32) = 0 := by decide
  have n1 : ¬ (11 : Int32) = 1 := by decide
  have n2 : ¬ (11 : Int32) = 2 := by decide
  have n3 : ¬ (11 : Int32) = 3 := by decide
  have n4 : ¬ (11 : Int32) = 4 := by decide
  have n5 : ¬ (11 : Int32) = 5 := by decide
  have n6 : ¬ (11 : Int32) = 6 := by decide
  have n7 : ¬ (11 : Int32) = 7 := by decide
  have n8 : ¬ (11 : Int32) = 8 := by decide
  have n9 : ¬ (11 : Int32) = 9 := by decide
  have n10 : ¬ (11 : Int32) = 10 := by decide
  have n12 : ¬ (11 : Int32) = 12 := by decide
  have n13 : ¬ (11 : Int32) = 13 := by decide
  have n14 : ¬ (11 : Int32) = 14 := by decide
  have c1 : ¬ (11 : Int32) < 9 := by decide
  have c2 : ¬ (14 : Int32) ≤ 11 := by decide
  have c3 : (11 : Int32) < 15 := by decide
  have c4 : ¬ (18 : Int32) ≤ 11 := by decide
  have s1 : (11 : Int32) - 9 = 2 := by decide
  have l8 : ldI 11 σ 124 2 = some (zi σ 124 2) := q_ld124 (n := 2) (by decide) hS
  have l9 : ldI 11 (zsi σ 125 0 0) 126 3 = some (zi (zsi σ 125 0 0) 126 3) := q_ld126 (n := 3) (by decide) hS.fz
  have e : zi σ 126 3 = zi σ 124 2 := hR.2.2.2.1.symm
  refine Both.ro hr (v := zi σ 124 2) ?_ ?_
  · simp (disch := first | assumption | omega | (simp only [SK_zsi, SK_zsj, HK_zsi, HK_zsj]; assumption) | decide) only [s_X8_count, n0, n1, n2, n3, n4, n5, n6, n7, n8, n9, n10, n12, n13, n14, c1, c2, c3, c4, s_X8_count_j159, s_X8_countFurther, s_X8_countFurther_j22, s1, l8, cb_some, Option.bind_some, if_true, if_false, zi_hit, zi_miss, zi_ne, zj_hit, zj_miss, zj_ne, zi_zsj, zj_zsi, zr_zsi, zr_zsj, bind_ok, ite_self, q_ck0, q_i0, q_j0, q_w0, q_wj0, q_wz0, q_r0_0, q_r0_1, q_r0_2, q_r0_3, q_r0_4, q_r0_5, q_r0_6, q_r0_7, q_r0_8, q_r0_9, q_r0_10, q_r0_11, q_ln97, q_ld97, q_st97, q_ck98, q_i98, q_j98, q_w98, q_wj98, q_wz98, q_r98_0, q_ln99, q_ld99, q_st99, q_ck100, q_i100, q_j100, q_w100, q_wj100, q_wz100, q_r100_0, q_r100_1, q_r100_2, q_r100_3, q_r100_4, q_ln101, q_ld101, q_st101, q_ln102, q_ld102, q_st102, q_ln103, q_ld103, q_st103, q_ln104, q_ld104, q_st104, q_ln105, q_ld105, q_st105, q_ck106, q_i106, q_j106, q_w106, q_wj106, q_wz106, q_r106_0, q_r106_1, q_ln107, q_ld107, q_st107, q_ln108, q_ld108, q_st108, q_ck109, q_i109, q_j109, q_w109, q_wj109, q_wz109, q_r109_0, q_ln110, q_ld110, q_st110, q_ck111, q_i111, q_j111, q_w111, q_wj111, q_wz111, q_r111_0, q_ln112, q_ld112, q_st112, q_ck113, q_i113, q_j113, q_w113, q_wj113, q_wz113, q_r113_0, q_r113_1, q_r113_2, q_r113_3, q_r113_4, q_r113_5, q_r113_6, q_ln114, q_ld114, q_st114, q_ln115, q_ld115, q_ln116, q_ld116, q_st116, q_ln117, q_ld117, q_st117, q_ln118, q_ld118, q_st118, q_ln119, q_ld119, q_st119, q_ln120, q_ld120, q_st120, q_ln121, q_ld121, q_st121, q_ln122, q_ld122, q_st122, q_ln123, q_ld123, q_st123, q_ln124, q_ld124, q_st124, q_ln58, q_ld58, q_r58_0, q_r58_1, q_r115_0, q_r115_1, q_r115_2, h_ck0, h_i0, h_w0, h_r0_0, h_r0_1, h_r0_2, h_r0_3, h_r0_4, h_r0_5, h_r0_6, h_r0_7, h_r0_8, h_r0_9, h_r0_10, h_r0_11, h_r0_12, h_ck1, h_i1, h_w1, h_r1_0, h_r1_1, h_r1_2, h_ln2, h_ld2, h_st2, h_ln3, h_ld3, h_st3, h_ln4, h_ld4, h_st4, h_ln5, h_ld5, h_st5, h_ln6, h_ld6, h_st6, h_ln7, h_ld7, h_st7, h_ln8, h_ld8, h_st8, h_ln9, h_ld9, h_st9, h_ln10, h_ld10, h_st10, h_ln11, h_ld11, h_st11, h_ln12, h_ld12, h_st12, h_ln13, h_ld13, h_st13, h_ln14, h_ld14, h_st14, h_ln15, h_ld15, h_ck16, h_i16, h_w16, h_r16_0, h_r16_1, h_ln17, h_ld17, h_st17, h_ln18, h_ld18, h_st18, ht_0, ht_1, ht_2, hs_0, hs_1, hs_2]
  · simp (disch := first | assumption | omega | (simp only [SK_zsi, SK_zsj, HK_zsi, HK_zsj]; assumption) | decide) only [s_X9_count, n0, n1, n2, n3, n4, n5, n6, n7, n8, n9, n10, n12, n13, n14, l9, e, cb_some, Option.bind_some, if_true, if_false, zi_hit, zi_miss, zi_ne, zj_hit, zj_miss, zj_ne, zi_zsj, zj_zsi, zr_zsi, zr_zsj, bind_ok, ite_self, q_ck125, q_i125, q_j125, q_w125, q_wj125, q_wz125, q_r125_2, q_r125_3, q_r125_4, q_r125_5, q_r125_6, q_r125_7, q_r125_9, q_r125_10, q_r125_12, q_r125_22, q_r125_24, q_r125_25, q_r125_27, q_r125_28, q_r125_31, q_r125_32, q_r125_33, q_r125_35, q_r125_36, q_r125_37, q_r125_41, q_r125_42, q_r125_43, q_r125_44, q_r125_45, q_r125_46, q_r125_47, q_r125_48, q_r125_49, q_r125_55, q_ln126, q_ld126, q_st126, q_ln127, q_ld127, q_st127, q_ln128, q_ld128, q_st128, q_ln129, q_ld129, q_st129, q_ln130, q_ld130, q_st130, q_ln131, q_ld131, q_st131, q_ln132, q_ld132, q_st132, q_ln133, q_ld133, q_st133, q_ln134, q_ld134, q_st134, q_ln135, q_ld135, q_st135, q_ln136, q_ld136, q_st136, q_ln137, q_ld137, q_st137, q_ln138, q_ld138, q_st138, q_ln139, q_ld139, q_st139, q_ln140, q_ld140, q_st140, q_ln141, q_ld141, q_st141, q_ln142, q_ld142, q_st142, q_ln143, q_ld143, q_st143, q_ln144, q_ld144, q_st144, q_ln145, q_ld145, q_st145, q_ln146, q_ld146, q_st146, q_ln147, q_ld147, q_st147, q_ln148, q_ld148, q_st148, q_ln149, q_ld149, q_st149, q_ln150, q_ld150, q_st150, q_ln151, q_ld151, q_st151, q_ln152, q_ld152, q_st152, q_ln153, q_ld153, q_st153, q_ln154, q_ld154, q_st154, q_ln155, q_ld155, q_st155, rw_0, rw_1, rw_2, rw_3, rw_4, rw_5, rw_6, rw_7, rw_8, rw_9, rw_10, rs_0, rs_1, rs_2, rs_3, rs_4, rs_5, rs_6, rs_7, rs_8, rs_9, rs_10]
theorem b_count12 (hr : Rel σ) : Both (s_X8_count 0 12) (s_X9_count 125 12) σ := by
  obtain ⟨⟨hS, ⟨nt, hT⟩, hR, hM, hW, hD, hI⟩, nP, nF, nB, nT, nS, nL, B, n, hC, hU⟩ := id hr
  obtain ⟨hwf, hh, hlr, hlh⟩ := hC
  have k1 : HK 1 σ := hS.hk1
  have n0 : ¬ (12 : Int32) = 0 := by decide
  have n1 : ¬ (12 : Int32) = 1 := by decide
  have n2 : ¬ (12 : Int32) = 2 := by decide
  have n3 : ¬ (12 : Int32) = 3 := by decide
  have n4 : ¬ (12 : Int32) = 4 := by decide
  have n5 : ¬ (12 : Int32) = 5 := by decide
  have n6 : ¬ (12 : Int32) = 6 := by decide
  have n7 : ¬ (12 : Int32) = 7 := by decide
  have n8 : ¬ (12 : Int32) = 8 := by decide
  have n9 : ¬ (12 : Int32) = 9 := by decide
  have n10 : ¬ (12 : Int32) = 10 := by decide
  have n11 : ¬ (12 : Int32) = 11 := by decide
  have n13 : ¬ (12 : Int32) = 13 := by decide
  have n14 : ¬ (12 : Int32) = 14 := by decide
  have c1 : ¬ (12 : Int32) < 9 := by decide
  have c2 : ¬ (14 : Int32) ≤ 12 := by decide
  have c3 : (12 : Int32) < 15 := by decide
  have c4 : ¬ (18 : Int32) ≤ 12 := by decide
  have s1 : (12 : Int32) - 9 = 3 := by decide
  have l8 : ldI 11 σ 124 3 = some (zi σ 124 3) := q_ld124 (n := 3) (by decide) hS
  have l9 : ldI 11 (zsi σ 125 0 0) 126 5 = some (zi (zsi σ 125 0 0) 126 5) := q_ld126 (n := 5) (by decide) hS.fz
  have e : zi σ 126 5 = zi σ 124 3 := hR.2.2.2.2.1.symm
  refine Both.ro hr (v := zi σ 124 3) ?_ ?_
  · simp (disch := first | assumption | omega | (simp only [SK_zsi, SK_zsj, HK_zsi, HK_zsj]; assumption) | decide) only [s_X8_count, n0, n1, n2, n3, n4, n5, n6, n7, n8, n9, n10, n11, n13, n14, c1, c2, c3, c4, s_X8_count_j159, s_X8_countFurther, s_X8_countFurther_j22, s1, l8, cb_some, Option.bind_some, if_true, if_false, zi_hit, zi_miss, zi_ne, zj_hit, zj_miss, zj_ne, zi_zsj, zj_zsi, zr_zsi, zr_zsj, bind_ok, ite_self, q_ck0, q_i0, q_j0, q_w0, q_wj0, q_wz0, q_r0_0, q_r0_1, q_r0_2, q_r0_3, q_r0_4, q_r0_5, q_r0_6, q_r0_7, q_r0_8, q_r0_9, q_r0_10, q_r0_11, q_ln97, q_ld97, q_st97, q_ck98, q_i98, q_j98, q_w98, q_wj98, q_wz98, q_r98_0, q_ln99, q_ld99, q_st99, q_ck100, q_i100, q_j100, q_w100, q_wj100, q_wz100, q_r100_0, q_r100_1, q_r100_2, q_r100_3, q_r100_4, q_ln101, q_ld101, q_st101, q_ln102, q_ld102, q_st102, q_ln103, q_ld103, q_st103, q_ln104, q_ld104, q_st104, q_ln105, q_ld105, q_st105, q_ck106, q_i106, q_j106, q_w106, q_wj106, q_wz106, q_r106_0, q_r106_1, q_ln107, q_ld107, q_st107, q_ln108, q_ld108, q_st108, q_ck109, q_i109, q_j109, q_w109, q_wj109, q_wz109, q_r109_0, q_ln110, q_ld110, q_st110, q_ck111, q_i111, q_j111, q_w111, q_wj111, q_wz111, q_r111_0, q_ln112, q_ld112, q_st112, q_ck113, q_i113, q_j113, q_w113, q_wj113, q_wz113, q_r113_0, q_r113_1, q_r113_2, q_r113_3, q_r113_4, q_r113_5, q_r113_6, q_ln114, q_ld114, q_st114, q_ln115, q_ld115, q_ln116, q_ld116, q_st116, q_ln117, q_ld117, q_st117, q_ln118, q_ld118, q_st118, q_ln119, q_ld119, q_st119, q_ln120, q_ld120, q_st120, q_ln121, q_ld121, q_st121, q_ln122, q_ld122, q_st122, q_ln123, q_ld123, q_st123, q_ln124, q_ld124, q_st124, q_ln58, q_ld58, q_r58_0, q_r58_1, q_r115_0, q_r115_1, q_r115_2, h_ck0, h_i0, h_w0, h_r0_0, h_r0_1, h_r0_2, h_r0_3, h_r0_4, h_r0_5, h_r0_6, h_r0_7, h_r0_8, h_r0_9, h_r0_10, h_r0_11, h_r0_12, h_ck1, h_i1, h_w1, h_r1_0, h_r1_1, h_r1_2, h_ln2, h_ld2, h_st2, h_ln3, h_ld3, h_st3, h_ln4, h_ld4, h_st4, h_ln5, h_ld5, h_st5, h_ln6, h_ld6, h_st6, h_ln7, h_ld7, h_st7, h_ln8, h_ld8, h_st8, h_ln9, h_ld9, h_st9, h_ln10, h_ld10, h_st10, h_ln11, h_ld11, h_st11, h_ln12, h_ld12, h_st12, h_ln13, h_ld13, h_st13, h_ln14, h_ld14, h_st14, h_ln15, h_ld15, h_ck16, h_i16, h_w16, h_r16_0, h_r16_1, h_ln17, h_ld17, h_st17, h_ln18, h_ld18, h_st18, ht_0, ht_1, ht_2, hs_0, hs_1, hs_2]
  · simp (disch := first | assumption | omega | (simp only [SK_zsi, SK_zsj, HK_zsi, HK_zsj]; assumption) | decide) only [s_X9_count, n0, n1, n2, n3, n4, n5, n6, n7, n8, n9, n10, n11, n13, n14, l9, e, cb_some, Option.bind_some, if_true, if_false, zi_hit, zi_miss, zi_ne, zj_hit, zj_miss, zj_ne, zi_zsj, zj_zsi, zr_zsi, zr_zsj, bind_ok, ite_self, q_ck125, q_i125, q_j125, q_w125, q_wj125, q_wz125, q_r125_2, q_r125_3, q_r125_4, q_r125_5, q_r125_6, q_r125_7, q_r125_9, q_r125_10, q_r125_12, q_r125_22, q_r125_24, q_r125_25, q_r125_27, q_r125_28, q_r125_31, q_r125_32, q_r125_33, q_r125_35, q_r125_36, q_r125_37, q_r125_41, q_r125_42, q_r125_43, q_r125_44, q_r125_45, q_r125_46, q_r125_47, q_r125_48, q_r125_49, q_r125_55, q_ln126, q_ld126, q_st126, q_ln127, q_ld127, q_st127, q_ln128, q_ld128, q_st128, q_ln129, q_ld129, q_st129, q_ln130, q_ld130, q_st130, q_ln131, q_ld131, q_st131, q_ln132, q_ld132, q_st132, q_ln133, q_ld133, q_st133, q_ln134, q_ld134, q_st134, q_ln135, q_ld135, q_st135, q_ln136, q_ld136, q_st136, q_ln137, q_ld137, q_st137, q_ln138, q_ld138, q_st138, q_ln139, q_ld139, q_st139, q_ln140, q_ld140, q_st140, q_ln141, q_ld141, q_st141, q_ln142, q_ld142, q_st142, q_ln143, q_ld143, q_st143, q_ln144, q_ld144, q_st144, q_ln145, q_ld145, q_st145, q_ln146, q_ld146, q_st146, q_ln147, q_ld147, q_st147, q_ln148, q_ld148, q_st148, q_ln149, q_ld149, q_st149, q_ln150, q_ld150, q_st150, q_ln151, q_ld151, q_st151, q_ln152, q_ld152, q_st152, q_ln153, q_ld153, q_st153, q_ln154, q_ld154, q_st154, q_ln155, q_ld155, q_st155, rw_0, rw_1, rw_2, rw_3, rw_4, rw_5, rw_6, rw_7, rw_8, rw_9, rw_10, rs_0, rs_1, rs_2, rs_3, rs_4, rs_5, rs_6, rs_7, rs_8, rs_9, rs_10]
theorem b_count13 (hr : Rel σ) : Both (s_X8_count 0 13) (s_X9_count 125 13) σ := by
  obtain ⟨⟨hS, ⟨nt, hT⟩, hR, hM, hW, hD, hI⟩, nP, nF, nB, nT, nS, nL, B, n, hC, hU⟩ := id hr
  obtain ⟨hwf, hh, hlr, hlh⟩ := hC
  have k1 : HK 1 σ := hS.hk1
  have n0 : ¬ (13 : Int32) = 0 := by decide
  have n1 : ¬ (13 : Int32) = 1 := by decide
  have n2 : ¬ (13 : Int32) = 2 := by decide
  have n3 : ¬ (13 : Int32) = 3 := by decide
  have n4 : ¬ (13 : Int32) = 4 := by decide
  have n5 : ¬ (13 : Int32) = 5 := by decide
  have n6 : ¬ (13 : Int32) = 6 := by decide
  have n7 : ¬ (13 : Int32) = 7 := by decide
  have n8 : ¬ (13 : Int32) = 8 := by decide
  have n9 : ¬ (13 : Int32) = 9 := by decide
  have n10 : ¬ (13 : Int32) = 10 := by decide
  have n11 : ¬ (13 : Int32) = 11 := by decide
  have n12 : ¬ (13 : Int32) = 12 := by decide
  have n14 : ¬ (13 : Int32) = 14 := by decide
  have c1 : ¬ (13 : Int32) < 9 := by decide
  have c2 : ¬ (14 : Int32) ≤ 13 := by decide
  have c3 : (13 : Int32) < 15 := by decide
  have c4 : ¬ (18 : Int32) ≤ 13 := by decide
  have s1 : (13 : Int32) - 9 = 4 := by decide
  have l8 : ldI 11 σ 124 4 = some (zi σ 124 4) := q_ld124 (n := 4) (by decide) hS
  have l9 : ldI 11 (zsi σ 125 0 0) 126 6 = some (zi (zsi σ 125 0 0) 126 6) := q_ld126 (n := 6) (by decide) hS.fz
  have e : zi σ 126 6 = zi σ 124 4 := hR.2.2.2.2.2.symm
  refine Both.ro hr (v := zi σ 124 4) ?_ ?_
  · simp (disch := first | assumption | omega | (simp only [SK_zsi, SK_zsj, HK_zsi, HK_zsj]; assumption) | decide) only [s_X8_count, n0, n1, n2, n3, n4, n5, n6, n7, n8, n9, n10, n11, n12, n14, c1, c2, c3, c4, s_X8_count_j159, s_X8_countFurther, s_X8_countFurther_j22, s1, l8, cb_some, Option.bind_some, if_true, if_false, zi_hit, zi_miss, zi_ne, zj_hit, zj_miss, zj_ne, zi_zsj, zj_zsi, zr_zsi, zr_zsj, bind_ok, ite_self, q_ck0, q_i0, q_j0, q_w0, q_wj0, q_wz0, q_r0_0, q_r0_1, q_r0_2, q_r0_3, q_r0_4, q_r0_5, q_r0_6, q_r0_7, q_r0_8, q_r0_9, q_r0_10, q_r0_11, q_ln97, q_ld97, q_st97, q_ck98, q_i98, q_j98, q_w98, q_wj98, q_wz98, q_r98_0, q_ln99, q_ld99, q_st99, q_ck100, q_i100, q_j100, q_w100, q_wj100, q_wz100, q_r100_0, q_r100_1, q_r100_2, q_r100_3, q_r100_4, q_ln101, q_ld101, q_st101, q_ln102, q_ld102, q_st102, q_ln103, q_ld103, q_st103, q_ln104, q_ld104, q_st104, q_ln105, q_ld105, q_st105, q_ck106, q_i106, q_j106, q_w106, q_wj106, q_wz106, q_r106_0, q_r106_1, q_ln107, q_ld107, q_st107, q_ln108, q_ld108, q_st108, q_ck109, q_i109, q_j109, q_w109, q_wj109, q_wz109, q_r109_0, q_ln110, q_ld110, q_st110, q_ck111, q_i111, q_j111, q_w111, q_wj111, q_wz111, q_r111_0, q_ln112, q_ld112, q_st112, q_ck113, q_i113, q_j113, q_w113, q_wj113, q_wz113, q_r113_0, q_r113_1, q_r113_2, q_r113_3, q_r113_4, q_r113_5, q_r113_6, q_ln114, q_ld114, q_st114, q_ln115, q_ld115, q_ln116, q_ld116, q_st116, q_ln117, q_ld117, q_st117, q_ln118, q_ld118, q_st118, q_ln119, q_ld119, q_st119, q_ln120, q_ld120, q_st120, q_ln121, q_ld121, q_st121, q_ln122, q_ld122, q_st122, q_ln123, q_ld123, q_st123, q_ln124, q_ld124, q_st124, q_ln58, q_ld58, q_r58_0, q_r58_1, q_r115_0, q_r115_1, q_r115_2, h_ck0, h_i0, h_w0, h_r0_0, h_r0_1, h_r0_2, h_r0_3, h_r0_4, h_r0_5, h_r0_6, h_r0_7, h_r0_8, h_r0_9, h_r0_10, h_r0_11, h_r0_12, h_ck1, h_i1, h_w1, h_r1_0, h_r1_1, h_r1_2, h_ln2, h_ld2, h_st2, h_ln3, h_ld3, h_st3, h_ln4, h_ld4, h_st4, h_ln5, h_ld5, h_st5, h_ln6, h_ld6, h_st6, h_ln7, h_ld7, h_st7, h_ln8, h_ld8, h_st8, h_ln9, h_ld9, h_st9, h_ln10, h_ld10, h_st10, h_ln11, h_ld11, h_st11, h_ln12, h_ld12, h_st12, h_ln13, h_ld13, h_st13, h_ln14, h_ld14, h_st14, h_ln15, h_ld15, h_ck16, h_i16, h_w16, h_r16_0, h_r16_1, h_ln17, h_ld17, h_st17, h_ln18, h_ld18, h_st18, ht_0, ht_1, ht_2, hs_0, hs_1, hs_2]
  · simp (disch := first | assumption | omega | (simp only [SK_zsi, SK_zsj, HK_zsi, HK_zsj]; assumption) | decide) only [s_X9_count, n0, n1, n2, n3, n4, n5, n6, n7, n8, n9, n10, n11, n12, n14, l9, e, cb_some, Option.bind_some, if_true, if_false, zi_hit, zi_miss, zi_ne, zj_hit, zj_miss, zj_ne, zi_zsj, zj_zsi, zr_zsi, zr_zsj, bind_ok, ite_self, q_ck125, q_i125, q_j125, q_w125, q_wj125, q_wz125, q_r125_2, q_r125_3, q_r125_4, q_r125_5, q_r125_6, q_r125_7, q_r125_9, q_r125_10, q_r125_12, q_r125_22, q_r125_24, q_r125_25, q_r125_27, q_r125_28, q_r125_31, q_r125_32, q_r125_33, q_r125_35, q_r125_36, q_r125_37, q_r125_41, q_r125_42, q_r125_43, q_r125_44, q_r125_45, q_r125_46, q_r125_47, q_r125_48, q_r125_49, q_r125_55, q_ln126, q_ld126, q_st126, q_ln127, q_ld127, q_st127, q_ln128, q_ld128, q_st128, q_ln129, q_ld129, q_st129, q_ln130, q_ld130, q_st130, q_ln131, q_ld131, q_st131, q_ln132, q_ld132, q_st132, q_ln133, q_ld133, q_st133, q_ln134, q_ld134, q_st134, q_ln135, q_ld135, q_st135, q_ln136, q_ld136, q_st136, q_ln137, q_ld137, q_st137, q_ln138, q_ld138, q_st138, q_ln139, q_ld139, q_st139, q_ln140, q_ld140, q_st140, q_ln141, q_ld141, q_st141, q_ln142, q_ld142, q_st142, q_ln143, q_ld143, q_st143, q_ln144, q_ld144, q_st144, q_ln145, q_ld145, q_st145, q_ln146, q_ld146, q_st146, q_ln147, q_ld147, q_st147, q_ln148, q_ld148, q_st148, q_ln149, q_ld149, q_st149, q_ln150, q_ld150, q_st150, q_ln151, q_ld151, q_st151, q_ln152, q_ld152, q_st152, q_ln153, q_ld153, q_st153, q_ln154, q_ld154, q_st154, q_ln155, q_ld155, q_st155, rw_0, rw_1, rw_2, rw_3, rw_4, rw_5, rw_6, rw_7, rw_8, rw_9, rw_10, rs_0, rs_1, rs_2, rs_3, rs_4, rs_5, rs_6, rs_7, rs_8, rs_9, rs_10]
theorem b_count14 (hr : Rel σ) : Both (s_X8_count 0 14) (s_X9_count 125 14) σ := by
  obtain ⟨⟨hS, ⟨nt, hT⟩, hR, hM, hW, hD, hI⟩, nP, nF, nB, nT, nS, nL, B, n, hC, hU⟩ := id hr
  obtain ⟨hwf, hh, hlr, hlh⟩ := hC
  have k1 : HK 1 σ := hS.hk1
  have n0 : ¬ (14 : Int32) = 0 := by decide
  have n1 : ¬ (14 : Int32) = 1 := by decide
  have n2 : ¬ (14 : Int32) = 2 := by decide
  have n3 : ¬ (14 : Int32) = 3 := by decide
  have n4 : ¬ (14 : Int32) = 4 := by decide
  have n5 : ¬ (14 : Int32) = 5 := by decide
  have n6 : ¬ (14 : Int32) = 6 := by decide
  have n7 : ¬ (14 : Int32) = 7 := by decide
  have n8 : ¬ (14 : Int32) = 8 := by decide
  have n9 : ¬ (14 : Int32) = 9 := by decide
  have n10 : ¬ (14 : Int32) = 10 := by decide
  have n11 : ¬ (14 : Int32) = 11 := by decide
  have n12 : ¬ (14 : Int32) = 12 := by decide
  have n13 : ¬ (14 : Int32) = 13 := by decide
  have e : zi σ 127 6 = zi σ 1 19 := hh.g6.symm
  refine Both.ro hr (v := zi σ 1 19) ?_ ?_
  · simp (disch := first | assumption | omega | (simp only [SK_zsi, SK_zsj, HK_zsi, HK_zsj]; assumption) | decide) only [s_X8_count, n0, n1, n2, n3, n4, n5, n6, n7, n8, n9, n10, n11, n12, n13, cb_some, Option.bind_some, if_true, if_false, zi_hit, zi_miss, zi_ne, zj_hit, zj_miss, zj_ne, zi_zsj, zj_zsi, zr_zsi, zr_zsj, bind_ok, ite_self, q_ck0, q_i0, q_j0, q_w0, q_wj0, q_wz0, q_r0_0, q_r0_1, q_r0_2, q_r0_3, q_r0_4, q_r0_5, q_r0_6, q_r0_7, q_r0_8, q_r0_9, q_r0_10, q_r0_11, q_ln97, q_ld97, q_st97, q_ck98, q_i98, q_j98, q_w98, q_wj98, q_wz98, q_r98_0, q_ln99, q_ld99, q_st99, q_ck100, q_i100, q_j100, q_w100, q_wj100, q_wz100, q_r100_0, q_r100_1, q_r100_2, q_r100_3, q_r100_4, q_ln101, q_ld101, q_st101, q_ln102, q_ld102, q_st102, q_ln103, q_ld103, q_st103, q_ln104, q_ld104, q_st104, q_ln105, q_ld105, q_st105, q_ck106, q_i106, q_j106, q_w106, q_wj106, q_wz106, q_r106_0, q_r106_1, q_ln107, q_ld107, q_st107, q_ln108, q_ld108, q_st108, q_ck109, q_i109, q_j109, q_w109, q_wj109, q_wz109, q_r109_0, q_ln110, q_ld110, q_st110, q_ck111, q_i111, q_j111, q_w111, q_wj111, q_wz111, q_r111_0, q_ln112, q_ld112, q_st112, q_ck113, q_i113, q_j113, q_w113, q_wj113, q_wz113, q_r113_0, q_r113_1, q_r113_2, q_r113_3, q_r113_4, q_r113_5, q_r113_6, q_ln114, q_ld114, q_st114, q_ln115, q_ld115, q_ln116, q_ld116, q_st116, q_ln117, q_ld117, q_st117, q_ln118, q_ld118, q_st118, q_ln119, q_ld119, q_st119, q_ln120, q_ld120, q_st120, q_ln121, q_ld121, q_st121, q_ln122, q_ld122, q_st122, q_ln123, q_ld123, q_st123, q_ln124, q_ld124, q_st124, q_ln58, q_ld58, q_r58_0, q_r58_1, q_r115_0, q_r115_1, q_r115_2, h_ck0, h_i0, h_w0, h_r0_0, h_r0_1, h_r0_2, h_r0_3, h_r0_4, h_r0_5, h_r0_6, h_r0_7, h_r0_8, h_r0_9, h_r0_10, h_r0_11, h_r0_12, h_ck1, h_i1, h_w1, h_r1_0, h_r1_1, h_r1_2, h_ln2, h_ld2, h_st2, h_ln3, h_ld3, h_st3, h_ln4, h_ld4, h_st4, h_ln5, h_ld5, h_st5, h_ln6, h_ld6, h_st6, h_ln7, h_ld7, h_st7, h_ln8, h_ld8, h_st8, h_ln9, h_ld9, h_st9, h_ln10, h_ld10, h_st10, h_ln11, h_ld11, h_st11, h_ln12, h_ld12, h_st12, h_ln13, h_ld13, h_st13, h_ln14, h_ld14, h_st14, h_ln15, h_ld15, h_ck16, h_i16, h_w16, h_r16_0, h_r16_1, h_ln17, h_ld17, h_st17, h_ln18, h_ld18, h_st18, ht_0, ht_1, ht_2, hs_0, hs_1, hs_2]
  · simp (disch := first | assumption | omega | (simp only [SK_zsi, SK_zsj, HK_zsi, HK_zsj]; assumption) | decide) only [s_X9_count, n0, n1, n2, n3, n4, n5, n6, n7, n8, n9, n10, n11, n12, n13, e, cb_some, Option.bind_some, if_true, if_false, zi_hit, zi_miss, zi_ne, zj_hit, zj_miss, zj_ne, zi_zsj, zj_zsi, zr_zsi, zr_zsj, bind_ok, ite_self, q_ck125, q_i125, q_j125, q_w125, q_wj125, q_wz125, q_r125_2, q_r125_3, q_r125_4, q_r125_5, q_r125_6, q_r125_7, q_r125_9, q_r125_10, q_r125_12, q_r125_22, q_r125_24, q_r125_25, q_r125_27, q_r125_28, q_r125_31, q_r125_32, q_r125_33, q_r125_35, q_r125_36, q_r125_37, q_r125_41, q_r125_42, q_r125_43, q_r125_44, q_r125_45, q_r125_46, q_r125_47, q_r125_48, q_r125_49, q_r125_55, q_ln126, q_ld126, q_st126, q_ln127, q_ld127, q_st127, q_ln128, q_ld128, q_st128, q_ln129, q_ld129, q_st129, q_ln130, q_ld130, q_st130, q_ln131, q_ld131, q_st131, q_ln132, q_ld132, q_st132, q_ln133, q_ld133, q_st133, q_ln134, q_ld134, q_st134, q_ln135, q_ld135, q_st135, q_ln136, q_ld136, q_st136, q_ln137, q_ld137, q_st137, q_ln138, q_ld138, q_st138, q_ln139, q_ld139, q_st139, q_ln140, q_ld140, q_st140, q_ln141, q_ld141, q_st141, q_ln142, q_ld142, q_st142, q_ln143, q_ld143, q_st143, q_ln144, q_ld144, q_st144, q_ln145, q_ld145, q_st145, q_ln146, q_ld146, q_st146, q_ln147, q_ld147, q_st147, q_ln148, q_ld148, q_st148, q_ln149, q_ld149, q_st149, q_ln150, q_ld150, q_st150, q_ln151, q_ld151, q_st151, q_ln152, q_ld152, q_st152, q_ln153, q_ld153, q_st153, q_ln154, q_ld154, q_st154, q_ln155, q_ld155, q_st155, rw_0, rw_1, rw_2, rw_3, rw_4, rw_5, rw_6, rw_7, rw_8, rw_9, rw_10, rs_0, rs_1, rs_2, rs_3, rs_4, rs_5, rs_6, rs_7, rs_8, rs_9, rs_10]
theorem b_count15 (hr : Rel σ) : Both (s_X8_count 0 15) (s_X9_count 125 15) σ := by
  obtain ⟨⟨hS, ⟨nt, hT⟩, hR, hM, hW, hD, hI⟩, nP, nF, nB, nT, nS, nL, B, n, hC, hU⟩ := id hr
  obtain ⟨hwf, hh, hlr, hlh⟩ := hC
  have k1 : HK 1 σ := hS.hk1
  have n0 : ¬ (15 : Int32) = 0 := by decide
  have n1 : ¬ (15 : Int32) = 1 := by decide
  have n2 : ¬ (15 : Int32) = 2 := by decide
  have n3 : ¬ (15 : Int32) = 3 := by decide
  have n4 : ¬ (15 : Int32) = 4 := by decide
  have n5 : ¬ (15 : Int32) = 5 := by decide
  have n6 : ¬ (15 : Int32) = 6 := by decide
  have n7 : ¬ (15 : Int32) = 7 := by decide
  have n8 : ¬ (15 : Int32) = 8 := by decide
  have n9 : ¬ (15 : Int32) = 9 := by decide
  have n10 : ¬ (15 : Int32) = 10 := by decide
  have n11 : ¬ (15 : Int32) = 11 := by decide
  have n12 : ¬ (15 : Int32) = 12 := by decide
  have n13 : ¬ (15 : Int32) = 13 := by decide
  have n14 : ¬ (15 : Int32) = 14 := by decide
  have c1 : ¬ (15 : Int32) < 9 := by decide
  have c2 : (14 : Int32) ≤ 15 := by decide
  have c3 : ¬ (15 : Int32) < 15 := by decide
  have c4 : ¬ (18 : Int32) ≤ 15 := by decide
  have s1 : (15 : Int32) - 15 = 0 := by decide
  have s2 : (7 : Int32) + 15 - 15 = 7 := by decide
  have o1 : ¬ (1 : Int32) = 0 := by decide
  have i9 : s_X9_in (Int32.toInt64 15) 15 17 (zsi σ 125 0 0) = some (1, zsi σ 125 0 0) := in_t (by decide) (by decide)
  have e : zi σ 127 7 = zi σ (1 + 14) 0 := hh.g7.symm
  refine Both.ro hr (v := zi σ (1 + 14) 0) ?_ ?_
  · simp (disch := first | assumption | omega | (simp only [SK_zsi, SK_zsj, HK_zsi, HK_zsj]; assumption) | decide) only [s_X8_count, n0, n1, n2, n3, n4, n5, n6, n7, n8, n9, n10, n11, n12, n13, n14, c1, c2, c3, c4, s_X8_count_j159, s_X8_countFurther, s_X8_countFurther_j22, s1, cb_some, Option.bind_some, if_true, if_false, zi_hit, zi_miss, zi_ne, zj_hit, zj_miss, zj_ne, zi_zsj, zj_zsi, zr_zsi, zr_zsj, bind_ok, ite_self, q_ck0, q_i0, q_j0, q_w0, q_wj0, q_wz0, q_r0_0, q_r0_1, q_r0_2, q_r0_3, q_r0_4, q_r0_5, q_r0_6, q_r0_7, q_r0_8, q_r0_9, q_r0_10, q_r0_11, q_ln97, q_ld97, q_st97, q_ck98, q_i98, q_j98, q_w98, q_wj98, q_wz98, q_r98_0, q_ln99, q_ld99, q_st99, q_ck100, q_i100, q_j100, q_w100, q_wj100, q_wz100, q_r100_0, q_r100_1, q_r100_2, q_r100_3, q_r100_4, q_ln101, q_ld101, q_st101, q_ln102, q_ld102, q_st102, q_ln103, q_ld103, q_st103, q_ln104, q_ld104, q_st104, q_ln105, q_ld105, q_st105, q_ck106, q_i106, q_j106, q_w106, q_wj106, q_wz106, q_r106_0, q_r106_1, q_ln107, q_ld107, q_st107, q_ln108, q_ld108, q_st108, q_ck109, q_i109, q_j109, q_w109, q_wj109, q_wz109, q_r109_0, q_ln110, q_ld110, q_st110, q_ck111, q_i111, q_j111, q_w111, q_wj111, q_wz111, q_r111_0, q_ln112, q_ld112, q_st112, q_ck113, q_i113, q_j113, q_w113, q_wj113, q_wz113, q_r113_0, q_r113_1, q_r113_2, q_r113_3, q_r113_4, q_r113_5, q_r113_6, q_ln114, q_ld114, q_st114, q_ln115, q_ld115, q_ln116, q_ld116, q_st116, q_ln117, q_ld117, q_st117, q_ln118, q_ld118, q_st118, q_ln119, q_ld119, q_st119, q_ln120, q_ld120, q_st120, q_ln121, q_ld121, q_st121, q_ln122, q_ld122, q_st122, q_ln123, q_ld123, q_st123, q_ln124, q_ld124, q_st124, q_ln58, q_ld58, q_r58_0, q_r58_1, q_r115_0, q_r115_1, q_r115_2, h_ck0, h_i0, h_w0, h_r0_0, h_r0_1, h_r0_2, h_r0_3, h_r0_4, h_r0_5, h_r0_6, h_r0_7, h_r0_8, h_r0_9, h_r0_10, h_r0_11, h_r0_12, h_ck1, h_i1, h_w1, h_r1_0, h_r1_1, h_r1_2, h_ln2, h_ld2, h_st2, h_ln3, h_ld3, h_st3, h_ln4, h_ld4, h_st4, h_ln5, h_ld5, h_st5, h_ln6, h_ld6, h_st6, h_ln7, h_ld7, h_st7, h_ln8, h_ld8, h_st8, h_ln9, h_ld9, h_st9, h_ln10, h_ld10, h_st10, h_ln11, h_ld11, h_st11, h_ln12, h_ld12, h_st12, h_ln13, h_ld13, h_st13, h_ln14, h_ld14, h_st14, h_ln15, h_ld15, h_ck16, h_i16, h_w16, h_r16_0, h_r16_1, h_ln17, h_ld17, h_st17, h_ln18, h_ld18, h_st18, ht_0, ht_1, ht_2, hs_0, hs_1, hs_2]
  · simp (disch := first | assumption | omega | (simp only [SK_zsi, SK_zsj, HK_zsi, HK_zsj]; assumption) | decide) only [s_X9_count, n0, n1, n2, n3, n4, n5, n6, n7, n8, n9, n10, n11, n12, n13, n14, s2, i9, o1, e, cb_some, Option.bind_some, if_true, if_false, zi_hit, zi_miss, zi_ne, zj_hit, zj_miss, zj_ne, zi_zsj, zj_zsi, zr_zsi, zr_zsj, bind_ok, ite_self, q_ck125, q_i125, q_j125, q_w125, q_wj125, q_wz125, q_r125_2, q_r125_3, q_r125_4, q_r125_5, q_r125_6, q_r125_7, q_r125_9, q_r125_10, q_r125_12, q_r125_22, q_r125_24, q_r125_25, q_r125_27, q_r125_28, q_r125_31, q_r125_32, q_r125_33, q_r125_35, q_r125_36, q_r125_37, q_r125_41, q_r125_42, q_r125_43, q_r125_44, q_r125_45, q_r125_46, q_r125_47, q_r125_48, q_r125_49, q_r125_55, q_ln126, q_ld126, q_st126, q_ln127, q_ld127, q_st127, q_ln128, q_ld128, q_st128, q_ln129, q_ld129, q_st129, q_ln130, q_ld130, q_st130, q_ln131, q_ld131, q_st131, q_ln132, q_ld132, q_st132, q_ln133, q_ld133, q_st133, q_ln134, q_ld134, q_st134, q_ln135, q_ld135, q_st135, q_ln136, q_ld136, q_st136, q_ln137, q_ld137, q_st137, q_ln138, q_ld138, q_st138, q_ln139, q_ld139, q_st139, q_ln140, q_ld140, q_st140, q_ln141, q_ld141, q_st141, q_ln142, q_ld142, q_st142, q_ln143, q_ld143, q_st143, q_ln144, q_ld144, q_st144, q_ln145, q_ld145, q_st145, q_ln146, q_ld146, q_st146, q_ln147, q_ld147, q_st147, q_ln148, q_ld148, q_st148, q_ln149, q_ld149, q_st149, q_ln150, q_ld150, q_st150, q_ln151, q_ld151, q_st151, q_ln152, q_ld152, q_st152, q_ln153, q_ld153, q_st153, q_ln154, q_ld154, q_st154, q_ln155, q_ld155, q_st155, rw_0, rw_1, rw_2, rw_3, rw_4, rw_5, rw_6, rw_7, rw_8, rw_9, rw_10, rs_0, rs_1, rs_2, rs_3, rs_4, rs_5, rs_6, rs_7, rs_8, rs_9, rs_10]
theorem b_count16 (hr : Rel σ) : Both (s_X8_count 0 16) (s_X9_count 125 16) σ := by
  obtain ⟨⟨hS, ⟨nt, hT⟩, hR, hM, hW, hD, hI⟩, nP, nF, nB, nT, nS, nL, B, n, hC, hU⟩ := id hr
  obtain ⟨hwf, hh, hlr, hlh⟩ := hC
  have k1 : HK 1 σ := hS.hk1
  have n0 : ¬ (16 : Int32) = 0 := by decide
  have n1 : ¬ (16 : Int32) = 1 := by decide
  have n2 : ¬ (16 : Int32) = 2 := by decide
  have n3 : ¬ (16 : Int32) = 3 := by decide
  have n4 : ¬ (16 : Int32) = 4 := by decide
  have n5 : ¬ (16 : Int32) = 5 := by decide
  have n6 : ¬ (16 : Int32) = 6 := by decide
  have n7 : ¬ (16 : Int32) = 7 := by decide
  have n8 : ¬ (16 : Int32) = 8 := by decide
  have n9 : ¬ (16 : Int32) = 9 := by decide
  have n10 : ¬ (16 : Int32) = 10 := by decide
  have n11 : ¬ (16 : Int32) = 11 := by decide
  have n12 : ¬ (16 : Int32) = 12 := by decide
  have n13 : ¬ (16 : Int32) = 13 := by decide
  have n14 : ¬ (16 : Int32) = 14 := by decide
  have c1 : ¬ (16 : Int32) < 9 := by decide
  have c2 : (14 : Int32) ≤ 16 := by decide
  have c3 : ¬ (16 : Int32) < 15 := by decide
  have c4 : ¬ (18 : Int32) ≤ 16 := by decide
  have s1 : (16 : Int32) - 15 = 1 := by decide
  have s2 : (7 : Int32) + 16 - 15 = 8 := by decide
  have o1 : ¬ (1 : Int32) = 0 := by decide
  have i9 : s_X9_in (Int32.toInt64 16) 15 17 (zsi σ 125 0 0) = some (1, zsi σ 125 0 0) := in_t (by decide) (by decide)
  have e : zi σ 127 8 = zi σ (1 + 14) 1 := hh.g8.symm
  refine Both.ro hr (v := zi σ (1 + 14) 1) ?_ ?_
  · simp (disch := first | assumption | omega | (simp only [SK_zsi, SK_zsj, HK_zsi, HK_zsj]; assumption) | decide) only [s_X8_count, n0, n1, n2, n3, n4, n5, n6, n7, n8, n9, n10, n11, n12, n13, n14, c1, c2, c3, c4, s_X8_count_j159, s_X8_countFurther, s_X8_countFurther_j22, s1, cb_some, Option.bind_some, if_true, if_false, zi_hit, zi_miss, zi_ne, zj_hit, zj_miss, zj_ne, zi_zsj, zj_zsi, zr_zsi, zr_zsj, bind_ok, ite_self, q_ck0, q_i0, q_j0, q_w0, q_wj0, q_wz0, q_r0_0, q_r0_1, q_r0_2, q_r0_3, q_r0_4, q_r0_5, q_r0_6, q_r0_7, q_r0_8, q_r0_9, q_r0_10, q_r0_11, q_ln97, q_ld97, q_st97, q_ck98, q_i98, q_j98, q_w98, q_wj98, q_wz98, q_r98_0, q_ln99, q_ld99, q_st99, q_ck100, q_i100, q_j100, q_w100, q_wj100, q_wz100, q_r100_0, q_r100_1, q_r100_2, q_r100_3, q_r100_4, q_ln101, q_ld101, q_st101, q_ln102, q_ld102, q_st102, q_ln103, q_ld103, q_st103, q_ln104, q_ld104, q_st104, q_ln105, q_ld105, q_st105, q_ck106, q_i106, q_j106, q_w106, q_wj106, q_wz106, q_r106_0, q_r106_1, q_ln107, q_ld107, q_st107, q_ln108, q_ld108, q_st108, q_ck109, q_i109, q_j109, q_w109, q_wj109, q_wz109, q_r109_0, q_ln110, q_ld110, q_st110, q_ck111, q_i111, q_j111, q_w111, q_wj111, q_wz111, q_r111_0, q_ln112, q_ld112, q_st112, q_ck113, q_i113, q_j113, q_w113, q_wj113, q_wz113, q_r113_0, q_r113_1, q_r113_2, q_r113_3, q_r113_4, q_r113_5, q_r113_6, q_ln114, q_ld114, q_st114, q_ln115, q_ld115, q_ln116, q_ld116, q_st116, q_ln117, q_ld117, q_st117, q_ln118, q_ld118, q_st118, q_ln119, q_ld119, q_st119, q_ln120, q_ld120, q_st120, q_ln121, q_ld121, q_st121, q_ln122, q_ld122, q_st122, q_ln123, q_ld123, q_st123, q_ln124, q_ld124, q_st124, q_ln58, q_ld58, q_r58_0, q_r58_1, q_r115_0, q_r115_1, q_r115_2, h_ck0, h_i0, h_w0, h_r0_0, h_r0_1, h_r0_2, h_r0_3, h_r0_4, h_r0_5, h_r0_6, h_r0_7, h_r0_8, h_r0_9, h_r0_10, h_r0_11, h_r0_12, h_ck1, h_i1, h_w1, h_r1_0, h_r1_1, h_r1_2, h_ln2, h_ld2, h_st2, h_ln3, h_ld3, h_st3, h_ln4, h_ld4, h_st4, h_ln5, h_ld5, h_st5, h_ln6, h_ld6, h_st6, h_ln7, h_ld7, h_st7, h_ln8, h_ld8, h_st8, h_ln9, h_ld9, h_st9, h_ln10, h_ld10, h_st10, h_ln11, h_ld11, h_st11, h_ln12, h_ld12, h_st12, h_ln13, h_ld13, h_st13, h_ln14, h_ld14, h_st14, h_ln15, h_ld15, h_ck16, h_i16, h_w16, h_r16_0, h_r16_1, h_ln17, h_ld17, h_st17, h_ln18, h_ld18, h_st18, ht_0, ht_1, ht_2, hs_0, hs_1, hs_2]
  · simp (disch := first | assumption | omega | (simp only [SK_zsi, SK_zsj, HK_zsi, HK_zsj]; assumption) | decide) only [s_X9_count, n0, n1, n2, n3, n4, n5, n6, n7, n8, n9, n10, n11, n12, n13, n14, s2, i9, o1, e, cb_some, Option.bind_some, if_true, if_false, zi_hit, zi_miss, zi_ne, zj_hit, zj_miss, zj_ne, zi_zsj, zj_zsi, zr_zsi, zr_zsj, bind_ok, ite_self, q_ck125, q_i125, q_j125, q_w125, q_wj125, q_wz125, q_r125_2, q_r125_3, q_r125_4, q_r125_5, q_r125_6, q_r125_7, q_r125_9, q_r125_10, q_r125_12, q_r125_22, q_r125_24, q_r125_25, q_r125_27, q_r125_28, q_r125_31, q_r125_32, q_r125_33, q_r125_35, q_r125_36, q_r125_37, q_r125_41, q_r125_42, q_r125_43, q_r125_44, q_r125_45, q_r125_46, q_r125_47, q_r125_48, q_r125_49, q_r125_55, q_ln126, q_ld126, q_st126, q_ln127, q_ld127, q_st127, q_ln128, q_ld128, q_st128, q_ln129, q_ld129, q_st129, q_ln130, q_ld130, q_st130, q_ln131, q_ld131, q_st131, q_ln132, q_ld132, q_st132, q_ln133, q_ld133, q_st133, q_ln134, q_ld134, q_st134, q_ln135, q_ld135, q_st135, q_ln136, q_ld136, q_st136, q_ln137, q_ld137, q_st137, q_ln138, q_ld138, q_st138, q_ln139, q_ld139, q_st139, q_ln140, q_ld140, q_st140, q_ln141, q_ld141, q_st141, q_ln142, q_ld142, q_st142, q_ln143, q_ld143, q_st143, q_ln144, q_ld144, q_st144, q_ln145, q_ld145, q_st145, q_ln146, q_ld146, q_st146, q_ln147, q_ld147, q_st147, q_ln148, q_ld148, q_st148, q_ln149, q_ld149, q_st149, q_ln150, q_ld150, q_st150, q_ln151, q_ld151, q_st151, q_ln152, q_ld152, q_st152, q_ln153, q_ld153, q_st153, q_ln154, q_ld154, q_st154, q_ln155, q_ld155, q_st155, rw_0, rw_1, rw_2, rw_3, rw_4, rw_5, rw_6, rw_7, rw_8, rw_9, rw_10, rs_0, rs_1, rs_2, rs_3, rs_4, rs_5, rs_6, rs_7, rs_8, rs_9, rs_10]
theorem b_count17 (hr : Rel σ) : Both (s_X8_count 0 17) (s_X9_count 125 17) σ := by
  obtain ⟨⟨hS, ⟨nt, hT⟩, hR, hM, hW, hD, hI⟩, nP, nF, nB, nT, nS, nL, B, n, hC, hU⟩ := id hr
  obtain ⟨hwf, hh, hlr, hlh⟩ := hC
  have k1 : HK 1 σ := hS.hk1
  have n0 : ¬ (17 : Int32) = 0 := by decide
  have n1 : ¬ (17 : Int32) = 1 := by decide
  have n2 : ¬ (17 : Int32) = 2 := by decide
  have n3 : ¬ (17 : Int32) = 3 := by decide
  have n4 : ¬ (17 : Int32) = 4 := by decide
  have n5 : ¬ (17 : Int32) = 5 := by decide
  have n6 : ¬ (17 : Int32) = 6 := by decide
  have n7 : ¬ (17 : Int32) = 7 := by decide
  have n8 : ¬ (17 : Int32) = 8 := by decide
  have n9 : ¬ (17 : Int32) = 9 := by decide
  have n10 : ¬ (17 : Int32) = 10 := by decide
  have n11 : ¬ (17 : Int32) = 11 := by decide
  have n12 : ¬ (17 : Int32) = 12 := by decide
  have n13 : ¬ (17 : Int32) = 13 := by decide
  have n14 : ¬ (17 : Int32) = 14 := by decide
  have c1 : ¬ (17 : Int32) < 9 := by decide
  have c2 : (14 : Int32) ≤ 17 := by decide
  have c3 : ¬ (17 : Int32) < 15 := by decide
  have c4 : ¬ (18 : Int32) ≤ 17 := by decide
  have s1 : (17 : Int32) - 15 = 2 := by decide
  have s2 : (7 : Int32) + 17 - 15 = 9 := by decide
  have o1 : ¬ (1 : Int32) = 0 := by decide
  have i9 : s_X9_in (Int32.toInt64 17) 15 17 (zsi σ 125 0 0) = some (1, zsi σ 125 0 0) := in_t (by decide) (by decide)
  have e : zi σ 127 9 = zi σ (1 + 14) 2 := hh.g9.symm
  refine Both.ro hr (v := zi σ (1 + 14) 2) ?_ ?_
  · simp (disch := first | assumption | omega | (simp only [SK_zsi, SK_zsj, HK_zsi, HK_zsj]; assumption) | decide) only [s_X8_count, n0, n1, n2, n3, n4, n5, n6, n7, n8, n9, n10, n11, n12, n13, n14, c1, c2, c3, c4, s_X8_count_j159, s_X8_countFurther, s_X8_countFurther_j22, s1, cb_some, Option.bind_some, if_true, if_false, zi_hit, zi_miss, zi_ne, zj_hit, zj_miss, zj_ne, zi_zsj, zj_zsi, zr_zsi, zr_zsj, bind_ok, ite_self, q_ck0, q_i0, q_j0, q_w0, q_wj0, q_wz0, q_r0_0, q_r0_1, q_r0_2, q_r0_3, q_r0_4, q_r0_5, q_r0_6, q_r0_7, q_r0_8, q_r0_9, q_r0_10, q_r0_11, q_ln97, q_ld97, q_st97, q_ck98, q_i98, q_j98, q_w98, q_wj98, q_wz98, q_r98_0, q_ln99, q_ld99, q_st99, q_ck100, q_i100, q_j100, q_w100, q_wj100, q_wz100, q_r100_0, q_r100_1, q_r100_2, q_r100_3, q_r100_4, q_ln101, q_ld101, q_st101, q_ln102, q_ld102, q_st102, q_ln103, q_ld103, q_st103, q_ln104, q_ld104, q_st104, q_ln105, q_ld105, q_st105, q_ck106, q_i106, q_j106, q_w106, q_wj106, q_wz106, q_r106_0, q_r106_1, q_ln107, q_ld107, q_st107, q_ln108, q_ld108, q_st108, q_ck109, q_i109, q_j109, q_w109, q_wj109, q_wz109, q_r109_0, q_ln110, q_ld110, q_st110, q_ck111, q_i111, q_j111, q_w111, q_wj111, q_wz111, q_r111_0, q_ln112, q_ld112, q_st112, q_ck113, q_i113, q_j113, q_w113, q_wj113, q_wz113, q_r113_0, q_r113_1, q_r113_2, q_r113_3, q_r113_4, q_r113_5, q_r113_6, q_ln114, q_ld114, q_st114, q_ln115, q_ld115, q_ln116, q_ld116, q_st116, q_ln117, q_ld117, q_st117, q_ln118, q_ld118, q_st118, q_ln119, q_ld119, q_st119, q_ln120, q_ld120, q_st120, q_ln121, q_ld121, q_st121, q_ln122, q_ld122, q_st122, q_ln123, q_ld123, q_st123, q_ln124, q_ld124, q_st124, q_ln58, q_ld58, q_r58_0, q_r58_1, q_r115_0, q_r115_1, q_r115_2, h_ck0, h_i0, h_w0, h_r0_0, h_r0_1, h_r0_2, h_r0_3, h_r0_4, h_r0_5, h_r0_6, h_r0_7, h_r0_8, h_r0_9, h_r0_10, h_r0_11, h_r0_12, h_ck1, h_i1, h_w1, h_r1_0, h_r1_1, h_r1_2, h_ln2, h_ld2, h_st2, h_ln3, h_ld3, h_st3, h_ln4, h_ld4, h_st4, h_ln5, h_ld5, h_st5, h_ln6, h_ld6, h_st6, h_ln7, h_ld7, h_st7, h_ln8, h_ld8, h_st8, h_ln9, h_ld9, h_st9, h_ln10, h_ld10, h_st10, h_ln11, h_ld11, h_st11, h_ln12, h_ld12, h_st12, h_ln13, h_ld13, h_st13, h_ln14, h_ld14, h_st14, h_ln15, h_ld15, h_ck16, h_i16, h_w16, h_r16_0, h_r16_1, h_ln17, h_ld17, h_st17, h_ln18, h_ld18, h_st18, ht_0, ht_1, ht_2, hs_0, hs_1, hs_2]
  · simp (disch := first | assumption | omega | (simp only [SK_zsi, SK_zsj, HK_zsi, HK_zsj]; assumption) | decide) only [s_X9_count, n0, n1, n2, n3, n4, n5, n6, n7, n8, n9, n10, n11, n12, n13, n14, s2, i9, o1, e, cb_some, Option.bind_some, if_true, if_false, zi_hit, zi_miss, zi_ne, zj_hit, zj_miss, zj_ne, zi_zsj, zj_zsi, zr_zsi, zr_zsj, bind_ok, ite_self, q_ck125, q_i125, q_j125, q_w125, q_wj125, q_wz125, q_r125_2, q_r125_3, q_r125_4, q_r125_5, q_r125_6, q_r125_7, q_r125_9, q_r125_10, q_r125_12, q_r125_22, q_r125_24, q_r125_25, q_r125_27, q_r125_28, q_r125_31, q_r125_32, q_r125_33, q_r125_35, q_r125_36, q_r125_37, q_r125_41, q_r125_42, q_r125_43, q_r125_44, q_r125_45, q_r125_46, q_r125_47, q_r125_48, q_r125_49, q_r125_55, q_ln126, q_ld126, q_st126, q_ln127, q_ld127, q_st127, q_ln128, q_ld128, q_st128, q_ln129, q_ld129, q_st129, q_ln130, q_ld130, q_st130, q_ln131, q_ld131, q_st131, q_ln132, q_ld132, q_st132, q_ln133, q_ld133, q_st133, q_ln134, q_ld134, q_st134, q_ln135, q_ld135, q_st135, q_ln136, q_ld136, q_st136, q_ln137, q_ld137, q_st137, q_ln138, q_ld138, q_st138, q_ln139, q_ld139, q_st139, q_ln140, q_ld140, q_st140, q_ln141, q_ld141, q_st141, q_ln142, q_ld142, q_st142, q_ln143, q_ld143, q_st143, q_ln144, q_ld144, q_st144, q_ln145, q_ld145, q_st145, q_ln146, q_ld146, q_st146, q_ln147, q_ld147, q_st147, q_ln148, q_ld148, q_st148, q_ln149, q_ld149, q_st149, q_ln150, q_ld150, q_st150, q_ln151, q_ld151, q_st151, q_ln152, q_ld152, q_st152, q_ln153, q_ld153, q_st153, q_ln154, q_ld154, q_st154, q_ln155, q_ld155, q_st155, rw_0, rw_1, rw_2, rw_3, rw_4, rw_5, rw_6, rw_7, rw_8, rw_9, rw_10, rs_0, rs_1, rs_2, rs_3, rs_4, rs_5, rs_6, rs_7, rs_8, rs_9, rs_10]
theorem b_count {p1 : Int32} (hr : Rel σ) : Both (s_X8_count 0 p1) (s_X9_count 125 p1) σ := by
  have hS : SK σ := hr.1.1
  by_cases n0 : p1 = 0
  · subst n0
    exact b_count0 hr
  by_cases n1 : p1 = 1
  · subst n1
    exact b_count1 hr
  by_cases n2 : p1 = 2
  · subst n2
    exact b_count2 hr
  by_cases n3 : p1 = 3
  · subst n3
    exact b_count3 hr
  by_cases n4 : p1 = 4
  · subst n4
    exact b_count4 hr
  by_cases n5 : p1 = 5
  · subst n5
    exact b_count5 hr
  by_cases n6 : p1 = 6
  · subst n6
    exact b_count6 hr
  by_cases n7 : p1 = 7
  · subst n7
    exact b_count7 hr
  by_cases n8 : p1 = 8
  · subst n8
    exact b_count8 hr
  by_cases n9 : p1 = 9
  · subst n9
    exact b_count9 hr
  by_cases n10 : p1 = 10
  · subst n10
    exact b_count10 hr
  by_cases n11 : p1 = 11
  · subst n11
    exact b_count11 hr
  by_cases n12 : p1 = 12
  · subst n12
    exact b_count12 hr
  by_cases n13 : p1 = 13
  · subst n13
    exact b_count13 hr
  by_cases n14 : p1 = 14
  · subst n14
    exact b_count14 hr
  by_cases n15 : p1 = 15
  · subst n15
    exact b_count15 hr
  by_cases n16 : p1 = 16
  · subst n16
    exact b_count16 hr
  by_cases n17 : p1 = 17
  · subst n17
    exact b_count17 hr
  have hx : no p1 18 := by
    rcases nx p1 (c := 18) (by decide) with ⟨m, hm, rfl⟩ | h
    · exfalso
      have hm2 : m = 0 ∨ m = 1 ∨ m = 2 ∨ m = 3 ∨ m = 4 ∨ m = 5 ∨ m = 6 ∨ m = 7 ∨ m = 8 ∨ m = 9 ∨ m = 10 ∨ m = 11 ∨ m = 12 ∨ m = 13 ∨ m = 14 ∨ m = 15 ∨ m = 16 ∨ m = 17 := by omega
      rcases hm2 with rfl | rfl | rfl | rfl | rfl | rfl | rfl | rfl | rfl | rfl | rfl | rfl | rfl | rfl | rfl | rfl | rfl | rfl
      · exact n0 rfl
      · exact n1 rfl
      · exact n2 rfl
      · exact n3 rfl
      · exact n4 rfl
      · exact n5 rfl
      · exact n6 rfl
      · exact n7 rfl
      · exact n8 rfl
      · exact n9 rfl
      · exact n10 rfl
      · exact n11 rfl
      · exact n12 rfl
      · exact n13 rfl
      · exact n14 rfl
      · exact n15 rfl
      · exact n16 rfl
      · exact n17 rfl
    · exact h
  have i9 : s_X9_in (Int32.toInt64 p1) 15 17 (zsi σ 125 0 0) = some (0, zsi σ 125 0 0) := by
    refine in_f ?_
    have h1 := no_int (by decide) hx
    rw [l64]
    show p1.toInt < (15 : Int) ∨ (17 : Int) < p1.toInt
    omega
  refine Both.ro hr (v := -1) ?_ ?_
  · rcases hx with h | h
    · have c1 : p1 < 9 := Int32.lt_iff_toInt_lt.mpr (by have := Int32.lt_iff_toInt_lt.mp h; have e0 : (0 : Int32).toInt = 0 := rfl; have e1 : (9 : Int32).toInt = 9 := rfl; omega)
      have c3 : p1 < 15 := Int32.lt_iff_toInt_lt.mpr (by have := Int32.lt_iff_toInt_lt.mp h; have e0 : (0 : Int32).toInt = 0 := rfl; have e1 : (15 : Int32).toInt = 15 := rfl; omega)
      simp (disch := first | assumption | omega | (simp only [SK_zsi, SK_zsj, HK_zsi, HK_zsj]; assumption) | decide) only [s_X8_count, s_X8_count_j159, s_X8_countFurther, s_X8_countFurther_j22, c1, c3, n0, n1, n2, n3, n4, n5, n6, n7, n8, n9, n10, n11, n12, n13, n14, cb_some, Option.bind_some, if_true, if_false, zi_hit, zi_miss, zi_ne, zj_hit, zj_miss, zj_ne, zi_zsj, zj_zsi, zr_zsi, zr_zsj, bind_ok, ite_self, q_ck0, q_i0, q_j0, q_w0, q_wj0, q_wz0, q_r0_0, q_r0_1, q_r0_2, q_r0_3, q_r0_4, q_r0_5, q_r0_6, q_r0_7, q_r0_8, q_r0_9, q_r0_10, q_r0_11, q_ln97, q_ld97, q_st97, q_ck98, q_i98, q_j98, q_w98, q_wj98, q_wz98, q_r98_0, q_ln99, q_ld99, q_st99, q_ck100, q_i100, q_j100, q_w100, q_wj100, q_wz100, q_r100_0, q_r100_1, q_r100_2, q_r100_3, q_r100_4, q_ln101, q_ld101, q_st101, q_ln102, q_ld102, q_st102, q_ln103, q_ld103, q_st103, q_ln104, q_ld104, q_st104, q_ln105, q_ld105, q_st105, q_ck106, q_i106, q_j106, q_w106, q_wj106, q_wz106, q_r106_0, q_r106_1, q_ln107, q_ld107, q_st107, q_ln108, q_ld108, q_st108, q_ck109, q_i109, q_j109, q_w109, q_wj109, q_wz109, q_r109_0, q_ln110, q_ld110, q_st110, q_ck111, q_i111, q_j111, q_w111, q_wj111, q_wz111, q_r111_0, q_ln112, q_ld112, q_st112, q_ck113, q_i113, q_j113, q_w113, q_wj113, q_wz113, q_r113_0, q_r113_1, q_r113_2, q_r113_3, q_r113_4, q_r113_5, q_r113_6, q_ln114, q_ld114, q_st114, q_ln115, q_ld115, q_ln116, q_ld116, q_st116, q_ln117, q_ld117, q_st117, q_ln118, q_ld118, q_st118, q_ln119, q_ld119, q_st119, q_ln120, q_ld120, q_st120, q_ln121, q_ld121, q_st121, q_ln122, q_ld122, q_st122, q_ln123, q_ld123, q_st123, q_ln124, q_ld124, q_st124, q_ln58, q_ld58, q_r58_0, q_r58_1, q_r115_0, q_r115_1, q_r115_2, h_ck0, h_i0, h_w0, h_r0_0, h_r0_1, h_r0_2, h_r0_3, h_r0_4, h_r0_5, h_r0_6, h_r0_7, h_r0_8, h_r0_9, h_r0_10, h_r0_11, h_r0_12, h_ck1, h_i1, h_w1, h_r1_0, h_r1_1, h_r1_2, h_ln2, h_ld2, h_st2, h_ln3, h_ld3, h_st3, h_ln4, h_ld4, h_st4, h_ln5, h_ld5, h_st5, h_ln6, h_ld6, h_st6, h_ln7, h_ld7, h_st7, h_ln8, h_ld8, h_st8, h_ln9, h_ld9, h_st9, h_ln10, h_ld10, h_st10, h_ln11, h_ld11, h_st11, h_ln12, h_ld12, h_st12, h_ln13, h_ld13, h_st13, h_ln14, h_ld14, h_st14, h_ln15, h_ld15, h_ck16, h_i16, h_w16, h_r16_0, h_r16_1, h_ln17, h_ld17, h_st17, h_ln18, h_ld18, h_st18, ht_0, ht_1, ht_2, hs_0, hs_1, hs_2]
    · have h5 : (18 : Int) ≤ p1.toInt := by
        have := Int32.le_iff_toInt_le.mp h
        rwa [iN_int (by decide)] at this
      have c1 : ¬ p1 < 9 := fun q => by have := Int32.lt_iff_toInt_lt.mp q; have e1 : (9 : Int32).toInt = 9 := rfl; omega
      have c2 : (14 : Int32) ≤ p1 := Int32.le_iff_toInt_le.mpr (by have e1 : (14 : Int32).toInt = 14 := rfl; omega)
      have c3 : ¬ p1 < 15 := fun q => by have := Int32.lt_iff_toInt_lt.mp q; have e1 : (15 : Int32).toInt = 15 := rfl; omega
      have c4 : (18 : Int32) ≤ p1 := h
      simp (disch := first | assumption | omega | (simp only [SK_zsi, SK_zsj, HK_zsi, HK_zsj]; assumption) | decide) only [s_X8_count, s_X8_count_j159, s_X8_countFurther, s_X8_countFurther_j22, c1, c2, c3, c4, n0, n1, n2, n3, n4, n5, n6, n7, n8, n9, n10, n11, n12, n13, n14, cb_some, Option.bind_some, if_true, if_false, zi_hit, zi_miss, zi_ne, zj_hit, zj_miss, zj_ne, zi_zsj, zj_zsi, zr_zsi, zr_zsj, bind_ok, ite_self, q_ck0, q_i0, q_j0, q_w0, q_wj0, q_wz0, q_r0_0, q_r0_1, q_r0_2, q_r0_3, q_r0_4, q_r0_5, q_r0_6, q_r0_7, q_r0_8, q_r0_9, q_r0_10, q_r0_11, q_ln97, q_ld97, q_st97, q_ck98, q_i98, q_j98, q_w98, q_wj98, q_wz98, q_r98_0, q_ln99, q_ld99, q_st99, q_ck100, q_i100, q_j100, q_w100, q_wj100, q_wz100, q_r100_0, q_r100_1, q_r100_2, q_r100_3, q_r100_4, q_ln101, q_ld101, q_st101, q_ln102, q_ld102, q_st102, q_ln103, q_ld103, q_st103, q_ln104, q_ld104, q_st104, q_ln105, q_ld105, q_st105, q_ck106, q_i106, q_j106, q_w106, q_wj106, q_wz106, q_r106_0, q_r106_1, q_ln107, q_ld107, q_st107, q_ln108, q_ld108, q_st108, q_ck109, q_i109, q_j109, q_w109, q_wj109, q_wz109, q_r109_0, q_ln110, q_ld110, q_st110, q_ck111, q_i111, q_j111, q_w111, q_wj111, q_wz111, q_r111_0, q_ln112, q_ld112, q_st112, q_ck113, q_i113, q_j113, q_w113, q_wj113, q_wz113, q_r113_0, q_r113_1, q_r113_2, q_r113_3, q_r113_4, q_r113_5, q_r113_6, q_ln114, q_ld114, q_st114, q_ln115, q_ld115, q_ln116, q_ld116, q_st116, q_ln117, q_ld117, q_st117, q_ln118, q_ld118, q_st118, q_ln119, q_ld119, q_st119, q_ln120, q_ld120, q_st120, q_ln121, q_ld121, q_st121, q_ln122, q_ld122, q_st122, q_ln123, q_ld123, q_st123, q_ln124, q_ld124, q_st124, q_ln58, q_ld58, q_r58_0, q_r58_1, q_r115_0, q_r115_1, q_r115_2, h_ck0, h_i0, h_w0, h_r0_0, h_r0_1, h_r0_2, h_r0_3, h_r0_4, h_r0_5, h_r0_6, h_r0_7, h_r0_8, h_r0_9, h_r0_10, h_r0_11, h_r0_12, h_ck1, h_i1, h_w1, h_r1_0, h_r1_1, h_r1_2, h_ln2, h_ld2, h_st2, h_ln3, h_ld3, h_st3, h_ln4, h_ld4, h_st4, h_ln5, h_ld5, h_st5, h_ln6, h_ld6, h_st6, h_ln7, h_ld7, h_st7, h_ln8, h_ld8, h_st8, h_ln9, h_ld9, h_st9, h_ln10, h_ld10, h_st10, h_ln11, h_ld11, h_st11, h_ln12, h_ld12, h_st12, h_ln13, h_ld13, h_st13, h_ln14, h_ld14, h_st14, h_ln15, h_ld15, h_ck16, h_i16, h_w16, h_r16_0, h_r16_1, h_ln17, h_ld17, h_st17, h_ln18, h_ld18, h_st18, ht_0, ht_1, ht_2, hs_0, hs_1, hs_2]
  · simp (disch := first | assumption | omega | (simp only [SK_zsi, SK_zsj, HK_zsi, HK_zsj]; assumption) | decide) only [s_X9_count, i9, n0, n1, n2, n3, n4, n5, n6, n7, n8, n9, n10, n11, n12, n13, n14, cb_some, Option.bind_some, if_true, if_false, zi_hit, zi_miss, zi_ne, zj_hit, zj_miss, zj_ne, zi_zsj, zj_zsi, zr_zsi, zr_zsj, bind_ok, ite_self, q_ck125, q_i125, q_j125, q_w125, q_wj125, q_wz125, q_r125_2, q_r125_3, q_r125_4, q_r125_5, q_r125_6, q_r125_7, q_r125_9, q_r125_10, q_r125_12, q_r125_22, q_r125_24, q_r125_25, q_r125_27, q_r125_28, q_r125_31, q_r125_32, q_r125_33, q_r125_35, q_r125_36, q_r125_37, q_r125_41, q_r125_42, q_r125_43, q_r125_44, q_r125_45, q_r125_46, q_r125_47, q_r125_48, q_r125_49, q_r125_55, q_ln126, q_ld126, q_st126, q_ln127, q_ld127, q_st127, q_ln128, q_ld128, q_st128, q_ln129, q_ld129, q_st129, q_ln130, q_ld130, q_st130, q_ln131, q_ld131, q_st131, q_ln132, q_ld132, q_st132, q_ln133, q_ld133, q_st133, q_ln134, q_ld134, q_st134, q_ln135, q_ld135, q_st135, q_ln136, q_ld136, q_st136, q_ln137, q_ld137, q_st137, q_ln138, q_ld138, q_st138, q_ln139, q_ld139, q_st139, q_ln140, q_ld140, q_st140, q_ln141, q_ld141, q_st141, q_ln142, q_ld142, q_st142, q_ln143, q_ld143, q_st143, q_ln144, q_ld144, q_st144, q_ln145, q_ld145, q_st145, q_ln146, q_ld146, q_st146, q_ln147, q_ld147, q_st147, q_ln148, q_ld148, q_st148, q_ln149, q_ld149, q_st149, q_ln150, q_ld150, q_st150, q_ln151, q_ld151, q_st151, q_ln152, q_ld152, q_st152, q_ln153, q_ld153, q_st153, q_ln154, q_ld154, q_st154, q_ln155, q_ld155, q_st155, rw_0, rw_1, rw_2, rw_3, rw_4, rw_5, rw_6, rw_7, rw_8, rw_9, rw_10, rs_0, rs_1, rs_2, rs_3, rs_4, rs_5, rs_6, rs_7, rs_8, rs_9, rs_10]
end C7
