def rm_X9_init : Room := { frames := 1, cells := 30, slots := 21512, locals := 20 }
noncomputable def s_X9_init (h0 : Nat) (σ : Hp) : Option (Unit × Hp) :=
  cb (nw 11 7 σ) fun a2 σ1 =>
  (wrR 9 σ1 h0 2 (some (a2))).bind fun σ3 =>
  cb (nw 11 5578 σ3) fun a5 σ4 =>
  (wrR 9 σ4 h0 3 (some (a5))).bind fun σ6 =>
  cb (nw 11 11156 σ6) fun a8 σ7 =>
  (wrR 9 σ7 h0 4 (some (a8))).bind fun σ9 =>
  cb (nw 13 2 σ9) fun a11 σ10 =>
  (wrR 9 σ10 h0 5 (some (a11))).bind fun σ12 =>
  cb (nw 11 414 σ12) fun a14 σ13 =>
  (wrR 9 σ13 h0 6 (some (a14))).bind fun σ15 =>
  cb (nw 11 16 σ15) fun a17 σ16 =>
  (wrR 9 σ16 h0 7 (some (a17))).bind fun σ18 =>
  cb (nw 11 368 σ18) fun a20 σ19 =>
  (wrR 9 σ19 h0 9 (some (a20))).bind fun σ21 =>
  cb (nw 11 16 σ21) fun a23 σ22 =>
  (wrR 9 σ22 h0 10 (some (a23))).bind fun σ24 =>
  cb (nw 11 400 σ24) fun a26 σ25 =>
  (wrR 9 σ25 h0 12 (some (a26))).bind fun σ27 =>
  (wrI 9 σ27 h0 18 ((-1))).bind fun σ28 =>
  cb (nw 11 96 σ28) fun a30 σ29 =>
  (wrR 9 σ29 h0 22 (some (a30))).bind fun σ31 =>
  cb (nw 11 400 σ31) fun a33 σ32 =>
  (wrR 9 σ32 h0 24 (some (a33))).bind fun σ34 =>
  cb (nw 11 400 σ34) fun a36 σ35 =>
  (wrR 9 σ35 h0 25 (some (a36))).bind fun σ37 =>
  cb (nw 11 400 σ37) fun a39 σ38 =>
  (wrR 9 σ38 h0 27 (some (a39))).bind fun σ40 =>
  cb (nw 11 400 σ40) fun a42 σ41 =>
  (wrR 9 σ41 h0 28 (some (a42))).bind fun σ43 =>
  cb (nw 12 9 σ43) fun a45 σ44 =>
  (stJ σ44 a45 (0) (605677)).bind fun σ46 =>
  (stJ σ46 a45 (1) (3554411)).bind fun σ47 =>
  (stJ σ47 a45 (2) (278194)).bind fun σ48 =>
  (stJ σ48 a45 (3) (68295858)).bind fun σ49 =>
  (stJ σ49 a45 (4) (212363)).bind fun σ50 =>
  (stJ σ50 a45 (5) (398579)).bind fun σ51 =>
  (stJ σ51 a45 (6) (16959592)).bind fun σ52 =>
  (stJ σ52 a45 (7) (271592)).bind fun σ53 =>
  (stJ σ53 a45 (8) (441828)).bind fun σ54 =>
  (wrR 9 σ54 h0 31 (some (a45))).bind fun σ55 =>
  cb (nw 12 8 σ55) fun a57 σ56 =>
  (stJ σ56 a57 (0) (278194)).bind fun σ58 =>
  (stJ σ58 a57 (1) (146885)).bind fun σ59 =>
  (stJ σ59 a57 (2) (404362868)).bind fun σ60 =>
  (stJ σ60 a57 (3) (102407444)).bind fun σ61 =>
  (stJ σ61 a57 (4) (3554411)).bind fun σ62 =>
  (stJ σ62 a57 (5) (494)).bind fun σ63 =>
  (stJ σ63 a57 (6) (605677)).bind fun σ64 =>
  (stJ σ64 a57 (7) (52)).bind fun σ65 =>
  (wrR 9 σ65 h0 32 (some (a57))).bind fun σ66 =>
  cb (nw 12 3 σ66) fun a68 σ67 =>
  (stJ σ67 a68 (0) (679650899)).bind fun σ69 =>
  (stJ σ69 a68 (1) (244915)).bind fun σ70 =>
  (stJ σ70 a68 (2) (67155)).bind fun σ71 =>
  (wrR 9 σ71 h0 33 (some (a68))).bind fun σ72 =>
  cb (nw 12 13 σ72) fun a74 σ73 =>
  (wrR 9 σ73 h0 35 (some (a74))).bind fun σ75 =>
  cb (nw 12 13 σ75) fun a77 σ76 =>
  (wrR 9 σ76 h0 36 (some (a77))).bind fun σ78 =>
  cb (nw 12 400 σ78) fun a80 σ79 =>
  (wrR 9 σ79 h0 37 (some (a80))).bind fun σ81 =>
  cb (nw 11 3 σ81) fun a83 σ82 =>
  (wrR 9 σ82 h0 41 (some (a83))).bind fun σ84 =>
  cb (nw 13 490 σ84) fun a86 σ85 =>
  (wrR 9 σ85 h0 42 (some (a86))).bind fun σ87 =>
  cb (nw 13 490 σ87) fun a89 σ88 =>
  (wrR 9 σ88 h0 43 (some (a89))).bind fun σ90 =>
  cb (nw 13 100 σ90) fun a92 σ91 =>
  (wrR 9 σ91 h0 44 (some (a92))).bind fun σ93 =>
  cb (nw 11 183 σ93) fun a95 σ94 =>
  (wrR 9 σ94 h0 45 (some (a95))).bind fun σ96 =>
  cb (nw 12 21 σ96) fun a98 σ97 =>
  (wrR 9 σ97 h0 46 (some (a98))).bind fun σ99 =>
  cb (nw 12 4 σ99) fun a101 σ100 =>
  (stJ σ100 a101 (0) (659104901)).bind fun σ102 =>
  (stJ σ102 a101 (1) (17076)).bind fun σ103 =>
  (stJ σ103 a101 (2) (146930)).bind fun σ104 =>
  (stJ σ104 a101 (3) (525939)).bind fun σ105 =>
  (wrR 9 σ105 h0 47 (some (a101))).bind fun σ106 =>
  cb (nw 12 3 σ106) fun a108 σ107 =>
  (stJ σ107 a108 (0) (655)).bind fun σ109 =>
  (stJ σ109 a108 (1) (494)).bind fun σ110 =>
  (stJ σ110 a108 (2) (89)).bind fun σ111 =>
  (wrR 9 σ111 h0 48 (some (a108))).bind fun σ112 =>
  cb (nw 11 96 σ112) fun a114 σ113 =>
  (wrR 9 σ113 h0 49 (some (a114))).bind fun σ115 =>
  (wrI 9 σ115 h0 52 ((-1))).bind fun σ116 =>
  cb (nw 11 23 σ116) fun a118 σ117 =>
  (wrR 9 σ117 h0 55 (some (a118))).bind fun σ119 =>
  (wrI 9 σ119 h0 56 ((-1))).bind fun σ120 =>
  (wrI 9 σ120 h0 57 ((-1))).bind fun σ121 =>
  (rdR 9 σ121 h0 3).bind fun r122 =>
  (r122).bind fun a123 =>
  (stI σ121 a123 (6) ((-1))).bind fun σ124 =>
  (rdR 9 σ124 h0 3).bind fun r125 =>
  (r125).bind fun a126 =>
  (stI σ124 a126 (8) (1)).bind fun σ127 =>
  some ((), σ127)
set_option maxRecDepth 100000 in
theorem c_X9_init {E : E0} (hE : EOK E) {h0 : Nat} {σ σ1 : Hp} {r : Unit} (h : s_X9_init h0 σ = some (r, σ1)) : CT E yX9_init (.code yX9_init cX9_init 1 none) rm_X9_init [tR (some (h0))] σ none σ1 := by
  refine CT.mk hE (by decide +kernel) (Nat.le_of_ble_eq_true rfl) [(0, tR (some (h0)))] rfl (fun X C hin hx hxn => ?_)
  have C : XOK E X cX9_init RX9 1 none rm_X9_init := C
  unfold s_X9_init at h
  refine g_aload_n (pc := 0) C 0 0 dX9_init_0 rfl rfl ?_
  refine g_objInit (pc := 1) C ml_X9_1 oi_1 oi_2 ⟨Nat.le_of_ble_eq_true rfl, Nat.le_of_ble_eq_true rfl⟩ (Nat.le_of_ble_eq_true rfl) dX9_init_1 ?_
  refine g_aload_n (pc := 4) C 0 0 dX9_init_4 rfl rfl ?_
  refine g_bipush (v := 7) (pc := 5) C dX9_init_5 (by decide) ?_
  obtain ⟨a2, σ1, hvσ1, h⟩ := zcb h
  refine g_newaI (N := 7) (pc := 7) C (by decide) (by decide) (by decide) ac_int (by decide) (by decide) dX9_init_7 ?_
  rw [← (nw_h hvσ1).2, ← (nw_h hvσ1).1]
  obtain ⟨σ3, hvσ3, h⟩ := zbind h
  refine g_putRF (N := 58) (pc := 9) C ⟨ck_9, rfl, tyX9_ok⟩ hvσ3 rfl fl_X9_7 rfl hin ⟨rfl, rfl⟩ dX9_init_9 ?_
  refine g_aload_n (pc := 12) C 0 0 dX9_init_12 rfl rfl ?_
  refine g_sipush (v := 5578) (pc := 13) C dX9_init_13 (by decide) ?_
  obtain ⟨a5, σ4, hvσ4, h⟩ := zcb h
  refine g_newaI (N := 5578) (pc := 16) C (by decide) (by decide) (by decide) ac_int (by decide) (by decide) dX9_init_16 ?_
  rw [← (nw_h hvσ4).2, ← (nw_h hvσ4).1]
  obtain ⟨σ6, hvσ6, h⟩ := zbind h
  refine g_putRF (N := 58) (pc := 18) C ⟨ck_9, rfl, tyX9_ok⟩ hvσ6 rfl fl_X9_13 rfl hin ⟨rfl, rfl⟩ dX9_init_18 ?_
  refine g_aload_n (pc := 21) C 0 0 dX9_init_21 rfl rfl ?_
  refine g_sipush (v := 11156) (pc := 22) C dX9_init_22 (by decide) ?_
  obtain ⟨a8, σ7, hvσ7, h⟩ := zcb h
  refine g_newaI (N := 11156) (pc := 25) C (by decide) (by decide) (by decide) ac_int (by decide) (by decide) dX9_init_25 ?_
  rw [← (nw_h hvσ7).2, ← (nw_h hvσ7).1]
  obtain ⟨σ9, hvσ9, h⟩ := zbind h
  refine g_putRF (N := 58) (pc := 27) C ⟨ck_9, rfl, tyX9_ok⟩ hvσ9 rfl fl_X9_16 rfl hin ⟨rfl, rfl⟩ dX9_init_27 ?_
  refine g_aload_n (pc := 30) C 0 0 dX9_init_30 rfl rfl ?_
  refine g_iconst (v := 2) (pc := 31) C dX9_init_31 (by decide) ?_
  obtain ⟨a11, σ10, hvσ10, h⟩ := zcb h
  refine g_newaZ (N := 2) (pc := 32) C (by decide) (by decide) (by decide) ac_boolean (by decide) (by decide) dX9_init_32 ?_
  rw [← (nw_h hvσ10).2, ← (nw_h hvσ10).1]
  obtain ⟨σ12, hvσ12, h⟩ := zbind h
  refine g_putRF (N := 58) (pc := 34) C ⟨ck_9, rfl, tyX9_ok⟩ hvσ12 rfl fl_X9_19 rfl hin ⟨rfl, rfl⟩ dX9_init_34 ?_
  refine g_aload_n (pc := 37) C 0 0 dX9_init_37 rfl rfl ?_
  refine g_sipush (v := 414) (pc := 38) C dX9_init_38 (by decide) ?_
  obtain ⟨a14, σ13, hvσ13, h⟩ := zcb h
  refine g_newaI (N := 414) (pc := 41) C (by decide) (by decide) (by decide) ac_int (by decide) (by decide) dX9_init_41 ?_
  rw [← (nw_h hvσ13).2, ← (nw_h hvσ13).1]
  obtain ⟨σ15, hvσ15, h⟩ := zbind h
  refine g_putRF (N := 58) (pc := 43) C ⟨ck_9, rfl, tyX9_ok⟩ hvσ15 rfl fl_X9_23 rfl hin ⟨rfl, rfl⟩ dX9_init_43 ?_
  refine g_aload_n (pc := 46) C 0 0 dX9_init_46 rfl rfl ?_
  refine g_bipush (v := 16) (pc := 47) C dX9_init_47 (by decide) ?_
  obtain ⟨a17, σ16, hvσ16, h⟩ := zcb h
  refine g_newaI (N := 16) (pc := 49) C (by decide) (by decide) (by decide) ac_int (by decide) (by decide) dX9_init_49 ?_
  rw [← (nw_h hvσ16).2, ← (nw_h hvσ16).1]
  obtain ⟨σ18, hvσ18, h⟩ := zbind h
  refine g_putRF (N := 58) (pc := 51) C ⟨ck_9, rfl, tyX9_ok⟩ hvσ18 rfl fl_X9_26 rfl hin ⟨rfl, rfl⟩ dX9_init_51 ?_
  refine g_aload_n (pc := 54) C 0 0 dX9_init_54 rfl rfl ?_
  refine g_sipush (v := 368) (pc := 55) C dX9_init_55 (by decide) ?_
  obtain ⟨a20, σ19, hvσ19, h⟩ := zcb h
  refine g_newaI (N := 368) (pc := 58) C (by decide) (by decide) (by decide) ac_int (by decide) (by decide) dX9_init_58 ?_
  rw [← (nw_h hvσ19).2, ← (nw_h hvσ19).1]
  obtain ⟨σ21, hvσ21, h⟩ := zbind h
  refine g_putRF (N := 58) (pc := 60) C ⟨ck_9, rfl, tyX9_ok⟩ hvσ21 rfl fl_X9_29 rfl hin ⟨rfl, rfl⟩ dX9_init_60 ?_
  refine g_aload_n (pc := 63) C 0 0 dX9_init_63 rfl rfl ?_
  refine g_bipush (v := 16) (pc := 64) C dX9_init_64 (by decide) ?_
  obtain ⟨a23, σ22, hvσ22, h⟩ := zcb h
  refine g_newaI (N := 16) (pc := 66) C (by decide) (by decide) (by decide) ac_int (by decide) (by decide) dX9_init_66 ?_
  rw [← (nw_h hvσ22).2, ← (nw_h hvσ22).1]
  obtain ⟨σ24, hvσ24, h⟩ := zbind h
  refine g_putRF (N := 58) (pc := 68) C ⟨ck_9, rfl, tyX9_ok⟩ hvσ24 rfl fl_X9_32 rfl hin ⟨rfl, rfl⟩ dX9_init_68 ?_
  refine g_aload_n (pc := 71) C 0 0 dX9_init_71 rfl rfl ?_
  refine g_sipush (v := 400) (pc := 72) C dX9_init_72 (by decide) ?_
  obtain ⟨a26, σ25, hvσ25, h⟩ := zcb h
  refine g_newaI (N := 400) (pc := 75) C (by decide) (by decide) (by decide) ac_int (by decide) (by decide) dX9_init_75 ?_
  rw [← (nw_h hvσ25).2, ← (nw_h hvσ25).1]
  obtain ⟨σ27, hvσ27, h⟩ := zbind h
  refine g_putRF (N := 58) (pc := 77) C ⟨ck_9, rfl, tyX9_ok⟩ hvσ27 rfl fl_X9_35 rfl hin ⟨rfl, rfl⟩ dX9_init_77 ?_
  refine g_aload_n (pc := 80) C 0 0 dX9_init_80 rfl rfl ?_
  refine g_iconst (v := (-1)) (pc := 81) C dX9_init_81 (by decide) ?_
  obtain ⟨σ28, hvσ28, h⟩ := zbind h
  refine g_putI (N := 58) (pc := 82) C ⟨ck_9, rfl, tyX9_ok⟩ hvσ28 rfl fl_X9_38 rfl rfl dX9_init_82 ?_
  refine g_aload_n (pc := 85) C 0 0 dX9_init_85 rfl rfl ?_
  refine g_bipush (v := 96) (pc := 86) C dX9_init_86 (by decide) ?_
  obtain ⟨a30, σ29, hvσ29, h⟩ := zcb h
  refine g_newaI (N := 96) (pc := 88) C (by decide) (by decide) (by decide) ac_int (by decide) (by decide) dX9_init_88 ?_
  rw [← (nw_h hvσ29).2, ← (nw_h hvσ29).1]
  obtain ⟨σ31, hvσ31, h⟩ := zbind h
  refine g_putRF (N := 58) (pc := 90) C ⟨ck_9, rfl, tyX9_ok⟩ hvσ31 rfl fl_X9_42 rfl hin ⟨rfl, rfl⟩ dX9_init_90 ?_
  refine g_aload_n (pc := 93) C 0 0 dX9_init_93 rfl rfl ?_
  refine g_sipush (v := 400) (pc := 94) C dX9_init_94 (by decide) ?_
  obtain ⟨a33, σ32, hvσ32, h⟩ := zcb h
  refine g_newaI (N := 400) (pc := 97) C (by decide) (by decide) (by decide) ac_int (by decide) (by decide) dX9_init_97 ?_
  rw [← (nw_h hvσ32).2, ← (nw_h hvσ32).1]
  obtain ⟨σ34, hvσ34, h⟩ := zbind h
  refine g_putRF (N := 58) (pc := 99) C ⟨ck_9, rfl, tyX9_ok⟩ hvσ34 rfl fl_X9_45 rfl hin ⟨rfl, rfl⟩ dX9_init_99 ?_
  refine g_aload_n (pc := 102) C 0 0 dX9_init_102 rfl rfl ?_
  refine g_sipush (v := 400) (pc := 103) C dX9_init_103 (by decide) ?_
  obtain ⟨a36, σ35, hvσ35, h⟩ := zcb h
  refine g_newaI (N := 400) (pc := 106) C (by decide) (by decide) (by decide) ac_int (by decide) (by decide) dX9_init_106 ?_
  rw [← (nw_h hvσ35).2, ← (nw_h hvσ35).1]
  obtain ⟨σ37, hvσ37, h⟩ := zbind h
  refine g_putRF (N := 58) (pc := 108) C ⟨ck_9, rfl, tyX9_ok⟩ hvσ37 rfl fl_X9_48 rfl hin ⟨rfl, rfl⟩ dX9_init_108 ?_
  refine g_aload_n (pc := 111) C 0 0 dX9_init_111 rfl rfl ?_
  refine g_sipush (v := 400) (pc := 112) C dX9_init_112 (by decide) ?_
  obtain ⟨a39, σ38, hvσ38, h⟩ := zcb h
  refine g_newaI (N := 400) (pc := 115) C (by decide) (by decide) (by decide) ac_int (by decide) (by decide) dX9_init_115 ?_
  rw [← (nw_h hvσ38).2, ← (nw_h hvσ38).1]
  obtain ⟨σ40, hvσ40, h⟩ := zbind h
  refine g_putRF (N := 58) (pc := 117) C ⟨ck_9, rfl, tyX9_ok⟩ hvσ40 rfl fl_X9_51 rfl hin ⟨rfl, rfl⟩ dX9_init_117 ?_
  refine g_aload_n (pc := 120) C 0 0 dX9_init_120 rfl rfl ?_
  refine g_sipush (v := 400) (pc := 121) C dX9_init_121 (by decide) ?_
  obtain ⟨a42, σ41, hvσ41, h⟩ := zcb h
  refine g_newaI (N := 400) (pc := 124) C (by decide) (by decide) (by decide) ac_int (by decide) (by decide) dX9_init_124 ?_
  rw [← (nw_h hvσ41).2, ← (nw_h hvσ41).1]
  obtain ⟨σ43, hvσ43, h⟩ := zbind h
  refine g_putRF (N := 58) (pc := 126) C ⟨ck_9, rfl, tyX9_ok⟩ hvσ43 rfl fl_X9_54 rfl hin ⟨rfl, rfl⟩ dX9_init_126 ?_
  refine g_aload_n (pc := 129) C 0 0 dX9_init_129 rfl rfl ?_
  refine g_bipush (v := 9) (pc := 130) C dX9_init_130 (by decide) ?_
  obtain ⟨a45, σ44, hvσ44, h⟩ := zcb h
  refine g_newaJ (N := 9) (pc := 132) C (by decide) (by decide) (by decide) ac_long (by decide) (by decide) dX9_init_132 ?_
  rw [← (nw_h hvσ44).2, ← (nw_h hvσ44).1]
  refine g_dup (pc := 134) C dX9_init_134 rfl ?_
  refine g_iconst (v := 0) (pc := 135) C dX9_init_135 (by decide) ?_
  refine g_ldc2 (v := 605677) (pc := 136) C dX9_init_136 kl_X9_57 ?_
  obtain ⟨σ46, hvσ46, h⟩ := zbind h
  refine g_last (pc := 139) C hvσ46 dX9_init_139 ?_
  refine g_dup (pc := 140) C dX9_init_140 rfl ?_
  refine g_iconst (v := 1) (pc := 141) C dX9_init_141 (by decide) ?_
  refine g_ldc2 (v := 3554411) (pc := 142) C dX9_init_142 kl_X9_59 ?_
  obtain ⟨σ47, hvσ47, h⟩ := zbind h
  refine g_last (pc := 145) C hvσ47 dX9_init_145 ?_
  refine g_dup (pc := 146) C dX9_init_146 rfl ?_
  refine g_iconst (v := 2) (pc := 147) C dX9_init_147 (by decide) ?_
  refine g_ldc2 (v := 278194) (pc := 148) C dX9_init_148 kl_X9_61 ?_
  obtain ⟨σ48, hvσ48, h⟩ := zbind h
  refine g_last (pc := 151) C hvσ48 dX9_init_151 ?_
  refine g_dup (pc := 152) C dX9_init_152 rfl ?_
  refine g_iconst (v := 3) (pc := 153) C dX9_init_153 (by decide) ?_
  refine g_ldc2 (v := 68295858) (pc := 154) C dX9_init_154 kl_X9_63 ?_
  obtain ⟨σ49, hvσ49, h⟩ := zbind h
  refine g_last (pc := 157) C hvσ49 dX9_init_157 ?_
  refine g_dup (pc := 158) C dX9_init_158 rfl ?_
  refine g_iconst (v := 4) (pc := 159) C dX9_init_159 (by decide) ?_
  refine g_ldc2 (v := 212363) (pc := 160) C dX9_init_160 kl_X9_65 ?_
  obtain ⟨σ50, hvσ50, h⟩ := zbind h
  refine g_last (pc := 163) C hvσ50 dX9_init_163 ?_
  refine g_dup (pc := 164) C dX9_init_164 rfl ?_
  refine g_iconst (v := 5) (pc := 165) C dX9_init_165 (by decide) ?_
  refine g_ldc2 (v := 398579) (pc := 166) C dX9_init_166 kl_X9_67 ?_
  obtain ⟨σ51, hvσ51, h⟩ := zbind h
  refine g_last (pc := 169) C hvσ51 dX9_init_169 ?_
  refine g_dup (pc := 170) C dX9_init_170 rfl ?_
  refine g_bipush (v := 6) (pc := 171) C dX9_init_171 (by decide) ?_
  refine g_ldc2 (v := 16959592) (pc := 173) C dX9_init_173 kl_X9_69 ?_
  obtain ⟨σ52, hvσ52, h⟩ := zbind h
  refine g_last (pc := 176) C hvσ52 dX9_init_176 ?_
  refine g_dup (pc := 177) C dX9_init_177 rfl ?_
  refine g_bipush (v := 7) (pc := 178) C dX9_init_178 (by decide) ?_
  refine g_ldc2 (v := 271592) (pc := 180) C dX9_init_180 kl_X9_71 ?_
  obtain ⟨σ53, hvσ53, h⟩ := zbind h
  refine g_last (pc := 183) C hvσ53 dX9_init_183 ?_
  refine g_dup (pc := 184) C dX9_init_184 rfl ?_
  refine g_bipush (v := 8) (pc := 185) C dX9_init_185 (by decide) ?_
  refine g_ldc2 (v := 441828) (pc := 187) C dX9_init_187 kl_X9_73 ?_
  obtain ⟨σ54, hvσ54, h⟩ := zbind h
  refine g_last (pc := 190) C hvσ54 dX9_init_190 ?_
  obtain ⟨σ55, hvσ55, h⟩ := zbind h
  refine g_putRF (N := 58) (pc := 191) C ⟨ck_9, rfl, tyX9_ok⟩ hvσ55 rfl fl_X9_75 rfl hin ⟨rfl, rfl⟩ dX9_init_191 ?_
  refine g_aload_n (pc := 194) C 0 0 dX9_init_194 rfl rfl ?_
  refine g_bipush (v := 8) (pc := 195) C dX9_init_195 (by decide) ?_
  obtain ⟨a57, σ56, hvσ56, h⟩ := zcb h
  refine g_newaJ (N := 8) (pc := 197) C (by decide) (by decide) (by decide) ac_long (by decide) (by decide) dX9_init_197 ?_
  rw [← (nw_h hvσ56).2, ← (nw_h hvσ56).1]
  refine g_dup (pc := 199) C dX9_init_199 rfl ?_
  refine g_iconst (v := 0) (pc := 200) C dX9_init_200 (by decide) ?_
  refine g_ldc2 (v := 278194) (pc := 201) C dX9_init_201 kl_X9_61 ?_
  obtain ⟨σ58, hvσ58, h⟩ := zbind h
  refine g_last (pc := 204) C hvσ58 dX9_init_204 ?_
  refine g_dup (pc := 205) C dX9_init_205 rfl ?_
  refine g_iconst (v := 1) (pc := 206) C dX9_init_206 (by decide) ?_
  refine g_ldc2 (v := 146885) (pc := 207) C dX9_init_207 kl_X9_79 ?_
  obtain ⟨σ59, hvσ59, h⟩ := zbind h
  refine g_last (pc := 210) C hvσ59 dX9_init_210 ?_
  refine g_dup (pc := 211) C dX9_init_211 rfl ?_
  refine g_iconst (v := 2) (pc := 212) C dX9_init_212 (by decide) ?_
  refine g_ldc2 (v := 404362868) (pc := 213) C dX9_init_213 kl_X9_81 ?_
  obtain ⟨σ60, hvσ60, h⟩ := zbind h
  refine g_last (pc := 216) C hvσ60 dX9_init_216 ?_
  refine g_dup (pc := 217) C dX9_init_217 rfl ?_
  refine g_iconst (v := 3) (pc := 218) C dX9_init_218 (by decide) ?_
  refine g_ldc2 (v := 102407444) (pc := 219) C dX9_init_219 kl_X9_83 ?_
  obtain ⟨σ61, hvσ61, h⟩ := zbind h
  refine g_last (pc := 222) C hvσ61 dX9_init_222 ?_
  refine g_dup (pc := 223) C dX9_init_223 rfl ?_
  refine g_iconst (v := 4) (pc := 224) C dX9_init_224 (by decide) ?_
  refine g_ldc2 (v := 3554411) (pc := 225) C dX9_init_225 kl_X9_59 ?_
  obtain ⟨σ62, hvσ62, h⟩ := zbind h
  refine g_last (pc := 228) C hvσ62 dX9_init_228 ?_
  refine g_dup (pc := 229) C dX9_init_229 rfl ?_
  refine g_iconst (v := 5) (pc := 230) C dX9_init_230 (by decide) ?_
  refine g_ldc2 (v := 494) (pc := 231) C dX9_init_231 kl_X9_85 ?_
  obtain ⟨σ63, hvσ63, h⟩ := zbind h
  refine g_last (pc := 234) C hvσ63 dX9_init_234 ?_
  refine g_dup (pc := 235) C dX9_init_235 rfl ?_
  refine g_bipush (v := 6) (pc := 236) C dX9_init_236 (by decide) ?_
  refine g_ldc2 (v := 605677) (pc := 238) C dX9_init_238 kl_X9_57 ?_
  obtain ⟨σ64, hvσ64, h⟩ := zbind h
  refine g_last (pc := 241) C hvσ64 dX9_init_241 ?_
  refine g_dup (pc := 242) C dX9_init_242 rfl ?_
  refine g_bipush (v := 7) (pc := 243) C dX9_init_243 (by decide) ?_
  refine g_ldc2 (v := 52) (pc := 245) C dX9_init_245 kl_X9_87 ?_
  obtain ⟨σ65, hvσ65, h⟩ := zbind h
  refine g_last (pc := 248) C hvσ65 dX9_init_248 ?_
  obtain ⟨σ66, hvσ66, h⟩ := zbind h
  refine g_putRF (N := 58) (pc := 249) C ⟨ck_9, rfl, tyX9_ok⟩ hvσ66 rfl fl_X9_89 rfl hin ⟨rfl, rfl⟩ dX9_init_249 ?_
  refine g_aload_n (pc := 252) C 0 0 dX9_init_252 rfl rfl ?_
  refine g_iconst (v := 3) (pc := 253) C dX9_init_253 (by decide) ?_
  obtain ⟨a68, σ67, hvσ67, h⟩ := zcb h
  refine g_newaJ (N := 3) (pc := 254) C (by decide) (by decide) (by decide) ac_long (by decide) (by decide) dX9_init_254 ?_
  rw [← (nw_h hvσ67).2, ← (nw_h hvσ67).1]
  refine g_dup (pc := 256) C dX9_init_256 rfl ?_
  refine g_iconst (v := 0) (pc := 257) C dX9_init_257 (by decide) ?_
  refine g_ldc2 (v := 679650899) (pc := 258) C dX9_init_258 kl_X9_92 ?_
  obtain ⟨σ69, hvσ69, h⟩ := zbind h
  refine g_last (pc := 261) C hvσ69 dX9_init_261 ?_
  refine g_dup (pc := 262) C dX9_init_262 rfl ?_
  refine g_iconst (v := 1) (pc := 263) C dX9_init_263 (by decide) ?_
  refine g_ldc2 (v := 244915) (pc := 264) C dX9_init_264 kl_X9_94 ?_
  obtain ⟨σ70, hvσ70, h⟩ := zbind h
  refine g_last (pc := 267) C hvσ70 dX9_init_267 ?_
  refine g_dup (pc := 268) C dX9_init_268 rfl ?_
  refine g_iconst (v := 2) (pc := 269) C dX9_init_269 (by decide) ?_
  refine g_ldc2 (v := 67155) (pc := 270) C dX9_init_270 kl_X9_96 ?_
  obtain ⟨σ71, hvσ71, h⟩ := zbind h
  refine g_last (pc := 273) C hvσ71 dX9_init_273 ?_
  obtain ⟨σ72, hvσ72, h⟩ := zbind h
  refine g_putRF (N := 58) (pc := 274) C ⟨ck_9, rfl, tyX9_ok⟩ hvσ72 rfl fl_X9_98 rfl hin ⟨rfl, rfl⟩ dX9_init_274 ?_
  refine g_aload_n (pc := 277) C 0 0 dX9_init_277 rfl rfl ?_
  refine g_bipush (v := 13) (pc := 278) C dX9_init_278 (by decide) ?_
  obtain ⟨a74, σ73, hvσ73, h⟩ := zcb h
  refine g_newaJ (N := 13) (pc := 280) C (by decide) (by decide) (by decide) ac_long (by decide) (by decide) dX9_init_280 ?_
  rw [← (nw_h hvσ73).2, ← (nw_h hvσ73).1]
  obtain ⟨σ75, hvσ75, h⟩ := zbind h
  refine g_putRF (N := 58) (pc := 282) C ⟨ck_9, rfl, tyX9_ok⟩ hvσ75 rfl fl_X9_101 rfl hin ⟨rfl, rfl⟩ dX9_init_282 ?_
  refine g_aload_n (pc := 285) C 0 0 dX9_init_285 rfl rfl ?_
  refine g_bipush (v := 13) (pc := 286) C dX9_init_286 (by decide) ?_
  obtain ⟨a77, σ76, hvσ76, h⟩ := zcb h
  refine g_newaJ (N := 13) (pc := 288) C (by decide) (by decide) (by decide) ac_long (by decide) (by decide) dX9_init_288 ?_
  rw [← (nw_h hvσ76).2, ← (nw_h hvσ76).1]
  obtain ⟨σ78, hvσ78, h⟩ := zbind h
  refine g_putRF (N := 58) (pc := 290) C ⟨ck_9, rfl, tyX9_ok⟩ hvσ78 rfl fl_X9_104 rfl hin ⟨rfl, rfl⟩ dX9_init_290 ?_
  refine g_aload_n (pc := 293) C 0 0 dX9_init_293 rfl rfl ?_
  refine g_sipush (v := 400) (pc := 294) C dX9_init_294 (by decide) ?_
  obtain ⟨a80, σ79, hvσ79, h⟩ := zcb h
  refine g_newaJ (N := 400) (pc := 297) C (by decide) (by decide) (by decide) ac_long (by decide) (by decide) dX9_init_297 ?_
  rw [← (nw_h hvσ79).2, ← (nw_h hvσ79).1]
  obtain ⟨σ81, hvσ81, h⟩ := zbind h
  refine g_putRF (N := 58) (pc := 299) C ⟨ck_9, rfl, tyX9_ok⟩ hvσ81 rfl fl_X9_107 rfl hin ⟨rfl, rfl⟩ dX9_init_299 ?_
  refine g_aload_n (pc := 302) C 0 0 dX9_init_302 rfl rfl ?_
  refine g_iconst (v := 3) (pc := 303) C dX9_init_303 (by decide) ?_
  obtain ⟨a83, σ82, hvσ82, h⟩ := zcb h
  refine g_newaI (N := 3) (pc := 304) C (by decide) (by decide) (by decide) ac_int (by decide) (by decide) dX9_init_304 ?_
  rw [← (nw_h hvσ82).2, ← (nw_h hvσ82).1]
  obtain ⟨σ84, hvσ84, h⟩ := zbind h
  refine g_putRF (N := 58) (pc := 306) C ⟨ck_9, rfl, tyX9_ok⟩ hvσ84 rfl fl_X9_110 rfl hin ⟨rfl, rfl⟩ dX9_init_306 ?_
  refine g_aload_n (pc := 309) C 0 0 dX9_init_309 rfl rfl ?_
  refine g_sipush (v := 490) (pc := 310) C dX9_init_310 (by decide) ?_
  obtain ⟨a86, σ85, hvσ85, h⟩ := zcb h
  refine g_newaZ (N := 490) (pc := 313) C (by decide) (by decide) (by decide) ac_boolean (by decide) (by decide) dX9_init_313 ?_
  rw [← (nw_h hvσ85).2, ← (nw_h hvσ85).1]
  obtain ⟨σ87, hvσ87, h⟩ := zbind h
  refine g_putRF (N := 58) (pc := 315) C ⟨ck_9, rfl, tyX9_ok⟩ hvσ87 rfl fl_X9_113 rfl hin ⟨rfl, rfl⟩ dX9_init_315 ?_
  refine g_aload_n (pc := 318) C 0 0 dX9_init_318 rfl rfl ?_
  refine g_sipush (v := 490) (pc := 319) C dX9_init_319 (by decide) ?_
  obtain ⟨a89, σ88, hvσ88, h⟩ := zcb h
  refine g_newaZ (N := 490) (pc := 322) C (by decide) (by decide) (by decide) ac_boolean (by decide) (by decide) dX9_init_322 ?_
  rw [← (nw_h hvσ88).2, ← (nw_h hvσ88).1]
  obtain ⟨σ90, hvσ90, h⟩ := zbind h
  refine g_putRF (N := 58) (pc := 324) C ⟨ck_9, rfl, tyX9_ok⟩ hvσ90 rfl fl_X9_116 rfl hin ⟨rfl, rfl⟩ dX9_init_324 ?_
  refine g_aload_n (pc := 327) C 0 0 dX9_init_327 rfl rfl ?_
  refine g_bipush (v := 100) (pc := 328) C dX9_init_328 (by decide) ?_
  obtain ⟨a92, σ91, hvσ91, h⟩ := zcb h
  refine g_newaZ (N := 100) (pc := 330) C (by decide) (by decide) (by decide) ac_boolean (by decide) (by decide) dX9_init_330 ?_
  rw [← (nw_h hvσ91).2, ← (nw_h hvσ91).1]
  obtain ⟨σ93, hvσ93, h⟩ := zbind h
  refine g_putRF (N := 58) (pc := 332) C ⟨ck_9, rfl, tyX9_ok⟩ hvσ93 rfl fl_X9_119 rfl hin ⟨rfl, rfl⟩ dX9_init_332 ?_
  refine g_aload_n (pc := 335) C 0 0 dX9_init_335 rfl rfl ?_
  refine g_sipush (v := 183) (pc := 336) C dX9_init_336 (by decide) ?_
  obtain ⟨a95, σ94, hvσ94, h⟩ := zcb h
  refine g_newaI (N := 183) (pc := 339) C (by decide) (by decide) (by decide) ac_int (by decide) (by decide) dX9_init_339 ?_
  rw [← (nw_h hvσ94).2, ← (nw_h hvσ94).1]
  obtain ⟨σ96, hvσ96, h⟩ := zbind h
  refine g_putRF (N := 58) (pc := 341) C ⟨ck_9, rfl, tyX9_ok⟩ hvσ96 rfl fl_X9_122 rfl hin ⟨rfl, rfl⟩ dX9_init_341 ?_
  refine g_aload_n (pc := 344) C 0 0 dX9_init_344 rfl rfl ?_
  refine g_bipush (v := 21) (pc := 345) C dX9_init_345 (by decide) ?_
  obtain ⟨a98, σ97, hvσ97, h⟩ := zcb h
  refine g_newaJ (N := 21) (pc := 347) C (by decide) (by decide) (by decide) ac_long (by decide) (by decide) dX9_init_347 ?_
  rw [← (nw_h hvσ97).2, ← (nw_h hvσ97).1]
  obtain ⟨σ99, hvσ99, h⟩ := zbind h
  refine g_putRF (N := 58) (pc := 349) C ⟨ck_9, rfl, tyX9_ok⟩ hvσ99 rfl fl_X9_125 rfl hin ⟨rfl, rfl⟩ dX9_init_349 ?_
  refine g_aload_n (pc := 352) C 0 0 dX9_init_352 rfl rfl ?_
  refine g_iconst (v := 4) (pc := 353) C dX9_init_353 (by decide) ?_
  obtain ⟨a101, σ100, hvσ100, h⟩ := zcb h
  refine g_newaJ (N := 4) (pc := 354) C (by decide) (by decide) (by decide) ac_long (by decide) (by decide) dX9_init_354 ?_
  rw [← (nw_h hvσ100).2, ← (nw_h hvσ100).1]
  refine g_dup (pc := 356) C dX9_init_356 rfl ?_
  refine g_iconst (v := 0) (pc := 357) C dX9_init_357 (by decide) ?_
  refine g_ldc2 (v := 659104901) (pc := 358) C dX9_init_358 kl_X9_128 ?_
  obtain ⟨σ102, hvσ102, h⟩ := zbind h
  refine g_last (pc := 361) C hvσ102 dX9_init_361 ?_
  refine g_dup (pc := 362) C dX9_init_362 rfl ?_
  refine g_iconst (v := 1) (pc := 363) C dX9_init_363 (by decide) ?_
  refine g_ldc2 (v := 17076) (pc := 364) C dX9_init_364 kl_X9_130 ?_
  obtain ⟨σ103, hvσ103, h⟩ := zbind h
  refine g_last (pc := 367) C hvσ103 dX9_init_367 ?_
  refine g_dup (pc := 368) C dX9_init_368 rfl ?_
  refine g_iconst (v := 2) (pc := 369) C dX9_init_369 (by decide) ?_
  refine g_ldc2 (v := 146930) (pc := 370) C dX9_init_370 kl_X9_132 ?_
  obtain ⟨σ104, hvσ104, h⟩ := zbind h
  refine g_last (pc := 373) C hvσ104 dX9_init_373 ?_
  refine g_dup (pc := 374) C dX9_init_374 rfl ?_
  refine g_iconst (v := 3) (pc := 375) C dX9_init_375 (by decide) ?_
  refine g_ldc2 (v := 525939) (pc := 376) C dX9_init_376 kl_X9_134 ?_
  obtain ⟨σ105, hvσ105, h⟩ := zbind h
  refine g_last (pc := 379) C hvσ105 dX9_init_379 ?_
  obtain ⟨σ106, hvσ106, h⟩ := zbind h
  refine g_putRF (N := 58) (pc := 380) C ⟨ck_9, rfl, tyX9_ok⟩ hvσ106 rfl fl_X9_136 rfl hin ⟨rfl, rfl⟩ dX9_init_380 ?_
  refine g_aload_n (pc := 383) C 0 0 dX9_init_383 rfl rfl ?_
  refine g_iconst (v := 3) (pc := 384) C dX9_init_384 (by decide) ?_
  obtain ⟨a108, σ107, hvσ107, h⟩ := zcb h
  refine g_newaJ (N := 3) (pc := 385) C (by decide) (by decide) (by decide) ac_long (by decide) (by decide) dX9_init_385 ?_
  rw [← (nw_h hvσ107).2, ← (nw_h hvσ107).1]
  refine g_dup (pc := 387) C dX9_init_387 rfl ?_
  refine g_iconst (v := 0) (pc := 388) C dX9_init_388 (by decide) ?_
  refine g_ldc2 (v := 655) (pc := 389) C dX9_init_389 kl_X9_139 ?_
  obtain ⟨σ109, hvσ109, h⟩ := zbind h
  refine g_last (pc := 392) C hvσ109 dX9_init_392 ?_
  refine g_dup (pc := 393) C dX9_init_393 rfl ?_
  refine g_iconst (v := 1) (pc := 394) C dX9_init_394 (by decide) ?_
  refine g_ldc2 (v := 494) (pc := 395) C dX9_init_395 kl_X9_85 ?_
  obtain ⟨σ110, hvσ110, h⟩ := zbind h
  refine g_last (pc := 398) C hvσ110 dX9_init_398 ?_
  refine g_dup (pc := 399) C dX9_init_399 rfl ?_
  refine g_iconst (v := 2) (pc := 400) C dX9_init_400 (by decide) ?_
  refine g_ldc2 (v := 89) (pc := 401) C dX9_init_401 kl_X9_141 ?_
  obtain ⟨σ111, hvσ111, h⟩ := zbind h
  refine g_last (pc := 404) C hvσ111 dX9_init_404 ?_
  obtain ⟨σ112, hvσ112, h⟩ := zbind h
  refine g_putRF (N := 58) (pc := 405) C ⟨ck_9, rfl, tyX9_ok⟩ hvσ112 rfl fl_X9_143 rfl hin ⟨rfl, rfl⟩ dX9_init_405 ?_
  refine g_aload_n (pc := 408) C 0 0 dX9_init_408 rfl rfl ?_
  refine g_bipush (v := 96) (pc := 409) C dX9_init_409 (by decide) ?_
  obtain ⟨a114, σ113, hvσ113, h⟩ := zcb h
  refine g_newaI (N := 96) (pc := 411) C (by decide) (by decide) (by decide) ac_int (by decide) (by decide) dX9_init_411 ?_
  rw [← (nw_h hvσ113).2, ← (nw_h hvσ113).1]
  obtain ⟨σ115, hvσ115, h⟩ := zbind h
  refine g_putRF (N := 58) (pc := 413) C ⟨ck_9, rfl, tyX9_ok⟩ hvσ115 rfl fl_X9_146 rfl hin ⟨rfl, rfl⟩ dX9_init_413 ?_
  refine g_aload_n (pc := 416) C 0 0 dX9_init_416 rfl rfl ?_
  refine g_iconst (v := (-1)) (pc := 417) C dX9_init_417 (by decide) ?_
  obtain ⟨σ116, hvσ116, h⟩ := zbind h
  refine g_putI (N := 58) (pc := 418) C ⟨ck_9, rfl, tyX9_ok⟩ hvσ116 rfl fl_X9_149 rfl rfl dX9_init_418 ?_
  refine g_aload_n (pc := 421) C 0 0 dX9_init_421 rfl rfl ?_
  refine g_bipush (v := 23) (pc := 422) C dX9_init_422 (by decide) ?_
  obtain ⟨a118, σ117, hvσ117, h⟩ := zcb h
  refine g_newaI (N := 23) (pc := 424) C (by decide) (by decide) (by decide) ac_int (by decide) (by decide) dX9_init_424 ?_
  rw [← (nw_h hvσ117).2, ← (nw_h hvσ117).1]
  obtain ⟨σ119, hvσ119, h⟩ := zbind h
  refine g_putRF (N := 58) (pc := 426) C ⟨ck_9, rfl, tyX9_ok⟩ hvσ119 rfl fl_X9_152 rfl hin ⟨rfl, rfl⟩ dX9_init_426 ?_
  refine g_aload_n (pc := 429) C 0 0 dX9_init_429 rfl rfl ?_
  refine g_iconst (v := (-1)) (pc := 430) C dX9_init_430 (by decide) ?_
  obtain ⟨σ120, hvσ120, h⟩ := zbind h
  refine g_putI (N := 58) (pc := 431) C ⟨ck_9, rfl, tyX9_ok⟩ hvσ120 rfl fl_X9_155 rfl rfl dX9_init_431 ?_
  refine g_aload_n (pc := 434) C 0 0 dX9_init_434 rfl rfl ?_
  refine g_iconst (v := (-1)) (pc := 435) C dX9_init_435 (by decide) ?_
  obtain ⟨σ121, hvσ121, h⟩ := zbind h
  refine g_putI (N := 58) (pc := 436) C ⟨ck_9, rfl, tyX9_ok⟩ hvσ121 rfl fl_X9_158 rfl rfl dX9_init_436 ?_
  refine g_aload_n (pc := 439) C 0 0 dX9_init_439 rfl rfl ?_
  obtain ⟨r122, hvr122, h⟩ := zbind h
  refine g_getR (N := 58) (pc := 440) C ck_9 hvr122 rfl rfl fl_X9_13 dX9_init_440 ?_
  refine g_bipush (v := 6) (pc := 443) C dX9_init_443 (by decide) ?_
  refine g_iconst (v := (-1)) (pc := 445) C dX9_init_445 (by decide) ?_
  obtain ⟨a123, hqa123, h9⟩ := zbind h
  clear h
  subst hqa123
  have h := h9
  clear h9
  obtain ⟨σ124, hvσ124, h⟩ := zbind h
  refine g_iast (pc := 446) C hvσ124 dX9_init_446 ?_
  refine g_aload_n (pc := 447) C 0 0 dX9_init_447 rfl rfl ?_
  obtain ⟨r125, hvr125, h⟩ := zbind h
  refine g_getR (N := 58) (pc := 448) C ck_9 hvr125 rfl rfl fl_X9_13 dX9_init_448 ?_
  refine g_bipush (v := 8) (pc := 451) C dX9_init_451 (by decide) ?_
  refine g_iconst (v := 1) (pc := 453) C dX9_init_453 (by decide) ?_
  obtain ⟨a126, hqa126, h9⟩ := zbind h
  clear h
  subst hqa126
  have h := h9
  clear h9
  obtain ⟨σ127, hvσ127, h⟩ := zbind h
  refine g_iast (pc := 454) C hvσ127 dX9_init_454 ?_
  obtain ⟨rfl, rfl⟩ := zsome h
  exact g_vret (pc := 455) C rfl hx (by rw [hxn]; rfl) (by rw [hxn]; rfl) dX9_init_455
def rm_X9_in : Room := { frames := 0, cells := 0, slots := 0, locals := 0 }
noncomputable def s_X9_in (p0 : Int64) (p2 : Int64) (p4 : Int64) (σ : Hp) : Option (Int32 × Hp) :=
  if (lg_cmp (p0 : Int64) (p2 : Int64)) < 0 then
    some ((0), σ)
  else
    if 0 < (lg_cmp (p0 : Int64) (p4 : Int64)) then
      some ((0), σ)
    else
      some ((1), σ)
set_option maxRecDepth 100000 in
theorem c_X9_in {E : E0} (hE : EOK E) {p0 : Int64} {p2 : Int64} {p4 : Int64} {σ σ1 : Hp} {r : Int32} (h : s_X9_in p0 p2 p4 σ = some (r, σ1)) : CT E yX9_in (.code yX9_in cX9_in 6 (some .boolean)) rm_X9_in [tJ (p0), tJ (p2), tJ (p4)] σ (some (tI r)) σ1 := by
  refine CT.mk hE (by decide +kernel) (Nat.le_of_ble_eq_true rfl) [(0, tJ (p0)), (2, tJ (p2)), (4, tJ (p4))] rfl (fun X C hin hx hxn => ?_)
  have C : XOK E X cX9_in RX9 6 (some .boolean) rm_X9_in := C
  unfold s_X9_in at h
  refine g_lload_n (pc := 0) C 0 0 dX9_in_0 rfl rfl ?_
  refine g_lload_n (pc := 1) C 2 1 dX9_in_1 rfl rfl ?_
  refine g_lcmp (pc := 2) C dX9_in_2 ?_
  refine g_if_lt (pc := 3) C 17 dX9_in_3 (by decide) (fun c2 => ?_) (fun c2 => ?_)
  · have h := zif_t c2 h
    refine g_iconst (v := 0) (pc := 17) C dX9_in_17 (by decide) ?_
    obtain ⟨rfl, rfl⟩ := zsome h
    exact g_zret (pc := 18) C rfl hx (by decide) (by rw [hxn]; rfl) (by rw [hxn]; rfl) dX9_in_18
  · have h := zif_f c2 h
    refine g_lload_n (pc := 6) C 0 0 dX9_in_6 rfl rfl ?_
    refine g_lload (pc := 7) C 2 dX9_in_7 rfl ?_
    refine g_lcmp (pc := 9) C dX9_in_9 ?_
    refine g_if_gt (pc := 10) C 17 dX9_in_10 (by decide) (fun c1 => ?_) (fun c1 => ?_)
    · have h := zif_t c1 h
      refine g_iconst (v := 0) (pc := 17) C dX9_in_17 (by decide) ?_
      obtain ⟨rfl, rfl⟩ := zsome h
      exact g_zret (pc := 18) C rfl hx (by decide) (by rw [hxn]; rfl) (by rw [hxn]; rfl) dX9_in_18
    · have h := zif_f c1 h
      refine g_iconst (v := 1) (pc := 13) C dX9_in_13 (by decide) ?_
      refine g_goto (pc := 14) C 18 dX9_in_14 (by decide) ?_
      obtain ⟨rfl, rfl⟩ := zsome h
      exact g_zret (pc := 18) C rfl hx (by decide) (by rw [hxn]; rfl) (by rw [hxn]; rfl) dX9_in_18
def rm_X9_is : Room := { frames := 0, cells := 0, slots := 0, locals := 0 }
noncomputable def s_X9_is (p0 : Int32) (p1 : Int32) (σ : Hp) : Option (Int32 × Hp) :=
  if ((p0 >>> (p1 &&& 31)) &&& 1) = 1 then
    some ((1), σ)
  else
    some ((0), σ)
set_option maxRecDepth 100000 in
theorem c_X9_is {E : E0} (hE : EOK E) {p0 : Int32} {p1 : Int32} {σ σ1 : Hp} {r : Int32} (h : s_X9_is p0 p1 σ = some (r, σ1)) : CT E yX9_is (.code yX9_is cX9_is 2 (some .boolean)) rm_X9_is [tI (p0), tI (p1)] σ (some (tI r)) σ1 := by
  refine CT.mk hE (by decide +kernel) (Nat.le_of_ble_eq_true rfl) [(0, tI (p0)), (1, tI (p1))] rfl (fun X C hin hx hxn => ?_)
  have C : XOK E X cX9_is RX9 2 (some .boolean) rm_X9_is := C
  unfold s_X9_is at h
  refine g_iload_n (pc := 0) C 0 0 dX9_is_0 rfl rfl ?_
  refine g_iload_n (pc := 1) C 1 1 dX9_is_1 rfl rfl ?_
  refine g_ishr (pc := 2) C dX9_is_2 ?_
  refine g_iconst (v := 1) (pc := 3) C dX9_is_3 (by decide) ?_
  refine g_iand (pc := 4) C dX9_is_4 ?_
  refine g_iconst (v := 1) (pc := 5) C dX9_is_5 (by decide) ?_
  refine g_icmp_ne (pc := 6) C 13 dX9_is_6 (by decide) (fun c1 => ?_) (fun c1 => ?_)
  · have h := zif_f c1 h
    refine g_iconst (v := 0) (pc := 13) C dX9_is_13 (by decide) ?_
    obtain ⟨rfl, rfl⟩ := zsome h
    exact g_zret (pc := 14) C rfl hx (by decide) (by rw [hxn]; rfl) (by rw [hxn]; rfl) dX9_is_14
  · have h := zif_t c1 h
    refine g_iconst (v := 1) (pc := 9) C dX9_is_9 (by decide) ?_
    refine g_goto (pc := 10) C 14 dX9_is_10 (by decide) ?_
    obtain ⟨rfl, rfl⟩ := zsome h
    exact g_zret (pc := 14) C rfl hx (by decide) (by rw [hxn]; rfl) (by rw [hxn]; rfl) dX9_is_14
def rm_X9_ones : Room := { frames := 0, cells := 0, slots := 0, locals := 0 }
noncomputable def s_X9_ones_b4 (l0 : Int32) (l1 : Int32) (l2 : Int32) (σ : Hp) : Option (((Int32 × Int32 × Int32) ⊕ (Int32)) × Hp) :=
  if 10 ≤ l2 then
    some (Sum.inr (l1), σ)
  else
    some (Sum.inl ((l0), (l1 + ((l0 >>> (l2 &&& 31)) &&& 1)), (l2 + 1)), σ)
noncomputable def s_X9_ones_l4 : (Int32 × Int32 × Int32) → Hp → Option ((Int32) × Hp) := loopF (fun v => s_X9_ones_b4 (v.1) (v.2.1) (v.2.2))
set_option maxRecDepth 100000 in
theorem w_X9_ones_b4 {E : E0} (hE : EOK E) {X : X0} (C : XOK E X cX9_ones RX9 3 (some .int) rm_X9_ones) (hxn : xn X = (rm_X9_ones.cells, rm_X9_ones.slots)) {KE : (Int32) → Hp → Prop} (e_ret : ∀ (r : Int32) (σ : Hp), KE (r) σ → xd X = (some (tI r), σ)) (l0 : Int32) (l1 : Int32) (l2 : Int32) (σ : Hp) (x : (Int32 × Int32 × Int32) ⊕ (Int32)) (σ1 : Hp) (h : s_X9_ones_b4 l0 l1 l2 σ = some (x, σ1)) (hI : ∀ v, x = Sum.inl v → (fun (v : Int32 × Int32 × Int32) (σ : Hp) => G E X 0 0 4 [(0, tI ((v.1))), (1, tI ((v.2.1))), (2, tI ((v.2.2)))] [] σ) v σ1) (hO : ∀ e, x = Sum.inr e → KE e σ1) : G E X 0 0 4 [(0, tI (l0)), (1, tI (l1)), (2, tI (l2))] [] σ := by
  unfold s_X9_ones_b4 at h
  refine g_iload_n (pc := 4) C 2 2 dX9_ones_4 rfl rfl ?_
  refine g_bipush (v := 10) (pc := 5) C dX9_ones_5 (by decide) ?_
  refine g_icmp_ge (pc := 7) C 24 dX9_ones_7 (by decide) (fun c1 => ?_) (fun c1 => ?_)
  · have h := zif_t c1 h
    refine g_iload_n (pc := 24) C 1 1 dX9_ones_24 rfl rfl ?_
    obtain ⟨rfl, rfl⟩ := zsome h
    exact g_iret (pc := 25) C rfl (e_ret _ _ (hO _ rfl)) (by rw [hxn]; rfl) (by rw [hxn]; rfl) dX9_ones_25
  · have h := zif_f c1 h
    refine g_iload_n (pc := 10) C 1 1 dX9_ones_10 rfl rfl ?_
    refine g_iload_n (pc := 11) C 0 0 dX9_ones_11 rfl rfl ?_
    refine g_iload_n (pc := 12) C 2 2 dX9_ones_12 rfl rfl ?_
    refine g_ishr (pc := 13) C dX9_ones_13 ?_
    refine g_iconst (v := 1) (pc := 14) C dX9_ones_14 (by decide) ?_
    refine g_iand (pc := 15) C dX9_ones_15 ?_
    refine g_iadd (pc := 16) C dX9_ones_16 ?_
    refine g_istore_n (lm' := [(1, tI (l1 + ((l0 >>> (l2 &&& 31)) &&& 1))), (0, tI (l0)), (2, tI (l2))]) (pc := 17) C 1 dX9_ones_17 rfl (by decide) rfl ?_
    refine g_iinc (lm' := [(2, tI (l2 + 1)), (1, tI (l1 + ((l0 >>> (l2 &&& 31)) &&& 1))), (0, tI (l0))]) (v := l2 + 1) (pc := 18) C 2 dX9_ones_18 rfl rfl (by decide) rfl ?_
    refine g_goto (pc := 21) C 4 dX9_ones_21 (by decide) ?_
    refine g_sub [2, 1, 0] (lm' := [(0, tI (l0)), (1, tI (l1 + ((l0 >>> (l2 &&& 31)) &&& 1))), (2, tI (l2 + 1))]) rfl ?_
    obtain ⟨rfl, rfl⟩ := zsome h
    exact hI _ rfl
theorem w_X9_ones_l4 {E : E0} (hE : EOK E) {X : X0} (C : XOK E X cX9_ones RX9 3 (some .int) rm_X9_ones) (hxn : xn X = (rm_X9_ones.cells, rm_X9_ones.slots)) {KE : (Int32) → Hp → Prop} (e_ret : ∀ (r : Int32) (σ : Hp), KE (r) σ → xd X = (some (tI r), σ)) {v : Int32 × Int32 × Int32} {σ : Hp} {e : Int32} {σ1 : Hp} (h : s_X9_ones_l4 v σ = some (e, σ1)) (hO : KE e σ1) : G E X 0 0 4 [(0, tI ((v.1))), (1, tI ((v.2.1))), (2, tI ((v.2.2)))] [] σ := loopF_ind (P := fun (v : Int32 × Int32 × Int32) (σ : Hp) => G E X 0 0 4 [(0, tI ((v.1))), (1, tI ((v.2.1))), (2, tI ((v.2.2)))] [] σ) (KE := KE) (fun v σ x σ1 h hI hO => w_X9_ones_b4 hE C hxn e_ret (v.1) (v.2.1) (v.2.2) σ x σ1 h hI hO) v σ e σ1 h hO
noncomputable def s_X9_ones (p0 : Int32) (σ : Hp) : Option (Int32 × Hp) :=
  cb (s_X9_ones_l4 ((p0), (0), (0)) σ) fun r2 σ3 =>
  some (r2, σ3)
set_option maxRecDepth 100000 in
theorem c_X9_ones {E : E0} (hE : EOK E) {p0 : Int32} {σ σ1 : Hp} {r : Int32} (h : s_X9_ones p0 σ = some (r, σ1)) : CT E yX9_ones (.code yX9_ones cX9_ones 3 (some .int)) rm_X9_ones [tI (p0)] σ (some (tI r)) σ1 := by
  refine CT.mk hE (by decide +kernel) (Nat.le_of_ble_eq_true rfl) [(0, tI (p0))] rfl (fun X C hin hx hxn => ?_)
  have C : XOK E X cX9_ones RX9 3 (some .int) rm_X9_ones := C
  unfold s_X9_ones at h
  refine g_iconst (v := 0) (pc := 0) C dX9_ones_0 (by decide) ?_
  refine g_istore_n (lm' := [(1, tI (0)), (0, tI (p0))]) (pc := 1) C 1 dX9_ones_1 rfl (by decide) rfl ?_
  refine g_iconst (v := 0) (pc := 2) C dX9_ones_2 (by decide) ?_
  refine g_istore_n (lm' := [(2, tI (0)), (1, tI (0)), (0, tI (p0))]) (pc := 3) C 2 dX9_ones_3 rfl (by decide) rfl ?_
  refine g_sub [2, 1, 0] (lm' := [(0, tI (p0)), (1, tI (0)), (2, tI (0))]) rfl ?_
  obtain ⟨KQ, hKQ, r2, σ3, hlr2, h⟩ := zcbK h
  refine w_X9_ones_l4 (KE := KQ) hE C hxn ?_ hlr2 h
  · intro r2 σ1 h
    have h := (hKQ _ _).mp h
    obtain ⟨rfl, rfl⟩ := zsome h
    exact hx
def rm_X9_bounded : Room := { frames := 0, cells := 0, slots := 0, locals := 0 }
noncomputable def s_X9_bounded (p0 : Int64) (p2 : Int32) (p3 : Int32) (σ : Hp) : Option (Int32 × Hp) :=
  if 0 ≤ (lg_cmp (p0 : Int64) (Int32.toInt64 (p2 : Int32) : Int64)) then
    if (lg_cmp (p0 : Int64) (Int32.toInt64 (p3 : Int32) : Int64)) ≤ 0 then
      some ((Int64.toInt32 (p0 : Int64)), σ)
    else
      some ((p3), σ)
  else
    some ((p2), σ)
set_option maxRecDepth 100000 in
theorem c_X9_bounded {E : E0} (hE : EOK E) {p0 : Int64} {p2 : Int32} {p3 : Int32} {σ σ1 : Hp} {r : Int32} (h : s_X9_bounded p0 p2 p3 σ = some (r, σ1)) : CT E yX9_bounded (.code yX9_bounded cX9_bounded 4 (some .int)) rm_X9_bounded [tJ (p0), tI (p2), tI (p3)] σ (some (tI r)) σ1 := by
  refine CT.mk hE (by decide +kernel) (Nat.le_of_ble_eq_true rfl) [(0, tJ (p0)), (2, tI (p2)), (3, tI (p3))] rfl (fun X C hin hx hxn => ?_)
  have C : XOK E X cX9_bounded RX9 4 (some .int) rm_X9_bounded := C
  unfold s_X9_bounded at h
  refine g_lload_n (pc := 0) C 0 0 dX9_bounded_0 rfl rfl ?_
  refine g_iload_n (pc := 1) C 2 1 dX9_bounded_1 rfl rfl ?_
  refine g_i2l (pc := 2) C dX9_bounded_2 ?_
  refine g_lcmp (pc := 3) C dX9_bounded_3 ?_
  refine g_if_ge (pc := 4) C 11 dX9_bounded_4 (by decide) (fun c2 => ?_) (fun c2 => ?_)
  · have h := zif_t c2 h
    refine g_lload_n (pc := 11) C 0 0 dX9_bounded_11 rfl rfl ?_
    refine g_iload_n (pc := 12) C 3 2 dX9_bounded_12 rfl rfl ?_
    refine g_i2l (pc := 13) C dX9_bounded_13 ?_
    refine g_lcmp (pc := 14) C dX9_bounded_14 ?_
    refine g_if_le (pc := 15) C 22 dX9_bounded_15 (by decide) (fun c1 => ?_) (fun c1 => ?_)
    · have h := zif_t c1 h
      refine g_lload_n (pc := 22) C 0 0 dX9_bounded_22 rfl rfl ?_
      refine g_l2i (pc := 23) C dX9_bounded_23 ?_
      obtain ⟨rfl, rfl⟩ := zsome h
      exact g_iret (pc := 24) C rfl hx (by rw [hxn]; rfl) (by rw [hxn]; rfl) dX9_bounded_24
    · have h := zif_f c1 h
      refine g_iload_n (pc := 18) C 3 2 dX9_bounded_18 rfl rfl ?_
      refine g_goto (pc := 19) C 24 dX9_bounded_19 (by decide) ?_
      obtain ⟨rfl, rfl⟩ := zsome h
      exact g_iret (pc := 24) C rfl hx (by rw [hxn]; rfl) (by rw [hxn]; rfl) dX9_bounded_24
  · have h := zif_f c2 h
    refine g_iload_n (pc := 7) C 2 1 dX9_bounded_7 rfl rfl ?_
    refine g_goto (pc := 8) C 24 dX9_bounded_8 (by decide) ?_
    obtain ⟨rfl, rfl⟩ := zsome h
    exact g_iret (pc := 24) C rfl hx (by rw [hxn]; rfl) (by rw [hxn]; rfl) dX9_bounded_24
def rm_X9_tell : Room := { frames := 0, cells := 0, slots := 0, locals := 0 }
noncomputable def s_X9_tell_j10 (h0 : Nat) (l1 : Int32) (t0 : Option Nat) (t1 : Int32) (σ : Hp) : Option (Int32 × Hp) :=
  (t0).bind fun a1 =>
  (wrI 9 σ a1 1 (t1)).bind fun σ2 =>
  if 0 ≤ l1 then
    some ((l1), σ2)
  else
    (rdR 9 σ2 h0 2).bind fun r3 =>
    (r3).bind fun a4 =>
    (ldI 11 σ2 a4 (-l1)).bind fun v5 =>
    (stI σ2 a4 (-l1) (v5 + 1)).bind fun σ6 =>
    some ((l1), σ6)
set_option maxRecDepth 100000 in
theorem w_X9_tell_j10 {E : E0} (hE : EOK E) {X : X0} (C : XOK E X cX9_tell RX9 2 (some .int) rm_X9_tell) (hxn : xn X = (rm_X9_tell.cells, rm_X9_tell.slots)) (h0 : Nat) (l1 : Int32) (t0 : Option Nat) (t1 : Int32) (σ : Hp) (r : Int32) (σ1 : Hp) (h : s_X9_tell_j10 h0 l1 t0 t1 σ = some (r, σ1)) (hx : xd X = (some (tI r), σ1)) : G E X 0 0 10 [(0, tR (some (h0))), (1, tI (l1))] [tI (t1), tR (t0)] σ := by
  unfold s_X9_tell_j10 at h
  obtain ⟨a1, hqa1, h9⟩ := zbind h
  clear h
  subst hqa1
  have h := h9
  clear h9
  obtain ⟨σ2, hvσ2, h⟩ := zbind h
  refine g_putI (N := 58) (pc := 10) C ⟨ck_9, rfl, tyX9_ok⟩ hvσ2 rfl fl_X9_164 rfl rfl dX9_tell_10 ?_
  refine g_iload_n (pc := 13) C 1 1 dX9_tell_13 rfl rfl ?_
  refine g_if_ge (pc := 14) C 28 dX9_tell_14 (by decide) (fun c7 => ?_) (fun c7 => ?_)
  · have h := zif_t c7 h
    refine g_iload_n (pc := 28) C 1 1 dX9_tell_28 rfl rfl ?_
    obtain ⟨rfl, rfl⟩ := zsome h
    exact g_iret (pc := 29) C rfl hx (by rw [hxn]; rfl) (by rw [hxn]; rfl) dX9_tell_29
  · have h := zif_f c7 h
    refine g_aload_n (pc := 17) C 0 0 dX9_tell_17 rfl rfl ?_
    obtain ⟨r3, hvr3, h⟩ := zbind h
    refine g_getR (N := 58) (pc := 18) C ck_9 hvr3 rfl rfl fl_X9_7 dX9_tell_18 ?_
    refine g_iload_n (pc := 21) C 1 1 dX9_tell_21 rfl rfl ?_
    refine g_ineg (pc := 22) C dX9_tell_22 ?_
    refine g_dup2 (pc := 23) C dX9_tell_23 rfl rfl ?_
    obtain ⟨a4, hqa4, h9⟩ := zbind h
    clear h
    subst hqa4
    have h := h9
    clear h9
    obtain ⟨v5, hvv5, h⟩ := zbind h
    refine g_iald (pc := 24) C hvv5 dX9_tell_24 ?_
    refine g_iconst (v := 1) (pc := 25) C dX9_tell_25 (by decide) ?_
    refine g_iadd (pc := 26) C dX9_tell_26 ?_
    obtain ⟨σ6, hvσ6, h⟩ := zbind h
    refine g_iast (pc := 27) C hvσ6 dX9_tell_27 ?_
    refine g_iload_n (pc := 28) C 1 1 dX9_tell_28 rfl rfl ?_
    obtain ⟨rfl, rfl⟩ := zsome h
    exact g_iret (pc := 29) C rfl hx (by rw [hxn]; rfl) (by rw [hxn]; rfl) dX9_tell_29
noncomputable def s_X9_tell (h0 : Nat) (p1 : Int32) (σ : Hp) : Option (Int32 × Hp) :=
  if 0 ≤ p1 then
    s_X9_tell_j10 (h0) (p1) (some (h0)) (0) σ
  else
    s_X9_tell_j10 (h0) (p1) (some (h0)) (p1) σ
set_option maxRecDepth 100000 in
theorem c_X9_tell {E : E0} (hE : EOK E) {h0 : Nat} {p1 : Int32} {σ σ1 : Hp} {r : Int32} (h : s_X9_tell h0 p1 σ = some (r, σ1)) : CT E yX9_tell (.code yX9_tell cX9_tell 2 (some .int)) rm_X9_tell [tR (some (h0)), tI (p1)] σ (some (tI r)) σ1 := by
  refine CT.mk hE (by decide +kernel) (Nat.le_of_ble_eq_true rfl) [(0, tR (some (h0))), (1, tI (p1))] rfl (fun X C hin hx hxn => ?_)
  have C : XOK E X cX9_tell RX9 2 (some .int) rm_X9_tell := C
  unfold s_X9_tell at h
  refine g_aload_n (pc := 0) C 0 0 dX9_tell_0 rfl rfl ?_
  refine g_iload_n (pc := 1) C 1 1 dX9_tell_1 rfl rfl ?_
  refine g_if_ge (pc := 2) C 9 dX9_tell_2 (by decide) (fun c1 => ?_) (fun c1 => ?_)
  · have h := zif_t c1 h
    refine g_iconst (v := 0) (pc := 9) C dX9_tell_9 (by decide) ?_
    exact w_X9_tell_j10 hE C hxn _ _ _ _ _ _ _ h hx
  · have h := zif_f c1 h
    refine g_iload_n (pc := 5) C 1 1 dX9_tell_5 rfl rfl ?_
    refine g_goto (pc := 6) C 10 dX9_tell_6 (by decide) ?_
    exact w_X9_tell_j10 hE C hxn _ _ _ _ _ _ _ h hx
def rm_X9_change : Room := { frames := 0, cells := 0, slots := 0, locals := 0 }
noncomputable def s_X9_change (h0 : Nat) (p1 : Int32) (p2 : Int32) (σ : Hp) : Option (Int32 × Hp) :=
  (rdR 9 σ h0 3).bind fun r1 =>
  (r1).bind fun a2 =>
  (ldI 11 σ a2 (p1)).bind fun v3 =>
  (rdR 9 σ h0 3).bind fun r4 =>
  (r4).bind fun a5 =>
  (stI σ a5 (p1) (p2)).bind fun σ6 =>
  (wrI 9 σ6 h0 1 (0)).bind fun σ7 =>
  some ((v3), σ7)
set_option maxRecDepth 100000 in
theorem c_X9_change {E : E0} (hE : EOK E) {h0 : Nat} {p1 : Int32} {p2 : Int32} {σ σ1 : Hp} {r : Int32} (h : s_X9_change h0 p1 p2 σ = some (r, σ1)) : CT E yX9_change (.code yX9_change cX9_change 4 (some .int)) rm_X9_change [tR (some (h0)), tI (p1), tI (p2)] σ (some (tI r)) σ1 := by
  refine CT.mk hE (by decide +kernel) (Nat.le_of_ble_eq_true rfl) [(0, tR (some (h0))), (1, tI (p1)), (2, tI (p2))] rfl (fun X C hin hx hxn => ?_)
  have C : XOK E X cX9_change RX9 4 (some .int) rm_X9_change := C
  unfold s_X9_change at h
  refine g_aload_n (pc := 0) C 0 0 dX9_change_0 rfl rfl ?_
  obtain ⟨r1, hvr1, h⟩ := zbind h
  refine g_getR (N := 58) (pc := 1) C ck_9 hvr1 rfl rfl fl_X9_13 dX9_change_1 ?_
  refine g_iload_n (pc := 4) C 1 1 dX9_change_4 rfl rfl ?_
  obtain ⟨a2, hqa2, h9⟩ := zbind h
  clear h
  subst hqa2
  have h := h9
  clear h9
  obtain ⟨v3, hvv3, h⟩ := zbind h
  refine g_iald (pc := 5) C hvv3 dX9_change_5 ?_
  refine g_istore_n (lm' := [(3, tI (v3)), (0, tR (some (h0))), (1, tI (p1)), (2, tI (p2))]) (pc := 6) C 3 dX9_change_6 rfl (by decide) rfl ?_
  refine g_aload_n (pc := 7) C 0 1 dX9_change_7 rfl rfl ?_
  obtain ⟨r4, hvr4, h⟩ := zbind h
  refine g_getR (N := 58) (pc := 8) C ck_9 hvr4 rfl rfl fl_X9_13 dX9_change_8 ?_
  refine g_iload_n (pc := 11) C 1 2 dX9_change_11 rfl rfl ?_
  refine g_iload_n (pc := 12) C 2 3 dX9_change_12 rfl rfl ?_
  obtain ⟨a5, hqa5, h9⟩ := zbind h
  clear h
  subst hqa5
  have h := h9
  clear h9
  obtain ⟨σ6, hvσ6, h⟩ := zbind h
  refine g_iast (pc := 13) C hvσ6 dX9_change_13 ?_
  refine g_aload_n (pc := 14) C 0 1 dX9_change_14 rfl rfl ?_
  refine g_iconst (v := 0) (pc := 15) C dX9_change_15 (by decide) ?_
  obtain ⟨σ7, hvσ7, h⟩ := zbind h
  refine g_putI (N := 58) (pc := 16) C ⟨ck_9, rfl, tyX9_ok⟩ hvσ7 rfl fl_X9_164 rfl rfl dX9_change_16 ?_
  refine g_iload_n (pc := 19) C 3 0 dX9_change_19 rfl rfl ?_
  obtain ⟨rfl, rfl⟩ := zsome h
  exact g_iret (pc := 20) C rfl hx (by rw [hxn]; rfl) (by rw [hxn]; rfl) dX9_change_20
def rm_X9_lasting : Room := { frames := 1, cells := 0, slots := 0, locals := 21 }
noncomputable def s_X9_lasting_j13 (h0 : Nat) (l1 : Int32) (t0 : Option Nat) (t1 : Int32) (σ : Hp) : Option (Int32 × Hp) :=
  (t0).bind fun a1 =>
  (wrI 9 σ a1 8 (t1)).bind fun σ2 =>
  (ck 9 σ2 h0).bind fun u3 =>
  cb (s_X9_tell h0 (l1) σ2) fun v5 σ4 =>
  some ((v5), σ4)
set_option maxRecDepth 100000 in
theorem w_X9_lasting_j13 {E : E0} (hE : EOK E) {X : X0} (C : XOK E X cX9_lasting RX9 2 (some .int) rm_X9_lasting) (hxn : xn X = (rm_X9_lasting.cells, rm_X9_lasting.slots)) (h0 : Nat) (l1 : Int32) (t0 : Option Nat) (t1 : Int32) (σ : Hp) (r : Int32) (σ1 : Hp) (h : s_X9_lasting_j13 h0 l1 t0 t1 σ = some (r, σ1)) (hx : xd X = (some (tI r), σ1)) : G E X 0 0 13 [(0, tR (some (h0))), (1, tI (l1))] [tI (t1), tR (t0)] σ := by
  unfold s_X9_lasting_j13 at h
  obtain ⟨a1, hqa1, h9⟩ := zbind h
  clear h
  subst hqa1
  have h := h9
  clear h9
  obtain ⟨σ2, hvσ2, h⟩ := zbind h
  refine g_putI (N := 58) (pc := 13) C ⟨ck_9, rfl, tyX9_ok⟩ hvσ2 rfl fl_X9_167 rfl rfl dX9_lasting_13 ?_
  refine g_aload_n (pc := 16) C 0 0 dX9_lasting_16 rfl rfl ?_
  refine g_iload_n (pc := 17) C 1 1 dX9_lasting_17 rfl rfl ?_
  obtain ⟨u3, hvu3, h⟩ := zbind h
  obtain ⟨v5, σ4, hvσ4, h⟩ := zcb h
  refine g_callV (pc := 18) (av := [tI (l1)]) C (c_X9_tell hE hvσ4) yv_X9_tell ml_X9_170 ck_9 (zopt hvu3).1 rfl (rf_of (by decide)) rfl (Nat.le_of_ble_eq_true rfl) dX9_lasting_18 ?_
  obtain ⟨rfl, rfl⟩ := zsome h
  exact g_iret (pc := 21) C rfl hx (by rw [hxn]; rfl) (by rw [hxn]; rfl) dX9_lasting_21
noncomputable def s_X9_lasting (h0 : Nat) (p1 : Int32) (σ : Hp) : Option (Int32 × Hp) :=
  if 0 ≤ p1 then
    s_X9_lasting_j13 (h0) (p1) (some (h0)) (0) σ
  else
    (rdI 9 σ h0 8).bind fun v1 =>
    s_X9_lasting_j13 (h0) (p1) (some (h0)) (v1) σ
set_option maxRecDepth 100000 in
theorem c_X9_lasting {E : E0} (hE : EOK E) {h0 : Nat} {p1 : Int32} {σ σ1 : Hp} {r : Int32} (h : s_X9_lasting h0 p1 σ = some (r, σ1)) : CT E yX9_lasting (.code yX9_lasting cX9_lasting 2 (some .int)) rm_X9_lasting [tR (some (h0)), tI (p1)] σ (some (tI r)) σ1 := by
  refine CT.mk hE (by decide +kernel) (Nat.le_of_ble_eq_true rfl) [(0, tR (some (h0))), (1, tI (p1))] rfl (fun X C hin hx hxn => ?_)
  have C : XOK E X cX9_lasting RX9 2 (some .int) rm_X9_lasting := C
  unfold s_X9_lasting at h
  refine g_aload_n (pc := 0) C 0 0 dX9_lasting_0 rfl rfl ?_
  refine g_iload_n (pc := 1) C 1 1 dX9_lasting_1 rfl rfl ?_
  refine g_if_ge (pc := 2) C 12 dX9_lasting_2 (by decide) (fun c2 => ?_) (fun c2 => ?_)
  · have h := zif_t c2 h
    refine g_iconst (v := 0) (pc := 12) C dX9_lasting_12 (by decide) ?_
    exact w_X9_lasting_j13 hE C hxn _ _ _ _ _ _ _ h hx
  · have h := zif_f c2 h
    refine g_aload_n (pc := 5) C 0 0 dX9_lasting_5 rfl rfl ?_
    obtain ⟨v1, hvv1, h⟩ := zbind h
    refine g_getI (N := 58) (pc := 6) C ck_9 hvv1 rfl rfl fl_X9_167 dX9_lasting_6 ?_
    refine g_goto (pc := 9) C 13 dX9_lasting_9 (by decide) ?_
    exact w_X9_lasting_j13 hE C hxn _ _ _ _ _ _ _ h hx
def rm_X9_keepAll : Room := { frames := 0, cells := 0, slots := 0, locals := 0 }
noncomputable def s_X9_keepAll_b2 (h0 : Nat) (l1 : Int32) (l2 : Int32) (σ : Hp) : Option (((Nat × Int32 × Int32) ⊕ (Unit)) × Hp) :=
  if 23 ≤ l2 then
    some (Sum.inr (), σ)
  else
    (rdR 9 σ h0 6).bind fun r1 =>
    (rdR 9 σ h0 3).bind fun r2 =>
    (r2).bind fun a3 =>
    (ldI 11 σ a3 (7 + l2)).bind fun v4 =>
    (r1).bind fun a5 =>
    (stI σ a5 ((23 * l1) + l2) (v4)).bind fun σ6 =>
    some (Sum.inl ((h0), (l1), (l2 + 1)), σ6)
noncomputable def s_X9_keepAll_l2 : (Nat × Int32 × Int32) → Hp → Option ((Unit) × Hp) := loopF (fun v => s_X9_keepAll_b2 (v.1) (v.2.1) (v.2.2))
set_option maxRecDepth 100000 in
theorem w_X9_keepAll_b2 {E : E0} (hE : EOK E) {X : X0} (C : XOK E X cX9_keepAll RX9 3 none rm_X9_keepAll) (hxn : xn X = (rm_X9_keepAll.cells, rm_X9_keepAll.slots)) {KE : (Unit) → Hp → Prop} (e_ret : ∀ (r : Unit) (σ : Hp), KE (r) σ → xd X = (none, σ)) (h0 : Nat) (l1 : Int32) (l2 : Int32) (σ : Hp) (x : (Nat × Int32 × Int32) ⊕ (Unit)) (σ1 : Hp) (h : s_X9_keepAll_b2 h0 l1 l2 σ = some (x, σ1)) (hI : ∀ v, x = Sum.inl v → (fun (v : Nat × Int32 × Int32) (σ : Hp) => G E X 0 0 2 [(0, tR (some ((v.1)))), (1, tI ((v.2.1))), (2, tI ((v.2.2)))] [] σ) v σ1) (hO : ∀ e, x = Sum.inr e → KE e σ1) : G E X 0 0 2 [(0, tR (some (h0))), (1, tI (l1)), (2, tI (l2))] [] σ := by
  unfold s_X9_keepAll_b2 at h
  refine g_iload_n (pc := 2) C 2 2 dX9_keepAll_2 rfl rfl ?_
  refine g_bipush (v := 23) (pc := 3) C dX9_keepAll_3 (by decide) ?_
  refine g_icmp_ge (pc := 5) C 34 dX9_keepAll_5 (by decide) (fun c7 => ?_) (fun c7 => ?_)
  · have h := zif_t c7 h
    obtain ⟨rfl, rfl⟩ := zsome h
    exact g_vret (pc := 34) C rfl (e_ret _ _ (hO _ rfl)) (by rw [hxn]; rfl) (by rw [hxn]; rfl) dX9_keepAll_34
  · have h := zif_f c7 h
    refine g_aload_n (pc := 8) C 0 0 dX9_keepAll_8 rfl rfl ?_
    obtain ⟨r1, hvr1, h⟩ := zbind h
    refine g_getR (N := 58) (pc := 9) C ck_9 hvr1 rfl rfl fl_X9_23 dX9_keepAll_9 ?_
    refine g_bipush (v := 23) (pc := 12) C dX9_keepAll_12 (by decide) ?_
    refine g_iload_n (pc := 14) C 1 1 dX9_keepAll_14 rfl rfl ?_
    refine g_imul (pc := 15) C dX9_keepAll_15 ?_
    refine g_iload_n (pc := 16) C 2 2 dX9_keepAll_16 rfl rfl ?_
    refine g_iadd (pc := 17) C dX9_keepAll_17 ?_
    refine g_aload_n (pc := 18) C 0 0 dX9_keepAll_18 rfl rfl ?_
    obtain ⟨r2, hvr2, h⟩ := zbind h
    refine g_getR (N := 58) (pc := 19) C ck_9 hvr2 rfl rfl fl_X9_13 dX9_keepAll_19 ?_
    refine g_bipush (v := 7) (pc := 22) C dX9_keepAll_22 (by decide) ?_
    refine g_iload_n (pc := 24) C 2 2 dX9_keepAll_24 rfl rfl ?_
    refine g_iadd (pc := 25) C dX9_keepAll_25 ?_
    obtain ⟨a3, hqa3, h9⟩ := zbind h
    clear h
    subst hqa3
    have h := h9
    clear h9
    obtain ⟨v4, hvv4, h⟩ := zbind h
    refine g_iald (pc := 26) C hvv4 dX9_keepAll_26 ?_
    obtain ⟨a5, hqa5, h9⟩ := zbind h
    clear h
    subst hqa5
    have h := h9
    clear h9
    obtain ⟨σ6, hvσ6, h⟩ := zbind h
    refine g_iast (pc := 27) C hvσ6 dX9_keepAll_27 ?_
    refine g_iinc (lm' := [(2, tI (l2 + 1)), (0, tR (some (h0))), (1, tI (l1))]) (v := l2 + 1) (pc := 28) C 2 dX9_keepAll_28 rfl rfl (by decide) rfl ?_
    refine g_goto (pc := 31) C 2 dX9_keepAll_31 (by decide) ?_
    refine g_sub [1, 2, 0] (lm' := [(0, tR (some (h0))), (1, tI (l1)), (2, tI (l2 + 1))]) rfl ?_
    obtain ⟨rfl, rfl⟩ := zsome h
    exact hI _ rfl
theorem w_X9_keepAll_l2 {E : E0} (hE : EOK E) {X : X0} (C : XOK E X cX9_keepAll RX9 3 none rm_X9_keepAll) (hxn : xn X = (rm_X9_keepAll.cells, rm_X9_keepAll.slots)) {KE : (Unit) → Hp → Prop} (e_ret : ∀ (r : Unit) (σ : Hp), KE (r) σ → xd X = (none, σ)) {v : Nat × Int32 × Int32} {σ : Hp} {e : Unit} {σ1 : Hp} (h : s_X9_keepAll_l2 v σ = some (e, σ1)) (hO : KE e σ1) : G E X 0 0 2 [(0, tR (some ((v.1)))), (1, tI ((v.2.1))), (2, tI ((v.2.2)))] [] σ := loopF_ind (P := fun (v : Nat × Int32 × Int32) (σ : Hp) => G E X 0 0 2 [(0, tR (some ((v.1)))), (1, tI ((v.2.1))), (2, tI ((v.2.2)))] [] σ) (KE := KE) (fun v σ x σ1 h hI hO => w_X9_keepAll_b2 hE C hxn e_ret (v.1) (v.2.1) (v.2.2) σ x σ1 h hI hO) v σ e σ1 h hO
noncomputable def s_X9_keepAll (h0 : Nat) (p1 : Int32) (σ : Hp) : Option (Unit × Hp) :=
  cb (s_X9_keepAll_l2 ((h0), (p1), (0)) σ) fun r2 σ3 =>
  some (r2, σ3)
set_option maxRecDepth 100000 in
theorem c_X9_keepAll {E : E0} (hE : EOK E) {h0 : Nat} {p1 : Int32} {σ σ1 : Hp} {r : Unit} (h : s_X9_keepAll h0 p1 σ = some (r, σ1)) : CT E yX9_keepAll (.code yX9_keepAll cX9_keepAll 3 none) rm_X9_keepAll [tR (some (h0)), tI (p1)] σ none σ1 := by
  refine CT.mk hE (by decide +kernel) (Nat.le_of_ble_eq_true rfl) [(0, tR (some (h0))), (1, tI (p1))] rfl (fun X C hin hx hxn => ?_)
  have C : XOK E X cX9_keepAll RX9 3 none rm_X9_keepAll := C
  unfold s_X9_keepAll at h
  refine g_iconst (v := 0) (pc := 0) C dX9_keepAll_0 (by decide) ?_
  refine g_istore_n (lm' := [(2, tI (0)), (0, tR (some (h0))), (1, tI (p1))]) (pc := 1) C 2 dX9_keepAll_1 rfl (by decide) rfl ?_
  refine g_sub [1, 2, 0] (lm' := [(0, tR (some (h0))), (1, tI (p1)), (2, tI (0))]) rfl ?_
  obtain ⟨KQ, hKQ, r2, σ3, hlr2, h⟩ := zcbK h
  refine w_X9_keepAll_l2 (KE := KQ) hE C hxn ?_ hlr2 h
  · intro r2 σ1 h
    have h := (hKQ _ _).mp h
    obtain ⟨rfl, rfl⟩ := zsome h
    exact hx
def rm_X9_putBack : Room := { frames := 0, cells := 0, slots := 0, locals := 0 }
noncomputable def s_X9_putBack_b2 (h0 : Nat) (l1 : Int32) (l2 : Int32) (σ : Hp) : Option (((Nat × Int32 × Int32) ⊕ (Unit)) × Hp) :=
  if 23 ≤ l2 then
    some (Sum.inr (), σ)
  else
    (rdR 9 σ h0 3).bind fun r1 =>
    (rdR 9 σ h0 6).bind fun r2 =>
    (r2).bind fun a3 =>
    (ldI 11 σ a3 ((23 * l1) + l2)).bind fun v4 =>
    (r1).bind fun a5 =>
    (stI σ a5 (7 + l2) (v4)).bind fun σ6 =>
    some (Sum.inl ((h0), (l1), (l2 + 1)), σ6)
noncomputable def s_X9_putBack_l2 : (Nat × Int32 × Int32) → Hp → Option ((Unit) × Hp) := loopF (fun v => s_X9_putBack_b2 (v.1) (v.2.1) (v.2.2))
set_option maxRecDepth 100000 in
theorem w_X9_putBack_b2 {E : E0} (hE : EOK E) {X : X0} (C : XOK E X cX9_putBack RX9 3 none rm_X9_putBack) (hxn : xn X = (rm_X9_putBack.cells, rm_X9_putBack.slots)) {KE : (Unit) → Hp → Prop} (e_ret : ∀ (r : Unit) (σ : Hp), KE (r) σ → xd X = (none, σ)) (h0 : Nat) (l1 : Int32) (l2 : Int32) (σ : Hp) (x : (Nat × Int32 × Int32) ⊕ (Unit)) (σ1 : Hp) (h : s_X9_putBack_b2 h0 l1 l2 σ = some (x, σ1)) (hI : ∀ v, x = Sum.inl v → (fun (v : Nat × Int32 × Int32) (σ : Hp) => G E X 0 0 2 [(0, tR (some ((v.1)))), (1, tI ((v.2.1))), (2, tI ((v.2.2)))] [] σ) v σ1) (hO : ∀ e, x = Sum.inr e → KE e σ1) : G E X 0 0 2 [(0, tR (some (h0))), (1, tI (l1)), (2, tI (l2))] [] σ := by
  unfold s_X9_putBack_b2 at h
  refine g_iload_n (pc := 2) C 2 2 dX9_putBack_2 rfl rfl ?_
  refine g_bipush (v := 23) (pc := 3) C dX9_putBack_3 (by decide) ?_
  refine g_icmp_ge (pc := 5) C 34 dX9_putBack_5 (by decide) (fun c7 => ?_) (fun c7 => ?_)
  · have h := zif_t c7 h
    obtain ⟨rfl, rfl⟩ := zsome h
    exact g_vret (pc := 34) C rfl (e_ret _ _ (hO _ rfl)) (by rw [hxn]; rfl) (by rw [hxn]; rfl) dX9_putBack_34
  · have h := zif_f c7 h
    refine g_aload_n (pc := 8) C 0 0 dX9_putBack_8 rfl rfl ?_
    obtain ⟨r1, hvr1, h⟩ := zbind h
    refine g_getR (N := 58) (pc := 9) C ck_9 hvr1 rfl rfl fl_X9_13 dX9_putBack_9 ?_
    refine g_bipush (v := 7) (pc := 12) C dX9_putBack_12 (by decide) ?_
    refine g_iload_n (pc := 14) C 2 2 dX9_putBack_14 rfl rfl ?_
    refine g_iadd (pc := 15) C dX9_putBack_15 ?_
    refine g_aload_n (pc := 16) C 0 0 dX9_putBack_16 rfl rfl ?_
    obtain ⟨r2, hvr2, h⟩ := zbind h
    refine g_getR (N := 58) (pc := 17) C ck_9 hvr2 rfl rfl fl_X9_23 dX9_putBack_17 ?_
    refine g_bipush (v := 23) (pc := 20) C dX9_putBack_20 (by decide) ?_
    refine g_iload_n (pc := 22) C 1 1 dX9_putBack_22 rfl rfl ?_
    refine g_imul (pc := 23) C dX9_putBack_23 ?_
    refine g_iload_n (pc := 24) C 2 2 dX9_putBack_24 rfl rfl ?_
    refine g_iadd (pc := 25) C dX9_putBack_25 ?_
    obtain ⟨a3, hqa3, h9⟩ := zbind h
    clear h
    subst hqa3
    have h := h9
    clear h9
    obtain ⟨v4, hvv4, h⟩ := zbind h
    refine g_iald (pc := 26) C hvv4 dX9_putBack_26 ?_
    obtain ⟨a5, hqa5, h9⟩ := zbind h
    clear h
    subst hqa5
    have h := h9
    clear h9
    obtain ⟨σ6, hvσ6, h⟩ := zbind h
    refine g_iast (pc := 27) C hvσ6 dX9_putBack_27 ?_
    refine g_iinc (lm' := [(2, tI (l2 + 1)), (0, tR (some (h0))), (1, tI (l1))]) (v := l2 + 1) (pc := 28) C 2 dX9_putBack_28 rfl rfl (by decide) rfl ?_
    refine g_goto (pc := 31) C 2 dX9_putBack_31 (by decide) ?_
    refine g_sub [1, 2, 0] (lm' := [(0, tR (some (h0))), (1, tI (l1)), (2, tI (l2 + 1))]) rfl ?_
    obtain ⟨rfl, rfl⟩ := zsome h
    exact hI _ rfl
theorem w_X9_putBack_l2 {E : E0} (hE : EOK E) {X : X0} (C : XOK E X cX9_putBack RX9 3 none rm_X9_putBack) (hxn : xn X = (rm_X9_putBack.cells, rm_X9_putBack.slots)) {KE : (Unit) → Hp → Prop} (e_ret : ∀ (r : Unit) (σ : Hp), KE (r) σ → xd X = (none, σ)) {v : Nat × Int32 × Int32} {σ : Hp} {e : Unit} {σ1 : Hp} (h : s_X9_putBack_l2 v σ = some (e, σ1)) (hO : KE e σ1) : G E X 0 0 2 [(0, tR (some ((v.1)))), (1, tI ((v.2.1))), (2, tI ((v.2.2)))] [] σ := loopF_ind (P := fun (v : Nat × Int32 × Int32) (σ : Hp) => G E X 0 0 2 [(0, tR (some ((v.1)))), (1, tI ((v.2.1))), (2, tI ((v.2.2)))] [] σ) (KE := KE) (fun v σ x σ1 h hI hO => w_X9_putBack_b2 hE C hxn e_ret (v.1) (v.2.1) (v.2.2) σ x σ1 h hI hO) v σ e σ1 h hO
noncomputable def s_X9_putBack (h0 : Nat) (p1 : Int32) (σ : Hp) : Option (Unit × Hp) :=
  cb (s_X9_putBack_l2 ((h0), (p1), (0)) σ) fun r2 σ3 =>
  some (r2, σ3)
set_option maxRecDepth 100000 in
theorem c_X9_putBack {E : E0} (hE : EOK E) {h0 : Nat} {p1 : Int32} {σ σ1 : Hp} {r : Unit} (h : s_X9_putBack h0 p1 σ = some (r, σ1)) : CT E yX9_putBack (.code yX9_putBack cX9_putBack 3 none) rm_X9_putBack [tR (some (h0)), tI (p1)] σ none σ1 := by
  refine CT.mk hE (by decide +kernel) (Nat.le_of_ble_eq_true rfl) [(0, tR (some (h0))), (1, tI (p1))] rfl (fun X C hin hx hxn => ?_)
  have C : XOK E X cX9_putBack RX9 3 none rm_X9_putBack := C
  unfold s_X9_putBack at h
  refine g_iconst (v := 0) (pc := 0) C dX9_putBack_0 (by decide) ?_
  refine g_istore_n (lm' := [(2, tI (0)), (0, tR (some (h0))), (1, tI (p1))]) (pc := 1) C 2 dX9_putBack_1 rfl (by decide) rfl ?_
  refine g_sub [1, 2, 0] (lm' := [(0, tR (some (h0))), (1, tI (p1)), (2, tI (0))]) rfl ?_
  obtain ⟨KQ, hKQ, r2, σ3, hlr2, h⟩ := zcbK h
  refine w_X9_putBack_l2 (KE := KQ) hE C hxn ?_ hlr2 h
  · intro r2 σ1 h
    have h := (hKQ _ _).mp h
    obtain ⟨rfl, rfl⟩ := zsome h
    exact hx
def rm_X9_remember : Room := { frames := 1, cells := 0, slots := 0, locals := 22 }
noncomputable def s_X9_remember_j77 (h0 : Nat) (l1 : Int32) (σ : Hp) : Option (Unit × Hp) :=
  (rdI 9 σ h0 8).bind fun v1 =>
  (ck 9 σ h0).bind fun u2 =>
  cb (s_X9_keepAll h0 (v1) σ) fun v4 σ3 =>
  (rdR 9 σ3 h0 7).bind fun r5 =>
  (rdI 9 σ3 h0 8).bind fun v6 =>
  (r5).bind fun a7 =>
  (stI σ3 a7 (v6) (l1)).bind fun σ8 =>
  (rdI 9 σ8 h0 8).bind fun v9 =>
  (wrI 9 σ8 h0 8 (v9 + 1)).bind fun σ10 =>
  some ((), σ10)
set_option maxRecDepth 100000 in
theorem w_X9_remember_j77 {E : E0} (hE : EOK E) {X : X0} (C : XOK E X cX9_remember RX9 3 none rm_X9_remember) (hxn : xn X = (rm_X9_remember.cells, rm_X9_remember.slots)) (h0 : Nat) (l1 : Int32) (σ : Hp) (r : Unit) (σ1 : Hp) (h : s_X9_remember_j77 h0 l1 σ = some (r, σ1)) (hx : xd X = (none, σ1)) : G E X 0 0 77 [(0, tR (some (h0))), (1, tI (l1))] [] σ := by
  unfold s_X9_remember_j77 at h
  refine g_aload_n (pc := 77) C 0 0 dX9_remember_77 rfl rfl ?_
  refine g_aload_n (pc := 78) C 0 0 dX9_remember_78 rfl rfl ?_
  obtain ⟨v1, hvv1, h⟩ := zbind h
  refine g_getI (N := 58) (pc := 79) C ck_9 hvv1 rfl rfl fl_X9_167 dX9_remember_79 ?_
  obtain ⟨u2, hvu2, h⟩ := zbind h
  obtain ⟨v4, σ3, hvσ3, h⟩ := zcb h
  refine g_callV (pc := 82) (av := [tI (v1)]) C (c_X9_keepAll hE hvσ3) yv_X9_keepAll ml_X9_174 ck_9 (zopt hvu2).1 rfl (rf_of (by decide)) rfl (Nat.le_of_ble_eq_true rfl) dX9_remember_82 ?_
  refine g_aload_n (pc := 85) C 0 0 dX9_remember_85 rfl rfl ?_
  obtain ⟨r5, hvr5, h⟩ := zbind h
  refine g_getR (N := 58) (pc := 86) C ck_9 hvr5 rfl rfl fl_X9_26 dX9_remember_86 ?_
  refine g_aload_n (pc := 89) C 0 0 dX9_remember_89 rfl rfl ?_
  obtain ⟨v6, hvv6, h⟩ := zbind h
  refine g_getI (N := 58) (pc := 90) C ck_9 hvv6 rfl rfl fl_X9_167 dX9_remember_90 ?_
  refine g_iload_n (pc := 93) C 1 1 dX9_remember_93 rfl rfl ?_
  obtain ⟨a7, hqa7, h9⟩ := zbind h
  clear h
  subst hqa7
  have h := h9
  clear h9
  obtain ⟨σ8, hvσ8, h⟩ := zbind h
  refine g_iast (pc := 94) C hvσ8 dX9_remember_94 ?_
  refine g_aload_n (pc := 95) C 0 0 dX9_remember_95 rfl rfl ?_
  refine g_dup (pc := 96) C dX9_remember_96 rfl ?_
  obtain ⟨v9, hvv9, h⟩ := zbind h
  refine g_getI (N := 58) (pc := 97) C ck_9 hvv9 rfl rfl fl_X9_167 dX9_remember_97 ?_
  refine g_iconst (v := 1) (pc := 100) C dX9_remember_100 (by decide) ?_
  refine g_iadd (pc := 101) C dX9_remember_101 ?_
  obtain ⟨σ10, hvσ10, h⟩ := zbind h
  refine g_putI (N := 58) (pc := 102) C ⟨ck_9, rfl, tyX9_ok⟩ hvσ10 rfl fl_X9_167 rfl rfl dX9_remember_102 ?_
  obtain ⟨rfl, rfl⟩ := zsome h
  exact g_vret (pc := 105) C rfl hx (by rw [hxn]; rfl) (by rw [hxn]; rfl) dX9_remember_105
noncomputable def s_X9_remember_b11 (h0 : Nat) (l1 : Int32) (l2 : Int32) (σ : Hp) : Option (((Nat × Int32 × Int32) ⊕ ((Nat × Int32))) × Hp) :=
  if 345 ≤ l2 then
    some (Sum.inr ((h0), (l1)), σ)
  else
    (rdR 9 σ h0 6).bind fun r1 =>
    (rdR 9 σ h0 6).bind fun r2 =>
    (r2).bind fun a3 =>
    (ldI 11 σ a3 (l2 + 23)).bind fun v4 =>
    (r1).bind fun a5 =>
    (stI σ a5 (l2) (v4)).bind fun σ6 =>
    some (Sum.inl ((h0), (l1), (l2 + 1)), σ6)
noncomputable def s_X9_remember_l11 : (Nat × Int32 × Int32) → Hp → Option (((Nat × Int32)) × Hp) := loopF (fun v => s_X9_remember_b11 (v.1) (v.2.1) (v.2.2))
set_option maxRecDepth 100000 in
theorem w_X9_remember_b11 {E : E0} (hE : EOK E) {X : X0} (C : XOK E X cX9_remember RX9 3 none rm_X9_remember) (hxn : xn X = (rm_X9_remember.cells, rm_X9_remember.slots)) {KE : ((Nat × Int32)) → Hp → Prop} (e_39 : ∀ (h0 : Nat) (l1 : Int32) (σ : Hp), KE ((h0, l1)) σ → G E X 0 0 39 [(0, tR (some (h0))), (1, tI (l1))] [] σ) (h0 : Nat) (l1 : Int32) (l2 : Int32) (σ : Hp) (x : (Nat × Int32 × Int32) ⊕ ((Nat × Int32))) (σ1 : Hp) (h : s_X9_remember_b11 h0 l1 l2 σ = some (x, σ1)) (hI : ∀ v, x = Sum.inl v → (fun (v : Nat × Int32 × Int32) (σ : Hp) => G E X 0 0 11 [(0, tR (some ((v.1)))), (1, tI ((v.2.1))), (2, tI ((v.2.2)))] [] σ) v σ1) (hO : ∀ e, x = Sum.inr e → KE e σ1) : G E X 0 0 11 [(0, tR (some (h0))), (1, tI (l1)), (2, tI (l2))] [] σ := by
  unfold s_X9_remember_b11 at h
  refine g_iload_n (pc := 11) C 2 2 dX9_remember_11 rfl rfl ?_
  refine g_sipush (v := 345) (pc := 12) C dX9_remember_12 (by decide) ?_
  refine g_icmp_ge (pc := 15) C 39 dX9_remember_15 (by decide) (fun c7 => ?_) (fun c7 => ?_)
  · have h := zif_t c7 h
    refine g_sub [0, 1] (lm' := [(0, tR (some (h0))), (1, tI (l1))]) rfl ?_
    obtain ⟨rfl, rfl⟩ := zsome h
    exact e_39 _ _ _ (hO _ rfl)
  · have h := zif_f c7 h
    refine g_aload_n (pc := 18) C 0 0 dX9_remember_18 rfl rfl ?_
    obtain ⟨r1, hvr1, h⟩ := zbind h
    refine g_getR (N := 58) (pc := 19) C ck_9 hvr1 rfl rfl fl_X9_23 dX9_remember_19 ?_
    refine g_iload_n (pc := 22) C 2 2 dX9_remember_22 rfl rfl ?_
    refine g_aload_n (pc := 23) C 0 0 dX9_remember_23 rfl rfl ?_
    obtain ⟨r2, hvr2, h⟩ := zbind h
    refine g_getR (N := 58) (pc := 24) C ck_9 hvr2 rfl rfl fl_X9_23 dX9_remember_24 ?_
    refine g_iload_n (pc := 27) C 2 2 dX9_remember_27 rfl rfl ?_
    refine g_bipush (v := 23) (pc := 28) C dX9_remember_28 (by decide) ?_
    refine g_iadd (pc := 30) C dX9_remember_30 ?_
    obtain ⟨a3, hqa3, h9⟩ := zbind h
    clear h
    subst hqa3
    have h := h9
    clear h9
    obtain ⟨v4, hvv4, h⟩ := zbind h
    refine g_iald (pc := 31) C hvv4 dX9_remember_31 ?_
    obtain ⟨a5, hqa5, h9⟩ := zbind h
    clear h
    subst hqa5
    have h := h9
    clear h9
    obtain ⟨σ6, hvσ6, h⟩ := zbind h
    refine g_iast (pc := 32) C hvσ6 dX9_remember_32 ?_
    refine g_iinc (lm' := [(2, tI (l2 + 1)), (0, tR (some (h0))), (1, tI (l1))]) (v := l2 + 1) (pc := 33) C 2 dX9_remember_33 rfl rfl (by decide) rfl ?_
    refine g_goto (pc := 36) C 11 dX9_remember_36 (by decide) ?_
    refine g_sub [1, 2, 0] (lm' := [(0, tR (some (h0))), (1, tI (l1)), (2, tI (l2 + 1))]) rfl ?_
    obtain ⟨rfl, rfl⟩ := zsome h
    exact hI _ rfl
theorem w_X9_remember_l11 {E : E0} (hE : EOK E) {X : X0} (C : XOK E X cX9_remember RX9 3 none rm_X9_remember) (hxn : xn X = (rm_X9_remember.cells, rm_X9_remember.slots)) {KE : ((Nat × Int32)) → Hp → Prop} (e_39 : ∀ (h0 : Nat) (l1 : Int32) (σ : Hp), KE ((h0, l1)) σ → G E X 0 0 39 [(0, tR (some (h0))), (1, tI (l1))] [] σ) {v : Nat × Int32 × Int32} {σ : Hp} {e : (Nat × Int32)} {σ1 : Hp} (h : s_X9_remember_l11 v σ = some (e, σ1)) (hO : KE e σ1) : G E X 0 0 11 [(0, tR (some ((v.1)))), (1, tI ((v.2.1))), (2, tI ((v.2.2)))] [] σ := loopF_ind (P := fun (v : Nat × Int32 × Int32) (σ : Hp) => G E X 0 0 11 [(0, tR (some ((v.1)))), (1, tI ((v.2.1))), (2, tI ((v.2.2)))] [] σ) (KE := KE) (fun v σ x σ1 h hI hO => w_X9_remember_b11 hE C hxn e_39 (v.1) (v.2.1) (v.2.2) σ x σ1 h hI hO) v σ e σ1 h hO
noncomputable def s_X9_remember_b41 (h0 : Nat) (l1 : Int32) (l2 : Int32) (σ : Hp) : Option (((Nat × Int32 × Int32) ⊕ ((Nat × Int32))) × Hp) :=
  if 15 ≤ l2 then
    some (Sum.inr ((h0), (l1)), σ)
  else
    (rdR 9 σ h0 7).bind fun r1 =>
    (rdR 9 σ h0 7).bind fun r2 =>
    (r2).bind fun a3 =>
    (ldI 11 σ a3 (l2 + 1)).bind fun v4 =>
    (r1).bind fun a5 =>
    (stI σ a5 (l2) (v4)).bind fun σ6 =>
    some (Sum.inl ((h0), (l1), (l2 + 1)), σ6)
noncomputable def s_X9_remember_l41 : (Nat × Int32 × Int32) → Hp → Option (((Nat × Int32)) × Hp) := loopF (fun v => s_X9_remember_b41 (v.1) (v.2.1) (v.2.2))
set_option maxRecDepth 100000 in
theorem w_X9_remember_b41 {E : E0} (hE : EOK E) {X : X0} (C : XOK E X cX9_remember RX9 3 none rm_X9_remember) (hxn : xn X = (rm_X9_remember.cells, rm_X9_remember.slots)) {KE : ((Nat × Int32)) → Hp → Prop} (e_67 : ∀ (h0 : Nat) (l1 : Int32) (σ : Hp), KE ((h0, l1)) σ → G E X 0 0 67 [(0, tR (some (h0))), (1, tI (l1))] [] σ) (h0 : Nat) (l1 : Int32) (l2 : Int32) (σ : Hp) (x : (Nat × Int32 × Int32) ⊕ ((Nat × Int32))) (σ1 : Hp) (h : s_X9_remember_b41 h0 l1 l2 σ = some (x, σ1)) (hI : ∀ v, x = Sum.inl v → (fun (v : Nat × Int32 × Int32) (σ : Hp) => G E X 0 0 41 [(0, tR (some ((v.1)))), (1, tI ((v.2.1))), (2, tI ((v.2.2)))] [] σ) v σ1) (hO : ∀ e, x = Sum.inr e → KE e σ1) : G E X 0 0 41 [(0, tR (some (h0))), (1, tI (l1)), (2, tI (l2))] [] σ := by
  unfold s_X9_remember_b41 at h
  refine g_iload_n (pc := 41) C 2 2 dX9_remember_41 rfl rfl ?_
  refine g_bipush (v := 15) (pc := 42) C dX9_remember_42 (by decide) ?_
  refine g_icmp_ge (pc := 44) C 67 dX9_remember_44 (by decide) (fun c7 => ?_) (fun c7 => ?_)
  · have h := zif_t c7 h
    refine g_sub [0, 1] (lm' := [(0, tR (some (h0))), (1, tI (l1))]) rfl ?_
    obtain ⟨rfl, rfl⟩ := zsome h
    exact e_67 _ _ _ (hO _ rfl)
  · have h := zif_f c7 h
    refine g_aload_n (pc := 47) C 0 0 dX9_remember_47 rfl rfl ?_
    obtain ⟨r1, hvr1, h⟩ := zbind h
    refine g_getR (N := 58) (pc := 48) C ck_9 hvr1 rfl rfl fl_X9_26 dX9_remember_48 ?_
    refine g_iload_n (pc := 51) C 2 2 dX9_remember_51 rfl rfl ?_
    refine g_aload_n (pc := 52) C 0 0 dX9_remember_52 rfl rfl ?_
    obtain ⟨r2, hvr2, h⟩ := zbind h
    refine g_getR (N := 58) (pc := 53) C ck_9 hvr2 rfl rfl fl_X9_26 dX9_remember_53 ?_
    refine g_iload_n (pc := 56) C 2 2 dX9_remember_56 rfl rfl ?_
    refine g_iconst (v := 1) (pc := 57) C dX9_remember_57 (by decide) ?_
    refine g_iadd (pc := 58) C dX9_remember_58 ?_
    obtain ⟨a3, hqa3, h9⟩ := zbind h
    clear h
    subst hqa3
    have h := h9
    clear h9
    obtain ⟨v4, hvv4, h⟩ := zbind h
    refine g_iald (pc := 59) C hvv4 dX9_remember_59 ?_
    obtain ⟨a5, hqa5, h9⟩ := zbind h
    clear h
    subst hqa5
    have h := h9
    clear h9
    obtain ⟨σ6, hvσ6, h⟩ := zbind h
    refine g_iast (pc := 60) C hvσ6 dX9_remember_60 ?_
    refine g_iinc (lm' := [(2, tI (l2 + 1)), (0, tR (some (h0))), (1, tI (l1))]) (v := l2 + 1) (pc := 61) C 2 dX9_remember_61 rfl rfl (by decide) rfl ?_
    refine g_goto (pc := 64) C 41 dX9_remember_64 (by decide) ?_
    refine g_sub [1, 2, 0] (lm' := [(0, tR (some (h0))), (1, tI (l1)), (2, tI (l2 + 1))]) rfl ?_
    obtain ⟨rfl, rfl⟩ := zsome h
    exact hI _ rfl
theorem w_X9_remember_l41 {E : E0} (hE : EOK E) {X : X0} (C : XOK E X cX9_remember RX9 3 none rm_X9_remember) (hxn : xn X = (rm_X9_remember.cells, rm_X9_remember.slots)) {KE : ((Nat × Int32)) → Hp → Prop} (e_67 : ∀ (h0 : Nat) (l1 : Int32) (σ : Hp), KE ((h0, l1)) σ → G E X 0 0 67 [(0, tR (some (h0))), (1, tI (l1))] [] σ) {v : Nat × Int32 × Int32} {σ : Hp} {e : (Nat × Int32)} {σ1 : Hp} (h : s_X9_remember_l41 v σ = some (e, σ1)) (hO : KE e σ1) : G E X 0 0 41 [(0, tR (some ((v.1)))), (1, tI ((v.2.1))), (2, tI ((v.2.2)))] [] σ := loopF_ind (P := fun (v : Nat × Int32 × Int32) (σ : Hp) => G E X 0 0 41 [(0, tR (some ((v.1)))), (1, tI ((v.2.1))), (2, tI ((v.2.2)))] [] σ) (KE := KE) (fun v σ x σ1 h hI hO => w_X9_remember_b41 hE C hxn e_67 (v.1) (v.2.1) (v.2.2) σ x σ1 h hI hO) v σ e σ1 h hO
noncomputable def s_X9_remember (h0 : Nat) (p1 : Int32) (σ : Hp) : Option (Unit × Hp) :=
  (rdI 9 σ h0 8).bind fun v1 =>
  if v1 = 16 then
    cb (s_X9_remember_l11 ((h0), (p1), (0)) σ) fun e15 σ14 =>
    match e15 with
    | (h2, l13) =>
      cb (s_X9_remember_l41 ((h2), (l13), (0)) σ14) fun e12 σ11 =>
      match e12 with
      | (h5, l16) =>
        (rdI 9 σ11 h5 8).bind fun v8 =>
        (wrI 9 σ11 h5 8 (v8 - 1)).bind fun σ9 =>
        s_X9_remember_j77 (h5) (l16) σ9
  else
    s_X9_remember_j77 (h0) (p1) σ
set_option maxRecDepth 100000 in
theorem c_X9_remember {E : E0} (hE : EOK E) {h0 : Nat} {p1 : Int32} {σ σ1 : Hp} {r : Unit} (h : s_X9_remember h0 p1 σ = some (r, σ1)) : CT E yX9_remember (.code yX9_remember cX9_remember 3 none) rm_X9_remember [tR (some (h0)), tI (p1)] σ none σ1 := by
  refine CT.mk hE (by decide +kernel) (Nat.le_of_ble_eq_true rfl) [(0, tR (some (h0))), (1, tI (p1))] rfl (fun X C hin hx hxn => ?_)
  have C : XOK E X cX9_remember RX9 3 none rm_X9_remember := C
  unfold s_X9_remember at h
  refine g_aload_n (pc := 0) C 0 0 dX9_remember_0 rfl rfl ?_
  obtain ⟨v1, hvv1, h⟩ := zbind h
  refine g_getI (N := 58) (pc := 1) C ck_9 hvv1 rfl rfl fl_X9_167 dX9_remember_1 ?_
  refine g_bipush (v := 16) (pc := 4) C dX9_remember_4 (by decide) ?_
  refine g_icmp_ne (pc := 6) C 77 dX9_remember_6 (by decide) (fun c16 => ?_) (fun c16 => ?_)
  · have h := zif_f c16 h
    exact w_X9_remember_j77 hE C hxn _ _ _ _ _ h hx
  · have h := zif_t c16 h
    refine g_iconst (v := 0) (pc := 9) C dX9_remember_9 (by decide) ?_
    refine g_istore_n (lm' := [(2, tI (0)), (0, tR (some (h0))), (1, tI (p1))]) (pc := 10) C 2 dX9_remember_10 rfl (by decide) rfl ?_
    refine g_sub [1, 2, 0] (lm' := [(0, tR (some (h0))), (1, tI (p1)), (2, tI (0))]) rfl ?_
    obtain ⟨KQ, hKQ, e15, σ14, hle15, h⟩ := zcbK h
    refine w_X9_remember_l11 (KE := KQ) hE C hxn ?_ hle15 h
    · intro h2 l13 σ4 h
      have h := (hKQ _ _).mp h
      refine g_iconst (v := 0) (pc := 39) C dX9_remember_39 (by decide) ?_
      refine g_istore_n (lm' := [(2, tI (0)), (0, tR (some (h2))), (1, tI (l13))]) (pc := 40) C 2 dX9_remember_40 rfl (by decide) rfl ?_
      refine g_sub [1, 2, 0] (lm' := [(0, tR (some (h2))), (1, tI (l13)), (2, tI (0))]) rfl ?_
      obtain ⟨KQ, hKQ, e12, σ11, hle12, h⟩ := zcbK h
      refine w_X9_remember_l41 (KE := KQ) hE C hxn ?_ hle12 h
      · intro h5 l16 σ7 h
        have h := (hKQ _ _).mp h
        refine g_aload_n (pc := 67) C 0 0 dX9_remember_67 rfl rfl ?_
        refine g_dup (pc := 68) C dX9_remember_68 rfl ?_
        obtain ⟨v8, hvv8, h⟩ := zbind h
        refine g_getI (N := 58) (pc := 69) C ck_9 hvv8 rfl rfl fl_X9_167 dX9_remember_69 ?_
        refine g_iconst (v := 1) (pc := 72) C dX9_remember_72 (by decide) ?_
        refine g_isub (pc := 73) C dX9_remember_73 ?_
        obtain ⟨σ9, hvσ9, h⟩ := zbind h
        refine g_putI (N := 58) (pc := 74) C ⟨ck_9, rfl, tyX9_ok⟩ hvσ9 rfl fl_X9_167 rfl rfl dX9_remember_74 ?_
        exact w_X9_remember_j77 hE C hxn _ _ _ _ _ h hx
def rm_X9_undo : Room := { frames := 1, cells := 0, slots := 0, locals := 22 }
noncomputable def s_X9_undo (h0 : Nat) (σ : Hp) : Option (Int32 × Hp) :=
  (wrI 9 σ h0 0 (0)).bind fun σ1 =>
  (rdI 9 σ1 h0 8).bind fun v2 =>
  if v2 = 0 then
    (ck 9 σ1 h0).bind fun u16 =>
    cb (s_X9_tell h0 ((-3)) σ1) fun v18 σ17 =>
    some ((v18), σ17)
  else
    (rdI 9 σ1 h0 8).bind fun v3 =>
    (wrI 9 σ1 h0 8 (v3 - 1)).bind fun σ4 =>
    (rdI 9 σ4 h0 8).bind fun v5 =>
    (ck 9 σ4 h0).bind fun u6 =>
    cb (s_X9_putBack h0 (v5) σ4) fun v8 σ7 =>
    (rdR 9 σ7 h0 7).bind fun r9 =>
    (rdI 9 σ7 h0 8).bind fun v10 =>
    (r9).bind fun a11 =>
    (ldI 11 σ7 a11 (v10)).bind fun v12 =>
    (ck 9 σ7 h0).bind fun u13 =>
    cb (s_X9_tell h0 (v12) σ7) fun v15 σ14 =>
    some ((v15), σ14)
set_option maxRecDepth 100000 in
theorem c_X9_undo {E : E0} (hE : EOK E) {h0 : Nat} {σ σ1 : Hp} {r : Int32} (h : s_X9_undo h0 σ = some (r, σ1)) : CT E yX9_undo (.code yX9_undo cX9_undo 1 (some .int)) rm_X9_undo [tR (some (h0))] σ (some (tI r)) σ1 := by
  refine CT.mk hE (by decide +kernel) (Nat.le_of_ble_eq_true rfl) [(0, tR (some (h0)))] rfl (fun X C hin hx hxn => ?_)
  have C : XOK E X cX9_undo RX9 1 (some .int) rm_X9_undo := C
  unfold s_X9_undo at h
  refine g_aload_n (pc := 0) C 0 0 dX9_undo_0 rfl rfl ?_
  refine g_iconst (v := 0) (pc := 1) C dX9_undo_1 (by decide) ?_
  obtain ⟨σ1, hvσ1, h⟩ := zbind h
  refine g_putI (N := 58) (pc := 2) C ⟨ck_9, rfl, tyX9_ok⟩ hvσ1 rfl fl_X9_161 rfl rfl dX9_undo_2 ?_
  refine g_aload_n (pc := 5) C 0 0 dX9_undo_5 rfl rfl ?_
  obtain ⟨v2, hvv2, h⟩ := zbind h
  refine g_getI (N := 58) (pc := 6) C ck_9 hvv2 rfl rfl fl_X9_167 dX9_undo_6 ?_
  refine g_if_ne (pc := 9) C 19 dX9_undo_9 (by decide) (fun c19 => ?_) (fun c19 => ?_)
  · have h := zif_f c19 h
    refine g_aload_n (pc := 19) C 0 0 dX9_undo_19 rfl rfl ?_
    refine g_dup (pc := 20) C dX9_undo_20 rfl ?_
    obtain ⟨v3, hvv3, h⟩ := zbind h
    refine g_getI (N := 58) (pc := 21) C ck_9 hvv3 rfl rfl fl_X9_167 dX9_undo_21 ?_
    refine g_iconst (v := 1) (pc := 24) C dX9_undo_24 (by decide) ?_
    refine g_isub (pc := 25) C dX9_undo_25 ?_
    obtain ⟨σ4, hvσ4, h⟩ := zbind h
    refine g_putI (N := 58) (pc := 26) C ⟨ck_9, rfl, tyX9_ok⟩ hvσ4 rfl fl_X9_167 rfl rfl dX9_undo_26 ?_
    refine g_aload_n (pc := 29) C 0 0 dX9_undo_29 rfl rfl ?_
    refine g_aload_n (pc := 30) C 0 0 dX9_undo_30 rfl rfl ?_
    obtain ⟨v5, hvv5, h⟩ := zbind h
    refine g_getI (N := 58) (pc := 31) C ck_9 hvv5 rfl rfl fl_X9_167 dX9_undo_31 ?_
    obtain ⟨u6, hvu6, h⟩ := zbind h
    obtain ⟨v8, σ7, hvσ7, h⟩ := zcb h
    refine g_callV (pc := 34) (av := [tI (v5)]) C (c_X9_putBack hE hvσ7) yv_X9_putBack ml_X9_178 ck_9 (zopt hvu6).1 rfl (rf_of (by decide)) rfl (Nat.le_of_ble_eq_true rfl) dX9_undo_34 ?_
    refine g_aload_n (pc := 37) C 0 0 dX9_undo_37 rfl rfl ?_
    refine g_aload_n (pc := 38) C 0 0 dX9_undo_38 rfl rfl ?_
    obtain ⟨r9, hvr9, h⟩ := zbind h
    refine g_getR (N := 58) (pc := 39) C ck_9 hvr9 rfl rfl fl_X9_26 dX9_undo_39 ?_
    refine g_aload_n (pc := 42) C 0 0 dX9_undo_42 rfl rfl ?_
    obtain ⟨v10, hvv10, h⟩ := zbind h
    refine g_getI (N := 58) (pc := 43) C ck_9 hvv10 rfl rfl fl_X9_167 dX9_undo_43 ?_
    obtain ⟨a11, hqa11, h9⟩ := zbind h
    clear h
    subst hqa11
    have h := h9
    clear h9
    obtain ⟨v12, hvv12, h⟩ := zbind h
    refine g_iald (pc := 46) C hvv12 dX9_undo_46 ?_
    obtain ⟨u13, hvu13, h⟩ := zbind h
    obtain ⟨v15, σ14, hvσ14, h⟩ := zcb h
    refine g_callV (pc := 47) (av := [tI (v12)]) C (c_X9_tell hE hvσ14) yv_X9_tell ml_X9_170 ck_9 (zopt hvu13).1 rfl (rf_of (by decide)) rfl (Nat.le_of_ble_eq_true rfl) dX9_undo_47 ?_
    obtain ⟨rfl, rfl⟩ := zsome h
    exact g_iret (pc := 50) C rfl hx (by rw [hxn]; rfl) (by rw [hxn]; rfl) dX9_undo_50
  · have h := zif_t c19 h
    refine g_aload_n (pc := 12) C 0 0 dX9_undo_12 rfl rfl ?_
    refine g_bipush (v := (-3)) (pc := 13) C dX9_undo_13 (by decide) ?_
    obtain ⟨u16, hvu16, h⟩ := zbind h
    obtain ⟨v18, σ17, hvσ17, h⟩ := zcb h
    refine g_callV (pc := 15) (av := [tI ((-3))]) C (c_X9_tell hE hvσ17) yv_X9_tell ml_X9_170 ck_9 (zopt hvu16).1 rfl (rf_of (by decide)) rfl (Nat.le_of_ble_eq_true rfl) dX9_undo_15 ?_
    obtain ⟨rfl, rfl⟩ := zsome h
    exact g_iret (pc := 18) C rfl hx (by rw [hxn]; rfl) (by rw [hxn]; rfl) dX9_undo_18
def rm_X9_image : Room := { frames := 1, cells := 0, slots := 0, locals := 25 }
noncomputable def s_X9_image_b23 (h0 : Nat) (l1 : Int32) (l2 : Int32) (σ : Hp) : Option (((Nat × Int32 × Int32) ⊕ ((Nat × Int32))) × Hp) :=
  if 5578 ≤ l2 then
    some (Sum.inr ((h0), (l1)), σ)
  else
    (rdR 9 σ h0 4).bind fun r1 =>
    (rdR 9 σ h0 3).bind fun r2 =>
    (r2).bind fun a3 =>
    (ldI 11 σ a3 (l2)).bind fun v4 =>
    (r1).bind fun a5 =>
    (stI σ a5 ((5578 * l1) + l2) (v4)).bind fun σ6 =>
    some (Sum.inl ((h0), (l1), (l2 + 1)), σ6)
noncomputable def s_X9_image_l23 : (Nat × Int32 × Int32) → Hp → Option (((Nat × Int32)) × Hp) := loopF (fun v => s_X9_image_b23 (v.1) (v.2.1) (v.2.2))
set_option maxRecDepth 100000 in
theorem w_X9_image_b23 {E : E0} (hE : EOK E) {X : X0} (C : XOK E X cX9_image RX9 3 (some .int) rm_X9_image) (hxn : xn X = (rm_X9_image.cells, rm_X9_image.slots)) {KE : ((Nat × Int32)) → Hp → Prop} (e_54 : ∀ (h0 : Nat) (l1 : Int32) (σ : Hp), KE ((h0, l1)) σ → G E X 0 0 54 [(0, tR (some (h0))), (1, tI (l1))] [] σ) (h0 : Nat) (l1 : Int32) (l2 : Int32) (σ : Hp) (x : (Nat × Int32 × Int32) ⊕ ((Nat × Int32))) (σ1 : Hp) (h : s_X9_image_b23 h0 l1 l2 σ = some (x, σ1)) (hI : ∀ v, x = Sum.inl v → (fun (v : Nat × Int32 × Int32) (σ : Hp) => G E X 0 0 23 [(0, tR (some ((v.1)))), (1, tI ((v.2.1))), (2, tI ((v.2.2)))] [] σ) v σ1) (hO : ∀ e, x = Sum.inr e → KE e σ1) : G E X 0 0 23 [(0, tR (some (h0))), (1, tI (l1)), (2, tI (l2))] [] σ := by
  unfold s_X9_image_b23 at h
  refine g_iload_n (pc := 23) C 2 2 dX9_image_23 rfl rfl ?_
  refine g_sipush (v := 5578) (pc := 24) C dX9_image_24 (by decide) ?_
  refine g_icmp_ge (pc := 27) C 54 dX9_image_27 (by decide) (fun c7 => ?_) (fun c7 => ?_)
  · have h := zif_t c7 h
    refine g_sub [0, 1] (lm' := [(0, tR (some (h0))), (1, tI (l1))]) rfl ?_
    obtain ⟨rfl, rfl⟩ := zsome h
    exact e_54 _ _ _ (hO _ rfl)
  · have h := zif_f c7 h
    refine g_aload_n (pc := 30) C 0 0 dX9_image_30 rfl rfl ?_
    obtain ⟨r1, hvr1, h⟩ := zbind h
    refine g_getR (N := 58) (pc := 31) C ck_9 hvr1 rfl rfl fl_X9_16 dX9_image_31 ?_
    refine g_sipush (v := 5578) (pc := 34) C dX9_image_34 (by decide) ?_
    refine g_iload_n (pc := 37) C 1 1 dX9_image_37 rfl rfl ?_
    refine g_imul (pc := 38) C dX9_image_38 ?_
    refine g_iload_n (pc := 39) C 2 2 dX9_image_39 rfl rfl ?_
    refine g_iadd (pc := 40) C dX9_image_40 ?_
    refine g_aload_n (pc := 41) C 0 0 dX9_image_41 rfl rfl ?_
    obtain ⟨r2, hvr2, h⟩ := zbind h
    refine g_getR (N := 58) (pc := 42) C ck_9 hvr2 rfl rfl fl_X9_13 dX9_image_42 ?_
    refine g_iload_n (pc := 45) C 2 2 dX9_image_45 rfl rfl ?_
    obtain ⟨a3, hqa3, h9⟩ := zbind h
    clear h
    subst hqa3
    have h := h9
    clear h9
    obtain ⟨v4, hvv4, h⟩ := zbind h
    refine g_iald (pc := 46) C hvv4 dX9_image_46 ?_
    obtain ⟨a5, hqa5, h9⟩ := zbind h
    clear h
    subst hqa5
    have h := h9
    clear h9
    obtain ⟨σ6, hvσ6, h⟩ := zbind h
    refine g_iast (pc := 47) C hvσ6 dX9_image_47 ?_
    refine g_iinc (lm' := [(2, tI (l2 + 1)), (0, tR (some (h0))), (1, tI (l1))]) (v := l2 + 1) (pc := 48) C 2 dX9_image_48 rfl rfl (by decide) rfl ?_
    refine g_goto (pc := 51) C 23 dX9_image_51 (by decide) ?_
    refine g_sub [1, 2, 0] (lm' := [(0, tR (some (h0))), (1, tI (l1)), (2, tI (l2 + 1))]) rfl ?_
    obtain ⟨rfl, rfl⟩ := zsome h
    exact hI _ rfl
theorem w_X9_image_l23 {E : E0} (hE : EOK E) {X : X0} (C : XOK E X cX9_image RX9 3 (some .int) rm_X9_image) (hxn : xn X = (rm_X9_image.cells, rm_X9_image.slots)) {KE : ((Nat × Int32)) → Hp → Prop} (e_54 : ∀ (h0 : Nat) (l1 : Int32) (σ : Hp), KE ((h0, l1)) σ → G E X 0 0 54 [(0, tR (some (h0))), (1, tI (l1))] [] σ) {v : Nat × Int32 × Int32} {σ : Hp} {e : (Nat × Int32)} {σ1 : Hp} (h : s_X9_image_l23 v σ = some (e, σ1)) (hO : KE e σ1) : G E X 0 0 23 [(0, tR (some ((v.1)))), (1, tI ((v.2.1))), (2, tI ((v.2.2)))] [] σ := loopF_ind (P := fun (v : Nat × Int32 × Int32) (σ : Hp) => G E X 0 0 23 [(0, tR (some ((v.1)))), (1, tI ((v.2.1))), (2, tI ((v.2.2)))] [] σ) (KE := KE) (fun v σ x σ1 h hI hO => w_X9_image_b23 hE C hxn e_54 (v.1) (v.2.1) (v.2.2) σ x σ1 h hI hO) v σ e σ1 h hO
noncomputable def s_X9_image (h0 : Nat) (p1 : Int32) (σ : Hp) : Option (Int32 × Hp) :=
  (wrI 9 σ h0 0 (0)).bind fun σ1 =>
  cb (s_X9_in (Int32.toInt64 (p1 : Int32)) (0) (1) σ1) fun v3 σ2 =>
  if v3 = 0 then
    (ck 9 σ2 h0).bind fun u16 =>
    cb (s_X9_tell h0 ((-1)) σ2) fun v18 σ17 =>
    some ((v18), σ17)
  else
    cb (s_X9_image_l23 ((h0), (p1), (0)) σ2) fun e15 σ14 =>
    match e15 with
    | (h4, l15) =>
      (rdR 9 σ14 h4 5).bind fun r7 =>
      (r7).bind fun a8 =>
      (stZ σ14 a8 (l15) (1)).bind fun σ9 =>
      (ck 9 σ9 h4).bind fun u10 =>
      cb (s_X9_tell h4 (0) σ9) fun v12 σ11 =>
      some ((v12), σ11)
set_option maxRecDepth 100000 in
theorem c_X9_image {E : E0} (hE : EOK E) {h0 : Nat} {p1 : Int32} {σ σ1 : Hp} {r : Int32} (h : s_X9_image h0 p1 σ = some (r, σ1)) : CT E yX9_image (.code yX9_image cX9_image 3 (some .int)) rm_X9_image [tR (some (h0)), tI (p1)] σ (some (tI r)) σ1 := by
  refine CT.mk hE (by decide +kernel) (Nat.le_of_ble_eq_true rfl) [(0, tR (some (h0))), (1, tI (p1))] rfl (fun X C hin hx hxn => ?_)
  have C : XOK E X cX9_image RX9 3 (some .int) rm_X9_image := C
  unfold s_X9_image at h
  refine g_aload_n (pc := 0) C 0 0 dX9_image_0 rfl rfl ?_
  refine g_iconst (v := 0) (pc := 1) C dX9_image_1 (by decide) ?_
  obtain ⟨σ1, hvσ1, h⟩ := zbind h
  refine g_putI (N := 58) (pc := 2) C ⟨ck_9, rfl, tyX9_ok⟩ hvσ1 rfl fl_X9_161 rfl rfl dX9_image_2 ?_
  refine g_iload_n (pc := 5) C 1 1 dX9_image_5 rfl rfl ?_
  refine g_i2l (pc := 6) C dX9_image_6 ?_
  refine g_lconst (v := 0) (pc := 7) C dX9_image_7 (by decide) ?_
  refine g_lconst (v := 1) (pc := 8) C dX9_image_8 (by decide) ?_
  obtain ⟨v3, σ2, hvσ2, h⟩ := zcb h
  refine g_callS (pc := 9) (av := [tJ (Int32.toInt64 (p1 : Int32)), tJ (0), tJ (1)]) C (c_X9_in hE hvσ2) ys_X9_in ml_X9_181 rfl (rf_of (by decide)) rfl (Nat.le_of_ble_eq_true rfl) dX9_image_9 ?_
  refine g_if_ne (pc := 12) C 21 dX9_image_12 (by decide) (fun c19 => ?_) (fun c19 => ?_)
  · have h := zif_f c19 h
    refine g_iconst (v := 0) (pc := 21) C dX9_image_21 (by decide) ?_
    refine g_istore_n (lm' := [(2, tI (0)), (0, tR (some (h0))), (1, tI (p1))]) (pc := 22) C 2 dX9_image_22 rfl (by decide) rfl ?_
    refine g_sub [1, 2, 0] (lm' := [(0, tR (some (h0))), (1, tI (p1)), (2, tI (0))]) rfl ?_
    obtain ⟨KQ, hKQ, e15, σ14, hle15, h⟩ := zcbK h
    refine w_X9_image_l23 (KE := KQ) hE C hxn ?_ hle15 h
    · intro h4 l15 σ6 h
      have h := (hKQ _ _).mp h
      refine g_aload_n (pc := 54) C 0 0 dX9_image_54 rfl rfl ?_
      obtain ⟨r7, hvr7, h⟩ := zbind h
      refine g_getR (N := 58) (pc := 55) C ck_9 hvr7 rfl rfl fl_X9_19 dX9_image_55 ?_
      refine g_iload_n (pc := 58) C 1 1 dX9_image_58 rfl rfl ?_
      refine g_iconst (v := 1) (pc := 59) C dX9_image_59 (by decide) ?_
      obtain ⟨a8, hqa8, h9⟩ := zbind h
      clear h
      subst hqa8
      have h := h9
      clear h9
      obtain ⟨σ9, hvσ9, h⟩ := zbind h
      refine g_zast (pc := 60) C hvσ9 dX9_image_60 ?_
      refine g_aload_n (pc := 61) C 0 0 dX9_image_61 rfl rfl ?_
      refine g_iconst (v := 0) (pc := 62) C dX9_image_62 (by decide) ?_
      obtain ⟨u10, hvu10, h⟩ := zbind h
      obtain ⟨v12, σ11, hvσ11, h⟩ := zcb h
      refine g_callV (pc := 63) (av := [tI (0)]) C (c_X9_tell hE hvσ11) yv_X9_tell ml_X9_170 ck_9 (zopt hvu10).1 rfl (rf_of (by decide)) rfl (Nat.le_of_ble_eq_true rfl) dX9_image_63 ?_
      obtain ⟨rfl, rfl⟩ := zsome h
      exact g_iret (pc := 66) C rfl hx (by rw [hxn]; rfl) (by rw [hxn]; rfl) dX9_image_66
  · have h := zif_t c19 h
    refine g_aload_n (pc := 15) C 0 0 dX9_image_15 rfl rfl ?_
    refine g_iconst (v := (-1)) (pc := 16) C dX9_image_16 (by decide) ?_
    obtain ⟨u16, hvu16, h⟩ := zbind h
    obtain ⟨v18, σ17, hvσ17, h⟩ := zcb h
    refine g_callV (pc := 17) (av := [tI ((-1))]) C (c_X9_tell hE hvσ17) yv_X9_tell ml_X9_170 ck_9 (zopt hvu16).1 rfl (rf_of (by decide)) rfl (Nat.le_of_ble_eq_true rfl) dX9_image_17 ?_
    obtain ⟨rfl, rfl⟩ := zsome h
    exact g_iret (pc := 20) C rfl hx (by rw [hxn]; rfl) (by rw [hxn]; rfl) dX9_image_20
def rm_X9_back : Room := { frames := 2, cells := 0, slots := 0, locals := 42 }
noncomputable def s_X9_back_b39 (h0 : Nat) (l1 : Int32) (l2 : Int32) (σ : Hp) : Option (((Nat × Int32 × Int32) ⊕ (Nat)) × Hp) :=
  if 5578 ≤ l2 then
    some (Sum.inr (h0), σ)
  else
    (rdR 9 σ h0 3).bind fun r1 =>
    (rdR 9 σ h0 4).bind fun r2 =>
    (r2).bind fun a3 =>
    (ldI 11 σ a3 ((5578 * l1) + l2)).bind fun v4 =>
    (r1).bind fun a5 =>
    (stI σ a5 (l2) (v4)).bind fun σ6 =>
    some (Sum.inl ((h0), (l1), (l2 + 1)), σ6)
noncomputable def s_X9_back_l39 : (Nat × Int32 × Int32) → Hp → Option ((Nat) × Hp) := loopF (fun v => s_X9_back_b39 (v.1) (v.2.1) (v.2.2))
set_option maxRecDepth 100000 in
theorem w_X9_back_b39 {E : E0} (hE : EOK E) {X : X0} (C : XOK E X cX9_back RX9 3 (some .int) rm_X9_back) (hxn : xn X = (rm_X9_back.cells, rm_X9_back.slots)) {KE : (Nat) → Hp → Prop} (e_70 : ∀ (h0 : Nat) (σ : Hp), KE (h0) σ → G E X 0 0 70 [(0, tR (some (h0)))] [] σ) (h0 : Nat) (l1 : Int32) (l2 : Int32) (σ : Hp) (x : (Nat × Int32 × Int32) ⊕ (Nat)) (σ1 : Hp) (h : s_X9_back_b39 h0 l1 l2 σ = some (x, σ1)) (hI : ∀ v, x = Sum.inl v → (fun (v : Nat × Int32 × Int32) (σ : Hp) => G E X 0 0 39 [(0, tR (some ((v.1)))), (1, tI ((v.2.1))), (2, tI ((v.2.2)))] [] σ) v σ1) (hO : ∀ e, x = Sum.inr e → KE e σ1) : G E X 0 0 39 [(0, tR (some (h0))), (1, tI (l1)), (2, tI (l2))] [] σ := by
  unfold s_X9_back_b39 at h
  refine g_iload_n (pc := 39) C 2 2 dX9_back_39 rfl rfl ?_
  refine g_sipush (v := 5578) (pc := 40) C dX9_back_40 (by decide) ?_
  refine g_icmp_ge (pc := 43) C 70 dX9_back_43 (by decide) (fun c7 => ?_) (fun c7 => ?_)
  · have h := zif_t c7 h
    refine g_sub [0] (lm' := [(0, tR (some (h0)))]) rfl ?_
    obtain ⟨rfl, rfl⟩ := zsome h
    exact e_70 _ _ (hO _ rfl)
  · have h := zif_f c7 h
    refine g_aload_n (pc := 46) C 0 0 dX9_back_46 rfl rfl ?_
    obtain ⟨r1, hvr1, h⟩ := zbind h
    refine g_getR (N := 58) (pc := 47) C ck_9 hvr1 rfl rfl fl_X9_13 dX9_back_47 ?_
    refine g_iload_n (pc := 50) C 2 2 dX9_back_50 rfl rfl ?_
    refine g_aload_n (pc := 51) C 0 0 dX9_back_51 rfl rfl ?_
    obtain ⟨r2, hvr2, h⟩ := zbind h
    refine g_getR (N := 58) (pc := 52) C ck_9 hvr2 rfl rfl fl_X9_16 dX9_back_52 ?_
    refine g_sipush (v := 5578) (pc := 55) C dX9_back_55 (by decide) ?_
    refine g_iload_n (pc := 58) C 1 1 dX9_back_58 rfl rfl ?_
    refine g_imul (pc := 59) C dX9_back_59 ?_
    refine g_iload_n (pc := 60) C 2 2 dX9_back_60 rfl rfl ?_
    refine g_iadd (pc := 61) C dX9_back_61 ?_
    obtain ⟨a3, hqa3, h9⟩ := zbind h
    clear h
    subst hqa3
    have h := h9
    clear h9
    obtain ⟨v4, hvv4, h⟩ := zbind h
    refine g_iald (pc := 62) C hvv4 dX9_back_62 ?_
    obtain ⟨a5, hqa5, h9⟩ := zbind h
    clear h
    subst hqa5
    have h := h9
    clear h9
    obtain ⟨σ6, hvσ6, h⟩ := zbind h
    refine g_iast (pc := 63) C hvσ6 dX9_back_63 ?_
    refine g_iinc (lm' := [(2, tI (l2 + 1)), (0, tR (some (h0))), (1, tI (l1))]) (v := l2 + 1) (pc := 64) C 2 dX9_back_64 rfl rfl (by decide) rfl ?_
    refine g_goto (pc := 67) C 39 dX9_back_67 (by decide) ?_
    refine g_sub [1, 2, 0] (lm' := [(0, tR (some (h0))), (1, tI (l1)), (2, tI (l2 + 1))]) rfl ?_
    obtain ⟨rfl, rfl⟩ := zsome h
    exact hI _ rfl
theorem w_X9_back_l39 {E : E0} (hE : EOK E) {X : X0} (C : XOK E X cX9_back RX9 3 (some .int) rm_X9_back) (hxn : xn X = (rm_X9_back.cells, rm_X9_back.slots)) {KE : (Nat) → Hp → Prop} (e_70 : ∀ (h0 : Nat) (σ : Hp), KE (h0) σ → G E X 0 0 70 [(0, tR (some (h0)))] [] σ) {v : Nat × Int32 × Int32} {σ : Hp} {e : Nat} {σ1 : Hp} (h : s_X9_back_l39 v σ = some (e, σ1)) (hO : KE e σ1) : G E X 0 0 39 [(0, tR (some ((v.1)))), (1, tI ((v.2.1))), (2, tI ((v.2.2)))] [] σ := loopF_ind (P := fun (v : Nat × Int32 × Int32) (σ : Hp) => G E X 0 0 39 [(0, tR (some ((v.1)))), (1, tI ((v.2.1))), (2, tI ((v.2.2)))] [] σ) (KE := KE) (fun v σ x σ1 h hI hO => w_X9_back_b39 hE C hxn e_70 (v.1) (v.2.1) (v.2.2) σ x σ1 h hI hO) v σ e σ1 h hO
noncomputable def s_X9_back (h0 : Nat) (p1 : Int32) (σ : Hp) : Option (Int32 × Hp) :=
  (wrI 9 σ h0 0 (0)).bind fun σ1 =>
  cb (s_X9_in (Int32.toInt64 (p1 : Int32)) (0) (1) σ1) fun v3 σ2 =>
  if v3 = 0 then
    (ck 9 σ2 h0).bind fun u19 =>
    cb (s_X9_tell h0 ((-1)) σ2) fun v21 σ20 =>
    some ((v21), σ20)
  else
    (rdR 9 σ2 h0 5).bind fun r4 =>
    (r4).bind fun a5 =>
    (ldI 13 σ2 a5 (p1)).bind fun v6 =>
    if v6 = 0 then
      (ck 9 σ2 h0).bind fun u15 =>
      cb (s_X9_tell h0 ((-2)) σ2) fun v17 σ16 =>
      some ((v17), σ16)
    else
      cb (s_X9_back_l39 ((h0), (p1), (0)) σ2) fun h7 σ13 =>
      (ck 9 σ13 h7).bind fun u9 =>
      cb (s_X9_lasting h7 (0) σ13) fun v11 σ10 =>
      some ((v11), σ10)
set_option maxRecDepth 100000 in
theorem c_X9_back {E : E0} (hE : EOK E) {h0 : Nat} {p1 : Int32} {σ σ1 : Hp} {r : Int32} (h : s_X9_back h0 p1 σ = some (r, σ1)) : CT E yX9_back (.code yX9_back cX9_back 3 (some .int)) rm_X9_back [tR (some (h0)), tI (p1)] σ (some (tI r)) σ1 := by
  refine CT.mk hE (by decide +kernel) (Nat.le_of_ble_eq_true rfl) [(0, tR (some (h0))), (1, tI (p1))] rfl (fun X C hin hx hxn => ?_)
  have C : XOK E X cX9_back RX9 3 (some .int) rm_X9_back := C
  unfold s_X9_back at h
  refine g_aload_n (pc := 0) C 0 0 dX9_back_0 rfl rfl ?_
  refine g_iconst (v := 0) (pc := 1) C dX9_back_1 (by decide) ?_
  obtain ⟨σ1, hvσ1, h⟩ := zbind h
  refine g_putI (N := 58) (pc := 2) C ⟨ck_9, rfl, tyX9_ok⟩ hvσ1 rfl fl_X9_161 rfl rfl dX9_back_2 ?_
  refine g_iload_n (pc := 5) C 1 1 dX9_back_5 rfl rfl ?_
  refine g_i2l (pc := 6) C dX9_back_6 ?_
  refine g_lconst (v := 0) (pc := 7) C dX9_back_7 (by decide) ?_
  refine g_lconst (v := 1) (pc := 8) C dX9_back_8 (by decide) ?_
  obtain ⟨v3, σ2, hvσ2, h⟩ := zcb h
  refine g_callS (pc := 9) (av := [tJ (Int32.toInt64 (p1 : Int32)), tJ (0), tJ (1)]) C (c_X9_in hE hvσ2) ys_X9_in ml_X9_181 rfl (rf_of (by decide)) rfl (Nat.le_of_ble_eq_true rfl) dX9_back_9 ?_
  refine g_if_ne (pc := 12) C 21 dX9_back_12 (by decide) (fun c22 => ?_) (fun c22 => ?_)
  · have h := zif_f c22 h
    refine g_aload_n (pc := 21) C 0 0 dX9_back_21 rfl rfl ?_
    obtain ⟨r4, hvr4, h⟩ := zbind h
    refine g_getR (N := 58) (pc := 22) C ck_9 hvr4 rfl rfl fl_X9_19 dX9_back_22 ?_
    refine g_iload_n (pc := 25) C 1 1 dX9_back_25 rfl rfl ?_
    obtain ⟨a5, hqa5, h9⟩ := zbind h
    clear h
    subst hqa5
    have h := h9
    clear h9
    obtain ⟨v6, hvv6, h⟩ := zbind h
    refine g_zald (pc := 26) C hvv6 dX9_back_26 ?_
    refine g_if_ne (pc := 27) C 37 dX9_back_27 (by decide) (fun c18 => ?_) (fun c18 => ?_)
    · have h := zif_f c18 h
      refine g_iconst (v := 0) (pc := 37) C dX9_back_37 (by decide) ?_
      refine g_istore_n (lm' := [(2, tI (0)), (0, tR (some (h0))), (1, tI (p1))]) (pc := 38) C 2 dX9_back_38 rfl (by decide) rfl ?_
      refine g_sub [1, 2, 0] (lm' := [(0, tR (some (h0))), (1, tI (p1)), (2, tI (0))]) rfl ?_
      obtain ⟨KQ, hKQ, h7, σ13, hlh7, h⟩ := zcbK h
      refine w_X9_back_l39 (KE := KQ) hE C hxn ?_ hlh7 h
      · intro h7 σ8 h
        have h := (hKQ _ _).mp h
        refine g_aload_n (pc := 70) C 0 0 dX9_back_70 rfl rfl ?_
        refine g_iconst (v := 0) (pc := 71) C dX9_back_71 (by decide) ?_
        obtain ⟨u9, hvu9, h⟩ := zbind h
        obtain ⟨v11, σ10, hvσ10, h⟩ := zcb h
        refine g_callV (pc := 72) (av := [tI (0)]) C (c_X9_lasting hE hvσ10) yv_X9_lasting ml_X9_185 ck_9 (zopt hvu9).1 rfl (rf_of (by decide)) rfl (Nat.le_of_ble_eq_true rfl) dX9_back_72 ?_
        obtain ⟨rfl, rfl⟩ := zsome h
        exact g_iret (pc := 75) C rfl hx (by rw [hxn]; rfl) (by rw [hxn]; rfl) dX9_back_75
    · have h := zif_t c18 h
      refine g_aload_n (pc := 30) C 0 0 dX9_back_30 rfl rfl ?_
      refine g_bipush (v := (-2)) (pc := 31) C dX9_back_31 (by decide) ?_
      obtain ⟨u15, hvu15, h⟩ := zbind h
      obtain ⟨v17, σ16, hvσ16, h⟩ := zcb h
      refine g_callV (pc := 33) (av := [tI ((-2))]) C (c_X9_tell hE hvσ16) yv_X9_tell ml_X9_170 ck_9 (zopt hvu15).1 rfl (rf_of (by decide)) rfl (Nat.le_of_ble_eq_true rfl) dX9_back_33 ?_
      obtain ⟨rfl, rfl⟩ := zsome h
      exact g_iret (pc := 36) C rfl hx (by rw [hxn]; rfl) (by rw [hxn]; rfl) dX9_back_36
  · have h := zif_t c22 h
    refine g_aload_n (pc := 15) C 0 0 dX9_back_15 rfl rfl ?_
    refine g_iconst (v := (-1)) (pc := 16) C dX9_back_16 (by decide) ?_
    obtain ⟨u19, hvu19, h⟩ := zbind h
    obtain ⟨v21, σ20, hvσ20, h⟩ := zcb h
    refine g_callV (pc := 17) (av := [tI ((-1))]) C (c_X9_tell hE hvσ20) yv_X9_tell ml_X9_170 ck_9 (zopt hvu19).1 rfl (rf_of (by decide)) rfl (Nat.le_of_ble_eq_true rfl) dX9_back_17 ?_
    obtain ⟨rfl, rfl⟩ := zsome h
    exact g_iret (pc := 20) C rfl hx (by rw [hxn]; rfl) (by rw [hxn]; rfl) dX9_back_20
def rm_X9_isPerch : Room := { frames := 1, cells := 0, slots := 0, locals := 25 }
noncomputable def s_X9_isPerch (h0 : Nat) (p1 : Int32) (σ : Hp) : Option (Int32 × Hp) :=
  (rdR 9 σ h0 3).bind fun r1 =>
  (r1).bind fun a2 =>
  (ldI 11 σ a2 (0)).bind fun v3 =>
  cb (s_X9_in (Int32.toInt64 (p1 : Int32)) (0) ((Int32.toInt64 (v3 : Int32)) - 1) σ) fun v5 σ4 =>
  (zbo (v5)).bind fun u6 =>
  some ((v5), σ4)
set_option maxRecDepth 100000 in
theorem c_X9_isPerch {E : E0} (hE : EOK E) {h0 : Nat} {p1 : Int32} {σ σ1 : Hp} {r : Int32} (h : s_X9_isPerch h0 p1 σ = some (r, σ1)) : CT E yX9_isPerch (.code yX9_isPerch cX9_isPerch 2 (some .boolean)) rm_X9_isPerch [tR (some (h0)), tI (p1)] σ (some (tI r)) σ1 := by
  refine CT.mk hE (by decide +kernel) (Nat.le_of_ble_eq_true rfl) [(0, tR (some (h0))), (1, tI (p1))] rfl (fun X C hin hx hxn => ?_)
  have C : XOK E X cX9_isPerch RX9 2 (some .boolean) rm_X9_isPerch := C
  unfold s_X9_isPerch at h
  refine g_iload_n (pc := 0) C 1 1 dX9_isPerch_0 rfl rfl ?_
  refine g_i2l (pc := 1) C dX9_isPerch_1 ?_
  refine g_lconst (v := 0) (pc := 2) C dX9_isPerch_2 (by decide) ?_
  refine g_aload_n (pc := 3) C 0 0 dX9_isPerch_3 rfl rfl ?_
  obtain ⟨r1, hvr1, h⟩ := zbind h
  refine g_getR (N := 58) (pc := 4) C ck_9 hvr1 rfl rfl fl_X9_13 dX9_isPerch_4 ?_
  refine g_iconst (v := 0) (pc := 7) C dX9_isPerch_7 (by decide) ?_
  obtain ⟨a2, hqa2, h9⟩ := zbind h
  clear h
  subst hqa2
  have h := h9
  clear h9
  obtain ⟨v3, hvv3, h⟩ := zbind h
  refine g_iald (pc := 8) C hvv3 dX9_isPerch_8 ?_
  refine g_i2l (pc := 9) C dX9_isPerch_9 ?_
  refine g_lconst (v := 1) (pc := 10) C dX9_isPerch_10 (by decide) ?_
  refine g_lsub (pc := 11) C dX9_isPerch_11 ?_
  obtain ⟨v5, σ4, hvσ4, h⟩ := zcb h
  refine g_callS (pc := 12) (av := [tJ (Int32.toInt64 (p1 : Int32)), tJ (0), tJ ((Int32.toInt64 (v3 : Int32)) - 1)]) C (c_X9_in hE hvσ4) ys_X9_in ml_X9_181 rfl (rf_of (by decide)) rfl (Nat.le_of_ble_eq_true rfl) dX9_isPerch_12 ?_
  obtain ⟨u6, hvu6, h⟩ := zbind h
  obtain ⟨rfl, rfl⟩ := zsome h
  exact g_zret (pc := 15) C rfl hx (zbo_h hvu6) (by rw [hxn]; rfl) (by rw [hxn]; rfl) dX9_isPerch_15
def rm_X9_isFolk : Room := { frames := 1, cells := 0, slots := 0, locals := 25 }
noncomputable def s_X9_isFolk (h0 : Nat) (p1 : Int32) (σ : Hp) : Option (Int32 × Hp) :=
  (rdR 9 σ h0 3).bind fun r1 =>
  (r1).bind fun a2 =>
  (ldI 11 σ a2 (1)).bind fun v3 =>
  cb (s_X9_in (Int32.toInt64 (p1 : Int32)) (0) ((Int32.toInt64 (v3 : Int32)) - 1) σ) fun v5 σ4 =>
  (zbo (v5)).bind fun u6 =>
  some ((v5), σ4)
set_option maxRecDepth 100000 in
theorem c_X9_isFolk {E : E0} (hE : EOK E) {h0 : Nat} {p1 : Int32} {σ σ1 : Hp} {r : Int32} (h : s_X9_isFolk h0 p1 σ = some (r, σ1)) : CT E yX9_isFolk (.code yX9_isFolk cX9_isFolk 2 (some .boolean)) rm_X9_isFolk [tR (some (h0)), tI (p1)] σ (some (tI r)) σ1 := by
  refine CT.mk hE (by decide +kernel) (Nat.le_of_ble_eq_true rfl) [(0, tR (some (h0))), (1, tI (p1))] rfl (fun X C hin hx hxn => ?_)
  have C : XOK E X cX9_isFolk RX9 2 (some .boolean) rm_X9_isFolk := C
  unfold s_X9_isFolk at h
  refine g_iload_n (pc := 0) C 1 1 dX9_isFolk_0 rfl rfl ?_
  refine g_i2l (pc := 1) C dX9_isFolk_1 ?_
  refine g_lconst (v := 0) (pc := 2) C dX9_isFolk_2 (by decide) ?_
  refine g_aload_n (pc := 3) C 0 0 dX9_isFolk_3 rfl rfl ?_
  obtain ⟨r1, hvr1, h⟩ := zbind h
  refine g_getR (N := 58) (pc := 4) C ck_9 hvr1 rfl rfl fl_X9_13 dX9_isFolk_4 ?_
  refine g_iconst (v := 1) (pc := 7) C dX9_isFolk_7 (by decide) ?_
  obtain ⟨a2, hqa2, h9⟩ := zbind h
  clear h
  subst hqa2
  have h := h9
  clear h9
  obtain ⟨v3, hvv3, h⟩ := zbind h
  refine g_iald (pc := 8) C hvv3 dX9_isFolk_8 ?_
  refine g_i2l (pc := 9) C dX9_isFolk_9 ?_
  refine g_lconst (v := 1) (pc := 10) C dX9_isFolk_10 (by decide) ?_
  refine g_lsub (pc := 11) C dX9_isFolk_11 ?_
  obtain ⟨v5, σ4, hvσ4, h⟩ := zcb h
  refine g_callS (pc := 12) (av := [tJ (Int32.toInt64 (p1 : Int32)), tJ (0), tJ ((Int32.toInt64 (v3 : Int32)) - 1)]) C (c_X9_in hE hvσ4) ys_X9_in ml_X9_181 rfl (rf_of (by decide)) rfl (Nat.le_of_ble_eq_true rfl) dX9_isFolk_12 ?_
  obtain ⟨u6, hvu6, h⟩ := zbind h
  obtain ⟨rfl, rfl⟩ := zsome h
  exact g_zret (pc := 15) C rfl hx (zbo_h hvu6) (by rw [hxn]; rfl) (by rw [hxn]; rfl) dX9_isFolk_15
def rm_X9_isBadger : Room := { frames := 1, cells := 0, slots := 0, locals := 25 }
noncomputable def s_X9_isBadger (h0 : Nat) (p1 : Int32) (σ : Hp) : Option (Int32 × Hp) :=
  (rdR 9 σ h0 3).bind fun r1 =>
  (r1).bind fun a2 =>
  (ldI 11 σ a2 (2)).bind fun v3 =>
  cb (s_X9_in (Int32.toInt64 (p1 : Int32)) (0) ((Int32.toInt64 (v3 : Int32)) - 1) σ) fun v5 σ4 =>
  (zbo (v5)).bind fun u6 =>
  some ((v5), σ4)
set_option maxRecDepth 100000 in
theorem c_X9_isBadger {E : E0} (hE : EOK E) {h0 : Nat} {p1 : Int32} {σ σ1 : Hp} {r : Int32} (h : s_X9_isBadger h0 p1 σ = some (r, σ1)) : CT E yX9_isBadger (.code yX9_isBadger cX9_isBadger 2 (some .boolean)) rm_X9_isBadger [tR (some (h0)), tI (p1)] σ (some (tI r)) σ1 := by
  refine CT.mk hE (by decide +kernel) (Nat.le_of_ble_eq_true rfl) [(0, tR (some (h0))), (1, tI (p1))] rfl (fun X C hin hx hxn => ?_)
  have C : XOK E X cX9_isBadger RX9 2 (some .boolean) rm_X9_isBadger := C
  unfold s_X9_isBadger at h
  refine g_iload_n (pc := 0) C 1 1 dX9_isBadger_0 rfl rfl ?_
  refine g_i2l (pc := 1) C dX9_isBadger_1 ?_
  refine g_lconst (v := 0) (pc := 2) C dX9_isBadger_2 (by decide) ?_
  refine g_aload_n (pc := 3) C 0 0 dX9_isBadger_3 rfl rfl ?_
  obtain ⟨r1, hvr1, h⟩ := zbind h
  refine g_getR (N := 58) (pc := 4) C ck_9 hvr1 rfl rfl fl_X9_13 dX9_isBadger_4 ?_
  refine g_iconst (v := 2) (pc := 7) C dX9_isBadger_7 (by decide) ?_
  obtain ⟨a2, hqa2, h9⟩ := zbind h
  clear h
  subst hqa2
  have h := h9
  clear h9
  obtain ⟨v3, hvv3, h⟩ := zbind h
  refine g_iald (pc := 8) C hvv3 dX9_isBadger_8 ?_
  refine g_i2l (pc := 9) C dX9_isBadger_9 ?_
  refine g_lconst (v := 1) (pc := 10) C dX9_isBadger_10 (by decide) ?_
  refine g_lsub (pc := 11) C dX9_isBadger_11 ?_
  obtain ⟨v5, σ4, hvσ4, h⟩ := zcb h
  refine g_callS (pc := 12) (av := [tJ (Int32.toInt64 (p1 : Int32)), tJ (0), tJ ((Int32.toInt64 (v3 : Int32)) - 1)]) C (c_X9_in hE hvσ4) ys_X9_in ml_X9_181 rfl (rf_of (by decide)) rfl (Nat.le_of_ble_eq_true rfl) dX9_isBadger_12 ?_
  obtain ⟨u6, hvu6, h⟩ := zbind h
  obtain ⟨rfl, rfl⟩ := zsome h
  exact g_zret (pc := 15) C rfl hx (zbo_h hvu6) (by rw [hxn]; rfl) (by rw [hxn]; rfl) dX9_isBadger_15
def rm_X9_isThing : Room := { frames := 1, cells := 0, slots := 0, locals := 25 }
noncomputable def s_X9_isThing (h0 : Nat) (p1 : Int32) (σ : Hp) : Option (Int32 × Hp) :=
  (rdR 9 σ h0 3).bind fun r1 =>
  (r1).bind fun a2 =>
  (ldI 11 σ a2 (3)).bind fun v3 =>
  cb (s_X9_in (Int32.toInt64 (p1 : Int32)) (0) ((Int32.toInt64 (v3 : Int32)) - 1) σ) fun v5 σ4 =>
  (zbo (v5)).bind fun u6 =>
  some ((v5), σ4)
set_option maxRecDepth 100000 in
theorem c_X9_isThing {E : E0} (hE : EOK E) {h0 : Nat} {p1 : Int32} {σ σ1 : Hp} {r : Int32} (h : s_X9_isThing h0 p1 σ = some (r, σ1)) : CT E yX9_isThing (.code yX9_isThing cX9_isThing 2 (some .boolean)) rm_X9_isThing [tR (some (h0)), tI (p1)] σ (some (tI r)) σ1 := by
  refine CT.mk hE (by decide +kernel) (Nat.le_of_ble_eq_true rfl) [(0, tR (some (h0))), (1, tI (p1))] rfl (fun X C hin hx hxn => ?_)
  have C : XOK E X cX9_isThing RX9 2 (some .boolean) rm_X9_isThing := C
  unfold s_X9_isThing at h
  refine g_iload_n (pc := 0) C 1 1 dX9_isThing_0 rfl rfl ?_
  refine g_i2l (pc := 1) C dX9_isThing_1 ?_
  refine g_lconst (v := 0) (pc := 2) C dX9_isThing_2 (by decide) ?_
  refine g_aload_n (pc := 3) C 0 0 dX9_isThing_3 rfl rfl ?_
  obtain ⟨r1, hvr1, h⟩ := zbind h
  refine g_getR (N := 58) (pc := 4) C ck_9 hvr1 rfl rfl fl_X9_13 dX9_isThing_4 ?_
  refine g_iconst (v := 3) (pc := 7) C dX9_isThing_7 (by decide) ?_
  obtain ⟨a2, hqa2, h9⟩ := zbind h
  clear h
  subst hqa2
  have h := h9
  clear h9
  obtain ⟨v3, hvv3, h⟩ := zbind h
  refine g_iald (pc := 8) C hvv3 dX9_isThing_8 ?_
  refine g_i2l (pc := 9) C dX9_isThing_9 ?_
  refine g_lconst (v := 1) (pc := 10) C dX9_isThing_10 (by decide) ?_
  refine g_lsub (pc := 11) C dX9_isThing_11 ?_
  obtain ⟨v5, σ4, hvσ4, h⟩ := zcb h
  refine g_callS (pc := 12) (av := [tJ (Int32.toInt64 (p1 : Int32)), tJ (0), tJ ((Int32.toInt64 (v3 : Int32)) - 1)]) C (c_X9_in hE hvσ4) ys_X9_in ml_X9_181 rfl (rf_of (by decide)) rfl (Nat.le_of_ble_eq_true rfl) dX9_isThing_12 ?_
  obtain ⟨u6, hvu6, h⟩ := zbind h
  obtain ⟨rfl, rfl⟩ := zsome h
  exact g_zret (pc := 15) C rfl hx (zbo_h hvu6) (by rw [hxn]; rfl) (by rw [hxn]; rfl) dX9_isThing_15
def rm_X9_isRoom : Room := { frames := 1, cells := 0, slots := 0, locals := 25 }
noncomputable def s_X9_isRoom (p0 : Int64) (σ : Hp) : Option (Int32 × Hp) :=
  cb (s_X9_in (p0) (0) (5) σ) fun v2 σ1 =>
  (zbo (v2)).bind fun u3 =>
  some ((v2), σ1)
set_option maxRecDepth 100000 in
theorem c_X9_isRoom {E : E0} (hE : EOK E) {p0 : Int64} {σ σ1 : Hp} {r : Int32} (h : s_X9_isRoom p0 σ = some (r, σ1)) : CT E yX9_isRoom (.code yX9_isRoom cX9_isRoom 2 (some .boolean)) rm_X9_isRoom [tJ (p0)] σ (some (tI r)) σ1 := by
  refine CT.mk hE (by decide +kernel) (Nat.le_of_ble_eq_true rfl) [(0, tJ (p0))] rfl (fun X C hin hx hxn => ?_)
  have C : XOK E X cX9_isRoom RX9 2 (some .boolean) rm_X9_isRoom := C
  unfold s_X9_isRoom at h
  refine g_lload_n (pc := 0) C 0 0 dX9_isRoom_0 rfl rfl ?_
  refine g_lconst (v := 0) (pc := 1) C dX9_isRoom_1 (by decide) ?_
  refine g_ldc2 (v := 5) (pc := 2) C dX9_isRoom_2 kl_X9_188 ?_
  obtain ⟨v2, σ1, hvσ1, h⟩ := zcb h
  refine g_callS (pc := 5) (av := [tJ (p0), tJ (0), tJ (5)]) C (c_X9_in hE hvσ1) ys_X9_in ml_X9_181 rfl (rf_of (by decide)) rfl (Nat.le_of_ble_eq_true rfl) dX9_isRoom_5 ?_
  obtain ⟨u3, hvu3, h⟩ := zbind h
  obtain ⟨rfl, rfl⟩ := zsome h
  exact g_zret (pc := 8) C rfl hx (zbo_h hvu3) (by rw [hxn]; rfl) (by rw [hxn]; rfl) dX9_isRoom_8
def rm_X9_longOf : Room := { frames := 0, cells := 0, slots := 0, locals := 0 }
noncomputable def s_X9_longOf (h0 : Nat) (p1 : Int32) (p2 : Int32) (σ : Hp) : Option (Int32 × Hp) :=
  (rdR 9 σ h0 3).bind fun r1 =>
  (r1).bind fun a2 =>
  (ldI 11 σ a2 ((50 + (10 * p1)) + p2)).bind fun v3 =>
  some ((v3), σ)
set_option maxRecDepth 100000 in
theorem c_X9_longOf {E : E0} (hE : EOK E) {h0 : Nat} {p1 : Int32} {p2 : Int32} {σ σ1 : Hp} {r : Int32} (h : s_X9_longOf h0 p1 p2 σ = some (r, σ1)) : CT E yX9_longOf (.code yX9_longOf cX9_longOf 3 (some .int)) rm_X9_longOf [tR (some (h0)), tI (p1), tI (p2)] σ (some (tI r)) σ1 := by
  refine CT.mk hE (by decide +kernel) (Nat.le_of_ble_eq_true rfl) [(0, tR (some (h0))), (1, tI (p1)), (2, tI (p2))] rfl (fun X C hin hx hxn => ?_)
  have C : XOK E X cX9_longOf RX9 3 (some .int) rm_X9_longOf := C
  unfold s_X9_longOf at h
  refine g_aload_n (pc := 0) C 0 0 dX9_longOf_0 rfl rfl ?_
  obtain ⟨r1, hvr1, h⟩ := zbind h
  refine g_getR (N := 58) (pc := 1) C ck_9 hvr1 rfl rfl fl_X9_13 dX9_longOf_1 ?_
  refine g_bipush (v := 50) (pc := 4) C dX9_longOf_4 (by decide) ?_
  refine g_bipush (v := 10) (pc := 6) C dX9_longOf_6 (by decide) ?_
  refine g_iload_n (pc := 8) C 1 1 dX9_longOf_8 rfl rfl ?_
  refine g_imul (pc := 9) C dX9_longOf_9 ?_
  refine g_iadd (pc := 10) C dX9_longOf_10 ?_
  refine g_iload_n (pc := 11) C 2 2 dX9_longOf_11 rfl rfl ?_
  refine g_iadd (pc := 12) C dX9_longOf_12 ?_
  obtain ⟨a2, hqa2, h9⟩ := zbind h
  clear h
  subst hqa2
  have h := h9
  clear h9
  obtain ⟨v3, hvv3, h⟩ := zbind h
  refine g_iald (pc := 13) C hvv3 dX9_longOf_13 ?_
  obtain ⟨rfl, rfl⟩ := zsome h
  exact g_iret (pc := 14) C rfl hx (by rw [hxn]; rfl) (by rw [hxn]; rfl) dX9_longOf_14
def rm_X9_perch : Room := { frames := 2, cells := 0, slots := 0, locals := 46 }
noncomputable def s_X9_perch_j25 (h0 : Nat) (σ : Hp) : Option (Int32 × Hp) :=
  (ck 9 σ h0).bind fun u1 =>
  cb (s_X9_tell h0 ((-1)) σ) fun v3 σ2 =>
  some ((v3), σ2)
set_option maxRecDepth 100000 in
theorem w_X9_perch_j25 {E : E0} (hE : EOK E) {X : X0} (C : XOK E X cX9_perch RX9 4 (some .int) rm_X9_perch) (hxn : xn X = (rm_X9_perch.cells, rm_X9_perch.slots)) (h0 : Nat) (σ : Hp) (r : Int32) (σ1 : Hp) (h : s_X9_perch_j25 h0 σ = some (r, σ1)) (hx : xd X = (some (tI r), σ1)) : G E X 0 0 25 [(0, tR (some (h0)))] [] σ := by
  unfold s_X9_perch_j25 at h
  refine g_aload_n (pc := 25) C 0 0 dX9_perch_25 rfl rfl ?_
  refine g_iconst (v := (-1)) (pc := 26) C dX9_perch_26 (by decide) ?_
  obtain ⟨u1, hvu1, h⟩ := zbind h
  obtain ⟨v3, σ2, hvσ2, h⟩ := zcb h
  refine g_callV (pc := 27) (av := [tI ((-1))]) C (c_X9_tell hE hvσ2) yv_X9_tell ml_X9_170 ck_9 (zopt hvu1).1 rfl (rf_of (by decide)) rfl (Nat.le_of_ble_eq_true rfl) dX9_perch_27 ?_
  obtain ⟨rfl, rfl⟩ := zsome h
  exact g_iret (pc := 30) C rfl hx (by rw [hxn]; rfl) (by rw [hxn]; rfl) dX9_perch_30
noncomputable def s_X9_perch (h0 : Nat) (p1 : Int32) (p2 : Int32) (σ : Hp) : Option (Int32 × Hp) :=
  (wrI 9 σ h0 0 (0)).bind fun σ1 =>
  cb (s_X9_isRoom (Int32.toInt64 (p1 : Int32)) σ1) fun v3 σ2 =>
  if v3 = 0 then
    s_X9_perch_j25 (h0) σ2
  else
    cb (s_X9_in (Int32.toInt64 (p2 : Int32)) (0) (9) σ2) fun v5 σ4 =>
    if v5 = 0 then
      s_X9_perch_j25 (h0) σ4
    else
      (rdR 9 σ4 h0 3).bind fun r6 =>
      (r6).bind fun a7 =>
      (ldI 11 σ4 a7 (0)).bind fun v8 =>
      if v8 = 10 then
        (ck 9 σ4 h0).bind fun u22 =>
        cb (s_X9_tell h0 ((-5)) σ4) fun v24 σ23 =>
        some ((v24), σ23)
      else
        (rdR 9 σ4 h0 3).bind fun r9 =>
        (r9).bind fun a10 =>
        (stI σ4 a10 (30 + v8) (p1)).bind fun σ11 =>
        (rdR 9 σ11 h0 3).bind fun r12 =>
        (r12).bind fun a13 =>
        (stI σ11 a13 (40 + v8) (p2)).bind fun σ14 =>
        (rdR 9 σ14 h0 3).bind fun r15 =>
        (r15).bind fun a16 =>
        (ldI 11 σ14 a16 (0)).bind fun v17 =>
        (stI σ14 a16 (0) (v17 + 1)).bind fun σ18 =>
        (ck 9 σ18 h0).bind fun u19 =>
        cb (s_X9_lasting h0 (v8) σ18) fun v21 σ20 =>
        some ((v21), σ20)
set_option maxRecDepth 100000 in
theorem c_X9_perch {E : E0} (hE : EOK E) {h0 : Nat} {p1 : Int32} {p2 : Int32} {σ σ1 : Hp} {r : Int32} (h : s_X9_perch h0 p1 p2 σ = some (r, σ1)) : CT E yX9_perch (.code yX9_perch cX9_perch 4 (some .int)) rm_X9_perch [tR (some (h0)), tI (p1), tI (p2)] σ (some (tI r)) σ1 := by
  refine CT.mk hE (by decide +kernel) (Nat.le_of_ble_eq_true rfl) [(0, tR (some (h0))), (1, tI (p1)), (2, tI (p2))] rfl (fun X C hin hx hxn => ?_)
  have C : XOK E X cX9_perch RX9 4 (some .int) rm_X9_perch := C
  unfold s_X9_perch at h
  refine g_aload_n (pc := 0) C 0 0 dX9_perch_0 rfl rfl ?_
  refine g_iconst (v := 0) (pc := 1) C dX9_perch_1 (by decide) ?_
  obtain ⟨σ1, hvσ1, h⟩ := zbind h
  refine g_putI (N := 58) (pc := 2) C ⟨ck_9, rfl, tyX9_ok⟩ hvσ1 rfl fl_X9_161 rfl rfl dX9_perch_2 ?_
  refine g_iload_n (pc := 5) C 1 1 dX9_perch_5 rfl rfl ?_
  refine g_i2l (pc := 6) C dX9_perch_6 ?_
  obtain ⟨v3, σ2, hvσ2, h⟩ := zcb h
  refine g_callS (pc := 7) (av := [tJ (Int32.toInt64 (p1 : Int32))]) C (c_X9_isRoom hE hvσ2) ys_X9_isRoom ml_X9_190 rfl (rf_of (by decide)) rfl (Nat.le_of_ble_eq_true rfl) dX9_perch_7 ?_
  refine g_if_eq (pc := 10) C 25 dX9_perch_10 (by decide) (fun c27 => ?_) (fun c27 => ?_)
  · have h := zif_t c27 h
    refine g_sub [0] (lm' := [(0, tR (some (h0)))]) rfl ?_
    exact w_X9_perch_j25 hE C hxn _ _ _ _ h hx
  · have h := zif_f c27 h
    refine g_iload_n (pc := 13) C 2 2 dX9_perch_13 rfl rfl ?_
    refine g_i2l (pc := 14) C dX9_perch_14 ?_
    refine g_lconst (v := 0) (pc := 15) C dX9_perch_15 (by decide) ?_
    refine g_ldc2 (v := 9) (pc := 16) C dX9_perch_16 kl_X9_194 ?_
    obtain ⟨v5, σ4, hvσ4, h⟩ := zcb h
    refine g_callS (pc := 19) (av := [tJ (Int32.toInt64 (p2 : Int32)), tJ (0), tJ (9)]) C (c_X9_in hE hvσ4) ys_X9_in ml_X9_181 rfl (rf_of (by decide)) rfl (Nat.le_of_ble_eq_true rfl) dX9_perch_19 ?_
    refine g_if_ne (pc := 22) C 31 dX9_perch_22 (by decide) (fun c26 => ?_) (fun c26 => ?_)
    · have h := zif_f c26 h
      refine g_aload_n (pc := 31) C 0 0 dX9_perch_31 rfl rfl ?_
      obtain ⟨r6, hvr6, h⟩ := zbind h
      refine g_getR (N := 58) (pc := 32) C ck_9 hvr6 rfl rfl fl_X9_13 dX9_perch_32 ?_
      refine g_iconst (v := 0) (pc := 35) C dX9_perch_35 (by decide) ?_
      obtain ⟨a7, hqa7, h9⟩ := zbind h
      clear h
      subst hqa7
      have h := h9
      clear h9
      obtain ⟨v8, hvv8, h⟩ := zbind h
      refine g_iald (pc := 36) C hvv8 dX9_perch_36 ?_
      refine g_istore_n (lm' := [(3, tI (v8)), (0, tR (some (h0))), (1, tI (p1)), (2, tI (p2))]) (pc := 37) C 3 dX9_perch_37 rfl (by decide) rfl ?_
      refine g_iload_n (pc := 38) C 3 0 dX9_perch_38 rfl rfl ?_
      refine g_bipush (v := 10) (pc := 39) C dX9_perch_39 (by decide) ?_
      refine g_icmp_ne (pc := 41) C 51 dX9_perch_41 (by decide) (fun c25 => ?_) (fun c25 => ?_)
      · have h := zif_f c25 h
        refine g_aload_n (pc := 51) C 0 1 dX9_perch_51 rfl rfl ?_
        obtain ⟨r9, hvr9, h⟩ := zbind h
        refine g_getR (N := 58) (pc := 52) C ck_9 hvr9 rfl rfl fl_X9_13 dX9_perch_52 ?_
        refine g_bipush (v := 30) (pc := 55) C dX9_perch_55 (by decide) ?_
        refine g_iload_n (pc := 57) C 3 0 dX9_perch_57 rfl rfl ?_
        refine g_iadd (pc := 58) C dX9_perch_58 ?_
        refine g_iload_n (pc := 59) C 1 2 dX9_perch_59 rfl rfl ?_
        obtain ⟨a10, hqa10, h9⟩ := zbind h
        clear h
        subst hqa10
        have h := h9
        clear h9
        obtain ⟨σ11, hvσ11, h⟩ := zbind h
        refine g_iast (pc := 60) C hvσ11 dX9_perch_60 ?_
        refine g_aload_n (pc := 61) C 0 1 dX9_perch_61 rfl rfl ?_
        obtain ⟨r12, hvr12, h⟩ := zbind h
        refine g_getR (N := 58) (pc := 62) C ck_9 hvr12 rfl rfl fl_X9_13 dX9_perch_62 ?_
        refine g_bipush (v := 40) (pc := 65) C dX9_perch_65 (by decide) ?_
        refine g_iload_n (pc := 67) C 3 0 dX9_perch_67 rfl rfl ?_
        refine g_iadd (pc := 68) C dX9_perch_68 ?_
        refine g_iload_n (pc := 69) C 2 3 dX9_perch_69 rfl rfl ?_
        obtain ⟨a13, hqa13, h9⟩ := zbind h
        clear h
        subst hqa13
        have h := h9
        clear h9
        obtain ⟨σ14, hvσ14, h⟩ := zbind h
        refine g_iast (pc := 70) C hvσ14 dX9_perch_70 ?_
        refine g_aload_n (pc := 71) C 0 1 dX9_perch_71 rfl rfl ?_
        obtain ⟨r15, hvr15, h⟩ := zbind h
        refine g_getR (N := 58) (pc := 72) C ck_9 hvr15 rfl rfl fl_X9_13 dX9_perch_72 ?_
        refine g_iconst (v := 0) (pc := 75) C dX9_perch_75 (by decide) ?_
        refine g_dup2 (pc := 76) C dX9_perch_76 rfl rfl ?_
        obtain ⟨a16, hqa16, h9⟩ := zbind h
        clear h
        subst hqa16
        have h := h9
        clear h9
        obtain ⟨v17, hvv17, h⟩ := zbind h
        refine g_iald (pc := 77) C hvv17 dX9_perch_77 ?_
        refine g_iconst (v := 1) (pc := 78) C dX9_perch_78 (by decide) ?_
        refine g_iadd (pc := 79) C dX9_perch_79 ?_
        obtain ⟨σ18, hvσ18, h⟩ := zbind h
        refine g_iast (pc := 80) C hvσ18 dX9_perch_80 ?_
        refine g_aload_n (pc := 81) C 0 1 dX9_perch_81 rfl rfl ?_
        refine g_iload_n (pc := 82) C 3 0 dX9_perch_82 rfl rfl ?_
        obtain ⟨u19, hvu19, h⟩ := zbind h
        obtain ⟨v21, σ20, hvσ20, h⟩ := zcb h
        refine g_callV (pc := 83) (av := [tI (v8)]) C (c_X9_lasting hE hvσ20) yv_X9_lasting ml_X9_185 ck_9 (zopt hvu19).1 rfl (rf_of (by decide)) rfl (Nat.le_of_ble_eq_true rfl) dX9_perch_83 ?_
        obtain ⟨rfl, rfl⟩ := zsome h
        exact g_iret (pc := 86) C rfl hx (by rw [hxn]; rfl) (by rw [hxn]; rfl) dX9_perch_86
      · have h := zif_t c25 h
        refine g_aload_n (pc := 44) C 0 1 dX9_perch_44 rfl rfl ?_
        refine g_bipush (v := (-5)) (pc := 45) C dX9_perch_45 (by decide) ?_
        obtain ⟨u22, hvu22, h⟩ := zbind h
        obtain ⟨v24, σ23, hvσ23, h⟩ := zcb h
        refine g_callV (pc := 47) (av := [tI ((-5))]) C (c_X9_tell hE hvσ23) yv_X9_tell ml_X9_170 ck_9 (zopt hvu22).1 rfl (rf_of (by decide)) rfl (Nat.le_of_ble_eq_true rfl) dX9_perch_47 ?_
        obtain ⟨rfl, rfl⟩ := zsome h
        exact g_iret (pc := 50) C rfl hx (by rw [hxn]; rfl) (by rw [hxn]; rfl) dX9_perch_50
    · have h := zif_t c26 h
      refine g_sub [0] (lm' := [(0, tR (some (h0)))]) rfl ?_
      exact w_X9_perch_j25 hE C hxn _ _ _ _ h hx
def rm_X9_reckon : Room := { frames := 0, cells := 0, slots := 0, locals := 0 }
noncomputable def s_X9_reckon_j72 (h0 : Nat) (l2 : Int64) (l4 : Int64) (t0 : Option Nat) (t1 : Int32) (σ : Hp) : Option (Int64 × Hp) :=
  (t0).bind fun a1 =>
  (wrZ 9 σ a1 38 (t1)).bind fun σ2 =>
  (rdI 9 σ2 h0 38).bind fun v3 =>
  if v3 = 0 then
    (zne (l4 = 0)).bind fun u4 =>
    some ((l2 / l4), σ2)
  else
    some ((0), σ2)
set_option maxRecDepth 100000 in
theorem w_X9_reckon_j72 {E : E0} (hE : EOK E) {X : X0} (C : XOK E X cX9_reckon RX9 6 (some .long) rm_X9_reckon) (hxn : xn X = (rm_X9_reckon.cells, rm_X9_reckon.slots)) (h0 : Nat) (l2 : Int64) (l4 : Int64) (t0 : Option Nat) (t1 : Int32) (σ : Hp) (r : Int64) (σ1 : Hp) (h : s_X9_reckon_j72 h0 l2 l4 t0 t1 σ = some (r, σ1)) (hx : xd X = (some (tJ r), σ1)) : G E X 0 0 72 [(0, tR (some (h0))), (2, tJ (l2)), (4, tJ (l4))] [tI (t1), tR (t0)] σ := by
  unfold s_X9_reckon_j72 at h
  obtain ⟨a1, hqa1, h9⟩ := zbind h
  clear h
  subst hqa1
  have h := h9
  clear h9
  obtain ⟨σ2, hvσ2, h⟩ := zbind h
  refine g_putZ (N := 58) (pc := 72) C ⟨ck_9, rfl, tyX9_ok⟩ hvσ2 rfl fl_X9_404 rfl rfl dX9_reckon_72 ?_
  refine g_aload_n (pc := 75) C 0 0 dX9_reckon_75 rfl rfl ?_
  obtain ⟨v3, hvv3, h⟩ := zbind h
  refine g_getI (N := 58) (pc := 76) C ck_9 hvv3 rfl rfl fl_X9_404 dX9_reckon_76 ?_
  refine g_if_eq (pc := 79) C 86 dX9_reckon_79 (by decide) (fun c5 => ?_) (fun c5 => ?_)
  · have h := zif_t c5 h
    refine g_lload_n (pc := 86) C 2 1 dX9_reckon_86 rfl rfl ?_
    refine g_lload (pc := 87) C 2 dX9_reckon_87 rfl ?_
    obtain ⟨u4, hvu4, h⟩ := zbind h
    refine g_ldiv (pc := 89) C dX9_reckon_89 (zne_h hvu4) ?_
    obtain ⟨rfl, rfl⟩ := zsome h
    exact g_lret (pc := 90) C rfl hx (by rw [hxn]; rfl) (by rw [hxn]; rfl) dX9_reckon_90
  · have h := zif_f c5 h
    refine g_lconst (v := 0) (pc := 82) C dX9_reckon_82 (by decide) ?_
    refine g_goto (pc := 83) C 90 dX9_reckon_83 (by decide) ?_
    obtain ⟨rfl, rfl⟩ := zsome h
    exact g_lret (pc := 90) C rfl hx (by rw [hxn]; rfl) (by rw [hxn]; rfl) dX9_reckon_90
noncomputable def s_X9_reckon_j104 (h0 : Nat) (l2 : Int64) (l4 : Int64) (t0 : Option Nat) (t1 : Int32) (σ : Hp) : Option (Int64 × Hp) :=
  (t0).bind fun a1 =>
  (wrZ 9 σ a1 38 (t1)).bind fun σ2 =>
  (rdI 9 σ2 h0 38).bind fun v3 =>
  if v3 = 0 then
    (zne (l4 = 0)).bind fun u4 =>
    some ((l2 - l2 / l4 * l4), σ2)
  else
    some ((0), σ2)
set_option maxRecDepth 100000 in
theorem w_X9_reckon_j104 {E : E0} (hE : EOK E) {X : X0} (C : XOK E X cX9_reckon RX9 6 (some .long) rm_X9_reckon) (hxn : xn X = (rm_X9_reckon.cells, rm_X9_reckon.slots)) (h0 : Nat) (l2 : Int64) (l4 : Int64) (t0 : Option Nat) (t1 : Int32) (σ : Hp) (r : Int64) (σ1 : Hp) (h : s_X9_reckon_j104 h0 l2 l4 t0 t1 σ = some (r, σ1)) (hx : xd X = (some (tJ r), σ1)) : G E X 0 0 104 [(0, tR (some (h0))), (2, tJ (l2)), (4, tJ (l4))] [tI (t1), tR (t0)] σ := by
  unfold s_X9_reckon_j104 at h
  obtain ⟨a1, hqa1, h9⟩ := zbind h
  clear h
  subst hqa1
  have h := h9
  clear h9
  obtain ⟨σ2, hvσ2, h⟩ := zbind h
  refine g_putZ (N := 58) (pc := 104) C ⟨ck_9, rfl, tyX9_ok⟩ hvσ2 rfl fl_X9_404 rfl rfl dX9_reckon_104 ?_
  refine g_aload_n (pc := 107) C 0 0 dX9_reckon_107 rfl rfl ?_
  obtain ⟨v3, hvv3, h⟩ := zbind h
  refine g_getI (N := 58) (pc := 108) C ck_9 hvv3 rfl rfl fl_X9_404 dX9_reckon_108 ?_
  refine g_if_eq (pc := 111) C 118 dX9_reckon_111 (by decide) (fun c5 => ?_) (fun c5 => ?_)
  · have h := zif_t c5 h
    refine g_lload_n (pc := 118) C 2 1 dX9_reckon_118 rfl rfl ?_
    refine g_lload (pc := 119) C 2 dX9_reckon_119 rfl ?_
    obtain ⟨u4, hvu4, h⟩ := zbind h
    refine g_lrem (pc := 121) C dX9_reckon_121 (zne_h hvu4) ?_
    obtain ⟨rfl, rfl⟩ := zsome h
    exact g_lret (pc := 122) C rfl hx (by rw [hxn]; rfl) (by rw [hxn]; rfl) dX9_reckon_122
  · have h := zif_f c5 h
    refine g_lconst (v := 0) (pc := 114) C dX9_reckon_114 (by decide) ?_
    refine g_goto (pc := 115) C 122 dX9_reckon_115 (by decide) ?_
    obtain ⟨rfl, rfl⟩ := zsome h
    exact g_lret (pc := 122) C rfl hx (by rw [hxn]; rfl) (by rw [hxn]; rfl) dX9_reckon_122
noncomputable def s_X9_reckon (h0 : Nat) (p1 : Int32) (p2 : Int64) (p4 : Int64) (σ : Hp) : Option (Int64 × Hp) :=
  if p1 = 20 then
    some ((p2 + p4), σ)
  else
    if p1 = 21 then
      some ((p2 - p4), σ)
    else
      if p1 = 22 then
        some ((p2 * p4), σ)
      else
        if p1 = 23 then
          if (lg_cmp (p4 : Int64) (0 : Int64)) = 0 then
            s_X9_reckon_j72 (h0) (p2) (p4) (some (h0)) (1) σ
          else
            s_X9_reckon_j72 (h0) (p2) (p4) (some (h0)) (0) σ
        else
          if p1 = 24 then
            if (lg_cmp (p4 : Int64) (0 : Int64)) = 0 then
              s_X9_reckon_j104 (h0) (p2) (p4) (some (h0)) (1) σ
            else
              s_X9_reckon_j104 (h0) (p2) (p4) (some (h0)) (0) σ
          else
            if p1 = 25 then
              if 0 ≤ (lg_cmp (p2 : Int64) (p4 : Int64)) then
                some ((0), σ)
              else
                some ((1), σ)
            else
              if p1 = 26 then
                if (lg_cmp (p2 : Int64) (p4 : Int64)) ≤ 0 then
                  some ((0), σ)
                else
                  some ((1), σ)
              else
                if (lg_cmp (p2 : Int64) (p4 : Int64)) = 0 then
                  some ((1), σ)
                else
                  some ((0), σ)
set_option maxRecDepth 100000 in
theorem c_X9_reckon {E : E0} (hE : EOK E) {h0 : Nat} {p1 : Int32} {p2 : Int64} {p4 : Int64} {σ σ1 : Hp} {r : Int64} (h : s_X9_reckon h0 p1 p2 p4 σ = some (r, σ1)) : CT E yX9_reckon (.code yX9_reckon cX9_reckon 6 (some .long)) rm_X9_reckon [tR (some (h0)), tI (p1), tJ (p2), tJ (p4)] σ (some (tJ r)) σ1 := by
  refine CT.mk hE (by decide +kernel) (Nat.le_of_ble_eq_true rfl) [(0, tR (some (h0))), (1, tI (p1)), (2, tJ (p2)), (4, tJ (p4))] rfl (fun X C hin hx hxn => ?_)
  have C : XOK E X cX9_reckon RX9 6 (some .long) rm_X9_reckon := C
  unfold s_X9_reckon at h
  refine g_iload_n (pc := 0) C 1 1 dX9_reckon_0 rfl rfl ?_
  by_cases c1 : p1 = 20
  · refine g_tswIn (pc := 1) C 44 dX9_reckon_1 (by rw [c1]; decide) (by rw [c1]; decide) (by rw [c1]; rfl) (by decide) ?_
    have h := zif_t c1 h
    refine g_lload_n (pc := 44) C 2 2 dX9_reckon_44 rfl rfl ?_
    refine g_lload (pc := 45) C 3 dX9_reckon_45 rfl ?_
    refine g_ladd (pc := 47) C dX9_reckon_47 ?_
    obtain ⟨rfl, rfl⟩ := zsome h
    exact g_lret (pc := 48) C rfl hx (by rw [hxn]; rfl) (by rw [hxn]; rfl) dX9_reckon_48
  · have h := zif_f c1 h
    by_cases c2 : p1 = 21
    · refine g_tswIn (pc := 1) C 49 dX9_reckon_1 (by rw [c2]; decide) (by rw [c2]; decide) (by rw [c2]; rfl) (by decide) ?_
      have h := zif_t c2 h
      refine g_lload_n (pc := 49) C 2 2 dX9_reckon_49 rfl rfl ?_
      refine g_lload (pc := 50) C 3 dX9_reckon_50 rfl ?_
      refine g_lsub (pc := 52) C dX9_reckon_52 ?_
      obtain ⟨rfl, rfl⟩ := zsome h
      exact g_lret (pc := 53) C rfl hx (by rw [hxn]; rfl) (by rw [hxn]; rfl) dX9_reckon_53
    · have h := zif_f c2 h
      by_cases c3 : p1 = 22
      · refine g_tswIn (pc := 1) C 54 dX9_reckon_1 (by rw [c3]; decide) (by rw [c3]; decide) (by rw [c3]; rfl) (by decide) ?_
        have h := zif_t c3 h
        refine g_lload_n (pc := 54) C 2 2 dX9_reckon_54 rfl rfl ?_
        refine g_lload (pc := 55) C 3 dX9_reckon_55 rfl ?_
        refine g_lmul (pc := 57) C dX9_reckon_57 ?_
        obtain ⟨rfl, rfl⟩ := zsome h
        exact g_lret (pc := 58) C rfl hx (by rw [hxn]; rfl) (by rw [hxn]; rfl) dX9_reckon_58
      · have h := zif_f c3 h
        by_cases c5 : p1 = 23
        · refine g_tswIn (pc := 1) C 59 dX9_reckon_1 (by rw [c5]; decide) (by rw [c5]; decide) (by rw [c5]; rfl) (by decide) ?_
          have h := zif_t c5 h
          refine g_aload_n (pc := 59) C 0 0 dX9_reckon_59 rfl rfl ?_
          refine g_lload (pc := 60) C 3 dX9_reckon_60 rfl ?_
          refine g_lconst (v := 0) (pc := 62) C dX9_reckon_62 (by decide) ?_
          refine g_lcmp (pc := 63) C dX9_reckon_63 ?_
          refine g_if_ne (pc := 64) C 71 dX9_reckon_64 (by decide) (fun c4 => ?_) (fun c4 => ?_)
          · have h := zif_f c4 h
            refine g_iconst (v := 0) (pc := 71) C dX9_reckon_71 (by decide) ?_
            refine g_sub [0, 2, 3] (lm' := [(0, tR (some (h0))), (2, tJ (p2)), (4, tJ (p4))]) rfl ?_
            exact w_X9_reckon_j72 hE C hxn _ _ _ _ _ _ _ _ h hx
          · have h := zif_t c4 h
            refine g_iconst (v := 1) (pc := 67) C dX9_reckon_67 (by decide) ?_
            refine g_goto (pc := 68) C 72 dX9_reckon_68 (by decide) ?_
            refine g_sub [0, 2, 3] (lm' := [(0, tR (some (h0))), (2, tJ (p2)), (4, tJ (p4))]) rfl ?_
            exact w_X9_reckon_j72 hE C hxn _ _ _ _ _ _ _ _ h hx
        · have h := zif_f c5 h
          by_cases c7 : p1 = 24
          · refine g_tswIn (pc := 1) C 91 dX9_reckon_1 (by rw [c7]; decide) (by rw [c7]; decide) (by rw [c7]; rfl) (by decide) ?_
            have h := zif_t c7 h
            refine g_aload_n (pc := 91) C 0 0 dX9_reckon_91 rfl rfl ?_
            refine g_lload (pc := 92) C 3 dX9_reckon_92 rfl ?_
            refine g_lconst (v := 0) (pc := 94) C dX9_reckon_94 (by decide) ?_
            refine g_lcmp (pc := 95) C dX9_reckon_95 ?_
            refine g_if_ne (pc := 96) C 103 dX9_reckon_96 (by decide) (fun c6 => ?_) (fun c6 => ?_)
            · have h := zif_f c6 h
              refine g_iconst (v := 0) (pc := 103) C dX9_reckon_103 (by decide) ?_
              refine g_sub [0, 2, 3] (lm' := [(0, tR (some (h0))), (2, tJ (p2)), (4, tJ (p4))]) rfl ?_
              exact w_X9_reckon_j104 hE C hxn _ _ _ _ _ _ _ _ h hx
            · have h := zif_t c6 h
              refine g_iconst (v := 1) (pc := 99) C dX9_reckon_99 (by decide) ?_
              refine g_goto (pc := 100) C 104 dX9_reckon_100 (by decide) ?_
              refine g_sub [0, 2, 3] (lm' := [(0, tR (some (h0))), (2, tJ (p2)), (4, tJ (p4))]) rfl ?_
              exact w_X9_reckon_j104 hE C hxn _ _ _ _ _ _ _ _ h hx
          · have h := zif_f c7 h
            by_cases c9 : p1 = 25
            · refine g_tswIn (pc := 1) C 123 dX9_reckon_1 (by rw [c9]; decide) (by rw [c9]; decide) (by rw [c9]; rfl) (by decide) ?_
              have h := zif_t c9 h
              refine g_lload_n (pc := 123) C 2 2 dX9_reckon_123 rfl rfl ?_
              refine g_lload (pc := 124) C 3 dX9_reckon_124 rfl ?_
              refine g_lcmp (pc := 126) C dX9_reckon_126 ?_
              refine g_if_ge (pc := 127) C 134 dX9_reckon_127 (by decide) (fun c8 => ?_) (fun c8 => ?_)
              · have h := zif_t c8 h
                refine g_lconst (v := 0) (pc := 134) C dX9_reckon_134 (by decide) ?_
                obtain ⟨rfl, rfl⟩ := zsome h
                exact g_lret (pc := 135) C rfl hx (by rw [hxn]; rfl) (by rw [hxn]; rfl) dX9_reckon_135
              · have h := zif_f c8 h
                refine g_lconst (v := 1) (pc := 130) C dX9_reckon_130 (by decide) ?_
                refine g_goto (pc := 131) C 135 dX9_reckon_131 (by decide) ?_
                obtain ⟨rfl, rfl⟩ := zsome h
                exact g_lret (pc := 135) C rfl hx (by rw [hxn]; rfl) (by rw [hxn]; rfl) dX9_reckon_135
            · have h := zif_f c9 h
              by_cases c11 : p1 = 26
              · refine g_tswIn (pc := 1) C 136 dX9_reckon_1 (by rw [c11]; decide) (by rw [c11]; decide) (by rw [c11]; rfl) (by decide) ?_
                have h := zif_t c11 h
                refine g_lload_n (pc := 136) C 2 2 dX9_reckon_136 rfl rfl ?_
                refine g_lload (pc := 137) C 3 dX9_reckon_137 rfl ?_
                refine g_lcmp (pc := 139) C dX9_reckon_139 ?_
                refine g_if_le (pc := 140) C 147 dX9_reckon_140 (by decide) (fun c10 => ?_) (fun c10 => ?_)
                · have h := zif_t c10 h
                  refine g_lconst (v := 0) (pc := 147) C dX9_reckon_147 (by decide) ?_
                  obtain ⟨rfl, rfl⟩ := zsome h
                  exact g_lret (pc := 148) C rfl hx (by rw [hxn]; rfl) (by rw [hxn]; rfl) dX9_reckon_148
                · have h := zif_f c10 h
                  refine g_lconst (v := 1) (pc := 143) C dX9_reckon_143 (by decide) ?_
                  refine g_goto (pc := 144) C 148 dX9_reckon_144 (by decide) ?_
                  obtain ⟨rfl, rfl⟩ := zsome h
                  exact g_lret (pc := 148) C rfl hx (by rw [hxn]; rfl) (by rw [hxn]; rfl) dX9_reckon_148
              · have h := zif_f c11 h
                refine g_tswOut (pc := 1) C 149 dX9_reckon_1 (by have ec1 := n32 (k := 20) (n := 20) (by decide) c1; have ec2 := n32 (k := 21) (n := 21) (by decide) c2; have ec3 := n32 (k := 22) (n := 22) (by decide) c3; have ec5 := n32 (k := 23) (n := 23) (by decide) c5; have ec7 := n32 (k := 24) (n := 24) (by decide) c7; have ec9 := n32 (k := 25) (n := 25) (by decide) c9; have ec11 := n32 (k := 26) (n := 26) (by decide) c11; omega) (by decide) ?_
                refine g_lload_n (pc := 149) C 2 2 dX9_reckon_149 rfl rfl ?_
                refine g_lload (pc := 150) C 3 dX9_reckon_150 rfl ?_
                refine g_lcmp (pc := 152) C dX9_reckon_152 ?_
                refine g_if_ne (pc := 153) C 160 dX9_reckon_153 (by decide) (fun c12 => ?_) (fun c12 => ?_)
                · have h := zif_f c12 h
                  refine g_lconst (v := 0) (pc := 160) C dX9_reckon_160 (by decide) ?_
                  obtain ⟨rfl, rfl⟩ := zsome h
                  exact g_lret (pc := 161) C rfl hx (by rw [hxn]; rfl) (by rw [hxn]; rfl) dX9_reckon_161
                · have h := zif_t c12 h
                  refine g_lconst (v := 1) (pc := 156) C dX9_reckon_156 (by decide) ?_
                  refine g_goto (pc := 157) C 161 dX9_reckon_157 (by decide) ?_
                  obtain ⟨rfl, rfl⟩ := zsome h
                  exact g_lret (pc := 161) C rfl hx (by rw [hxn]; rfl) (by rw [hxn]; rfl) dX9_reckon_161
def rm_X9_reckonAll : Room := { frames := 2, cells := 0, slots := 0, locals := 46 }
noncomputable def s_X9_reckonAll_j397 (h0 : Nat) (l2 : Int32) (l3 : Int32) (l4 : Int32) (σ : Hp) : Option (((Nat × Int32 × Int32 × Int32) ⊕ ((Nat × Int32))) × Hp) :=
  some (Sum.inl ((h0), (l2), (l3), (l4)), σ)
set_option maxRecDepth 100000 in
theorem w_X9_reckonAll_j397 {E : E0} (hE : EOK E) {X : X0} (C : XOK E X cX9_reckonAll RX9 7 none rm_X9_reckonAll) (hxn : xn X = (rm_X9_reckonAll.cells, rm_X9_reckonAll.slots)) {KE : ((Nat × Int32)) → Hp → Prop} (e_400 : ∀ (h0 : Nat) (l3 : Int32) (σ : Hp), KE ((h0, l3)) σ → G E X 0 0 400 [(0, tR (some (h0))), (3, tI (l3))] [] σ) (h0 : Nat) (l2 : Int32) (l3 : Int32) (l4 : Int32) (σ : Hp) (x : (Nat × Int32 × Int32 × Int32) ⊕ ((Nat × Int32))) (σ1 : Hp) (h : s_X9_reckonAll_j397 h0 l2 l3 l4 σ = some (x, σ1)) (hI : ∀ v, x = Sum.inl v → (fun (v : Nat × Int32 × Int32 × Int32) (σ : Hp) => G E X 0 0 10 [(0, tR (some ((v.1)))), (2, tI ((v.2.1))), (3, tI ((v.2.2.1))), (4, tI ((v.2.2.2)))] [] σ) v σ1) (hO : ∀ e, x = Sum.inr e → KE e σ1) : G E X 0 0 397 [(0, tR (some (h0))), (2, tI (l2)), (3, tI (l3)), (4, tI (l4))] [] σ := by
  unfold s_X9_reckonAll_j397 at h
  refine g_goto (pc := 397) C 10 dX9_reckonAll_397 (by decide) ?_
  obtain ⟨rfl, rfl⟩ := zsome h
  exact hI _ rfl
noncomputable def s_X9_reckonAll_j383 (h0 : Nat) (l2 : Int32) (l3 : Int32) (l4 : Int32) (l6 : Int32) (t0 : Int64) (t1 : Int64) (σ : Hp) : Option (((Nat × Int32 × Int32 × Int32) ⊕ ((Nat × Int32))) × Hp) :=
  if (lg_cmp (t0 : Int64) (t1 : Int64)) = 0 then
    s_X9_reckonAll_j397 (h0) (l2) (l3) (l6) σ
  else
    s_X9_reckonAll_j397 (h0) (l2) (l3 + (-1)) (l4) σ
set_option maxRecDepth 100000 in
theorem w_X9_reckonAll_j383 {E : E0} (hE : EOK E) {X : X0} (C : XOK E X cX9_reckonAll RX9 7 none rm_X9_reckonAll) (hxn : xn X = (rm_X9_reckonAll.cells, rm_X9_reckonAll.slots)) {KE : ((Nat × Int32)) → Hp → Prop} (e_400 : ∀ (h0 : Nat) (l3 : Int32) (σ : Hp), KE ((h0, l3)) σ → G E X 0 0 400 [(0, tR (some (h0))), (3, tI (l3))] [] σ) (h0 : Nat) (l2 : Int32) (l3 : Int32) (l4 : Int32) (l6 : Int32) (t0 : Int64) (t1 : Int64) (σ : Hp) (x : (Nat × Int32 × Int32 × Int32) ⊕ ((Nat × Int32))) (σ1 : Hp) (h : s_X9_reckonAll_j383 h0 l2 l3 l4 l6 t0 t1 σ = some (x, σ1)) (hI : ∀ v, x = Sum.inl v → (fun (v : Nat × Int32 × Int32 × Int32) (σ : Hp) => G E X 0 0 10 [(0, tR (some ((v.1)))), (2, tI ((v.2.1))), (3, tI ((v.2.2.1))), (4, tI ((v.2.2.2)))] [] σ) v σ1) (hO : ∀ e, x = Sum.inr e → KE e σ1) : G E X 0 0 383 [(0, tR (some (h0))), (2, tI (l2)), (3, tI (l3)), (4, tI (l4)), (6, tI (l6))] [tJ (t1), tJ (t0)] σ := by
  unfold s_X9_reckonAll_j383 at h
  refine g_lcmp (pc := 383) C dX9_reckonAll_383 ?_
  refine g_if_ne (pc := 384) C 394 dX9_reckonAll_384 (by decide) (fun c1 => ?_) (fun c1 => ?_)
  · have h := zif_f c1 h
    refine g_iinc (lm' := [(3, tI (l3 + (-1))), (0, tR (some (h0))), (2, tI (l2)), (4, tI (l4)), (6, tI (l6))]) (v := l3 + (-1)) (pc := 394) C 2 dX9_reckonAll_394 rfl rfl (by decide) rfl ?_
    refine g_sub [1, 2, 0, 3] (lm' := [(0, tR (some (h0))), (2, tI (l2)), (3, tI (l3 + (-1))), (4, tI (l4))]) rfl ?_
    exact w_X9_reckonAll_j397 hE C hxn e_400 _ _ _ _ _ _ _ h hI hO
  · have h := zif_t c1 h
    refine g_iload (pc := 387) C 4 dX9_reckonAll_387 rfl ?_
    refine g_istore (lm' := [(4, tI (l6)), (0, tR (some (h0))), (2, tI (l2)), (3, tI (l3)), (6, tI (l6))]) (pc := 389) C dX9_reckonAll_389 (by decide) rfl ?_
    refine g_goto (pc := 391) C 397 dX9_reckonAll_391 (by decide) ?_
    refine g_sub [1, 2, 3, 0] (lm' := [(0, tR (some (h0))), (2, tI (l2)), (3, tI (l3)), (4, tI (l6))]) rfl ?_
    exact w_X9_reckonAll_j397 hE C hxn e_400 _ _ _ _ _ _ _ h hI hO
noncomputable def s_X9_reckonAll_j329 (h0 : Nat) (l2 : Int32) (l3 : Int32) (l4 : Int32) (t0 : Option Nat) (t1 : Int32) (σ : Hp) : Option (((Nat × Int32 × Int32 × Int32) ⊕ ((Nat × Int32))) × Hp) :=
  (t0).bind fun a1 =>
  (wrZ 9 σ a1 38 (t1)).bind fun σ2 =>
  s_X9_reckonAll_j397 (h0) (l2) (l3) (l4) σ2
set_option maxRecDepth 100000 in
theorem w_X9_reckonAll_j329 {E : E0} (hE : EOK E) {X : X0} (C : XOK E X cX9_reckonAll RX9 7 none rm_X9_reckonAll) (hxn : xn X = (rm_X9_reckonAll.cells, rm_X9_reckonAll.slots)) {KE : ((Nat × Int32)) → Hp → Prop} (e_400 : ∀ (h0 : Nat) (l3 : Int32) (σ : Hp), KE ((h0, l3)) σ → G E X 0 0 400 [(0, tR (some (h0))), (3, tI (l3))] [] σ) (h0 : Nat) (l2 : Int32) (l3 : Int32) (l4 : Int32) (t0 : Option Nat) (t1 : Int32) (σ : Hp) (x : (Nat × Int32 × Int32 × Int32) ⊕ ((Nat × Int32))) (σ1 : Hp) (h : s_X9_reckonAll_j329 h0 l2 l3 l4 t0 t1 σ = some (x, σ1)) (hI : ∀ v, x = Sum.inl v → (fun (v : Nat × Int32 × Int32 × Int32) (σ : Hp) => G E X 0 0 10 [(0, tR (some ((v.1)))), (2, tI ((v.2.1))), (3, tI ((v.2.2.1))), (4, tI ((v.2.2.2)))] [] σ) v σ1) (hO : ∀ e, x = Sum.inr e → KE e σ1) : G E X 0 0 329 [(0, tR (some (h0))), (2, tI (l2)), (3, tI (l3)), (4, tI (l4))] [tI (t1), tR (t0)] σ := by
  unfold s_X9_reckonAll_j329 at h
  obtain ⟨a1, hqa1, h9⟩ := zbind h
  clear h
  subst hqa1
  have h := h9
  clear h9
  obtain ⟨σ2, hvσ2, h⟩ := zbind h
  refine g_putZ (N := 58) (pc := 329) C ⟨ck_9, rfl, tyX9_ok⟩ hvσ2 rfl fl_X9_404 rfl rfl dX9_reckonAll_329 ?_
  refine g_goto (pc := 332) C 397 dX9_reckonAll_332 (by decide) ?_
  exact w_X9_reckonAll_j397 hE C hxn e_400 _ _ _ _ _ _ _ h hI hO
noncomputable def s_X9_reckonAll_j324 (h0 : Nat) (l2 : Int32) (l3 : Int32) (l4 : Int32) (t0 : Option Nat) (σ : Hp) : Option (((Nat × Int32 × Int32 × Int32) ⊕ ((Nat × Int32))) × Hp) :=
  s_X9_reckonAll_j329 (h0) (l2) (l3) (l4) (t0) (1) σ
set_option maxRecDepth 100000 in
theorem w_X9_reckonAll_j324 {E : E0} (hE : EOK E) {X : X0} (C : XOK E X cX9_reckonAll RX9 7 none rm_X9_reckonAll) (hxn : xn X = (rm_X9_reckonAll.cells, rm_X9_reckonAll.slots)) {KE : ((Nat × Int32)) → Hp → Prop} (e_400 : ∀ (h0 : Nat) (l3 : Int32) (σ : Hp), KE ((h0, l3)) σ → G E X 0 0 400 [(0, tR (some (h0))), (3, tI (l3))] [] σ) (h0 : Nat) (l2 : Int32) (l3 : Int32) (l4 : Int32) (t0 : Option Nat) (σ : Hp) (x : (Nat × Int32 × Int32 × Int32) ⊕ ((Nat × Int32))) (σ1 : Hp) (h : s_X9_reckonAll_j324 h0 l2 l3 l4 t0 σ = some (x, σ1)) (hI : ∀ v, x = Sum.inl v → (fun (v : Nat × Int32 × Int32 × Int32) (σ : Hp) => G E X 0 0 10 [(0, tR (some ((v.1)))), (2, tI ((v.2.1))), (3, tI ((v.2.2.1))), (4, tI ((v.2.2.2)))] [] σ) v σ1) (hO : ∀ e, x = Sum.inr e → KE e σ1) : G E X 0 0 324 [(0, tR (some (h0))), (2, tI (l2)), (3, tI (l3)), (4, tI (l4))] [tR (t0)] σ := by
  unfold s_X9_reckonAll_j324 at h
  refine g_iconst (v := 1) (pc := 324) C dX9_reckonAll_324 (by decide) ?_
  refine g_goto (pc := 325) C 329 dX9_reckonAll_325 (by decide) ?_
  exact w_X9_reckonAll_j329 hE C hxn e_400 _ _ _ _ _ _ _ _ _ h hI hO
noncomputable def s_X9_reckonAll_j251 (h0 : Nat) (l2 : Int32) (l3 : Int32) (l4 : Int32) (t0 : Option Nat) (t1 : Int32) (t2 : Int64) (σ : Hp) : Option (((Nat × Int32 × Int32 × Int32) ⊕ ((Nat × Int32))) × Hp) :=
  (t0).bind fun a1 =>
  (stJ σ a1 (t1) (t2)).bind fun σ2 =>
  s_X9_reckonAll_j397 (h0) (l2) (l3 + 1) (l4) σ2
set_option maxRecDepth 100000 in
theorem w_X9_reckonAll_j251 {E : E0} (hE : EOK E) {X : X0} (C : XOK E X cX9_reckonAll RX9 7 none rm_X9_reckonAll) (hxn : xn X = (rm_X9_reckonAll.cells, rm_X9_reckonAll.slots)) {KE : ((Nat × Int32)) → Hp → Prop} (e_400 : ∀ (h0 : Nat) (l3 : Int32) (σ : Hp), KE ((h0, l3)) σ → G E X 0 0 400 [(0, tR (some (h0))), (3, tI (l3))] [] σ) (h0 : Nat) (l2 : Int32) (l3 : Int32) (l4 : Int32) (t0 : Option Nat) (t1 : Int32) (t2 : Int64) (σ : Hp) (x : (Nat × Int32 × Int32 × Int32) ⊕ ((Nat × Int32))) (σ1 : Hp) (h : s_X9_reckonAll_j251 h0 l2 l3 l4 t0 t1 t2 σ = some (x, σ1)) (hI : ∀ v, x = Sum.inl v → (fun (v : Nat × Int32 × Int32 × Int32) (σ : Hp) => G E X 0 0 10 [(0, tR (some ((v.1)))), (2, tI ((v.2.1))), (3, tI ((v.2.2.1))), (4, tI ((v.2.2.2)))] [] σ) v σ1) (hO : ∀ e, x = Sum.inr e → KE e σ1) : G E X 0 0 251 [(0, tR (some (h0))), (2, tI (l2)), (3, tI (l3)), (4, tI (l4))] [tJ (t2), tI (t1), tR (t0)] σ := by
  unfold s_X9_reckonAll_j251 at h
  obtain ⟨a1, hqa1, h9⟩ := zbind h
  clear h
  subst hqa1
  have h := h9
  clear h9
  obtain ⟨σ2, hvσ2, h⟩ := zbind h
  refine g_last (pc := 251) C hvσ2 dX9_reckonAll_251 ?_
  refine g_iinc (lm' := [(3, tI (l3 + 1)), (0, tR (some (h0))), (2, tI (l2)), (4, tI (l4))]) (v := l3 + 1) (pc := 252) C 2 dX9_reckonAll_252 rfl rfl (by decide) rfl ?_
  refine g_goto (pc := 255) C 397 dX9_reckonAll_255 (by decide) ?_
  refine g_sub [1, 2, 0, 3] (lm' := [(0, tR (some (h0))), (2, tI (l2)), (3, tI (l3 + 1)), (4, tI (l4))]) rfl ?_
  exact w_X9_reckonAll_j397 hE C hxn e_400 _ _ _ _ _ _ _ h hI hO
noncomputable def s_X9_reckonAll_j221 (h0 : Nat) (l2 : Int32) (l3 : Int32) (l4 : Int32) (t0 : Option Nat) (t1 : Int32) (t2 : Int32) (σ : Hp) : Option (((Nat × Int32 × Int32 × Int32) ⊕ ((Nat × Int32))) × Hp) :=
  s_X9_reckonAll_j251 (h0) (l2) (l3) (l4) (t0) (t1) (Int32.toInt64 (t2 : Int32)) σ
set_option maxRecDepth 100000 in
theorem w_X9_reckonAll_j221 {E : E0} (hE : EOK E) {X : X0} (C : XOK E X cX9_reckonAll RX9 7 none rm_X9_reckonAll) (hxn : xn X = (rm_X9_reckonAll.cells, rm_X9_reckonAll.slots)) {KE : ((Nat × Int32)) → Hp → Prop} (e_400 : ∀ (h0 : Nat) (l3 : Int32) (σ : Hp), KE ((h0, l3)) σ → G E X 0 0 400 [(0, tR (some (h0))), (3, tI (l3))] [] σ) (h0 : Nat) (l2 : Int32) (l3 : Int32) (l4 : Int32) (t0 : Option Nat) (t1 : Int32) (t2 : Int32) (σ : Hp) (x : (Nat × Int32 × Int32 × Int32) ⊕ ((Nat × Int32))) (σ1 : Hp) (h : s_X9_reckonAll_j221 h0 l2 l3 l4 t0 t1 t2 σ = some (x, σ1)) (hI : ∀ v, x = Sum.inl v → (fun (v : Nat × Int32 × Int32 × Int32) (σ : Hp) => G E X 0 0 10 [(0, tR (some ((v.1)))), (2, tI ((v.2.1))), (3, tI ((v.2.2.1))), (4, tI ((v.2.2.2)))] [] σ) v σ1) (hO : ∀ e, x = Sum.inr e → KE e σ1) : G E X 0 0 221 [(0, tR (some (h0))), (2, tI (l2)), (3, tI (l3)), (4, tI (l4))] [tI (t2), tI (t1), tR (t0)] σ := by
  unfold s_X9_reckonAll_j221 at h
  refine g_i2l (pc := 221) C dX9_reckonAll_221 ?_
  refine g_goto (pc := 222) C 251 dX9_reckonAll_222 (by decide) ?_
  exact w_X9_reckonAll_j251 hE C hxn e_400 _ _ _ _ _ _ _ _ _ _ h hI hO
noncomputable def s_X9_reckonAll_j187 (h0 : Nat) (l2 : Int32) (l3 : Int32) (l4 : Int32) (t0 : Option Nat) (t1 : Int32) (t2 : Int32) (σ : Hp) : Option (((Nat × Int32 × Int32 × Int32) ⊕ ((Nat × Int32))) × Hp) :=
  s_X9_reckonAll_j251 (h0) (l2) (l3) (l4) (t0) (t1) (Int32.toInt64 (t2 : Int32)) σ
set_option maxRecDepth 100000 in
theorem w_X9_reckonAll_j187 {E : E0} (hE : EOK E) {X : X0} (C : XOK E X cX9_reckonAll RX9 7 none rm_X9_reckonAll) (hxn : xn X = (rm_X9_reckonAll.cells, rm_X9_reckonAll.slots)) {KE : ((Nat × Int32)) → Hp → Prop} (e_400 : ∀ (h0 : Nat) (l3 : Int32) (σ : Hp), KE ((h0, l3)) σ → G E X 0 0 400 [(0, tR (some (h0))), (3, tI (l3))] [] σ) (h0 : Nat) (l2 : Int32) (l3 : Int32) (l4 : Int32) (t0 : Option Nat) (t1 : Int32) (t2 : Int32) (σ : Hp) (x : (Nat × Int32 × Int32 × Int32) ⊕ ((Nat × Int32))) (σ1 : Hp) (h : s_X9_reckonAll_j187 h0 l2 l3 l4 t0 t1 t2 σ = some (x, σ1)) (hI : ∀ v, x = Sum.inl v → (fun (v : Nat × Int32 × Int32 × Int32) (σ : Hp) => G E X 0 0 10 [(0, tR (some ((v.1)))), (2, tI ((v.2.1))), (3, tI ((v.2.2.1))), (4, tI ((v.2.2.2)))] [] σ) v σ1) (hO : ∀ e, x = Sum.inr e → KE e σ1) : G E X 0 0 187 [(0, tR (some (h0))), (2, tI (l2)), (3, tI (l3)), (4, tI (l4))] [tI (t2), tI (t1), tR (t0)] σ := by
  unfold s_X9_reckonAll_j187 at h
  refine g_i2l (pc := 187) C dX9_reckonAll_187 ?_
  refine g_goto (pc := 188) C 251 dX9_reckonAll_188 (by decide) ?_
  exact w_X9_reckonAll_j251 hE C hxn e_400 _ _ _ _ _ _ _ _ _ _ h hI hO
noncomputable def s_X9_reckonAll_j95 (h0 : Nat) (l2 : Int32) (l3 : Int32) (l4 : Int32) (l5 : Int32) (t0 : Int32) (σ : Hp) : Option (((Nat × Int32 × Int32 × Int32) ⊕ ((Nat × Int32))) × Hp) :=
  if 20 ≤ l5 then
    if 28 ≤ l5 then
      if l5 = 28 then
        (rdR 9 σ h0 37).bind fun r5 =>
        (rdR 9 σ h0 37).bind fun r6 =>
        (r6).bind fun a7 =>
        (ldJ σ a7 (l3 - 1)).bind fun v8 =>
        (r5).bind fun a9 =>
        (stJ σ a9 (l3 - 1) (1 - v8)).bind fun σ10 =>
        s_X9_reckonAll_j397 (h0) (l2) (l3) (l4 + 1) σ10
      else
        (rdR 9 σ h0 37).bind fun r1 =>
        (r1).bind fun a2 =>
        (ldJ σ a2 (l3 - 1)).bind fun v3 =>
        if l5 = 29 then
          s_X9_reckonAll_j383 (h0) (l2) (l3) (l4 + 1) (t0) (v3) (0) σ
        else
          s_X9_reckonAll_j383 (h0) (l2) (l3) (l4 + 1) (t0) (v3) (1) σ
    else
      (rdR 9 σ h0 37).bind fun r12 =>
      (rdR 9 σ h0 37).bind fun r13 =>
      (r13).bind fun a14 =>
      (ldJ σ a14 ((l3 + (-1)) - 1)).bind fun v15 =>
      (rdR 9 σ h0 37).bind fun r16 =>
      (r16).bind fun a17 =>
      (ldJ σ a17 (l3 + (-1))).bind fun v18 =>
      (ck 9 σ h0).bind fun u19 =>
      cb (s_X9_reckon h0 (l5) (v15) (v18) σ) fun v21 σ20 =>
      (r12).bind fun a22 =>
      (stJ σ20 a22 ((l3 + (-1)) - 1) (v21)).bind fun σ23 =>
      (rdI 9 σ23 h0 38).bind fun v24 =>
      if v24 = 0 then
        (rdR 9 σ23 h0 37).bind fun r25 =>
        (r25).bind fun a26 =>
        (ldJ σ23 a26 ((l3 + (-1)) - 1)).bind fun v27 =>
        cb (s_X9_in (v27) ((-1000000000)) (1000000000) σ23) fun v29 σ28 =>
        if v29 = 0 then
          s_X9_reckonAll_j324 (h0) (l2) (l3 + (-1)) (l4 + 1) (some (h0)) σ28
        else
          s_X9_reckonAll_j329 (h0) (l2) (l3 + (-1)) (l4 + 1) (some (h0)) (0) σ28
      else
        s_X9_reckonAll_j324 (h0) (l2) (l3 + (-1)) (l4 + 1) (some (h0)) σ23
  else
    (rdR 9 σ h0 37).bind fun r33 =>
    if l5 = 0 then
      s_X9_reckonAll_j251 (h0) (l2) (l3) (l4 + 1) (r33) (l3) (Int32.toInt64 (t0 : Int32)) σ
    else
      (rdI 9 σ h0 20).bind fun v34 =>
      if v34 = 0 then
        (rdR 9 σ h0 35).bind fun r62 =>
        (r62).bind fun a63 =>
        (ldJ σ a63 (l5)).bind fun v64 =>
        s_X9_reckonAll_j251 (h0) (l2) (l3) (l4 + 1) (r33) (l3) (v64) σ
      else
        if 6 ≤ l5 then
          if l5 = 6 then
            (ck 9 σ h0).bind fun u50 =>
            cb (s_X9_isFolk h0 (t0) σ) fun v52 σ51 =>
            if v52 = 0 then
              s_X9_reckonAll_j187 (h0) (l2) (l3) (l4 + 1) (r33) (l3) ((-1)) σ51
            else
              (rdR 9 σ51 h0 3).bind fun r53 =>
              (r53).bind fun a54 =>
              (ldI 11 σ51 a54 (17 + t0)).bind fun v55 =>
              s_X9_reckonAll_j187 (h0) (l2) (l3) (l4 + 1) (r33) (l3) (v55) σ51
          else
            if l5 = 7 then
              (ck 9 σ h0).bind fun u42 =>
              cb (s_X9_isBadger h0 (t0) σ) fun v44 σ43 =>
              if v44 = 0 then
                s_X9_reckonAll_j221 (h0) (l2) (l3) (l4 + 1) (r33) (l3) ((-1)) σ43
              else
                (rdR 9 σ43 h0 3).bind fun r45 =>
                (r45).bind fun a46 =>
                (ldI 11 σ43 a46 (21 + t0)).bind fun v47 =>
                s_X9_reckonAll_j221 (h0) (l2) (l3) (l4 + 1) (r33) (l3) (v47) σ43
            else
              (ck 9 σ h0).bind fun u35 =>
              cb (s_X9_isThing h0 (t0) σ) fun v37 σ36 =>
              if v37 = 0 then
                s_X9_reckonAll_j251 (h0) (l2) (l3) (l4 + 1) (r33) (l3) ((-1)) σ36
              else
                (rdR 9 σ36 h0 3).bind fun r38 =>
                (r38).bind fun a39 =>
                (ldI 11 σ36 a39 (24 + t0)).bind fun v40 =>
                s_X9_reckonAll_j251 (h0) (l2) (l3) (l4 + 1) (r33) (l3) (Int32.toInt64 (v40 : Int32)) σ36
        else
          (rdR 9 σ h0 36).bind fun r58 =>
          (r58).bind fun a59 =>
          (ldJ σ a59 (l5)).bind fun v60 =>
          s_X9_reckonAll_j251 (h0) (l2) (l3) (l4 + 1) (r33) (l3) (v60) σ
set_option maxRecDepth 100000 in
theorem w_X9_reckonAll_j95 {E : E0} (hE : EOK E) {X : X0} (C : XOK E X cX9_reckonAll RX9 7 none rm_X9_reckonAll) (hxn : xn X = (rm_X9_reckonAll.cells, rm_X9_reckonAll.slots)) {KE : ((Nat × Int32)) → Hp → Prop} (e_400 : ∀ (h0 : Nat) (l3 : Int32) (σ : Hp), KE ((h0, l3)) σ → G E X 0 0 400 [(0, tR (some (h0))), (3, tI (l3))] [] σ) (h0 : Nat) (l2 : Int32) (l3 : Int32) (l4 : Int32) (l5 : Int32) (t0 : Int32) (σ : Hp) (x : (Nat × Int32 × Int32 × Int32) ⊕ ((Nat × Int32))) (σ1 : Hp) (h : s_X9_reckonAll_j95 h0 l2 l3 l4 l5 t0 σ = some (x, σ1)) (hI : ∀ v, x = Sum.inl v → (fun (v : Nat × Int32 × Int32 × Int32) (σ : Hp) => G E X 0 0 10 [(0, tR (some ((v.1)))), (2, tI ((v.2.1))), (3, tI ((v.2.2.1))), (4, tI ((v.2.2.2)))] [] σ) v σ1) (hO : ∀ e, x = Sum.inr e → KE e σ1) : G E X 0 0 95 [(0, tR (some (h0))), (2, tI (l2)), (3, tI (l3)), (4, tI (l4)), (5, tI (l5))] [tI (t0)] σ := by
  unfold s_X9_reckonAll_j95 at h
  refine g_istore (lm' := [(6, tI (t0)), (0, tR (some (h0))), (2, tI (l2)), (3, tI (l3)), (4, tI (l4)), (5, tI (l5))]) (pc := 95) C dX9_reckonAll_95 (by decide) rfl ?_
  refine g_iinc (lm' := [(4, tI (l4 + 1)), (6, tI (t0)), (0, tR (some (h0))), (2, tI (l2)), (3, tI (l3)), (5, tI (l5))]) (v := l4 + 1) (pc := 97) C 4 dX9_reckonAll_97 rfl rfl (by decide) rfl ?_
  refine g_iload (pc := 100) C 5 dX9_reckonAll_100 rfl ?_
  refine g_bipush (v := 20) (pc := 102) C dX9_reckonAll_102 (by decide) ?_
  refine g_icmp_ge (pc := 104) C 258 dX9_reckonAll_104 (by decide) (fun c67 => ?_) (fun c67 => ?_)
  · have h := zif_t c67 h
    refine g_iload (pc := 258) C 5 dX9_reckonAll_258 rfl ?_
    refine g_bipush (v := 28) (pc := 260) C dX9_reckonAll_260 (by decide) ?_
    refine g_icmp_ge (pc := 262) C 335 dX9_reckonAll_262 (by decide) (fun c32 => ?_) (fun c32 => ?_)
    · have h := zif_t c32 h
      refine g_iload (pc := 335) C 5 dX9_reckonAll_335 rfl ?_
      refine g_bipush (v := 28) (pc := 337) C dX9_reckonAll_337 (by decide) ?_
      refine g_icmp_ne (pc := 339) C 363 dX9_reckonAll_339 (by decide) (fun c11 => ?_) (fun c11 => ?_)
      · have h := zif_f c11 h
        refine g_aload_n (pc := 363) C 0 2 dX9_reckonAll_363 rfl rfl ?_
        obtain ⟨r1, hvr1, h⟩ := zbind h
        refine g_getR (N := 58) (pc := 364) C ck_9 hvr1 rfl rfl fl_X9_107 dX9_reckonAll_364 ?_
        refine g_iload_n (pc := 367) C 3 4 dX9_reckonAll_367 rfl rfl ?_
        refine g_iconst (v := 1) (pc := 368) C dX9_reckonAll_368 (by decide) ?_
        refine g_isub (pc := 369) C dX9_reckonAll_369 ?_
        obtain ⟨a2, hqa2, h9⟩ := zbind h
        clear h
        subst hqa2
        have h := h9
        clear h9
        obtain ⟨v3, hvv3, h⟩ := zbind h
        refine g_lald (pc := 370) C hvv3 dX9_reckonAll_370 ?_
        refine g_iload (pc := 371) C 5 dX9_reckonAll_371 rfl ?_
        refine g_bipush (v := 29) (pc := 373) C dX9_reckonAll_373 (by decide) ?_
        refine g_icmp_ne (pc := 375) C 382 dX9_reckonAll_375 (by decide) (fun c4 => ?_) (fun c4 => ?_)
        · have h := zif_f c4 h
          refine g_lconst (v := 1) (pc := 382) C dX9_reckonAll_382 (by decide) ?_
          refine g_sub [2, 3, 4, 0, 1] (lm' := [(0, tR (some (h0))), (2, tI (l2)), (3, tI (l3)), (4, tI (l4 + 1)), (6, tI (t0))]) rfl ?_
          exact w_X9_reckonAll_j383 hE C hxn e_400 _ _ _ _ _ _ _ _ _ _ h hI hO
        · have h := zif_t c4 h
          refine g_lconst (v := 0) (pc := 378) C dX9_reckonAll_378 (by decide) ?_
          refine g_goto (pc := 379) C 383 dX9_reckonAll_379 (by decide) ?_
          refine g_sub [2, 3, 4, 0, 1] (lm' := [(0, tR (some (h0))), (2, tI (l2)), (3, tI (l3)), (4, tI (l4 + 1)), (6, tI (t0))]) rfl ?_
          exact w_X9_reckonAll_j383 hE C hxn e_400 _ _ _ _ _ _ _ _ _ _ h hI hO
      · have h := zif_t c11 h
        refine g_aload_n (pc := 342) C 0 2 dX9_reckonAll_342 rfl rfl ?_
        obtain ⟨r5, hvr5, h⟩ := zbind h
        refine g_getR (N := 58) (pc := 343) C ck_9 hvr5 rfl rfl fl_X9_107 dX9_reckonAll_343 ?_
        refine g_iload_n (pc := 346) C 3 4 dX9_reckonAll_346 rfl rfl ?_
        refine g_iconst (v := 1) (pc := 347) C dX9_reckonAll_347 (by decide) ?_
        refine g_isub (pc := 348) C dX9_reckonAll_348 ?_
        refine g_lconst (v := 1) (pc := 349) C dX9_reckonAll_349 (by decide) ?_
        refine g_aload_n (pc := 350) C 0 2 dX9_reckonAll_350 rfl rfl ?_
        obtain ⟨r6, hvr6, h⟩ := zbind h
        refine g_getR (N := 58) (pc := 351) C ck_9 hvr6 rfl rfl fl_X9_107 dX9_reckonAll_351 ?_
        refine g_iload_n (pc := 354) C 3 4 dX9_reckonAll_354 rfl rfl ?_
        refine g_iconst (v := 1) (pc := 355) C dX9_reckonAll_355 (by decide) ?_
        refine g_isub (pc := 356) C dX9_reckonAll_356 ?_
        obtain ⟨a7, hqa7, h9⟩ := zbind h
        clear h
        subst hqa7
        have h := h9
        clear h9
        obtain ⟨v8, hvv8, h⟩ := zbind h
        refine g_lald (pc := 357) C hvv8 dX9_reckonAll_357 ?_
        refine g_lsub (pc := 358) C dX9_reckonAll_358 ?_
        obtain ⟨a9, hqa9, h9⟩ := zbind h
        clear h
        subst hqa9
        have h := h9
        clear h9
        obtain ⟨σ10, hvσ10, h⟩ := zbind h
        refine g_last (pc := 359) C hvσ10 dX9_reckonAll_359 ?_
        refine g_goto (pc := 360) C 397 dX9_reckonAll_360 (by decide) ?_
        refine g_sub [2, 3, 4, 0] (lm' := [(0, tR (some (h0))), (2, tI (l2)), (3, tI (l3)), (4, tI (l4 + 1))]) rfl ?_
        exact w_X9_reckonAll_j397 hE C hxn e_400 _ _ _ _ _ _ _ h hI hO
    · have h := zif_f c32 h
      refine g_iinc (lm' := [(3, tI (l3 + (-1))), (4, tI (l4 + 1)), (6, tI (t0)), (0, tR (some (h0))), (2, tI (l2)), (5, tI (l5))]) (v := l3 + (-1)) (pc := 265) C 4 dX9_reckonAll_265 rfl rfl (by decide) rfl ?_
      refine g_aload_n (pc := 268) C 0 3 dX9_reckonAll_268 rfl rfl ?_
      obtain ⟨r12, hvr12, h⟩ := zbind h
      refine g_getR (N := 58) (pc := 269) C ck_9 hvr12 rfl rfl fl_X9_107 dX9_reckonAll_269 ?_
      refine g_iload_n (pc := 272) C 3 0 dX9_reckonAll_272 rfl rfl ?_
      refine g_iconst (v := 1) (pc := 273) C dX9_reckonAll_273 (by decide) ?_
      refine g_isub (pc := 274) C dX9_reckonAll_274 ?_
      refine g_aload_n (pc := 275) C 0 3 dX9_reckonAll_275 rfl rfl ?_
      refine g_iload (pc := 276) C 5 dX9_reckonAll_276 rfl ?_
      refine g_aload_n (pc := 278) C 0 3 dX9_reckonAll_278 rfl rfl ?_
      obtain ⟨r13, hvr13, h⟩ := zbind h
      refine g_getR (N := 58) (pc := 279) C ck_9 hvr13 rfl rfl fl_X9_107 dX9_reckonAll_279 ?_
      refine g_iload_n (pc := 282) C 3 0 dX9_reckonAll_282 rfl rfl ?_
      refine g_iconst (v := 1) (pc := 283) C dX9_reckonAll_283 (by decide) ?_
      refine g_isub (pc := 284) C dX9_reckonAll_284 ?_
      obtain ⟨a14, hqa14, h9⟩ := zbind h
      clear h
      subst hqa14
      have h := h9
      clear h9
      obtain ⟨v15, hvv15, h⟩ := zbind h
      refine g_lald (pc := 285) C hvv15 dX9_reckonAll_285 ?_
      refine g_aload_n (pc := 286) C 0 3 dX9_reckonAll_286 rfl rfl ?_
      obtain ⟨r16, hvr16, h⟩ := zbind h
      refine g_getR (N := 58) (pc := 287) C ck_9 hvr16 rfl rfl fl_X9_107 dX9_reckonAll_287 ?_
      refine g_iload_n (pc := 290) C 3 0 dX9_reckonAll_290 rfl rfl ?_
      obtain ⟨a17, hqa17, h9⟩ := zbind h
      clear h
      subst hqa17
      have h := h9
      clear h9
      obtain ⟨v18, hvv18, h⟩ := zbind h
      refine g_lald (pc := 291) C hvv18 dX9_reckonAll_291 ?_
      obtain ⟨u19, hvu19, h⟩ := zbind h
      obtain ⟨v21, σ20, hvσ20, h⟩ := zcb h
      refine g_callV (pc := 292) (av := [tI (l5), tJ (v15), tJ (v18)]) C (c_X9_reckon hE hvσ20) yv_X9_reckon ml_X9_410 ck_9 (zopt hvu19).1 rfl (rf_of (by decide)) rfl (Nat.le_of_ble_eq_true rfl) dX9_reckonAll_292 ?_
      obtain ⟨a22, hqa22, h9⟩ := zbind h
      clear h
      subst hqa22
      have h := h9
      clear h9
      obtain ⟨σ23, hvσ23, h⟩ := zbind h
      refine g_last (pc := 295) C hvσ23 dX9_reckonAll_295 ?_
      refine g_aload_n (pc := 296) C 0 3 dX9_reckonAll_296 rfl rfl ?_
      refine g_aload_n (pc := 297) C 0 3 dX9_reckonAll_297 rfl rfl ?_
      obtain ⟨v24, hvv24, h⟩ := zbind h
      refine g_getI (N := 58) (pc := 298) C ck_9 hvv24 rfl rfl fl_X9_404 dX9_reckonAll_298 ?_
      refine g_if_ne (pc := 301) C 324 dX9_reckonAll_301 (by decide) (fun c31 => ?_) (fun c31 => ?_)
      · have h := zif_f c31 h
        refine g_sub [3, 4, 0, 1] (lm' := [(0, tR (some (h0))), (2, tI (l2)), (3, tI (l3 + (-1))), (4, tI (l4 + 1))]) rfl ?_
        exact w_X9_reckonAll_j324 hE C hxn e_400 _ _ _ _ _ _ _ _ h hI hO
      · have h := zif_t c31 h
        refine g_aload_n (pc := 304) C 0 3 dX9_reckonAll_304 rfl rfl ?_
        obtain ⟨r25, hvr25, h⟩ := zbind h
        refine g_getR (N := 58) (pc := 305) C ck_9 hvr25 rfl rfl fl_X9_107 dX9_reckonAll_305 ?_
        refine g_iload_n (pc := 308) C 3 0 dX9_reckonAll_308 rfl rfl ?_
        refine g_iconst (v := 1) (pc := 309) C dX9_reckonAll_309 (by decide) ?_
        refine g_isub (pc := 310) C dX9_reckonAll_310 ?_
        obtain ⟨a26, hqa26, h9⟩ := zbind h
        clear h
        subst hqa26
        have h := h9
        clear h9
        obtain ⟨v27, hvv27, h⟩ := zbind h
        refine g_lald (pc := 311) C hvv27 dX9_reckonAll_311 ?_
        refine g_ldc2 (v := (-1000000000)) (pc := 312) C dX9_reckonAll_312 kl_X9_414 ?_
        refine g_ldc2 (v := 1000000000) (pc := 315) C dX9_reckonAll_315 kl_X9_416 ?_
        obtain ⟨v29, σ28, hvσ28, h⟩ := zcb h
        refine g_callS (pc := 318) (av := [tJ (v27), tJ ((-1000000000)), tJ (1000000000)]) C (c_X9_in hE hvσ28) ys_X9_in ml_X9_181 rfl (rf_of (by decide)) rfl (Nat.le_of_ble_eq_true rfl) dX9_reckonAll_318 ?_
        refine g_if_ne (pc := 321) C 328 dX9_reckonAll_321 (by decide) (fun c30 => ?_) (fun c30 => ?_)
        · have h := zif_f c30 h
          refine g_iconst (v := 0) (pc := 328) C dX9_reckonAll_328 (by decide) ?_
          refine g_sub [3, 4, 0, 1] (lm' := [(0, tR (some (h0))), (2, tI (l2)), (3, tI (l3 + (-1))), (4, tI (l4 + 1))]) rfl ?_
          exact w_X9_reckonAll_j329 hE C hxn e_400 _ _ _ _ _ _ _ _ _ h hI hO
        · have h := zif_t c30 h
          refine g_sub [3, 4, 0, 1] (lm' := [(0, tR (some (h0))), (2, tI (l2)), (3, tI (l3 + (-1))), (4, tI (l4 + 1))]) rfl ?_
          exact w_X9_reckonAll_j324 hE C hxn e_400 _ _ _ _ _ _ _ _ h hI hO
  · have h := zif_f c67 h
    refine g_aload_n (pc := 107) C 0 2 dX9_reckonAll_107 rfl rfl ?_
    obtain ⟨r33, hvr33, h⟩ := zbind h
    refine g_getR (N := 58) (pc := 108) C ck_9 hvr33 rfl rfl fl_X9_107 dX9_reckonAll_108 ?_
    refine g_iload_n (pc := 111) C 3 4 dX9_reckonAll_111 rfl rfl ?_
    refine g_iload (pc := 112) C 5 dX9_reckonAll_112 rfl ?_
    refine g_if_ne (pc := 114) C 123 dX9_reckonAll_114 (by decide) (fun c66 => ?_) (fun c66 => ?_)
    · have h := zif_f c66 h
      refine g_aload_n (pc := 123) C 0 2 dX9_reckonAll_123 rfl rfl ?_
      obtain ⟨v34, hvv34, h⟩ := zbind h
      refine g_getI (N := 58) (pc := 124) C ck_9 hvv34 rfl rfl fl_X9_330 dX9_reckonAll_124 ?_
      refine g_if_ne (pc := 127) C 140 dX9_reckonAll_127 (by decide) (fun c65 => ?_) (fun c65 => ?_)
      · have h := zif_f c65 h
        refine g_iload (pc := 140) C 5 dX9_reckonAll_140 rfl ?_
        refine g_bipush (v := 6) (pc := 142) C dX9_reckonAll_142 (by decide) ?_
        refine g_icmp_ge (pc := 144) C 157 dX9_reckonAll_144 (by decide) (fun c61 => ?_) (fun c61 => ?_)
        · have h := zif_t c61 h
          refine g_iload (pc := 157) C 5 dX9_reckonAll_157 rfl ?_
          refine g_bipush (v := 6) (pc := 159) C dX9_reckonAll_159 (by decide) ?_
          refine g_icmp_ne (pc := 161) C 191 dX9_reckonAll_161 (by decide) (fun c57 => ?_) (fun c57 => ?_)
          · have h := zif_f c57 h
            refine g_iload (pc := 191) C 5 dX9_reckonAll_191 rfl ?_
            refine g_bipush (v := 7) (pc := 193) C dX9_reckonAll_193 (by decide) ?_
            refine g_icmp_ne (pc := 195) C 225 dX9_reckonAll_195 (by decide) (fun c49 => ?_) (fun c49 => ?_)
            · have h := zif_f c49 h
              refine g_aload_n (pc := 225) C 0 2 dX9_reckonAll_225 rfl rfl ?_
              refine g_iload (pc := 226) C 1 dX9_reckonAll_226 rfl ?_
              obtain ⟨u35, hvu35, h⟩ := zbind h
              obtain ⟨v37, σ36, hvσ36, h⟩ := zcb h
              refine g_callV (pc := 228) (av := [tI (t0)]) C (c_X9_isThing hE hvσ36) yv_X9_isThing ml_X9_218 ck_9 (zopt hvu35).1 rfl (rf_of (by decide)) rfl (Nat.le_of_ble_eq_true rfl) dX9_reckonAll_228 ?_
              refine g_if_eq (pc := 231) C 248 dX9_reckonAll_231 (by decide) (fun c41 => ?_) (fun c41 => ?_)
              · have h := zif_t c41 h
                refine g_ldc2 (v := (-1)) (pc := 248) C dX9_reckonAll_248 kl_X9_281 ?_
                refine g_sub [2, 3, 4, 0] (lm' := [(0, tR (some (h0))), (2, tI (l2)), (3, tI (l3)), (4, tI (l4 + 1))]) rfl ?_
                exact w_X9_reckonAll_j251 hE C hxn e_400 _ _ _ _ _ _ _ _ _ _ h hI hO
              · have h := zif_f c41 h
                refine g_aload_n (pc := 234) C 0 2 dX9_reckonAll_234 rfl rfl ?_
                obtain ⟨r38, hvr38, h⟩ := zbind h
                refine g_getR (N := 58) (pc := 235) C ck_9 hvr38 rfl rfl fl_X9_13 dX9_reckonAll_235 ?_
                refine g_bipush (v := 24) (pc := 238) C dX9_reckonAll_238 (by decide) ?_
                refine g_iload (pc := 240) C 1 dX9_reckonAll_240 rfl ?_
                refine g_iadd (pc := 242) C dX9_reckonAll_242 ?_
                obtain ⟨a39, hqa39, h9⟩ := zbind h
                clear h
                subst hqa39
                have h := h9
                clear h9
                obtain ⟨v40, hvv40, h⟩ := zbind h
                refine g_iald (pc := 243) C hvv40 dX9_reckonAll_243 ?_
                refine g_i2l (pc := 244) C dX9_reckonAll_244 ?_
                refine g_goto (pc := 245) C 251 dX9_reckonAll_245 (by decide) ?_
                refine g_sub [2, 3, 4, 0] (lm' := [(0, tR (some (h0))), (2, tI (l2)), (3, tI (l3)), (4, tI (l4 + 1))]) rfl ?_
                exact w_X9_reckonAll_j251 hE C hxn e_400 _ _ _ _ _ _ _ _ _ _ h hI hO
            · have h := zif_t c49 h
              refine g_aload_n (pc := 198) C 0 2 dX9_reckonAll_198 rfl rfl ?_
              refine g_iload (pc := 199) C 1 dX9_reckonAll_199 rfl ?_
              obtain ⟨u42, hvu42, h⟩ := zbind h
              obtain ⟨v44, σ43, hvσ43, h⟩ := zcb h
              refine g_callV (pc := 201) (av := [tI (t0)]) C (c_X9_isBadger hE hvσ43) yv_X9_isBadger ml_X9_212 ck_9 (zopt hvu42).1 rfl (rf_of (by decide)) rfl (Nat.le_of_ble_eq_true rfl) dX9_reckonAll_201 ?_
              refine g_if_eq (pc := 204) C 220 dX9_reckonAll_204 (by decide) (fun c48 => ?_) (fun c48 => ?_)
              · have h := zif_t c48 h
                refine g_iconst (v := (-1)) (pc := 220) C dX9_reckonAll_220 (by decide) ?_
                refine g_sub [2, 3, 4, 0] (lm' := [(0, tR (some (h0))), (2, tI (l2)), (3, tI (l3)), (4, tI (l4 + 1))]) rfl ?_
                exact w_X9_reckonAll_j221 hE C hxn e_400 _ _ _ _ _ _ _ _ _ _ h hI hO
              · have h := zif_f c48 h
                refine g_aload_n (pc := 207) C 0 2 dX9_reckonAll_207 rfl rfl ?_
                obtain ⟨r45, hvr45, h⟩ := zbind h
                refine g_getR (N := 58) (pc := 208) C ck_9 hvr45 rfl rfl fl_X9_13 dX9_reckonAll_208 ?_
                refine g_bipush (v := 21) (pc := 211) C dX9_reckonAll_211 (by decide) ?_
                refine g_iload (pc := 213) C 1 dX9_reckonAll_213 rfl ?_
                refine g_iadd (pc := 215) C dX9_reckonAll_215 ?_
                obtain ⟨a46, hqa46, h9⟩ := zbind h
                clear h
                subst hqa46
                have h := h9
                clear h9
                obtain ⟨v47, hvv47, h⟩ := zbind h
                refine g_iald (pc := 216) C hvv47 dX9_reckonAll_216 ?_
                refine g_goto (pc := 217) C 221 dX9_reckonAll_217 (by decide) ?_
                refine g_sub [2, 3, 4, 0] (lm' := [(0, tR (some (h0))), (2, tI (l2)), (3, tI (l3)), (4, tI (l4 + 1))]) rfl ?_
                exact w_X9_reckonAll_j221 hE C hxn e_400 _ _ _ _ _ _ _ _ _ _ h hI hO
          · have h := zif_t c57 h
            refine g_aload_n (pc := 164) C 0 2 dX9_reckonAll_164 rfl rfl ?_
            refine g_iload (pc := 165) C 1 dX9_reckonAll_165 rfl ?_
            obtain ⟨u50, hvu50, h⟩ := zbind h
            obtain ⟨v52, σ51, hvσ51, h⟩ := zcb h
            refine g_callV (pc := 167) (av := [tI (t0)]) C (c_X9_isFolk hE hvσ51) yv_X9_isFolk ml_X9_209 ck_9 (zopt hvu50).1 rfl (rf_of (by decide)) rfl (Nat.le_of_ble_eq_true rfl) dX9_reckonAll_167 ?_
            refine g_if_eq (pc := 170) C 186 dX9_reckonAll_170 (by decide) (fun c56 => ?_) (fun c56 => ?_)
            · have h := zif_t c56 h
              refine g_iconst (v := (-1)) (pc := 186) C dX9_reckonAll_186 (by decide) ?_
              refine g_sub [2, 3, 4, 0] (lm' := [(0, tR (some (h0))), (2, tI (l2)), (3, tI (l3)), (4, tI (l4 + 1))]) rfl ?_
              exact w_X9_reckonAll_j187 hE C hxn e_400 _ _ _ _ _ _ _ _ _ _ h hI hO
            · have h := zif_f c56 h
              refine g_aload_n (pc := 173) C 0 2 dX9_reckonAll_173 rfl rfl ?_
              obtain ⟨r53, hvr53, h⟩ := zbind h
              refine g_getR (N := 58) (pc := 174) C ck_9 hvr53 rfl rfl fl_X9_13 dX9_reckonAll_174 ?_
              refine g_bipush (v := 17) (pc := 177) C dX9_reckonAll_177 (by decide) ?_
              refine g_iload (pc := 179) C 1 dX9_reckonAll_179 rfl ?_
              refine g_iadd (pc := 181) C dX9_reckonAll_181 ?_
              obtain ⟨a54, hqa54, h9⟩ := zbind h
              clear h
              subst hqa54
              have h := h9
              clear h9
              obtain ⟨v55, hvv55, h⟩ := zbind h
              refine g_iald (pc := 182) C hvv55 dX9_reckonAll_182 ?_
              refine g_goto (pc := 183) C 187 dX9_reckonAll_183 (by decide) ?_
              refine g_sub [2, 3, 4, 0] (lm' := [(0, tR (some (h0))), (2, tI (l2)), (3, tI (l3)), (4, tI (l4 + 1))]) rfl ?_
              exact w_X9_reckonAll_j187 hE C hxn e_400 _ _ _ _ _ _ _ _ _ _ h hI hO
        · have h := zif_f c61 h
          refine g_aload_n (pc := 147) C 0 2 dX9_reckonAll_147 rfl rfl ?_
          obtain ⟨r58, hvr58, h⟩ := zbind h
          refine g_getR (N := 58) (pc := 148) C ck_9 hvr58 rfl rfl fl_X9_104 dX9_reckonAll_148 ?_
          refine g_iload (pc := 151) C 5 dX9_reckonAll_151 rfl ?_
          obtain ⟨a59, hqa59, h9⟩ := zbind h
          clear h
          subst hqa59
          have h := h9
          clear h9
          obtain ⟨v60, hvv60, h⟩ := zbind h
          refine g_lald (pc := 153) C hvv60 dX9_reckonAll_153 ?_
          refine g_goto (pc := 154) C 251 dX9_reckonAll_154 (by decide) ?_
          refine g_sub [2, 3, 4, 0] (lm' := [(0, tR (some (h0))), (2, tI (l2)), (3, tI (l3)), (4, tI (l4 + 1))]) rfl ?_
          exact w_X9_reckonAll_j251 hE C hxn e_400 _ _ _ _ _ _ _ _ _ _ h hI hO
      · have h := zif_t c65 h
        refine g_aload_n (pc := 130) C 0 2 dX9_reckonAll_130 rfl rfl ?_
        obtain ⟨r62, hvr62, h⟩ := zbind h
        refine g_getR (N := 58) (pc := 131) C ck_9 hvr62 rfl rfl fl_X9_101 dX9_reckonAll_131 ?_
        refine g_iload (pc := 134) C 5 dX9_reckonAll_134 rfl ?_
        obtain ⟨a63, hqa63, h9⟩ := zbind h
        clear h
        subst hqa63
        have h := h9
        clear h9
        obtain ⟨v64, hvv64, h⟩ := zbind h
        refine g_lald (pc := 136) C hvv64 dX9_reckonAll_136 ?_
        refine g_goto (pc := 137) C 251 dX9_reckonAll_137 (by decide) ?_
        refine g_sub [2, 3, 4, 0] (lm' := [(0, tR (some (h0))), (2, tI (l2)), (3, tI (l3)), (4, tI (l4 + 1))]) rfl ?_
        exact w_X9_reckonAll_j251 hE C hxn e_400 _ _ _ _ _ _ _ _ _ _ h hI hO
    · have h := zif_t c66 h
      refine g_iload (pc := 117) C 1 dX9_reckonAll_117 rfl ?_
      refine g_i2l (pc := 119) C dX9_reckonAll_119 ?_
      refine g_goto (pc := 120) C 251 dX9_reckonAll_120 (by decide) ?_
      refine g_sub [2, 3, 4, 0] (lm' := [(0, tR (some (h0))), (2, tI (l2)), (3, tI (l3)), (4, tI (l4 + 1))]) rfl ?_
      exact w_X9_reckonAll_j251 hE C hxn e_400 _ _ _ _ _ _ _ _ _ _ h hI hO
noncomputable def s_X9_reckonAll_j57 (h0 : Nat) (l2 : Int32) (l3 : Int32) (l4 : Int32) (t0 : Int32) (σ : Hp) : Option (((Nat × Int32 × Int32 × Int32) ⊕ ((Nat × Int32))) × Hp) :=
  (rdI 9 σ h0 20).bind fun v1 =>
  if v1 = 0 then
    (rdR 9 σ h0 3).bind fun r2 =>
    (rdI 9 σ h0 34).bind fun v3 =>
    (r2).bind fun a4 =>
    (ldI 11 σ a4 (((v3 + 98) + (2 * l4)) + 1)).bind fun v5 =>
    s_X9_reckonAll_j95 (h0) (l2) (l3) (l4) (t0) (v5) σ
  else
    (rdR 9 σ h0 25).bind fun r6 =>
    (r6).bind fun a7 =>
    (ldI 11 σ a7 (l4)).bind fun v8 =>
    s_X9_reckonAll_j95 (h0) (l2) (l3) (l4) (t0) (v8) σ
set_option maxRecDepth 100000 in
theorem w_X9_reckonAll_j57 {E : E0} (hE : EOK E) {X : X0} (C : XOK E X cX9_reckonAll RX9 7 none rm_X9_reckonAll) (hxn : xn X = (rm_X9_reckonAll.cells, rm_X9_reckonAll.slots)) {KE : ((Nat × Int32)) → Hp → Prop} (e_400 : ∀ (h0 : Nat) (l3 : Int32) (σ : Hp), KE ((h0, l3)) σ → G E X 0 0 400 [(0, tR (some (h0))), (3, tI (l3))] [] σ) (h0 : Nat) (l2 : Int32) (l3 : Int32) (l4 : Int32) (t0 : Int32) (σ : Hp) (x : (Nat × Int32 × Int32 × Int32) ⊕ ((Nat × Int32))) (σ1 : Hp) (h : s_X9_reckonAll_j57 h0 l2 l3 l4 t0 σ = some (x, σ1)) (hI : ∀ v, x = Sum.inl v → (fun (v : Nat × Int32 × Int32 × Int32) (σ : Hp) => G E X 0 0 10 [(0, tR (some ((v.1)))), (2, tI ((v.2.1))), (3, tI ((v.2.2.1))), (4, tI ((v.2.2.2)))] [] σ) v σ1) (hO : ∀ e, x = Sum.inr e → KE e σ1) : G E X 0 0 57 [(0, tR (some (h0))), (2, tI (l2)), (3, tI (l3)), (4, tI (l4))] [tI (t0)] σ := by
  unfold s_X9_reckonAll_j57 at h
  refine g_istore (lm' := [(5, tI (t0)), (0, tR (some (h0))), (2, tI (l2)), (3, tI (l3)), (4, tI (l4))]) (pc := 57) C dX9_reckonAll_57 (by decide) rfl ?_
  refine g_aload_n (pc := 59) C 0 1 dX9_reckonAll_59 rfl rfl ?_
  obtain ⟨v1, hvv1, h⟩ := zbind h
  refine g_getI (N := 58) (pc := 60) C ck_9 hvv1 rfl rfl fl_X9_330 dX9_reckonAll_60 ?_
  refine g_if_eq (pc := 63) C 76 dX9_reckonAll_63 (by decide) (fun c9 => ?_) (fun c9 => ?_)
  · have h := zif_t c9 h
    refine g_aload_n (pc := 76) C 0 1 dX9_reckonAll_76 rfl rfl ?_
    obtain ⟨r2, hvr2, h⟩ := zbind h
    refine g_getR (N := 58) (pc := 77) C ck_9 hvr2 rfl rfl fl_X9_13 dX9_reckonAll_77 ?_
    refine g_aload_n (pc := 80) C 0 1 dX9_reckonAll_80 rfl rfl ?_
    obtain ⟨v3, hvv3, h⟩ := zbind h
    refine g_getI (N := 58) (pc := 81) C ck_9 hvv3 rfl rfl fl_X9_407 dX9_reckonAll_81 ?_
    refine g_bipush (v := 98) (pc := 84) C dX9_reckonAll_84 (by decide) ?_
    refine g_iadd (pc := 86) C dX9_reckonAll_86 ?_
    refine g_iconst (v := 2) (pc := 87) C dX9_reckonAll_87 (by decide) ?_
    refine g_iload (pc := 88) C 4 dX9_reckonAll_88 rfl ?_
    refine g_imul (pc := 90) C dX9_reckonAll_90 ?_
    refine g_iadd (pc := 91) C dX9_reckonAll_91 ?_
    refine g_iconst (v := 1) (pc := 92) C dX9_reckonAll_92 (by decide) ?_
    refine g_iadd (pc := 93) C dX9_reckonAll_93 ?_
    obtain ⟨a4, hqa4, h9⟩ := zbind h
    clear h
    subst hqa4
    have h := h9
    clear h9
    obtain ⟨v5, hvv5, h⟩ := zbind h
    refine g_iald (pc := 94) C hvv5 dX9_reckonAll_94 ?_
    refine g_sub [1, 2, 3, 4, 0] (lm' := [(0, tR (some (h0))), (2, tI (l2)), (3, tI (l3)), (4, tI (l4)), (5, tI (t0))]) rfl ?_
    exact w_X9_reckonAll_j95 hE C hxn e_400 _ _ _ _ _ _ _ _ _ h hI hO
  · have h := zif_f c9 h
    refine g_aload_n (pc := 66) C 0 1 dX9_reckonAll_66 rfl rfl ?_
    obtain ⟨r6, hvr6, h⟩ := zbind h
    refine g_getR (N := 58) (pc := 67) C ck_9 hvr6 rfl rfl fl_X9_48 dX9_reckonAll_67 ?_
    refine g_iload (pc := 70) C 4 dX9_reckonAll_70 rfl ?_
    obtain ⟨a7, hqa7, h9⟩ := zbind h
    clear h
    subst hqa7
    have h := h9
    clear h9
    obtain ⟨v8, hvv8, h⟩ := zbind h
    refine g_iald (pc := 72) C hvv8 dX9_reckonAll_72 ?_
    refine g_goto (pc := 73) C 95 dX9_reckonAll_73 (by decide) ?_
    refine g_sub [1, 2, 3, 4, 0] (lm' := [(0, tR (some (h0))), (2, tI (l2)), (3, tI (l3)), (4, tI (l4)), (5, tI (t0))]) rfl ?_
    exact w_X9_reckonAll_j95 hE C hxn e_400 _ _ _ _ _ _ _ _ _ h hI hO
noncomputable def s_X9_reckonAll_b10 (h0 : Nat) (l2 : Int32) (l3 : Int32) (l4 : Int32) (σ : Hp) : Option (((Nat × Int32 × Int32 × Int32) ⊕ ((Nat × Int32))) × Hp) :=
  if l2 ≤ l4 then
    some (Sum.inr ((h0), (l3)), σ)
  else
    (rdI 9 σ h0 38).bind fun v1 =>
    if v1 = 0 then
      (rdI 9 σ h0 20).bind fun v2 =>
      if v2 = 0 then
        (rdR 9 σ h0 3).bind fun r3 =>
        (rdI 9 σ h0 34).bind fun v4 =>
        (r3).bind fun a5 =>
        (ldI 11 σ a5 ((v4 + 98) + (2 * l4))).bind fun v6 =>
        s_X9_reckonAll_j57 (h0) (l2) (l3) (l4) (v6) σ
      else
        (rdR 9 σ h0 24).bind fun r7 =>
        (r7).bind fun a8 =>
        (ldI 11 σ a8 (l4)).bind fun v9 =>
        s_X9_reckonAll_j57 (h0) (l2) (l3) (l4) (v9) σ
    else
      some (Sum.inr ((h0), (l3)), σ)
noncomputable def s_X9_reckonAll_l10 : (Nat × Int32 × Int32 × Int32) → Hp → Option (((Nat × Int32)) × Hp) := loopF (fun v => s_X9_reckonAll_b10 (v.1) (v.2.1) (v.2.2.1) (v.2.2.2))
set_option maxRecDepth 100000 in
theorem w_X9_reckonAll_b10 {E : E0} (hE : EOK E) {X : X0} (C : XOK E X cX9_reckonAll RX9 7 none rm_X9_reckonAll) (hxn : xn X = (rm_X9_reckonAll.cells, rm_X9_reckonAll.slots)) {KE : ((Nat × Int32)) → Hp → Prop} (e_400 : ∀ (h0 : Nat) (l3 : Int32) (σ : Hp), KE ((h0, l3)) σ → G E X 0 0 400 [(0, tR (some (h0))), (3, tI (l3))] [] σ) (h0 : Nat) (l2 : Int32) (l3 : Int32) (l4 : Int32) (σ : Hp) (x : (Nat × Int32 × Int32 × Int32) ⊕ ((Nat × Int32))) (σ1 : Hp) (h : s_X9_reckonAll_b10 h0 l2 l3 l4 σ = some (x, σ1)) (hI : ∀ v, x = Sum.inl v → (fun (v : Nat × Int32 × Int32 × Int32) (σ : Hp) => G E X 0 0 10 [(0, tR (some ((v.1)))), (2, tI ((v.2.1))), (3, tI ((v.2.2.1))), (4, tI ((v.2.2.2)))] [] σ) v σ1) (hO : ∀ e, x = Sum.inr e → KE e σ1) : G E X 0 0 10 [(0, tR (some (h0))), (2, tI (l2)), (3, tI (l3)), (4, tI (l4))] [] σ := by
  unfold s_X9_reckonAll_b10 at h
  refine g_iload (pc := 10) C 3 dX9_reckonAll_10 rfl ?_
  refine g_iload_n (pc := 12) C 2 1 dX9_reckonAll_12 rfl rfl ?_
  refine g_icmp_ge (pc := 13) C 400 dX9_reckonAll_13 (by decide) (fun c12 => ?_) (fun c12 => ?_)
  · have h := zif_t c12 h
    refine g_sub [0, 2] (lm' := [(0, tR (some (h0))), (3, tI (l3))]) rfl ?_
    obtain ⟨rfl, rfl⟩ := zsome h
    exact e_400 _ _ _ (hO _ rfl)
  · have h := zif_f c12 h
    refine g_aload_n (pc := 16) C 0 0 dX9_reckonAll_16 rfl rfl ?_
    obtain ⟨v1, hvv1, h⟩ := zbind h
    refine g_getI (N := 58) (pc := 17) C ck_9 hvv1 rfl rfl fl_X9_404 dX9_reckonAll_17 ?_
    refine g_if_ne (pc := 20) C 400 dX9_reckonAll_20 (by decide) (fun c11 => ?_) (fun c11 => ?_)
    · have h := zif_f c11 h
      refine g_sub [0, 2] (lm' := [(0, tR (some (h0))), (3, tI (l3))]) rfl ?_
      obtain ⟨rfl, rfl⟩ := zsome h
      exact e_400 _ _ _ (hO _ rfl)
    · have h := zif_t c11 h
      refine g_aload_n (pc := 23) C 0 0 dX9_reckonAll_23 rfl rfl ?_
      obtain ⟨v2, hvv2, h⟩ := zbind h
      refine g_getI (N := 58) (pc := 24) C ck_9 hvv2 rfl rfl fl_X9_330 dX9_reckonAll_24 ?_
      refine g_if_eq (pc := 27) C 40 dX9_reckonAll_27 (by decide) (fun c10 => ?_) (fun c10 => ?_)
      · have h := zif_t c10 h
        refine g_aload_n (pc := 40) C 0 0 dX9_reckonAll_40 rfl rfl ?_
        obtain ⟨r3, hvr3, h⟩ := zbind h
        refine g_getR (N := 58) (pc := 41) C ck_9 hvr3 rfl rfl fl_X9_13 dX9_reckonAll_41 ?_
        refine g_aload_n (pc := 44) C 0 0 dX9_reckonAll_44 rfl rfl ?_
        obtain ⟨v4, hvv4, h⟩ := zbind h
        refine g_getI (N := 58) (pc := 45) C ck_9 hvv4 rfl rfl fl_X9_407 dX9_reckonAll_45 ?_
        refine g_bipush (v := 98) (pc := 48) C dX9_reckonAll_48 (by decide) ?_
        refine g_iadd (pc := 50) C dX9_reckonAll_50 ?_
        refine g_iconst (v := 2) (pc := 51) C dX9_reckonAll_51 (by decide) ?_
        refine g_iload (pc := 52) C 3 dX9_reckonAll_52 rfl ?_
        refine g_imul (pc := 54) C dX9_reckonAll_54 ?_
        refine g_iadd (pc := 55) C dX9_reckonAll_55 ?_
        obtain ⟨a5, hqa5, h9⟩ := zbind h
        clear h
        subst hqa5
        have h := h9
        clear h9
        obtain ⟨v6, hvv6, h⟩ := zbind h
        refine g_iald (pc := 56) C hvv6 dX9_reckonAll_56 ?_
        exact w_X9_reckonAll_j57 hE C hxn e_400 _ _ _ _ _ _ _ _ h hI hO
      · have h := zif_f c10 h
        refine g_aload_n (pc := 30) C 0 0 dX9_reckonAll_30 rfl rfl ?_
        obtain ⟨r7, hvr7, h⟩ := zbind h
        refine g_getR (N := 58) (pc := 31) C ck_9 hvr7 rfl rfl fl_X9_45 dX9_reckonAll_31 ?_
        refine g_iload (pc := 34) C 3 dX9_reckonAll_34 rfl ?_
        obtain ⟨a8, hqa8, h9⟩ := zbind h
        clear h
        subst hqa8
        have h := h9
        clear h9
        obtain ⟨v9, hvv9, h⟩ := zbind h
        refine g_iald (pc := 36) C hvv9 dX9_reckonAll_36 ?_
        refine g_goto (pc := 37) C 57 dX9_reckonAll_37 (by decide) ?_
        exact w_X9_reckonAll_j57 hE C hxn e_400 _ _ _ _ _ _ _ _ h hI hO
theorem w_X9_reckonAll_l10 {E : E0} (hE : EOK E) {X : X0} (C : XOK E X cX9_reckonAll RX9 7 none rm_X9_reckonAll) (hxn : xn X = (rm_X9_reckonAll.cells, rm_X9_reckonAll.slots)) {KE : ((Nat × Int32)) → Hp → Prop} (e_400 : ∀ (h0 : Nat) (l3 : Int32) (σ : Hp), KE ((h0, l3)) σ → G E X 0 0 400 [(0, tR (some (h0))), (3, tI (l3))] [] σ) {v : Nat × Int32 × Int32 × Int32} {σ : Hp} {e : (Nat × Int32)} {σ1 : Hp} (h : s_X9_reckonAll_l10 v σ = some (e, σ1)) (hO : KE e σ1) : G E X 0 0 10 [(0, tR (some ((v.1)))), (2, tI ((v.2.1))), (3, tI ((v.2.2.1))), (4, tI ((v.2.2.2)))] [] σ := loopF_ind (P := fun (v : Nat × Int32 × Int32 × Int32) (σ : Hp) => G E X 0 0 10 [(0, tR (some ((v.1)))), (2, tI ((v.2.1))), (3, tI ((v.2.2.1))), (4, tI ((v.2.2.2)))] [] σ) (KE := KE) (fun v σ x σ1 h hI hO => w_X9_reckonAll_b10 hE C hxn e_400 (v.1) (v.2.1) (v.2.2.1) (v.2.2.2) σ x σ1 h hI hO) v σ e σ1 h hO
noncomputable def s_X9_reckonAll_j400 (h0 : Nat) (l3 : Int32) (σ : Hp) : Option (Unit × Hp) :=
  if l3 ≤ 0 then
    (wrJ 9 σ h0 39 (0)).bind fun σ1 =>
    some ((), σ1)
  else
    (rdR 9 σ h0 37).bind fun r2 =>
    (r2).bind fun a3 =>
    (ldJ σ a3 (0)).bind fun v4 =>
    (wrJ 9 σ h0 39 (v4)).bind fun σ5 =>
    some ((), σ5)
set_option maxRecDepth 100000 in
theorem w_X9_reckonAll_j400 {E : E0} (hE : EOK E) {X : X0} (C : XOK E X cX9_reckonAll RX9 7 none rm_X9_reckonAll) (hxn : xn X = (rm_X9_reckonAll.cells, rm_X9_reckonAll.slots)) (h0 : Nat) (l3 : Int32) (σ : Hp) (r : Unit) (σ1 : Hp) (h : s_X9_reckonAll_j400 h0 l3 σ = some (r, σ1)) (hx : xd X = (none, σ1)) : G E X 0 0 400 [(0, tR (some (h0))), (3, tI (l3))] [] σ := by
  unfold s_X9_reckonAll_j400 at h
  refine g_aload_n (pc := 400) C 0 0 dX9_reckonAll_400 rfl rfl ?_
  refine g_iload_n (pc := 401) C 3 1 dX9_reckonAll_401 rfl rfl ?_
  refine g_if_le (pc := 402) C 414 dX9_reckonAll_402 (by decide) (fun c6 => ?_) (fun c6 => ?_)
  · have h := zif_t c6 h
    refine g_lconst (v := 0) (pc := 414) C dX9_reckonAll_414 (by decide) ?_
    obtain ⟨σ1, hvσ1, h⟩ := zbind h
    refine g_putJ (N := 58) (pc := 415) C ⟨ck_9, rfl, tyX9_ok⟩ hvσ1 rfl fl_X9_418 rfl rfl dX9_reckonAll_415 ?_
    obtain ⟨rfl, rfl⟩ := zsome h
    exact g_vret (pc := 418) C rfl hx (by rw [hxn]; rfl) (by rw [hxn]; rfl) dX9_reckonAll_418
  · have h := zif_f c6 h
    refine g_aload_n (pc := 405) C 0 0 dX9_reckonAll_405 rfl rfl ?_
    obtain ⟨r2, hvr2, h⟩ := zbind h
    refine g_getR (N := 58) (pc := 406) C ck_9 hvr2 rfl rfl fl_X9_107 dX9_reckonAll_406 ?_
    refine g_iconst (v := 0) (pc := 409) C dX9_reckonAll_409 (by decide) ?_
    obtain ⟨a3, hqa3, h9⟩ := zbind h
    clear h
    subst hqa3
    have h := h9
    clear h9
    obtain ⟨v4, hvv4, h⟩ := zbind h
    refine g_lald (pc := 410) C hvv4 dX9_reckonAll_410 ?_
    refine g_goto (pc := 411) C 415 dX9_reckonAll_411 (by decide) ?_
    obtain ⟨σ5, hvσ5, h⟩ := zbind h
    refine g_putJ (N := 58) (pc := 415) C ⟨ck_9, rfl, tyX9_ok⟩ hvσ5 rfl fl_X9_418 rfl rfl dX9_reckonAll_415 ?_
    obtain ⟨rfl, rfl⟩ := zsome h
    exact g_vret (pc := 418) C rfl hx (by rw [hxn]; rfl) (by rw [hxn]; rfl) dX9_reckonAll_418
noncomputable def s_X9_reckonAll (h0 : Nat) (p1 : Int32) (p2 : Int32) (σ : Hp) : Option (Unit × Hp) :=
  (wrZ 9 σ h0 38 (0)).bind fun σ1 =>
  cb (s_X9_reckonAll_l10 ((h0), (p2), (0), (p1)) σ1) fun e7 σ6 =>
  match e7 with
  | (h2, l33) =>
    s_X9_reckonAll_j400 (h2) (l33) σ6
set_option maxRecDepth 100000 in
theorem c_X9_reckonAll {E : E0} (hE : EOK E) {h0 : Nat} {p1 : Int32} {p2 : Int32} {σ σ1 : Hp} {r : Unit} (h : s_X9_reckonAll h0 p1 p2 σ = some (r, σ1)) : CT E yX9_reckonAll (.code yX9_reckonAll cX9_reckonAll 7 none) rm_X9_reckonAll [tR (some (h0)), tI (p1), tI (p2)] σ none σ1 := by
  refine CT.mk hE (by decide +kernel) (Nat.le_of_ble_eq_true rfl) [(0, tR (some (h0))), (1, tI (p1)), (2, tI (p2))] rfl (fun X C hin hx hxn => ?_)
  have C : XOK E X cX9_reckonAll RX9 7 none rm_X9_reckonAll := C
  unfold s_X9_reckonAll at h
  refine g_aload_n (pc := 0) C 0 0 dX9_reckonAll_0 rfl rfl ?_
  refine g_iconst (v := 0) (pc := 1) C dX9_reckonAll_1 (by decide) ?_
  obtain ⟨σ1, hvσ1, h⟩ := zbind h
  refine g_putZ (N := 58) (pc := 2) C ⟨ck_9, rfl, tyX9_ok⟩ hvσ1 rfl fl_X9_404 rfl rfl dX9_reckonAll_2 ?_
  refine g_iconst (v := 0) (pc := 5) C dX9_reckonAll_5 (by decide) ?_
  refine g_istore_n (lm' := [(3, tI (0)), (0, tR (some (h0))), (1, tI (p1)), (2, tI (p2))]) (pc := 6) C 3 dX9_reckonAll_6 rfl (by decide) rfl ?_
  refine g_iload_n (pc := 7) C 1 2 dX9_reckonAll_7 rfl rfl ?_
  refine g_istore (lm' := [(4, tI (p1)), (3, tI (0)), (0, tR (some (h0))), (1, tI (p1)), (2, tI (p2))]) (pc := 8) C dX9_reckonAll_8 (by decide) rfl ?_
  refine g_sub [2, 4, 1, 0] (lm' := [(0, tR (some (h0))), (2, tI (p2)), (3, tI (0)), (4, tI (p1))]) rfl ?_
  obtain ⟨KQ, hKQ, e7, σ6, hle7, h⟩ := zcbK h
  refine w_X9_reckonAll_l10 (KE := KQ) hE C hxn ?_ hle7 h
  · intro h2 l33 σ4 h
    have h := (hKQ _ _).mp h
    exact w_X9_reckonAll_j400 hE C hxn _ _ _ _ _ h hx
def rm_X9_isSo : Room := { frames := 3, cells := 0, slots := 0, locals := 72 }
noncomputable def s_X9_isSo_j59 (h0 : Nat) (l1 : Int32) (σ : Hp) : Option (Int32 × Hp) :=
  (rdR 9 σ h0 3).bind fun r1 =>
  (r1).bind fun a2 =>
  (ldI 11 σ a2 (l1)).bind fun v3 =>
  if v3 = 2 then
    some ((1), σ)
  else
    (rdR 9 σ h0 3).bind fun r4 =>
    (r4).bind fun a5 =>
    (ldI 11 σ a5 (l1 + 3)).bind fun v6 =>
    (rdR 9 σ h0 3).bind fun r7 =>
    (r7).bind fun a8 =>
    (ldI 11 σ a8 (l1 + 4)).bind fun v9 =>
    (ck 9 σ h0).bind fun u10 =>
    cb (s_X9_reckonAll h0 (v6) (v9) σ) fun v12 σ11 =>
    (rdJ 9 σ11 h0 39).bind fun v13 =>
    (wrJ 9 σ11 h0 40 (v13)).bind fun σ14 =>
    (rdI 9 σ14 h0 38).bind fun v15 =>
    if v15 = 0 then
      some ((1), σ14)
    else
      some ((0), σ14)
set_option maxRecDepth 100000 in
theorem w_X9_isSo_j59 {E : E0} (hE : EOK E) {X : X0} (C : XOK E X cX9_isSo RX9 2 (some .boolean) rm_X9_isSo) (hxn : xn X = (rm_X9_isSo.cells, rm_X9_isSo.slots)) (h0 : Nat) (l1 : Int32) (σ : Hp) (r : Int32) (σ1 : Hp) (h : s_X9_isSo_j59 h0 l1 σ = some (r, σ1)) (hx : xd X = (some (tI r), σ1)) : G E X 0 0 59 [(0, tR (some (h0))), (1, tI (l1))] [] σ := by
  unfold s_X9_isSo_j59 at h
  refine g_aload_n (pc := 59) C 0 0 dX9_isSo_59 rfl rfl ?_
  obtain ⟨r1, hvr1, h⟩ := zbind h
  refine g_getR (N := 58) (pc := 60) C ck_9 hvr1 rfl rfl fl_X9_13 dX9_isSo_60 ?_
  refine g_iload_n (pc := 63) C 1 1 dX9_isSo_63 rfl rfl ?_
  obtain ⟨a2, hqa2, h9⟩ := zbind h
  clear h
  subst hqa2
  have h := h9
  clear h9
  obtain ⟨v3, hvv3, h⟩ := zbind h
  refine g_iald (pc := 64) C hvv3 dX9_isSo_64 ?_
  refine g_iconst (v := 2) (pc := 65) C dX9_isSo_65 (by decide) ?_
  refine g_icmp_eq (pc := 66) C 110 dX9_isSo_66 (by decide) (fun c17 => ?_) (fun c17 => ?_)
  · have h := zif_t c17 h
    refine g_iconst (v := 1) (pc := 110) C dX9_isSo_110 (by decide) ?_
    obtain ⟨rfl, rfl⟩ := zsome h
    exact g_zret (pc := 111) C rfl hx (by decide) (by rw [hxn]; rfl) (by rw [hxn]; rfl) dX9_isSo_111
  · have h := zif_f c17 h
    refine g_aload_n (pc := 69) C 0 0 dX9_isSo_69 rfl rfl ?_
    refine g_aload_n (pc := 70) C 0 0 dX9_isSo_70 rfl rfl ?_
    obtain ⟨r4, hvr4, h⟩ := zbind h
    refine g_getR (N := 58) (pc := 71) C ck_9 hvr4 rfl rfl fl_X9_13 dX9_isSo_71 ?_
    refine g_iload_n (pc := 74) C 1 1 dX9_isSo_74 rfl rfl ?_
    refine g_iconst (v := 3) (pc := 75) C dX9_isSo_75 (by decide) ?_
    refine g_iadd (pc := 76) C dX9_isSo_76 ?_
    obtain ⟨a5, hqa5, h9⟩ := zbind h
    clear h
    subst hqa5
    have h := h9
    clear h9
    obtain ⟨v6, hvv6, h⟩ := zbind h
    refine g_iald (pc := 77) C hvv6 dX9_isSo_77 ?_
    refine g_aload_n (pc := 78) C 0 0 dX9_isSo_78 rfl rfl ?_
    obtain ⟨r7, hvr7, h⟩ := zbind h
    refine g_getR (N := 58) (pc := 79) C ck_9 hvr7 rfl rfl fl_X9_13 dX9_isSo_79 ?_
    refine g_iload_n (pc := 82) C 1 1 dX9_isSo_82 rfl rfl ?_
    refine g_iconst (v := 4) (pc := 83) C dX9_isSo_83 (by decide) ?_
    refine g_iadd (pc := 84) C dX9_isSo_84 ?_
    obtain ⟨a8, hqa8, h9⟩ := zbind h
    clear h
    subst hqa8
    have h := h9
    clear h9
    obtain ⟨v9, hvv9, h⟩ := zbind h
    refine g_iald (pc := 85) C hvv9 dX9_isSo_85 ?_
    obtain ⟨u10, hvu10, h⟩ := zbind h
    obtain ⟨v12, σ11, hvσ11, h⟩ := zcb h
    refine g_callV (pc := 86) (av := [tI (v6), tI (v9)]) C (c_X9_reckonAll hE hvσ11) yv_X9_reckonAll ml_X9_421 ck_9 (zopt hvu10).1 rfl (rf_of (by decide)) rfl (Nat.le_of_ble_eq_true rfl) dX9_isSo_86 ?_
    refine g_aload_n (pc := 89) C 0 0 dX9_isSo_89 rfl rfl ?_
    refine g_aload_n (pc := 90) C 0 0 dX9_isSo_90 rfl rfl ?_
    obtain ⟨v13, hvv13, h⟩ := zbind h
    refine g_getJ (N := 58) (pc := 91) C ck_9 hvv13 rfl rfl fl_X9_418 dX9_isSo_91 ?_
    obtain ⟨σ14, hvσ14, h⟩ := zbind h
    refine g_putJ (N := 58) (pc := 94) C ⟨ck_9, rfl, tyX9_ok⟩ hvσ14 rfl fl_X9_424 rfl rfl dX9_isSo_94 ?_
    refine g_aload_n (pc := 97) C 0 0 dX9_isSo_97 rfl rfl ?_
    obtain ⟨v15, hvv15, h⟩ := zbind h
    refine g_getI (N := 58) (pc := 98) C ck_9 hvv15 rfl rfl fl_X9_404 dX9_isSo_98 ?_
    refine g_if_ne (pc := 101) C 108 dX9_isSo_101 (by decide) (fun c16 => ?_) (fun c16 => ?_)
    · have h := zif_f c16 h
      refine g_iconst (v := 0) (pc := 108) C dX9_isSo_108 (by decide) ?_
      obtain ⟨rfl, rfl⟩ := zsome h
      exact g_zret (pc := 109) C rfl hx (by decide) (by rw [hxn]; rfl) (by rw [hxn]; rfl) dX9_isSo_109
    · have h := zif_t c16 h
      refine g_iconst (v := 1) (pc := 104) C dX9_isSo_104 (by decide) ?_
      refine g_goto (pc := 105) C 109 dX9_isSo_105 (by decide) ?_
      obtain ⟨rfl, rfl⟩ := zsome h
      exact g_zret (pc := 109) C rfl hx (by decide) (by rw [hxn]; rfl) (by rw [hxn]; rfl) dX9_isSo_109
noncomputable def s_X9_isSo (h0 : Nat) (p1 : Int32) (σ : Hp) : Option (Int32 × Hp) :=
  (rdR 9 σ h0 3).bind fun r1 =>
  (r1).bind fun a2 =>
  (ldI 11 σ a2 (p1 + 5)).bind fun v3 =>
  (rdR 9 σ h0 3).bind fun r4 =>
  (r4).bind fun a5 =>
  (ldI 11 σ a5 (p1 + 6)).bind fun v6 =>
  if v6 ≤ v3 then
    s_X9_isSo_j59 (h0) (p1) σ
  else
    (rdR 9 σ h0 3).bind fun r7 =>
    (r7).bind fun a8 =>
    (ldI 11 σ a8 (p1 + 5)).bind fun v9 =>
    (rdR 9 σ h0 3).bind fun r10 =>
    (r10).bind fun a11 =>
    (ldI 11 σ a11 (p1 + 6)).bind fun v12 =>
    (ck 9 σ h0).bind fun u13 =>
    cb (s_X9_reckonAll h0 (v9) (v12) σ) fun v15 σ14 =>
    (rdI 9 σ14 h0 38).bind fun v16 =>
    if v16 = 0 then
      (rdJ 9 σ14 h0 39).bind fun v17 =>
      if (lg_cmp (v17 : Int64) (0 : Int64)) = 0 then
        some ((0), σ14)
      else
        s_X9_isSo_j59 (h0) (p1) σ14
    else
      some ((0), σ14)
set_option maxRecDepth 100000 in
theorem c_X9_isSo {E : E0} (hE : EOK E) {h0 : Nat} {p1 : Int32} {σ σ1 : Hp} {r : Int32} (h : s_X9_isSo h0 p1 σ = some (r, σ1)) : CT E yX9_isSo (.code yX9_isSo cX9_isSo 2 (some .boolean)) rm_X9_isSo [tR (some (h0)), tI (p1)] σ (some (tI r)) σ1 := by
  refine CT.mk hE (by decide +kernel) (Nat.le_of_ble_eq_true rfl) [(0, tR (some (h0))), (1, tI (p1))] rfl (fun X C hin hx hxn => ?_)
  have C : XOK E X cX9_isSo RX9 2 (some .boolean) rm_X9_isSo := C
  unfold s_X9_isSo at h
  refine g_aload_n (pc := 0) C 0 0 dX9_isSo_0 rfl rfl ?_
  obtain ⟨r1, hvr1, h⟩ := zbind h
  refine g_getR (N := 58) (pc := 1) C ck_9 hvr1 rfl rfl fl_X9_13 dX9_isSo_1 ?_
  refine g_iload_n (pc := 4) C 1 1 dX9_isSo_4 rfl rfl ?_
  refine g_iconst (v := 5) (pc := 5) C dX9_isSo_5 (by decide) ?_
  refine g_iadd (pc := 6) C dX9_isSo_6 ?_
  obtain ⟨a2, hqa2, h9⟩ := zbind h
  clear h
  subst hqa2
  have h := h9
  clear h9
  obtain ⟨v3, hvv3, h⟩ := zbind h
  refine g_iald (pc := 7) C hvv3 dX9_isSo_7 ?_
  refine g_aload_n (pc := 8) C 0 0 dX9_isSo_8 rfl rfl ?_
  obtain ⟨r4, hvr4, h⟩ := zbind h
  refine g_getR (N := 58) (pc := 9) C ck_9 hvr4 rfl rfl fl_X9_13 dX9_isSo_9 ?_
  refine g_iload_n (pc := 12) C 1 1 dX9_isSo_12 rfl rfl ?_
  refine g_bipush (v := 6) (pc := 13) C dX9_isSo_13 (by decide) ?_
  refine g_iadd (pc := 15) C dX9_isSo_15 ?_
  obtain ⟨a5, hqa5, h9⟩ := zbind h
  clear h
  subst hqa5
  have h := h9
  clear h9
  obtain ⟨v6, hvv6, h⟩ := zbind h
  refine g_iald (pc := 16) C hvv6 dX9_isSo_16 ?_
  refine g_icmp_ge (pc := 17) C 59 dX9_isSo_17 (by decide) (fun c20 => ?_) (fun c20 => ?_)
  · have h := zif_t c20 h
    exact w_X9_isSo_j59 hE C hxn _ _ _ _ _ h hx
  · have h := zif_f c20 h
    refine g_aload_n (pc := 20) C 0 0 dX9_isSo_20 rfl rfl ?_
    refine g_aload_n (pc := 21) C 0 0 dX9_isSo_21 rfl rfl ?_
    obtain ⟨r7, hvr7, h⟩ := zbind h
    refine g_getR (N := 58) (pc := 22) C ck_9 hvr7 rfl rfl fl_X9_13 dX9_isSo_22 ?_
    refine g_iload_n (pc := 25) C 1 1 dX9_isSo_25 rfl rfl ?_
    refine g_iconst (v := 5) (pc := 26) C dX9_isSo_26 (by decide) ?_
    refine g_iadd (pc := 27) C dX9_isSo_27 ?_
    obtain ⟨a8, hqa8, h9⟩ := zbind h
    clear h
    subst hqa8
    have h := h9
    clear h9
    obtain ⟨v9, hvv9, h⟩ := zbind h
    refine g_iald (pc := 28) C hvv9 dX9_isSo_28 ?_
    refine g_aload_n (pc := 29) C 0 0 dX9_isSo_29 rfl rfl ?_
    obtain ⟨r10, hvr10, h⟩ := zbind h
    refine g_getR (N := 58) (pc := 30) C ck_9 hvr10 rfl rfl fl_X9_13 dX9_isSo_30 ?_
    refine g_iload_n (pc := 33) C 1 1 dX9_isSo_33 rfl rfl ?_
    refine g_bipush (v := 6) (pc := 34) C dX9_isSo_34 (by decide) ?_
    refine g_iadd (pc := 36) C dX9_isSo_36 ?_
    obtain ⟨a11, hqa11, h9⟩ := zbind h
    clear h
    subst hqa11
    have h := h9
    clear h9
    obtain ⟨v12, hvv12, h⟩ := zbind h
    refine g_iald (pc := 37) C hvv12 dX9_isSo_37 ?_
    obtain ⟨u13, hvu13, h⟩ := zbind h
    obtain ⟨v15, σ14, hvσ14, h⟩ := zcb h
    refine g_callV (pc := 38) (av := [tI (v9), tI (v12)]) C (c_X9_reckonAll hE hvσ14) yv_X9_reckonAll ml_X9_421 ck_9 (zopt hvu13).1 rfl (rf_of (by decide)) rfl (Nat.le_of_ble_eq_true rfl) dX9_isSo_38 ?_
    refine g_aload_n (pc := 41) C 0 0 dX9_isSo_41 rfl rfl ?_
    obtain ⟨v16, hvv16, h⟩ := zbind h
    refine g_getI (N := 58) (pc := 42) C ck_9 hvv16 rfl rfl fl_X9_404 dX9_isSo_42 ?_
    refine g_if_ne (pc := 45) C 57 dX9_isSo_45 (by decide) (fun c19 => ?_) (fun c19 => ?_)
    · have h := zif_f c19 h
      refine g_iconst (v := 0) (pc := 57) C dX9_isSo_57 (by decide) ?_
      obtain ⟨rfl, rfl⟩ := zsome h
      exact g_zret (pc := 58) C rfl hx (by decide) (by rw [hxn]; rfl) (by rw [hxn]; rfl) dX9_isSo_58
    · have h := zif_t c19 h
      refine g_aload_n (pc := 48) C 0 0 dX9_isSo_48 rfl rfl ?_
      obtain ⟨v17, hvv17, h⟩ := zbind h
      refine g_getJ (N := 58) (pc := 49) C ck_9 hvv17 rfl rfl fl_X9_418 dX9_isSo_49 ?_
      refine g_lconst (v := 0) (pc := 52) C dX9_isSo_52 (by decide) ?_
      refine g_lcmp (pc := 53) C dX9_isSo_53 ?_
      refine g_if_ne (pc := 54) C 59 dX9_isSo_54 (by decide) (fun c18 => ?_) (fun c18 => ?_)
      · have h := zif_f c18 h
        exact w_X9_isSo_j59 hE C hxn _ _ _ _ _ h hx
      · have h := zif_t c18 h
        refine g_iconst (v := 0) (pc := 57) C dX9_isSo_57 (by decide) ?_
        obtain ⟨rfl, rfl⟩ := zsome h
        exact g_zret (pc := 58) C rfl hx (by decide) (by rw [hxn]; rfl) (by rw [hxn]; rfl) dX9_isSo_58
def rm_X9_tells : Room := { frames := 4, cells := 0, slots := 0, locals := 93 }
noncomputable def s_X9_tells_j247 (h0 : Nat) (l1 : Int32) (l8 : Int64) (l10 : Int32) (σ : Hp) : Option (((Nat × Int32 × Int64 × Int32) ⊕ (Int64)) × Hp) :=
  some (Sum.inl ((h0), (l1), (l8), (l10 + 1)), σ)
set_option maxRecDepth 100000 in
theorem w_X9_tells_j247 {E : E0} (hE : EOK E) {X : X0} (C : XOK E X cX9_tells RX9 12 (some .long) rm_X9_tells) (hxn : xn X = (rm_X9_tells.cells, rm_X9_tells.slots)) {KE : (Int64) → Hp → Prop} (e_ret : ∀ (r : Int64) (σ : Hp), KE (r) σ → xd X = (some (tJ r), σ)) (h0 : Nat) (l1 : Int32) (l8 : Int64) (l10 : Int32) (σ : Hp) (x : (Nat × Int32 × Int64 × Int32) ⊕ (Int64)) (σ1 : Hp) (h : s_X9_tells_j247 h0 l1 l8 l10 σ = some (x, σ1)) (hI : ∀ v, x = Sum.inl v → (fun (v : Nat × Int32 × Int64 × Int32) (σ : Hp) => G E X 0 0 182 [(0, tR (some ((v.1)))), (1, tI ((v.2.1))), (8, tJ ((v.2.2.1))), (10, tI ((v.2.2.2)))] [] σ) v σ1) (hO : ∀ e, x = Sum.inr e → KE e σ1) : G E X 0 0 247 [(0, tR (some (h0))), (1, tI (l1)), (8, tJ (l8)), (10, tI (l10))] [] σ := by
  unfold s_X9_tells_j247 at h
  refine g_iinc (lm' := [(10, tI (l10 + 1)), (0, tR (some (h0))), (1, tI (l1)), (8, tJ (l8))]) (v := l10 + 1) (pc := 247) C 3 dX9_tells_247 rfl rfl (by decide) rfl ?_
  refine g_goto (pc := 250) C 182 dX9_tells_250 (by decide) ?_
  refine g_sub [1, 2, 3, 0] (lm' := [(0, tR (some (h0))), (1, tI (l1)), (8, tJ (l8)), (10, tI (l10 + 1))]) rfl ?_
  obtain ⟨rfl, rfl⟩ := zsome h
  exact hI _ rfl
noncomputable def s_X9_tells_j245 (h0 : Nat) (l1 : Int32) (l10 : Int32) (t0 : Int64) (σ : Hp) : Option (((Nat × Int32 × Int64 × Int32) ⊕ (Int64)) × Hp) :=
  s_X9_tells_j247 (h0) (l1) (t0) (l10) σ
set_option maxRecDepth 100000 in
theorem w_X9_tells_j245 {E : E0} (hE : EOK E) {X : X0} (C : XOK E X cX9_tells RX9 12 (some .long) rm_X9_tells) (hxn : xn X = (rm_X9_tells.cells, rm_X9_tells.slots)) {KE : (Int64) → Hp → Prop} (e_ret : ∀ (r : Int64) (σ : Hp), KE (r) σ → xd X = (some (tJ r), σ)) (h0 : Nat) (l1 : Int32) (l10 : Int32) (t0 : Int64) (σ : Hp) (x : (Nat × Int32 × Int64 × Int32) ⊕ (Int64)) (σ1 : Hp) (h : s_X9_tells_j245 h0 l1 l10 t0 σ = some (x, σ1)) (hI : ∀ v, x = Sum.inl v → (fun (v : Nat × Int32 × Int64 × Int32) (σ : Hp) => G E X 0 0 182 [(0, tR (some ((v.1)))), (1, tI ((v.2.1))), (8, tJ ((v.2.2.1))), (10, tI ((v.2.2.2)))] [] σ) v σ1) (hO : ∀ e, x = Sum.inr e → KE e σ1) : G E X 0 0 245 [(0, tR (some (h0))), (1, tI (l1)), (10, tI (l10))] [tJ (t0)] σ := by
  unfold s_X9_tells_j245 at h
  refine g_lstore (lm' := [(8, tJ (t0)), (0, tR (some (h0))), (1, tI (l1)), (10, tI (l10))]) (pc := 245) C dX9_tells_245 (by decide) rfl ?_
  refine g_sub [1, 2, 0, 3] (lm' := [(0, tR (some (h0))), (1, tI (l1)), (8, tJ (t0)), (10, tI (l10))]) rfl ?_
  exact w_X9_tells_j247 hE C hxn e_ret _ _ _ _ _ _ _ h hI hO
noncomputable def s_X9_tells_b182 (h0 : Nat) (l1 : Int32) (l8 : Int64) (l10 : Int32) (σ : Hp) : Option (((Nat × Int32 × Int64 × Int32) ⊕ (Int64)) × Hp) :=
  (rdR 9 σ h0 3).bind fun r1 =>
  (rdI 9 σ h0 34).bind fun v2 =>
  (r1).bind fun a3 =>
  (ldI 11 σ a3 (v2 + 1)).bind fun v4 =>
  if v4 ≤ l10 then
    some (Sum.inr (l8), σ)
  else
    (rdI 9 σ h0 34).bind fun v5 =>
    (rdR 9 σ h0 3).bind fun r6 =>
    (r6).bind fun a7 =>
    (ldI 11 σ a7 ((v5 + 2) + (8 * l10))).bind fun v8 =>
    if v8 = l1 then
      (ck 9 σ h0).bind fun u9 =>
      cb (s_X9_isSo h0 ((v5 + 2) + (8 * l10)) σ) fun v11 σ10 =>
      if v11 = 0 then
        s_X9_tells_j247 (h0) (l1) (l8) (l10) σ10
      else
        if l1 = 2 then
          s_X9_tells_j245 (h0) (l1) (l10) (1) σ10
        else
          (rdJ 9 σ10 h0 40).bind fun v12 =>
          s_X9_tells_j245 (h0) (l1) (l10) (v12) σ10
    else
      s_X9_tells_j247 (h0) (l1) (l8) (l10) σ
noncomputable def s_X9_tells_l182 : (Nat × Int32 × Int64 × Int32) → Hp → Option ((Int64) × Hp) := loopF (fun v => s_X9_tells_b182 (v.1) (v.2.1) (v.2.2.1) (v.2.2.2))
set_option maxRecDepth 100000 in
theorem w_X9_tells_b182 {E : E0} (hE : EOK E) {X : X0} (C : XOK E X cX9_tells RX9 12 (some .long) rm_X9_tells) (hxn : xn X = (rm_X9_tells.cells, rm_X9_tells.slots)) {KE : (Int64) → Hp → Prop} (e_ret : ∀ (r : Int64) (σ : Hp), KE (r) σ → xd X = (some (tJ r), σ)) (h0 : Nat) (l1 : Int32) (l8 : Int64) (l10 : Int32) (σ : Hp) (x : (Nat × Int32 × Int64 × Int32) ⊕ (Int64)) (σ1 : Hp) (h : s_X9_tells_b182 h0 l1 l8 l10 σ = some (x, σ1)) (hI : ∀ v, x = Sum.inl v → (fun (v : Nat × Int32 × Int64 × Int32) (σ : Hp) => G E X 0 0 182 [(0, tR (some ((v.1)))), (1, tI ((v.2.1))), (8, tJ ((v.2.2.1))), (10, tI ((v.2.2.2)))] [] σ) v σ1) (hO : ∀ e, x = Sum.inr e → KE e σ1) : G E X 0 0 182 [(0, tR (some (h0))), (1, tI (l1)), (8, tJ (l8)), (10, tI (l10))] [] σ := by
  unfold s_X9_tells_b182 at h
  refine g_iload (pc := 182) C 3 dX9_tells_182 rfl ?_
  refine g_aload_n (pc := 184) C 0 0 dX9_tells_184 rfl rfl ?_
  obtain ⟨r1, hvr1, h⟩ := zbind h
  refine g_getR (N := 58) (pc := 185) C ck_9 hvr1 rfl rfl fl_X9_13 dX9_tells_185 ?_
  refine g_aload_n (pc := 188) C 0 0 dX9_tells_188 rfl rfl ?_
  obtain ⟨v2, hvv2, h⟩ := zbind h
  refine g_getI (N := 58) (pc := 189) C ck_9 hvv2 rfl rfl fl_X9_407 dX9_tells_189 ?_
  refine g_iconst (v := 1) (pc := 192) C dX9_tells_192 (by decide) ?_
  refine g_iadd (pc := 193) C dX9_tells_193 ?_
  obtain ⟨a3, hqa3, h9⟩ := zbind h
  clear h
  subst hqa3
  have h := h9
  clear h9
  obtain ⟨v4, hvv4, h⟩ := zbind h
  refine g_iald (pc := 194) C hvv4 dX9_tells_194 ?_
  refine g_icmp_ge (pc := 195) C 253 dX9_tells_195 (by decide) (fun c16 => ?_) (fun c16 => ?_)
  · have h := zif_t c16 h
    refine g_lload (pc := 253) C 2 dX9_tells_253 rfl ?_
    obtain ⟨rfl, rfl⟩ := zsome h
    exact g_lret (pc := 255) C rfl (e_ret _ _ (hO _ rfl)) (by rw [hxn]; rfl) (by rw [hxn]; rfl) dX9_tells_255
  · have h := zif_f c16 h
    refine g_aload_n (pc := 198) C 0 0 dX9_tells_198 rfl rfl ?_
    obtain ⟨v5, hvv5, h⟩ := zbind h
    refine g_getI (N := 58) (pc := 199) C ck_9 hvv5 rfl rfl fl_X9_407 dX9_tells_199 ?_
    refine g_iconst (v := 2) (pc := 202) C dX9_tells_202 (by decide) ?_
    refine g_iadd (pc := 203) C dX9_tells_203 ?_
    refine g_bipush (v := 8) (pc := 204) C dX9_tells_204 (by decide) ?_
    refine g_iload (pc := 206) C 3 dX9_tells_206 rfl ?_
    refine g_imul (pc := 208) C dX9_tells_208 ?_
    refine g_iadd (pc := 209) C dX9_tells_209 ?_
    refine g_istore (lm' := [(11, tI ((v5 + 2) + (8 * l10))), (0, tR (some (h0))), (1, tI (l1)), (8, tJ (l8)), (10, tI (l10))]) (pc := 210) C dX9_tells_210 (by decide) rfl ?_
    refine g_aload_n (pc := 212) C 0 1 dX9_tells_212 rfl rfl ?_
    obtain ⟨r6, hvr6, h⟩ := zbind h
    refine g_getR (N := 58) (pc := 213) C ck_9 hvr6 rfl rfl fl_X9_13 dX9_tells_213 ?_
    refine g_iload (pc := 216) C 0 dX9_tells_216 rfl ?_
    obtain ⟨a7, hqa7, h9⟩ := zbind h
    clear h
    subst hqa7
    have h := h9
    clear h9
    obtain ⟨v8, hvv8, h⟩ := zbind h
    refine g_iald (pc := 218) C hvv8 dX9_tells_218 ?_
    refine g_iload_n (pc := 219) C 1 2 dX9_tells_219 rfl rfl ?_
    refine g_icmp_ne (pc := 220) C 247 dX9_tells_220 (by decide) (fun c15 => ?_) (fun c15 => ?_)
    · have h := zif_f c15 h
      refine g_sub [1, 2, 3, 4] (lm' := [(0, tR (some (h0))), (1, tI (l1)), (8, tJ (l8)), (10, tI (l10))]) rfl ?_
      exact w_X9_tells_j247 hE C hxn e_ret _ _ _ _ _ _ _ h hI hO
    · have h := zif_t c15 h
      refine g_aload_n (pc := 223) C 0 1 dX9_tells_223 rfl rfl ?_
      refine g_iload (pc := 224) C 0 dX9_tells_224 rfl ?_
      obtain ⟨u9, hvu9, h⟩ := zbind h
      obtain ⟨v11, σ10, hvσ10, h⟩ := zcb h
      refine g_callV (pc := 226) (av := [tI ((v5 + 2) + (8 * l10))]) C (c_X9_isSo hE hvσ10) yv_X9_isSo ml_X9_427 ck_9 (zopt hvu9).1 rfl (rf_of (by decide)) rfl (Nat.le_of_ble_eq_true rfl) dX9_tells_226 ?_
      refine g_if_eq (pc := 229) C 247 dX9_tells_229 (by decide) (fun c14 => ?_) (fun c14 => ?_)
      · have h := zif_t c14 h
        refine g_sub [1, 2, 3, 4] (lm' := [(0, tR (some (h0))), (1, tI (l1)), (8, tJ (l8)), (10, tI (l10))]) rfl ?_
        exact w_X9_tells_j247 hE C hxn e_ret _ _ _ _ _ _ _ h hI hO
      · have h := zif_f c14 h
        refine g_iload_n (pc := 232) C 1 2 dX9_tells_232 rfl rfl ?_
        refine g_iconst (v := 2) (pc := 233) C dX9_tells_233 (by decide) ?_
        refine g_icmp_ne (pc := 234) C 241 dX9_tells_234 (by decide) (fun c13 => ?_) (fun c13 => ?_)
        · have h := zif_f c13 h
          refine g_aload_n (pc := 241) C 0 1 dX9_tells_241 rfl rfl ?_
          obtain ⟨v12, hvv12, h⟩ := zbind h
          refine g_getJ (N := 58) (pc := 242) C ck_9 hvv12 rfl rfl fl_X9_424 dX9_tells_242 ?_
          refine g_sub [1, 2, 4] (lm' := [(0, tR (some (h0))), (1, tI (l1)), (10, tI (l10))]) rfl ?_
          exact w_X9_tells_j245 hE C hxn e_ret _ _ _ _ _ _ _ h hI hO
        · have h := zif_t c13 h
          refine g_lconst (v := 1) (pc := 237) C dX9_tells_237 (by decide) ?_
          refine g_goto (pc := 238) C 245 dX9_tells_238 (by decide) ?_
          refine g_sub [1, 2, 4] (lm' := [(0, tR (some (h0))), (1, tI (l1)), (10, tI (l10))]) rfl ?_
          exact w_X9_tells_j245 hE C hxn e_ret _ _ _ _ _ _ _ h hI hO
theorem w_X9_tells_l182 {E : E0} (hE : EOK E) {X : X0} (C : XOK E X cX9_tells RX9 12 (some .long) rm_X9_tells) (hxn : xn X = (rm_X9_tells.cells, rm_X9_tells.slots)) {KE : (Int64) → Hp → Prop} (e_ret : ∀ (r : Int64) (σ : Hp), KE (r) σ → xd X = (some (tJ r), σ)) {v : Nat × Int32 × Int64 × Int32} {σ : Hp} {e : Int64} {σ1 : Hp} (h : s_X9_tells_l182 v σ = some (e, σ1)) (hO : KE e σ1) : G E X 0 0 182 [(0, tR (some ((v.1)))), (1, tI ((v.2.1))), (8, tJ ((v.2.2.1))), (10, tI ((v.2.2.2)))] [] σ := loopF_ind (P := fun (v : Nat × Int32 × Int64 × Int32) (σ : Hp) => G E X 0 0 182 [(0, tR (some ((v.1)))), (1, tI ((v.2.1))), (8, tJ ((v.2.2.1))), (10, tI ((v.2.2.2)))] [] σ) (KE := KE) (fun v σ x σ1 h hI hO => w_X9_tells_b182 hE C hxn e_ret (v.1) (v.2.1) (v.2.2.1) (v.2.2.2) σ x σ1 h hI hO) v σ e σ1 h hO
noncomputable def s_X9_tells_j159 (h0 : Nat) (l1 : Int32) (l6 : Int64) (t0 : Option Nat) (t1 : Int32) (t2 : Int64) (σ : Hp) : Option (Int64 × Hp) :=
  (t0).bind fun a1 =>
  (stJ σ a1 (t1) (t2)).bind fun σ2 =>
  (rdR 9 σ2 h0 35).bind fun r3 =>
  (rdR 9 σ2 h0 3).bind fun r4 =>
  (r4).bind fun a5 =>
  (ldI 11 σ2 a5 (9)).bind fun v6 =>
  (r3).bind fun a7 =>
  (stJ σ2 a7 (9) (Int32.toInt64 (v6 : Int32))).bind fun σ8 =>
  cb (s_X9_tells_l182 ((h0), (l1), (l6), (0)) σ8) fun r10 σ11 =>
  some (r10, σ11)
set_option maxRecDepth 100000 in
theorem w_X9_tells_j159 {E : E0} (hE : EOK E) {X : X0} (C : XOK E X cX9_tells RX9 12 (some .long) rm_X9_tells) (hxn : xn X = (rm_X9_tells.cells, rm_X9_tells.slots)) (h0 : Nat) (l1 : Int32) (l6 : Int64) (t0 : Option Nat) (t1 : Int32) (t2 : Int64) (σ : Hp) (r : Int64) (σ1 : Hp) (h : s_X9_tells_j159 h0 l1 l6 t0 t1 t2 σ = some (r, σ1)) (hx : xd X = (some (tJ r), σ1)) : G E X 0 0 159 [(0, tR (some (h0))), (1, tI (l1)), (6, tJ (l6))] [tJ (t2), tI (t1), tR (t0)] σ := by
  unfold s_X9_tells_j159 at h
  obtain ⟨a1, hqa1, h9⟩ := zbind h
  clear h
  subst hqa1
  have h := h9
  clear h9
  obtain ⟨σ2, hvσ2, h⟩ := zbind h
  refine g_last (pc := 159) C hvσ2 dX9_tells_159 ?_
  refine g_aload_n (pc := 160) C 0 0 dX9_tells_160 rfl rfl ?_
  obtain ⟨r3, hvr3, h⟩ := zbind h
  refine g_getR (N := 58) (pc := 161) C ck_9 hvr3 rfl rfl fl_X9_101 dX9_tells_161 ?_
  refine g_bipush (v := 9) (pc := 164) C dX9_tells_164 (by decide) ?_
  refine g_aload_n (pc := 166) C 0 0 dX9_tells_166 rfl rfl ?_
  obtain ⟨r4, hvr4, h⟩ := zbind h
  refine g_getR (N := 58) (pc := 167) C ck_9 hvr4 rfl rfl fl_X9_13 dX9_tells_167 ?_
  refine g_bipush (v := 9) (pc := 170) C dX9_tells_170 (by decide) ?_
  obtain ⟨a5, hqa5, h9⟩ := zbind h
  clear h
  subst hqa5
  have h := h9
  clear h9
  obtain ⟨v6, hvv6, h⟩ := zbind h
  refine g_iald (pc := 172) C hvv6 dX9_tells_172 ?_
  refine g_i2l (pc := 173) C dX9_tells_173 ?_
  obtain ⟨a7, hqa7, h9⟩ := zbind h
  clear h
  subst hqa7
  have h := h9
  clear h9
  obtain ⟨σ8, hvσ8, h⟩ := zbind h
  refine g_last (pc := 174) C hvσ8 dX9_tells_174 ?_
  refine g_lload (pc := 175) C 2 dX9_tells_175 rfl ?_
  refine g_lstore (lm' := [(8, tJ (l6)), (0, tR (some (h0))), (1, tI (l1)), (6, tJ (l6))]) (pc := 177) C dX9_tells_177 (by decide) rfl ?_
  refine g_iconst (v := 0) (pc := 179) C dX9_tells_179 (by decide) ?_
  refine g_istore (lm' := [(10, tI (0)), (8, tJ (l6)), (0, tR (some (h0))), (1, tI (l1)), (6, tJ (l6))]) (pc := 180) C dX9_tells_180 (by decide) rfl ?_
  refine g_sub [2, 3, 1, 0] (lm' := [(0, tR (some (h0))), (1, tI (l1)), (8, tJ (l6)), (10, tI (0))]) rfl ?_
  obtain ⟨KQ, hKQ, r10, σ11, hlr10, h⟩ := zcbK h
  refine w_X9_tells_l182 (KE := KQ) hE C hxn ?_ hlr10 h
  · intro r10 σ9 h
    have h := (hKQ _ _).mp h
    obtain ⟨rfl, rfl⟩ := zsome h
    exact hx
noncomputable def s_X9_tells_j119 (h0 : Nat) (l1 : Int32) (l5 : Int32) (l6 : Int64) (t0 : Option Nat) (t1 : Int32) (t2 : Int64) (σ : Hp) : Option (Int64 × Hp) :=
  (t0).bind fun a1 =>
  (stJ σ a1 (t1) (t2)).bind fun σ2 =>
  (rdR 9 σ2 h0 35).bind fun r3 =>
  (r3).bind fun a4 =>
  (stJ σ2 a4 (7) (Int32.toInt64 (l5 : Int32))).bind fun σ5 =>
  (rdR 9 σ5 h0 35).bind fun r6 =>
  if l5 = (-1) then
    s_X9_tells_j159 (h0) (l1) (l6) (r6) (8) ((-1)) σ5
  else
    (rdR 9 σ5 h0 3).bind fun r7 =>
    (r7).bind fun a8 =>
    (ldI 11 σ5 a8 (40 + l5)).bind fun v9 =>
    s_X9_tells_j159 (h0) (l1) (l6) (r6) (8) (Int32.toInt64 (v9 : Int32)) σ5
set_option maxRecDepth 100000 in
theorem w_X9_tells_j119 {E : E0} (hE : EOK E) {X : X0} (C : XOK E X cX9_tells RX9 12 (some .long) rm_X9_tells) (hxn : xn X = (rm_X9_tells.cells, rm_X9_tells.slots)) (h0 : Nat) (l1 : Int32) (l5 : Int32) (l6 : Int64) (t0 : Option Nat) (t1 : Int32) (t2 : Int64) (σ : Hp) (r : Int64) (σ1 : Hp) (h : s_X9_tells_j119 h0 l1 l5 l6 t0 t1 t2 σ = some (r, σ1)) (hx : xd X = (some (tJ r), σ1)) : G E X 0 0 119 [(0, tR (some (h0))), (1, tI (l1)), (5, tI (l5)), (6, tJ (l6))] [tJ (t2), tI (t1), tR (t0)] σ := by
  unfold s_X9_tells_j119 at h
  obtain ⟨a1, hqa1, h9⟩ := zbind h
  clear h
  subst hqa1
  have h := h9
  clear h9
  obtain ⟨σ2, hvσ2, h⟩ := zbind h
  refine g_last (pc := 119) C hvσ2 dX9_tells_119 ?_
  refine g_aload_n (pc := 120) C 0 0 dX9_tells_120 rfl rfl ?_
  obtain ⟨r3, hvr3, h⟩ := zbind h
  refine g_getR (N := 58) (pc := 121) C ck_9 hvr3 rfl rfl fl_X9_101 dX9_tells_121 ?_
  refine g_bipush (v := 7) (pc := 124) C dX9_tells_124 (by decide) ?_
  refine g_iload (pc := 126) C 2 dX9_tells_126 rfl ?_
  refine g_i2l (pc := 128) C dX9_tells_128 ?_
  obtain ⟨a4, hqa4, h9⟩ := zbind h
  clear h
  subst hqa4
  have h := h9
  clear h9
  obtain ⟨σ5, hvσ5, h⟩ := zbind h
  refine g_last (pc := 129) C hvσ5 dX9_tells_129 ?_
  refine g_aload_n (pc := 130) C 0 0 dX9_tells_130 rfl rfl ?_
  obtain ⟨r6, hvr6, h⟩ := zbind h
  refine g_getR (N := 58) (pc := 131) C ck_9 hvr6 rfl rfl fl_X9_101 dX9_tells_131 ?_
  refine g_bipush (v := 8) (pc := 134) C dX9_tells_134 (by decide) ?_
  refine g_iload (pc := 136) C 2 dX9_tells_136 rfl ?_
  refine g_iconst (v := (-1)) (pc := 138) C dX9_tells_138 (by decide) ?_
  refine g_icmp_ne (pc := 139) C 148 dX9_tells_139 (by decide) (fun c10 => ?_) (fun c10 => ?_)
  · have h := zif_f c10 h
    refine g_aload_n (pc := 148) C 0 0 dX9_tells_148 rfl rfl ?_
    obtain ⟨r7, hvr7, h⟩ := zbind h
    refine g_getR (N := 58) (pc := 149) C ck_9 hvr7 rfl rfl fl_X9_13 dX9_tells_149 ?_
    refine g_bipush (v := 40) (pc := 152) C dX9_tells_152 (by decide) ?_
    refine g_iload (pc := 154) C 2 dX9_tells_154 rfl ?_
    refine g_iadd (pc := 156) C dX9_tells_156 ?_
    obtain ⟨a8, hqa8, h9⟩ := zbind h
    clear h
    subst hqa8
    have h := h9
    clear h9
    obtain ⟨v9, hvv9, h⟩ := zbind h
    refine g_iald (pc := 157) C hvv9 dX9_tells_157 ?_
    refine g_i2l (pc := 158) C dX9_tells_158 ?_
    refine g_sub [0, 1, 3] (lm' := [(0, tR (some (h0))), (1, tI (l1)), (6, tJ (l6))]) rfl ?_
    exact w_X9_tells_j159 hE C hxn _ _ _ _ _ _ _ _ _ h hx
  · have h := zif_t c10 h
    refine g_ldc2 (v := (-1)) (pc := 142) C dX9_tells_142 kl_X9_281 ?_
    refine g_goto (pc := 145) C 159 dX9_tells_145 (by decide) ?_
    refine g_sub [0, 1, 3] (lm' := [(0, tR (some (h0))), (1, tI (l1)), (6, tJ (l6))]) rfl ?_
    exact w_X9_tells_j159 hE C hxn _ _ _ _ _ _ _ _ _ h hx
noncomputable def s_X9_tells (h0 : Nat) (p1 : Int32) (p2 : Int32) (p3 : Int32) (p4 : Int32) (p5 : Int32) (p6 : Int64) (σ : Hp) : Option (Int64 × Hp) :=
  (rdR 9 σ h0 3).bind fun r1 =>
  (r1).bind fun a2 =>
  (ldI 11 σ a2 (6)).bind fun v3 =>
  if v3 = (-1) then
    some ((p6), σ)
  else
    (rdR 9 σ h0 3).bind fun r4 =>
    (r4).bind fun a5 =>
    (ldI 11 σ a5 (6)).bind fun v6 =>
    (wrI 9 σ h0 34 (178 + (900 * v6))).bind fun σ7 =>
    (rdR 9 σ7 h0 35).bind fun r8 =>
    (r8).bind fun a9 =>
    (stJ σ7 a9 (1) (Int32.toInt64 (p2 : Int32))).bind fun σ10 =>
    (rdR 9 σ10 h0 35).bind fun r11 =>
    (rdR 9 σ10 h0 3).bind fun r12 =>
    (r12).bind fun a13 =>
    (ldI 11 σ10 a13 (7)).bind fun v14 =>
    (r11).bind fun a15 =>
    (stJ σ10 a15 (2) (Int32.toInt64 (v14 - v14 / 24 * 24 : Int32))).bind fun σ16 =>
    (rdR 9 σ16 h0 35).bind fun r17 =>
    (rdR 9 σ16 h0 3).bind fun r18 =>
    (r18).bind fun a19 =>
    (ldI 11 σ16 a19 (7)).bind fun v20 =>
    (r17).bind fun a21 =>
    (stJ σ16 a21 (3) (Int32.toInt64 (v20 : Int32))).bind fun σ22 =>
    (rdR 9 σ22 h0 35).bind fun r23 =>
    (r23).bind fun a24 =>
    (stJ σ22 a24 (4) (Int32.toInt64 (p3 : Int32))).bind fun σ25 =>
    (rdR 9 σ25 h0 35).bind fun r26 =>
    (r26).bind fun a27 =>
    (stJ σ25 a27 (5) (Int32.toInt64 (p4 : Int32))).bind fun σ28 =>
    (rdR 9 σ28 h0 35).bind fun r29 =>
    if p4 = (-1) then
      s_X9_tells_j119 (h0) (p1) (p5) (p6) (r29) (6) ((-1)) σ28
    else
      (rdR 9 σ28 h0 3).bind fun r30 =>
      (r30).bind fun a31 =>
      (ldI 11 σ28 a31 (150 + p4)).bind fun v32 =>
      s_X9_tells_j119 (h0) (p1) (p5) (p6) (r29) (6) (Int32.toInt64 (v32 : Int32)) σ28
set_option maxRecDepth 100000 in
theorem c_X9_tells {E : E0} (hE : EOK E) {h0 : Nat} {p1 : Int32} {p2 : Int32} {p3 : Int32} {p4 : Int32} {p5 : Int32} {p6 : Int64} {σ σ1 : Hp} {r : Int64} (h : s_X9_tells h0 p1 p2 p3 p4 p5 p6 σ = some (r, σ1)) : CT E yX9_tells (.code yX9_tells cX9_tells 12 (some .long)) rm_X9_tells [tR (some (h0)), tI (p1), tI (p2), tI (p3), tI (p4), tI (p5), tJ (p6)] σ (some (tJ r)) σ1 := by
  refine CT.mk hE (by decide +kernel) (Nat.le_of_ble_eq_true rfl) [(0, tR (some (h0))), (1, tI (p1)), (2, tI (p2)), (3, tI (p3)), (4, tI (p4)), (5, tI (p5)), (6, tJ (p6))] rfl (fun X C hin hx hxn => ?_)
  have C : XOK E X cX9_tells RX9 12 (some .long) rm_X9_tells := C
  unfold s_X9_tells at h
  refine g_aload_n (pc := 0) C 0 0 dX9_tells_0 rfl rfl ?_
  obtain ⟨r1, hvr1, h⟩ := zbind h
  refine g_getR (N := 58) (pc := 1) C ck_9 hvr1 rfl rfl fl_X9_13 dX9_tells_1 ?_
  refine g_bipush (v := 6) (pc := 4) C dX9_tells_4 (by decide) ?_
  obtain ⟨a2, hqa2, h9⟩ := zbind h
  clear h
  subst hqa2
  have h := h9
  clear h9
  obtain ⟨v3, hvv3, h⟩ := zbind h
  refine g_iald (pc := 6) C hvv3 dX9_tells_6 ?_
  refine g_iconst (v := (-1)) (pc := 7) C dX9_tells_7 (by decide) ?_
  refine g_icmp_ne (pc := 8) C 14 dX9_tells_8 (by decide) (fun c34 => ?_) (fun c34 => ?_)
  · have h := zif_f c34 h
    refine g_aload_n (pc := 14) C 0 0 dX9_tells_14 rfl rfl ?_
    refine g_sipush (v := 178) (pc := 15) C dX9_tells_15 (by decide) ?_
    refine g_sipush (v := 900) (pc := 18) C dX9_tells_18 (by decide) ?_
    refine g_aload_n (pc := 21) C 0 0 dX9_tells_21 rfl rfl ?_
    obtain ⟨r4, hvr4, h⟩ := zbind h
    refine g_getR (N := 58) (pc := 22) C ck_9 hvr4 rfl rfl fl_X9_13 dX9_tells_22 ?_
    refine g_bipush (v := 6) (pc := 25) C dX9_tells_25 (by decide) ?_
    obtain ⟨a5, hqa5, h9⟩ := zbind h
    clear h
    subst hqa5
    have h := h9
    clear h9
    obtain ⟨v6, hvv6, h⟩ := zbind h
    refine g_iald (pc := 27) C hvv6 dX9_tells_27 ?_
    refine g_imul (pc := 28) C dX9_tells_28 ?_
    refine g_iadd (pc := 29) C dX9_tells_29 ?_
    obtain ⟨σ7, hvσ7, h⟩ := zbind h
    refine g_putI (N := 58) (pc := 30) C ⟨ck_9, rfl, tyX9_ok⟩ hvσ7 rfl fl_X9_407 rfl rfl dX9_tells_30 ?_
    refine g_aload_n (pc := 33) C 0 0 dX9_tells_33 rfl rfl ?_
    obtain ⟨r8, hvr8, h⟩ := zbind h
    refine g_getR (N := 58) (pc := 34) C ck_9 hvr8 rfl rfl fl_X9_101 dX9_tells_34 ?_
    refine g_iconst (v := 1) (pc := 37) C dX9_tells_37 (by decide) ?_
    refine g_iload_n (pc := 38) C 2 2 dX9_tells_38 rfl rfl ?_
    refine g_i2l (pc := 39) C dX9_tells_39 ?_
    obtain ⟨a9, hqa9, h9⟩ := zbind h
    clear h
    subst hqa9
    have h := h9
    clear h9
    obtain ⟨σ10, hvσ10, h⟩ := zbind h
    refine g_last (pc := 40) C hvσ10 dX9_tells_40 ?_
    refine g_aload_n (pc := 41) C 0 0 dX9_tells_41 rfl rfl ?_
    obtain ⟨r11, hvr11, h⟩ := zbind h
    refine g_getR (N := 58) (pc := 42) C ck_9 hvr11 rfl rfl fl_X9_101 dX9_tells_42 ?_
    refine g_iconst (v := 2) (pc := 45) C dX9_tells_45 (by decide) ?_
    refine g_aload_n (pc := 46) C 0 0 dX9_tells_46 rfl rfl ?_
    obtain ⟨r12, hvr12, h⟩ := zbind h
    refine g_getR (N := 58) (pc := 47) C ck_9 hvr12 rfl rfl fl_X9_13 dX9_tells_47 ?_
    refine g_bipush (v := 7) (pc := 50) C dX9_tells_50 (by decide) ?_
    obtain ⟨a13, hqa13, h9⟩ := zbind h
    clear h
    subst hqa13
    have h := h9
    clear h9
    obtain ⟨v14, hvv14, h⟩ := zbind h
    refine g_iald (pc := 52) C hvv14 dX9_tells_52 ?_
    refine g_bipush (v := 24) (pc := 53) C dX9_tells_53 (by decide) ?_
    refine g_irem (pc := 55) C dX9_tells_55 (by decide) ?_
    refine g_i2l (pc := 56) C dX9_tells_56 ?_
    obtain ⟨a15, hqa15, h9⟩ := zbind h
    clear h
    subst hqa15
    have h := h9
    clear h9
    obtain ⟨σ16, hvσ16, h⟩ := zbind h
    refine g_last (pc := 57) C hvσ16 dX9_tells_57 ?_
    refine g_aload_n (pc := 58) C 0 0 dX9_tells_58 rfl rfl ?_
    obtain ⟨r17, hvr17, h⟩ := zbind h
    refine g_getR (N := 58) (pc := 59) C ck_9 hvr17 rfl rfl fl_X9_101 dX9_tells_59 ?_
    refine g_iconst (v := 3) (pc := 62) C dX9_tells_62 (by decide) ?_
    refine g_aload_n (pc := 63) C 0 0 dX9_tells_63 rfl rfl ?_
    obtain ⟨r18, hvr18, h⟩ := zbind h
    refine g_getR (N := 58) (pc := 64) C ck_9 hvr18 rfl rfl fl_X9_13 dX9_tells_64 ?_
    refine g_bipush (v := 7) (pc := 67) C dX9_tells_67 (by decide) ?_
    obtain ⟨a19, hqa19, h9⟩ := zbind h
    clear h
    subst hqa19
    have h := h9
    clear h9
    obtain ⟨v20, hvv20, h⟩ := zbind h
    refine g_iald (pc := 69) C hvv20 dX9_tells_69 ?_
    refine g_i2l (pc := 70) C dX9_tells_70 ?_
    obtain ⟨a21, hqa21, h9⟩ := zbind h
    clear h
    subst hqa21
    have h := h9
    clear h9
    obtain ⟨σ22, hvσ22, h⟩ := zbind h
    refine g_last (pc := 71) C hvσ22 dX9_tells_71 ?_
    refine g_aload_n (pc := 72) C 0 0 dX9_tells_72 rfl rfl ?_
    obtain ⟨r23, hvr23, h⟩ := zbind h
    refine g_getR (N := 58) (pc := 73) C ck_9 hvr23 rfl rfl fl_X9_101 dX9_tells_73 ?_
    refine g_iconst (v := 4) (pc := 76) C dX9_tells_76 (by decide) ?_
    refine g_iload_n (pc := 77) C 3 3 dX9_tells_77 rfl rfl ?_
    refine g_i2l (pc := 78) C dX9_tells_78 ?_
    obtain ⟨a24, hqa24, h9⟩ := zbind h
    clear h
    subst hqa24
    have h := h9
    clear h9
    obtain ⟨σ25, hvσ25, h⟩ := zbind h
    refine g_last (pc := 79) C hvσ25 dX9_tells_79 ?_
    refine g_aload_n (pc := 80) C 0 0 dX9_tells_80 rfl rfl ?_
    obtain ⟨r26, hvr26, h⟩ := zbind h
    refine g_getR (N := 58) (pc := 81) C ck_9 hvr26 rfl rfl fl_X9_101 dX9_tells_81 ?_
    refine g_iconst (v := 5) (pc := 84) C dX9_tells_84 (by decide) ?_
    refine g_iload (pc := 85) C 4 dX9_tells_85 rfl ?_
    refine g_i2l (pc := 87) C dX9_tells_87 ?_
    obtain ⟨a27, hqa27, h9⟩ := zbind h
    clear h
    subst hqa27
    have h := h9
    clear h9
    obtain ⟨σ28, hvσ28, h⟩ := zbind h
    refine g_last (pc := 88) C hvσ28 dX9_tells_88 ?_
    refine g_aload_n (pc := 89) C 0 0 dX9_tells_89 rfl rfl ?_
    obtain ⟨r29, hvr29, h⟩ := zbind h
    refine g_getR (N := 58) (pc := 90) C ck_9 hvr29 rfl rfl fl_X9_101 dX9_tells_90 ?_
    refine g_bipush (v := 6) (pc := 93) C dX9_tells_93 (by decide) ?_
    refine g_iload (pc := 95) C 4 dX9_tells_95 rfl ?_
    refine g_iconst (v := (-1)) (pc := 97) C dX9_tells_97 (by decide) ?_
    refine g_icmp_ne (pc := 98) C 107 dX9_tells_98 (by decide) (fun c33 => ?_) (fun c33 => ?_)
    · have h := zif_f c33 h
      refine g_aload_n (pc := 107) C 0 0 dX9_tells_107 rfl rfl ?_
      obtain ⟨r30, hvr30, h⟩ := zbind h
      refine g_getR (N := 58) (pc := 108) C ck_9 hvr30 rfl rfl fl_X9_13 dX9_tells_108 ?_
      refine g_sipush (v := 150) (pc := 111) C dX9_tells_111 (by decide) ?_
      refine g_iload (pc := 114) C 4 dX9_tells_114 rfl ?_
      refine g_iadd (pc := 116) C dX9_tells_116 ?_
      obtain ⟨a31, hqa31, h9⟩ := zbind h
      clear h
      subst hqa31
      have h := h9
      clear h9
      obtain ⟨v32, hvv32, h⟩ := zbind h
      refine g_iald (pc := 117) C hvv32 dX9_tells_117 ?_
      refine g_i2l (pc := 118) C dX9_tells_118 ?_
      refine g_sub [0, 1, 5, 6] (lm' := [(0, tR (some (h0))), (1, tI (p1)), (5, tI (p5)), (6, tJ (p6))]) rfl ?_
      exact w_X9_tells_j119 hE C hxn _ _ _ _ _ _ _ _ _ _ h hx
    · have h := zif_t c33 h
      refine g_ldc2 (v := (-1)) (pc := 101) C dX9_tells_101 kl_X9_281 ?_
      refine g_goto (pc := 104) C 119 dX9_tells_104 (by decide) ?_
      refine g_sub [0, 1, 5, 6] (lm' := [(0, tR (some (h0))), (1, tI (p1)), (5, tI (p5)), (6, tJ (p6))]) rfl ?_
      exact w_X9_tells_j119 hE C hxn _ _ _ _ _ _ _ _ _ _ h hx
  · have h := zif_t c34 h
    refine g_lload (pc := 11) C 6 dX9_tells_11 rfl ?_
    obtain ⟨rfl, rfl⟩ := zsome h
    exact g_lret (pc := 13) C rfl hx (by rw [hxn]; rfl) (by rw [hxn]; rfl) dX9_tells_13
def rm_X9_theirsIn : Room := { frames := 5, cells := 0, slots := 0, locals := 124 }
noncomputable def s_X9_theirsIn_j36 (t0 : Option Nat) (t1 : Int32) (t2 : Int32) (t3 : Int32) (t4 : Int32) (t5 : Int32) (t6 : Int64) (σ : Hp) : Option (Int32 × Hp) :=
  (t0).bind fun a1 =>
  (ck 9 σ a1).bind fun u2 =>
  cb (s_X9_tells a1 (t1) (t2) (t3) (t4) (t5) (t6) σ) fun v4 σ3 =>
  cb (s_X9_bounded (v4) (0) (10) σ3) fun v6 σ5 =>
  some ((v6), σ5)
set_option maxRecDepth 100000 in
theorem w_X9_theirsIn_j36 {E : E0} (hE : EOK E) {X : X0} (C : XOK E X cX9_theirsIn RX9 3 (some .int) rm_X9_theirsIn) (hxn : xn X = (rm_X9_theirsIn.cells, rm_X9_theirsIn.slots)) (t0 : Option Nat) (t1 : Int32) (t2 : Int32) (t3 : Int32) (t4 : Int32) (t5 : Int32) (t6 : Int64) (σ : Hp) (r : Int32) (σ1 : Hp) (h : s_X9_theirsIn_j36 t0 t1 t2 t3 t4 t5 t6 σ = some (r, σ1)) (hx : xd X = (some (tI r), σ1)) : G E X 0 0 36 [] [tJ (t6), tI (t5), tI (t4), tI (t3), tI (t2), tI (t1), tR (t0)] σ := by
  unfold s_X9_theirsIn_j36 at h
  obtain ⟨a1, hqa1, h9⟩ := zbind h
  clear h
  subst hqa1
  have h := h9
  clear h9
  obtain ⟨u2, hvu2, h⟩ := zbind h
  obtain ⟨v4, σ3, hvσ3, h⟩ := zcb h
  refine g_callV (pc := 36) (av := [tI (t1), tI (t2), tI (t3), tI (t4), tI (t5), tJ (t6)]) C (c_X9_tells hE hvσ3) yv_X9_tells ml_X9_430 ck_9 (zopt hvu2).1 rfl (rf_of (by decide)) rfl (Nat.le_of_ble_eq_true rfl) dX9_theirsIn_36 ?_
  refine g_iconst (v := 0) (pc := 39) C dX9_theirsIn_39 (by decide) ?_
  refine g_bipush (v := 10) (pc := 40) C dX9_theirsIn_40 (by decide) ?_
  obtain ⟨v6, σ5, hvσ5, h⟩ := zcb h
  refine g_callS (pc := 42) (av := [tJ (v4), tI (0), tI (10)]) C (c_X9_bounded hE hvσ5) ys_X9_bounded ml_X9_434 rfl (rf_of (by decide)) rfl (Nat.le_of_ble_eq_true rfl) dX9_theirsIn_42 ?_
  obtain ⟨rfl, rfl⟩ := zsome h
  exact g_iret (pc := 45) C rfl hx (by rw [hxn]; rfl) (by rw [hxn]; rfl) dX9_theirsIn_45
noncomputable def s_X9_theirsIn_j29 (t0 : Option Nat) (t1 : Int32) (t2 : Int32) (t3 : Int32) (t4 : Int32) (t5 : Int32) (σ : Hp) : Option (Int32 × Hp) :=
  s_X9_theirsIn_j36 (t0) (t1) (t2) (t3) (t4) (t5) (2) σ
set_option maxRecDepth 100000 in
theorem w_X9_theirsIn_j29 {E : E0} (hE : EOK E) {X : X0} (C : XOK E X cX9_theirsIn RX9 3 (some .int) rm_X9_theirsIn) (hxn : xn X = (rm_X9_theirsIn.cells, rm_X9_theirsIn.slots)) (t0 : Option Nat) (t1 : Int32) (t2 : Int32) (t3 : Int32) (t4 : Int32) (t5 : Int32) (σ : Hp) (r : Int32) (σ1 : Hp) (h : s_X9_theirsIn_j29 t0 t1 t2 t3 t4 t5 σ = some (r, σ1)) (hx : xd X = (some (tI r), σ1)) : G E X 0 0 29 [] [tI (t5), tI (t4), tI (t3), tI (t2), tI (t1), tR (t0)] σ := by
  unfold s_X9_theirsIn_j29 at h
  refine g_ldc2 (v := 2) (pc := 29) C dX9_theirsIn_29 kl_X9_346 ?_
  refine g_goto (pc := 32) C 36 dX9_theirsIn_32 (by decide) ?_
  exact w_X9_theirsIn_j36 hE C hxn _ _ _ _ _ _ _ _ _ _ h hx
noncomputable def s_X9_theirsIn (h0 : Nat) (p1 : Int32) (σ : Hp) : Option (Int32 × Hp) :=
  (rdR 9 σ h0 3).bind fun r1 =>
  (r1).bind fun a2 =>
  (ldI 11 σ a2 (7)).bind fun v3 =>
  if 17 < (v3 - v3 / 24 * 24) then
    s_X9_theirsIn_j29 (some (h0)) (0) (p1) ((-1)) ((-1)) ((-1)) σ
  else
    if 6 ≤ (v3 - v3 / 24 * 24) then
      s_X9_theirsIn_j36 (some (h0)) (0) (p1) ((-1)) ((-1)) ((-1)) (0) σ
    else
      s_X9_theirsIn_j29 (some (h0)) (0) (p1) ((-1)) ((-1)) ((-1)) σ
set_option maxRecDepth 100000 in
theorem c_X9_theirsIn {E : E0} (hE : EOK E) {h0 : Nat} {p1 : Int32} {σ σ1 : Hp} {r : Int32} (h : s_X9_theirsIn h0 p1 σ = some (r, σ1)) : CT E yX9_theirsIn (.code yX9_theirsIn cX9_theirsIn 3 (some .int)) rm_X9_theirsIn [tR (some (h0)), tI (p1)] σ (some (tI r)) σ1 := by
  refine CT.mk hE (by decide +kernel) (Nat.le_of_ble_eq_true rfl) [(0, tR (some (h0))), (1, tI (p1))] rfl (fun X C hin hx hxn => ?_)
  have C : XOK E X cX9_theirsIn RX9 3 (some .int) rm_X9_theirsIn := C
  unfold s_X9_theirsIn at h
  refine g_aload_n (pc := 0) C 0 0 dX9_theirsIn_0 rfl rfl ?_
  obtain ⟨r1, hvr1, h⟩ := zbind h
  refine g_getR (N := 58) (pc := 1) C ck_9 hvr1 rfl rfl fl_X9_13 dX9_theirsIn_1 ?_
  refine g_bipush (v := 7) (pc := 4) C dX9_theirsIn_4 (by decide) ?_
  obtain ⟨a2, hqa2, h9⟩ := zbind h
  clear h
  subst hqa2
  have h := h9
  clear h9
  obtain ⟨v3, hvv3, h⟩ := zbind h
  refine g_iald (pc := 6) C hvv3 dX9_theirsIn_6 ?_
  refine g_bipush (v := 24) (pc := 7) C dX9_theirsIn_7 (by decide) ?_
  refine g_irem (pc := 9) C dX9_theirsIn_9 (by decide) ?_
  refine g_istore_n (lm' := [(2, tI (v3 - v3 / 24 * 24)), (0, tR (some (h0))), (1, tI (p1))]) (pc := 10) C 2 dX9_theirsIn_10 rfl (by decide) rfl ?_
  refine g_aload_n (pc := 11) C 0 1 dX9_theirsIn_11 rfl rfl ?_
  refine g_iconst (v := 0) (pc := 12) C dX9_theirsIn_12 (by decide) ?_
  refine g_iload_n (pc := 13) C 1 2 dX9_theirsIn_13 rfl rfl ?_
  refine g_iconst (v := (-1)) (pc := 14) C dX9_theirsIn_14 (by decide) ?_
  refine g_iconst (v := (-1)) (pc := 15) C dX9_theirsIn_15 (by decide) ?_
  refine g_iconst (v := (-1)) (pc := 16) C dX9_theirsIn_16 (by decide) ?_
  refine g_iload_n (pc := 17) C 2 0 dX9_theirsIn_17 rfl rfl ?_
  refine g_bipush (v := 17) (pc := 18) C dX9_theirsIn_18 (by decide) ?_
  refine g_icmp_gt (pc := 20) C 29 dX9_theirsIn_20 (by decide) (fun c5 => ?_) (fun c5 => ?_)
  · have h := zif_t c5 h
    refine g_sub [] (lm' := []) rfl ?_
    exact w_X9_theirsIn_j29 hE C hxn _ _ _ _ _ _ _ _ _ h hx
  · have h := zif_f c5 h
    refine g_iload_n (pc := 23) C 2 0 dX9_theirsIn_23 rfl rfl ?_
    refine g_bipush (v := 6) (pc := 24) C dX9_theirsIn_24 (by decide) ?_
    refine g_icmp_ge (pc := 26) C 35 dX9_theirsIn_26 (by decide) (fun c4 => ?_) (fun c4 => ?_)
    · have h := zif_t c4 h
      refine g_lconst (v := 0) (pc := 35) C dX9_theirsIn_35 (by decide) ?_
      refine g_sub [] (lm' := []) rfl ?_
      exact w_X9_theirsIn_j36 hE C hxn _ _ _ _ _ _ _ _ _ _ h hx
    · have h := zif_f c4 h
      refine g_sub [] (lm' := []) rfl ?_
      exact w_X9_theirsIn_j29 hE C hxn _ _ _ _ _ _ _ _ _ h hx
def rm_X9_isSafe : Room := { frames := 6, cells := 0, slots := 0, locals := 146 }
noncomputable def s_X9_isSafe (h0 : Nat) (p1 : Int32) (σ : Hp) : Option (Int32 × Hp) :=
  (rdR 9 σ h0 3).bind fun r1 =>
  (r1).bind fun a2 =>
  (ldI 11 σ a2 (40 + p1)).bind fun v3 =>
  (rdR 9 σ h0 3).bind fun r4 =>
  (r4).bind fun a5 =>
  (ldI 11 σ a5 (30 + p1)).bind fun v6 =>
  (ck 9 σ h0).bind fun u7 =>
  cb (s_X9_theirsIn h0 (v6) σ) fun v9 σ8 =>
  if v3 < v9 then
    some ((0), σ8)
  else
    some ((1), σ8)
set_option maxRecDepth 100000 in
theorem c_X9_isSafe {E : E0} (hE : EOK E) {h0 : Nat} {p1 : Int32} {σ σ1 : Hp} {r : Int32} (h : s_X9_isSafe h0 p1 σ = some (r, σ1)) : CT E yX9_isSafe (.code yX9_isSafe cX9_isSafe 2 (some .boolean)) rm_X9_isSafe [tR (some (h0)), tI (p1)] σ (some (tI r)) σ1 := by
  refine CT.mk hE (by decide +kernel) (Nat.le_of_ble_eq_true rfl) [(0, tR (some (h0))), (1, tI (p1))] rfl (fun X C hin hx hxn => ?_)
  have C : XOK E X cX9_isSafe RX9 2 (some .boolean) rm_X9_isSafe := C
  unfold s_X9_isSafe at h
  refine g_aload_n (pc := 0) C 0 0 dX9_isSafe_0 rfl rfl ?_
  obtain ⟨r1, hvr1, h⟩ := zbind h
  refine g_getR (N := 58) (pc := 1) C ck_9 hvr1 rfl rfl fl_X9_13 dX9_isSafe_1 ?_
  refine g_bipush (v := 40) (pc := 4) C dX9_isSafe_4 (by decide) ?_
  refine g_iload_n (pc := 6) C 1 1 dX9_isSafe_6 rfl rfl ?_
  refine g_iadd (pc := 7) C dX9_isSafe_7 ?_
  obtain ⟨a2, hqa2, h9⟩ := zbind h
  clear h
  subst hqa2
  have h := h9
  clear h9
  obtain ⟨v3, hvv3, h⟩ := zbind h
  refine g_iald (pc := 8) C hvv3 dX9_isSafe_8 ?_
  refine g_aload_n (pc := 9) C 0 0 dX9_isSafe_9 rfl rfl ?_
  refine g_aload_n (pc := 10) C 0 0 dX9_isSafe_10 rfl rfl ?_
  obtain ⟨r4, hvr4, h⟩ := zbind h
  refine g_getR (N := 58) (pc := 11) C ck_9 hvr4 rfl rfl fl_X9_13 dX9_isSafe_11 ?_
  refine g_bipush (v := 30) (pc := 14) C dX9_isSafe_14 (by decide) ?_
  refine g_iload_n (pc := 16) C 1 1 dX9_isSafe_16 rfl rfl ?_
  refine g_iadd (pc := 17) C dX9_isSafe_17 ?_
  obtain ⟨a5, hqa5, h9⟩ := zbind h
  clear h
  subst hqa5
  have h := h9
  clear h9
  obtain ⟨v6, hvv6, h⟩ := zbind h
  refine g_iald (pc := 18) C hvv6 dX9_isSafe_18 ?_
  obtain ⟨u7, hvu7, h⟩ := zbind h
  obtain ⟨v9, σ8, hvσ8, h⟩ := zcb h
  refine g_callV (pc := 19) (av := [tI (v6)]) C (c_X9_theirsIn hE hvσ8) yv_X9_theirsIn ml_X9_225 ck_9 (zopt hvu7).1 rfl (rf_of (by decide)) rfl (Nat.le_of_ble_eq_true rfl) dX9_isSafe_19 ?_
  refine g_icmp_lt (pc := 22) C 29 dX9_isSafe_22 (by decide) (fun c10 => ?_) (fun c10 => ?_)
  · have h := zif_t c10 h
    refine g_iconst (v := 0) (pc := 29) C dX9_isSafe_29 (by decide) ?_
    obtain ⟨rfl, rfl⟩ := zsome h
    exact g_zret (pc := 30) C rfl hx (by decide) (by rw [hxn]; rfl) (by rw [hxn]; rfl) dX9_isSafe_30
  · have h := zif_f c10 h
    refine g_iconst (v := 1) (pc := 25) C dX9_isSafe_25 (by decide) ?_
    refine g_goto (pc := 26) C 30 dX9_isSafe_26 (by decide) ?_
    obtain ⟨rfl, rfl⟩ := zsome h
    exact g_zret (pc := 30) C rfl hx (by decide) (by rw [hxn]; rfl) (by rw [hxn]; rfl) dX9_isSafe_30
def rm_X9_at : Room := { frames := 7, cells := 0, slots := 0, locals := 167 }
noncomputable def s_X9_at (h0 : Nat) (p1 : Int32) (p2 : Int32) (σ : Hp) : Option (Int32 × Hp) :=
  (wrI 9 σ h0 0 (0)).bind fun σ1 =>
  (ck 9 σ1 h0).bind fun u2 =>
  cb (s_X9_isPerch h0 (p1) σ1) fun v4 σ3 =>
  if v4 = 0 then
    some (((-1)), σ3)
  else
    if p2 = 0 then
      (rdR 9 σ3 h0 3).bind fun r5 =>
      (r5).bind fun a6 =>
      (ldI 11 σ3 a6 (30 + p1)).bind fun v7 =>
      some ((v7), σ3)
    else
      if p2 = 1 then
        (rdR 9 σ3 h0 3).bind fun r9 =>
        (r9).bind fun a10 =>
        (ldI 11 σ3 a10 (40 + p1)).bind fun v11 =>
        some ((v11), σ3)
      else
        if p2 = 2 then
          (ck 9 σ3 h0).bind fun u13 =>
          cb (s_X9_isSafe h0 (p1) σ3) fun v15 σ14 =>
          if v15 = 0 then
            some ((0), σ14)
          else
            some ((1), σ14)
        else
          (rdR 9 σ3 h0 3).bind fun r18 =>
          (r18).bind fun a19 =>
          (ldI 11 σ3 a19 (0)).bind fun v20 =>
          cb (s_X9_in ((Int32.toInt64 (p2 : Int32)) - 3) (0) ((Int32.toInt64 (v20 : Int32)) - 1) σ3) fun v22 σ21 =>
          if v22 = 0 then
            some (((-1)), σ21)
          else
            (ck 9 σ21 h0).bind fun u23 =>
            cb (s_X9_longOf h0 (p1) (p2 - 3) σ21) fun v25 σ24 =>
            some ((v25), σ24)
set_option maxRecDepth 100000 in
theorem c_X9_at {E : E0} (hE : EOK E) {h0 : Nat} {p1 : Int32} {p2 : Int32} {σ σ1 : Hp} {r : Int32} (h : s_X9_at h0 p1 p2 σ = some (r, σ1)) : CT E yX9_at (.code yX9_at cX9_at 3 (some .int)) rm_X9_at [tR (some (h0)), tI (p1), tI (p2)] σ (some (tI r)) σ1 := by
  refine CT.mk hE (by decide +kernel) (Nat.le_of_ble_eq_true rfl) [(0, tR (some (h0))), (1, tI (p1)), (2, tI (p2))] rfl (fun X C hin hx hxn => ?_)
  have C : XOK E X cX9_at RX9 3 (some .int) rm_X9_at := C
  unfold s_X9_at at h
  refine g_aload_n (pc := 0) C 0 0 dX9_at_0 rfl rfl ?_
  refine g_iconst (v := 0) (pc := 1) C dX9_at_1 (by decide) ?_
  obtain ⟨σ1, hvσ1, h⟩ := zbind h
  refine g_putI (N := 58) (pc := 2) C ⟨ck_9, rfl, tyX9_ok⟩ hvσ1 rfl fl_X9_161 rfl rfl dX9_at_2 ?_
  refine g_aload_n (pc := 5) C 0 0 dX9_at_5 rfl rfl ?_
  refine g_iload_n (pc := 6) C 1 1 dX9_at_6 rfl rfl ?_
  obtain ⟨u2, hvu2, h⟩ := zbind h
  obtain ⟨v4, σ3, hvσ3, h⟩ := zcb h
  refine g_callV (pc := 7) (av := [tI (p1)]) C (c_X9_isPerch hE hvσ3) yv_X9_isPerch ml_X9_196 ck_9 (zopt hvu2).1 rfl (rf_of (by decide)) rfl (Nat.le_of_ble_eq_true rfl) dX9_at_7 ?_
  refine g_if_ne (pc := 10) C 15 dX9_at_10 (by decide) (fun c27 => ?_) (fun c27 => ?_)
  · have h := zif_f c27 h
    refine g_iload_n (pc := 15) C 2 2 dX9_at_15 rfl rfl ?_
    by_cases c8 : p2 = 0
    · refine g_tswIn (pc := 16) C 44 dX9_at_16 (by rw [c8]; decide) (by rw [c8]; decide) (by rw [c8]; rfl) (by decide) ?_
      have h := zif_t c8 h
      refine g_aload_n (pc := 44) C 0 0 dX9_at_44 rfl rfl ?_
      obtain ⟨r5, hvr5, h⟩ := zbind h
      refine g_getR (N := 58) (pc := 45) C ck_9 hvr5 rfl rfl fl_X9_13 dX9_at_45 ?_
      refine g_bipush (v := 30) (pc := 48) C dX9_at_48 (by decide) ?_
      refine g_iload_n (pc := 50) C 1 1 dX9_at_50 rfl rfl ?_
      refine g_iadd (pc := 51) C dX9_at_51 ?_
      obtain ⟨a6, hqa6, h9⟩ := zbind h
      clear h
      subst hqa6
      have h := h9
      clear h9
      obtain ⟨v7, hvv7, h⟩ := zbind h
      refine g_iald (pc := 52) C hvv7 dX9_at_52 ?_
      obtain ⟨rfl, rfl⟩ := zsome h
      exact g_iret (pc := 53) C rfl hx (by rw [hxn]; rfl) (by rw [hxn]; rfl) dX9_at_53
    · have h := zif_f c8 h
      by_cases c12 : p2 = 1
      · refine g_tswIn (pc := 16) C 54 dX9_at_16 (by rw [c12]; decide) (by rw [c12]; decide) (by rw [c12]; rfl) (by decide) ?_
        have h := zif_t c12 h
        refine g_aload_n (pc := 54) C 0 0 dX9_at_54 rfl rfl ?_
        obtain ⟨r9, hvr9, h⟩ := zbind h
        refine g_getR (N := 58) (pc := 55) C ck_9 hvr9 rfl rfl fl_X9_13 dX9_at_55 ?_
        refine g_bipush (v := 40) (pc := 58) C dX9_at_58 (by decide) ?_
        refine g_iload_n (pc := 60) C 1 1 dX9_at_60 rfl rfl ?_
        refine g_iadd (pc := 61) C dX9_at_61 ?_
        obtain ⟨a10, hqa10, h9⟩ := zbind h
        clear h
        subst hqa10
        have h := h9
        clear h9
        obtain ⟨v11, hvv11, h⟩ := zbind h
        refine g_iald (pc := 62) C hvv11 dX9_at_62 ?_
        obtain ⟨rfl, rfl⟩ := zsome h
        exact g_iret (pc := 63) C rfl hx (by rw [hxn]; rfl) (by rw [hxn]; rfl) dX9_at_63
      · have h := zif_f c12 h
        by_cases c17 : p2 = 2
        · refine g_tswIn (pc := 16) C 64 dX9_at_16 (by rw [c17]; decide) (by rw [c17]; decide) (by rw [c17]; rfl) (by decide) ?_
          have h := zif_t c17 h
          refine g_aload_n (pc := 64) C 0 0 dX9_at_64 rfl rfl ?_
          refine g_iload_n (pc := 65) C 1 1 dX9_at_65 rfl rfl ?_
          obtain ⟨u13, hvu13, h⟩ := zbind h
          obtain ⟨v15, σ14, hvσ14, h⟩ := zcb h
          refine g_callV (pc := 66) (av := [tI (p1)]) C (c_X9_isSafe hE hvσ14) yv_X9_isSafe ml_X9_200 ck_9 (zopt hvu13).1 rfl (rf_of (by decide)) rfl (Nat.le_of_ble_eq_true rfl) dX9_at_66 ?_
          refine g_if_eq (pc := 69) C 76 dX9_at_69 (by decide) (fun c16 => ?_) (fun c16 => ?_)
          · have h := zif_t c16 h
            refine g_iconst (v := 0) (pc := 76) C dX9_at_76 (by decide) ?_
            obtain ⟨rfl, rfl⟩ := zsome h
            exact g_iret (pc := 77) C rfl hx (by rw [hxn]; rfl) (by rw [hxn]; rfl) dX9_at_77
          · have h := zif_f c16 h
            refine g_iconst (v := 1) (pc := 72) C dX9_at_72 (by decide) ?_
            refine g_goto (pc := 73) C 77 dX9_at_73 (by decide) ?_
            obtain ⟨rfl, rfl⟩ := zsome h
            exact g_iret (pc := 77) C rfl hx (by rw [hxn]; rfl) (by rw [hxn]; rfl) dX9_at_77
        · have h := zif_f c17 h
          refine g_tswOut (pc := 16) C 78 dX9_at_16 (by have ec8 := n32 (k := 0) (n := 0) (by decide) c8; have ec12 := n32 (k := 1) (n := 1) (by decide) c12; have ec17 := n32 (k := 2) (n := 2) (by decide) c17; omega) (by decide) ?_
          refine g_iload_n (pc := 78) C 2 2 dX9_at_78 rfl rfl ?_
          refine g_i2l (pc := 79) C dX9_at_79 ?_
          refine g_ldc2 (v := 3) (pc := 80) C dX9_at_80 kl_X9_203 ?_
          refine g_lsub (pc := 83) C dX9_at_83 ?_
          refine g_lconst (v := 0) (pc := 84) C dX9_at_84 (by decide) ?_
          refine g_aload_n (pc := 85) C 0 0 dX9_at_85 rfl rfl ?_
          obtain ⟨r18, hvr18, h⟩ := zbind h
          refine g_getR (N := 58) (pc := 86) C ck_9 hvr18 rfl rfl fl_X9_13 dX9_at_86 ?_
          refine g_iconst (v := 0) (pc := 89) C dX9_at_89 (by decide) ?_
          obtain ⟨a19, hqa19, h9⟩ := zbind h
          clear h
          subst hqa19
          have h := h9
          clear h9
          obtain ⟨v20, hvv20, h⟩ := zbind h
          refine g_iald (pc := 90) C hvv20 dX9_at_90 ?_
          refine g_i2l (pc := 91) C dX9_at_91 ?_
          refine g_lconst (v := 1) (pc := 92) C dX9_at_92 (by decide) ?_
          refine g_lsub (pc := 93) C dX9_at_93 ?_
          obtain ⟨v22, σ21, hvσ21, h⟩ := zcb h
          refine g_callS (pc := 94) (av := [tJ ((Int32.toInt64 (p2 : Int32)) - 3), tJ (0), tJ ((Int32.toInt64 (v20 : Int32)) - 1)]) C (c_X9_in hE hvσ21) ys_X9_in ml_X9_181 rfl (rf_of (by decide)) rfl (Nat.le_of_ble_eq_true rfl) dX9_at_94 ?_
          refine g_if_eq (pc := 97) C 111 dX9_at_97 (by decide) (fun c26 => ?_) (fun c26 => ?_)
          · have h := zif_t c26 h
            refine g_iconst (v := (-1)) (pc := 111) C dX9_at_111 (by decide) ?_
            obtain ⟨rfl, rfl⟩ := zsome h
            exact g_iret (pc := 112) C rfl hx (by rw [hxn]; rfl) (by rw [hxn]; rfl) dX9_at_112
          · have h := zif_f c26 h
            refine g_aload_n (pc := 100) C 0 0 dX9_at_100 rfl rfl ?_
            refine g_iload_n (pc := 101) C 1 1 dX9_at_101 rfl rfl ?_
            refine g_iload_n (pc := 102) C 2 2 dX9_at_102 rfl rfl ?_
            refine g_iconst (v := 3) (pc := 103) C dX9_at_103 (by decide) ?_
            refine g_isub (pc := 104) C dX9_at_104 ?_
            obtain ⟨u23, hvu23, h⟩ := zbind h
            obtain ⟨v25, σ24, hvσ24, h⟩ := zcb h
            refine g_callV (pc := 105) (av := [tI (p1), tI (p2 - 3)]) C (c_X9_longOf hE hvσ24) yv_X9_longOf ml_X9_205 ck_9 (zopt hvu23).1 rfl (rf_of (by decide)) rfl (Nat.le_of_ble_eq_true rfl) dX9_at_105 ?_
            refine g_goto (pc := 108) C 112 dX9_at_108 (by decide) ?_
            obtain ⟨rfl, rfl⟩ := zsome h
            exact g_iret (pc := 112) C rfl hx (by rw [hxn]; rfl) (by rw [hxn]; rfl) dX9_at_112
  · have h := zif_t c27 h
    refine g_iconst (v := (-1)) (pc := 13) C dX9_at_13 (by decide) ?_
    obtain ⟨rfl, rfl⟩ := zsome h
    exact g_iret (pc := 14) C rfl hx (by rw [hxn]; rfl) (by rw [hxn]; rfl) dX9_at_14
def rm_X9_folk : Room := { frames := 2, cells := 0, slots := 0, locals := 46 }
noncomputable def s_X9_folk (h0 : Nat) (p1 : Int32) (p2 : Int32) (σ : Hp) : Option (Int32 × Hp) :=
  (wrI 9 σ h0 0 (0)).bind fun σ1 =>
  cb (s_X9_in (Int32.toInt64 (p1 : Int32)) (1) (9) σ1) fun v3 σ2 =>
  if v3 = 0 then
    (ck 9 σ2 h0).bind fun u31 =>
    cb (s_X9_tell h0 ((-1)) σ2) fun v33 σ32 =>
    some ((v33), σ32)
  else
    (ck 9 σ2 h0).bind fun u4 =>
    cb (s_X9_isPerch h0 (p2) σ2) fun v6 σ5 =>
    if v6 = 0 then
      (ck 9 σ5 h0).bind fun u27 =>
      cb (s_X9_tell h0 ((-2)) σ5) fun v29 σ28 =>
      some ((v29), σ28)
    else
      (rdR 9 σ5 h0 3).bind fun r7 =>
      (r7).bind fun a8 =>
      (ldI 11 σ5 a8 (1)).bind fun v9 =>
      if v9 = 4 then
        (ck 9 σ5 h0).bind fun u23 =>
        cb (s_X9_tell h0 ((-5)) σ5) fun v25 σ24 =>
        some ((v25), σ24)
      else
        (rdR 9 σ5 h0 3).bind fun r10 =>
        (r10).bind fun a11 =>
        (stI σ5 a11 (150 + v9) (p1)).bind fun σ12 =>
        (rdR 9 σ12 h0 3).bind fun r13 =>
        (r13).bind fun a14 =>
        (stI σ12 a14 (17 + v9) (p2)).bind fun σ15 =>
        (rdR 9 σ15 h0 3).bind fun r16 =>
        (r16).bind fun a17 =>
        (ldI 11 σ15 a17 (1)).bind fun v18 =>
        (stI σ15 a17 (1) (v18 + 1)).bind fun σ19 =>
        (ck 9 σ19 h0).bind fun u20 =>
        cb (s_X9_lasting h0 (v9) σ19) fun v22 σ21 =>
        some ((v22), σ21)
set_option maxRecDepth 100000 in
theorem c_X9_folk {E : E0} (hE : EOK E) {h0 : Nat} {p1 : Int32} {p2 : Int32} {σ σ1 : Hp} {r : Int32} (h : s_X9_folk h0 p1 p2 σ = some (r, σ1)) : CT E yX9_folk (.code yX9_folk cX9_folk 4 (some .int)) rm_X9_folk [tR (some (h0)), tI (p1), tI (p2)] σ (some (tI r)) σ1 := by
  refine CT.mk hE (by decide +kernel) (Nat.le_of_ble_eq_true rfl) [(0, tR (some (h0))), (1, tI (p1)), (2, tI (p2))] rfl (fun X C hin hx hxn => ?_)
  have C : XOK E X cX9_folk RX9 4 (some .int) rm_X9_folk := C
  unfold s_X9_folk at h
  refine g_aload_n (pc := 0) C 0 0 dX9_folk_0 rfl rfl ?_
  refine g_iconst (v := 0) (pc := 1) C dX9_folk_1 (by decide) ?_
  obtain ⟨σ1, hvσ1, h⟩ := zbind h
  refine g_putI (N := 58) (pc := 2) C ⟨ck_9, rfl, tyX9_ok⟩ hvσ1 rfl fl_X9_161 rfl rfl dX9_folk_2 ?_
  refine g_iload_n (pc := 5) C 1 1 dX9_folk_5 rfl rfl ?_
  refine g_i2l (pc := 6) C dX9_folk_6 ?_
  refine g_lconst (v := 1) (pc := 7) C dX9_folk_7 (by decide) ?_
  refine g_ldc2 (v := 9) (pc := 8) C dX9_folk_8 kl_X9_194 ?_
  obtain ⟨v3, σ2, hvσ2, h⟩ := zcb h
  refine g_callS (pc := 11) (av := [tJ (Int32.toInt64 (p1 : Int32)), tJ (1), tJ (9)]) C (c_X9_in hE hvσ2) ys_X9_in ml_X9_181 rfl (rf_of (by decide)) rfl (Nat.le_of_ble_eq_true rfl) dX9_folk_11 ?_
  refine g_if_ne (pc := 14) C 23 dX9_folk_14 (by decide) (fun c34 => ?_) (fun c34 => ?_)
  · have h := zif_f c34 h
    refine g_aload_n (pc := 23) C 0 0 dX9_folk_23 rfl rfl ?_
    refine g_iload_n (pc := 24) C 2 2 dX9_folk_24 rfl rfl ?_
    obtain ⟨u4, hvu4, h⟩ := zbind h
    obtain ⟨v6, σ5, hvσ5, h⟩ := zcb h
    refine g_callV (pc := 25) (av := [tI (p2)]) C (c_X9_isPerch hE hvσ5) yv_X9_isPerch ml_X9_196 ck_9 (zopt hvu4).1 rfl (rf_of (by decide)) rfl (Nat.le_of_ble_eq_true rfl) dX9_folk_25 ?_
    refine g_if_ne (pc := 28) C 38 dX9_folk_28 (by decide) (fun c30 => ?_) (fun c30 => ?_)
    · have h := zif_f c30 h
      refine g_aload_n (pc := 38) C 0 0 dX9_folk_38 rfl rfl ?_
      obtain ⟨r7, hvr7, h⟩ := zbind h
      refine g_getR (N := 58) (pc := 39) C ck_9 hvr7 rfl rfl fl_X9_13 dX9_folk_39 ?_
      refine g_iconst (v := 1) (pc := 42) C dX9_folk_42 (by decide) ?_
      obtain ⟨a8, hqa8, h9⟩ := zbind h
      clear h
      subst hqa8
      have h := h9
      clear h9
      obtain ⟨v9, hvv9, h⟩ := zbind h
      refine g_iald (pc := 43) C hvv9 dX9_folk_43 ?_
      refine g_istore_n (lm' := [(3, tI (v9)), (0, tR (some (h0))), (1, tI (p1)), (2, tI (p2))]) (pc := 44) C 3 dX9_folk_44 rfl (by decide) rfl ?_
      refine g_iload_n (pc := 45) C 3 0 dX9_folk_45 rfl rfl ?_
      refine g_iconst (v := 4) (pc := 46) C dX9_folk_46 (by decide) ?_
      refine g_icmp_ne (pc := 47) C 57 dX9_folk_47 (by decide) (fun c26 => ?_) (fun c26 => ?_)
      · have h := zif_f c26 h
        refine g_aload_n (pc := 57) C 0 1 dX9_folk_57 rfl rfl ?_
        obtain ⟨r10, hvr10, h⟩ := zbind h
        refine g_getR (N := 58) (pc := 58) C ck_9 hvr10 rfl rfl fl_X9_13 dX9_folk_58 ?_
        refine g_sipush (v := 150) (pc := 61) C dX9_folk_61 (by decide) ?_
        refine g_iload_n (pc := 64) C 3 0 dX9_folk_64 rfl rfl ?_
        refine g_iadd (pc := 65) C dX9_folk_65 ?_
        refine g_iload_n (pc := 66) C 1 2 dX9_folk_66 rfl rfl ?_
        obtain ⟨a11, hqa11, h9⟩ := zbind h
        clear h
        subst hqa11
        have h := h9
        clear h9
        obtain ⟨σ12, hvσ12, h⟩ := zbind h
        refine g_iast (pc := 67) C hvσ12 dX9_folk_67 ?_
        refine g_aload_n (pc := 68) C 0 1 dX9_folk_68 rfl rfl ?_
        obtain ⟨r13, hvr13, h⟩ := zbind h
        refine g_getR (N := 58) (pc := 69) C ck_9 hvr13 rfl rfl fl_X9_13 dX9_folk_69 ?_
        refine g_bipush (v := 17) (pc := 72) C dX9_folk_72 (by decide) ?_
        refine g_iload_n (pc := 74) C 3 0 dX9_folk_74 rfl rfl ?_
        refine g_iadd (pc := 75) C dX9_folk_75 ?_
        refine g_iload_n (pc := 76) C 2 3 dX9_folk_76 rfl rfl ?_
        obtain ⟨a14, hqa14, h9⟩ := zbind h
        clear h
        subst hqa14
        have h := h9
        clear h9
        obtain ⟨σ15, hvσ15, h⟩ := zbind h
        refine g_iast (pc := 77) C hvσ15 dX9_folk_77 ?_
        refine g_aload_n (pc := 78) C 0 1 dX9_folk_78 rfl rfl ?_
        obtain ⟨r16, hvr16, h⟩ := zbind h
        refine g_getR (N := 58) (pc := 79) C ck_9 hvr16 rfl rfl fl_X9_13 dX9_folk_79 ?_
        refine g_iconst (v := 1) (pc := 82) C dX9_folk_82 (by decide) ?_
        refine g_dup2 (pc := 83) C dX9_folk_83 rfl rfl ?_
        obtain ⟨a17, hqa17, h9⟩ := zbind h
        clear h
        subst hqa17
        have h := h9
        clear h9
        obtain ⟨v18, hvv18, h⟩ := zbind h
        refine g_iald (pc := 84) C hvv18 dX9_folk_84 ?_
        refine g_iconst (v := 1) (pc := 85) C dX9_folk_85 (by decide) ?_
        refine g_iadd (pc := 86) C dX9_folk_86 ?_
        obtain ⟨σ19, hvσ19, h⟩ := zbind h
        refine g_iast (pc := 87) C hvσ19 dX9_folk_87 ?_
        refine g_aload_n (pc := 88) C 0 1 dX9_folk_88 rfl rfl ?_
        refine g_iload_n (pc := 89) C 3 0 dX9_folk_89 rfl rfl ?_
        obtain ⟨u20, hvu20, h⟩ := zbind h
        obtain ⟨v22, σ21, hvσ21, h⟩ := zcb h
        refine g_callV (pc := 90) (av := [tI (v9)]) C (c_X9_lasting hE hvσ21) yv_X9_lasting ml_X9_185 ck_9 (zopt hvu20).1 rfl (rf_of (by decide)) rfl (Nat.le_of_ble_eq_true rfl) dX9_folk_90 ?_
        obtain ⟨rfl, rfl⟩ := zsome h
        exact g_iret (pc := 93) C rfl hx (by rw [hxn]; rfl) (by rw [hxn]; rfl) dX9_folk_93
      · have h := zif_t c26 h
        refine g_aload_n (pc := 50) C 0 1 dX9_folk_50 rfl rfl ?_
        refine g_bipush (v := (-5)) (pc := 51) C dX9_folk_51 (by decide) ?_
        obtain ⟨u23, hvu23, h⟩ := zbind h
        obtain ⟨v25, σ24, hvσ24, h⟩ := zcb h
        refine g_callV (pc := 53) (av := [tI ((-5))]) C (c_X9_tell hE hvσ24) yv_X9_tell ml_X9_170 ck_9 (zopt hvu23).1 rfl (rf_of (by decide)) rfl (Nat.le_of_ble_eq_true rfl) dX9_folk_53 ?_
        obtain ⟨rfl, rfl⟩ := zsome h
        exact g_iret (pc := 56) C rfl hx (by rw [hxn]; rfl) (by rw [hxn]; rfl) dX9_folk_56
    · have h := zif_t c30 h
      refine g_aload_n (pc := 31) C 0 0 dX9_folk_31 rfl rfl ?_
      refine g_bipush (v := (-2)) (pc := 32) C dX9_folk_32 (by decide) ?_
      obtain ⟨u27, hvu27, h⟩ := zbind h
      obtain ⟨v29, σ28, hvσ28, h⟩ := zcb h
      refine g_callV (pc := 34) (av := [tI ((-2))]) C (c_X9_tell hE hvσ28) yv_X9_tell ml_X9_170 ck_9 (zopt hvu27).1 rfl (rf_of (by decide)) rfl (Nat.le_of_ble_eq_true rfl) dX9_folk_34 ?_
      obtain ⟨rfl, rfl⟩ := zsome h
      exact g_iret (pc := 37) C rfl hx (by rw [hxn]; rfl) (by rw [hxn]; rfl) dX9_folk_37
  · have h := zif_t c34 h
    refine g_aload_n (pc := 17) C 0 0 dX9_folk_17 rfl rfl ?_
    refine g_iconst (v := (-1)) (pc := 18) C dX9_folk_18 (by decide) ?_
    obtain ⟨u31, hvu31, h⟩ := zbind h
    obtain ⟨v33, σ32, hvσ32, h⟩ := zcb h
    refine g_callV (pc := 19) (av := [tI ((-1))]) C (c_X9_tell hE hvσ32) yv_X9_tell ml_X9_170 ck_9 (zopt hvu31).1 rfl (rf_of (by decide)) rfl (Nat.le_of_ble_eq_true rfl) dX9_folk_19 ?_
    obtain ⟨rfl, rfl⟩ := zsome h
    exact g_iret (pc := 22) C rfl hx (by rw [hxn]; rfl) (by rw [hxn]; rfl) dX9_folk_22
def rm_X9_of : Room := { frames := 2, cells := 0, slots := 0, locals := 46 }
noncomputable def s_X9_of (h0 : Nat) (p1 : Int32) (p2 : Int32) (σ : Hp) : Option (Int32 × Hp) :=
  (wrI 9 σ h0 0 (0)).bind fun σ1 =>
  (ck 9 σ1 h0).bind fun u2 =>
  cb (s_X9_isFolk h0 (p1) σ1) fun v4 σ3 =>
  if v4 = 0 then
    some (((-1)), σ3)
  else
    cb (s_X9_in (Int32.toInt64 (p2 : Int32)) (0) (1) σ3) fun v6 σ5 =>
    if v6 = 0 then
      some (((-1)), σ5)
    else
      if p2 = 0 then
        (rdR 9 σ5 h0 3).bind fun r10 =>
        (r10).bind fun a11 =>
        (ldI 11 σ5 a11 (150 + p1)).bind fun v12 =>
        some ((v12), σ5)
      else
        (rdR 9 σ5 h0 3).bind fun r7 =>
        (r7).bind fun a8 =>
        (ldI 11 σ5 a8 (17 + p1)).bind fun v9 =>
        some ((v9), σ5)
set_option maxRecDepth 100000 in
theorem c_X9_of {E : E0} (hE : EOK E) {h0 : Nat} {p1 : Int32} {p2 : Int32} {σ σ1 : Hp} {r : Int32} (h : s_X9_of h0 p1 p2 σ = some (r, σ1)) : CT E yX9_of (.code yX9_of cX9_of 3 (some .int)) rm_X9_of [tR (some (h0)), tI (p1), tI (p2)] σ (some (tI r)) σ1 := by
  refine CT.mk hE (by decide +kernel) (Nat.le_of_ble_eq_true rfl) [(0, tR (some (h0))), (1, tI (p1)), (2, tI (p2))] rfl (fun X C hin hx hxn => ?_)
  have C : XOK E X cX9_of RX9 3 (some .int) rm_X9_of := C
  unfold s_X9_of at h
  refine g_aload_n (pc := 0) C 0 0 dX9_of_0 rfl rfl ?_
  refine g_iconst (v := 0) (pc := 1) C dX9_of_1 (by decide) ?_
  obtain ⟨σ1, hvσ1, h⟩ := zbind h
  refine g_putI (N := 58) (pc := 2) C ⟨ck_9, rfl, tyX9_ok⟩ hvσ1 rfl fl_X9_161 rfl rfl dX9_of_2 ?_
  refine g_aload_n (pc := 5) C 0 0 dX9_of_5 rfl rfl ?_
  refine g_iload_n (pc := 6) C 1 1 dX9_of_6 rfl rfl ?_
  obtain ⟨u2, hvu2, h⟩ := zbind h
  obtain ⟨v4, σ3, hvσ3, h⟩ := zcb h
  refine g_callV (pc := 7) (av := [tI (p1)]) C (c_X9_isFolk hE hvσ3) yv_X9_isFolk ml_X9_209 ck_9 (zopt hvu2).1 rfl (rf_of (by decide)) rfl (Nat.le_of_ble_eq_true rfl) dX9_of_7 ?_
  refine g_if_eq (pc := 10) C 23 dX9_of_10 (by decide) (fun c15 => ?_) (fun c15 => ?_)
  · have h := zif_t c15 h
    refine g_iconst (v := (-1)) (pc := 23) C dX9_of_23 (by decide) ?_
    obtain ⟨rfl, rfl⟩ := zsome h
    exact g_iret (pc := 24) C rfl hx (by rw [hxn]; rfl) (by rw [hxn]; rfl) dX9_of_24
  · have h := zif_f c15 h
    refine g_iload_n (pc := 13) C 2 2 dX9_of_13 rfl rfl ?_
    refine g_i2l (pc := 14) C dX9_of_14 ?_
    refine g_lconst (v := 0) (pc := 15) C dX9_of_15 (by decide) ?_
    refine g_lconst (v := 1) (pc := 16) C dX9_of_16 (by decide) ?_
    obtain ⟨v6, σ5, hvσ5, h⟩ := zcb h
    refine g_callS (pc := 17) (av := [tJ (Int32.toInt64 (p2 : Int32)), tJ (0), tJ (1)]) C (c_X9_in hE hvσ5) ys_X9_in ml_X9_181 rfl (rf_of (by decide)) rfl (Nat.le_of_ble_eq_true rfl) dX9_of_17 ?_
    refine g_if_ne (pc := 20) C 25 dX9_of_20 (by decide) (fun c14 => ?_) (fun c14 => ?_)
    · have h := zif_f c14 h
      refine g_iload_n (pc := 25) C 2 2 dX9_of_25 rfl rfl ?_
      refine g_if_ne (pc := 26) C 42 dX9_of_26 (by decide) (fun c13 => ?_) (fun c13 => ?_)
      · have h := zif_f c13 h
        refine g_aload_n (pc := 42) C 0 0 dX9_of_42 rfl rfl ?_
        obtain ⟨r7, hvr7, h⟩ := zbind h
        refine g_getR (N := 58) (pc := 43) C ck_9 hvr7 rfl rfl fl_X9_13 dX9_of_43 ?_
        refine g_bipush (v := 17) (pc := 46) C dX9_of_46 (by decide) ?_
        refine g_iload_n (pc := 48) C 1 1 dX9_of_48 rfl rfl ?_
        refine g_iadd (pc := 49) C dX9_of_49 ?_
        obtain ⟨a8, hqa8, h9⟩ := zbind h
        clear h
        subst hqa8
        have h := h9
        clear h9
        obtain ⟨v9, hvv9, h⟩ := zbind h
        refine g_iald (pc := 50) C hvv9 dX9_of_50 ?_
        obtain ⟨rfl, rfl⟩ := zsome h
        exact g_iret (pc := 51) C rfl hx (by rw [hxn]; rfl) (by rw [hxn]; rfl) dX9_of_51
      · have h := zif_t c13 h
        refine g_aload_n (pc := 29) C 0 0 dX9_of_29 rfl rfl ?_
        obtain ⟨r10, hvr10, h⟩ := zbind h
        refine g_getR (N := 58) (pc := 30) C ck_9 hvr10 rfl rfl fl_X9_13 dX9_of_30 ?_
        refine g_sipush (v := 150) (pc := 33) C dX9_of_33 (by decide) ?_
        refine g_iload_n (pc := 36) C 1 1 dX9_of_36 rfl rfl ?_
        refine g_iadd (pc := 37) C dX9_of_37 ?_
        obtain ⟨a11, hqa11, h9⟩ := zbind h
        clear h
        subst hqa11
        have h := h9
        clear h9
        obtain ⟨v12, hvv12, h⟩ := zbind h
        refine g_iald (pc := 38) C hvv12 dX9_of_38 ?_
        refine g_goto (pc := 39) C 51 dX9_of_39 (by decide) ?_
        obtain ⟨rfl, rfl⟩ := zsome h
        exact g_iret (pc := 51) C rfl hx (by rw [hxn]; rfl) (by rw [hxn]; rfl) dX9_of_51
    · have h := zif_t c14 h
      refine g_iconst (v := (-1)) (pc := 23) C dX9_of_23 (by decide) ?_
      obtain ⟨rfl, rfl⟩ := zsome h
      exact g_iret (pc := 24) C rfl hx (by rw [hxn]; rfl) (by rw [hxn]; rfl) dX9_of_24
def rm_X9_badger : Room := { frames := 2, cells := 0, slots := 0, locals := 46 }
noncomputable def s_X9_badger (h0 : Nat) (p1 : Int32) (σ : Hp) : Option (Int32 × Hp) :=
  (wrI 9 σ h0 0 (0)).bind fun σ1 =>
  cb (s_X9_isRoom (Int32.toInt64 (p1 : Int32)) σ1) fun v3 σ2 =>
  if v3 = 0 then
    (ck 9 σ2 h0).bind fun u21 =>
    cb (s_X9_tell h0 ((-1)) σ2) fun v23 σ22 =>
    some ((v23), σ22)
  else
    (rdR 9 σ2 h0 3).bind fun r4 =>
    (r4).bind fun a5 =>
    (ldI 11 σ2 a5 (2)).bind fun v6 =>
    if v6 = 3 then
      (ck 9 σ2 h0).bind fun u17 =>
      cb (s_X9_tell h0 ((-5)) σ2) fun v19 σ18 =>
      some ((v19), σ18)
    else
      (rdR 9 σ2 h0 3).bind fun r7 =>
      (r7).bind fun a8 =>
      (stI σ2 a8 (21 + v6) (p1)).bind fun σ9 =>
      (rdR 9 σ9 h0 3).bind fun r10 =>
      (r10).bind fun a11 =>
      (ldI 11 σ9 a11 (2)).bind fun v12 =>
      (stI σ9 a11 (2) (v12 + 1)).bind fun σ13 =>
      (ck 9 σ13 h0).bind fun u14 =>
      cb (s_X9_lasting h0 (v6) σ13) fun v16 σ15 =>
      some ((v16), σ15)
set_option maxRecDepth 100000 in
theorem c_X9_badger {E : E0} (hE : EOK E) {h0 : Nat} {p1 : Int32} {σ σ1 : Hp} {r : Int32} (h : s_X9_badger h0 p1 σ = some (r, σ1)) : CT E yX9_badger (.code yX9_badger cX9_badger 3 (some .int)) rm_X9_badger [tR (some (h0)), tI (p1)] σ (some (tI r)) σ1 := by
  refine CT.mk hE (by decide +kernel) (Nat.le_of_ble_eq_true rfl) [(0, tR (some (h0))), (1, tI (p1))] rfl (fun X C hin hx hxn => ?_)
  have C : XOK E X cX9_badger RX9 3 (some .int) rm_X9_badger := C
  unfold s_X9_badger at h
  refine g_aload_n (pc := 0) C 0 0 dX9_badger_0 rfl rfl ?_
  refine g_iconst (v := 0) (pc := 1) C dX9_badger_1 (by decide) ?_
  obtain ⟨σ1, hvσ1, h⟩ := zbind h
  refine g_putI (N := 58) (pc := 2) C ⟨ck_9, rfl, tyX9_ok⟩ hvσ1 rfl fl_X9_161 rfl rfl dX9_badger_2 ?_
  refine g_iload_n (pc := 5) C 1 1 dX9_badger_5 rfl rfl ?_
  refine g_i2l (pc := 6) C dX9_badger_6 ?_
  obtain ⟨v3, σ2, hvσ2, h⟩ := zcb h
  refine g_callS (pc := 7) (av := [tJ (Int32.toInt64 (p1 : Int32))]) C (c_X9_isRoom hE hvσ2) ys_X9_isRoom ml_X9_190 rfl (rf_of (by decide)) rfl (Nat.le_of_ble_eq_true rfl) dX9_badger_7 ?_
  refine g_if_ne (pc := 10) C 19 dX9_badger_10 (by decide) (fun c24 => ?_) (fun c24 => ?_)
  · have h := zif_f c24 h
    refine g_aload_n (pc := 19) C 0 0 dX9_badger_19 rfl rfl ?_
    obtain ⟨r4, hvr4, h⟩ := zbind h
    refine g_getR (N := 58) (pc := 20) C ck_9 hvr4 rfl rfl fl_X9_13 dX9_badger_20 ?_
    refine g_iconst (v := 2) (pc := 23) C dX9_badger_23 (by decide) ?_
    obtain ⟨a5, hqa5, h9⟩ := zbind h
    clear h
    subst hqa5
    have h := h9
    clear h9
    obtain ⟨v6, hvv6, h⟩ := zbind h
    refine g_iald (pc := 24) C hvv6 dX9_badger_24 ?_
    refine g_istore_n (lm' := [(2, tI (v6)), (0, tR (some (h0))), (1, tI (p1))]) (pc := 25) C 2 dX9_badger_25 rfl (by decide) rfl ?_
    refine g_iload_n (pc := 26) C 2 0 dX9_badger_26 rfl rfl ?_
    refine g_iconst (v := 3) (pc := 27) C dX9_badger_27 (by decide) ?_
    refine g_icmp_ne (pc := 28) C 38 dX9_badger_28 (by decide) (fun c20 => ?_) (fun c20 => ?_)
    · have h := zif_f c20 h
      refine g_aload_n (pc := 38) C 0 1 dX9_badger_38 rfl rfl ?_
      obtain ⟨r7, hvr7, h⟩ := zbind h
      refine g_getR (N := 58) (pc := 39) C ck_9 hvr7 rfl rfl fl_X9_13 dX9_badger_39 ?_
      refine g_bipush (v := 21) (pc := 42) C dX9_badger_42 (by decide) ?_
      refine g_iload_n (pc := 44) C 2 0 dX9_badger_44 rfl rfl ?_
      refine g_iadd (pc := 45) C dX9_badger_45 ?_
      refine g_iload_n (pc := 46) C 1 2 dX9_badger_46 rfl rfl ?_
      obtain ⟨a8, hqa8, h9⟩ := zbind h
      clear h
      subst hqa8
      have h := h9
      clear h9
      obtain ⟨σ9, hvσ9, h⟩ := zbind h
      refine g_iast (pc := 47) C hvσ9 dX9_badger_47 ?_
      refine g_aload_n (pc := 48) C 0 1 dX9_badger_48 rfl rfl ?_
      obtain ⟨r10, hvr10, h⟩ := zbind h
      refine g_getR (N := 58) (pc := 49) C ck_9 hvr10 rfl rfl fl_X9_13 dX9_badger_49 ?_
      refine g_iconst (v := 2) (pc := 52) C dX9_badger_52 (by decide) ?_
      refine g_dup2 (pc := 53) C dX9_badger_53 rfl rfl ?_
      obtain ⟨a11, hqa11, h9⟩ := zbind h
      clear h
      subst hqa11
      have h := h9
      clear h9
      obtain ⟨v12, hvv12, h⟩ := zbind h
      refine g_iald (pc := 54) C hvv12 dX9_badger_54 ?_
      refine g_iconst (v := 1) (pc := 55) C dX9_badger_55 (by decide) ?_
      refine g_iadd (pc := 56) C dX9_badger_56 ?_
      obtain ⟨σ13, hvσ13, h⟩ := zbind h
      refine g_iast (pc := 57) C hvσ13 dX9_badger_57 ?_
      refine g_aload_n (pc := 58) C 0 1 dX9_badger_58 rfl rfl ?_
      refine g_iload_n (pc := 59) C 2 0 dX9_badger_59 rfl rfl ?_
      obtain ⟨u14, hvu14, h⟩ := zbind h
      obtain ⟨v16, σ15, hvσ15, h⟩ := zcb h
      refine g_callV (pc := 60) (av := [tI (v6)]) C (c_X9_lasting hE hvσ15) yv_X9_lasting ml_X9_185 ck_9 (zopt hvu14).1 rfl (rf_of (by decide)) rfl (Nat.le_of_ble_eq_true rfl) dX9_badger_60 ?_
      obtain ⟨rfl, rfl⟩ := zsome h
      exact g_iret (pc := 63) C rfl hx (by rw [hxn]; rfl) (by rw [hxn]; rfl) dX9_badger_63
    · have h := zif_t c20 h
      refine g_aload_n (pc := 31) C 0 1 dX9_badger_31 rfl rfl ?_
      refine g_bipush (v := (-5)) (pc := 32) C dX9_badger_32 (by decide) ?_
      obtain ⟨u17, hvu17, h⟩ := zbind h
      obtain ⟨v19, σ18, hvσ18, h⟩ := zcb h
      refine g_callV (pc := 34) (av := [tI ((-5))]) C (c_X9_tell hE hvσ18) yv_X9_tell ml_X9_170 ck_9 (zopt hvu17).1 rfl (rf_of (by decide)) rfl (Nat.le_of_ble_eq_true rfl) dX9_badger_34 ?_
      obtain ⟨rfl, rfl⟩ := zsome h
      exact g_iret (pc := 37) C rfl hx (by rw [hxn]; rfl) (by rw [hxn]; rfl) dX9_badger_37
  · have h := zif_t c24 h
    refine g_aload_n (pc := 13) C 0 0 dX9_badger_13 rfl rfl ?_
    refine g_iconst (v := (-1)) (pc := 14) C dX9_badger_14 (by decide) ?_
    obtain ⟨u21, hvu21, h⟩ := zbind h
    obtain ⟨v23, σ22, hvσ22, h⟩ := zcb h
    refine g_callV (pc := 15) (av := [tI ((-1))]) C (c_X9_tell hE hvσ22) yv_X9_tell ml_X9_170 ck_9 (zopt hvu21).1 rfl (rf_of (by decide)) rfl (Nat.le_of_ble_eq_true rfl) dX9_badger_15 ?_
    obtain ⟨rfl, rfl⟩ := zsome h
    exact g_iret (pc := 18) C rfl hx (by rw [hxn]; rfl) (by rw [hxn]; rfl) dX9_badger_18
def rm_X9_goesTo : Room := { frames := 5, cells := 0, slots := 0, locals := 124 }
noncomputable def s_X9_goesTo (h0 : Nat) (p1 : Int32) (σ : Hp) : Option (Int32 × Hp) :=
  (rdR 9 σ h0 3).bind fun r1 =>
  (r1).bind fun a2 =>
  (ldI 11 σ a2 (21 + p1)).bind fun v3 =>
  (ck 9 σ h0).bind fun u4 =>
  cb (s_X9_tells h0 (1) (v3) (p1) ((-1)) ((-1)) (Int32.toInt64 ((v3 + 1) - (v3 + 1) / 6 * 6 : Int32)) σ) fun v6 σ5 =>
  cb (s_X9_isRoom (v6) σ5) fun v8 σ7 =>
  if v8 = 0 then
    some ((v3), σ7)
  else
    (rdR 9 σ7 h0 3).bind fun r9 =>
    (r9).bind fun a10 =>
    (ldI 11 σ7 a10 (11 + v3)).bind fun v11 =>
    cb (s_X9_is (v11) (Int64.toInt32 (v6 : Int64)) σ7) fun v13 σ12 =>
    if v13 = 0 then
      some ((v3), σ12)
    else
      some ((Int64.toInt32 (v6 : Int64)), σ12)
set_option maxRecDepth 100000 in
theorem c_X9_goesTo {E : E0} (hE : EOK E) {h0 : Nat} {p1 : Int32} {σ σ1 : Hp} {r : Int32} (h : s_X9_goesTo h0 p1 σ = some (r, σ1)) : CT E yX9_goesTo (.code yX9_goesTo cX9_goesTo 5 (some .int)) rm_X9_goesTo [tR (some (h0)), tI (p1)] σ (some (tI r)) σ1 := by
  refine CT.mk hE (by decide +kernel) (Nat.le_of_ble_eq_true rfl) [(0, tR (some (h0))), (1, tI (p1))] rfl (fun X C hin hx hxn => ?_)
  have C : XOK E X cX9_goesTo RX9 5 (some .int) rm_X9_goesTo := C
  unfold s_X9_goesTo at h
  refine g_aload_n (pc := 0) C 0 0 dX9_goesTo_0 rfl rfl ?_
  obtain ⟨r1, hvr1, h⟩ := zbind h
  refine g_getR (N := 58) (pc := 1) C ck_9 hvr1 rfl rfl fl_X9_13 dX9_goesTo_1 ?_
  refine g_bipush (v := 21) (pc := 4) C dX9_goesTo_4 (by decide) ?_
  refine g_iload_n (pc := 6) C 1 1 dX9_goesTo_6 rfl rfl ?_
  refine g_iadd (pc := 7) C dX9_goesTo_7 ?_
  obtain ⟨a2, hqa2, h9⟩ := zbind h
  clear h
  subst hqa2
  have h := h9
  clear h9
  obtain ⟨v3, hvv3, h⟩ := zbind h
  refine g_iald (pc := 8) C hvv3 dX9_goesTo_8 ?_
  refine g_istore_n (lm' := [(2, tI (v3)), (0, tR (some (h0))), (1, tI (p1))]) (pc := 9) C 2 dX9_goesTo_9 rfl (by decide) rfl ?_
  refine g_aload_n (pc := 10) C 0 1 dX9_goesTo_10 rfl rfl ?_
  refine g_iconst (v := 1) (pc := 11) C dX9_goesTo_11 (by decide) ?_
  refine g_iload_n (pc := 12) C 2 0 dX9_goesTo_12 rfl rfl ?_
  refine g_iload_n (pc := 13) C 1 2 dX9_goesTo_13 rfl rfl ?_
  refine g_iconst (v := (-1)) (pc := 14) C dX9_goesTo_14 (by decide) ?_
  refine g_iconst (v := (-1)) (pc := 15) C dX9_goesTo_15 (by decide) ?_
  refine g_iload_n (pc := 16) C 2 0 dX9_goesTo_16 rfl rfl ?_
  refine g_iconst (v := 1) (pc := 17) C dX9_goesTo_17 (by decide) ?_
  refine g_iadd (pc := 18) C dX9_goesTo_18 ?_
  refine g_bipush (v := 6) (pc := 19) C dX9_goesTo_19 (by decide) ?_
  refine g_irem (pc := 21) C dX9_goesTo_21 (by decide) ?_
  refine g_i2l (pc := 22) C dX9_goesTo_22 ?_
  obtain ⟨u4, hvu4, h⟩ := zbind h
  obtain ⟨v6, σ5, hvσ5, h⟩ := zcb h
  refine g_callV (pc := 23) (av := [tI (1), tI (v3), tI (p1), tI ((-1)), tI ((-1)), tJ (Int32.toInt64 ((v3 + 1) - (v3 + 1) / 6 * 6 : Int32))]) C (c_X9_tells hE hvσ5) yv_X9_tells ml_X9_430 ck_9 (zopt hvu4).1 rfl (rf_of (by decide)) rfl (Nat.le_of_ble_eq_true rfl) dX9_goesTo_23 ?_
  refine g_lstore_n (lm' := [(3, tJ (v6)), (2, tI (v3)), (0, tR (some (h0))), (1, tI (p1))]) (pc := 26) C 3 dX9_goesTo_26 rfl (by decide) rfl ?_
  refine g_lload_n (pc := 27) C 3 0 dX9_goesTo_27 rfl rfl ?_
  obtain ⟨v8, σ7, hvσ7, h⟩ := zcb h
  refine g_callS (pc := 28) (av := [tJ (v6)]) C (c_X9_isRoom hE hvσ7) ys_X9_isRoom ml_X9_190 rfl (rf_of (by decide)) rfl (Nat.le_of_ble_eq_true rfl) dX9_goesTo_28 ?_
  refine g_if_eq (pc := 31) C 56 dX9_goesTo_31 (by decide) (fun c15 => ?_) (fun c15 => ?_)
  · have h := zif_t c15 h
    refine g_iload_n (pc := 56) C 2 1 dX9_goesTo_56 rfl rfl ?_
    obtain ⟨rfl, rfl⟩ := zsome h
    exact g_iret (pc := 57) C rfl hx (by rw [hxn]; rfl) (by rw [hxn]; rfl) dX9_goesTo_57
  · have h := zif_f c15 h
    refine g_aload_n (pc := 34) C 0 2 dX9_goesTo_34 rfl rfl ?_
    obtain ⟨r9, hvr9, h⟩ := zbind h
    refine g_getR (N := 58) (pc := 35) C ck_9 hvr9 rfl rfl fl_X9_13 dX9_goesTo_35 ?_
    refine g_bipush (v := 11) (pc := 38) C dX9_goesTo_38 (by decide) ?_
    refine g_iload_n (pc := 40) C 2 1 dX9_goesTo_40 rfl rfl ?_
    refine g_iadd (pc := 41) C dX9_goesTo_41 ?_
    obtain ⟨a10, hqa10, h9⟩ := zbind h
    clear h
    subst hqa10
    have h := h9
    clear h9
    obtain ⟨v11, hvv11, h⟩ := zbind h
    refine g_iald (pc := 42) C hvv11 dX9_goesTo_42 ?_
    refine g_lload_n (pc := 43) C 3 0 dX9_goesTo_43 rfl rfl ?_
    refine g_l2i (pc := 44) C dX9_goesTo_44 ?_
    obtain ⟨v13, σ12, hvσ12, h⟩ := zcb h
    refine g_callS (pc := 45) (av := [tI (v11), tI (Int64.toInt32 (v6 : Int64))]) C (c_X9_is hE hvσ12) ys_X9_is ml_X9_438 rfl (rf_of (by decide)) rfl (Nat.le_of_ble_eq_true rfl) dX9_goesTo_45 ?_
    refine g_if_eq (pc := 48) C 56 dX9_goesTo_48 (by decide) (fun c14 => ?_) (fun c14 => ?_)
    · have h := zif_t c14 h
      refine g_iload_n (pc := 56) C 2 1 dX9_goesTo_56 rfl rfl ?_
      obtain ⟨rfl, rfl⟩ := zsome h
      exact g_iret (pc := 57) C rfl hx (by rw [hxn]; rfl) (by rw [hxn]; rfl) dX9_goesTo_57
    · have h := zif_f c14 h
      refine g_lload_n (pc := 51) C 3 0 dX9_goesTo_51 rfl rfl ?_
      refine g_l2i (pc := 52) C dX9_goesTo_52 ?_
      refine g_goto (pc := 53) C 57 dX9_goesTo_53 (by decide) ?_
      obtain ⟨rfl, rfl⟩ := zsome h
      exact g_iret (pc := 57) C rfl hx (by rw [hxn]; rfl) (by rw [hxn]; rfl) dX9_goesTo_57
def rm_X9_sow : Room := { frames := 6, cells := 0, slots := 0, locals := 148 }
noncomputable def s_X9_sow (h0 : Nat) (p1 : Int32) (p2 : Int32) (σ : Hp) : Option (Int32 × Hp) :=
  (wrI 9 σ h0 0 (0)).bind fun σ1 =>
  (ck 9 σ1 h0).bind fun u2 =>
  cb (s_X9_isBadger h0 (p1) σ1) fun v4 σ3 =>
  if v4 = 0 then
    some (((-1)), σ3)
  else
    cb (s_X9_in (Int32.toInt64 (p2 : Int32)) (0) (1) σ3) fun v6 σ5 =>
    if v6 = 0 then
      some (((-1)), σ5)
    else
      if p2 = 0 then
        (rdR 9 σ5 h0 3).bind fun r10 =>
        (r10).bind fun a11 =>
        (ldI 11 σ5 a11 (21 + p1)).bind fun v12 =>
        some ((v12), σ5)
      else
        (ck 9 σ5 h0).bind fun u7 =>
        cb (s_X9_goesTo h0 (p1) σ5) fun v9 σ8 =>
        some ((v9), σ8)
set_option maxRecDepth 100000 in
theorem c_X9_sow {E : E0} (hE : EOK E) {h0 : Nat} {p1 : Int32} {p2 : Int32} {σ σ1 : Hp} {r : Int32} (h : s_X9_sow h0 p1 p2 σ = some (r, σ1)) : CT E yX9_sow (.code yX9_sow cX9_sow 3 (some .int)) rm_X9_sow [tR (some (h0)), tI (p1), tI (p2)] σ (some (tI r)) σ1 := by
  refine CT.mk hE (by decide +kernel) (Nat.le_of_ble_eq_true rfl) [(0, tR (some (h0))), (1, tI (p1)), (2, tI (p2))] rfl (fun X C hin hx hxn => ?_)
  have C : XOK E X cX9_sow RX9 3 (some .int) rm_X9_sow := C
  unfold s_X9_sow at h
  refine g_aload_n (pc := 0) C 0 0 dX9_sow_0 rfl rfl ?_
  refine g_iconst (v := 0) (pc := 1) C dX9_sow_1 (by decide) ?_
  obtain ⟨σ1, hvσ1, h⟩ := zbind h
  refine g_putI (N := 58) (pc := 2) C ⟨ck_9, rfl, tyX9_ok⟩ hvσ1 rfl fl_X9_161 rfl rfl dX9_sow_2 ?_
  refine g_aload_n (pc := 5) C 0 0 dX9_sow_5 rfl rfl ?_
  refine g_iload_n (pc := 6) C 1 1 dX9_sow_6 rfl rfl ?_
  obtain ⟨u2, hvu2, h⟩ := zbind h
  obtain ⟨v4, σ3, hvσ3, h⟩ := zcb h
  refine g_callV (pc := 7) (av := [tI (p1)]) C (c_X9_isBadger hE hvσ3) yv_X9_isBadger ml_X9_212 ck_9 (zopt hvu2).1 rfl (rf_of (by decide)) rfl (Nat.le_of_ble_eq_true rfl) dX9_sow_7 ?_
  refine g_if_eq (pc := 10) C 23 dX9_sow_10 (by decide) (fun c15 => ?_) (fun c15 => ?_)
  · have h := zif_t c15 h
    refine g_iconst (v := (-1)) (pc := 23) C dX9_sow_23 (by decide) ?_
    obtain ⟨rfl, rfl⟩ := zsome h
    exact g_iret (pc := 24) C rfl hx (by rw [hxn]; rfl) (by rw [hxn]; rfl) dX9_sow_24
  · have h := zif_f c15 h
    refine g_iload_n (pc := 13) C 2 2 dX9_sow_13 rfl rfl ?_
    refine g_i2l (pc := 14) C dX9_sow_14 ?_
    refine g_lconst (v := 0) (pc := 15) C dX9_sow_15 (by decide) ?_
    refine g_lconst (v := 1) (pc := 16) C dX9_sow_16 (by decide) ?_
    obtain ⟨v6, σ5, hvσ5, h⟩ := zcb h
    refine g_callS (pc := 17) (av := [tJ (Int32.toInt64 (p2 : Int32)), tJ (0), tJ (1)]) C (c_X9_in hE hvσ5) ys_X9_in ml_X9_181 rfl (rf_of (by decide)) rfl (Nat.le_of_ble_eq_true rfl) dX9_sow_17 ?_
    refine g_if_ne (pc := 20) C 25 dX9_sow_20 (by decide) (fun c14 => ?_) (fun c14 => ?_)
    · have h := zif_f c14 h
      refine g_iload_n (pc := 25) C 2 2 dX9_sow_25 rfl rfl ?_
      refine g_if_ne (pc := 26) C 41 dX9_sow_26 (by decide) (fun c13 => ?_) (fun c13 => ?_)
      · have h := zif_f c13 h
        refine g_aload_n (pc := 41) C 0 0 dX9_sow_41 rfl rfl ?_
        refine g_iload_n (pc := 42) C 1 1 dX9_sow_42 rfl rfl ?_
        obtain ⟨u7, hvu7, h⟩ := zbind h
        obtain ⟨v9, σ8, hvσ8, h⟩ := zcb h
        refine g_callV (pc := 43) (av := [tI (p1)]) C (c_X9_goesTo hE hvσ8) yv_X9_goesTo ml_X9_215 ck_9 (zopt hvu7).1 rfl (rf_of (by decide)) rfl (Nat.le_of_ble_eq_true rfl) dX9_sow_43 ?_
        obtain ⟨rfl, rfl⟩ := zsome h
        exact g_iret (pc := 46) C rfl hx (by rw [hxn]; rfl) (by rw [hxn]; rfl) dX9_sow_46
      · have h := zif_t c13 h
        refine g_aload_n (pc := 29) C 0 0 dX9_sow_29 rfl rfl ?_
        obtain ⟨r10, hvr10, h⟩ := zbind h
        refine g_getR (N := 58) (pc := 30) C ck_9 hvr10 rfl rfl fl_X9_13 dX9_sow_30 ?_
        refine g_bipush (v := 21) (pc := 33) C dX9_sow_33 (by decide) ?_
        refine g_iload_n (pc := 35) C 1 1 dX9_sow_35 rfl rfl ?_
        refine g_iadd (pc := 36) C dX9_sow_36 ?_
        obtain ⟨a11, hqa11, h9⟩ := zbind h
        clear h
        subst hqa11
        have h := h9
        clear h9
        obtain ⟨v12, hvv12, h⟩ := zbind h
        refine g_iald (pc := 37) C hvv12 dX9_sow_37 ?_
        refine g_goto (pc := 38) C 46 dX9_sow_38 (by decide) ?_
        obtain ⟨rfl, rfl⟩ := zsome h
        exact g_iret (pc := 46) C rfl hx (by rw [hxn]; rfl) (by rw [hxn]; rfl) dX9_sow_46
    · have h := zif_t c14 h
      refine g_iconst (v := (-1)) (pc := 23) C dX9_sow_23 (by decide) ?_
      obtain ⟨rfl, rfl⟩ := zsome h
      exact g_iret (pc := 24) C rfl hx (by rw [hxn]; rfl) (by rw [hxn]; rfl) dX9_sow_24
def rm_X9_thing : Room := { frames := 2, cells := 0, slots := 0, locals := 46 }
noncomputable def s_X9_thing_j29 (h0 : Nat) (σ : Hp) : Option (Int32 × Hp) :=
  (ck 9 σ h0).bind fun u1 =>
  cb (s_X9_tell h0 ((-1)) σ) fun v3 σ2 =>
  some ((v3), σ2)
set_option maxRecDepth 100000 in
theorem w_X9_thing_j29 {E : E0} (hE : EOK E) {X : X0} (C : XOK E X cX9_thing RX9 5 (some .int) rm_X9_thing) (hxn : xn X = (rm_X9_thing.cells, rm_X9_thing.slots)) (h0 : Nat) (σ : Hp) (r : Int32) (σ1 : Hp) (h : s_X9_thing_j29 h0 σ = some (r, σ1)) (hx : xd X = (some (tI r), σ1)) : G E X 0 0 29 [(0, tR (some (h0)))] [] σ := by
  unfold s_X9_thing_j29 at h
  refine g_aload_n (pc := 29) C 0 0 dX9_thing_29 rfl rfl ?_
  refine g_iconst (v := (-1)) (pc := 30) C dX9_thing_30 (by decide) ?_
  obtain ⟨u1, hvu1, h⟩ := zbind h
  obtain ⟨v3, σ2, hvσ2, h⟩ := zcb h
  refine g_callV (pc := 31) (av := [tI ((-1))]) C (c_X9_tell hE hvσ2) yv_X9_tell ml_X9_170 ck_9 (zopt hvu1).1 rfl (rf_of (by decide)) rfl (Nat.le_of_ble_eq_true rfl) dX9_thing_31 ?_
  obtain ⟨rfl, rfl⟩ := zsome h
  exact g_iret (pc := 34) C rfl hx (by rw [hxn]; rfl) (by rw [hxn]; rfl) dX9_thing_34
noncomputable def s_X9_thing (h0 : Nat) (p1 : Int32) (p2 : Int32) (p3 : Int32) (σ : Hp) : Option (Int32 × Hp) :=
  (wrI 9 σ h0 0 (0)).bind fun σ1 =>
  cb (s_X9_in (Int32.toInt64 (p2 : Int32)) (0) (9) σ1) fun v3 σ2 =>
  if v3 = 0 then
    s_X9_thing_j29 (h0) σ2
  else
    cb (s_X9_in (Int32.toInt64 (p3 : Int32)) (0) (9) σ2) fun v5 σ4 =>
    if v5 = 0 then
      s_X9_thing_j29 (h0) σ4
    else
      (ck 9 σ4 h0).bind fun u6 =>
      cb (s_X9_isPerch h0 (p1) σ4) fun v8 σ7 =>
      if v8 = 0 then
        (ck 9 σ7 h0).bind fun u32 =>
        cb (s_X9_tell h0 ((-2)) σ7) fun v34 σ33 =>
        some ((v34), σ33)
      else
        (rdR 9 σ7 h0 3).bind fun r9 =>
        (r9).bind fun a10 =>
        (ldI 11 σ7 a10 (3)).bind fun v11 =>
        if v11 = 6 then
          (ck 9 σ7 h0).bind fun u28 =>
          cb (s_X9_tell h0 ((-5)) σ7) fun v30 σ29 =>
          some ((v30), σ29)
        else
          (rdR 9 σ7 h0 3).bind fun r12 =>
          (r12).bind fun a13 =>
          (stI σ7 a13 (24 + v11) (p1)).bind fun σ14 =>
          (rdR 9 σ14 h0 3).bind fun r15 =>
          (r15).bind fun a16 =>
          (stI σ14 a16 (154 + v11) (p2)).bind fun σ17 =>
          (rdR 9 σ17 h0 3).bind fun r18 =>
          (r18).bind fun a19 =>
          (stI σ17 a19 (160 + v11) (p3)).bind fun σ20 =>
          (rdR 9 σ20 h0 3).bind fun r21 =>
          (r21).bind fun a22 =>
          (ldI 11 σ20 a22 (3)).bind fun v23 =>
          (stI σ20 a22 (3) (v23 + 1)).bind fun σ24 =>
          (ck 9 σ24 h0).bind fun u25 =>
          cb (s_X9_lasting h0 (v11) σ24) fun v27 σ26 =>
          some ((v27), σ26)
set_option maxRecDepth 100000 in
theorem c_X9_thing {E : E0} (hE : EOK E) {h0 : Nat} {p1 : Int32} {p2 : Int32} {p3 : Int32} {σ σ1 : Hp} {r : Int32} (h : s_X9_thing h0 p1 p2 p3 σ = some (r, σ1)) : CT E yX9_thing (.code yX9_thing cX9_thing 5 (some .int)) rm_X9_thing [tR (some (h0)), tI (p1), tI (p2), tI (p3)] σ (some (tI r)) σ1 := by
  refine CT.mk hE (by decide +kernel) (Nat.le_of_ble_eq_true rfl) [(0, tR (some (h0))), (1, tI (p1)), (2, tI (p2)), (3, tI (p3))] rfl (fun X C hin hx hxn => ?_)
  have C : XOK E X cX9_thing RX9 5 (some .int) rm_X9_thing := C
  unfold s_X9_thing at h
  refine g_aload_n (pc := 0) C 0 0 dX9_thing_0 rfl rfl ?_
  refine g_iconst (v := 0) (pc := 1) C dX9_thing_1 (by decide) ?_
  obtain ⟨σ1, hvσ1, h⟩ := zbind h
  refine g_putI (N := 58) (pc := 2) C ⟨ck_9, rfl, tyX9_ok⟩ hvσ1 rfl fl_X9_161 rfl rfl dX9_thing_2 ?_
  refine g_iload_n (pc := 5) C 2 2 dX9_thing_5 rfl rfl ?_
  refine g_i2l (pc := 6) C dX9_thing_6 ?_
  refine g_lconst (v := 0) (pc := 7) C dX9_thing_7 (by decide) ?_
  refine g_ldc2 (v := 9) (pc := 8) C dX9_thing_8 kl_X9_194 ?_
  obtain ⟨v3, σ2, hvσ2, h⟩ := zcb h
  refine g_callS (pc := 11) (av := [tJ (Int32.toInt64 (p2 : Int32)), tJ (0), tJ (9)]) C (c_X9_in hE hvσ2) ys_X9_in ml_X9_181 rfl (rf_of (by decide)) rfl (Nat.le_of_ble_eq_true rfl) dX9_thing_11 ?_
  refine g_if_eq (pc := 14) C 29 dX9_thing_14 (by decide) (fun c37 => ?_) (fun c37 => ?_)
  · have h := zif_t c37 h
    refine g_sub [0] (lm' := [(0, tR (some (h0)))]) rfl ?_
    exact w_X9_thing_j29 hE C hxn _ _ _ _ h hx
  · have h := zif_f c37 h
    refine g_iload_n (pc := 17) C 3 3 dX9_thing_17 rfl rfl ?_
    refine g_i2l (pc := 18) C dX9_thing_18 ?_
    refine g_lconst (v := 0) (pc := 19) C dX9_thing_19 (by decide) ?_
    refine g_ldc2 (v := 9) (pc := 20) C dX9_thing_20 kl_X9_194 ?_
    obtain ⟨v5, σ4, hvσ4, h⟩ := zcb h
    refine g_callS (pc := 23) (av := [tJ (Int32.toInt64 (p3 : Int32)), tJ (0), tJ (9)]) C (c_X9_in hE hvσ4) ys_X9_in ml_X9_181 rfl (rf_of (by decide)) rfl (Nat.le_of_ble_eq_true rfl) dX9_thing_23 ?_
    refine g_if_ne (pc := 26) C 35 dX9_thing_26 (by decide) (fun c36 => ?_) (fun c36 => ?_)
    · have h := zif_f c36 h
      refine g_aload_n (pc := 35) C 0 0 dX9_thing_35 rfl rfl ?_
      refine g_iload_n (pc := 36) C 1 1 dX9_thing_36 rfl rfl ?_
      obtain ⟨u6, hvu6, h⟩ := zbind h
      obtain ⟨v8, σ7, hvσ7, h⟩ := zcb h
      refine g_callV (pc := 37) (av := [tI (p1)]) C (c_X9_isPerch hE hvσ7) yv_X9_isPerch ml_X9_196 ck_9 (zopt hvu6).1 rfl (rf_of (by decide)) rfl (Nat.le_of_ble_eq_true rfl) dX9_thing_37 ?_
      refine g_if_ne (pc := 40) C 50 dX9_thing_40 (by decide) (fun c35 => ?_) (fun c35 => ?_)
      · have h := zif_f c35 h
        refine g_aload_n (pc := 50) C 0 0 dX9_thing_50 rfl rfl ?_
        obtain ⟨r9, hvr9, h⟩ := zbind h
        refine g_getR (N := 58) (pc := 51) C ck_9 hvr9 rfl rfl fl_X9_13 dX9_thing_51 ?_
        refine g_iconst (v := 3) (pc := 54) C dX9_thing_54 (by decide) ?_
        obtain ⟨a10, hqa10, h9⟩ := zbind h
        clear h
        subst hqa10
        have h := h9
        clear h9
        obtain ⟨v11, hvv11, h⟩ := zbind h
        refine g_iald (pc := 55) C hvv11 dX9_thing_55 ?_
        refine g_istore (lm' := [(4, tI (v11)), (0, tR (some (h0))), (1, tI (p1)), (2, tI (p2)), (3, tI (p3))]) (pc := 56) C dX9_thing_56 (by decide) rfl ?_
        refine g_iload (pc := 58) C 0 dX9_thing_58 rfl ?_
        refine g_bipush (v := 6) (pc := 60) C dX9_thing_60 (by decide) ?_
        refine g_icmp_ne (pc := 62) C 72 dX9_thing_62 (by decide) (fun c31 => ?_) (fun c31 => ?_)
        · have h := zif_f c31 h
          refine g_aload_n (pc := 72) C 0 1 dX9_thing_72 rfl rfl ?_
          obtain ⟨r12, hvr12, h⟩ := zbind h
          refine g_getR (N := 58) (pc := 73) C ck_9 hvr12 rfl rfl fl_X9_13 dX9_thing_73 ?_
          refine g_bipush (v := 24) (pc := 76) C dX9_thing_76 (by decide) ?_
          refine g_iload (pc := 78) C 0 dX9_thing_78 rfl ?_
          refine g_iadd (pc := 80) C dX9_thing_80 ?_
          refine g_iload_n (pc := 81) C 1 2 dX9_thing_81 rfl rfl ?_
          obtain ⟨a13, hqa13, h9⟩ := zbind h
          clear h
          subst hqa13
          have h := h9
          clear h9
          obtain ⟨σ14, hvσ14, h⟩ := zbind h
          refine g_iast (pc := 82) C hvσ14 dX9_thing_82 ?_
          refine g_aload_n (pc := 83) C 0 1 dX9_thing_83 rfl rfl ?_
          obtain ⟨r15, hvr15, h⟩ := zbind h
          refine g_getR (N := 58) (pc := 84) C ck_9 hvr15 rfl rfl fl_X9_13 dX9_thing_84 ?_
          refine g_sipush (v := 154) (pc := 87) C dX9_thing_87 (by decide) ?_
          refine g_iload (pc := 90) C 0 dX9_thing_90 rfl ?_
          refine g_iadd (pc := 92) C dX9_thing_92 ?_
          refine g_iload_n (pc := 93) C 2 3 dX9_thing_93 rfl rfl ?_
          obtain ⟨a16, hqa16, h9⟩ := zbind h
          clear h
          subst hqa16
          have h := h9
          clear h9
          obtain ⟨σ17, hvσ17, h⟩ := zbind h
          refine g_iast (pc := 94) C hvσ17 dX9_thing_94 ?_
          refine g_aload_n (pc := 95) C 0 1 dX9_thing_95 rfl rfl ?_
          obtain ⟨r18, hvr18, h⟩ := zbind h
          refine g_getR (N := 58) (pc := 96) C ck_9 hvr18 rfl rfl fl_X9_13 dX9_thing_96 ?_
          refine g_sipush (v := 160) (pc := 99) C dX9_thing_99 (by decide) ?_
          refine g_iload (pc := 102) C 0 dX9_thing_102 rfl ?_
          refine g_iadd (pc := 104) C dX9_thing_104 ?_
          refine g_iload_n (pc := 105) C 3 4 dX9_thing_105 rfl rfl ?_
          obtain ⟨a19, hqa19, h9⟩ := zbind h
          clear h
          subst hqa19
          have h := h9
          clear h9
          obtain ⟨σ20, hvσ20, h⟩ := zbind h
          refine g_iast (pc := 106) C hvσ20 dX9_thing_106 ?_
          refine g_aload_n (pc := 107) C 0 1 dX9_thing_107 rfl rfl ?_
          obtain ⟨r21, hvr21, h⟩ := zbind h
          refine g_getR (N := 58) (pc := 108) C ck_9 hvr21 rfl rfl fl_X9_13 dX9_thing_108 ?_
          refine g_iconst (v := 3) (pc := 111) C dX9_thing_111 (by decide) ?_
          refine g_dup2 (pc := 112) C dX9_thing_112 rfl rfl ?_
          obtain ⟨a22, hqa22, h9⟩ := zbind h
          clear h
          subst hqa22
          have h := h9
          clear h9
          obtain ⟨v23, hvv23, h⟩ := zbind h
          refine g_iald (pc := 113) C hvv23 dX9_thing_113 ?_
          refine g_iconst (v := 1) (pc := 114) C dX9_thing_114 (by decide) ?_
          refine g_iadd (pc := 115) C dX9_thing_115 ?_
          obtain ⟨σ24, hvσ24, h⟩ := zbind h
          refine g_iast (pc := 116) C hvσ24 dX9_thing_116 ?_
          refine g_aload_n (pc := 117) C 0 1 dX9_thing_117 rfl rfl ?_
          refine g_iload (pc := 118) C 0 dX9_thing_118 rfl ?_
          obtain ⟨u25, hvu25, h⟩ := zbind h
          obtain ⟨v27, σ26, hvσ26, h⟩ := zcb h
          refine g_callV (pc := 120) (av := [tI (v11)]) C (c_X9_lasting hE hvσ26) yv_X9_lasting ml_X9_185 ck_9 (zopt hvu25).1 rfl (rf_of (by decide)) rfl (Nat.le_of_ble_eq_true rfl) dX9_thing_120 ?_
          obtain ⟨rfl, rfl⟩ := zsome h
          exact g_iret (pc := 123) C rfl hx (by rw [hxn]; rfl) (by rw [hxn]; rfl) dX9_thing_123
        · have h := zif_t c31 h
          refine g_aload_n (pc := 65) C 0 1 dX9_thing_65 rfl rfl ?_
          refine g_bipush (v := (-5)) (pc := 66) C dX9_thing_66 (by decide) ?_
          obtain ⟨u28, hvu28, h⟩ := zbind h
          obtain ⟨v30, σ29, hvσ29, h⟩ := zcb h
          refine g_callV (pc := 68) (av := [tI ((-5))]) C (c_X9_tell hE hvσ29) yv_X9_tell ml_X9_170 ck_9 (zopt hvu28).1 rfl (rf_of (by decide)) rfl (Nat.le_of_ble_eq_true rfl) dX9_thing_68 ?_
          obtain ⟨rfl, rfl⟩ := zsome h
          exact g_iret (pc := 71) C rfl hx (by rw [hxn]; rfl) (by rw [hxn]; rfl) dX9_thing_71
      · have h := zif_t c35 h
        refine g_aload_n (pc := 43) C 0 0 dX9_thing_43 rfl rfl ?_
        refine g_bipush (v := (-2)) (pc := 44) C dX9_thing_44 (by decide) ?_
        obtain ⟨u32, hvu32, h⟩ := zbind h
        obtain ⟨v34, σ33, hvσ33, h⟩ := zcb h
        refine g_callV (pc := 46) (av := [tI ((-2))]) C (c_X9_tell hE hvσ33) yv_X9_tell ml_X9_170 ck_9 (zopt hvu32).1 rfl (rf_of (by decide)) rfl (Nat.le_of_ble_eq_true rfl) dX9_thing_46 ?_
        obtain ⟨rfl, rfl⟩ := zsome h
        exact g_iret (pc := 49) C rfl hx (by rw [hxn]; rfl) (by rw [hxn]; rfl) dX9_thing_49
    · have h := zif_t c36 h
      refine g_sub [0] (lm' := [(0, tR (some (h0)))]) rfl ?_
      exact w_X9_thing_j29 hE C hxn _ _ _ _ h hx
def rm_X9_has : Room := { frames := 2, cells := 0, slots := 0, locals := 46 }
noncomputable def s_X9_has (h0 : Nat) (p1 : Int32) (p2 : Int32) (σ : Hp) : Option (Int32 × Hp) :=
  (wrI 9 σ h0 0 (0)).bind fun σ1 =>
  (ck 9 σ1 h0).bind fun u2 =>
  cb (s_X9_isThing h0 (p1) σ1) fun v4 σ3 =>
  if v4 = 0 then
    some (((-1)), σ3)
  else
    if p2 = 0 then
      (rdR 9 σ3 h0 3).bind fun r5 =>
      (r5).bind fun a6 =>
      (ldI 11 σ3 a6 (24 + p1)).bind fun v7 =>
      some ((v7), σ3)
    else
      if p2 = 1 then
        (rdR 9 σ3 h0 3).bind fun r9 =>
        (r9).bind fun a10 =>
        (ldI 11 σ3 a10 (154 + p1)).bind fun v11 =>
        some ((v11), σ3)
      else
        if p2 = 2 then
          (rdR 9 σ3 h0 3).bind fun r13 =>
          (r13).bind fun a14 =>
          (ldI 11 σ3 a14 (160 + p1)).bind fun v15 =>
          some ((v15), σ3)
        else
          some (((-1)), σ3)
set_option maxRecDepth 100000 in
theorem c_X9_has {E : E0} (hE : EOK E) {h0 : Nat} {p1 : Int32} {p2 : Int32} {σ σ1 : Hp} {r : Int32} (h : s_X9_has h0 p1 p2 σ = some (r, σ1)) : CT E yX9_has (.code yX9_has cX9_has 3 (some .int)) rm_X9_has [tR (some (h0)), tI (p1), tI (p2)] σ (some (tI r)) σ1 := by
  refine CT.mk hE (by decide +kernel) (Nat.le_of_ble_eq_true rfl) [(0, tR (some (h0))), (1, tI (p1)), (2, tI (p2))] rfl (fun X C hin hx hxn => ?_)
  have C : XOK E X cX9_has RX9 3 (some .int) rm_X9_has := C
  unfold s_X9_has at h
  refine g_aload_n (pc := 0) C 0 0 dX9_has_0 rfl rfl ?_
  refine g_iconst (v := 0) (pc := 1) C dX9_has_1 (by decide) ?_
  obtain ⟨σ1, hvσ1, h⟩ := zbind h
  refine g_putI (N := 58) (pc := 2) C ⟨ck_9, rfl, tyX9_ok⟩ hvσ1 rfl fl_X9_161 rfl rfl dX9_has_2 ?_
  refine g_aload_n (pc := 5) C 0 0 dX9_has_5 rfl rfl ?_
  refine g_iload_n (pc := 6) C 1 1 dX9_has_6 rfl rfl ?_
  obtain ⟨u2, hvu2, h⟩ := zbind h
  obtain ⟨v4, σ3, hvσ3, h⟩ := zcb h
  refine g_callV (pc := 7) (av := [tI (p1)]) C (c_X9_isThing hE hvσ3) yv_X9_isThing ml_X9_218 ck_9 (zopt hvu2).1 rfl (rf_of (by decide)) rfl (Nat.le_of_ble_eq_true rfl) dX9_has_7 ?_
  refine g_if_ne (pc := 10) C 15 dX9_has_10 (by decide) (fun c17 => ?_) (fun c17 => ?_)
  · have h := zif_f c17 h
    refine g_iload_n (pc := 15) C 2 2 dX9_has_15 rfl rfl ?_
    by_cases c8 : p2 = 0
    · refine g_tswIn (pc := 16) C 44 dX9_has_16 (by rw [c8]; decide) (by rw [c8]; decide) (by rw [c8]; rfl) (by decide) ?_
      have h := zif_t c8 h
      refine g_aload_n (pc := 44) C 0 0 dX9_has_44 rfl rfl ?_
      obtain ⟨r5, hvr5, h⟩ := zbind h
      refine g_getR (N := 58) (pc := 45) C ck_9 hvr5 rfl rfl fl_X9_13 dX9_has_45 ?_
      refine g_bipush (v := 24) (pc := 48) C dX9_has_48 (by decide) ?_
      refine g_iload_n (pc := 50) C 1 1 dX9_has_50 rfl rfl ?_
      refine g_iadd (pc := 51) C dX9_has_51 ?_
      obtain ⟨a6, hqa6, h9⟩ := zbind h
      clear h
      subst hqa6
      have h := h9
      clear h9
      obtain ⟨v7, hvv7, h⟩ := zbind h
      refine g_iald (pc := 52) C hvv7 dX9_has_52 ?_
      obtain ⟨rfl, rfl⟩ := zsome h
      exact g_iret (pc := 53) C rfl hx (by rw [hxn]; rfl) (by rw [hxn]; rfl) dX9_has_53
    · have h := zif_f c8 h
      by_cases c12 : p2 = 1
      · refine g_tswIn (pc := 16) C 54 dX9_has_16 (by rw [c12]; decide) (by rw [c12]; decide) (by rw [c12]; rfl) (by decide) ?_
        have h := zif_t c12 h
        refine g_aload_n (pc := 54) C 0 0 dX9_has_54 rfl rfl ?_
        obtain ⟨r9, hvr9, h⟩ := zbind h
        refine g_getR (N := 58) (pc := 55) C ck_9 hvr9 rfl rfl fl_X9_13 dX9_has_55 ?_
        refine g_sipush (v := 154) (pc := 58) C dX9_has_58 (by decide) ?_
        refine g_iload_n (pc := 61) C 1 1 dX9_has_61 rfl rfl ?_
        refine g_iadd (pc := 62) C dX9_has_62 ?_
        obtain ⟨a10, hqa10, h9⟩ := zbind h
        clear h
        subst hqa10
        have h := h9
        clear h9
        obtain ⟨v11, hvv11, h⟩ := zbind h
        refine g_iald (pc := 63) C hvv11 dX9_has_63 ?_
        obtain ⟨rfl, rfl⟩ := zsome h
        exact g_iret (pc := 64) C rfl hx (by rw [hxn]; rfl) (by rw [hxn]; rfl) dX9_has_64
      · have h := zif_f c12 h
        by_cases c16 : p2 = 2
        · refine g_tswIn (pc := 16) C 65 dX9_has_16 (by rw [c16]; decide) (by rw [c16]; decide) (by rw [c16]; rfl) (by decide) ?_
          have h := zif_t c16 h
          refine g_aload_n (pc := 65) C 0 0 dX9_has_65 rfl rfl ?_
          obtain ⟨r13, hvr13, h⟩ := zbind h
          refine g_getR (N := 58) (pc := 66) C ck_9 hvr13 rfl rfl fl_X9_13 dX9_has_66 ?_
          refine g_sipush (v := 160) (pc := 69) C dX9_has_69 (by decide) ?_
          refine g_iload_n (pc := 72) C 1 1 dX9_has_72 rfl rfl ?_
          refine g_iadd (pc := 73) C dX9_has_73 ?_
          obtain ⟨a14, hqa14, h9⟩ := zbind h
          clear h
          subst hqa14
          have h := h9
          clear h9
          obtain ⟨v15, hvv15, h⟩ := zbind h
          refine g_iald (pc := 74) C hvv15 dX9_has_74 ?_
          obtain ⟨rfl, rfl⟩ := zsome h
          exact g_iret (pc := 75) C rfl hx (by rw [hxn]; rfl) (by rw [hxn]; rfl) dX9_has_75
        · have h := zif_f c16 h
          refine g_tswOut (pc := 16) C 76 dX9_has_16 (by have ec8 := n32 (k := 0) (n := 0) (by decide) c8; have ec12 := n32 (k := 1) (n := 1) (by decide) c12; have ec16 := n32 (k := 2) (n := 2) (by decide) c16; omega) (by decide) ?_
          refine g_iconst (v := (-1)) (pc := 76) C dX9_has_76 (by decide) ?_
          obtain ⟨rfl, rfl⟩ := zsome h
          exact g_iret (pc := 77) C rfl hx (by rw [hxn]; rfl) (by rw [hxn]; rfl) dX9_has_77
  · have h := zif_t c17 h
    refine g_iconst (v := (-1)) (pc := 13) C dX9_has_13 (by decide) ?_
    obtain ⟨rfl, rfl⟩ := zsome h
    exact g_iret (pc := 14) C rfl hx (by rw [hxn]; rfl) (by rw [hxn]; rfl) dX9_has_14
def rm_X9_setLink : Room := { frames := 0, cells := 0, slots := 0, locals := 0 }
noncomputable def s_X9_setLink (h0 : Nat) (p1 : Int32) (p2 : Int32) (p3 : Int32) (σ : Hp) : Option (Unit × Hp) :=
  (rdR 9 σ h0 3).bind fun r1 =>
  (r1).bind fun a2 =>
  (stI σ a2 ((50 + (10 * p1)) + p2) (p3)).bind fun σ3 =>
  (rdR 9 σ3 h0 3).bind fun r4 =>
  (r4).bind fun a5 =>
  (stI σ3 a5 ((50 + (10 * p2)) + p1) (p3)).bind fun σ6 =>
  some ((), σ6)
set_option maxRecDepth 100000 in
theorem c_X9_setLink {E : E0} (hE : EOK E) {h0 : Nat} {p1 : Int32} {p2 : Int32} {p3 : Int32} {σ σ1 : Hp} {r : Unit} (h : s_X9_setLink h0 p1 p2 p3 σ = some (r, σ1)) : CT E yX9_setLink (.code yX9_setLink cX9_setLink 4 none) rm_X9_setLink [tR (some (h0)), tI (p1), tI (p2), tI (p3)] σ none σ1 := by
  refine CT.mk hE (by decide +kernel) (Nat.le_of_ble_eq_true rfl) [(0, tR (some (h0))), (1, tI (p1)), (2, tI (p2)), (3, tI (p3))] rfl (fun X C hin hx hxn => ?_)
  have C : XOK E X cX9_setLink RX9 4 none rm_X9_setLink := C
  unfold s_X9_setLink at h
  refine g_aload_n (pc := 0) C 0 0 dX9_setLink_0 rfl rfl ?_
  obtain ⟨r1, hvr1, h⟩ := zbind h
  refine g_getR (N := 58) (pc := 1) C ck_9 hvr1 rfl rfl fl_X9_13 dX9_setLink_1 ?_
  refine g_bipush (v := 50) (pc := 4) C dX9_setLink_4 (by decide) ?_
  refine g_bipush (v := 10) (pc := 6) C dX9_setLink_6 (by decide) ?_
  refine g_iload_n (pc := 8) C 1 1 dX9_setLink_8 rfl rfl ?_
  refine g_imul (pc := 9) C dX9_setLink_9 ?_
  refine g_iadd (pc := 10) C dX9_setLink_10 ?_
  refine g_iload_n (pc := 11) C 2 2 dX9_setLink_11 rfl rfl ?_
  refine g_iadd (pc := 12) C dX9_setLink_12 ?_
  refine g_iload_n (pc := 13) C 3 3 dX9_setLink_13 rfl rfl ?_
  obtain ⟨a2, hqa2, h9⟩ := zbind h
  clear h
  subst hqa2
  have h := h9
  clear h9
  obtain ⟨σ3, hvσ3, h⟩ := zbind h
  refine g_iast (pc := 14) C hvσ3 dX9_setLink_14 ?_
  refine g_aload_n (pc := 15) C 0 0 dX9_setLink_15 rfl rfl ?_
  obtain ⟨r4, hvr4, h⟩ := zbind h
  refine g_getR (N := 58) (pc := 16) C ck_9 hvr4 rfl rfl fl_X9_13 dX9_setLink_16 ?_
  refine g_bipush (v := 50) (pc := 19) C dX9_setLink_19 (by decide) ?_
  refine g_bipush (v := 10) (pc := 21) C dX9_setLink_21 (by decide) ?_
  refine g_iload_n (pc := 23) C 2 2 dX9_setLink_23 rfl rfl ?_
  refine g_imul (pc := 24) C dX9_setLink_24 ?_
  refine g_iadd (pc := 25) C dX9_setLink_25 ?_
  refine g_iload_n (pc := 26) C 1 1 dX9_setLink_26 rfl rfl ?_
  refine g_iadd (pc := 27) C dX9_setLink_27 ?_
  refine g_iload_n (pc := 28) C 3 3 dX9_setLink_28 rfl rfl ?_
  obtain ⟨a5, hqa5, h9⟩ := zbind h
  clear h
  subst hqa5
  have h := h9
  clear h9
  obtain ⟨σ6, hvσ6, h⟩ := zbind h
  refine g_iast (pc := 29) C hvσ6 dX9_setLink_29 ?_
  obtain ⟨rfl, rfl⟩ := zsome h
  exact g_vret (pc := 30) C rfl hx (by rw [hxn]; rfl) (by rw [hxn]; rfl) dX9_setLink_30
def rm_X9_link : Room := { frames := 2, cells := 0, slots := 0, locals := 46 }
noncomputable def s_X9_link_j22 (h0 : Nat) (σ : Hp) : Option (Int32 × Hp) :=
  (ck 9 σ h0).bind fun u1 =>
  cb (s_X9_tell h0 ((-1)) σ) fun v3 σ2 =>
  some ((v3), σ2)
set_option maxRecDepth 100000 in
theorem w_X9_link_j22 {E : E0} (hE : EOK E) {X : X0} (C : XOK E X cX9_link RX9 5 (some .int) rm_X9_link) (hxn : xn X = (rm_X9_link.cells, rm_X9_link.slots)) (h0 : Nat) (σ : Hp) (r : Int32) (σ1 : Hp) (h : s_X9_link_j22 h0 σ = some (r, σ1)) (hx : xd X = (some (tI r), σ1)) : G E X 0 0 22 [(0, tR (some (h0)))] [] σ := by
  unfold s_X9_link_j22 at h
  refine g_aload_n (pc := 22) C 0 0 dX9_link_22 rfl rfl ?_
  refine g_iconst (v := (-1)) (pc := 23) C dX9_link_23 (by decide) ?_
  obtain ⟨u1, hvu1, h⟩ := zbind h
  obtain ⟨v3, σ2, hvσ2, h⟩ := zcb h
  refine g_callV (pc := 24) (av := [tI ((-1))]) C (c_X9_tell hE hvσ2) yv_X9_tell ml_X9_170 ck_9 (zopt hvu1).1 rfl (rf_of (by decide)) rfl (Nat.le_of_ble_eq_true rfl) dX9_link_24 ?_
  obtain ⟨rfl, rfl⟩ := zsome h
  exact g_iret (pc := 27) C rfl hx (by rw [hxn]; rfl) (by rw [hxn]; rfl) dX9_link_27
noncomputable def s_X9_link_j44 (h0 : Nat) (σ : Hp) : Option (Int32 × Hp) :=
  (ck 9 σ h0).bind fun u1 =>
  cb (s_X9_tell h0 ((-2)) σ) fun v3 σ2 =>
  some ((v3), σ2)
set_option maxRecDepth 100000 in
theorem w_X9_link_j44 {E : E0} (hE : EOK E) {X : X0} (C : XOK E X cX9_link RX9 5 (some .int) rm_X9_link) (hxn : xn X = (rm_X9_link.cells, rm_X9_link.slots)) (h0 : Nat) (σ : Hp) (r : Int32) (σ1 : Hp) (h : s_X9_link_j44 h0 σ = some (r, σ1)) (hx : xd X = (some (tI r), σ1)) : G E X 0 0 44 [(0, tR (some (h0)))] [] σ := by
  unfold s_X9_link_j44 at h
  refine g_aload_n (pc := 44) C 0 0 dX9_link_44 rfl rfl ?_
  refine g_bipush (v := (-2)) (pc := 45) C dX9_link_45 (by decide) ?_
  obtain ⟨u1, hvu1, h⟩ := zbind h
  obtain ⟨v3, σ2, hvσ2, h⟩ := zcb h
  refine g_callV (pc := 47) (av := [tI ((-2))]) C (c_X9_tell hE hvσ2) yv_X9_tell ml_X9_170 ck_9 (zopt hvu1).1 rfl (rf_of (by decide)) rfl (Nat.le_of_ble_eq_true rfl) dX9_link_47 ?_
  obtain ⟨rfl, rfl⟩ := zsome h
  exact g_iret (pc := 50) C rfl hx (by rw [hxn]; rfl) (by rw [hxn]; rfl) dX9_link_50
noncomputable def s_X9_link (h0 : Nat) (p1 : Int32) (p2 : Int32) (p3 : Int32) (σ : Hp) : Option (Int32 × Hp) :=
  (wrI 9 σ h0 0 (0)).bind fun σ1 =>
  if p1 = p2 then
    s_X9_link_j22 (h0) σ1
  else
    cb (s_X9_in (Int32.toInt64 (p3 : Int32)) (0) (9) σ1) fun v3 σ2 =>
    if v3 = 0 then
      s_X9_link_j22 (h0) σ2
    else
      (ck 9 σ2 h0).bind fun u4 =>
      cb (s_X9_isPerch h0 (p1) σ2) fun v6 σ5 =>
      if v6 = 0 then
        s_X9_link_j44 (h0) σ5
      else
        (ck 9 σ5 h0).bind fun u7 =>
        cb (s_X9_isPerch h0 (p2) σ5) fun v9 σ8 =>
        if v9 = 0 then
          s_X9_link_j44 (h0) σ8
        else
          (ck 9 σ8 h0).bind fun u10 =>
          cb (s_X9_longOf h0 (p1) (p2) σ8) fun v12 σ11 =>
          (ck 9 σ11 h0).bind fun u13 =>
          cb (s_X9_setLink h0 (p1) (p2) (p3) σ11) fun v15 σ14 =>
          (ck 9 σ14 h0).bind fun u16 =>
          cb (s_X9_tell h0 (v12) σ14) fun v18 σ17 =>
          some ((v18), σ17)
set_option maxRecDepth 100000 in
theorem c_X9_link {E : E0} (hE : EOK E) {h0 : Nat} {p1 : Int32} {p2 : Int32} {p3 : Int32} {σ σ1 : Hp} {r : Int32} (h : s_X9_link h0 p1 p2 p3 σ = some (r, σ1)) : CT E yX9_link (.code yX9_link cX9_link 5 (some .int)) rm_X9_link [tR (some (h0)), tI (p1), tI (p2), tI (p3)] σ (some (tI r)) σ1 := by
  refine CT.mk hE (by decide +kernel) (Nat.le_of_ble_eq_true rfl) [(0, tR (some (h0))), (1, tI (p1)), (2, tI (p2)), (3, tI (p3))] rfl (fun X C hin hx hxn => ?_)
  have C : XOK E X cX9_link RX9 5 (some .int) rm_X9_link := C
  unfold s_X9_link at h
  refine g_aload_n (pc := 0) C 0 0 dX9_link_0 rfl rfl ?_
  refine g_iconst (v := 0) (pc := 1) C dX9_link_1 (by decide) ?_
  obtain ⟨σ1, hvσ1, h⟩ := zbind h
  refine g_putI (N := 58) (pc := 2) C ⟨ck_9, rfl, tyX9_ok⟩ hvσ1 rfl fl_X9_161 rfl rfl dX9_link_2 ?_
  refine g_iload_n (pc := 5) C 1 1 dX9_link_5 rfl rfl ?_
  refine g_iload_n (pc := 6) C 2 2 dX9_link_6 rfl rfl ?_
  refine g_icmp_eq (pc := 7) C 22 dX9_link_7 (by decide) (fun c22 => ?_) (fun c22 => ?_)
  · have h := zif_t c22 h
    refine g_sub [0] (lm' := [(0, tR (some (h0)))]) rfl ?_
    exact w_X9_link_j22 hE C hxn _ _ _ _ h hx
  · have h := zif_f c22 h
    refine g_iload_n (pc := 10) C 3 3 dX9_link_10 rfl rfl ?_
    refine g_i2l (pc := 11) C dX9_link_11 ?_
    refine g_lconst (v := 0) (pc := 12) C dX9_link_12 (by decide) ?_
    refine g_ldc2 (v := 9) (pc := 13) C dX9_link_13 kl_X9_194 ?_
    obtain ⟨v3, σ2, hvσ2, h⟩ := zcb h
    refine g_callS (pc := 16) (av := [tJ (Int32.toInt64 (p3 : Int32)), tJ (0), tJ (9)]) C (c_X9_in hE hvσ2) ys_X9_in ml_X9_181 rfl (rf_of (by decide)) rfl (Nat.le_of_ble_eq_true rfl) dX9_link_16 ?_
    refine g_if_ne (pc := 19) C 28 dX9_link_19 (by decide) (fun c21 => ?_) (fun c21 => ?_)
    · have h := zif_f c21 h
      refine g_aload_n (pc := 28) C 0 0 dX9_link_28 rfl rfl ?_
      refine g_iload_n (pc := 29) C 1 1 dX9_link_29 rfl rfl ?_
      obtain ⟨u4, hvu4, h⟩ := zbind h
      obtain ⟨v6, σ5, hvσ5, h⟩ := zcb h
      refine g_callV (pc := 30) (av := [tI (p1)]) C (c_X9_isPerch hE hvσ5) yv_X9_isPerch ml_X9_196 ck_9 (zopt hvu4).1 rfl (rf_of (by decide)) rfl (Nat.le_of_ble_eq_true rfl) dX9_link_30 ?_
      refine g_if_eq (pc := 33) C 44 dX9_link_33 (by decide) (fun c20 => ?_) (fun c20 => ?_)
      · have h := zif_t c20 h
        refine g_sub [0] (lm' := [(0, tR (some (h0)))]) rfl ?_
        exact w_X9_link_j44 hE C hxn _ _ _ _ h hx
      · have h := zif_f c20 h
        refine g_aload_n (pc := 36) C 0 0 dX9_link_36 rfl rfl ?_
        refine g_iload_n (pc := 37) C 2 2 dX9_link_37 rfl rfl ?_
        obtain ⟨u7, hvu7, h⟩ := zbind h
        obtain ⟨v9, σ8, hvσ8, h⟩ := zcb h
        refine g_callV (pc := 38) (av := [tI (p2)]) C (c_X9_isPerch hE hvσ8) yv_X9_isPerch ml_X9_196 ck_9 (zopt hvu7).1 rfl (rf_of (by decide)) rfl (Nat.le_of_ble_eq_true rfl) dX9_link_38 ?_
        refine g_if_ne (pc := 41) C 51 dX9_link_41 (by decide) (fun c19 => ?_) (fun c19 => ?_)
        · have h := zif_f c19 h
          refine g_aload_n (pc := 51) C 0 0 dX9_link_51 rfl rfl ?_
          refine g_iload_n (pc := 52) C 1 1 dX9_link_52 rfl rfl ?_
          refine g_iload_n (pc := 53) C 2 2 dX9_link_53 rfl rfl ?_
          obtain ⟨u10, hvu10, h⟩ := zbind h
          obtain ⟨v12, σ11, hvσ11, h⟩ := zcb h
          refine g_callV (pc := 54) (av := [tI (p1), tI (p2)]) C (c_X9_longOf hE hvσ11) yv_X9_longOf ml_X9_205 ck_9 (zopt hvu10).1 rfl (rf_of (by decide)) rfl (Nat.le_of_ble_eq_true rfl) dX9_link_54 ?_
          refine g_istore (lm' := [(4, tI (v12)), (0, tR (some (h0))), (1, tI (p1)), (2, tI (p2)), (3, tI (p3))]) (pc := 57) C dX9_link_57 (by decide) rfl ?_
          refine g_aload_n (pc := 59) C 0 1 dX9_link_59 rfl rfl ?_
          refine g_iload_n (pc := 60) C 1 2 dX9_link_60 rfl rfl ?_
          refine g_iload_n (pc := 61) C 2 3 dX9_link_61 rfl rfl ?_
          refine g_iload_n (pc := 62) C 3 4 dX9_link_62 rfl rfl ?_
          obtain ⟨u13, hvu13, h⟩ := zbind h
          obtain ⟨v15, σ14, hvσ14, h⟩ := zcb h
          refine g_callV (pc := 63) (av := [tI (p1), tI (p2), tI (p3)]) C (c_X9_setLink hE hvσ14) yv_X9_setLink ml_X9_221 ck_9 (zopt hvu13).1 rfl (rf_of (by decide)) rfl (Nat.le_of_ble_eq_true rfl) dX9_link_63 ?_
          refine g_aload_n (pc := 66) C 0 1 dX9_link_66 rfl rfl ?_
          refine g_iload (pc := 67) C 0 dX9_link_67 rfl ?_
          obtain ⟨u16, hvu16, h⟩ := zbind h
          obtain ⟨v18, σ17, hvσ17, h⟩ := zcb h
          refine g_callV (pc := 69) (av := [tI (v12)]) C (c_X9_tell hE hvσ17) yv_X9_tell ml_X9_170 ck_9 (zopt hvu16).1 rfl (rf_of (by decide)) rfl (Nat.le_of_ble_eq_true rfl) dX9_link_69 ?_
          obtain ⟨rfl, rfl⟩ := zsome h
          exact g_iret (pc := 72) C rfl hx (by rw [hxn]; rfl) (by rw [hxn]; rfl) dX9_link_72
        · have h := zif_t c19 h
          refine g_sub [0] (lm' := [(0, tR (some (h0)))]) rfl ?_
          exact w_X9_link_j44 hE C hxn _ _ _ _ h hx
    · have h := zif_t c21 h
      refine g_sub [0] (lm' := [(0, tR (some (h0)))]) rfl ?_
      exact w_X9_link_j22 hE C hxn _ _ _ _ h hx
def rm_X9_badgersIn : Room := { frames := 0, cells := 0, slots := 0, locals := 0 }
noncomputable def s_X9_badgersIn_j33 (h0 : Nat) (l1 : Int32) (l3 : Int32) (t0 : Int32) (t1 : Int32) (σ : Hp) : Option (((Nat × Int32 × Int32 × Int32) ⊕ (Int32)) × Hp) :=
  some (Sum.inl ((h0), (l1), (t0 + t1), (l3 + 1)), σ)
set_option maxRecDepth 100000 in
theorem w_X9_badgersIn_j33 {E : E0} (hE : EOK E) {X : X0} (C : XOK E X cX9_badgersIn RX9 4 (some .int) rm_X9_badgersIn) (hxn : xn X = (rm_X9_badgersIn.cells, rm_X9_badgersIn.slots)) {KE : (Int32) → Hp → Prop} (e_ret : ∀ (r : Int32) (σ : Hp), KE (r) σ → xd X = (some (tI r), σ)) (h0 : Nat) (l1 : Int32) (l3 : Int32) (t0 : Int32) (t1 : Int32) (σ : Hp) (x : (Nat × Int32 × Int32 × Int32) ⊕ (Int32)) (σ1 : Hp) (h : s_X9_badgersIn_j33 h0 l1 l3 t0 t1 σ = some (x, σ1)) (hI : ∀ v, x = Sum.inl v → (fun (v : Nat × Int32 × Int32 × Int32) (σ : Hp) => G E X 0 0 4 [(0, tR (some ((v.1)))), (1, tI ((v.2.1))), (2, tI ((v.2.2.1))), (3, tI ((v.2.2.2)))] [] σ) v σ1) (hO : ∀ e, x = Sum.inr e → KE e σ1) : G E X 0 0 33 [(0, tR (some (h0))), (1, tI (l1)), (3, tI (l3))] [tI (t1), tI (t0)] σ := by
  unfold s_X9_badgersIn_j33 at h
  refine g_iadd (pc := 33) C dX9_badgersIn_33 ?_
  refine g_istore_n (lm' := [(2, tI (t0 + t1)), (0, tR (some (h0))), (1, tI (l1)), (3, tI (l3))]) (pc := 34) C 2 dX9_badgersIn_34 rfl (by decide) rfl ?_
  refine g_iinc (lm' := [(3, tI (l3 + 1)), (2, tI (t0 + t1)), (0, tR (some (h0))), (1, tI (l1))]) (v := l3 + 1) (pc := 35) C 3 dX9_badgersIn_35 rfl rfl (by decide) rfl ?_
  refine g_goto (pc := 38) C 4 dX9_badgersIn_38 (by decide) ?_
  refine g_sub [2, 3, 1, 0] (lm' := [(0, tR (some (h0))), (1, tI (l1)), (2, tI (t0 + t1)), (3, tI (l3 + 1))]) rfl ?_
  obtain ⟨rfl, rfl⟩ := zsome h
  exact hI _ rfl
noncomputable def s_X9_badgersIn_b4 (h0 : Nat) (l1 : Int32) (l2 : Int32) (l3 : Int32) (σ : Hp) : Option (((Nat × Int32 × Int32 × Int32) ⊕ (Int32)) × Hp) :=
  (rdR 9 σ h0 3).bind fun r1 =>
  (r1).bind fun a2 =>
  (ldI 11 σ a2 (2)).bind fun v3 =>
  if v3 ≤ l3 then
    some (Sum.inr (l2), σ)
  else
    (rdR 9 σ h0 3).bind fun r4 =>
    (r4).bind fun a5 =>
    (ldI 11 σ a5 (21 + l3)).bind fun v6 =>
    if v6 = l1 then
      s_X9_badgersIn_j33 (h0) (l1) (l3) (l2) (1) σ
    else
      s_X9_badgersIn_j33 (h0) (l1) (l3) (l2) (0) σ
noncomputable def s_X9_badgersIn_l4 : (Nat × Int32 × Int32 × Int32) → Hp → Option ((Int32) × Hp) := loopF (fun v => s_X9_badgersIn_b4 (v.1) (v.2.1) (v.2.2.1) (v.2.2.2))
set_option maxRecDepth 100000 in
theorem w_X9_badgersIn_b4 {E : E0} (hE : EOK E) {X : X0} (C : XOK E X cX9_badgersIn RX9 4 (some .int) rm_X9_badgersIn) (hxn : xn X = (rm_X9_badgersIn.cells, rm_X9_badgersIn.slots)) {KE : (Int32) → Hp → Prop} (e_ret : ∀ (r : Int32) (σ : Hp), KE (r) σ → xd X = (some (tI r), σ)) (h0 : Nat) (l1 : Int32) (l2 : Int32) (l3 : Int32) (σ : Hp) (x : (Nat × Int32 × Int32 × Int32) ⊕ (Int32)) (σ1 : Hp) (h : s_X9_badgersIn_b4 h0 l1 l2 l3 σ = some (x, σ1)) (hI : ∀ v, x = Sum.inl v → (fun (v : Nat × Int32 × Int32 × Int32) (σ : Hp) => G E X 0 0 4 [(0, tR (some ((v.1)))), (1, tI ((v.2.1))), (2, tI ((v.2.2.1))), (3, tI ((v.2.2.2)))] [] σ) v σ1) (hO : ∀ e, x = Sum.inr e → KE e σ1) : G E X 0 0 4 [(0, tR (some (h0))), (1, tI (l1)), (2, tI (l2)), (3, tI (l3))] [] σ := by
  unfold s_X9_badgersIn_b4 at h
  refine g_iload_n (pc := 4) C 3 3 dX9_badgersIn_4 rfl rfl ?_
  refine g_aload_n (pc := 5) C 0 0 dX9_badgersIn_5 rfl rfl ?_
  obtain ⟨r1, hvr1, h⟩ := zbind h
  refine g_getR (N := 58) (pc := 6) C ck_9 hvr1 rfl rfl fl_X9_13 dX9_badgersIn_6 ?_
  refine g_iconst (v := 2) (pc := 9) C dX9_badgersIn_9 (by decide) ?_
  obtain ⟨a2, hqa2, h9⟩ := zbind h
  clear h
  subst hqa2
  have h := h9
  clear h9
  obtain ⟨v3, hvv3, h⟩ := zbind h
  refine g_iald (pc := 10) C hvv3 dX9_badgersIn_10 ?_
  refine g_icmp_ge (pc := 11) C 41 dX9_badgersIn_11 (by decide) (fun c8 => ?_) (fun c8 => ?_)
  · have h := zif_t c8 h
    refine g_iload_n (pc := 41) C 2 2 dX9_badgersIn_41 rfl rfl ?_
    obtain ⟨rfl, rfl⟩ := zsome h
    exact g_iret (pc := 42) C rfl (e_ret _ _ (hO _ rfl)) (by rw [hxn]; rfl) (by rw [hxn]; rfl) dX9_badgersIn_42
  · have h := zif_f c8 h
    refine g_iload_n (pc := 14) C 2 2 dX9_badgersIn_14 rfl rfl ?_
    refine g_aload_n (pc := 15) C 0 0 dX9_badgersIn_15 rfl rfl ?_
    obtain ⟨r4, hvr4, h⟩ := zbind h
    refine g_getR (N := 58) (pc := 16) C ck_9 hvr4 rfl rfl fl_X9_13 dX9_badgersIn_16 ?_
    refine g_bipush (v := 21) (pc := 19) C dX9_badgersIn_19 (by decide) ?_
    refine g_iload_n (pc := 21) C 3 3 dX9_badgersIn_21 rfl rfl ?_
    refine g_iadd (pc := 22) C dX9_badgersIn_22 ?_
    obtain ⟨a5, hqa5, h9⟩ := zbind h
    clear h
    subst hqa5
    have h := h9
    clear h9
    obtain ⟨v6, hvv6, h⟩ := zbind h
    refine g_iald (pc := 23) C hvv6 dX9_badgersIn_23 ?_
    refine g_iload_n (pc := 24) C 1 1 dX9_badgersIn_24 rfl rfl ?_
    refine g_icmp_ne (pc := 25) C 32 dX9_badgersIn_25 (by decide) (fun c7 => ?_) (fun c7 => ?_)
    · have h := zif_f c7 h
      refine g_iconst (v := 0) (pc := 32) C dX9_badgersIn_32 (by decide) ?_
      refine g_sub [0, 1, 3] (lm' := [(0, tR (some (h0))), (1, tI (l1)), (3, tI (l3))]) rfl ?_
      exact w_X9_badgersIn_j33 hE C hxn e_ret _ _ _ _ _ _ _ _ h hI hO
    · have h := zif_t c7 h
      refine g_iconst (v := 1) (pc := 28) C dX9_badgersIn_28 (by decide) ?_
      refine g_goto (pc := 29) C 33 dX9_badgersIn_29 (by decide) ?_
      refine g_sub [0, 1, 3] (lm' := [(0, tR (some (h0))), (1, tI (l1)), (3, tI (l3))]) rfl ?_
      exact w_X9_badgersIn_j33 hE C hxn e_ret _ _ _ _ _ _ _ _ h hI hO
theorem w_X9_badgersIn_l4 {E : E0} (hE : EOK E) {X : X0} (C : XOK E X cX9_badgersIn RX9 4 (some .int) rm_X9_badgersIn) (hxn : xn X = (rm_X9_badgersIn.cells, rm_X9_badgersIn.slots)) {KE : (Int32) → Hp → Prop} (e_ret : ∀ (r : Int32) (σ : Hp), KE (r) σ → xd X = (some (tI r), σ)) {v : Nat × Int32 × Int32 × Int32} {σ : Hp} {e : Int32} {σ1 : Hp} (h : s_X9_badgersIn_l4 v σ = some (e, σ1)) (hO : KE e σ1) : G E X 0 0 4 [(0, tR (some ((v.1)))), (1, tI ((v.2.1))), (2, tI ((v.2.2.1))), (3, tI ((v.2.2.2)))] [] σ := loopF_ind (P := fun (v : Nat × Int32 × Int32 × Int32) (σ : Hp) => G E X 0 0 4 [(0, tR (some ((v.1)))), (1, tI ((v.2.1))), (2, tI ((v.2.2.1))), (3, tI ((v.2.2.2)))] [] σ) (KE := KE) (fun v σ x σ1 h hI hO => w_X9_badgersIn_b4 hE C hxn e_ret (v.1) (v.2.1) (v.2.2.1) (v.2.2.2) σ x σ1 h hI hO) v σ e σ1 h hO
noncomputable def s_X9_badgersIn (h0 : Nat) (p1 : Int32) (σ : Hp) : Option (Int32 × Hp) :=
  cb (s_X9_badgersIn_l4 ((h0), (p1), (0), (0)) σ) fun r2 σ3 =>
  some (r2, σ3)
set_option maxRecDepth 100000 in
theorem c_X9_badgersIn {E : E0} (hE : EOK E) {h0 : Nat} {p1 : Int32} {σ σ1 : Hp} {r : Int32} (h : s_X9_badgersIn h0 p1 σ = some (r, σ1)) : CT E yX9_badgersIn (.code yX9_badgersIn cX9_badgersIn 4 (some .int)) rm_X9_badgersIn [tR (some (h0)), tI (p1)] σ (some (tI r)) σ1 := by
  refine CT.mk hE (by decide +kernel) (Nat.le_of_ble_eq_true rfl) [(0, tR (some (h0))), (1, tI (p1))] rfl (fun X C hin hx hxn => ?_)
  have C : XOK E X cX9_badgersIn RX9 4 (some .int) rm_X9_badgersIn := C
  unfold s_X9_badgersIn at h
  refine g_iconst (v := 0) (pc := 0) C dX9_badgersIn_0 (by decide) ?_
  refine g_istore_n (lm' := [(2, tI (0)), (0, tR (some (h0))), (1, tI (p1))]) (pc := 1) C 2 dX9_badgersIn_1 rfl (by decide) rfl ?_
  refine g_iconst (v := 0) (pc := 2) C dX9_badgersIn_2 (by decide) ?_
  refine g_istore_n (lm' := [(3, tI (0)), (2, tI (0)), (0, tR (some (h0))), (1, tI (p1))]) (pc := 3) C 3 dX9_badgersIn_3 rfl (by decide) rfl ?_
  refine g_sub [2, 3, 1, 0] (lm' := [(0, tR (some (h0))), (1, tI (p1)), (2, tI (0)), (3, tI (0))]) rfl ?_
  obtain ⟨KQ, hKQ, r2, σ3, hlr2, h⟩ := zcbK h
  refine w_X9_badgersIn_l4 (KE := KQ) hE C hxn ?_ hlr2 h
  · intro r2 σ1 h
    have h := (hKQ _ _).mp h
    obtain ⟨rfl, rfl⟩ := zsome h
    exact hx
def rm_X9_room : Room := { frames := 6, cells := 0, slots := 0, locals := 146 }
noncomputable def s_X9_room (h0 : Nat) (p1 : Int32) (p2 : Int32) (σ : Hp) : Option (Int32 × Hp) :=
  (wrI 9 σ h0 0 (0)).bind fun σ1 =>
  cb (s_X9_isRoom (Int32.toInt64 (p1 : Int32)) σ1) fun v3 σ2 =>
  if v3 = 0 then
    some (((-1)), σ2)
  else
    if p2 = 0 then
      (ck 9 σ2 h0).bind fun u4 =>
      cb (s_X9_theirsIn h0 (p1) σ2) fun v6 σ5 =>
      some ((v6), σ5)
    else
      if p2 = 1 then
        (rdR 9 σ2 h0 3).bind fun r8 =>
        (r8).bind fun a9 =>
        (ldI 11 σ2 a9 (11 + p1)).bind fun v10 =>
        some ((v10), σ2)
      else
        if p2 = 2 then
          (ck 9 σ2 h0).bind fun u12 =>
          cb (s_X9_badgersIn h0 (p1) σ2) fun v14 σ13 =>
          some ((v14), σ13)
        else
          some (((-1)), σ2)
set_option maxRecDepth 100000 in
theorem c_X9_room {E : E0} (hE : EOK E) {h0 : Nat} {p1 : Int32} {p2 : Int32} {σ σ1 : Hp} {r : Int32} (h : s_X9_room h0 p1 p2 σ = some (r, σ1)) : CT E yX9_room (.code yX9_room cX9_room 3 (some .int)) rm_X9_room [tR (some (h0)), tI (p1), tI (p2)] σ (some (tI r)) σ1 := by
  refine CT.mk hE (by decide +kernel) (Nat.le_of_ble_eq_true rfl) [(0, tR (some (h0))), (1, tI (p1)), (2, tI (p2))] rfl (fun X C hin hx hxn => ?_)
  have C : XOK E X cX9_room RX9 3 (some .int) rm_X9_room := C
  unfold s_X9_room at h
  refine g_aload_n (pc := 0) C 0 0 dX9_room_0 rfl rfl ?_
  refine g_iconst (v := 0) (pc := 1) C dX9_room_1 (by decide) ?_
  obtain ⟨σ1, hvσ1, h⟩ := zbind h
  refine g_putI (N := 58) (pc := 2) C ⟨ck_9, rfl, tyX9_ok⟩ hvσ1 rfl fl_X9_161 rfl rfl dX9_room_2 ?_
  refine g_iload_n (pc := 5) C 1 1 dX9_room_5 rfl rfl ?_
  refine g_i2l (pc := 6) C dX9_room_6 ?_
  obtain ⟨v3, σ2, hvσ2, h⟩ := zcb h
  refine g_callS (pc := 7) (av := [tJ (Int32.toInt64 (p1 : Int32))]) C (c_X9_isRoom hE hvσ2) ys_X9_isRoom ml_X9_190 rfl (rf_of (by decide)) rfl (Nat.le_of_ble_eq_true rfl) dX9_room_7 ?_
  refine g_if_ne (pc := 10) C 15 dX9_room_10 (by decide) (fun c16 => ?_) (fun c16 => ?_)
  · have h := zif_f c16 h
    refine g_iload_n (pc := 15) C 2 2 dX9_room_15 rfl rfl ?_
    by_cases c7 : p2 = 0
    · refine g_tswIn (pc := 16) C 44 dX9_room_16 (by rw [c7]; decide) (by rw [c7]; decide) (by rw [c7]; rfl) (by decide) ?_
      have h := zif_t c7 h
      refine g_aload_n (pc := 44) C 0 0 dX9_room_44 rfl rfl ?_
      refine g_iload_n (pc := 45) C 1 1 dX9_room_45 rfl rfl ?_
      obtain ⟨u4, hvu4, h⟩ := zbind h
      obtain ⟨v6, σ5, hvσ5, h⟩ := zcb h
      refine g_callV (pc := 46) (av := [tI (p1)]) C (c_X9_theirsIn hE hvσ5) yv_X9_theirsIn ml_X9_225 ck_9 (zopt hvu4).1 rfl (rf_of (by decide)) rfl (Nat.le_of_ble_eq_true rfl) dX9_room_46 ?_
      obtain ⟨rfl, rfl⟩ := zsome h
      exact g_iret (pc := 49) C rfl hx (by rw [hxn]; rfl) (by rw [hxn]; rfl) dX9_room_49
    · have h := zif_f c7 h
      by_cases c11 : p2 = 1
      · refine g_tswIn (pc := 16) C 50 dX9_room_16 (by rw [c11]; decide) (by rw [c11]; decide) (by rw [c11]; rfl) (by decide) ?_
        have h := zif_t c11 h
        refine g_aload_n (pc := 50) C 0 0 dX9_room_50 rfl rfl ?_
        obtain ⟨r8, hvr8, h⟩ := zbind h
        refine g_getR (N := 58) (pc := 51) C ck_9 hvr8 rfl rfl fl_X9_13 dX9_room_51 ?_
        refine g_bipush (v := 11) (pc := 54) C dX9_room_54 (by decide) ?_
        refine g_iload_n (pc := 56) C 1 1 dX9_room_56 rfl rfl ?_
        refine g_iadd (pc := 57) C dX9_room_57 ?_
        obtain ⟨a9, hqa9, h9⟩ := zbind h
        clear h
        subst hqa9
        have h := h9
        clear h9
        obtain ⟨v10, hvv10, h⟩ := zbind h
        refine g_iald (pc := 58) C hvv10 dX9_room_58 ?_
        obtain ⟨rfl, rfl⟩ := zsome h
        exact g_iret (pc := 59) C rfl hx (by rw [hxn]; rfl) (by rw [hxn]; rfl) dX9_room_59
      · have h := zif_f c11 h
        by_cases c15 : p2 = 2
        · refine g_tswIn (pc := 16) C 60 dX9_room_16 (by rw [c15]; decide) (by rw [c15]; decide) (by rw [c15]; rfl) (by decide) ?_
          have h := zif_t c15 h
          refine g_aload_n (pc := 60) C 0 0 dX9_room_60 rfl rfl ?_
          refine g_iload_n (pc := 61) C 1 1 dX9_room_61 rfl rfl ?_
          obtain ⟨u12, hvu12, h⟩ := zbind h
          obtain ⟨v14, σ13, hvσ13, h⟩ := zcb h
          refine g_callV (pc := 62) (av := [tI (p1)]) C (c_X9_badgersIn hE hvσ13) yv_X9_badgersIn ml_X9_228 ck_9 (zopt hvu12).1 rfl (rf_of (by decide)) rfl (Nat.le_of_ble_eq_true rfl) dX9_room_62 ?_
          obtain ⟨rfl, rfl⟩ := zsome h
          exact g_iret (pc := 65) C rfl hx (by rw [hxn]; rfl) (by rw [hxn]; rfl) dX9_room_65
        · have h := zif_f c15 h
          refine g_tswOut (pc := 16) C 66 dX9_room_16 (by have ec7 := n32 (k := 0) (n := 0) (by decide) c7; have ec11 := n32 (k := 1) (n := 1) (by decide) c11; have ec15 := n32 (k := 2) (n := 2) (by decide) c15; omega) (by decide) ?_
          refine g_iconst (v := (-1)) (pc := 66) C dX9_room_66 (by decide) ?_
          obtain ⟨rfl, rfl⟩ := zsome h
          exact g_iret (pc := 67) C rfl hx (by rw [hxn]; rfl) (by rw [hxn]; rfl) dX9_room_67
  · have h := zif_t c16 h
    refine g_iconst (v := (-1)) (pc := 13) C dX9_room_13 (by decide) ?_
    obtain ⟨rfl, rfl⟩ := zsome h
    exact g_iret (pc := 14) C rfl hx (by rw [hxn]; rfl) (by rw [hxn]; rfl) dX9_room_14
def rm_X9_canStride : Room := { frames := 5, cells := 0, slots := 0, locals := 124 }
noncomputable def s_X9_canStride_j80 (h0 : Nat) (l1 : Int32) (l3 : Int32) (l6 : Int32) (σ : Hp) : Option (Int32 × Hp) :=
  (ck 9 σ h0).bind fun u1 =>
  cb (s_X9_tells h0 (2) (l6) ((-1)) (l1) (l3) (0) σ) fun v3 σ2 =>
  if (lg_cmp (v3 : Int64) (0 : Int64)) = 0 then
    some ((1), σ2)
  else
    some ((0), σ2)
set_option maxRecDepth 100000 in
theorem w_X9_canStride_j80 {E : E0} (hE : EOK E) {X : X0} (C : XOK E X cX9_canStride RX9 7 (some .boolean) rm_X9_canStride) (hxn : xn X = (rm_X9_canStride.cells, rm_X9_canStride.slots)) (h0 : Nat) (l1 : Int32) (l3 : Int32) (l6 : Int32) (σ : Hp) (r : Int32) (σ1 : Hp) (h : s_X9_canStride_j80 h0 l1 l3 l6 σ = some (r, σ1)) (hx : xd X = (some (tI r), σ1)) : G E X 0 0 80 [(0, tR (some (h0))), (1, tI (l1)), (3, tI (l3)), (6, tI (l6))] [] σ := by
  unfold s_X9_canStride_j80 at h
  refine g_aload_n (pc := 80) C 0 0 dX9_canStride_80 rfl rfl ?_
  refine g_iconst (v := 2) (pc := 81) C dX9_canStride_81 (by decide) ?_
  refine g_iload (pc := 82) C 3 dX9_canStride_82 rfl ?_
  refine g_iconst (v := (-1)) (pc := 84) C dX9_canStride_84 (by decide) ?_
  refine g_iload_n (pc := 85) C 1 1 dX9_canStride_85 rfl rfl ?_
  refine g_iload_n (pc := 86) C 3 2 dX9_canStride_86 rfl rfl ?_
  refine g_lconst (v := 0) (pc := 87) C dX9_canStride_87 (by decide) ?_
  obtain ⟨u1, hvu1, h⟩ := zbind h
  obtain ⟨v3, σ2, hvσ2, h⟩ := zcb h
  refine g_callV (pc := 88) (av := [tI (2), tI (l6), tI ((-1)), tI (l1), tI (l3), tJ (0)]) C (c_X9_tells hE hvσ2) yv_X9_tells ml_X9_430 ck_9 (zopt hvu1).1 rfl (rf_of (by decide)) rfl (Nat.le_of_ble_eq_true rfl) dX9_canStride_88 ?_
  refine g_lconst (v := 0) (pc := 91) C dX9_canStride_91 (by decide) ?_
  refine g_lcmp (pc := 92) C dX9_canStride_92 ?_
  refine g_if_ne (pc := 93) C 100 dX9_canStride_93 (by decide) (fun c4 => ?_) (fun c4 => ?_)
  · have h := zif_f c4 h
    refine g_iconst (v := 0) (pc := 100) C dX9_canStride_100 (by decide) ?_
    obtain ⟨rfl, rfl⟩ := zsome h
    exact g_zret (pc := 101) C rfl hx (by decide) (by rw [hxn]; rfl) (by rw [hxn]; rfl) dX9_canStride_101
  · have h := zif_t c4 h
    refine g_iconst (v := 1) (pc := 96) C dX9_canStride_96 (by decide) ?_
    refine g_goto (pc := 97) C 101 dX9_canStride_97 (by decide) ?_
    obtain ⟨rfl, rfl⟩ := zsome h
    exact g_zret (pc := 101) C rfl hx (by decide) (by rw [hxn]; rfl) (by rw [hxn]; rfl) dX9_canStride_101
noncomputable def s_X9_canStride (h0 : Nat) (p1 : Int32) (p2 : Int32) (p3 : Int32) (σ : Hp) : Option (Int32 × Hp) :=
  (ck 9 σ h0).bind fun u1 =>
  cb (s_X9_longOf h0 (p2) (p3) σ) fun v3 σ2 =>
  (rdR 9 σ2 h0 3).bind fun r4 =>
  (r4).bind fun a5 =>
  (ldI 11 σ2 a5 (30 + p2)).bind fun v6 =>
  (rdR 9 σ2 h0 3).bind fun r7 =>
  (r7).bind fun a8 =>
  (ldI 11 σ2 a8 (30 + p3)).bind fun v9 =>
  if p2 = p3 then
    some ((0), σ2)
  else
    if v3 ≤ 0 then
      some ((0), σ2)
    else
      (rdR 9 σ2 h0 3).bind fun r10 =>
      (r10).bind fun a11 =>
      (ldI 11 σ2 a11 (150 + p1)).bind fun v12 =>
      if v12 < v3 then
        some ((0), σ2)
      else
        if v6 = v9 then
          s_X9_canStride_j80 (h0) (p1) (p3) (v9) σ2
        else
          (rdR 9 σ2 h0 3).bind fun r13 =>
          (r13).bind fun a14 =>
          (ldI 11 σ2 a14 (11 + v6)).bind fun v15 =>
          cb (s_X9_is (v15) (v9) σ2) fun v17 σ16 =>
          if v17 = 0 then
            some ((0), σ16)
          else
            s_X9_canStride_j80 (h0) (p1) (p3) (v9) σ16
set_option maxRecDepth 100000 in
theorem c_X9_canStride {E : E0} (hE : EOK E) {h0 : Nat} {p1 : Int32} {p2 : Int32} {p3 : Int32} {σ σ1 : Hp} {r : Int32} (h : s_X9_canStride h0 p1 p2 p3 σ = some (r, σ1)) : CT E yX9_canStride (.code yX9_canStride cX9_canStride 7 (some .boolean)) rm_X9_canStride [tR (some (h0)), tI (p1), tI (p2), tI (p3)] σ (some (tI r)) σ1 := by
  refine CT.mk hE (by decide +kernel) (Nat.le_of_ble_eq_true rfl) [(0, tR (some (h0))), (1, tI (p1)), (2, tI (p2)), (3, tI (p3))] rfl (fun X C hin hx hxn => ?_)
  have C : XOK E X cX9_canStride RX9 7 (some .boolean) rm_X9_canStride := C
  unfold s_X9_canStride at h
  refine g_aload_n (pc := 0) C 0 0 dX9_canStride_0 rfl rfl ?_
  refine g_iload_n (pc := 1) C 2 2 dX9_canStride_1 rfl rfl ?_
  refine g_iload_n (pc := 2) C 3 3 dX9_canStride_2 rfl rfl ?_
  obtain ⟨u1, hvu1, h⟩ := zbind h
  obtain ⟨v3, σ2, hvσ2, h⟩ := zcb h
  refine g_callV (pc := 3) (av := [tI (p2), tI (p3)]) C (c_X9_longOf hE hvσ2) yv_X9_longOf ml_X9_205 ck_9 (zopt hvu1).1 rfl (rf_of (by decide)) rfl (Nat.le_of_ble_eq_true rfl) dX9_canStride_3 ?_
  refine g_istore (lm' := [(4, tI (v3)), (0, tR (some (h0))), (1, tI (p1)), (2, tI (p2)), (3, tI (p3))]) (pc := 6) C dX9_canStride_6 (by decide) rfl ?_
  refine g_aload_n (pc := 8) C 0 1 dX9_canStride_8 rfl rfl ?_
  obtain ⟨r4, hvr4, h⟩ := zbind h
  refine g_getR (N := 58) (pc := 9) C ck_9 hvr4 rfl rfl fl_X9_13 dX9_canStride_9 ?_
  refine g_bipush (v := 30) (pc := 12) C dX9_canStride_12 (by decide) ?_
  refine g_iload_n (pc := 14) C 2 3 dX9_canStride_14 rfl rfl ?_
  refine g_iadd (pc := 15) C dX9_canStride_15 ?_
  obtain ⟨a5, hqa5, h9⟩ := zbind h
  clear h
  subst hqa5
  have h := h9
  clear h9
  obtain ⟨v6, hvv6, h⟩ := zbind h
  refine g_iald (pc := 16) C hvv6 dX9_canStride_16 ?_
  refine g_istore (lm' := [(5, tI (v6)), (4, tI (v3)), (0, tR (some (h0))), (1, tI (p1)), (2, tI (p2)), (3, tI (p3))]) (pc := 17) C dX9_canStride_17 (by decide) rfl ?_
  refine g_aload_n (pc := 19) C 0 2 dX9_canStride_19 rfl rfl ?_
  obtain ⟨r7, hvr7, h⟩ := zbind h
  refine g_getR (N := 58) (pc := 20) C ck_9 hvr7 rfl rfl fl_X9_13 dX9_canStride_20 ?_
  refine g_bipush (v := 30) (pc := 23) C dX9_canStride_23 (by decide) ?_
  refine g_iload_n (pc := 25) C 3 5 dX9_canStride_25 rfl rfl ?_
  refine g_iadd (pc := 26) C dX9_canStride_26 ?_
  obtain ⟨a8, hqa8, h9⟩ := zbind h
  clear h
  subst hqa8
  have h := h9
  clear h9
  obtain ⟨v9, hvv9, h⟩ := zbind h
  refine g_iald (pc := 27) C hvv9 dX9_canStride_27 ?_
  refine g_istore (lm' := [(6, tI (v9)), (5, tI (v6)), (4, tI (v3)), (0, tR (some (h0))), (1, tI (p1)), (2, tI (p2)), (3, tI (p3))]) (pc := 28) C dX9_canStride_28 (by decide) rfl ?_
  refine g_iload_n (pc := 30) C 2 5 dX9_canStride_30 rfl rfl ?_
  refine g_iload_n (pc := 31) C 3 6 dX9_canStride_31 rfl rfl ?_
  refine g_icmp_eq (pc := 32) C 100 dX9_canStride_32 (by decide) (fun c22 => ?_) (fun c22 => ?_)
  · have h := zif_t c22 h
    refine g_iconst (v := 0) (pc := 100) C dX9_canStride_100 (by decide) ?_
    obtain ⟨rfl, rfl⟩ := zsome h
    exact g_zret (pc := 101) C rfl hx (by decide) (by rw [hxn]; rfl) (by rw [hxn]; rfl) dX9_canStride_101
  · have h := zif_f c22 h
    refine g_iload (pc := 35) C 2 dX9_canStride_35 rfl ?_
    refine g_if_le (pc := 37) C 100 dX9_canStride_37 (by decide) (fun c21 => ?_) (fun c21 => ?_)
    · have h := zif_t c21 h
      refine g_iconst (v := 0) (pc := 100) C dX9_canStride_100 (by decide) ?_
      obtain ⟨rfl, rfl⟩ := zsome h
      exact g_zret (pc := 101) C rfl hx (by decide) (by rw [hxn]; rfl) (by rw [hxn]; rfl) dX9_canStride_101
    · have h := zif_f c21 h
      refine g_iload (pc := 40) C 2 dX9_canStride_40 rfl ?_
      refine g_aload_n (pc := 42) C 0 3 dX9_canStride_42 rfl rfl ?_
      obtain ⟨r10, hvr10, h⟩ := zbind h
      refine g_getR (N := 58) (pc := 43) C ck_9 hvr10 rfl rfl fl_X9_13 dX9_canStride_43 ?_
      refine g_sipush (v := 150) (pc := 46) C dX9_canStride_46 (by decide) ?_
      refine g_iload_n (pc := 49) C 1 4 dX9_canStride_49 rfl rfl ?_
      refine g_iadd (pc := 50) C dX9_canStride_50 ?_
      obtain ⟨a11, hqa11, h9⟩ := zbind h
      clear h
      subst hqa11
      have h := h9
      clear h9
      obtain ⟨v12, hvv12, h⟩ := zbind h
      refine g_iald (pc := 51) C hvv12 dX9_canStride_51 ?_
      refine g_icmp_gt (pc := 52) C 100 dX9_canStride_52 (by decide) (fun c20 => ?_) (fun c20 => ?_)
      · have h := zif_t c20 h
        refine g_iconst (v := 0) (pc := 100) C dX9_canStride_100 (by decide) ?_
        obtain ⟨rfl, rfl⟩ := zsome h
        exact g_zret (pc := 101) C rfl hx (by decide) (by rw [hxn]; rfl) (by rw [hxn]; rfl) dX9_canStride_101
      · have h := zif_f c20 h
        refine g_iload (pc := 55) C 1 dX9_canStride_55 rfl ?_
        refine g_iload (pc := 57) C 0 dX9_canStride_57 rfl ?_
        refine g_icmp_eq (pc := 59) C 80 dX9_canStride_59 (by decide) (fun c19 => ?_) (fun c19 => ?_)
        · have h := zif_t c19 h
          refine g_sub [3, 4, 6, 0] (lm' := [(0, tR (some (h0))), (1, tI (p1)), (3, tI (p3)), (6, tI (v9))]) rfl ?_
          exact w_X9_canStride_j80 hE C hxn _ _ _ _ _ _ _ h hx
        · have h := zif_f c19 h
          refine g_aload_n (pc := 62) C 0 3 dX9_canStride_62 rfl rfl ?_
          obtain ⟨r13, hvr13, h⟩ := zbind h
          refine g_getR (N := 58) (pc := 63) C ck_9 hvr13 rfl rfl fl_X9_13 dX9_canStride_63 ?_
          refine g_bipush (v := 11) (pc := 66) C dX9_canStride_66 (by decide) ?_
          refine g_iload (pc := 68) C 1 dX9_canStride_68 rfl ?_
          refine g_iadd (pc := 70) C dX9_canStride_70 ?_
          obtain ⟨a14, hqa14, h9⟩ := zbind h
          clear h
          subst hqa14
          have h := h9
          clear h9
          obtain ⟨v15, hvv15, h⟩ := zbind h
          refine g_iald (pc := 71) C hvv15 dX9_canStride_71 ?_
          refine g_iload (pc := 72) C 0 dX9_canStride_72 rfl ?_
          obtain ⟨v17, σ16, hvσ16, h⟩ := zcb h
          refine g_callS (pc := 74) (av := [tI (v15), tI (v9)]) C (c_X9_is hE hvσ16) ys_X9_is ml_X9_438 rfl (rf_of (by decide)) rfl (Nat.le_of_ble_eq_true rfl) dX9_canStride_74 ?_
          refine g_if_eq (pc := 77) C 100 dX9_canStride_77 (by decide) (fun c18 => ?_) (fun c18 => ?_)
          · have h := zif_t c18 h
            refine g_iconst (v := 0) (pc := 100) C dX9_canStride_100 (by decide) ?_
            obtain ⟨rfl, rfl⟩ := zsome h
            exact g_zret (pc := 101) C rfl hx (by decide) (by rw [hxn]; rfl) (by rw [hxn]; rfl) dX9_canStride_101
          · have h := zif_f c18 h
            refine g_sub [3, 4, 6, 0] (lm' := [(0, tR (some (h0))), (1, tI (p1)), (3, tI (p3)), (6, tI (v9))]) rfl ?_
            exact w_X9_canStride_j80 hE C hxn _ _ _ _ _ _ _ h hx
def rm_X9_can : Room := { frames := 6, cells := 0, slots := 0, locals := 150 }
noncomputable def s_X9_can (h0 : Nat) (p1 : Int32) (p2 : Int32) (σ : Hp) : Option (Int32 × Hp) :=
  (wrI 9 σ h0 0 (0)).bind fun σ1 =>
  (ck 9 σ1 h0).bind fun u2 =>
  cb (s_X9_isFolk h0 (p1) σ1) fun v4 σ3 =>
  if v4 = 0 then
    some (((-1)), σ3)
  else
    (ck 9 σ3 h0).bind fun u5 =>
    cb (s_X9_isPerch h0 (p2) σ3) fun v7 σ6 =>
    if v7 = 0 then
      some (((-1)), σ6)
    else
      (rdR 9 σ6 h0 3).bind fun r8 =>
      (r8).bind fun a9 =>
      (ldI 11 σ6 a9 (17 + p1)).bind fun v10 =>
      (ck 9 σ6 h0).bind fun u11 =>
      cb (s_X9_canStride h0 (p1) (v10) (p2) σ6) fun v13 σ12 =>
      if v13 = 0 then
        some ((0), σ12)
      else
        some ((1), σ12)
set_option maxRecDepth 100000 in
theorem c_X9_can {E : E0} (hE : EOK E) {h0 : Nat} {p1 : Int32} {p2 : Int32} {σ σ1 : Hp} {r : Int32} (h : s_X9_can h0 p1 p2 σ = some (r, σ1)) : CT E yX9_can (.code yX9_can cX9_can 3 (some .int)) rm_X9_can [tR (some (h0)), tI (p1), tI (p2)] σ (some (tI r)) σ1 := by
  refine CT.mk hE (by decide +kernel) (Nat.le_of_ble_eq_true rfl) [(0, tR (some (h0))), (1, tI (p1)), (2, tI (p2))] rfl (fun X C hin hx hxn => ?_)
  have C : XOK E X cX9_can RX9 3 (some .int) rm_X9_can := C
  unfold s_X9_can at h
  refine g_aload_n (pc := 0) C 0 0 dX9_can_0 rfl rfl ?_
  refine g_iconst (v := 0) (pc := 1) C dX9_can_1 (by decide) ?_
  obtain ⟨σ1, hvσ1, h⟩ := zbind h
  refine g_putI (N := 58) (pc := 2) C ⟨ck_9, rfl, tyX9_ok⟩ hvσ1 rfl fl_X9_161 rfl rfl dX9_can_2 ?_
  refine g_aload_n (pc := 5) C 0 0 dX9_can_5 rfl rfl ?_
  refine g_iload_n (pc := 6) C 1 1 dX9_can_6 rfl rfl ?_
  obtain ⟨u2, hvu2, h⟩ := zbind h
  obtain ⟨v4, σ3, hvσ3, h⟩ := zcb h
  refine g_callV (pc := 7) (av := [tI (p1)]) C (c_X9_isFolk hE hvσ3) yv_X9_isFolk ml_X9_209 ck_9 (zopt hvu2).1 rfl (rf_of (by decide)) rfl (Nat.le_of_ble_eq_true rfl) dX9_can_7 ?_
  refine g_if_eq (pc := 10) C 21 dX9_can_10 (by decide) (fun c16 => ?_) (fun c16 => ?_)
  · have h := zif_t c16 h
    refine g_iconst (v := (-1)) (pc := 21) C dX9_can_21 (by decide) ?_
    refine g_goto (pc := 22) C 48 dX9_can_22 (by decide) ?_
    obtain ⟨rfl, rfl⟩ := zsome h
    exact g_iret (pc := 48) C rfl hx (by rw [hxn]; rfl) (by rw [hxn]; rfl) dX9_can_48
  · have h := zif_f c16 h
    refine g_aload_n (pc := 13) C 0 0 dX9_can_13 rfl rfl ?_
    refine g_iload_n (pc := 14) C 2 2 dX9_can_14 rfl rfl ?_
    obtain ⟨u5, hvu5, h⟩ := zbind h
    obtain ⟨v7, σ6, hvσ6, h⟩ := zcb h
    refine g_callV (pc := 15) (av := [tI (p2)]) C (c_X9_isPerch hE hvσ6) yv_X9_isPerch ml_X9_196 ck_9 (zopt hvu5).1 rfl (rf_of (by decide)) rfl (Nat.le_of_ble_eq_true rfl) dX9_can_15 ?_
    refine g_if_ne (pc := 18) C 25 dX9_can_18 (by decide) (fun c15 => ?_) (fun c15 => ?_)
    · have h := zif_f c15 h
      refine g_aload_n (pc := 25) C 0 0 dX9_can_25 rfl rfl ?_
      refine g_iload_n (pc := 26) C 1 1 dX9_can_26 rfl rfl ?_
      refine g_aload_n (pc := 27) C 0 0 dX9_can_27 rfl rfl ?_
      obtain ⟨r8, hvr8, h⟩ := zbind h
      refine g_getR (N := 58) (pc := 28) C ck_9 hvr8 rfl rfl fl_X9_13 dX9_can_28 ?_
      refine g_bipush (v := 17) (pc := 31) C dX9_can_31 (by decide) ?_
      refine g_iload_n (pc := 33) C 1 1 dX9_can_33 rfl rfl ?_
      refine g_iadd (pc := 34) C dX9_can_34 ?_
      obtain ⟨a9, hqa9, h9⟩ := zbind h
      clear h
      subst hqa9
      have h := h9
      clear h9
      obtain ⟨v10, hvv10, h⟩ := zbind h
      refine g_iald (pc := 35) C hvv10 dX9_can_35 ?_
      refine g_iload_n (pc := 36) C 2 2 dX9_can_36 rfl rfl ?_
      obtain ⟨u11, hvu11, h⟩ := zbind h
      obtain ⟨v13, σ12, hvσ12, h⟩ := zcb h
      refine g_callV (pc := 37) (av := [tI (p1), tI (v10), tI (p2)]) C (c_X9_canStride hE hvσ12) yv_X9_canStride ml_X9_231 ck_9 (zopt hvu11).1 rfl (rf_of (by decide)) rfl (Nat.le_of_ble_eq_true rfl) dX9_can_37 ?_
      refine g_if_eq (pc := 40) C 47 dX9_can_40 (by decide) (fun c14 => ?_) (fun c14 => ?_)
      · have h := zif_t c14 h
        refine g_iconst (v := 0) (pc := 47) C dX9_can_47 (by decide) ?_
        obtain ⟨rfl, rfl⟩ := zsome h
        exact g_iret (pc := 48) C rfl hx (by rw [hxn]; rfl) (by rw [hxn]; rfl) dX9_can_48
      · have h := zif_f c14 h
        refine g_iconst (v := 1) (pc := 43) C dX9_can_43 (by decide) ?_
        refine g_goto (pc := 44) C 48 dX9_can_44 (by decide) ?_
        obtain ⟨rfl, rfl⟩ := zsome h
        exact g_iret (pc := 48) C rfl hx (by rw [hxn]; rfl) (by rw [hxn]; rfl) dX9_can_48
    · have h := zif_t c15 h
      refine g_iconst (v := (-1)) (pc := 21) C dX9_can_21 (by decide) ?_
      refine g_goto (pc := 22) C 48 dX9_can_22 (by decide) ?_
      obtain ⟨rfl, rfl⟩ := zsome h
      exact g_iret (pc := 48) C rfl hx (by rw [hxn]; rfl) (by rw [hxn]; rfl) dX9_can_48
def rm_X9_terms : Room := { frames := 1, cells := 0, slots := 0, locals := 25 }
noncomputable def s_X9_terms_j60 (h0 : Nat) (l1 : Int32) (l2 : Int32) (t0 : Int32) (σ : Hp) : Option (Int32 × Hp) :=
  if t0 = 0 then
    (ck 9 σ h0).bind fun u5 =>
    cb (s_X9_tell h0 ((-1)) σ) fun v7 σ6 =>
    some ((v7), σ6)
  else
    (wrI 9 σ h0 8 (0)).bind fun σ1 =>
    (ck 9 σ1 h0).bind fun u2 =>
    cb (s_X9_change h0 (7 + l1) (l2) σ1) fun v4 σ3 =>
    some ((v4), σ3)
set_option maxRecDepth 100000 in
theorem w_X9_terms_j60 {E : E0} (hE : EOK E) {X : X0} (C : XOK E X cX9_terms RX9 4 (some .int) rm_X9_terms) (hxn : xn X = (rm_X9_terms.cells, rm_X9_terms.slots)) (h0 : Nat) (l1 : Int32) (l2 : Int32) (t0 : Int32) (σ : Hp) (r : Int32) (σ1 : Hp) (h : s_X9_terms_j60 h0 l1 l2 t0 σ = some (r, σ1)) (hx : xd X = (some (tI r), σ1)) : G E X 0 0 60 [(0, tR (some (h0))), (1, tI (l1)), (2, tI (l2))] [tI (t0)] σ := by
  unfold s_X9_terms_j60 at h
  refine g_istore_n (lm' := [(3, tI (t0)), (0, tR (some (h0))), (1, tI (l1)), (2, tI (l2))]) (pc := 60) C 3 dX9_terms_60 rfl (by decide) rfl ?_
  refine g_iload_n (pc := 61) C 3 0 dX9_terms_61 rfl rfl ?_
  refine g_if_ne (pc := 62) C 71 dX9_terms_62 (by decide) (fun c8 => ?_) (fun c8 => ?_)
  · have h := zif_f c8 h
    refine g_aload_n (pc := 71) C 0 1 dX9_terms_71 rfl rfl ?_
    refine g_iconst (v := 0) (pc := 72) C dX9_terms_72 (by decide) ?_
    obtain ⟨σ1, hvσ1, h⟩ := zbind h
    refine g_putI (N := 58) (pc := 73) C ⟨ck_9, rfl, tyX9_ok⟩ hvσ1 rfl fl_X9_167 rfl rfl dX9_terms_73 ?_
    refine g_aload_n (pc := 76) C 0 1 dX9_terms_76 rfl rfl ?_
    refine g_bipush (v := 7) (pc := 77) C dX9_terms_77 (by decide) ?_
    refine g_iload_n (pc := 79) C 1 2 dX9_terms_79 rfl rfl ?_
    refine g_iadd (pc := 80) C dX9_terms_80 ?_
    refine g_iload_n (pc := 81) C 2 3 dX9_terms_81 rfl rfl ?_
    obtain ⟨u2, hvu2, h⟩ := zbind h
    obtain ⟨v4, σ3, hvσ3, h⟩ := zcb h
    refine g_callV (pc := 82) (av := [tI (7 + l1), tI (l2)]) C (c_X9_change hE hvσ3) yv_X9_change ml_X9_239 ck_9 (zopt hvu2).1 rfl (rf_of (by decide)) rfl (Nat.le_of_ble_eq_true rfl) dX9_terms_82 ?_
    obtain ⟨rfl, rfl⟩ := zsome h
    exact g_iret (pc := 85) C rfl hx (by rw [hxn]; rfl) (by rw [hxn]; rfl) dX9_terms_85
  · have h := zif_t c8 h
    refine g_aload_n (pc := 65) C 0 1 dX9_terms_65 rfl rfl ?_
    refine g_iconst (v := (-1)) (pc := 66) C dX9_terms_66 (by decide) ?_
    obtain ⟨u5, hvu5, h⟩ := zbind h
    obtain ⟨v7, σ6, hvσ6, h⟩ := zcb h
    refine g_callV (pc := 67) (av := [tI ((-1))]) C (c_X9_tell hE hvσ6) yv_X9_tell ml_X9_170 ck_9 (zopt hvu5).1 rfl (rf_of (by decide)) rfl (Nat.le_of_ble_eq_true rfl) dX9_terms_67 ?_
    obtain ⟨rfl, rfl⟩ := zsome h
    exact g_iret (pc := 70) C rfl hx (by rw [hxn]; rfl) (by rw [hxn]; rfl) dX9_terms_70
noncomputable def s_X9_terms_j59 (h0 : Nat) (l1 : Int32) (l2 : Int32) (σ : Hp) : Option (Int32 × Hp) :=
  s_X9_terms_j60 (h0) (l1) (l2) (0) σ
set_option maxRecDepth 100000 in
theorem w_X9_terms_j59 {E : E0} (hE : EOK E) {X : X0} (C : XOK E X cX9_terms RX9 4 (some .int) rm_X9_terms) (hxn : xn X = (rm_X9_terms.cells, rm_X9_terms.slots)) (h0 : Nat) (l1 : Int32) (l2 : Int32) (σ : Hp) (r : Int32) (σ1 : Hp) (h : s_X9_terms_j59 h0 l1 l2 σ = some (r, σ1)) (hx : xd X = (some (tI r), σ1)) : G E X 0 0 59 [(0, tR (some (h0))), (1, tI (l1)), (2, tI (l2))] [] σ := by
  unfold s_X9_terms_j59 at h
  refine g_iconst (v := 0) (pc := 59) C dX9_terms_59 (by decide) ?_
  exact w_X9_terms_j60 hE C hxn _ _ _ _ _ _ _ h hx
noncomputable def s_X9_terms (h0 : Nat) (p1 : Int32) (p2 : Int32) (σ : Hp) : Option (Int32 × Hp) :=
  (wrI 9 σ h0 0 (0)).bind fun σ1 =>
  if p1 = 0 then
    cb (s_X9_in (Int32.toInt64 (p2 : Int32)) (0) (999) σ1) fun v10 σ9 =>
    s_X9_terms_j60 (h0) (p1) (p2) (v10) σ9
  else
    if p1 = 1 then
      cb (s_X9_in (Int32.toInt64 (p2 : Int32)) (0) (10) σ1) fun v7 σ6 =>
      s_X9_terms_j60 (h0) (p1) (p2) (v7) σ6
    else
      if p1 = 2 then
        cb (s_X9_in (Int32.toInt64 (p2 : Int32)) (0) (9) σ1) fun v3 σ2 =>
        if v3 = 0 then
          s_X9_terms_j59 (h0) (p1) (p2) σ2
        else
          s_X9_terms_j60 (h0) (p1) (p2) (1) σ2
      else
        s_X9_terms_j59 (h0) (p1) (p2) σ1
set_option maxRecDepth 100000 in
theorem c_X9_terms {E : E0} (hE : EOK E) {h0 : Nat} {p1 : Int32} {p2 : Int32} {σ σ1 : Hp} {r : Int32} (h : s_X9_terms h0 p1 p2 σ = some (r, σ1)) : CT E yX9_terms (.code yX9_terms cX9_terms 4 (some .int)) rm_X9_terms [tR (some (h0)), tI (p1), tI (p2)] σ (some (tI r)) σ1 := by
  refine CT.mk hE (by decide +kernel) (Nat.le_of_ble_eq_true rfl) [(0, tR (some (h0))), (1, tI (p1)), (2, tI (p2))] rfl (fun X C hin hx hxn => ?_)
  have C : XOK E X cX9_terms RX9 4 (some .int) rm_X9_terms := C
  unfold s_X9_terms at h
  refine g_aload_n (pc := 0) C 0 0 dX9_terms_0 rfl rfl ?_
  refine g_iconst (v := 0) (pc := 1) C dX9_terms_1 (by decide) ?_
  obtain ⟨σ1, hvσ1, h⟩ := zbind h
  refine g_putI (N := 58) (pc := 2) C ⟨ck_9, rfl, tyX9_ok⟩ hvσ1 rfl fl_X9_161 rfl rfl dX9_terms_2 ?_
  refine g_iload_n (pc := 5) C 1 1 dX9_terms_5 rfl rfl ?_
  refine g_if_ne (pc := 6) C 21 dX9_terms_6 (by decide) (fun c11 => ?_) (fun c11 => ?_)
  · have h := zif_f c11 h
    refine g_iload_n (pc := 21) C 1 1 dX9_terms_21 rfl rfl ?_
    refine g_iconst (v := 1) (pc := 22) C dX9_terms_22 (by decide) ?_
    refine g_icmp_ne (pc := 23) C 38 dX9_terms_23 (by decide) (fun c8 => ?_) (fun c8 => ?_)
    · have h := zif_f c8 h
      refine g_iload_n (pc := 38) C 1 1 dX9_terms_38 rfl rfl ?_
      refine g_iconst (v := 2) (pc := 39) C dX9_terms_39 (by decide) ?_
      refine g_icmp_ne (pc := 40) C 59 dX9_terms_40 (by decide) (fun c5 => ?_) (fun c5 => ?_)
      · have h := zif_f c5 h
        exact w_X9_terms_j59 hE C hxn _ _ _ _ _ _ h hx
      · have h := zif_t c5 h
        refine g_iload_n (pc := 43) C 2 2 dX9_terms_43 rfl rfl ?_
        refine g_i2l (pc := 44) C dX9_terms_44 ?_
        refine g_lconst (v := 0) (pc := 45) C dX9_terms_45 (by decide) ?_
        refine g_ldc2 (v := 9) (pc := 46) C dX9_terms_46 kl_X9_194 ?_
        obtain ⟨v3, σ2, hvσ2, h⟩ := zcb h
        refine g_callS (pc := 49) (av := [tJ (Int32.toInt64 (p2 : Int32)), tJ (0), tJ (9)]) C (c_X9_in hE hvσ2) ys_X9_in ml_X9_181 rfl (rf_of (by decide)) rfl (Nat.le_of_ble_eq_true rfl) dX9_terms_49 ?_
        refine g_if_eq (pc := 52) C 59 dX9_terms_52 (by decide) (fun c4 => ?_) (fun c4 => ?_)
        · have h := zif_t c4 h
          exact w_X9_terms_j59 hE C hxn _ _ _ _ _ _ h hx
        · have h := zif_f c4 h
          refine g_iconst (v := 1) (pc := 55) C dX9_terms_55 (by decide) ?_
          refine g_goto (pc := 56) C 60 dX9_terms_56 (by decide) ?_
          exact w_X9_terms_j60 hE C hxn _ _ _ _ _ _ _ h hx
    · have h := zif_t c8 h
      refine g_iload_n (pc := 26) C 2 2 dX9_terms_26 rfl rfl ?_
      refine g_i2l (pc := 27) C dX9_terms_27 ?_
      refine g_lconst (v := 0) (pc := 28) C dX9_terms_28 (by decide) ?_
      refine g_ldc2 (v := 10) (pc := 29) C dX9_terms_29 kl_X9_237 ?_
      obtain ⟨v7, σ6, hvσ6, h⟩ := zcb h
      refine g_callS (pc := 32) (av := [tJ (Int32.toInt64 (p2 : Int32)), tJ (0), tJ (10)]) C (c_X9_in hE hvσ6) ys_X9_in ml_X9_181 rfl (rf_of (by decide)) rfl (Nat.le_of_ble_eq_true rfl) dX9_terms_32 ?_
      refine g_goto (pc := 35) C 60 dX9_terms_35 (by decide) ?_
      exact w_X9_terms_j60 hE C hxn _ _ _ _ _ _ _ h hx
  · have h := zif_t c11 h
    refine g_iload_n (pc := 9) C 2 2 dX9_terms_9 rfl rfl ?_
    refine g_i2l (pc := 10) C dX9_terms_10 ?_
    refine g_lconst (v := 0) (pc := 11) C dX9_terms_11 (by decide) ?_
    refine g_ldc2 (v := 999) (pc := 12) C dX9_terms_12 kl_X9_235 ?_
    obtain ⟨v10, σ9, hvσ9, h⟩ := zcb h
    refine g_callS (pc := 15) (av := [tJ (Int32.toInt64 (p2 : Int32)), tJ (0), tJ (999)]) C (c_X9_in hE hvσ9) ys_X9_in ml_X9_181 rfl (rf_of (by decide)) rfl (Nat.le_of_ble_eq_true rfl) dX9_terms_15 ?_
    refine g_goto (pc := 18) C 60 dX9_terms_18 (by decide) ?_
    exact w_X9_terms_j60 hE C hxn _ _ _ _ _ _ _ h hx
def rm_X9_row : Room := { frames := 2, cells := 0, slots := 0, locals := 46 }
noncomputable def s_X9_row_j147 (h0 : Nat) (l1 : Int32) (l2 : Int32) (l3 : Int32) (σ : Hp) : Option (((Nat × Int32 × Int32 × Int32) ⊕ ((Nat × Int32))) × Hp) :=
  some (Sum.inl ((h0), (l1), (l2), (l3 + 3)), σ)
set_option maxRecDepth 100000 in
theorem w_X9_row_j147 {E : E0} (hE : EOK E) {X : X0} (C : XOK E X cX9_row RX9 4 (some .int) rm_X9_row) (hxn : xn X = (rm_X9_row.cells, rm_X9_row.slots)) {KE : ((Nat × Int32)) → Hp → Prop} (e_153 : ∀ (h0 : Nat) (l2 : Int32) (σ : Hp), KE ((h0, l2)) σ → G E X 0 0 153 [(0, tR (some (h0))), (2, tI (l2))] [] σ) (h0 : Nat) (l1 : Int32) (l2 : Int32) (l3 : Int32) (σ : Hp) (x : (Nat × Int32 × Int32 × Int32) ⊕ ((Nat × Int32))) (σ1 : Hp) (h : s_X9_row_j147 h0 l1 l2 l3 σ = some (x, σ1)) (hI : ∀ v, x = Sum.inl v → (fun (v : Nat × Int32 × Int32 × Int32) (σ : Hp) => G E X 0 0 35 [(0, tR (some ((v.1)))), (1, tI ((v.2.1))), (2, tI ((v.2.2.1))), (3, tI ((v.2.2.2)))] [] σ) v σ1) (hO : ∀ e, x = Sum.inr e → KE e σ1) : G E X 0 0 147 [(0, tR (some (h0))), (1, tI (l1)), (2, tI (l2)), (3, tI (l3))] [] σ := by
  unfold s_X9_row_j147 at h
  refine g_iinc (lm' := [(3, tI (l3 + 3)), (0, tR (some (h0))), (1, tI (l1)), (2, tI (l2))]) (v := l3 + 3) (pc := 147) C 3 dX9_row_147 rfl rfl (by decide) rfl ?_
  refine g_goto (pc := 150) C 35 dX9_row_150 (by decide) ?_
  refine g_sub [1, 2, 3, 0] (lm' := [(0, tR (some (h0))), (1, tI (l1)), (2, tI (l2)), (3, tI (l3 + 3))]) rfl ?_
  obtain ⟨rfl, rfl⟩ := zsome h
  exact hI _ rfl
noncomputable def s_X9_row_j137 (h0 : Nat) (l1 : Int32) (l2 : Int32) (l3 : Int32) (σ : Hp) : Option (((Nat × Int32 × Int32 × Int32) ⊕ ((Nat × Int32))) × Hp) :=
  (rdI 9 σ h0 11).bind fun v1 =>
  (wrI 9 σ h0 11 (v1 + 1)).bind fun σ2 =>
  s_X9_row_j147 (h0) (l1) (l2) (l3) σ2
set_option maxRecDepth 100000 in
theorem w_X9_row_j137 {E : E0} (hE : EOK E) {X : X0} (C : XOK E X cX9_row RX9 4 (some .int) rm_X9_row) (hxn : xn X = (rm_X9_row.cells, rm_X9_row.slots)) {KE : ((Nat × Int32)) → Hp → Prop} (e_153 : ∀ (h0 : Nat) (l2 : Int32) (σ : Hp), KE ((h0, l2)) σ → G E X 0 0 153 [(0, tR (some (h0))), (2, tI (l2))] [] σ) (h0 : Nat) (l1 : Int32) (l2 : Int32) (l3 : Int32) (σ : Hp) (x : (Nat × Int32 × Int32 × Int32) ⊕ ((Nat × Int32))) (σ1 : Hp) (h : s_X9_row_j137 h0 l1 l2 l3 σ = some (x, σ1)) (hI : ∀ v, x = Sum.inl v → (fun (v : Nat × Int32 × Int32 × Int32) (σ : Hp) => G E X 0 0 35 [(0, tR (some ((v.1)))), (1, tI ((v.2.1))), (2, tI ((v.2.2.1))), (3, tI ((v.2.2.2)))] [] σ) v σ1) (hO : ∀ e, x = Sum.inr e → KE e σ1) : G E X 0 0 137 [(0, tR (some (h0))), (1, tI (l1)), (2, tI (l2)), (3, tI (l3))] [] σ := by
  unfold s_X9_row_j137 at h
  refine g_aload_n (pc := 137) C 0 0 dX9_row_137 rfl rfl ?_
  refine g_dup (pc := 138) C dX9_row_138 rfl ?_
  obtain ⟨v1, hvv1, h⟩ := zbind h
  refine g_getI (N := 58) (pc := 139) C ck_9 hvv1 rfl rfl fl_X9_245 dX9_row_139 ?_
  refine g_iconst (v := 1) (pc := 142) C dX9_row_142 (by decide) ?_
  refine g_iadd (pc := 143) C dX9_row_143 ?_
  obtain ⟨σ2, hvσ2, h⟩ := zbind h
  refine g_putI (N := 58) (pc := 144) C ⟨ck_9, rfl, tyX9_ok⟩ hvσ2 rfl fl_X9_245 rfl rfl dX9_row_144 ?_
  exact w_X9_row_j147 hE C hxn e_153 _ _ _ _ _ _ _ h hI hO
noncomputable def s_X9_row_b35 (h0 : Nat) (l1 : Int32) (l2 : Int32) (l3 : Int32) (σ : Hp) : Option (((Nat × Int32 × Int32 × Int32) ⊕ ((Nat × Int32))) × Hp) :=
  if l1 ≤ l3 then
    some (Sum.inr ((h0), (l2)), σ)
  else
    if l1 ≤ (l3 + 2) then
      s_X9_row_j137 (h0) (l1) (l2) (l3) σ
    else
      (rdR 9 σ h0 12).bind fun r1 =>
      (r1).bind fun a2 =>
      (ldI 11 σ a2 (l3)).bind fun v3 =>
      (ck 9 σ h0).bind fun u4 =>
      cb (s_X9_isPerch h0 (v3) σ) fun v6 σ5 =>
      if v6 = 0 then
        s_X9_row_j137 (h0) (l1) (l2) (l3) σ5
      else
        (rdR 9 σ5 h0 12).bind fun r7 =>
        (r7).bind fun a8 =>
        (ldI 11 σ5 a8 (l3 + 1)).bind fun v9 =>
        (ck 9 σ5 h0).bind fun u10 =>
        cb (s_X9_isPerch h0 (v9) σ5) fun v12 σ11 =>
        if v12 = 0 then
          s_X9_row_j137 (h0) (l1) (l2) (l3) σ11
        else
          (rdR 9 σ11 h0 12).bind fun r13 =>
          (r13).bind fun a14 =>
          (ldI 11 σ11 a14 (l3)).bind fun v15 =>
          (rdR 9 σ11 h0 12).bind fun r16 =>
          (r16).bind fun a17 =>
          (ldI 11 σ11 a17 (l3 + 1)).bind fun v18 =>
          if v15 = v18 then
            s_X9_row_j137 (h0) (l1) (l2) (l3) σ11
          else
            (rdR 9 σ11 h0 12).bind fun r19 =>
            (r19).bind fun a20 =>
            (ldI 11 σ11 a20 (l3 + 2)).bind fun v21 =>
            if 9 < v21 then
              s_X9_row_j137 (h0) (l1) (l2) (l3) σ11
            else
              (rdR 9 σ11 h0 12).bind fun r22 =>
              (r22).bind fun a23 =>
              (ldI 11 σ11 a23 (l3)).bind fun v24 =>
              (rdR 9 σ11 h0 12).bind fun r25 =>
              (r25).bind fun a26 =>
              (ldI 11 σ11 a26 (l3 + 1)).bind fun v27 =>
              (rdR 9 σ11 h0 12).bind fun r28 =>
              (r28).bind fun a29 =>
              (ldI 11 σ11 a29 (l3 + 2)).bind fun v30 =>
              (ck 9 σ11 h0).bind fun u31 =>
              cb (s_X9_setLink h0 (v24) (v27) (v30) σ11) fun v33 σ32 =>
              s_X9_row_j147 (h0) (l1) (l2 + 1) (l3) σ32
noncomputable def s_X9_row_l35 : (Nat × Int32 × Int32 × Int32) → Hp → Option (((Nat × Int32)) × Hp) := loopF (fun v => s_X9_row_b35 (v.1) (v.2.1) (v.2.2.1) (v.2.2.2))
set_option maxRecDepth 100000 in
theorem w_X9_row_b35 {E : E0} (hE : EOK E) {X : X0} (C : XOK E X cX9_row RX9 4 (some .int) rm_X9_row) (hxn : xn X = (rm_X9_row.cells, rm_X9_row.slots)) {KE : ((Nat × Int32)) → Hp → Prop} (e_153 : ∀ (h0 : Nat) (l2 : Int32) (σ : Hp), KE ((h0, l2)) σ → G E X 0 0 153 [(0, tR (some (h0))), (2, tI (l2))] [] σ) (h0 : Nat) (l1 : Int32) (l2 : Int32) (l3 : Int32) (σ : Hp) (x : (Nat × Int32 × Int32 × Int32) ⊕ ((Nat × Int32))) (σ1 : Hp) (h : s_X9_row_b35 h0 l1 l2 l3 σ = some (x, σ1)) (hI : ∀ v, x = Sum.inl v → (fun (v : Nat × Int32 × Int32 × Int32) (σ : Hp) => G E X 0 0 35 [(0, tR (some ((v.1)))), (1, tI ((v.2.1))), (2, tI ((v.2.2.1))), (3, tI ((v.2.2.2)))] [] σ) v σ1) (hO : ∀ e, x = Sum.inr e → KE e σ1) : G E X 0 0 35 [(0, tR (some (h0))), (1, tI (l1)), (2, tI (l2)), (3, tI (l3))] [] σ := by
  unfold s_X9_row_b35 at h
  refine g_iload_n (pc := 35) C 3 3 dX9_row_35 rfl rfl ?_
  refine g_iload_n (pc := 36) C 1 1 dX9_row_36 rfl rfl ?_
  refine g_icmp_ge (pc := 37) C 153 dX9_row_37 (by decide) (fun c39 => ?_) (fun c39 => ?_)
  · have h := zif_t c39 h
    refine g_sub [0, 2] (lm' := [(0, tR (some (h0))), (2, tI (l2))]) rfl ?_
    obtain ⟨rfl, rfl⟩ := zsome h
    exact e_153 _ _ _ (hO _ rfl)
  · have h := zif_f c39 h
    refine g_iload_n (pc := 40) C 3 3 dX9_row_40 rfl rfl ?_
    refine g_iconst (v := 2) (pc := 41) C dX9_row_41 (by decide) ?_
    refine g_iadd (pc := 42) C dX9_row_42 ?_
    refine g_iload_n (pc := 43) C 1 1 dX9_row_43 rfl rfl ?_
    refine g_icmp_ge (pc := 44) C 137 dX9_row_44 (by decide) (fun c38 => ?_) (fun c38 => ?_)
    · have h := zif_t c38 h
      exact w_X9_row_j137 hE C hxn e_153 _ _ _ _ _ _ _ h hI hO
    · have h := zif_f c38 h
      refine g_aload_n (pc := 47) C 0 0 dX9_row_47 rfl rfl ?_
      refine g_aload_n (pc := 48) C 0 0 dX9_row_48 rfl rfl ?_
      obtain ⟨r1, hvr1, h⟩ := zbind h
      refine g_getR (N := 58) (pc := 49) C ck_9 hvr1 rfl rfl fl_X9_35 dX9_row_49 ?_
      refine g_iload_n (pc := 52) C 3 3 dX9_row_52 rfl rfl ?_
      obtain ⟨a2, hqa2, h9⟩ := zbind h
      clear h
      subst hqa2
      have h := h9
      clear h9
      obtain ⟨v3, hvv3, h⟩ := zbind h
      refine g_iald (pc := 53) C hvv3 dX9_row_53 ?_
      obtain ⟨u4, hvu4, h⟩ := zbind h
      obtain ⟨v6, σ5, hvσ5, h⟩ := zcb h
      refine g_callV (pc := 54) (av := [tI (v3)]) C (c_X9_isPerch hE hvσ5) yv_X9_isPerch ml_X9_196 ck_9 (zopt hvu4).1 rfl (rf_of (by decide)) rfl (Nat.le_of_ble_eq_true rfl) dX9_row_54 ?_
      refine g_if_eq (pc := 57) C 137 dX9_row_57 (by decide) (fun c37 => ?_) (fun c37 => ?_)
      · have h := zif_t c37 h
        exact w_X9_row_j137 hE C hxn e_153 _ _ _ _ _ _ _ h hI hO
      · have h := zif_f c37 h
        refine g_aload_n (pc := 60) C 0 0 dX9_row_60 rfl rfl ?_
        refine g_aload_n (pc := 61) C 0 0 dX9_row_61 rfl rfl ?_
        obtain ⟨r7, hvr7, h⟩ := zbind h
        refine g_getR (N := 58) (pc := 62) C ck_9 hvr7 rfl rfl fl_X9_35 dX9_row_62 ?_
        refine g_iload_n (pc := 65) C 3 3 dX9_row_65 rfl rfl ?_
        refine g_iconst (v := 1) (pc := 66) C dX9_row_66 (by decide) ?_
        refine g_iadd (pc := 67) C dX9_row_67 ?_
        obtain ⟨a8, hqa8, h9⟩ := zbind h
        clear h
        subst hqa8
        have h := h9
        clear h9
        obtain ⟨v9, hvv9, h⟩ := zbind h
        refine g_iald (pc := 68) C hvv9 dX9_row_68 ?_
        obtain ⟨u10, hvu10, h⟩ := zbind h
        obtain ⟨v12, σ11, hvσ11, h⟩ := zcb h
        refine g_callV (pc := 69) (av := [tI (v9)]) C (c_X9_isPerch hE hvσ11) yv_X9_isPerch ml_X9_196 ck_9 (zopt hvu10).1 rfl (rf_of (by decide)) rfl (Nat.le_of_ble_eq_true rfl) dX9_row_69 ?_
        refine g_if_eq (pc := 72) C 137 dX9_row_72 (by decide) (fun c36 => ?_) (fun c36 => ?_)
        · have h := zif_t c36 h
          exact w_X9_row_j137 hE C hxn e_153 _ _ _ _ _ _ _ h hI hO
        · have h := zif_f c36 h
          refine g_aload_n (pc := 75) C 0 0 dX9_row_75 rfl rfl ?_
          obtain ⟨r13, hvr13, h⟩ := zbind h
          refine g_getR (N := 58) (pc := 76) C ck_9 hvr13 rfl rfl fl_X9_35 dX9_row_76 ?_
          refine g_iload_n (pc := 79) C 3 3 dX9_row_79 rfl rfl ?_
          obtain ⟨a14, hqa14, h9⟩ := zbind h
          clear h
          subst hqa14
          have h := h9
          clear h9
          obtain ⟨v15, hvv15, h⟩ := zbind h
          refine g_iald (pc := 80) C hvv15 dX9_row_80 ?_
          refine g_aload_n (pc := 81) C 0 0 dX9_row_81 rfl rfl ?_
          obtain ⟨r16, hvr16, h⟩ := zbind h
          refine g_getR (N := 58) (pc := 82) C ck_9 hvr16 rfl rfl fl_X9_35 dX9_row_82 ?_
          refine g_iload_n (pc := 85) C 3 3 dX9_row_85 rfl rfl ?_
          refine g_iconst (v := 1) (pc := 86) C dX9_row_86 (by decide) ?_
          refine g_iadd (pc := 87) C dX9_row_87 ?_
          obtain ⟨a17, hqa17, h9⟩ := zbind h
          clear h
          subst hqa17
          have h := h9
          clear h9
          obtain ⟨v18, hvv18, h⟩ := zbind h
          refine g_iald (pc := 88) C hvv18 dX9_row_88 ?_
          refine g_icmp_eq (pc := 89) C 137 dX9_row_89 (by decide) (fun c35 => ?_) (fun c35 => ?_)
          · have h := zif_t c35 h
            exact w_X9_row_j137 hE C hxn e_153 _ _ _ _ _ _ _ h hI hO
          · have h := zif_f c35 h
            refine g_aload_n (pc := 92) C 0 0 dX9_row_92 rfl rfl ?_
            obtain ⟨r19, hvr19, h⟩ := zbind h
            refine g_getR (N := 58) (pc := 93) C ck_9 hvr19 rfl rfl fl_X9_35 dX9_row_93 ?_
            refine g_iload_n (pc := 96) C 3 3 dX9_row_96 rfl rfl ?_
            refine g_iconst (v := 2) (pc := 97) C dX9_row_97 (by decide) ?_
            refine g_iadd (pc := 98) C dX9_row_98 ?_
            obtain ⟨a20, hqa20, h9⟩ := zbind h
            clear h
            subst hqa20
            have h := h9
            clear h9
            obtain ⟨v21, hvv21, h⟩ := zbind h
            refine g_iald (pc := 99) C hvv21 dX9_row_99 ?_
            refine g_bipush (v := 9) (pc := 100) C dX9_row_100 (by decide) ?_
            refine g_icmp_gt (pc := 102) C 137 dX9_row_102 (by decide) (fun c34 => ?_) (fun c34 => ?_)
            · have h := zif_t c34 h
              exact w_X9_row_j137 hE C hxn e_153 _ _ _ _ _ _ _ h hI hO
            · have h := zif_f c34 h
              refine g_aload_n (pc := 105) C 0 0 dX9_row_105 rfl rfl ?_
              refine g_aload_n (pc := 106) C 0 0 dX9_row_106 rfl rfl ?_
              obtain ⟨r22, hvr22, h⟩ := zbind h
              refine g_getR (N := 58) (pc := 107) C ck_9 hvr22 rfl rfl fl_X9_35 dX9_row_107 ?_
              refine g_iload_n (pc := 110) C 3 3 dX9_row_110 rfl rfl ?_
              obtain ⟨a23, hqa23, h9⟩ := zbind h
              clear h
              subst hqa23
              have h := h9
              clear h9
              obtain ⟨v24, hvv24, h⟩ := zbind h
              refine g_iald (pc := 111) C hvv24 dX9_row_111 ?_
              refine g_aload_n (pc := 112) C 0 0 dX9_row_112 rfl rfl ?_
              obtain ⟨r25, hvr25, h⟩ := zbind h
              refine g_getR (N := 58) (pc := 113) C ck_9 hvr25 rfl rfl fl_X9_35 dX9_row_113 ?_
              refine g_iload_n (pc := 116) C 3 3 dX9_row_116 rfl rfl ?_
              refine g_iconst (v := 1) (pc := 117) C dX9_row_117 (by decide) ?_
              refine g_iadd (pc := 118) C dX9_row_118 ?_
              obtain ⟨a26, hqa26, h9⟩ := zbind h
              clear h
              subst hqa26
              have h := h9
              clear h9
              obtain ⟨v27, hvv27, h⟩ := zbind h
              refine g_iald (pc := 119) C hvv27 dX9_row_119 ?_
              refine g_aload_n (pc := 120) C 0 0 dX9_row_120 rfl rfl ?_
              obtain ⟨r28, hvr28, h⟩ := zbind h
              refine g_getR (N := 58) (pc := 121) C ck_9 hvr28 rfl rfl fl_X9_35 dX9_row_121 ?_
              refine g_iload_n (pc := 124) C 3 3 dX9_row_124 rfl rfl ?_
              refine g_iconst (v := 2) (pc := 125) C dX9_row_125 (by decide) ?_
              refine g_iadd (pc := 126) C dX9_row_126 ?_
              obtain ⟨a29, hqa29, h9⟩ := zbind h
              clear h
              subst hqa29
              have h := h9
              clear h9
              obtain ⟨v30, hvv30, h⟩ := zbind h
              refine g_iald (pc := 127) C hvv30 dX9_row_127 ?_
              obtain ⟨u31, hvu31, h⟩ := zbind h
              obtain ⟨v33, σ32, hvσ32, h⟩ := zcb h
              refine g_callV (pc := 128) (av := [tI (v24), tI (v27), tI (v30)]) C (c_X9_setLink hE hvσ32) yv_X9_setLink ml_X9_221 ck_9 (zopt hvu31).1 rfl (rf_of (by decide)) rfl (Nat.le_of_ble_eq_true rfl) dX9_row_128 ?_
              refine g_iinc (lm' := [(2, tI (l2 + 1)), (0, tR (some (h0))), (1, tI (l1)), (3, tI (l3))]) (v := l2 + 1) (pc := 131) C 2 dX9_row_131 rfl rfl (by decide) rfl ?_
              refine g_goto (pc := 134) C 147 dX9_row_134 (by decide) ?_
              refine g_sub [1, 2, 0, 3] (lm' := [(0, tR (some (h0))), (1, tI (l1)), (2, tI (l2 + 1)), (3, tI (l3))]) rfl ?_
              exact w_X9_row_j147 hE C hxn e_153 _ _ _ _ _ _ _ h hI hO
theorem w_X9_row_l35 {E : E0} (hE : EOK E) {X : X0} (C : XOK E X cX9_row RX9 4 (some .int) rm_X9_row) (hxn : xn X = (rm_X9_row.cells, rm_X9_row.slots)) {KE : ((Nat × Int32)) → Hp → Prop} (e_153 : ∀ (h0 : Nat) (l2 : Int32) (σ : Hp), KE ((h0, l2)) σ → G E X 0 0 153 [(0, tR (some (h0))), (2, tI (l2))] [] σ) {v : Nat × Int32 × Int32 × Int32} {σ : Hp} {e : (Nat × Int32)} {σ1 : Hp} (h : s_X9_row_l35 v σ = some (e, σ1)) (hO : KE e σ1) : G E X 0 0 35 [(0, tR (some ((v.1)))), (1, tI ((v.2.1))), (2, tI ((v.2.2.1))), (3, tI ((v.2.2.2)))] [] σ := loopF_ind (P := fun (v : Nat × Int32 × Int32 × Int32) (σ : Hp) => G E X 0 0 35 [(0, tR (some ((v.1)))), (1, tI ((v.2.1))), (2, tI ((v.2.2.1))), (3, tI ((v.2.2.2)))] [] σ) (KE := KE) (fun v σ x σ1 h hI hO => w_X9_row_b35 hE C hxn e_153 (v.1) (v.2.1) (v.2.2.1) (v.2.2.2) σ x σ1 h hI hO) v σ e σ1 h hO
noncomputable def s_X9_row (h0 : Nat) (σ : Hp) : Option (Int32 × Hp) :=
  (wrI 9 σ h0 0 (0)).bind fun σ1 =>
  (rdI 9 σ1 h0 13).bind fun v2 =>
  (wrI 9 σ1 h0 13 (0)).bind fun σ3 =>
  if v2 = 0 then
    (ck 9 σ3 h0).bind fun u14 =>
    cb (s_X9_tell h0 ((-6)) σ3) fun v16 σ15 =>
    some ((v16), σ15)
  else
    (wrI 9 σ3 h0 11 (0)).bind fun σ4 =>
    cb (s_X9_row_l35 ((h0), (v2), (0), (0)) σ4) fun e13 σ12 =>
    match e13 with
    | (h5, l26) =>
      (ck 9 σ12 h5).bind fun u8 =>
      cb (s_X9_tell h5 (l26) σ12) fun v10 σ9 =>
      some ((v10), σ9)
set_option maxRecDepth 100000 in
theorem c_X9_row {E : E0} (hE : EOK E) {h0 : Nat} {σ σ1 : Hp} {r : Int32} (h : s_X9_row h0 σ = some (r, σ1)) : CT E yX9_row (.code yX9_row cX9_row 4 (some .int)) rm_X9_row [tR (some (h0))] σ (some (tI r)) σ1 := by
  refine CT.mk hE (by decide +kernel) (Nat.le_of_ble_eq_true rfl) [(0, tR (some (h0)))] rfl (fun X C hin hx hxn => ?_)
  have C : XOK E X cX9_row RX9 4 (some .int) rm_X9_row := C
  unfold s_X9_row at h
  refine g_aload_n (pc := 0) C 0 0 dX9_row_0 rfl rfl ?_
  refine g_iconst (v := 0) (pc := 1) C dX9_row_1 (by decide) ?_
  obtain ⟨σ1, hvσ1, h⟩ := zbind h
  refine g_putI (N := 58) (pc := 2) C ⟨ck_9, rfl, tyX9_ok⟩ hvσ1 rfl fl_X9_161 rfl rfl dX9_row_2 ?_
  refine g_aload_n (pc := 5) C 0 0 dX9_row_5 rfl rfl ?_
  obtain ⟨v2, hvv2, h⟩ := zbind h
  refine g_getI (N := 58) (pc := 6) C ck_9 hvv2 rfl rfl fl_X9_242 dX9_row_6 ?_
  refine g_istore_n (lm' := [(1, tI (v2)), (0, tR (some (h0)))]) (pc := 9) C 1 dX9_row_9 rfl (by decide) rfl ?_
  refine g_aload_n (pc := 10) C 0 1 dX9_row_10 rfl rfl ?_
  refine g_iconst (v := 0) (pc := 11) C dX9_row_11 (by decide) ?_
  obtain ⟨σ3, hvσ3, h⟩ := zbind h
  refine g_putI (N := 58) (pc := 12) C ⟨ck_9, rfl, tyX9_ok⟩ hvσ3 rfl fl_X9_242 rfl rfl dX9_row_12 ?_
  refine g_iload_n (pc := 15) C 1 0 dX9_row_15 rfl rfl ?_
  refine g_if_ne (pc := 16) C 26 dX9_row_16 (by decide) (fun c17 => ?_) (fun c17 => ?_)
  · have h := zif_f c17 h
    refine g_aload_n (pc := 26) C 0 1 dX9_row_26 rfl rfl ?_
    refine g_iconst (v := 0) (pc := 27) C dX9_row_27 (by decide) ?_
    obtain ⟨σ4, hvσ4, h⟩ := zbind h
    refine g_putI (N := 58) (pc := 28) C ⟨ck_9, rfl, tyX9_ok⟩ hvσ4 rfl fl_X9_245 rfl rfl dX9_row_28 ?_
    refine g_iconst (v := 0) (pc := 31) C dX9_row_31 (by decide) ?_
    refine g_istore_n (lm' := [(2, tI (0)), (1, tI (v2)), (0, tR (some (h0)))]) (pc := 32) C 2 dX9_row_32 rfl (by decide) rfl ?_
    refine g_iconst (v := 0) (pc := 33) C dX9_row_33 (by decide) ?_
    refine g_istore_n (lm' := [(3, tI (0)), (2, tI (0)), (1, tI (v2)), (0, tR (some (h0)))]) (pc := 34) C 3 dX9_row_34 rfl (by decide) rfl ?_
    refine g_sub [3, 2, 1, 0] (lm' := [(0, tR (some (h0))), (1, tI (v2)), (2, tI (0)), (3, tI (0))]) rfl ?_
    obtain ⟨KQ, hKQ, e13, σ12, hle13, h⟩ := zcbK h
    refine w_X9_row_l35 (KE := KQ) hE C hxn ?_ hle13 h
    · intro h5 l26 σ7 h
      have h := (hKQ _ _).mp h
      refine g_aload_n (pc := 153) C 0 0 dX9_row_153 rfl rfl ?_
      refine g_iload_n (pc := 154) C 2 1 dX9_row_154 rfl rfl ?_
      obtain ⟨u8, hvu8, h⟩ := zbind h
      obtain ⟨v10, σ9, hvσ9, h⟩ := zcb h
      refine g_callV (pc := 155) (av := [tI (l26)]) C (c_X9_tell hE hvσ9) yv_X9_tell ml_X9_170 ck_9 (zopt hvu8).1 rfl (rf_of (by decide)) rfl (Nat.le_of_ble_eq_true rfl) dX9_row_155 ?_
      obtain ⟨rfl, rfl⟩ := zsome h
      exact g_iret (pc := 158) C rfl hx (by rw [hxn]; rfl) (by rw [hxn]; rfl) dX9_row_158
  · have h := zif_t c17 h
    refine g_aload_n (pc := 19) C 0 1 dX9_row_19 rfl rfl ?_
    refine g_bipush (v := (-6)) (pc := 20) C dX9_row_20 (by decide) ?_
    obtain ⟨u14, hvu14, h⟩ := zbind h
    obtain ⟨v16, σ15, hvσ15, h⟩ := zcb h
    refine g_callV (pc := 22) (av := [tI ((-6))]) C (c_X9_tell hE hvσ15) yv_X9_tell ml_X9_170 ck_9 (zopt hvu14).1 rfl (rf_of (by decide)) rfl (Nat.le_of_ble_eq_true rfl) dX9_row_22 ?_
    obtain ⟨rfl, rfl⟩ := zsome h
    exact g_iret (pc := 25) C rfl hx (by rw [hxn]; rfl) (by rw [hxn]; rfl) dX9_row_25
def rm_X9_scratches : Room := { frames := 0, cells := 0, slots := 0, locals := 0 }
noncomputable def s_X9_scratches (h0 : Nat) (σ : Hp) : Option (Int32 × Hp) :=
  (wrI 9 σ h0 0 (0)).bind fun σ1 =>
  (rdI 9 σ1 h0 11).bind fun v2 =>
  some ((v2), σ1)
set_option maxRecDepth 100000 in
theorem c_X9_scratches {E : E0} (hE : EOK E) {h0 : Nat} {σ σ1 : Hp} {r : Int32} (h : s_X9_scratches h0 σ = some (r, σ1)) : CT E yX9_scratches (.code yX9_scratches cX9_scratches 1 (some .int)) rm_X9_scratches [tR (some (h0))] σ (some (tI r)) σ1 := by
  refine CT.mk hE (by decide +kernel) (Nat.le_of_ble_eq_true rfl) [(0, tR (some (h0)))] rfl (fun X C hin hx hxn => ?_)
  have C : XOK E X cX9_scratches RX9 1 (some .int) rm_X9_scratches := C
  unfold s_X9_scratches at h
  refine g_aload_n (pc := 0) C 0 0 dX9_scratches_0 rfl rfl ?_
  refine g_iconst (v := 0) (pc := 1) C dX9_scratches_1 (by decide) ?_
  obtain ⟨σ1, hvσ1, h⟩ := zbind h
  refine g_putI (N := 58) (pc := 2) C ⟨ck_9, rfl, tyX9_ok⟩ hvσ1 rfl fl_X9_161 rfl rfl dX9_scratches_2 ?_
  refine g_aload_n (pc := 5) C 0 0 dX9_scratches_5 rfl rfl ?_
  obtain ⟨v2, hvv2, h⟩ := zbind h
  refine g_getI (N := 58) (pc := 6) C ck_9 hvv2 rfl rfl fl_X9_245 dX9_scratches_6 ?_
  obtain ⟨rfl, rfl⟩ := zsome h
  exact g_iret (pc := 9) C rfl hx (by rw [hxn]; rfl) (by rw [hxn]; rfl) dX9_scratches_9
def rm_X9_four : Room := { frames := 0, cells := 0, slots := 0, locals := 0 }
noncomputable def s_X9_four_b3 (h0 : Nat) (l1 : Int32) (l2 : Int32) (σ : Hp) : Option (((Nat × Int32 × Int32) ⊕ (Unit)) × Hp) :=
  if l2 < 0 then
    some (Sum.inr (), σ)
  else
    (rdR 9 σ h0 12).bind fun r1 =>
    (rdI 9 σ h0 13).bind fun v2 =>
    (r1).bind fun a3 =>
    (stI σ a3 (v2) ((l1 >>> (l2 &&& 31)) &&& 255)).bind fun σ4 =>
    (rdI 9 σ4 h0 13).bind fun v5 =>
    (wrI 9 σ4 h0 13 (v5 + 1)).bind fun σ6 =>
    some (Sum.inl ((h0), (l1), (l2 + (-8))), σ6)
noncomputable def s_X9_four_l3 : (Nat × Int32 × Int32) → Hp → Option ((Unit) × Hp) := loopF (fun v => s_X9_four_b3 (v.1) (v.2.1) (v.2.2))
set_option maxRecDepth 100000 in
theorem w_X9_four_b3 {E : E0} (hE : EOK E) {X : X0} (C : XOK E X cX9_four RX9 3 none rm_X9_four) (hxn : xn X = (rm_X9_four.cells, rm_X9_four.slots)) {KE : (Unit) → Hp → Prop} (e_ret : ∀ (r : Unit) (σ : Hp), KE (r) σ → xd X = (none, σ)) (h0 : Nat) (l1 : Int32) (l2 : Int32) (σ : Hp) (x : (Nat × Int32 × Int32) ⊕ (Unit)) (σ1 : Hp) (h : s_X9_four_b3 h0 l1 l2 σ = some (x, σ1)) (hI : ∀ v, x = Sum.inl v → (fun (v : Nat × Int32 × Int32) (σ : Hp) => G E X 0 0 3 [(0, tR (some ((v.1)))), (1, tI ((v.2.1))), (2, tI ((v.2.2)))] [] σ) v σ1) (hO : ∀ e, x = Sum.inr e → KE e σ1) : G E X 0 0 3 [(0, tR (some (h0))), (1, tI (l1)), (2, tI (l2))] [] σ := by
  unfold s_X9_four_b3 at h
  refine g_iload_n (pc := 3) C 2 2 dX9_four_3 rfl rfl ?_
  refine g_if_lt (pc := 4) C 39 dX9_four_4 (by decide) (fun c7 => ?_) (fun c7 => ?_)
  · have h := zif_t c7 h
    obtain ⟨rfl, rfl⟩ := zsome h
    exact g_vret (pc := 39) C rfl (e_ret _ _ (hO _ rfl)) (by rw [hxn]; rfl) (by rw [hxn]; rfl) dX9_four_39
  · have h := zif_f c7 h
    refine g_aload_n (pc := 7) C 0 0 dX9_four_7 rfl rfl ?_
    obtain ⟨r1, hvr1, h⟩ := zbind h
    refine g_getR (N := 58) (pc := 8) C ck_9 hvr1 rfl rfl fl_X9_35 dX9_four_8 ?_
    refine g_aload_n (pc := 11) C 0 0 dX9_four_11 rfl rfl ?_
    obtain ⟨v2, hvv2, h⟩ := zbind h
    refine g_getI (N := 58) (pc := 12) C ck_9 hvv2 rfl rfl fl_X9_242 dX9_four_12 ?_
    refine g_iload_n (pc := 15) C 1 1 dX9_four_15 rfl rfl ?_
    refine g_iload_n (pc := 16) C 2 2 dX9_four_16 rfl rfl ?_
    refine g_ishr (pc := 17) C dX9_four_17 ?_
    refine g_sipush (v := 255) (pc := 18) C dX9_four_18 (by decide) ?_
    refine g_iand (pc := 21) C dX9_four_21 ?_
    obtain ⟨a3, hqa3, h9⟩ := zbind h
    clear h
    subst hqa3
    have h := h9
    clear h9
    obtain ⟨σ4, hvσ4, h⟩ := zbind h
    refine g_iast (pc := 22) C hvσ4 dX9_four_22 ?_
    refine g_aload_n (pc := 23) C 0 0 dX9_four_23 rfl rfl ?_
    refine g_dup (pc := 24) C dX9_four_24 rfl ?_
    obtain ⟨v5, hvv5, h⟩ := zbind h
    refine g_getI (N := 58) (pc := 25) C ck_9 hvv5 rfl rfl fl_X9_242 dX9_four_25 ?_
    refine g_iconst (v := 1) (pc := 28) C dX9_four_28 (by decide) ?_
    refine g_iadd (pc := 29) C dX9_four_29 ?_
    obtain ⟨σ6, hvσ6, h⟩ := zbind h
    refine g_putI (N := 58) (pc := 30) C ⟨ck_9, rfl, tyX9_ok⟩ hvσ6 rfl fl_X9_242 rfl rfl dX9_four_30 ?_
    refine g_iinc (lm' := [(2, tI (l2 + (-8))), (0, tR (some (h0))), (1, tI (l1))]) (v := l2 + (-8)) (pc := 33) C 2 dX9_four_33 rfl rfl (by decide) rfl ?_
    refine g_goto (pc := 36) C 3 dX9_four_36 (by decide) ?_
    refine g_sub [1, 2, 0] (lm' := [(0, tR (some (h0))), (1, tI (l1)), (2, tI (l2 + (-8)))]) rfl ?_
    obtain ⟨rfl, rfl⟩ := zsome h
    exact hI _ rfl
theorem w_X9_four_l3 {E : E0} (hE : EOK E) {X : X0} (C : XOK E X cX9_four RX9 3 none rm_X9_four) (hxn : xn X = (rm_X9_four.cells, rm_X9_four.slots)) {KE : (Unit) → Hp → Prop} (e_ret : ∀ (r : Unit) (σ : Hp), KE (r) σ → xd X = (none, σ)) {v : Nat × Int32 × Int32} {σ : Hp} {e : Unit} {σ1 : Hp} (h : s_X9_four_l3 v σ = some (e, σ1)) (hO : KE e σ1) : G E X 0 0 3 [(0, tR (some ((v.1)))), (1, tI ((v.2.1))), (2, tI ((v.2.2)))] [] σ := loopF_ind (P := fun (v : Nat × Int32 × Int32) (σ : Hp) => G E X 0 0 3 [(0, tR (some ((v.1)))), (1, tI ((v.2.1))), (2, tI ((v.2.2)))] [] σ) (KE := KE) (fun v σ x σ1 h hI hO => w_X9_four_b3 hE C hxn e_ret (v.1) (v.2.1) (v.2.2) σ x σ1 h hI hO) v σ e σ1 h hO
noncomputable def s_X9_four (h0 : Nat) (p1 : Int32) (σ : Hp) : Option (Unit × Hp) :=
  cb (s_X9_four_l3 ((h0), (p1), (24)) σ) fun r2 σ3 =>
  some (r2, σ3)
set_option maxRecDepth 100000 in
theorem c_X9_four {E : E0} (hE : EOK E) {h0 : Nat} {p1 : Int32} {σ σ1 : Hp} {r : Unit} (h : s_X9_four h0 p1 σ = some (r, σ1)) : CT E yX9_four (.code yX9_four cX9_four 3 none) rm_X9_four [tR (some (h0)), tI (p1)] σ none σ1 := by
  refine CT.mk hE (by decide +kernel) (Nat.le_of_ble_eq_true rfl) [(0, tR (some (h0))), (1, tI (p1))] rfl (fun X C hin hx hxn => ?_)
  have C : XOK E X cX9_four RX9 3 none rm_X9_four := C
  unfold s_X9_four at h
  refine g_bipush (v := 24) (pc := 0) C dX9_four_0 (by decide) ?_
  refine g_istore_n (lm' := [(2, tI (24)), (0, tR (some (h0))), (1, tI (p1))]) (pc := 2) C 2 dX9_four_2 rfl (by decide) rfl ?_
  refine g_sub [1, 2, 0] (lm' := [(0, tR (some (h0))), (1, tI (p1)), (2, tI (24))]) rfl ?_
  obtain ⟨KQ, hKQ, r2, σ3, hlr2, h⟩ := zcbK h
  refine w_X9_four_l3 (KE := KQ) hE C hxn ?_ hlr2 h
  · intro r2 σ1 h
    have h := (hKQ _ _).mp h
    obtain ⟨rfl, rfl⟩ := zsome h
    exact hx
