theorem dX8_init_0 : decode cX8_init 0 = .ok (.aload_n 0, 1) := by decide +kernel
theorem dX8_init_1 : decode cX8_init 1 = .ok (.invokespecial 3, 3) := by decide +kernel
theorem dX8_init_4 : decode cX8_init 4 = .ok (.aload_n 0, 1) := by decide +kernel
theorem dX8_init_5 : decode cX8_init 5 = .ok (.new 9, 3) := by decide +kernel
theorem dX8_init_8 : decode cX8_init 8 = .ok (.dup, 1) := by decide +kernel
theorem dX8_init_9 : decode cX8_init 9 = .ok (.invokespecial 11, 3) := by decide +kernel
theorem dX8_init_12 : decode cX8_init 12 = .ok (.putfield 12, 3) := by decide +kernel
theorem dX8_init_15 : decode cX8_init 15 = .ok (.aload_n 0, 1) := by decide +kernel
theorem dX8_init_16 : decode cX8_init 16 = .ok (.new 9, 3) := by decide +kernel
theorem dX8_init_19 : decode cX8_init 19 = .ok (.dup, 1) := by decide +kernel
theorem dX8_init_20 : decode cX8_init 20 = .ok (.invokespecial 11, 3) := by decide +kernel
theorem dX8_init_23 : decode cX8_init 23 = .ok (.putfield 16, 3) := by decide +kernel
theorem dX8_init_26 : decode cX8_init 26 = .ok (.aload_n 0, 1) := by decide +kernel
theorem dX8_init_27 : decode cX8_init 27 = .ok (.new 9, 3) := by decide +kernel
theorem dX8_init_30 : decode cX8_init 30 = .ok (.dup, 1) := by decide +kernel
theorem dX8_init_31 : decode cX8_init 31 = .ok (.invokespecial 11, 3) := by decide +kernel
theorem dX8_init_34 : decode cX8_init 34 = .ok (.putfield 19, 3) := by decide +kernel
theorem dX8_init_37 : decode cX8_init 37 = .ok (.aload_n 0, 1) := by decide +kernel
theorem dX8_init_38 : decode cX8_init 38 = .ok (.iconst 2, 1) := by decide +kernel
theorem dX8_init_39 : decode cX8_init 39 = .ok (.anewarray 9, 3) := by decide +kernel
theorem dX8_init_42 : decode cX8_init 42 = .ok (.dup, 1) := by decide +kernel
theorem dX8_init_43 : decode cX8_init 43 = .ok (.iconst 0, 1) := by decide +kernel
theorem dX8_init_44 : decode cX8_init 44 = .ok (.new 9, 3) := by decide +kernel
theorem dX8_init_47 : decode cX8_init 47 = .ok (.dup, 1) := by decide +kernel
theorem dX8_init_48 : decode cX8_init 48 = .ok (.invokespecial 11, 3) := by decide +kernel
theorem dX8_init_51 : decode cX8_init 51 = .ok (.aastore, 1) := by decide +kernel
theorem dX8_init_52 : decode cX8_init 52 = .ok (.dup, 1) := by decide +kernel
theorem dX8_init_53 : decode cX8_init 53 = .ok (.iconst 1, 1) := by decide +kernel
theorem dX8_init_54 : decode cX8_init 54 = .ok (.new 9, 3) := by decide +kernel
theorem dX8_init_57 : decode cX8_init 57 = .ok (.dup, 1) := by decide +kernel
theorem dX8_init_58 : decode cX8_init 58 = .ok (.invokespecial 11, 3) := by decide +kernel
theorem dX8_init_61 : decode cX8_init 61 = .ok (.aastore, 1) := by decide +kernel
theorem dX8_init_62 : decode cX8_init 62 = .ok (.putfield 22, 3) := by decide +kernel
theorem dX8_init_65 : decode cX8_init 65 = .ok (.aload_n 0, 1) := by decide +kernel
theorem dX8_init_66 : decode cX8_init 66 = .ok (.iconst 2, 1) := by decide +kernel
theorem dX8_init_67 : decode cX8_init 67 = .ok (.newarray .boolean, 2) := by decide +kernel
theorem dX8_init_69 : decode cX8_init 69 = .ok (.putfield 26, 3) := by decide +kernel
theorem dX8_init_72 : decode cX8_init 72 = .ok (.aload_n 0, 1) := by decide +kernel
theorem dX8_init_73 : decode cX8_init 73 = .ok (.new 30, 3) := by decide +kernel
theorem dX8_init_76 : decode cX8_init 76 = .ok (.dup, 1) := by decide +kernel
theorem dX8_init_77 : decode cX8_init 77 = .ok (.invokespecial 32, 3) := by decide +kernel
theorem dX8_init_80 : decode cX8_init 80 = .ok (.putfield 33, 3) := by decide +kernel
theorem dX8_init_83 : decode cX8_init 83 = .ok (.aload_n 0, 1) := by decide +kernel
theorem dX8_init_84 : decode cX8_init 84 = .ok (.new 37, 3) := by decide +kernel
theorem dX8_init_87 : decode cX8_init 87 = .ok (.dup, 1) := by decide +kernel
theorem dX8_init_88 : decode cX8_init 88 = .ok (.invokespecial 39, 3) := by decide +kernel
theorem dX8_init_91 : decode cX8_init 91 = .ok (.putfield 40, 3) := by decide +kernel
theorem dX8_init_94 : decode cX8_init 94 = .ok (.aload_n 0, 1) := by decide +kernel
theorem dX8_init_95 : decode cX8_init 95 = .ok (.new 44, 3) := by decide +kernel
theorem dX8_init_98 : decode cX8_init 98 = .ok (.dup, 1) := by decide +kernel
theorem dX8_init_99 : decode cX8_init 99 = .ok (.invokespecial 46, 3) := by decide +kernel
theorem dX8_init_102 : decode cX8_init 102 = .ok (.putfield 47, 3) := by decide +kernel
theorem dX8_init_105 : decode cX8_init 105 = .ok (.aload_n 0, 1) := by decide +kernel
theorem dX8_init_106 : decode cX8_init 106 = .ok (.new 51, 3) := by decide +kernel
theorem dX8_init_109 : decode cX8_init 109 = .ok (.dup, 1) := by decide +kernel
theorem dX8_init_110 : decode cX8_init 110 = .ok (.invokespecial 53, 3) := by decide +kernel
theorem dX8_init_113 : decode cX8_init 113 = .ok (.putfield 54, 3) := by decide +kernel
theorem dX8_init_116 : decode cX8_init 116 = .ok (.aload_n 0, 1) := by decide +kernel
theorem dX8_init_117 : decode cX8_init 117 = .ok (.new 51, 3) := by decide +kernel
theorem dX8_init_120 : decode cX8_init 120 = .ok (.dup, 1) := by decide +kernel
theorem dX8_init_121 : decode cX8_init 121 = .ok (.invokespecial 53, 3) := by decide +kernel
theorem dX8_init_124 : decode cX8_init 124 = .ok (.putfield 58, 3) := by decide +kernel
theorem dX8_init_127 : decode cX8_init 127 = .ok (.aload_n 0, 1) := by decide +kernel
theorem dX8_init_128 : decode cX8_init 128 = .ok (.new 61, 3) := by decide +kernel
theorem dX8_init_131 : decode cX8_init 131 = .ok (.dup, 1) := by decide +kernel
theorem dX8_init_132 : decode cX8_init 132 = .ok (.invokespecial 63, 3) := by decide +kernel
theorem dX8_init_135 : decode cX8_init 135 = .ok (.putfield 64, 3) := by decide +kernel
theorem dX8_init_138 : decode cX8_init 138 = .ok (.aload_n 0, 1) := by decide +kernel
theorem dX8_init_139 : decode cX8_init 139 = .ok (.iconst 5, 1) := by decide +kernel
theorem dX8_init_140 : decode cX8_init 140 = .ok (.newarray .int, 2) := by decide +kernel
theorem dX8_init_142 : decode cX8_init 142 = .ok (.putfield 68, 3) := by decide +kernel
theorem dX8_init_145 : decode cX8_init 145 = .ok (.aload_n 0, 1) := by decide +kernel
theorem dX8_init_146 : decode cX8_init 146 = .ok (.iconst 0, 1) := by decide +kernel
theorem dX8_init_147 : decode cX8_init 147 = .ok (.putfield 72, 3) := by decide +kernel
theorem dX8_init_150 : decode cX8_init 150 = .ok (.aload_n 0, 1) := by decide +kernel
theorem dX8_init_151 : decode cX8_init 151 = .ok (.iconst 0, 1) := by decide +kernel
theorem dX8_init_152 : decode cX8_init 152 = .ok (.putfield 76, 3) := by decide +kernel
theorem dX8_init_155 : decode cX8_init 155 = .ok (.aload_n 0, 1) := by decide +kernel
theorem dX8_init_156 : decode cX8_init 156 = .ok (.iconst (-1), 1) := by decide +kernel
theorem dX8_init_157 : decode cX8_init 157 = .ok (.putfield 80, 3) := by decide +kernel
theorem dX8_init_160 : decode cX8_init 160 = .ok (.aload_n 0, 1) := by decide +kernel
theorem dX8_init_161 : decode cX8_init 161 = .ok (.iconst (-1), 1) := by decide +kernel
theorem dX8_init_162 : decode cX8_init 162 = .ok (.putfield 83, 3) := by decide +kernel
theorem dX8_init_165 : decode cX8_init 165 = .ok (.aload_n 0, 1) := by decide +kernel
theorem dX8_init_166 : decode cX8_init 166 = .ok (.iconst 0, 1) := by decide +kernel
theorem dX8_init_167 : decode cX8_init 167 = .ok (.putfield 86, 3) := by decide +kernel
theorem dX8_init_170 : decode cX8_init 170 = .ok (.aload_n 0, 1) := by decide +kernel
theorem dX8_init_171 : decode cX8_init 171 = .ok (.iconst (-1), 1) := by decide +kernel
theorem dX8_init_172 : decode cX8_init 172 = .ok (.putfield 89, 3) := by decide +kernel
theorem dX8_init_175 : decode cX8_init 175 = .ok (.aload_n 0, 1) := by decide +kernel
theorem dX8_init_176 : decode cX8_init 176 = .ok (.iconst 0, 1) := by decide +kernel
theorem dX8_init_177 : decode cX8_init 177 = .ok (.putfield 92, 3) := by decide +kernel
theorem dX8_init_180 : decode cX8_init 180 = .ok (.return_, 1) := by decide +kernel
theorem dX8_perch_0 : decode cX8_perch 0 = .ok (.iload_n 1, 1) := by decide +kernel
theorem dX8_perch_1 : decode cX8_perch 1 = .ok (.i2l, 1) := by decide +kernel
theorem dX8_perch_2 : decode cX8_perch 2 = .ok (.invokestatic 95, 3) := by decide +kernel
theorem dX8_perch_5 : decode cX8_perch 5 = .ok (.ifCond .eq 13, 3) := by decide +kernel
theorem dX8_perch_8 : decode cX8_perch 8 = .ok (.iload_n 2, 1) := by decide +kernel
theorem dX8_perch_9 : decode cX8_perch 9 = .ok (.ifCond .lt 9, 3) := by decide +kernel
theorem dX8_perch_12 : decode cX8_perch 12 = .ok (.iload_n 2, 1) := by decide +kernel
theorem dX8_perch_13 : decode cX8_perch 13 = .ok (.bipush 9, 2) := by decide +kernel
theorem dX8_perch_15 : decode cX8_perch 15 = .ok (.if_icmp .le 9, 3) := by decide +kernel
theorem dX8_perch_18 : decode cX8_perch 18 = .ok (.aload_n 0, 1) := by decide +kernel
theorem dX8_perch_19 : decode cX8_perch 19 = .ok (.iconst (-1), 1) := by decide +kernel
theorem dX8_perch_20 : decode cX8_perch 20 = .ok (.invokevirtual 99, 3) := by decide +kernel
theorem dX8_perch_23 : decode cX8_perch 23 = .ok (.ireturn, 1) := by decide +kernel
theorem dX8_perch_24 : decode cX8_perch 24 = .ok (.aload_n 0, 1) := by decide +kernel
theorem dX8_perch_25 : decode cX8_perch 25 = .ok (.getfield 12, 3) := by decide +kernel
theorem dX8_perch_28 : decode cX8_perch 28 = .ok (.getfield 103, 3) := by decide +kernel
theorem dX8_perch_31 : decode cX8_perch 31 = .ok (.getfield 107, 3) := by decide +kernel
theorem dX8_perch_34 : decode cX8_perch 34 = .ok (.bipush 10, 2) := by decide +kernel
theorem dX8_perch_36 : decode cX8_perch 36 = .ok (.if_icmp .lt 10, 3) := by decide +kernel
theorem dX8_perch_39 : decode cX8_perch 39 = .ok (.aload_n 0, 1) := by decide +kernel
theorem dX8_perch_40 : decode cX8_perch 40 = .ok (.bipush (-5), 2) := by decide +kernel
theorem dX8_perch_42 : decode cX8_perch 42 = .ok (.invokevirtual 99, 3) := by decide +kernel
theorem dX8_perch_45 : decode cX8_perch 45 = .ok (.ireturn, 1) := by decide +kernel
theorem dX8_perch_46 : decode cX8_perch 46 = .ok (.aload_n 0, 1) := by decide +kernel
theorem dX8_perch_47 : decode cX8_perch 47 = .ok (.getfield 54, 3) := by decide +kernel
theorem dX8_perch_50 : decode cX8_perch 50 = .ok (.invokevirtual 112, 3) := by decide +kernel
theorem dX8_perch_53 : decode cX8_perch 53 = .ok (.aload_n 0, 1) := by decide +kernel
theorem dX8_perch_54 : decode cX8_perch 54 = .ok (.aload_n 0, 1) := by decide +kernel
theorem dX8_perch_55 : decode cX8_perch 55 = .ok (.getfield 12, 3) := by decide +kernel
theorem dX8_perch_58 : decode cX8_perch 58 = .ok (.getfield 103, 3) := by decide +kernel
theorem dX8_perch_61 : decode cX8_perch 61 = .ok (.iload_n 1, 1) := by decide +kernel
theorem dX8_perch_62 : decode cX8_perch 62 = .ok (.iload_n 2, 1) := by decide +kernel
theorem dX8_perch_63 : decode cX8_perch 63 = .ok (.invokevirtual 115, 3) := by decide +kernel
theorem dX8_perch_66 : decode cX8_perch 66 = .ok (.invokevirtual 119, 3) := by decide +kernel
theorem dX8_perch_69 : decode cX8_perch 69 = .ok (.ireturn, 1) := by decide +kernel
theorem dX8_at_0 : decode cX8_at 0 = .ok (.aload_n 0, 1) := by decide +kernel
theorem dX8_at_1 : decode cX8_at 1 = .ok (.getfield 12, 3) := by decide +kernel
theorem dX8_at_4 : decode cX8_at 4 = .ok (.getfield 103, 3) := by decide +kernel
theorem dX8_at_7 : decode cX8_at 7 = .ok (.iload_n 1, 1) := by decide +kernel
theorem dX8_at_8 : decode cX8_at 8 = .ok (.invokevirtual 122, 3) := by decide +kernel
theorem dX8_at_11 : decode cX8_at 11 = .ok (.ifCond .ne 5, 3) := by decide +kernel
theorem dX8_at_14 : decode cX8_at 14 = .ok (.iconst (-1), 1) := by decide +kernel
theorem dX8_at_15 : decode cX8_at 15 = .ok (.ireturn, 1) := by decide +kernel
theorem dX8_at_16 : decode cX8_at 16 = .ok (.iload_n 2, 1) := by decide +kernel
theorem dX8_at_17 : decode cX8_at 17 = .ok (.tableswitch 77 0 2 #[27, 39, 51], 27) := by decide +kernel
theorem dX8_at_44 : decode cX8_at 44 = .ok (.aload_n 0, 1) := by decide +kernel
theorem dX8_at_45 : decode cX8_at 45 = .ok (.getfield 12, 3) := by decide +kernel
theorem dX8_at_48 : decode cX8_at 48 = .ok (.getfield 103, 3) := by decide +kernel
theorem dX8_at_51 : decode cX8_at 51 = .ok (.iload_n 1, 1) := by decide +kernel
theorem dX8_at_52 : decode cX8_at 52 = .ok (.invokevirtual 126, 3) := by decide +kernel
theorem dX8_at_55 : decode cX8_at 55 = .ok (.ireturn, 1) := by decide +kernel
theorem dX8_at_56 : decode cX8_at 56 = .ok (.aload_n 0, 1) := by decide +kernel
theorem dX8_at_57 : decode cX8_at 57 = .ok (.getfield 12, 3) := by decide +kernel
theorem dX8_at_60 : decode cX8_at 60 = .ok (.getfield 103, 3) := by decide +kernel
theorem dX8_at_63 : decode cX8_at 63 = .ok (.iload_n 1, 1) := by decide +kernel
theorem dX8_at_64 : decode cX8_at 64 = .ok (.invokevirtual 129, 3) := by decide +kernel
theorem dX8_at_67 : decode cX8_at 67 = .ok (.ireturn, 1) := by decide +kernel
theorem dX8_at_68 : decode cX8_at 68 = .ok (.aload_n 0, 1) := by decide +kernel
theorem dX8_at_69 : decode cX8_at 69 = .ok (.getfield 12, 3) := by decide +kernel
theorem dX8_at_72 : decode cX8_at 72 = .ok (.iload_n 1, 1) := by decide +kernel
theorem dX8_at_73 : decode cX8_at 73 = .ok (.aload_n 0, 1) := by decide +kernel
theorem dX8_at_74 : decode cX8_at 74 = .ok (.getfield 12, 3) := by decide +kernel
theorem dX8_at_77 : decode cX8_at 77 = .ok (.getfield 132, 3) := by decide +kernel
theorem dX8_at_80 : decode cX8_at 80 = .ok (.iconst 0, 1) := by decide +kernel
theorem dX8_at_81 : decode cX8_at 81 = .ok (.iaload, 1) := by decide +kernel
theorem dX8_at_82 : decode cX8_at 82 = .ok (.invokevirtual 135, 3) := by decide +kernel
theorem dX8_at_85 : decode cX8_at 85 = .ok (.ifCond .eq 7, 3) := by decide +kernel
theorem dX8_at_88 : decode cX8_at 88 = .ok (.iconst 1, 1) := by decide +kernel
theorem dX8_at_89 : decode cX8_at 89 = .ok (.goto 4, 3) := by decide +kernel
theorem dX8_at_92 : decode cX8_at 92 = .ok (.iconst 0, 1) := by decide +kernel
theorem dX8_at_93 : decode cX8_at 93 = .ok (.ireturn, 1) := by decide +kernel
theorem dX8_at_94 : decode cX8_at 94 = .ok (.iload_n 2, 1) := by decide +kernel
theorem dX8_at_95 : decode cX8_at 95 = .ok (.iconst 3, 1) := by decide +kernel
theorem dX8_at_96 : decode cX8_at 96 = .ok (.if_icmp .lt 36, 3) := by decide +kernel
theorem dX8_at_99 : decode cX8_at 99 = .ok (.aload_n 0, 1) := by decide +kernel
theorem dX8_at_100 : decode cX8_at 100 = .ok (.getfield 12, 3) := by decide +kernel
theorem dX8_at_103 : decode cX8_at 103 = .ok (.getfield 103, 3) := by decide +kernel
theorem dX8_at_106 : decode cX8_at 106 = .ok (.iload_n 2, 1) := by decide +kernel
theorem dX8_at_107 : decode cX8_at 107 = .ok (.iconst 3, 1) := by decide +kernel
theorem dX8_at_108 : decode cX8_at 108 = .ok (.isub, 1) := by decide +kernel
theorem dX8_at_109 : decode cX8_at 109 = .ok (.invokevirtual 122, 3) := by decide +kernel
theorem dX8_at_112 : decode cX8_at 112 = .ok (.ifCond .eq 20, 3) := by decide +kernel
theorem dX8_at_115 : decode cX8_at 115 = .ok (.aload_n 0, 1) := by decide +kernel
theorem dX8_at_116 : decode cX8_at 116 = .ok (.getfield 12, 3) := by decide +kernel
theorem dX8_at_119 : decode cX8_at 119 = .ok (.getfield 103, 3) := by decide +kernel
theorem dX8_at_122 : decode cX8_at 122 = .ok (.iload_n 1, 1) := by decide +kernel
theorem dX8_at_123 : decode cX8_at 123 = .ok (.iload_n 2, 1) := by decide +kernel
theorem dX8_at_124 : decode cX8_at 124 = .ok (.iconst 3, 1) := by decide +kernel
theorem dX8_at_125 : decode cX8_at 125 = .ok (.isub, 1) := by decide +kernel
theorem dX8_at_126 : decode cX8_at 126 = .ok (.invokevirtual 139, 3) := by decide +kernel
theorem dX8_at_129 : decode cX8_at 129 = .ok (.goto 4, 3) := by decide +kernel
theorem dX8_at_132 : decode cX8_at 132 = .ok (.iconst (-1), 1) := by decide +kernel
theorem dX8_at_133 : decode cX8_at 133 = .ok (.ireturn, 1) := by decide +kernel
theorem dX8_folk_0 : decode cX8_folk 0 = .ok (.iload_n 1, 1) := by decide +kernel
theorem dX8_folk_1 : decode cX8_folk 1 = .ok (.iconst 1, 1) := by decide +kernel
theorem dX8_folk_2 : decode cX8_folk 2 = .ok (.if_icmp .lt 9, 3) := by decide +kernel
theorem dX8_folk_5 : decode cX8_folk 5 = .ok (.iload_n 1, 1) := by decide +kernel
theorem dX8_folk_6 : decode cX8_folk 6 = .ok (.bipush 9, 2) := by decide +kernel
theorem dX8_folk_8 : decode cX8_folk 8 = .ok (.if_icmp .le 9, 3) := by decide +kernel
theorem dX8_folk_11 : decode cX8_folk 11 = .ok (.aload_n 0, 1) := by decide +kernel
theorem dX8_folk_12 : decode cX8_folk 12 = .ok (.iconst (-1), 1) := by decide +kernel
theorem dX8_folk_13 : decode cX8_folk 13 = .ok (.invokevirtual 99, 3) := by decide +kernel
theorem dX8_folk_16 : decode cX8_folk 16 = .ok (.ireturn, 1) := by decide +kernel
theorem dX8_folk_17 : decode cX8_folk 17 = .ok (.aload_n 0, 1) := by decide +kernel
theorem dX8_folk_18 : decode cX8_folk 18 = .ok (.getfield 12, 3) := by decide +kernel
theorem dX8_folk_21 : decode cX8_folk 21 = .ok (.getfield 103, 3) := by decide +kernel
theorem dX8_folk_24 : decode cX8_folk 24 = .ok (.iload_n 2, 1) := by decide +kernel
theorem dX8_folk_25 : decode cX8_folk 25 = .ok (.invokevirtual 122, 3) := by decide +kernel
theorem dX8_folk_28 : decode cX8_folk 28 = .ok (.ifCond .ne 10, 3) := by decide +kernel
theorem dX8_folk_31 : decode cX8_folk 31 = .ok (.aload_n 0, 1) := by decide +kernel
theorem dX8_folk_32 : decode cX8_folk 32 = .ok (.bipush (-2), 2) := by decide +kernel
theorem dX8_folk_34 : decode cX8_folk 34 = .ok (.invokevirtual 99, 3) := by decide +kernel
theorem dX8_folk_37 : decode cX8_folk 37 = .ok (.ireturn, 1) := by decide +kernel
theorem dX8_folk_38 : decode cX8_folk 38 = .ok (.aload_n 0, 1) := by decide +kernel
theorem dX8_folk_39 : decode cX8_folk 39 = .ok (.getfield 12, 3) := by decide +kernel
theorem dX8_folk_42 : decode cX8_folk 42 = .ok (.getfield 142, 3) := by decide +kernel
theorem dX8_folk_45 : decode cX8_folk 45 = .ok (.istore_n 3, 1) := by decide +kernel
theorem dX8_folk_46 : decode cX8_folk 46 = .ok (.iload_n 3, 1) := by decide +kernel
theorem dX8_folk_47 : decode cX8_folk 47 = .ok (.ifCond .lt 8, 3) := by decide +kernel
theorem dX8_folk_50 : decode cX8_folk 50 = .ok (.iload_n 3, 1) := by decide +kernel
theorem dX8_folk_51 : decode cX8_folk 51 = .ok (.iconst 4, 1) := by decide +kernel
theorem dX8_folk_52 : decode cX8_folk 52 = .ok (.if_icmp .lt 10, 3) := by decide +kernel
theorem dX8_folk_55 : decode cX8_folk 55 = .ok (.aload_n 0, 1) := by decide +kernel
theorem dX8_folk_56 : decode cX8_folk 56 = .ok (.bipush (-5), 2) := by decide +kernel
theorem dX8_folk_58 : decode cX8_folk 58 = .ok (.invokevirtual 99, 3) := by decide +kernel
theorem dX8_folk_61 : decode cX8_folk 61 = .ok (.ireturn, 1) := by decide +kernel
theorem dX8_folk_62 : decode cX8_folk 62 = .ok (.aload_n 0, 1) := by decide +kernel
theorem dX8_folk_63 : decode cX8_folk 63 = .ok (.getfield 12, 3) := by decide +kernel
theorem dX8_folk_66 : decode cX8_folk 66 = .ok (.getfield 145, 3) := by decide +kernel
theorem dX8_folk_69 : decode cX8_folk 69 = .ok (.iload_n 3, 1) := by decide +kernel
theorem dX8_folk_70 : decode cX8_folk 70 = .ok (.iload_n 1, 1) := by decide +kernel
theorem dX8_folk_71 : decode cX8_folk 71 = .ok (.iastore, 1) := by decide +kernel
theorem dX8_folk_72 : decode cX8_folk 72 = .ok (.aload_n 0, 1) := by decide +kernel
theorem dX8_folk_73 : decode cX8_folk 73 = .ok (.getfield 12, 3) := by decide +kernel
theorem dX8_folk_76 : decode cX8_folk 76 = .ok (.getfield 148, 3) := by decide +kernel
theorem dX8_folk_79 : decode cX8_folk 79 = .ok (.iload_n 3, 1) := by decide +kernel
theorem dX8_folk_80 : decode cX8_folk 80 = .ok (.iload_n 2, 1) := by decide +kernel
theorem dX8_folk_81 : decode cX8_folk 81 = .ok (.iastore, 1) := by decide +kernel
theorem dX8_folk_82 : decode cX8_folk 82 = .ok (.aload_n 0, 1) := by decide +kernel
theorem dX8_folk_83 : decode cX8_folk 83 = .ok (.getfield 12, 3) := by decide +kernel
theorem dX8_folk_86 : decode cX8_folk 86 = .ok (.iload_n 3, 1) := by decide +kernel
theorem dX8_folk_87 : decode cX8_folk 87 = .ok (.iconst 1, 1) := by decide +kernel
theorem dX8_folk_88 : decode cX8_folk 88 = .ok (.iadd, 1) := by decide +kernel
theorem dX8_folk_89 : decode cX8_folk 89 = .ok (.putfield 142, 3) := by decide +kernel
theorem dX8_folk_92 : decode cX8_folk 92 = .ok (.aload_n 0, 1) := by decide +kernel
theorem dX8_folk_93 : decode cX8_folk 93 = .ok (.getfield 54, 3) := by decide +kernel
theorem dX8_folk_96 : decode cX8_folk 96 = .ok (.invokevirtual 112, 3) := by decide +kernel
theorem dX8_folk_99 : decode cX8_folk 99 = .ok (.aload_n 0, 1) := by decide +kernel
theorem dX8_folk_100 : decode cX8_folk 100 = .ok (.iload_n 3, 1) := by decide +kernel
theorem dX8_folk_101 : decode cX8_folk 101 = .ok (.invokevirtual 119, 3) := by decide +kernel
theorem dX8_folk_104 : decode cX8_folk 104 = .ok (.ireturn, 1) := by decide +kernel
theorem dX8_of_0 : decode cX8_of 0 = .ok (.aload_n 0, 1) := by decide +kernel
theorem dX8_of_1 : decode cX8_of 1 = .ok (.getfield 12, 3) := by decide +kernel
theorem dX8_of_4 : decode cX8_of 4 = .ok (.iload_n 1, 1) := by decide +kernel
theorem dX8_of_5 : decode cX8_of 5 = .ok (.invokevirtual 151, 3) := by decide +kernel
theorem dX8_of_8 : decode cX8_of 8 = .ok (.ifCond .ne 5, 3) := by decide +kernel
theorem dX8_of_11 : decode cX8_of 11 = .ok (.iconst (-1), 1) := by decide +kernel
theorem dX8_of_12 : decode cX8_of 12 = .ok (.ireturn, 1) := by decide +kernel
theorem dX8_of_13 : decode cX8_of 13 = .ok (.iload_n 2, 1) := by decide +kernel
theorem dX8_of_14 : decode cX8_of 14 = .ok (.lookupswitch 46 #[(0, 26), (1, 36)], 26) := by decide +kernel
theorem dX8_of_40 : decode cX8_of 40 = .ok (.aload_n 0, 1) := by decide +kernel
theorem dX8_of_41 : decode cX8_of 41 = .ok (.getfield 12, 3) := by decide +kernel
theorem dX8_of_44 : decode cX8_of 44 = .ok (.getfield 145, 3) := by decide +kernel
theorem dX8_of_47 : decode cX8_of 47 = .ok (.iload_n 1, 1) := by decide +kernel
theorem dX8_of_48 : decode cX8_of 48 = .ok (.iaload, 1) := by decide +kernel
theorem dX8_of_49 : decode cX8_of 49 = .ok (.ireturn, 1) := by decide +kernel
theorem dX8_of_50 : decode cX8_of 50 = .ok (.aload_n 0, 1) := by decide +kernel
theorem dX8_of_51 : decode cX8_of 51 = .ok (.getfield 12, 3) := by decide +kernel
theorem dX8_of_54 : decode cX8_of 54 = .ok (.getfield 148, 3) := by decide +kernel
theorem dX8_of_57 : decode cX8_of 57 = .ok (.iload_n 1, 1) := by decide +kernel
theorem dX8_of_58 : decode cX8_of 58 = .ok (.iaload, 1) := by decide +kernel
theorem dX8_of_59 : decode cX8_of 59 = .ok (.ireturn, 1) := by decide +kernel
theorem dX8_of_60 : decode cX8_of 60 = .ok (.iconst (-1), 1) := by decide +kernel
theorem dX8_of_61 : decode cX8_of 61 = .ok (.ireturn, 1) := by decide +kernel
theorem dX8_badger_0 : decode cX8_badger 0 = .ok (.iload_n 1, 1) := by decide +kernel
theorem dX8_badger_1 : decode cX8_badger 1 = .ok (.i2l, 1) := by decide +kernel
theorem dX8_badger_2 : decode cX8_badger 2 = .ok (.invokestatic 95, 3) := by decide +kernel
theorem dX8_badger_5 : decode cX8_badger 5 = .ok (.ifCond .ne 9, 3) := by decide +kernel
theorem dX8_badger_8 : decode cX8_badger 8 = .ok (.aload_n 0, 1) := by decide +kernel
theorem dX8_badger_9 : decode cX8_badger 9 = .ok (.iconst (-1), 1) := by decide +kernel
theorem dX8_badger_10 : decode cX8_badger 10 = .ok (.invokevirtual 99, 3) := by decide +kernel
theorem dX8_badger_13 : decode cX8_badger 13 = .ok (.ireturn, 1) := by decide +kernel
theorem dX8_badger_14 : decode cX8_badger 14 = .ok (.aload_n 0, 1) := by decide +kernel
theorem dX8_badger_15 : decode cX8_badger 15 = .ok (.getfield 12, 3) := by decide +kernel
theorem dX8_badger_18 : decode cX8_badger 18 = .ok (.getfield 154, 3) := by decide +kernel
theorem dX8_badger_21 : decode cX8_badger 21 = .ok (.istore_n 2, 1) := by decide +kernel
theorem dX8_badger_22 : decode cX8_badger 22 = .ok (.iload_n 2, 1) := by decide +kernel
theorem dX8_badger_23 : decode cX8_badger 23 = .ok (.ifCond .lt 8, 3) := by decide +kernel
theorem dX8_badger_26 : decode cX8_badger 26 = .ok (.iload_n 2, 1) := by decide +kernel
theorem dX8_badger_27 : decode cX8_badger 27 = .ok (.iconst 3, 1) := by decide +kernel
theorem dX8_badger_28 : decode cX8_badger 28 = .ok (.if_icmp .lt 10, 3) := by decide +kernel
theorem dX8_badger_31 : decode cX8_badger 31 = .ok (.aload_n 0, 1) := by decide +kernel
theorem dX8_badger_32 : decode cX8_badger 32 = .ok (.bipush (-5), 2) := by decide +kernel
theorem dX8_badger_34 : decode cX8_badger 34 = .ok (.invokevirtual 99, 3) := by decide +kernel
theorem dX8_badger_37 : decode cX8_badger 37 = .ok (.ireturn, 1) := by decide +kernel
theorem dX8_badger_38 : decode cX8_badger 38 = .ok (.aload_n 0, 1) := by decide +kernel
theorem dX8_badger_39 : decode cX8_badger 39 = .ok (.getfield 12, 3) := by decide +kernel
theorem dX8_badger_42 : decode cX8_badger 42 = .ok (.getfield 157, 3) := by decide +kernel
theorem dX8_badger_45 : decode cX8_badger 45 = .ok (.iload_n 2, 1) := by decide +kernel
theorem dX8_badger_46 : decode cX8_badger 46 = .ok (.iload_n 1, 1) := by decide +kernel
theorem dX8_badger_47 : decode cX8_badger 47 = .ok (.iastore, 1) := by decide +kernel
theorem dX8_badger_48 : decode cX8_badger 48 = .ok (.aload_n 0, 1) := by decide +kernel
theorem dX8_badger_49 : decode cX8_badger 49 = .ok (.getfield 12, 3) := by decide +kernel
theorem dX8_badger_52 : decode cX8_badger 52 = .ok (.iload_n 2, 1) := by decide +kernel
theorem dX8_badger_53 : decode cX8_badger 53 = .ok (.iconst 1, 1) := by decide +kernel
theorem dX8_badger_54 : decode cX8_badger 54 = .ok (.iadd, 1) := by decide +kernel
theorem dX8_badger_55 : decode cX8_badger 55 = .ok (.putfield 154, 3) := by decide +kernel
theorem dX8_badger_58 : decode cX8_badger 58 = .ok (.aload_n 0, 1) := by decide +kernel
theorem dX8_badger_59 : decode cX8_badger 59 = .ok (.getfield 54, 3) := by decide +kernel
theorem dX8_badger_62 : decode cX8_badger 62 = .ok (.invokevirtual 112, 3) := by decide +kernel
theorem dX8_badger_65 : decode cX8_badger 65 = .ok (.aload_n 0, 1) := by decide +kernel
theorem dX8_badger_66 : decode cX8_badger 66 = .ok (.iload_n 2, 1) := by decide +kernel
theorem dX8_badger_67 : decode cX8_badger 67 = .ok (.invokevirtual 119, 3) := by decide +kernel
theorem dX8_badger_70 : decode cX8_badger 70 = .ok (.ireturn, 1) := by decide +kernel
theorem dX8_sow_0 : decode cX8_sow 0 = .ok (.aload_n 0, 1) := by decide +kernel
theorem dX8_sow_1 : decode cX8_sow 1 = .ok (.getfield 12, 3) := by decide +kernel
theorem dX8_sow_4 : decode cX8_sow 4 = .ok (.iload_n 1, 1) := by decide +kernel
theorem dX8_sow_5 : decode cX8_sow 5 = .ok (.invokevirtual 160, 3) := by decide +kernel
theorem dX8_sow_8 : decode cX8_sow 8 = .ok (.ifCond .ne 5, 3) := by decide +kernel
theorem dX8_sow_11 : decode cX8_sow 11 = .ok (.iconst (-1), 1) := by decide +kernel
theorem dX8_sow_12 : decode cX8_sow 12 = .ok (.ireturn, 1) := by decide +kernel
theorem dX8_sow_13 : decode cX8_sow 13 = .ok (.iload_n 2, 1) := by decide +kernel
theorem dX8_sow_14 : decode cX8_sow 14 = .ok (.lookupswitch 63 #[(0, 26), (1, 36)], 26) := by decide +kernel
theorem dX8_sow_40 : decode cX8_sow 40 = .ok (.aload_n 0, 1) := by decide +kernel
theorem dX8_sow_41 : decode cX8_sow 41 = .ok (.getfield 12, 3) := by decide +kernel
theorem dX8_sow_44 : decode cX8_sow 44 = .ok (.getfield 157, 3) := by decide +kernel
theorem dX8_sow_47 : decode cX8_sow 47 = .ok (.iload_n 1, 1) := by decide +kernel
theorem dX8_sow_48 : decode cX8_sow 48 = .ok (.iaload, 1) := by decide +kernel
theorem dX8_sow_49 : decode cX8_sow 49 = .ok (.ireturn, 1) := by decide +kernel
theorem dX8_sow_50 : decode cX8_sow 50 = .ok (.aload_n 0, 1) := by decide +kernel
theorem dX8_sow_51 : decode cX8_sow 51 = .ok (.getfield 12, 3) := by decide +kernel
theorem dX8_sow_54 : decode cX8_sow 54 = .ok (.iload_n 1, 1) := by decide +kernel
theorem dX8_sow_55 : decode cX8_sow 55 = .ok (.aload_n 0, 1) := by decide +kernel
theorem dX8_sow_56 : decode cX8_sow 56 = .ok (.getfield 12, 3) := by decide +kernel
theorem dX8_sow_59 : decode cX8_sow 59 = .ok (.getfield 157, 3) := by decide +kernel
theorem dX8_sow_62 : decode cX8_sow 62 = .ok (.iload_n 1, 1) := by decide +kernel
theorem dX8_sow_63 : decode cX8_sow 63 = .ok (.iaload, 1) := by decide +kernel
theorem dX8_sow_64 : decode cX8_sow 64 = .ok (.aload_n 0, 1) := by decide +kernel
theorem dX8_sow_65 : decode cX8_sow 65 = .ok (.getfield 12, 3) := by decide +kernel
theorem dX8_sow_68 : decode cX8_sow 68 = .ok (.getfield 132, 3) := by decide +kernel
theorem dX8_sow_71 : decode cX8_sow 71 = .ok (.iconst 0, 1) := by decide +kernel
theorem dX8_sow_72 : decode cX8_sow 72 = .ok (.iaload, 1) := by decide +kernel
theorem dX8_sow_73 : decode cX8_sow 73 = .ok (.invokevirtual 163, 3) := by decide +kernel
theorem dX8_sow_76 : decode cX8_sow 76 = .ok (.ireturn, 1) := by decide +kernel
theorem dX8_sow_77 : decode cX8_sow 77 = .ok (.iconst (-1), 1) := by decide +kernel
theorem dX8_sow_78 : decode cX8_sow 78 = .ok (.ireturn, 1) := by decide +kernel
theorem dX8_thing_0 : decode cX8_thing 0 = .ok (.iload_n 2, 1) := by decide +kernel
theorem dX8_thing_1 : decode cX8_thing 1 = .ok (.ifCond .lt 19, 3) := by decide +kernel
theorem dX8_thing_4 : decode cX8_thing 4 = .ok (.iload_n 2, 1) := by decide +kernel
theorem dX8_thing_5 : decode cX8_thing 5 = .ok (.bipush 9, 2) := by decide +kernel
theorem dX8_thing_7 : decode cX8_thing 7 = .ok (.if_icmp .gt 13, 3) := by decide +kernel
theorem dX8_thing_10 : decode cX8_thing 10 = .ok (.iload_n 3, 1) := by decide +kernel
theorem dX8_thing_11 : decode cX8_thing 11 = .ok (.ifCond .lt 9, 3) := by decide +kernel
theorem dX8_thing_14 : decode cX8_thing 14 = .ok (.iload_n 3, 1) := by decide +kernel
theorem dX8_thing_15 : decode cX8_thing 15 = .ok (.bipush 9, 2) := by decide +kernel
theorem dX8_thing_17 : decode cX8_thing 17 = .ok (.if_icmp .le 9, 3) := by decide +kernel
theorem dX8_thing_20 : decode cX8_thing 20 = .ok (.aload_n 0, 1) := by decide +kernel
theorem dX8_thing_21 : decode cX8_thing 21 = .ok (.iconst (-1), 1) := by decide +kernel
theorem dX8_thing_22 : decode cX8_thing 22 = .ok (.invokevirtual 99, 3) := by decide +kernel
theorem dX8_thing_25 : decode cX8_thing 25 = .ok (.ireturn, 1) := by decide +kernel
theorem dX8_thing_26 : decode cX8_thing 26 = .ok (.aload_n 0, 1) := by decide +kernel
theorem dX8_thing_27 : decode cX8_thing 27 = .ok (.getfield 12, 3) := by decide +kernel
theorem dX8_thing_30 : decode cX8_thing 30 = .ok (.getfield 103, 3) := by decide +kernel
theorem dX8_thing_33 : decode cX8_thing 33 = .ok (.iload_n 1, 1) := by decide +kernel
theorem dX8_thing_34 : decode cX8_thing 34 = .ok (.invokevirtual 122, 3) := by decide +kernel
theorem dX8_thing_37 : decode cX8_thing 37 = .ok (.ifCond .ne 10, 3) := by decide +kernel
theorem dX8_thing_40 : decode cX8_thing 40 = .ok (.aload_n 0, 1) := by decide +kernel
theorem dX8_thing_41 : decode cX8_thing 41 = .ok (.bipush (-2), 2) := by decide +kernel
theorem dX8_thing_43 : decode cX8_thing 43 = .ok (.invokevirtual 99, 3) := by decide +kernel
theorem dX8_thing_46 : decode cX8_thing 46 = .ok (.ireturn, 1) := by decide +kernel
theorem dX8_thing_47 : decode cX8_thing 47 = .ok (.aload_n 0, 1) := by decide +kernel
theorem dX8_thing_48 : decode cX8_thing 48 = .ok (.getfield 12, 3) := by decide +kernel
theorem dX8_thing_51 : decode cX8_thing 51 = .ok (.getfield 167, 3) := by decide +kernel
theorem dX8_thing_54 : decode cX8_thing 54 = .ok (.istore 4, 2) := by decide +kernel
theorem dX8_thing_56 : decode cX8_thing 56 = .ok (.iload 4, 2) := by decide +kernel
theorem dX8_thing_58 : decode cX8_thing 58 = .ok (.ifCond .lt 10, 3) := by decide +kernel
theorem dX8_thing_61 : decode cX8_thing 61 = .ok (.iload 4, 2) := by decide +kernel
theorem dX8_thing_63 : decode cX8_thing 63 = .ok (.bipush 6, 2) := by decide +kernel
theorem dX8_thing_65 : decode cX8_thing 65 = .ok (.if_icmp .lt 10, 3) := by decide +kernel
theorem dX8_thing_68 : decode cX8_thing 68 = .ok (.aload_n 0, 1) := by decide +kernel
theorem dX8_thing_69 : decode cX8_thing 69 = .ok (.bipush (-5), 2) := by decide +kernel
theorem dX8_thing_71 : decode cX8_thing 71 = .ok (.invokevirtual 99, 3) := by decide +kernel
theorem dX8_thing_74 : decode cX8_thing 74 = .ok (.ireturn, 1) := by decide +kernel
theorem dX8_thing_75 : decode cX8_thing 75 = .ok (.aload_n 0, 1) := by decide +kernel
theorem dX8_thing_76 : decode cX8_thing 76 = .ok (.getfield 12, 3) := by decide +kernel
theorem dX8_thing_79 : decode cX8_thing 79 = .ok (.getfield 170, 3) := by decide +kernel
theorem dX8_thing_82 : decode cX8_thing 82 = .ok (.iload 4, 2) := by decide +kernel
theorem dX8_thing_84 : decode cX8_thing 84 = .ok (.iload_n 1, 1) := by decide +kernel
theorem dX8_thing_85 : decode cX8_thing 85 = .ok (.iastore, 1) := by decide +kernel
theorem dX8_thing_86 : decode cX8_thing 86 = .ok (.aload_n 0, 1) := by decide +kernel
theorem dX8_thing_87 : decode cX8_thing 87 = .ok (.getfield 12, 3) := by decide +kernel
theorem dX8_thing_90 : decode cX8_thing 90 = .ok (.getfield 173, 3) := by decide +kernel
theorem dX8_thing_93 : decode cX8_thing 93 = .ok (.iload 4, 2) := by decide +kernel
theorem dX8_thing_95 : decode cX8_thing 95 = .ok (.iload_n 2, 1) := by decide +kernel
theorem dX8_thing_96 : decode cX8_thing 96 = .ok (.iastore, 1) := by decide +kernel
theorem dX8_thing_97 : decode cX8_thing 97 = .ok (.aload_n 0, 1) := by decide +kernel
theorem dX8_thing_98 : decode cX8_thing 98 = .ok (.getfield 12, 3) := by decide +kernel
theorem dX8_thing_101 : decode cX8_thing 101 = .ok (.getfield 176, 3) := by decide +kernel
theorem dX8_thing_104 : decode cX8_thing 104 = .ok (.iload 4, 2) := by decide +kernel
theorem dX8_thing_106 : decode cX8_thing 106 = .ok (.iload_n 3, 1) := by decide +kernel
theorem dX8_thing_107 : decode cX8_thing 107 = .ok (.iastore, 1) := by decide +kernel
theorem dX8_thing_108 : decode cX8_thing 108 = .ok (.aload_n 0, 1) := by decide +kernel
theorem dX8_thing_109 : decode cX8_thing 109 = .ok (.getfield 12, 3) := by decide +kernel
theorem dX8_thing_112 : decode cX8_thing 112 = .ok (.iload 4, 2) := by decide +kernel
theorem dX8_thing_114 : decode cX8_thing 114 = .ok (.iconst 1, 1) := by decide +kernel
theorem dX8_thing_115 : decode cX8_thing 115 = .ok (.iadd, 1) := by decide +kernel
theorem dX8_thing_116 : decode cX8_thing 116 = .ok (.putfield 167, 3) := by decide +kernel
theorem dX8_thing_119 : decode cX8_thing 119 = .ok (.aload_n 0, 1) := by decide +kernel
theorem dX8_thing_120 : decode cX8_thing 120 = .ok (.getfield 54, 3) := by decide +kernel
theorem dX8_thing_123 : decode cX8_thing 123 = .ok (.invokevirtual 112, 3) := by decide +kernel
theorem dX8_thing_126 : decode cX8_thing 126 = .ok (.aload_n 0, 1) := by decide +kernel
theorem dX8_thing_127 : decode cX8_thing 127 = .ok (.iload 4, 2) := by decide +kernel
theorem dX8_thing_129 : decode cX8_thing 129 = .ok (.invokevirtual 119, 3) := by decide +kernel
theorem dX8_thing_132 : decode cX8_thing 132 = .ok (.ireturn, 1) := by decide +kernel
theorem dX8_has_0 : decode cX8_has 0 = .ok (.aload_n 0, 1) := by decide +kernel
theorem dX8_has_1 : decode cX8_has 1 = .ok (.getfield 12, 3) := by decide +kernel
theorem dX8_has_4 : decode cX8_has 4 = .ok (.iload_n 1, 1) := by decide +kernel
theorem dX8_has_5 : decode cX8_has 5 = .ok (.invokevirtual 179, 3) := by decide +kernel
theorem dX8_has_8 : decode cX8_has 8 = .ok (.ifCond .ne 5, 3) := by decide +kernel
theorem dX8_has_11 : decode cX8_has 11 = .ok (.iconst (-1), 1) := by decide +kernel
theorem dX8_has_12 : decode cX8_has 12 = .ok (.ireturn, 1) := by decide +kernel
theorem dX8_has_13 : decode cX8_has 13 = .ok (.iload_n 2, 1) := by decide +kernel
theorem dX8_has_14 : decode cX8_has 14 = .ok (.tableswitch 56 0 2 #[26, 36, 46], 26) := by decide +kernel
theorem dX8_has_40 : decode cX8_has 40 = .ok (.aload_n 0, 1) := by decide +kernel
theorem dX8_has_41 : decode cX8_has 41 = .ok (.getfield 12, 3) := by decide +kernel
theorem dX8_has_44 : decode cX8_has 44 = .ok (.getfield 170, 3) := by decide +kernel
theorem dX8_has_47 : decode cX8_has 47 = .ok (.iload_n 1, 1) := by decide +kernel
theorem dX8_has_48 : decode cX8_has 48 = .ok (.iaload, 1) := by decide +kernel
theorem dX8_has_49 : decode cX8_has 49 = .ok (.ireturn, 1) := by decide +kernel
theorem dX8_has_50 : decode cX8_has 50 = .ok (.aload_n 0, 1) := by decide +kernel
theorem dX8_has_51 : decode cX8_has 51 = .ok (.getfield 12, 3) := by decide +kernel
theorem dX8_has_54 : decode cX8_has 54 = .ok (.getfield 173, 3) := by decide +kernel
theorem dX8_has_57 : decode cX8_has 57 = .ok (.iload_n 1, 1) := by decide +kernel
theorem dX8_has_58 : decode cX8_has 58 = .ok (.iaload, 1) := by decide +kernel
theorem dX8_has_59 : decode cX8_has 59 = .ok (.ireturn, 1) := by decide +kernel
theorem dX8_has_60 : decode cX8_has 60 = .ok (.aload_n 0, 1) := by decide +kernel
theorem dX8_has_61 : decode cX8_has 61 = .ok (.getfield 12, 3) := by decide +kernel
theorem dX8_has_64 : decode cX8_has 64 = .ok (.getfield 176, 3) := by decide +kernel
theorem dX8_has_67 : decode cX8_has 67 = .ok (.iload_n 1, 1) := by decide +kernel
theorem dX8_has_68 : decode cX8_has 68 = .ok (.iaload, 1) := by decide +kernel
theorem dX8_has_69 : decode cX8_has 69 = .ok (.ireturn, 1) := by decide +kernel
theorem dX8_has_70 : decode cX8_has 70 = .ok (.iconst (-1), 1) := by decide +kernel
theorem dX8_has_71 : decode cX8_has 71 = .ok (.ireturn, 1) := by decide +kernel
theorem dX8_link_0 : decode cX8_link 0 = .ok (.iload_n 1, 1) := by decide +kernel
theorem dX8_link_1 : decode cX8_link 1 = .ok (.iload_n 2, 1) := by decide +kernel
theorem dX8_link_2 : decode cX8_link 2 = .ok (.if_icmp .eq 10, 3) := by decide +kernel
theorem dX8_link_5 : decode cX8_link 5 = .ok (.iload_n 3, 1) := by decide +kernel
theorem dX8_link_6 : decode cX8_link 6 = .ok (.invokestatic 182, 3) := by decide +kernel
theorem dX8_link_9 : decode cX8_link 9 = .ok (.ifCond .ne 9, 3) := by decide +kernel
theorem dX8_link_12 : decode cX8_link 12 = .ok (.aload_n 0, 1) := by decide +kernel
theorem dX8_link_13 : decode cX8_link 13 = .ok (.iconst (-1), 1) := by decide +kernel
theorem dX8_link_14 : decode cX8_link 14 = .ok (.invokevirtual 99, 3) := by decide +kernel
theorem dX8_link_17 : decode cX8_link 17 = .ok (.ireturn, 1) := by decide +kernel
theorem dX8_link_18 : decode cX8_link 18 = .ok (.aload_n 0, 1) := by decide +kernel
theorem dX8_link_19 : decode cX8_link 19 = .ok (.getfield 12, 3) := by decide +kernel
theorem dX8_link_22 : decode cX8_link 22 = .ok (.getfield 103, 3) := by decide +kernel
theorem dX8_link_25 : decode cX8_link 25 = .ok (.iload_n 1, 1) := by decide +kernel
theorem dX8_link_26 : decode cX8_link 26 = .ok (.invokevirtual 122, 3) := by decide +kernel
theorem dX8_link_29 : decode cX8_link 29 = .ok (.ifCond .eq 17, 3) := by decide +kernel
theorem dX8_link_32 : decode cX8_link 32 = .ok (.aload_n 0, 1) := by decide +kernel
theorem dX8_link_33 : decode cX8_link 33 = .ok (.getfield 12, 3) := by decide +kernel
theorem dX8_link_36 : decode cX8_link 36 = .ok (.getfield 103, 3) := by decide +kernel
theorem dX8_link_39 : decode cX8_link 39 = .ok (.iload_n 2, 1) := by decide +kernel
theorem dX8_link_40 : decode cX8_link 40 = .ok (.invokevirtual 122, 3) := by decide +kernel
theorem dX8_link_43 : decode cX8_link 43 = .ok (.ifCond .ne 10, 3) := by decide +kernel
theorem dX8_link_46 : decode cX8_link 46 = .ok (.aload_n 0, 1) := by decide +kernel
theorem dX8_link_47 : decode cX8_link 47 = .ok (.bipush (-2), 2) := by decide +kernel
theorem dX8_link_49 : decode cX8_link 49 = .ok (.invokevirtual 99, 3) := by decide +kernel
theorem dX8_link_52 : decode cX8_link 52 = .ok (.ireturn, 1) := by decide +kernel
theorem dX8_link_53 : decode cX8_link 53 = .ok (.aload_n 0, 1) := by decide +kernel
theorem dX8_link_54 : decode cX8_link 54 = .ok (.getfield 12, 3) := by decide +kernel
theorem dX8_link_57 : decode cX8_link 57 = .ok (.getfield 103, 3) := by decide +kernel
theorem dX8_link_60 : decode cX8_link 60 = .ok (.iload_n 1, 1) := by decide +kernel
theorem dX8_link_61 : decode cX8_link 61 = .ok (.iload_n 2, 1) := by decide +kernel
theorem dX8_link_62 : decode cX8_link 62 = .ok (.invokevirtual 139, 3) := by decide +kernel
theorem dX8_link_65 : decode cX8_link 65 = .ok (.istore 4, 2) := by decide +kernel
theorem dX8_link_67 : decode cX8_link 67 = .ok (.aload_n 0, 1) := by decide +kernel
theorem dX8_link_68 : decode cX8_link 68 = .ok (.getfield 12, 3) := by decide +kernel
theorem dX8_link_71 : decode cX8_link 71 = .ok (.getfield 103, 3) := by decide +kernel
theorem dX8_link_74 : decode cX8_link 74 = .ok (.iload_n 1, 1) := by decide +kernel
theorem dX8_link_75 : decode cX8_link 75 = .ok (.iload_n 2, 1) := by decide +kernel
theorem dX8_link_76 : decode cX8_link 76 = .ok (.iload_n 3, 1) := by decide +kernel
theorem dX8_link_77 : decode cX8_link 77 = .ok (.invokevirtual 185, 3) := by decide +kernel
theorem dX8_link_80 : decode cX8_link 80 = .ok (.aload_n 0, 1) := by decide +kernel
theorem dX8_link_81 : decode cX8_link 81 = .ok (.iload 4, 2) := by decide +kernel
theorem dX8_link_83 : decode cX8_link 83 = .ok (.invokevirtual 119, 3) := by decide +kernel
theorem dX8_link_86 : decode cX8_link 86 = .ok (.ireturn, 1) := by decide +kernel
theorem dX8_room_0 : decode cX8_room 0 = .ok (.iload_n 1, 1) := by decide +kernel
theorem dX8_room_1 : decode cX8_room 1 = .ok (.i2l, 1) := by decide +kernel
theorem dX8_room_2 : decode cX8_room 2 = .ok (.invokestatic 95, 3) := by decide +kernel
theorem dX8_room_5 : decode cX8_room 5 = .ok (.ifCond .ne 5, 3) := by decide +kernel
theorem dX8_room_8 : decode cX8_room 8 = .ok (.iconst (-1), 1) := by decide +kernel
theorem dX8_room_9 : decode cX8_room 9 = .ok (.ireturn, 1) := by decide +kernel
theorem dX8_room_10 : decode cX8_room 10 = .ok (.iload_n 2, 1) := by decide +kernel
theorem dX8_room_11 : decode cX8_room 11 = .ok (.tableswitch 69 0 2 #[25, 50, 60], 25) := by decide +kernel
theorem dX8_room_36 : decode cX8_room 36 = .ok (.aload_n 0, 1) := by decide +kernel
theorem dX8_room_37 : decode cX8_room 37 = .ok (.getfield 12, 3) := by decide +kernel
theorem dX8_room_40 : decode cX8_room 40 = .ok (.aload_n 0, 1) := by decide +kernel
theorem dX8_room_41 : decode cX8_room 41 = .ok (.getfield 12, 3) := by decide +kernel
theorem dX8_room_44 : decode cX8_room 44 = .ok (.invokevirtual 189, 3) := by decide +kernel
theorem dX8_room_47 : decode cX8_room 47 = .ok (.iload_n 1, 1) := by decide +kernel
theorem dX8_room_48 : decode cX8_room 48 = .ok (.aload_n 0, 1) := by decide +kernel
theorem dX8_room_49 : decode cX8_room 49 = .ok (.getfield 12, 3) := by decide +kernel
theorem dX8_room_52 : decode cX8_room 52 = .ok (.getfield 132, 3) := by decide +kernel
theorem dX8_room_55 : decode cX8_room 55 = .ok (.iconst 0, 1) := by decide +kernel
theorem dX8_room_56 : decode cX8_room 56 = .ok (.iaload, 1) := by decide +kernel
theorem dX8_room_57 : decode cX8_room 57 = .ok (.invokevirtual 193, 3) := by decide +kernel
theorem dX8_room_60 : decode cX8_room 60 = .ok (.ireturn, 1) := by decide +kernel
theorem dX8_room_61 : decode cX8_room 61 = .ok (.aload_n 0, 1) := by decide +kernel
theorem dX8_room_62 : decode cX8_room 62 = .ok (.getfield 12, 3) := by decide +kernel
theorem dX8_room_65 : decode cX8_room 65 = .ok (.getfield 197, 3) := by decide +kernel
theorem dX8_room_68 : decode cX8_room 68 = .ok (.iload_n 1, 1) := by decide +kernel
theorem dX8_room_69 : decode cX8_room 69 = .ok (.iaload, 1) := by decide +kernel
theorem dX8_room_70 : decode cX8_room 70 = .ok (.ireturn, 1) := by decide +kernel
theorem dX8_room_71 : decode cX8_room 71 = .ok (.aload_n 0, 1) := by decide +kernel
theorem dX8_room_72 : decode cX8_room 72 = .ok (.getfield 12, 3) := by decide +kernel
theorem dX8_room_75 : decode cX8_room 75 = .ok (.iload_n 1, 1) := by decide +kernel
theorem dX8_room_76 : decode cX8_room 76 = .ok (.invokevirtual 200, 3) := by decide +kernel
theorem dX8_room_79 : decode cX8_room 79 = .ok (.ireturn, 1) := by decide +kernel
theorem dX8_room_80 : decode cX8_room 80 = .ok (.iconst (-1), 1) := by decide +kernel
theorem dX8_room_81 : decode cX8_room 81 = .ok (.ireturn, 1) := by decide +kernel
theorem dX8_can_0 : decode cX8_can 0 = .ok (.aload_n 0, 1) := by decide +kernel
theorem dX8_can_1 : decode cX8_can 1 = .ok (.getfield 12, 3) := by decide +kernel
theorem dX8_can_4 : decode cX8_can 4 = .ok (.iload_n 1, 1) := by decide +kernel
theorem dX8_can_5 : decode cX8_can 5 = .ok (.invokevirtual 151, 3) := by decide +kernel
theorem dX8_can_8 : decode cX8_can 8 = .ok (.ifCond .eq 17, 3) := by decide +kernel
theorem dX8_can_11 : decode cX8_can 11 = .ok (.aload_n 0, 1) := by decide +kernel
theorem dX8_can_12 : decode cX8_can 12 = .ok (.getfield 12, 3) := by decide +kernel
theorem dX8_can_15 : decode cX8_can 15 = .ok (.getfield 103, 3) := by decide +kernel
theorem dX8_can_18 : decode cX8_can 18 = .ok (.iload_n 2, 1) := by decide +kernel
theorem dX8_can_19 : decode cX8_can 19 = .ok (.invokevirtual 122, 3) := by decide +kernel
theorem dX8_can_22 : decode cX8_can 22 = .ok (.ifCond .ne 5, 3) := by decide +kernel
theorem dX8_can_25 : decode cX8_can 25 = .ok (.iconst (-1), 1) := by decide +kernel
theorem dX8_can_26 : decode cX8_can 26 = .ok (.ireturn, 1) := by decide +kernel
theorem dX8_can_27 : decode cX8_can 27 = .ok (.aload_n 0, 1) := by decide +kernel
theorem dX8_can_28 : decode cX8_can 28 = .ok (.getfield 12, 3) := by decide +kernel
theorem dX8_can_31 : decode cX8_can 31 = .ok (.iload_n 1, 1) := by decide +kernel
theorem dX8_can_32 : decode cX8_can 32 = .ok (.iload_n 2, 1) := by decide +kernel
theorem dX8_can_33 : decode cX8_can 33 = .ok (.invokevirtual 203, 3) := by decide +kernel
theorem dX8_can_36 : decode cX8_can 36 = .ok (.ifCond .eq 7, 3) := by decide +kernel
theorem dX8_can_39 : decode cX8_can 39 = .ok (.iconst 1, 1) := by decide +kernel
theorem dX8_can_40 : decode cX8_can 40 = .ok (.goto 4, 3) := by decide +kernel
theorem dX8_can_43 : decode cX8_can 43 = .ok (.iconst 0, 1) := by decide +kernel
theorem dX8_can_44 : decode cX8_can 44 = .ok (.ireturn, 1) := by decide +kernel
theorem dX8_terms_0 : decode cX8_terms 0 = .ok (.iload_n 1, 1) := by decide +kernel
theorem dX8_terms_1 : decode cX8_terms 1 = .ok (.ifCond .lt 20, 3) := by decide +kernel
theorem dX8_terms_4 : decode cX8_terms 4 = .ok (.iload_n 1, 1) := by decide +kernel
theorem dX8_terms_5 : decode cX8_terms 5 = .ok (.iconst 3, 1) := by decide +kernel
theorem dX8_terms_6 : decode cX8_terms 6 = .ok (.if_icmp .ge 15, 3) := by decide +kernel
theorem dX8_terms_9 : decode cX8_terms 9 = .ok (.iload_n 2, 1) := by decide +kernel
theorem dX8_terms_10 : decode cX8_terms 10 = .ok (.ifCond .lt 11, 3) := by decide +kernel
theorem dX8_terms_13 : decode cX8_terms 13 = .ok (.iload_n 2, 1) := by decide +kernel
theorem dX8_terms_14 : decode cX8_terms 14 = .ok (.iload_n 1, 1) := by decide +kernel
theorem dX8_terms_15 : decode cX8_terms 15 = .ok (.invokestatic 206, 3) := by decide +kernel
theorem dX8_terms_18 : decode cX8_terms 18 = .ok (.if_icmp .le 9, 3) := by decide +kernel
theorem dX8_terms_21 : decode cX8_terms 21 = .ok (.aload_n 0, 1) := by decide +kernel
theorem dX8_terms_22 : decode cX8_terms 22 = .ok (.iconst (-1), 1) := by decide +kernel
theorem dX8_terms_23 : decode cX8_terms 23 = .ok (.invokevirtual 99, 3) := by decide +kernel
theorem dX8_terms_26 : decode cX8_terms 26 = .ok (.ireturn, 1) := by decide +kernel
theorem dX8_terms_27 : decode cX8_terms 27 = .ok (.aload_n 0, 1) := by decide +kernel
theorem dX8_terms_28 : decode cX8_terms 28 = .ok (.getfield 12, 3) := by decide +kernel
theorem dX8_terms_31 : decode cX8_terms 31 = .ok (.getfield 132, 3) := by decide +kernel
theorem dX8_terms_34 : decode cX8_terms 34 = .ok (.iload_n 1, 1) := by decide +kernel
theorem dX8_terms_35 : decode cX8_terms 35 = .ok (.iaload, 1) := by decide +kernel
theorem dX8_terms_36 : decode cX8_terms 36 = .ok (.istore_n 3, 1) := by decide +kernel
theorem dX8_terms_37 : decode cX8_terms 37 = .ok (.aload_n 0, 1) := by decide +kernel
theorem dX8_terms_38 : decode cX8_terms 38 = .ok (.getfield 12, 3) := by decide +kernel
theorem dX8_terms_41 : decode cX8_terms 41 = .ok (.getfield 132, 3) := by decide +kernel
theorem dX8_terms_44 : decode cX8_terms 44 = .ok (.iload_n 1, 1) := by decide +kernel
theorem dX8_terms_45 : decode cX8_terms 45 = .ok (.iload_n 2, 1) := by decide +kernel
theorem dX8_terms_46 : decode cX8_terms 46 = .ok (.iastore, 1) := by decide +kernel
theorem dX8_terms_47 : decode cX8_terms 47 = .ok (.aload_n 0, 1) := by decide +kernel
theorem dX8_terms_48 : decode cX8_terms 48 = .ok (.getfield 54, 3) := by decide +kernel
theorem dX8_terms_51 : decode cX8_terms 51 = .ok (.invokevirtual 112, 3) := by decide +kernel
theorem dX8_terms_54 : decode cX8_terms 54 = .ok (.aload_n 0, 1) := by decide +kernel
theorem dX8_terms_55 : decode cX8_terms 55 = .ok (.iload_n 3, 1) := by decide +kernel
theorem dX8_terms_56 : decode cX8_terms 56 = .ok (.invokevirtual 119, 3) := by decide +kernel
theorem dX8_terms_59 : decode cX8_terms 59 = .ok (.ireturn, 1) := by decide +kernel
theorem dX8_mostOfTerm_0 : decode cX8_mostOfTerm 0 = .ok (.iload_n 0, 1) := by decide +kernel
theorem dX8_mostOfTerm_1 : decode cX8_mostOfTerm 1 = .ok (.lookupswitch 34 #[(0, 27), (1, 31)], 27) := by decide +kernel
theorem dX8_mostOfTerm_28 : decode cX8_mostOfTerm 28 = .ok (.sipush 999, 3) := by decide +kernel
theorem dX8_mostOfTerm_31 : decode cX8_mostOfTerm 31 = .ok (.ireturn, 1) := by decide +kernel
theorem dX8_mostOfTerm_32 : decode cX8_mostOfTerm 32 = .ok (.bipush 10, 2) := by decide +kernel
theorem dX8_mostOfTerm_34 : decode cX8_mostOfTerm 34 = .ok (.ireturn, 1) := by decide +kernel
theorem dX8_mostOfTerm_35 : decode cX8_mostOfTerm 35 = .ok (.bipush 9, 2) := by decide +kernel
theorem dX8_mostOfTerm_37 : decode cX8_mostOfTerm 37 = .ok (.ireturn, 1) := by decide +kernel
theorem dX8_feed_0 : decode cX8_feed 0 = .ok (.aload_n 0, 1) := by decide +kernel
theorem dX8_feed_1 : decode cX8_feed 1 = .ok (.getfield 33, 3) := by decide +kernel
theorem dX8_feed_4 : decode cX8_feed 4 = .ok (.bipush 20, 2) := by decide +kernel
theorem dX8_feed_6 : decode cX8_feed 6 = .ok (.invokevirtual 209, 3) := by decide +kernel
theorem dX8_feed_9 : decode cX8_feed 9 = .ok (.ifCond .ne 5, 3) := by decide +kernel
theorem dX8_feed_12 : decode cX8_feed 12 = .ok (.iconst (-1), 1) := by decide +kernel
theorem dX8_feed_13 : decode cX8_feed 13 = .ok (.ireturn, 1) := by decide +kernel
theorem dX8_feed_14 : decode cX8_feed 14 = .ok (.aload_n 0, 1) := by decide +kernel
theorem dX8_feed_15 : decode cX8_feed 15 = .ok (.getfield 33, 3) := by decide +kernel
theorem dX8_feed_18 : decode cX8_feed 18 = .ok (.iload_n 1, 1) := by decide +kernel
theorem dX8_feed_19 : decode cX8_feed 19 = .ok (.invokevirtual 212, 3) := by decide +kernel
theorem dX8_feed_22 : decode cX8_feed 22 = .ok (.aload_n 0, 1) := by decide +kernel
theorem dX8_feed_23 : decode cX8_feed 23 = .ok (.getfield 33, 3) := by decide +kernel
theorem dX8_feed_26 : decode cX8_feed 26 = .ok (.iload_n 2, 1) := by decide +kernel
theorem dX8_feed_27 : decode cX8_feed 27 = .ok (.invokevirtual 212, 3) := by decide +kernel
theorem dX8_feed_30 : decode cX8_feed 30 = .ok (.aload_n 0, 1) := by decide +kernel
theorem dX8_feed_31 : decode cX8_feed 31 = .ok (.getfield 33, 3) := by decide +kernel
theorem dX8_feed_34 : decode cX8_feed 34 = .ok (.iload_n 3, 1) := by decide +kernel
theorem dX8_feed_35 : decode cX8_feed 35 = .ok (.invokevirtual 212, 3) := by decide +kernel
theorem dX8_feed_38 : decode cX8_feed 38 = .ok (.aload_n 0, 1) := by decide +kernel
theorem dX8_feed_39 : decode cX8_feed 39 = .ok (.getfield 33, 3) := by decide +kernel
theorem dX8_feed_42 : decode cX8_feed 42 = .ok (.iload 4, 2) := by decide +kernel
theorem dX8_feed_44 : decode cX8_feed 44 = .ok (.invokevirtual 212, 3) := by decide +kernel
theorem dX8_feed_47 : decode cX8_feed 47 = .ok (.aload_n 0, 1) := by decide +kernel
theorem dX8_feed_48 : decode cX8_feed 48 = .ok (.getfield 33, 3) := by decide +kernel
theorem dX8_feed_51 : decode cX8_feed 51 = .ok (.iload 5, 2) := by decide +kernel
theorem dX8_feed_53 : decode cX8_feed 53 = .ok (.invokevirtual 212, 3) := by decide +kernel
theorem dX8_feed_56 : decode cX8_feed 56 = .ok (.aload_n 0, 1) := by decide +kernel
theorem dX8_feed_57 : decode cX8_feed 57 = .ok (.getfield 33, 3) := by decide +kernel
theorem dX8_feed_60 : decode cX8_feed 60 = .ok (.getfield 216, 3) := by decide +kernel
theorem dX8_feed_63 : decode cX8_feed 63 = .ok (.ireturn, 1) := by decide +kernel
theorem dX8_end_0 : decode cX8_end 0 = .ok (.iload_n 1, 1) := by decide +kernel
theorem dX8_end_1 : decode cX8_end 1 = .ok (.ifCond .lt 14, 3) := by decide +kernel
theorem dX8_end_4 : decode cX8_end 4 = .ok (.iload_n 1, 1) := by decide +kernel
theorem dX8_end_5 : decode cX8_end 5 = .ok (.aload_n 0, 1) := by decide +kernel
theorem dX8_end_6 : decode cX8_end 6 = .ok (.getfield 33, 3) := by decide +kernel
theorem dX8_end_9 : decode cX8_end 9 = .ok (.getfield 216, 3) := by decide +kernel
theorem dX8_end_12 : decode cX8_end 12 = .ok (.if_icmp .le 5, 3) := by decide +kernel
theorem dX8_end_15 : decode cX8_end 15 = .ok (.iconst (-1), 1) := by decide +kernel
theorem dX8_end_16 : decode cX8_end 16 = .ok (.ireturn, 1) := by decide +kernel
theorem dX8_end_17 : decode cX8_end 17 = .ok (.aload_n 0, 1) := by decide +kernel
theorem dX8_end_18 : decode cX8_end 18 = .ok (.getfield 33, 3) := by decide +kernel
theorem dX8_end_21 : decode cX8_end 21 = .ok (.iload_n 1, 1) := by decide +kernel
theorem dX8_end_22 : decode cX8_end 22 = .ok (.putfield 216, 3) := by decide +kernel
theorem dX8_end_25 : decode cX8_end 25 = .ok (.iload_n 1, 1) := by decide +kernel
theorem dX8_end_26 : decode cX8_end 26 = .ok (.ireturn, 1) := by decide +kernel
theorem dX8_row_0 : decode cX8_row 0 = .ok (.aload_n 0, 1) := by decide +kernel
theorem dX8_row_1 : decode cX8_row 1 = .ok (.getfield 33, 3) := by decide +kernel
theorem dX8_row_4 : decode cX8_row 4 = .ok (.getfield 216, 3) := by decide +kernel
theorem dX8_row_7 : decode cX8_row 7 = .ok (.istore_n 1, 1) := by decide +kernel
theorem dX8_row_8 : decode cX8_row 8 = .ok (.aload_n 0, 1) := by decide +kernel
theorem dX8_row_9 : decode cX8_row 9 = .ok (.getfield 33, 3) := by decide +kernel
theorem dX8_row_12 : decode cX8_row 12 = .ok (.iconst 0, 1) := by decide +kernel
theorem dX8_row_13 : decode cX8_row 13 = .ok (.putfield 216, 3) := by decide +kernel
theorem dX8_row_16 : decode cX8_row 16 = .ok (.iload_n 1, 1) := by decide +kernel
theorem dX8_row_17 : decode cX8_row 17 = .ok (.ifCond .ne 10, 3) := by decide +kernel
theorem dX8_row_20 : decode cX8_row 20 = .ok (.aload_n 0, 1) := by decide +kernel
theorem dX8_row_21 : decode cX8_row 21 = .ok (.bipush (-6), 2) := by decide +kernel
theorem dX8_row_23 : decode cX8_row 23 = .ok (.invokevirtual 99, 3) := by decide +kernel
theorem dX8_row_26 : decode cX8_row 26 = .ok (.ireturn, 1) := by decide +kernel
theorem dX8_row_27 : decode cX8_row 27 = .ok (.iconst 0, 1) := by decide +kernel
theorem dX8_row_28 : decode cX8_row 28 = .ok (.istore_n 2, 1) := by decide +kernel
theorem dX8_row_29 : decode cX8_row 29 = .ok (.iconst 0, 1) := by decide +kernel
theorem dX8_row_30 : decode cX8_row 30 = .ok (.istore_n 3, 1) := by decide +kernel
theorem dX8_row_31 : decode cX8_row 31 = .ok (.iload_n 3, 1) := by decide +kernel
theorem dX8_row_32 : decode cX8_row 32 = .ok (.iconst 2, 1) := by decide +kernel
theorem dX8_row_33 : decode cX8_row 33 = .ok (.iadd, 1) := by decide +kernel
theorem dX8_row_34 : decode cX8_row 34 = .ok (.iload_n 1, 1) := by decide +kernel
theorem dX8_row_35 : decode cX8_row 35 = .ok (.if_icmp .ge 47, 3) := by decide +kernel
theorem dX8_row_38 : decode cX8_row 38 = .ok (.aload_n 0, 1) := by decide +kernel
theorem dX8_row_39 : decode cX8_row 39 = .ok (.aload_n 0, 1) := by decide +kernel
theorem dX8_row_40 : decode cX8_row 40 = .ok (.getfield 33, 3) := by decide +kernel
theorem dX8_row_43 : decode cX8_row 43 = .ok (.iload_n 3, 1) := by decide +kernel
theorem dX8_row_44 : decode cX8_row 44 = .ok (.invokevirtual 219, 3) := by decide +kernel
theorem dX8_row_47 : decode cX8_row 47 = .ok (.aload_n 0, 1) := by decide +kernel
theorem dX8_row_48 : decode cX8_row 48 = .ok (.getfield 33, 3) := by decide +kernel
theorem dX8_row_51 : decode cX8_row 51 = .ok (.iload_n 3, 1) := by decide +kernel
theorem dX8_row_52 : decode cX8_row 52 = .ok (.iconst 1, 1) := by decide +kernel
theorem dX8_row_53 : decode cX8_row 53 = .ok (.iadd, 1) := by decide +kernel
theorem dX8_row_54 : decode cX8_row 54 = .ok (.invokevirtual 219, 3) := by decide +kernel
theorem dX8_row_57 : decode cX8_row 57 = .ok (.aload_n 0, 1) := by decide +kernel
theorem dX8_row_58 : decode cX8_row 58 = .ok (.getfield 33, 3) := by decide +kernel
theorem dX8_row_61 : decode cX8_row 61 = .ok (.iload_n 3, 1) := by decide +kernel
theorem dX8_row_62 : decode cX8_row 62 = .ok (.iconst 2, 1) := by decide +kernel
theorem dX8_row_63 : decode cX8_row 63 = .ok (.iadd, 1) := by decide +kernel
theorem dX8_row_64 : decode cX8_row 64 = .ok (.invokevirtual 219, 3) := by decide +kernel
theorem dX8_row_67 : decode cX8_row 67 = .ok (.invokevirtual 222, 3) := by decide +kernel
theorem dX8_row_70 : decode cX8_row 70 = .ok (.ifCond .eq 6, 3) := by decide +kernel
theorem dX8_row_73 : decode cX8_row 73 = .ok (.iinc 2 1, 3) := by decide +kernel
theorem dX8_row_76 : decode cX8_row 76 = .ok (.iinc 3 3, 3) := by decide +kernel
theorem dX8_row_79 : decode cX8_row 79 = .ok (.goto (-48), 3) := by decide +kernel
theorem dX8_row_82 : decode cX8_row 82 = .ok (.aload_n 0, 1) := by decide +kernel
theorem dX8_row_83 : decode cX8_row 83 = .ok (.iload_n 1, 1) := by decide +kernel
theorem dX8_row_84 : decode cX8_row 84 = .ok (.iconst 2, 1) := by decide +kernel
theorem dX8_row_85 : decode cX8_row 85 = .ok (.iadd, 1) := by decide +kernel
theorem dX8_row_86 : decode cX8_row 86 = .ok (.iconst 3, 1) := by decide +kernel
theorem dX8_row_87 : decode cX8_row 87 = .ok (.idiv, 1) := by decide +kernel
theorem dX8_row_88 : decode cX8_row 88 = .ok (.iload_n 2, 1) := by decide +kernel
theorem dX8_row_89 : decode cX8_row 89 = .ok (.isub, 1) := by decide +kernel
theorem dX8_row_90 : decode cX8_row 90 = .ok (.putfield 86, 3) := by decide +kernel
theorem dX8_row_93 : decode cX8_row 93 = .ok (.aload_n 0, 1) := by decide +kernel
theorem dX8_row_94 : decode cX8_row 94 = .ok (.iload_n 2, 1) := by decide +kernel
theorem dX8_row_95 : decode cX8_row 95 = .ok (.invokevirtual 119, 3) := by decide +kernel
theorem dX8_row_98 : decode cX8_row 98 = .ok (.ireturn, 1) := by decide +kernel
theorem dX8_linkedByRow_0 : decode cX8_linkedByRow 0 = .ok (.iload_n 1, 1) := by decide +kernel
theorem dX8_linkedByRow_1 : decode cX8_linkedByRow 1 = .ok (.iload_n 2, 1) := by decide +kernel
theorem dX8_linkedByRow_2 : decode cX8_linkedByRow 2 = .ok (.if_icmp .eq 38, 3) := by decide +kernel
theorem dX8_linkedByRow_5 : decode cX8_linkedByRow 5 = .ok (.iload_n 3, 1) := by decide +kernel
theorem dX8_linkedByRow_6 : decode cX8_linkedByRow 6 = .ok (.invokestatic 182, 3) := by decide +kernel
theorem dX8_linkedByRow_9 : decode cX8_linkedByRow 9 = .ok (.ifCond .eq 31, 3) := by decide +kernel
theorem dX8_linkedByRow_12 : decode cX8_linkedByRow 12 = .ok (.aload_n 0, 1) := by decide +kernel
theorem dX8_linkedByRow_13 : decode cX8_linkedByRow 13 = .ok (.getfield 12, 3) := by decide +kernel
theorem dX8_linkedByRow_16 : decode cX8_linkedByRow 16 = .ok (.getfield 103, 3) := by decide +kernel
theorem dX8_linkedByRow_19 : decode cX8_linkedByRow 19 = .ok (.iload_n 1, 1) := by decide +kernel
theorem dX8_linkedByRow_20 : decode cX8_linkedByRow 20 = .ok (.invokevirtual 122, 3) := by decide +kernel
theorem dX8_linkedByRow_23 : decode cX8_linkedByRow 23 = .ok (.ifCond .eq 17, 3) := by decide +kernel
theorem dX8_linkedByRow_26 : decode cX8_linkedByRow 26 = .ok (.aload_n 0, 1) := by decide +kernel
theorem dX8_linkedByRow_27 : decode cX8_linkedByRow 27 = .ok (.getfield 12, 3) := by decide +kernel
theorem dX8_linkedByRow_30 : decode cX8_linkedByRow 30 = .ok (.getfield 103, 3) := by decide +kernel
theorem dX8_linkedByRow_33 : decode cX8_linkedByRow 33 = .ok (.iload_n 2, 1) := by decide +kernel
theorem dX8_linkedByRow_34 : decode cX8_linkedByRow 34 = .ok (.invokevirtual 122, 3) := by decide +kernel
theorem dX8_linkedByRow_37 : decode cX8_linkedByRow 37 = .ok (.ifCond .ne 5, 3) := by decide +kernel
theorem dX8_linkedByRow_40 : decode cX8_linkedByRow 40 = .ok (.iconst 0, 1) := by decide +kernel
theorem dX8_linkedByRow_41 : decode cX8_linkedByRow 41 = .ok (.ireturn, 1) := by decide +kernel
theorem dX8_linkedByRow_42 : decode cX8_linkedByRow 42 = .ok (.aload_n 0, 1) := by decide +kernel
theorem dX8_linkedByRow_43 : decode cX8_linkedByRow 43 = .ok (.getfield 12, 3) := by decide +kernel
theorem dX8_linkedByRow_46 : decode cX8_linkedByRow 46 = .ok (.getfield 103, 3) := by decide +kernel
theorem dX8_linkedByRow_49 : decode cX8_linkedByRow 49 = .ok (.iload_n 1, 1) := by decide +kernel
theorem dX8_linkedByRow_50 : decode cX8_linkedByRow 50 = .ok (.iload_n 2, 1) := by decide +kernel
theorem dX8_linkedByRow_51 : decode cX8_linkedByRow 51 = .ok (.iload_n 3, 1) := by decide +kernel
theorem dX8_linkedByRow_52 : decode cX8_linkedByRow 52 = .ok (.invokevirtual 185, 3) := by decide +kernel
theorem dX8_linkedByRow_55 : decode cX8_linkedByRow 55 = .ok (.iconst 1, 1) := by decide +kernel
theorem dX8_linkedByRow_56 : decode cX8_linkedByRow 56 = .ok (.ireturn, 1) := by decide +kernel
theorem dX8_scratches_0 : decode cX8_scratches 0 = .ok (.aload_n 0, 1) := by decide +kernel
theorem dX8_scratches_1 : decode cX8_scratches 1 = .ok (.getfield 86, 3) := by decide +kernel
theorem dX8_scratches_4 : decode cX8_scratches 4 = .ok (.ireturn, 1) := by decide +kernel
theorem dX8_law_0 : decode cX8_law 0 = .ok (.aload_n 0, 1) := by decide +kernel
theorem dX8_law_1 : decode cX8_law 1 = .ok (.getfield 33, 3) := by decide +kernel
theorem dX8_law_4 : decode cX8_law 4 = .ok (.getfield 216, 3) := by decide +kernel
theorem dX8_law_7 : decode cX8_law 7 = .ok (.istore_n 1, 1) := by decide +kernel
theorem dX8_law_8 : decode cX8_law 8 = .ok (.aload_n 0, 1) := by decide +kernel
theorem dX8_law_9 : decode cX8_law 9 = .ok (.getfield 33, 3) := by decide +kernel
theorem dX8_law_12 : decode cX8_law 12 = .ok (.iconst 0, 1) := by decide +kernel
theorem dX8_law_13 : decode cX8_law 13 = .ok (.putfield 216, 3) := by decide +kernel
theorem dX8_law_16 : decode cX8_law 16 = .ok (.aload_n 0, 1) := by decide +kernel
theorem dX8_law_17 : decode cX8_law 17 = .ok (.getfield 12, 3) := by decide +kernel
theorem dX8_law_20 : decode cX8_law 20 = .ok (.getfield 226, 3) := by decide +kernel
theorem dX8_law_23 : decode cX8_law 23 = .ok (.istore_n 2, 1) := by decide +kernel
theorem dX8_law_24 : decode cX8_law 24 = .ok (.iload_n 2, 1) := by decide +kernel
theorem dX8_law_25 : decode cX8_law 25 = .ok (.ifCond .lt 9, 3) := by decide +kernel
theorem dX8_law_28 : decode cX8_law 28 = .ok (.iload_n 2, 1) := by decide +kernel
theorem dX8_law_29 : decode cX8_law 29 = .ok (.bipush 6, 2) := by decide +kernel
theorem dX8_law_31 : decode cX8_law 31 = .ok (.if_icmp .lt 10, 3) := by decide +kernel
theorem dX8_law_34 : decode cX8_law 34 = .ok (.aload_n 0, 1) := by decide +kernel
theorem dX8_law_35 : decode cX8_law 35 = .ok (.bipush (-5), 2) := by decide +kernel
theorem dX8_law_37 : decode cX8_law 37 = .ok (.invokevirtual 99, 3) := by decide +kernel
theorem dX8_law_40 : decode cX8_law 40 = .ok (.ireturn, 1) := by decide +kernel
theorem dX8_law_41 : decode cX8_law 41 = .ok (.aload_n 0, 1) := by decide +kernel
theorem dX8_law_42 : decode cX8_law 42 = .ok (.getfield 40, 3) := by decide +kernel
theorem dX8_law_45 : decode cX8_law 45 = .ok (.aload_n 0, 1) := by decide +kernel
theorem dX8_law_46 : decode cX8_law 46 = .ok (.getfield 33, 3) := by decide +kernel
theorem dX8_law_49 : decode cX8_law 49 = .ok (.iload_n 1, 1) := by decide +kernel
theorem dX8_law_50 : decode cX8_law 50 = .ok (.iconst 1, 1) := by decide +kernel
theorem dX8_law_51 : decode cX8_law 51 = .ok (.invokevirtual 229, 3) := by decide +kernel
theorem dX8_law_54 : decode cX8_law 54 = .ok (.astore_n 3, 1) := by decide +kernel
theorem dX8_law_55 : decode cX8_law 55 = .ok (.aload_n 0, 1) := by decide +kernel
theorem dX8_law_56 : decode cX8_law 56 = .ok (.aload_n 0, 1) := by decide +kernel
theorem dX8_law_57 : decode cX8_law 57 = .ok (.getfield 40, 3) := by decide +kernel
theorem dX8_law_60 : decode cX8_law 60 = .ok (.getfield 233, 3) := by decide +kernel
theorem dX8_law_63 : decode cX8_law 63 = .ok (.putfield 83, 3) := by decide +kernel
theorem dX8_law_66 : decode cX8_law 66 = .ok (.aload_n 3, 1) := by decide +kernel
theorem dX8_law_67 : decode cX8_law 67 = .ok (.ifnonnull 10, 3) := by decide +kernel
theorem dX8_law_70 : decode cX8_law 70 = .ok (.aload_n 0, 1) := by decide +kernel
theorem dX8_law_71 : decode cX8_law 71 = .ok (.bipush (-6), 2) := by decide +kernel
theorem dX8_law_73 : decode cX8_law 73 = .ok (.invokevirtual 99, 3) := by decide +kernel
theorem dX8_law_76 : decode cX8_law 76 = .ok (.ireturn, 1) := by decide +kernel
theorem dX8_law_77 : decode cX8_law 77 = .ok (.aload_n 0, 1) := by decide +kernel
theorem dX8_law_78 : decode cX8_law 78 = .ok (.getfield 12, 3) := by decide +kernel
theorem dX8_law_81 : decode cX8_law 81 = .ok (.getfield 236, 3) := by decide +kernel
theorem dX8_law_84 : decode cX8_law 84 = .ok (.iload_n 2, 1) := by decide +kernel
theorem dX8_law_85 : decode cX8_law 85 = .ok (.aload_n 3, 1) := by decide +kernel
theorem dX8_law_86 : decode cX8_law 86 = .ok (.aastore, 1) := by decide +kernel
theorem dX8_law_87 : decode cX8_law 87 = .ok (.aload_n 0, 1) := by decide +kernel
theorem dX8_law_88 : decode cX8_law 88 = .ok (.getfield 12, 3) := by decide +kernel
theorem dX8_law_91 : decode cX8_law 91 = .ok (.iload_n 2, 1) := by decide +kernel
theorem dX8_law_92 : decode cX8_law 92 = .ok (.iconst 1, 1) := by decide +kernel
theorem dX8_law_93 : decode cX8_law 93 = .ok (.iadd, 1) := by decide +kernel
theorem dX8_law_94 : decode cX8_law 94 = .ok (.putfield 226, 3) := by decide +kernel
theorem dX8_law_97 : decode cX8_law 97 = .ok (.aload_n 0, 1) := by decide +kernel
theorem dX8_law_98 : decode cX8_law 98 = .ok (.iload_n 2, 1) := by decide +kernel
theorem dX8_law_99 : decode cX8_law 99 = .ok (.invokevirtual 119, 3) := by decide +kernel
theorem dX8_law_102 : decode cX8_law 102 = .ok (.ireturn, 1) := by decide +kernel
theorem dX8_orders_0 : decode cX8_orders 0 = .ok (.aload_n 0, 1) := by decide +kernel
theorem dX8_orders_1 : decode cX8_orders 1 = .ok (.getfield 33, 3) := by decide +kernel
theorem dX8_orders_4 : decode cX8_orders 4 = .ok (.getfield 216, 3) := by decide +kernel
theorem dX8_orders_7 : decode cX8_orders 7 = .ok (.istore_n 1, 1) := by decide +kernel
theorem dX8_orders_8 : decode cX8_orders 8 = .ok (.aload_n 0, 1) := by decide +kernel
theorem dX8_orders_9 : decode cX8_orders 9 = .ok (.getfield 33, 3) := by decide +kernel
theorem dX8_orders_12 : decode cX8_orders 12 = .ok (.iconst 0, 1) := by decide +kernel
theorem dX8_orders_13 : decode cX8_orders 13 = .ok (.putfield 216, 3) := by decide +kernel
theorem dX8_orders_16 : decode cX8_orders 16 = .ok (.aload_n 0, 1) := by decide +kernel
theorem dX8_orders_17 : decode cX8_orders 17 = .ok (.iconst (-1), 1) := by decide +kernel
theorem dX8_orders_18 : decode cX8_orders 18 = .ok (.putfield 89, 3) := by decide +kernel
theorem dX8_orders_21 : decode cX8_orders 21 = .ok (.aload_n 0, 1) := by decide +kernel
theorem dX8_orders_22 : decode cX8_orders 22 = .ok (.getfield 40, 3) := by decide +kernel
theorem dX8_orders_25 : decode cX8_orders 25 = .ok (.aload_n 0, 1) := by decide +kernel
theorem dX8_orders_26 : decode cX8_orders 26 = .ok (.getfield 33, 3) := by decide +kernel
theorem dX8_orders_29 : decode cX8_orders 29 = .ok (.iload_n 1, 1) := by decide +kernel
theorem dX8_orders_30 : decode cX8_orders 30 = .ok (.iconst 0, 1) := by decide +kernel
theorem dX8_orders_31 : decode cX8_orders 31 = .ok (.invokevirtual 229, 3) := by decide +kernel
theorem dX8_orders_34 : decode cX8_orders 34 = .ok (.astore_n 2, 1) := by decide +kernel
theorem dX8_orders_35 : decode cX8_orders 35 = .ok (.aload_n 0, 1) := by decide +kernel
theorem dX8_orders_36 : decode cX8_orders 36 = .ok (.aload_n 0, 1) := by decide +kernel
theorem dX8_orders_37 : decode cX8_orders 37 = .ok (.getfield 40, 3) := by decide +kernel
theorem dX8_orders_40 : decode cX8_orders 40 = .ok (.getfield 233, 3) := by decide +kernel
theorem dX8_orders_43 : decode cX8_orders 43 = .ok (.putfield 83, 3) := by decide +kernel
theorem dX8_orders_46 : decode cX8_orders 46 = .ok (.aload_n 2, 1) := by decide +kernel
theorem dX8_orders_47 : decode cX8_orders 47 = .ok (.ifnonnull 10, 3) := by decide +kernel
theorem dX8_orders_50 : decode cX8_orders 50 = .ok (.aload_n 0, 1) := by decide +kernel
theorem dX8_orders_51 : decode cX8_orders 51 = .ok (.bipush (-6), 2) := by decide +kernel
theorem dX8_orders_53 : decode cX8_orders 53 = .ok (.invokevirtual 99, 3) := by decide +kernel
theorem dX8_orders_56 : decode cX8_orders 56 = .ok (.ireturn, 1) := by decide +kernel
theorem dX8_orders_57 : decode cX8_orders 57 = .ok (.aload_n 0, 1) := by decide +kernel
theorem dX8_orders_58 : decode cX8_orders 58 = .ok (.getfield 16, 3) := by decide +kernel
theorem dX8_orders_61 : decode cX8_orders 61 = .ok (.aload_n 0, 1) := by decide +kernel
theorem dX8_orders_62 : decode cX8_orders 62 = .ok (.getfield 12, 3) := by decide +kernel
theorem dX8_orders_65 : decode cX8_orders 65 = .ok (.invokevirtual 240, 3) := by decide +kernel
theorem dX8_orders_68 : decode cX8_orders 68 = .ok (.aload_n 0, 1) := by decide +kernel
theorem dX8_orders_69 : decode cX8_orders 69 = .ok (.getfield 58, 3) := by decide +kernel
theorem dX8_orders_72 : decode cX8_orders 72 = .ok (.aload_n 0, 1) := by decide +kernel
theorem dX8_orders_73 : decode cX8_orders 73 = .ok (.getfield 54, 3) := by decide +kernel
theorem dX8_orders_76 : decode cX8_orders 76 = .ok (.invokevirtual 244, 3) := by decide +kernel
theorem dX8_orders_79 : decode cX8_orders 79 = .ok (.aload_n 0, 1) := by decide +kernel
theorem dX8_orders_80 : decode cX8_orders 80 = .ok (.iconst 0, 1) := by decide +kernel
theorem dX8_orders_81 : decode cX8_orders 81 = .ok (.putfield 76, 3) := by decide +kernel
theorem dX8_orders_84 : decode cX8_orders 84 = .ok (.aload_n 0, 1) := by decide +kernel
theorem dX8_orders_85 : decode cX8_orders 85 = .ok (.iconst (-1), 1) := by decide +kernel
theorem dX8_orders_86 : decode cX8_orders 86 = .ok (.putfield 80, 3) := by decide +kernel
theorem dX8_orders_89 : decode cX8_orders 89 = .ok (.iconst 0, 1) := by decide +kernel
theorem dX8_orders_90 : decode cX8_orders 90 = .ok (.istore_n 3, 1) := by decide +kernel
theorem dX8_orders_91 : decode cX8_orders 91 = .ok (.iload_n 3, 1) := by decide +kernel
theorem dX8_orders_92 : decode cX8_orders 92 = .ok (.aload_n 2, 1) := by decide +kernel
theorem dX8_orders_93 : decode cX8_orders 93 = .ok (.getfield 247, 3) := by decide +kernel
theorem dX8_orders_96 : decode cX8_orders 96 = .ok (.if_icmp .ge 71, 3) := by decide +kernel
theorem dX8_orders_99 : decode cX8_orders 99 = .ok (.aload_n 2, 1) := by decide +kernel
theorem dX8_orders_100 : decode cX8_orders 100 = .ok (.iload_n 3, 1) := by decide +kernel
theorem dX8_orders_101 : decode cX8_orders 101 = .ok (.iconst 5, 1) := by decide +kernel
theorem dX8_orders_102 : decode cX8_orders 102 = .ok (.invokevirtual 252, 3) := by decide +kernel
theorem dX8_orders_105 : decode cX8_orders 105 = .ok (.istore 4, 2) := by decide +kernel
theorem dX8_orders_107 : decode cX8_orders 107 = .ok (.iload 4, 2) := by decide +kernel
theorem dX8_orders_109 : decode cX8_orders 109 = .ok (.ifCond .le 52, 3) := by decide +kernel
theorem dX8_orders_112 : decode cX8_orders 112 = .ok (.aload_n 0, 1) := by decide +kernel
theorem dX8_orders_113 : decode cX8_orders 113 = .ok (.aload_n 2, 1) := by decide +kernel
theorem dX8_orders_114 : decode cX8_orders 114 = .ok (.iload_n 3, 1) := by decide +kernel
theorem dX8_orders_115 : decode cX8_orders 115 = .ok (.invokevirtual 255, 3) := by decide +kernel
theorem dX8_orders_118 : decode cX8_orders 118 = .ok (.ifCond .ne 37, 3) := by decide +kernel
theorem dX8_orders_121 : decode cX8_orders 121 = .ok (.aload_n 0, 1) := by decide +kernel
theorem dX8_orders_122 : decode cX8_orders 122 = .ok (.getfield 12, 3) := by decide +kernel
theorem dX8_orders_125 : decode cX8_orders 125 = .ok (.aload_n 0, 1) := by decide +kernel
theorem dX8_orders_126 : decode cX8_orders 126 = .ok (.getfield 16, 3) := by decide +kernel
theorem dX8_orders_129 : decode cX8_orders 129 = .ok (.invokevirtual 240, 3) := by decide +kernel
theorem dX8_orders_132 : decode cX8_orders 132 = .ok (.aload_n 0, 1) := by decide +kernel
theorem dX8_orders_133 : decode cX8_orders 133 = .ok (.getfield 54, 3) := by decide +kernel
theorem dX8_orders_136 : decode cX8_orders 136 = .ok (.aload_n 0, 1) := by decide +kernel
theorem dX8_orders_137 : decode cX8_orders 137 = .ok (.getfield 58, 3) := by decide +kernel
theorem dX8_orders_140 : decode cX8_orders 140 = .ok (.invokevirtual 244, 3) := by decide +kernel
theorem dX8_orders_143 : decode cX8_orders 143 = .ok (.aload_n 0, 1) := by decide +kernel
theorem dX8_orders_144 : decode cX8_orders 144 = .ok (.iload_n 3, 1) := by decide +kernel
theorem dX8_orders_145 : decode cX8_orders 145 = .ok (.putfield 89, 3) := by decide +kernel
theorem dX8_orders_148 : decode cX8_orders 148 = .ok (.aload_n 0, 1) := by decide +kernel
theorem dX8_orders_149 : decode cX8_orders 149 = .ok (.bipush (-3), 2) := by decide +kernel
theorem dX8_orders_151 : decode cX8_orders 151 = .ok (.invokevirtual 99, 3) := by decide +kernel
theorem dX8_orders_154 : decode cX8_orders 154 = .ok (.ireturn, 1) := by decide +kernel
theorem dX8_orders_155 : decode cX8_orders 155 = .ok (.iinc 4 (-1), 3) := by decide +kernel
theorem dX8_orders_158 : decode cX8_orders 158 = .ok (.goto (-51), 3) := by decide +kernel
theorem dX8_orders_161 : decode cX8_orders 161 = .ok (.iinc 3 1, 3) := by decide +kernel
theorem dX8_orders_164 : decode cX8_orders 164 = .ok (.goto (-73), 3) := by decide +kernel
theorem dX8_orders_167 : decode cX8_orders 167 = .ok (.aload_n 0, 1) := by decide +kernel
theorem dX8_orders_168 : decode cX8_orders 168 = .ok (.aload_n 0, 1) := by decide +kernel
theorem dX8_orders_169 : decode cX8_orders 169 = .ok (.getfield 76, 3) := by decide +kernel
theorem dX8_orders_172 : decode cX8_orders 172 = .ok (.invokevirtual 119, 3) := by decide +kernel
theorem dX8_orders_175 : decode cX8_orders 175 = .ok (.ireturn, 1) := by decide +kernel
theorem dX8_runOnce_0 : decode cX8_runOnce 0 = .ok (.aload_n 0, 1) := by decide +kernel
theorem dX8_runOnce_1 : decode cX8_runOnce 1 = .ok (.invokevirtual 259, 3) := by decide +kernel
theorem dX8_runOnce_4 : decode cX8_runOnce 4 = .ok (.aload_n 1, 1) := by decide +kernel
theorem dX8_runOnce_5 : decode cX8_runOnce 5 = .ok (.iload_n 2, 1) := by decide +kernel
theorem dX8_runOnce_6 : decode cX8_runOnce 6 = .ok (.iconst 1, 1) := by decide +kernel
theorem dX8_runOnce_7 : decode cX8_runOnce 7 = .ok (.invokevirtual 252, 3) := by decide +kernel
theorem dX8_runOnce_10 : decode cX8_runOnce 10 = .ok (.istore_n 3, 1) := by decide +kernel
theorem dX8_runOnce_11 : decode cX8_runOnce 11 = .ok (.aload_n 1, 1) := by decide +kernel
theorem dX8_runOnce_12 : decode cX8_runOnce 12 = .ok (.iload_n 2, 1) := by decide +kernel
theorem dX8_runOnce_13 : decode cX8_runOnce 13 = .ok (.iconst 2, 1) := by decide +kernel
theorem dX8_runOnce_14 : decode cX8_runOnce 14 = .ok (.invokevirtual 252, 3) := by decide +kernel
theorem dX8_runOnce_17 : decode cX8_runOnce 17 = .ok (.istore 4, 2) := by decide +kernel
theorem dX8_runOnce_19 : decode cX8_runOnce 19 = .ok (.aload_n 1, 1) := by decide +kernel
theorem dX8_runOnce_20 : decode cX8_runOnce 20 = .ok (.iload_n 2, 1) := by decide +kernel
theorem dX8_runOnce_21 : decode cX8_runOnce 21 = .ok (.iconst 3, 1) := by decide +kernel
theorem dX8_runOnce_22 : decode cX8_runOnce 22 = .ok (.invokevirtual 252, 3) := by decide +kernel
theorem dX8_runOnce_25 : decode cX8_runOnce 25 = .ok (.istore 5, 2) := by decide +kernel
theorem dX8_runOnce_27 : decode cX8_runOnce 27 = .ok (.aload_n 1, 1) := by decide +kernel
theorem dX8_runOnce_28 : decode cX8_runOnce 28 = .ok (.iload_n 2, 1) := by decide +kernel
theorem dX8_runOnce_29 : decode cX8_runOnce 29 = .ok (.iconst 4, 1) := by decide +kernel
theorem dX8_runOnce_30 : decode cX8_runOnce 30 = .ok (.invokevirtual 252, 3) := by decide +kernel
theorem dX8_runOnce_33 : decode cX8_runOnce 33 = .ok (.istore 6, 2) := by decide +kernel
theorem dX8_runOnce_35 : decode cX8_runOnce 35 = .ok (.iload 5, 2) := by decide +kernel
theorem dX8_runOnce_37 : decode cX8_runOnce 37 = .ok (.iload 6, 2) := by decide +kernel
theorem dX8_runOnce_39 : decode cX8_runOnce 39 = .ok (.if_icmp .ge 25, 3) := by decide +kernel
theorem dX8_runOnce_42 : decode cX8_runOnce 42 = .ok (.aload_n 0, 1) := by decide +kernel
theorem dX8_runOnce_43 : decode cX8_runOnce 43 = .ok (.getfield 47, 3) := by decide +kernel
theorem dX8_runOnce_46 : decode cX8_runOnce 46 = .ok (.aload_n 1, 1) := by decide +kernel
theorem dX8_runOnce_47 : decode cX8_runOnce 47 = .ok (.getfield 262, 3) := by decide +kernel
theorem dX8_runOnce_50 : decode cX8_runOnce 50 = .ok (.iload 5, 2) := by decide +kernel
theorem dX8_runOnce_52 : decode cX8_runOnce 52 = .ok (.iload 6, 2) := by decide +kernel
theorem dX8_runOnce_54 : decode cX8_runOnce 54 = .ok (.invokevirtual 265, 3) := by decide +kernel
theorem dX8_runOnce_57 : decode cX8_runOnce 57 = .ok (.lconst 1, 1) := by decide +kernel
theorem dX8_runOnce_58 : decode cX8_runOnce 58 = .ok (.lcmp, 1) := by decide +kernel
theorem dX8_runOnce_59 : decode cX8_runOnce 59 = .ok (.ifCond .eq 5, 3) := by decide +kernel
theorem dX8_runOnce_62 : decode cX8_runOnce 62 = .ok (.iconst 1, 1) := by decide +kernel
theorem dX8_runOnce_63 : decode cX8_runOnce 63 = .ok (.ireturn, 1) := by decide +kernel
theorem dX8_runOnce_64 : decode cX8_runOnce 64 = .ok (.iload_n 3, 1) := by decide +kernel
theorem dX8_runOnce_65 : decode cX8_runOnce 65 = .ok (.iload 4, 2) := by decide +kernel
theorem dX8_runOnce_67 : decode cX8_runOnce 67 = .ok (.if_icmp .ge 20, 3) := by decide +kernel
theorem dX8_runOnce_70 : decode cX8_runOnce 70 = .ok (.aload_n 0, 1) := by decide +kernel
theorem dX8_runOnce_71 : decode cX8_runOnce 71 = .ok (.getfield 47, 3) := by decide +kernel
theorem dX8_runOnce_74 : decode cX8_runOnce 74 = .ok (.aload_n 1, 1) := by decide +kernel
theorem dX8_runOnce_75 : decode cX8_runOnce 75 = .ok (.getfield 262, 3) := by decide +kernel
theorem dX8_runOnce_78 : decode cX8_runOnce 78 = .ok (.iload_n 3, 1) := by decide +kernel
theorem dX8_runOnce_79 : decode cX8_runOnce 79 = .ok (.iload 4, 2) := by decide +kernel
theorem dX8_runOnce_81 : decode cX8_runOnce 81 = .ok (.invokevirtual 265, 3) := by decide +kernel
theorem dX8_runOnce_84 : decode cX8_runOnce 84 = .ok (.goto 4, 3) := by decide +kernel
theorem dX8_runOnce_87 : decode cX8_runOnce 87 = .ok (.lconst 0, 1) := by decide +kernel
theorem dX8_runOnce_88 : decode cX8_runOnce 88 = .ok (.lstore 7, 2) := by decide +kernel
theorem dX8_runOnce_90 : decode cX8_runOnce 90 = .ok (.iload 4, 2) := by decide +kernel
theorem dX8_runOnce_92 : decode cX8_runOnce 92 = .ok (.iload 5, 2) := by decide +kernel
theorem dX8_runOnce_94 : decode cX8_runOnce 94 = .ok (.if_icmp .ge 21, 3) := by decide +kernel
theorem dX8_runOnce_97 : decode cX8_runOnce 97 = .ok (.aload_n 0, 1) := by decide +kernel
theorem dX8_runOnce_98 : decode cX8_runOnce 98 = .ok (.getfield 47, 3) := by decide +kernel
theorem dX8_runOnce_101 : decode cX8_runOnce 101 = .ok (.aload_n 1, 1) := by decide +kernel
theorem dX8_runOnce_102 : decode cX8_runOnce 102 = .ok (.getfield 262, 3) := by decide +kernel
theorem dX8_runOnce_105 : decode cX8_runOnce 105 = .ok (.iload 4, 2) := by decide +kernel
theorem dX8_runOnce_107 : decode cX8_runOnce 107 = .ok (.iload 5, 2) := by decide +kernel
theorem dX8_runOnce_109 : decode cX8_runOnce 109 = .ok (.invokevirtual 265, 3) := by decide +kernel
theorem dX8_runOnce_112 : decode cX8_runOnce 112 = .ok (.goto 4, 3) := by decide +kernel
theorem dX8_runOnce_115 : decode cX8_runOnce 115 = .ok (.lconst 0, 1) := by decide +kernel
theorem dX8_runOnce_116 : decode cX8_runOnce 116 = .ok (.lstore 9, 2) := by decide +kernel
theorem dX8_runOnce_118 : decode cX8_runOnce 118 = .ok (.lload 7, 2) := by decide +kernel
theorem dX8_runOnce_120 : decode cX8_runOnce 120 = .ok (.ldc2_w 269, 3) := by decide +kernel
theorem dX8_runOnce_123 : decode cX8_runOnce 123 = .ok (.lcmp, 1) := by decide +kernel
theorem dX8_runOnce_124 : decode cX8_runOnce 124 = .ok (.ifCond .eq 12, 3) := by decide +kernel
theorem dX8_runOnce_127 : decode cX8_runOnce 127 = .ok (.lload 9, 2) := by decide +kernel
theorem dX8_runOnce_129 : decode cX8_runOnce 129 = .ok (.ldc2_w 269, 3) := by decide +kernel
theorem dX8_runOnce_132 : decode cX8_runOnce 132 = .ok (.lcmp, 1) := by decide +kernel
theorem dX8_runOnce_133 : decode cX8_runOnce 133 = .ok (.ifCond .ne 5, 3) := by decide +kernel
theorem dX8_runOnce_136 : decode cX8_runOnce 136 = .ok (.iconst 0, 1) := by decide +kernel
theorem dX8_runOnce_137 : decode cX8_runOnce 137 = .ok (.ireturn, 1) := by decide +kernel
theorem dX8_runOnce_138 : decode cX8_runOnce 138 = .ok (.aload_n 1, 1) := by decide +kernel
theorem dX8_runOnce_139 : decode cX8_runOnce 139 = .ok (.iload_n 2, 1) := by decide +kernel
theorem dX8_runOnce_140 : decode cX8_runOnce 140 = .ok (.iconst 0, 1) := by decide +kernel
theorem dX8_runOnce_141 : decode cX8_runOnce 141 = .ok (.invokevirtual 252, 3) := by decide +kernel
theorem dX8_runOnce_144 : decode cX8_runOnce 144 = .ok (.tableswitch 81 316 320 #[36, 81, 51, 81, 66], 36) := by decide +kernel
theorem dX8_runOnce_180 : decode cX8_runOnce 180 = .ok (.aload_n 0, 1) := by decide +kernel
theorem dX8_runOnce_181 : decode cX8_runOnce 181 = .ok (.lload 7, 2) := by decide +kernel
theorem dX8_runOnce_183 : decode cX8_runOnce 183 = .ok (.l2i, 1) := by decide +kernel
theorem dX8_runOnce_184 : decode cX8_runOnce 184 = .ok (.lload 9, 2) := by decide +kernel
theorem dX8_runOnce_186 : decode cX8_runOnce 186 = .ok (.l2i, 1) := by decide +kernel
theorem dX8_runOnce_187 : decode cX8_runOnce 187 = .ok (.invokevirtual 271, 3) := by decide +kernel
theorem dX8_runOnce_190 : decode cX8_runOnce 190 = .ok (.istore 11, 2) := by decide +kernel
theorem dX8_runOnce_192 : decode cX8_runOnce 192 = .ok (.goto 45, 3) := by decide +kernel
theorem dX8_runOnce_195 : decode cX8_runOnce 195 = .ok (.aload_n 0, 1) := by decide +kernel
theorem dX8_runOnce_196 : decode cX8_runOnce 196 = .ok (.lload 7, 2) := by decide +kernel
theorem dX8_runOnce_198 : decode cX8_runOnce 198 = .ok (.l2i, 1) := by decide +kernel
theorem dX8_runOnce_199 : decode cX8_runOnce 199 = .ok (.lload 9, 2) := by decide +kernel
theorem dX8_runOnce_201 : decode cX8_runOnce 201 = .ok (.l2i, 1) := by decide +kernel
theorem dX8_runOnce_202 : decode cX8_runOnce 202 = .ok (.invokevirtual 274, 3) := by decide +kernel
theorem dX8_runOnce_205 : decode cX8_runOnce 205 = .ok (.istore 11, 2) := by decide +kernel
theorem dX8_runOnce_207 : decode cX8_runOnce 207 = .ok (.goto 30, 3) := by decide +kernel
theorem dX8_runOnce_210 : decode cX8_runOnce 210 = .ok (.aload_n 0, 1) := by decide +kernel
theorem dX8_runOnce_211 : decode cX8_runOnce 211 = .ok (.lload 7, 2) := by decide +kernel
theorem dX8_runOnce_213 : decode cX8_runOnce 213 = .ok (.l2i, 1) := by decide +kernel
theorem dX8_runOnce_214 : decode cX8_runOnce 214 = .ok (.lload 9, 2) := by decide +kernel
theorem dX8_runOnce_216 : decode cX8_runOnce 216 = .ok (.l2i, 1) := by decide +kernel
theorem dX8_runOnce_217 : decode cX8_runOnce 217 = .ok (.invokevirtual 277, 3) := by decide +kernel
theorem dX8_runOnce_220 : decode cX8_runOnce 220 = .ok (.istore 11, 2) := by decide +kernel
theorem dX8_runOnce_222 : decode cX8_runOnce 222 = .ok (.goto 15, 3) := by decide +kernel
theorem dX8_runOnce_225 : decode cX8_runOnce 225 = .ok (.aload_n 0, 1) := by decide +kernel
theorem dX8_runOnce_226 : decode cX8_runOnce 226 = .ok (.invokevirtual 280, 3) := by decide +kernel
theorem dX8_runOnce_229 : decode cX8_runOnce 229 = .ok (.istore 11, 2) := by decide +kernel
theorem dX8_runOnce_231 : decode cX8_runOnce 231 = .ok (.aload_n 0, 1) := by decide +kernel
theorem dX8_runOnce_232 : decode cX8_runOnce 232 = .ok (.iload 11, 2) := by decide +kernel
theorem dX8_runOnce_234 : decode cX8_runOnce 234 = .ok (.putfield 80, 3) := by decide +kernel
theorem dX8_runOnce_237 : decode cX8_runOnce 237 = .ok (.iload 11, 2) := by decide +kernel
theorem dX8_runOnce_239 : decode cX8_runOnce 239 = .ok (.ifCond .ge 5, 3) := by decide +kernel
theorem dX8_runOnce_242 : decode cX8_runOnce 242 = .ok (.iconst 0, 1) := by decide +kernel
theorem dX8_runOnce_243 : decode cX8_runOnce 243 = .ok (.ireturn, 1) := by decide +kernel
theorem dX8_runOnce_244 : decode cX8_runOnce 244 = .ok (.aload_n 0, 1) := by decide +kernel
theorem dX8_runOnce_245 : decode cX8_runOnce 245 = .ok (.dup, 1) := by decide +kernel
theorem dX8_runOnce_246 : decode cX8_runOnce 246 = .ok (.getfield 76, 3) := by decide +kernel
theorem dX8_runOnce_249 : decode cX8_runOnce 249 = .ok (.iconst 1, 1) := by decide +kernel
theorem dX8_runOnce_250 : decode cX8_runOnce 250 = .ok (.iadd, 1) := by decide +kernel
theorem dX8_runOnce_251 : decode cX8_runOnce 251 = .ok (.putfield 76, 3) := by decide +kernel
theorem dX8_runOnce_254 : decode cX8_runOnce 254 = .ok (.iconst 1, 1) := by decide +kernel
theorem dX8_runOnce_255 : decode cX8_runOnce 255 = .ok (.ireturn, 1) := by decide +kernel
theorem dX8_tellOrderWords_0 : decode cX8_tellOrderWords 0 = .ok (.aload_n 0, 1) := by decide +kernel
theorem dX8_tellOrderWords_1 : decode cX8_tellOrderWords 1 = .ok (.getfield 47, 3) := by decide +kernel
theorem dX8_tellOrderWords_4 : decode cX8_tellOrderWords 4 = .ok (.getfield 284, 3) := by decide +kernel
theorem dX8_tellOrderWords_7 : decode cX8_tellOrderWords 7 = .ok (.astore_n 1, 1) := by decide +kernel
theorem dX8_tellOrderWords_8 : decode cX8_tellOrderWords 8 = .ok (.aload_n 1, 1) := by decide +kernel
theorem dX8_tellOrderWords_9 : decode cX8_tellOrderWords 9 = .ok (.iconst 0, 1) := by decide +kernel
theorem dX8_tellOrderWords_10 : decode cX8_tellOrderWords 10 = .ok (.aload_n 0, 1) := by decide +kernel
theorem dX8_tellOrderWords_11 : decode cX8_tellOrderWords 11 = .ok (.getfield 12, 3) := by decide +kernel
theorem dX8_tellOrderWords_14 : decode cX8_tellOrderWords 14 = .ok (.getfield 132, 3) := by decide +kernel
theorem dX8_tellOrderWords_17 : decode cX8_tellOrderWords 17 = .ok (.iconst 0, 1) := by decide +kernel
theorem dX8_tellOrderWords_18 : decode cX8_tellOrderWords 18 = .ok (.iaload, 1) := by decide +kernel
theorem dX8_tellOrderWords_19 : decode cX8_tellOrderWords 19 = .ok (.iastore, 1) := by decide +kernel
theorem dX8_tellOrderWords_20 : decode cX8_tellOrderWords 20 = .ok (.aload_n 1, 1) := by decide +kernel
theorem dX8_tellOrderWords_21 : decode cX8_tellOrderWords 21 = .ok (.iconst 1, 1) := by decide +kernel
theorem dX8_tellOrderWords_22 : decode cX8_tellOrderWords 22 = .ok (.aload_n 0, 1) := by decide +kernel
theorem dX8_tellOrderWords_23 : decode cX8_tellOrderWords 23 = .ok (.getfield 76, 3) := by decide +kernel
theorem dX8_tellOrderWords_26 : decode cX8_tellOrderWords 26 = .ok (.iastore, 1) := by decide +kernel
theorem dX8_tellOrderWords_27 : decode cX8_tellOrderWords 27 = .ok (.aload_n 1, 1) := by decide +kernel
theorem dX8_tellOrderWords_28 : decode cX8_tellOrderWords 28 = .ok (.iconst 2, 1) := by decide +kernel
theorem dX8_tellOrderWords_29 : decode cX8_tellOrderWords 29 = .ok (.aload_n 0, 1) := by decide +kernel
theorem dX8_tellOrderWords_30 : decode cX8_tellOrderWords 30 = .ok (.getfield 80, 3) := by decide +kernel
theorem dX8_tellOrderWords_33 : decode cX8_tellOrderWords 33 = .ok (.iastore, 1) := by decide +kernel
theorem dX8_tellOrderWords_34 : decode cX8_tellOrderWords 34 = .ok (.aload_n 1, 1) := by decide +kernel
theorem dX8_tellOrderWords_35 : decode cX8_tellOrderWords 35 = .ok (.iconst 3, 1) := by decide +kernel
theorem dX8_tellOrderWords_36 : decode cX8_tellOrderWords 36 = .ok (.aload_n 0, 1) := by decide +kernel
theorem dX8_tellOrderWords_37 : decode cX8_tellOrderWords 37 = .ok (.getfield 12, 3) := by decide +kernel
theorem dX8_tellOrderWords_40 : decode cX8_tellOrderWords 40 = .ok (.getfield 287, 3) := by decide +kernel
theorem dX8_tellOrderWords_43 : decode cX8_tellOrderWords 43 = .ok (.iastore, 1) := by decide +kernel
theorem dX8_tellOrderWords_44 : decode cX8_tellOrderWords 44 = .ok (.aload_n 1, 1) := by decide +kernel
theorem dX8_tellOrderWords_45 : decode cX8_tellOrderWords 45 = .ok (.iconst 4, 1) := by decide +kernel
theorem dX8_tellOrderWords_46 : decode cX8_tellOrderWords 46 = .ok (.aload_n 0, 1) := by decide +kernel
theorem dX8_tellOrderWords_47 : decode cX8_tellOrderWords 47 = .ok (.getfield 12, 3) := by decide +kernel
theorem dX8_tellOrderWords_50 : decode cX8_tellOrderWords 50 = .ok (.getfield 132, 3) := by decide +kernel
theorem dX8_tellOrderWords_53 : decode cX8_tellOrderWords 53 = .ok (.iconst 0, 1) := by decide +kernel
theorem dX8_tellOrderWords_54 : decode cX8_tellOrderWords 54 = .ok (.iaload, 1) := by decide +kernel
theorem dX8_tellOrderWords_55 : decode cX8_tellOrderWords 55 = .ok (.bipush 24, 2) := by decide +kernel
theorem dX8_tellOrderWords_57 : decode cX8_tellOrderWords 57 = .ok (.irem, 1) := by decide +kernel
theorem dX8_tellOrderWords_58 : decode cX8_tellOrderWords 58 = .ok (.iastore, 1) := by decide +kernel
theorem dX8_tellOrderWords_59 : decode cX8_tellOrderWords 59 = .ok (.iconst 0, 1) := by decide +kernel
theorem dX8_tellOrderWords_60 : decode cX8_tellOrderWords 60 = .ok (.istore_n 2, 1) := by decide +kernel
theorem dX8_tellOrderWords_61 : decode cX8_tellOrderWords 61 = .ok (.iload_n 2, 1) := by decide +kernel
theorem dX8_tellOrderWords_62 : decode cX8_tellOrderWords 62 = .ok (.iconst 4, 1) := by decide +kernel
theorem dX8_tellOrderWords_63 : decode cX8_tellOrderWords 63 = .ok (.if_icmp .ge 38, 3) := by decide +kernel
theorem dX8_tellOrderWords_66 : decode cX8_tellOrderWords 66 = .ok (.aload_n 1, 1) := by decide +kernel
theorem dX8_tellOrderWords_67 : decode cX8_tellOrderWords 67 = .ok (.iconst 5, 1) := by decide +kernel
theorem dX8_tellOrderWords_68 : decode cX8_tellOrderWords 68 = .ok (.iload_n 2, 1) := by decide +kernel
theorem dX8_tellOrderWords_69 : decode cX8_tellOrderWords 69 = .ok (.iadd, 1) := by decide +kernel
theorem dX8_tellOrderWords_70 : decode cX8_tellOrderWords 70 = .ok (.aload_n 0, 1) := by decide +kernel
theorem dX8_tellOrderWords_71 : decode cX8_tellOrderWords 71 = .ok (.getfield 12, 3) := by decide +kernel
theorem dX8_tellOrderWords_74 : decode cX8_tellOrderWords 74 = .ok (.iload_n 2, 1) := by decide +kernel
theorem dX8_tellOrderWords_75 : decode cX8_tellOrderWords 75 = .ok (.invokevirtual 151, 3) := by decide +kernel
theorem dX8_tellOrderWords_78 : decode cX8_tellOrderWords 78 = .ok (.ifCond .eq 15, 3) := by decide +kernel
theorem dX8_tellOrderWords_81 : decode cX8_tellOrderWords 81 = .ok (.aload_n 0, 1) := by decide +kernel
theorem dX8_tellOrderWords_82 : decode cX8_tellOrderWords 82 = .ok (.getfield 12, 3) := by decide +kernel
theorem dX8_tellOrderWords_85 : decode cX8_tellOrderWords 85 = .ok (.getfield 148, 3) := by decide +kernel
theorem dX8_tellOrderWords_88 : decode cX8_tellOrderWords 88 = .ok (.iload_n 2, 1) := by decide +kernel
theorem dX8_tellOrderWords_89 : decode cX8_tellOrderWords 89 = .ok (.iaload, 1) := by decide +kernel
theorem dX8_tellOrderWords_90 : decode cX8_tellOrderWords 90 = .ok (.goto 4, 3) := by decide +kernel
theorem dX8_tellOrderWords_93 : decode cX8_tellOrderWords 93 = .ok (.iconst (-1), 1) := by decide +kernel
theorem dX8_tellOrderWords_94 : decode cX8_tellOrderWords 94 = .ok (.iastore, 1) := by decide +kernel
theorem dX8_tellOrderWords_95 : decode cX8_tellOrderWords 95 = .ok (.iinc 2 1, 3) := by decide +kernel
theorem dX8_tellOrderWords_98 : decode cX8_tellOrderWords 98 = .ok (.goto (-37), 3) := by decide +kernel
theorem dX8_tellOrderWords_101 : decode cX8_tellOrderWords 101 = .ok (.iconst 0, 1) := by decide +kernel
theorem dX8_tellOrderWords_102 : decode cX8_tellOrderWords 102 = .ok (.istore_n 2, 1) := by decide +kernel
theorem dX8_tellOrderWords_103 : decode cX8_tellOrderWords 103 = .ok (.iload_n 2, 1) := by decide +kernel
theorem dX8_tellOrderWords_104 : decode cX8_tellOrderWords 104 = .ok (.iconst 3, 1) := by decide +kernel
theorem dX8_tellOrderWords_105 : decode cX8_tellOrderWords 105 = .ok (.if_icmp .ge 39, 3) := by decide +kernel
theorem dX8_tellOrderWords_108 : decode cX8_tellOrderWords 108 = .ok (.aload_n 1, 1) := by decide +kernel
theorem dX8_tellOrderWords_109 : decode cX8_tellOrderWords 109 = .ok (.bipush 9, 2) := by decide +kernel
theorem dX8_tellOrderWords_111 : decode cX8_tellOrderWords 111 = .ok (.iload_n 2, 1) := by decide +kernel
theorem dX8_tellOrderWords_112 : decode cX8_tellOrderWords 112 = .ok (.iadd, 1) := by decide +kernel
theorem dX8_tellOrderWords_113 : decode cX8_tellOrderWords 113 = .ok (.aload_n 0, 1) := by decide +kernel
theorem dX8_tellOrderWords_114 : decode cX8_tellOrderWords 114 = .ok (.getfield 12, 3) := by decide +kernel
theorem dX8_tellOrderWords_117 : decode cX8_tellOrderWords 117 = .ok (.iload_n 2, 1) := by decide +kernel
theorem dX8_tellOrderWords_118 : decode cX8_tellOrderWords 118 = .ok (.invokevirtual 160, 3) := by decide +kernel
theorem dX8_tellOrderWords_121 : decode cX8_tellOrderWords 121 = .ok (.ifCond .eq 15, 3) := by decide +kernel
theorem dX8_tellOrderWords_124 : decode cX8_tellOrderWords 124 = .ok (.aload_n 0, 1) := by decide +kernel
theorem dX8_tellOrderWords_125 : decode cX8_tellOrderWords 125 = .ok (.getfield 12, 3) := by decide +kernel
theorem dX8_tellOrderWords_128 : decode cX8_tellOrderWords 128 = .ok (.getfield 157, 3) := by decide +kernel
theorem dX8_tellOrderWords_131 : decode cX8_tellOrderWords 131 = .ok (.iload_n 2, 1) := by decide +kernel
theorem dX8_tellOrderWords_132 : decode cX8_tellOrderWords 132 = .ok (.iaload, 1) := by decide +kernel
theorem dX8_tellOrderWords_133 : decode cX8_tellOrderWords 133 = .ok (.goto 4, 3) := by decide +kernel
theorem dX8_tellOrderWords_136 : decode cX8_tellOrderWords 136 = .ok (.iconst (-1), 1) := by decide +kernel
theorem dX8_tellOrderWords_137 : decode cX8_tellOrderWords 137 = .ok (.iastore, 1) := by decide +kernel
theorem dX8_tellOrderWords_138 : decode cX8_tellOrderWords 138 = .ok (.iinc 2 1, 3) := by decide +kernel
theorem dX8_tellOrderWords_141 : decode cX8_tellOrderWords 141 = .ok (.goto (-38), 3) := by decide +kernel
theorem dX8_tellOrderWords_144 : decode cX8_tellOrderWords 144 = .ok (.iconst 0, 1) := by decide +kernel
theorem dX8_tellOrderWords_145 : decode cX8_tellOrderWords 145 = .ok (.istore_n 2, 1) := by decide +kernel
theorem dX8_tellOrderWords_146 : decode cX8_tellOrderWords 146 = .ok (.iload_n 2, 1) := by decide +kernel
theorem dX8_tellOrderWords_147 : decode cX8_tellOrderWords 147 = .ok (.bipush 6, 2) := by decide +kernel
theorem dX8_tellOrderWords_149 : decode cX8_tellOrderWords 149 = .ok (.if_icmp .ge 39, 3) := by decide +kernel
theorem dX8_tellOrderWords_152 : decode cX8_tellOrderWords 152 = .ok (.aload_n 1, 1) := by decide +kernel
theorem dX8_tellOrderWords_153 : decode cX8_tellOrderWords 153 = .ok (.bipush 12, 2) := by decide +kernel
theorem dX8_tellOrderWords_155 : decode cX8_tellOrderWords 155 = .ok (.iload_n 2, 1) := by decide +kernel
theorem dX8_tellOrderWords_156 : decode cX8_tellOrderWords 156 = .ok (.iadd, 1) := by decide +kernel
theorem dX8_tellOrderWords_157 : decode cX8_tellOrderWords 157 = .ok (.aload_n 0, 1) := by decide +kernel
theorem dX8_tellOrderWords_158 : decode cX8_tellOrderWords 158 = .ok (.getfield 12, 3) := by decide +kernel
theorem dX8_tellOrderWords_161 : decode cX8_tellOrderWords 161 = .ok (.iload_n 2, 1) := by decide +kernel
theorem dX8_tellOrderWords_162 : decode cX8_tellOrderWords 162 = .ok (.invokevirtual 179, 3) := by decide +kernel
theorem dX8_tellOrderWords_165 : decode cX8_tellOrderWords 165 = .ok (.ifCond .eq 15, 3) := by decide +kernel
theorem dX8_tellOrderWords_168 : decode cX8_tellOrderWords 168 = .ok (.aload_n 0, 1) := by decide +kernel
theorem dX8_tellOrderWords_169 : decode cX8_tellOrderWords 169 = .ok (.getfield 12, 3) := by decide +kernel
theorem dX8_tellOrderWords_172 : decode cX8_tellOrderWords 172 = .ok (.getfield 170, 3) := by decide +kernel
theorem dX8_tellOrderWords_175 : decode cX8_tellOrderWords 175 = .ok (.iload_n 2, 1) := by decide +kernel
theorem dX8_tellOrderWords_176 : decode cX8_tellOrderWords 176 = .ok (.iaload, 1) := by decide +kernel
theorem dX8_tellOrderWords_177 : decode cX8_tellOrderWords 177 = .ok (.goto 4, 3) := by decide +kernel
theorem dX8_tellOrderWords_180 : decode cX8_tellOrderWords 180 = .ok (.iconst (-1), 1) := by decide +kernel
theorem dX8_tellOrderWords_181 : decode cX8_tellOrderWords 181 = .ok (.iastore, 1) := by decide +kernel
theorem dX8_tellOrderWords_182 : decode cX8_tellOrderWords 182 = .ok (.iinc 2 1, 3) := by decide +kernel
theorem dX8_tellOrderWords_185 : decode cX8_tellOrderWords 185 = .ok (.goto (-39), 3) := by decide +kernel
theorem dX8_tellOrderWords_188 : decode cX8_tellOrderWords 188 = .ok (.return_, 1) := by decide +kernel
theorem dX8_fault_0 : decode cX8_fault 0 = .ok (.aload_n 0, 1) := by decide +kernel
theorem dX8_fault_1 : decode cX8_fault 1 = .ok (.getfield 83, 3) := by decide +kernel
theorem dX8_fault_4 : decode cX8_fault 4 = .ok (.ireturn, 1) := by decide +kernel
theorem dX8_stopped_0 : decode cX8_stopped 0 = .ok (.aload_n 0, 1) := by decide +kernel
theorem dX8_stopped_1 : decode cX8_stopped 1 = .ok (.getfield 89, 3) := by decide +kernel
theorem dX8_stopped_4 : decode cX8_stopped 4 = .ok (.ireturn, 1) := by decide +kernel
theorem dX8_force_0 : decode cX8_force 0 = .ok (.iload_n 1, 1) := by decide +kernel
theorem dX8_force_1 : decode cX8_force 1 = .ok (.iconst (-1), 1) := by decide +kernel
theorem dX8_force_2 : decode cX8_force 2 = .ok (.if_icmp .eq 21, 3) := by decide +kernel
theorem dX8_force_5 : decode cX8_force 5 = .ok (.aload_n 0, 1) := by decide +kernel
theorem dX8_force_6 : decode cX8_force 6 = .ok (.getfield 12, 3) := by decide +kernel
theorem dX8_force_9 : decode cX8_force 9 = .ok (.iload_n 1, 1) := by decide +kernel
theorem dX8_force_10 : decode cX8_force 10 = .ok (.invokevirtual 290, 3) := by decide +kernel
theorem dX8_force_13 : decode cX8_force 13 = .ok (.ifCond .ne 10, 3) := by decide +kernel
theorem dX8_force_16 : decode cX8_force 16 = .ok (.aload_n 0, 1) := by decide +kernel
theorem dX8_force_17 : decode cX8_force 17 = .ok (.bipush (-2), 2) := by decide +kernel
theorem dX8_force_19 : decode cX8_force 19 = .ok (.invokevirtual 99, 3) := by decide +kernel
theorem dX8_force_22 : decode cX8_force 22 = .ok (.ireturn, 1) := by decide +kernel
theorem dX8_force_23 : decode cX8_force 23 = .ok (.aload_n 0, 1) := by decide +kernel
theorem dX8_force_24 : decode cX8_force 24 = .ok (.getfield 12, 3) := by decide +kernel
theorem dX8_force_27 : decode cX8_force 27 = .ok (.getfield 293, 3) := by decide +kernel
theorem dX8_force_30 : decode cX8_force 30 = .ok (.istore_n 2, 1) := by decide +kernel
theorem dX8_force_31 : decode cX8_force 31 = .ok (.aload_n 0, 1) := by decide +kernel
theorem dX8_force_32 : decode cX8_force 32 = .ok (.getfield 12, 3) := by decide +kernel
theorem dX8_force_35 : decode cX8_force 35 = .ok (.iload_n 1, 1) := by decide +kernel
theorem dX8_force_36 : decode cX8_force 36 = .ok (.putfield 293, 3) := by decide +kernel
theorem dX8_force_39 : decode cX8_force 39 = .ok (.aload_n 0, 1) := by decide +kernel
theorem dX8_force_40 : decode cX8_force 40 = .ok (.iload_n 2, 1) := by decide +kernel
theorem dX8_force_41 : decode cX8_force 41 = .ok (.invokevirtual 119, 3) := by decide +kernel
theorem dX8_force_44 : decode cX8_force 44 = .ok (.ireturn, 1) := by decide +kernel
theorem dX8_stride_0 : decode cX8_stride 0 = .ok (.aload_n 0, 1) := by decide +kernel
theorem dX8_stride_1 : decode cX8_stride 1 = .ok (.aload_n 0, 1) := by decide +kernel
theorem dX8_stride_2 : decode cX8_stride 2 = .ok (.iload_n 1, 1) := by decide +kernel
theorem dX8_stride_3 : decode cX8_stride 3 = .ok (.iload_n 2, 1) := by decide +kernel
theorem dX8_stride_4 : decode cX8_stride 4 = .ok (.invokevirtual 271, 3) := by decide +kernel
theorem dX8_stride_7 : decode cX8_stride 7 = .ok (.invokevirtual 296, 3) := by decide +kernel
theorem dX8_stride_10 : decode cX8_stride 10 = .ok (.ireturn, 1) := by decide +kernel
theorem dX8_tryStride_0 : decode cX8_tryStride 0 = .ok (.aload_n 0, 1) := by decide +kernel
theorem dX8_tryStride_1 : decode cX8_tryStride 1 = .ok (.getfield 12, 3) := by decide +kernel
theorem dX8_tryStride_4 : decode cX8_tryStride 4 = .ok (.iload_n 1, 1) := by decide +kernel
theorem dX8_tryStride_5 : decode cX8_tryStride 5 = .ok (.invokevirtual 151, 3) := by decide +kernel
theorem dX8_tryStride_8 : decode cX8_tryStride 8 = .ok (.ifCond .eq 17, 3) := by decide +kernel
theorem dX8_tryStride_11 : decode cX8_tryStride 11 = .ok (.aload_n 0, 1) := by decide +kernel
theorem dX8_tryStride_12 : decode cX8_tryStride 12 = .ok (.getfield 12, 3) := by decide +kernel
theorem dX8_tryStride_15 : decode cX8_tryStride 15 = .ok (.getfield 103, 3) := by decide +kernel
theorem dX8_tryStride_18 : decode cX8_tryStride 18 = .ok (.iload_n 2, 1) := by decide +kernel
theorem dX8_tryStride_19 : decode cX8_tryStride 19 = .ok (.invokevirtual 122, 3) := by decide +kernel
theorem dX8_tryStride_22 : decode cX8_tryStride 22 = .ok (.ifCond .ne 6, 3) := by decide +kernel
theorem dX8_tryStride_25 : decode cX8_tryStride 25 = .ok (.bipush (-2), 2) := by decide +kernel
theorem dX8_tryStride_27 : decode cX8_tryStride 27 = .ok (.ireturn, 1) := by decide +kernel
theorem dX8_tryStride_28 : decode cX8_tryStride 28 = .ok (.aload_n 0, 1) := by decide +kernel
theorem dX8_tryStride_29 : decode cX8_tryStride 29 = .ok (.getfield 12, 3) := by decide +kernel
theorem dX8_tryStride_32 : decode cX8_tryStride 32 = .ok (.iload_n 1, 1) := by decide +kernel
theorem dX8_tryStride_33 : decode cX8_tryStride 33 = .ok (.iload_n 2, 1) := by decide +kernel
theorem dX8_tryStride_34 : decode cX8_tryStride 34 = .ok (.invokevirtual 203, 3) := by decide +kernel
theorem dX8_tryStride_37 : decode cX8_tryStride 37 = .ok (.ifCond .ne 6, 3) := by decide +kernel
theorem dX8_tryStride_40 : decode cX8_tryStride 40 = .ok (.bipush (-3), 2) := by decide +kernel
theorem dX8_tryStride_42 : decode cX8_tryStride 42 = .ok (.ireturn, 1) := by decide +kernel
theorem dX8_tryStride_43 : decode cX8_tryStride 43 = .ok (.aload_n 0, 1) := by decide +kernel
theorem dX8_tryStride_44 : decode cX8_tryStride 44 = .ok (.getfield 54, 3) := by decide +kernel
theorem dX8_tryStride_47 : decode cX8_tryStride 47 = .ok (.iconst 0, 1) := by decide +kernel
theorem dX8_tryStride_48 : decode cX8_tryStride 48 = .ok (.iload_n 1, 1) := by decide +kernel
theorem dX8_tryStride_49 : decode cX8_tryStride 49 = .ok (.aload_n 0, 1) := by decide +kernel
theorem dX8_tryStride_50 : decode cX8_tryStride 50 = .ok (.getfield 12, 3) := by decide +kernel
theorem dX8_tryStride_53 : decode cX8_tryStride 53 = .ok (.getfield 148, 3) := by decide +kernel
theorem dX8_tryStride_56 : decode cX8_tryStride 56 = .ok (.iload_n 1, 1) := by decide +kernel
theorem dX8_tryStride_57 : decode cX8_tryStride 57 = .ok (.iaload, 1) := by decide +kernel
theorem dX8_tryStride_58 : decode cX8_tryStride 58 = .ok (.aload_n 0, 1) := by decide +kernel
theorem dX8_tryStride_59 : decode cX8_tryStride 59 = .ok (.getfield 12, 3) := by decide +kernel
theorem dX8_tryStride_62 : decode cX8_tryStride 62 = .ok (.invokevirtual 299, 3) := by decide +kernel
theorem dX8_tryStride_65 : decode cX8_tryStride 65 = .ok (.aload_n 0, 1) := by decide +kernel
theorem dX8_tryStride_66 : decode cX8_tryStride 66 = .ok (.getfield 12, 3) := by decide +kernel
theorem dX8_tryStride_69 : decode cX8_tryStride 69 = .ok (.getfield 148, 3) := by decide +kernel
theorem dX8_tryStride_72 : decode cX8_tryStride 72 = .ok (.iload_n 1, 1) := by decide +kernel
theorem dX8_tryStride_73 : decode cX8_tryStride 73 = .ok (.iload_n 2, 1) := by decide +kernel
theorem dX8_tryStride_74 : decode cX8_tryStride 74 = .ok (.iastore, 1) := by decide +kernel
theorem dX8_tryStride_75 : decode cX8_tryStride 75 = .ok (.aload_n 0, 1) := by decide +kernel
theorem dX8_tryStride_76 : decode cX8_tryStride 76 = .ok (.getfield 12, 3) := by decide +kernel
theorem dX8_tryStride_79 : decode cX8_tryStride 79 = .ok (.iload_n 2, 1) := by decide +kernel
theorem dX8_tryStride_80 : decode cX8_tryStride 80 = .ok (.aload_n 0, 1) := by decide +kernel
theorem dX8_tryStride_81 : decode cX8_tryStride 81 = .ok (.getfield 12, 3) := by decide +kernel
theorem dX8_tryStride_84 : decode cX8_tryStride 84 = .ok (.getfield 132, 3) := by decide +kernel
theorem dX8_tryStride_87 : decode cX8_tryStride 87 = .ok (.iconst 0, 1) := by decide +kernel
theorem dX8_tryStride_88 : decode cX8_tryStride 88 = .ok (.iaload, 1) := by decide +kernel
theorem dX8_tryStride_89 : decode cX8_tryStride 89 = .ok (.invokevirtual 135, 3) := by decide +kernel
theorem dX8_tryStride_92 : decode cX8_tryStride 92 = .ok (.ifCond .eq 7, 3) := by decide +kernel
theorem dX8_tryStride_95 : decode cX8_tryStride 95 = .ok (.iconst 1, 1) := by decide +kernel
theorem dX8_tryStride_96 : decode cX8_tryStride 96 = .ok (.goto 4, 3) := by decide +kernel
theorem dX8_tryStride_99 : decode cX8_tryStride 99 = .ok (.iconst 0, 1) := by decide +kernel
theorem dX8_tryStride_100 : decode cX8_tryStride 100 = .ok (.ireturn, 1) := by decide +kernel
theorem dX8_put_0 : decode cX8_put 0 = .ok (.aload_n 0, 1) := by decide +kernel
theorem dX8_put_1 : decode cX8_put 1 = .ok (.aload_n 0, 1) := by decide +kernel
theorem dX8_put_2 : decode cX8_put 2 = .ok (.iload_n 1, 1) := by decide +kernel
theorem dX8_put_3 : decode cX8_put 3 = .ok (.iload_n 2, 1) := by decide +kernel
theorem dX8_put_4 : decode cX8_put 4 = .ok (.invokevirtual 274, 3) := by decide +kernel
theorem dX8_put_7 : decode cX8_put 7 = .ok (.invokevirtual 296, 3) := by decide +kernel
theorem dX8_put_10 : decode cX8_put 10 = .ok (.ireturn, 1) := by decide +kernel
theorem dX8_tryPut_0 : decode cX8_tryPut 0 = .ok (.aload_n 0, 1) := by decide +kernel
theorem dX8_tryPut_1 : decode cX8_tryPut 1 = .ok (.getfield 12, 3) := by decide +kernel
theorem dX8_tryPut_4 : decode cX8_tryPut 4 = .ok (.iload_n 1, 1) := by decide +kernel
theorem dX8_tryPut_5 : decode cX8_tryPut 5 = .ok (.invokevirtual 179, 3) := by decide +kernel
theorem dX8_tryPut_8 : decode cX8_tryPut 8 = .ok (.ifCond .eq 17, 3) := by decide +kernel
theorem dX8_tryPut_11 : decode cX8_tryPut 11 = .ok (.aload_n 0, 1) := by decide +kernel
theorem dX8_tryPut_12 : decode cX8_tryPut 12 = .ok (.getfield 12, 3) := by decide +kernel
theorem dX8_tryPut_15 : decode cX8_tryPut 15 = .ok (.getfield 103, 3) := by decide +kernel
theorem dX8_tryPut_18 : decode cX8_tryPut 18 = .ok (.iload_n 2, 1) := by decide +kernel
theorem dX8_tryPut_19 : decode cX8_tryPut 19 = .ok (.invokevirtual 122, 3) := by decide +kernel
theorem dX8_tryPut_22 : decode cX8_tryPut 22 = .ok (.ifCond .ne 6, 3) := by decide +kernel
theorem dX8_tryPut_25 : decode cX8_tryPut 25 = .ok (.bipush (-2), 2) := by decide +kernel
theorem dX8_tryPut_27 : decode cX8_tryPut 27 = .ok (.ireturn, 1) := by decide +kernel
theorem dX8_tryPut_28 : decode cX8_tryPut 28 = .ok (.aload_n 0, 1) := by decide +kernel
theorem dX8_tryPut_29 : decode cX8_tryPut 29 = .ok (.getfield 12, 3) := by decide +kernel
theorem dX8_tryPut_32 : decode cX8_tryPut 32 = .ok (.getfield 170, 3) := by decide +kernel
theorem dX8_tryPut_35 : decode cX8_tryPut 35 = .ok (.iload_n 1, 1) := by decide +kernel
theorem dX8_tryPut_36 : decode cX8_tryPut 36 = .ok (.iaload, 1) := by decide +kernel
theorem dX8_tryPut_37 : decode cX8_tryPut 37 = .ok (.istore_n 3, 1) := by decide +kernel
theorem dX8_tryPut_38 : decode cX8_tryPut 38 = .ok (.iload_n 3, 1) := by decide +kernel
theorem dX8_tryPut_39 : decode cX8_tryPut 39 = .ok (.iload_n 2, 1) := by decide +kernel
theorem dX8_tryPut_40 : decode cX8_tryPut 40 = .ok (.if_icmp .ne 6, 3) := by decide +kernel
theorem dX8_tryPut_43 : decode cX8_tryPut 43 = .ok (.bipush (-3), 2) := by decide +kernel
theorem dX8_tryPut_45 : decode cX8_tryPut 45 = .ok (.ireturn, 1) := by decide +kernel
theorem dX8_tryPut_46 : decode cX8_tryPut 46 = .ok (.aload_n 0, 1) := by decide +kernel
theorem dX8_tryPut_47 : decode cX8_tryPut 47 = .ok (.getfield 54, 3) := by decide +kernel
theorem dX8_tryPut_50 : decode cX8_tryPut 50 = .ok (.iconst 1, 1) := by decide +kernel
theorem dX8_tryPut_51 : decode cX8_tryPut 51 = .ok (.iload_n 1, 1) := by decide +kernel
theorem dX8_tryPut_52 : decode cX8_tryPut 52 = .ok (.iload_n 3, 1) := by decide +kernel
theorem dX8_tryPut_53 : decode cX8_tryPut 53 = .ok (.aload_n 0, 1) := by decide +kernel
theorem dX8_tryPut_54 : decode cX8_tryPut 54 = .ok (.getfield 12, 3) := by decide +kernel
theorem dX8_tryPut_57 : decode cX8_tryPut 57 = .ok (.invokevirtual 299, 3) := by decide +kernel
theorem dX8_tryPut_60 : decode cX8_tryPut 60 = .ok (.aload_n 0, 1) := by decide +kernel
theorem dX8_tryPut_61 : decode cX8_tryPut 61 = .ok (.getfield 12, 3) := by decide +kernel
theorem dX8_tryPut_64 : decode cX8_tryPut 64 = .ok (.getfield 170, 3) := by decide +kernel
theorem dX8_tryPut_67 : decode cX8_tryPut 67 = .ok (.iload_n 1, 1) := by decide +kernel
theorem dX8_tryPut_68 : decode cX8_tryPut 68 = .ok (.iload_n 2, 1) := by decide +kernel
theorem dX8_tryPut_69 : decode cX8_tryPut 69 = .ok (.iastore, 1) := by decide +kernel
theorem dX8_tryPut_70 : decode cX8_tryPut 70 = .ok (.iload_n 3, 1) := by decide +kernel
theorem dX8_tryPut_71 : decode cX8_tryPut 71 = .ok (.ireturn, 1) := by decide +kernel
theorem dX8_door_0 : decode cX8_door 0 = .ok (.aload_n 0, 1) := by decide +kernel
theorem dX8_door_1 : decode cX8_door 1 = .ok (.aload_n 0, 1) := by decide +kernel
theorem dX8_door_2 : decode cX8_door 2 = .ok (.iload_n 1, 1) := by decide +kernel
theorem dX8_door_3 : decode cX8_door 3 = .ok (.iload_n 2, 1) := by decide +kernel
theorem dX8_door_4 : decode cX8_door 4 = .ok (.invokevirtual 277, 3) := by decide +kernel
theorem dX8_door_7 : decode cX8_door 7 = .ok (.invokevirtual 296, 3) := by decide +kernel
theorem dX8_door_10 : decode cX8_door 10 = .ok (.ireturn, 1) := by decide +kernel
theorem dX8_tryDoor_0 : decode cX8_tryDoor 0 = .ok (.iload_n 1, 1) := by decide +kernel
theorem dX8_tryDoor_1 : decode cX8_tryDoor 1 = .ok (.i2l, 1) := by decide +kernel
theorem dX8_tryDoor_2 : decode cX8_tryDoor 2 = .ok (.invokestatic 95, 3) := by decide +kernel
theorem dX8_tryDoor_5 : decode cX8_tryDoor 5 = .ok (.ifCond .eq 16, 3) := by decide +kernel
theorem dX8_tryDoor_8 : decode cX8_tryDoor 8 = .ok (.iload_n 2, 1) := by decide +kernel
theorem dX8_tryDoor_9 : decode cX8_tryDoor 9 = .ok (.i2l, 1) := by decide +kernel
theorem dX8_tryDoor_10 : decode cX8_tryDoor 10 = .ok (.invokestatic 95, 3) := by decide +kernel
theorem dX8_tryDoor_13 : decode cX8_tryDoor 13 = .ok (.ifCond .eq 8, 3) := by decide +kernel
theorem dX8_tryDoor_16 : decode cX8_tryDoor 16 = .ok (.iload_n 1, 1) := by decide +kernel
theorem dX8_tryDoor_17 : decode cX8_tryDoor 17 = .ok (.iload_n 2, 1) := by decide +kernel
theorem dX8_tryDoor_18 : decode cX8_tryDoor 18 = .ok (.if_icmp .ne 5, 3) := by decide +kernel
theorem dX8_tryDoor_21 : decode cX8_tryDoor 21 = .ok (.iconst (-1), 1) := by decide +kernel
theorem dX8_tryDoor_22 : decode cX8_tryDoor 22 = .ok (.ireturn, 1) := by decide +kernel
theorem dX8_tryDoor_23 : decode cX8_tryDoor 23 = .ok (.aload_n 0, 1) := by decide +kernel
theorem dX8_tryDoor_24 : decode cX8_tryDoor 24 = .ok (.getfield 54, 3) := by decide +kernel
theorem dX8_tryDoor_27 : decode cX8_tryDoor 27 = .ok (.iconst 2, 1) := by decide +kernel
theorem dX8_tryDoor_28 : decode cX8_tryDoor 28 = .ok (.iload_n 1, 1) := by decide +kernel
theorem dX8_tryDoor_29 : decode cX8_tryDoor 29 = .ok (.iload_n 2, 1) := by decide +kernel
theorem dX8_tryDoor_30 : decode cX8_tryDoor 30 = .ok (.aload_n 0, 1) := by decide +kernel
theorem dX8_tryDoor_31 : decode cX8_tryDoor 31 = .ok (.getfield 12, 3) := by decide +kernel
theorem dX8_tryDoor_34 : decode cX8_tryDoor 34 = .ok (.invokevirtual 299, 3) := by decide +kernel
theorem dX8_tryDoor_37 : decode cX8_tryDoor 37 = .ok (.aload_n 0, 1) := by decide +kernel
theorem dX8_tryDoor_38 : decode cX8_tryDoor 38 = .ok (.getfield 12, 3) := by decide +kernel
theorem dX8_tryDoor_41 : decode cX8_tryDoor 41 = .ok (.iload_n 1, 1) := by decide +kernel
theorem dX8_tryDoor_42 : decode cX8_tryDoor 42 = .ok (.iload_n 2, 1) := by decide +kernel
theorem dX8_tryDoor_43 : decode cX8_tryDoor 43 = .ok (.invokevirtual 302, 3) := by decide +kernel
theorem dX8_tryDoor_46 : decode cX8_tryDoor 46 = .ok (.aload_n 0, 1) := by decide +kernel
theorem dX8_tryDoor_47 : decode cX8_tryDoor 47 = .ok (.getfield 12, 3) := by decide +kernel
theorem dX8_tryDoor_50 : decode cX8_tryDoor 50 = .ok (.iload_n 1, 1) := by decide +kernel
theorem dX8_tryDoor_51 : decode cX8_tryDoor 51 = .ok (.iload_n 2, 1) := by decide +kernel
theorem dX8_tryDoor_52 : decode cX8_tryDoor 52 = .ok (.invokevirtual 306, 3) := by decide +kernel
theorem dX8_tryDoor_55 : decode cX8_tryDoor 55 = .ok (.ifCond .eq 7, 3) := by decide +kernel
theorem dX8_tryDoor_58 : decode cX8_tryDoor 58 = .ok (.iconst 1, 1) := by decide +kernel
theorem dX8_tryDoor_59 : decode cX8_tryDoor 59 = .ok (.goto 4, 3) := by decide +kernel
theorem dX8_tryDoor_62 : decode cX8_tryDoor 62 = .ok (.iconst 0, 1) := by decide +kernel
theorem dX8_tryDoor_63 : decode cX8_tryDoor 63 = .ok (.ireturn, 1) := by decide +kernel
theorem dX8_pass_0 : decode cX8_pass 0 = .ok (.aload_n 0, 1) := by decide +kernel
theorem dX8_pass_1 : decode cX8_pass 1 = .ok (.aload_n 0, 1) := by decide +kernel
theorem dX8_pass_2 : decode cX8_pass 2 = .ok (.invokevirtual 280, 3) := by decide +kernel
theorem dX8_pass_5 : decode cX8_pass 5 = .ok (.invokevirtual 296, 3) := by decide +kernel
theorem dX8_pass_8 : decode cX8_pass 8 = .ok (.ireturn, 1) := by decide +kernel
theorem dX8_tryPass_0 : decode cX8_tryPass 0 = .ok (.aload_n 0, 1) := by decide +kernel
theorem dX8_tryPass_1 : decode cX8_tryPass 1 = .ok (.getfield 12, 3) := by decide +kernel
theorem dX8_tryPass_4 : decode cX8_tryPass 4 = .ok (.getfield 132, 3) := by decide +kernel
theorem dX8_tryPass_7 : decode cX8_tryPass 7 = .ok (.iconst 0, 1) := by decide +kernel
theorem dX8_tryPass_8 : decode cX8_tryPass 8 = .ok (.iaload, 1) := by decide +kernel
theorem dX8_tryPass_9 : decode cX8_tryPass 9 = .ok (.sipush 999, 3) := by decide +kernel
theorem dX8_tryPass_12 : decode cX8_tryPass 12 = .ok (.if_icmp .lt 6, 3) := by decide +kernel
theorem dX8_tryPass_15 : decode cX8_tryPass 15 = .ok (.bipush (-3), 2) := by decide +kernel
theorem dX8_tryPass_17 : decode cX8_tryPass 17 = .ok (.ireturn, 1) := by decide +kernel
theorem dX8_tryPass_18 : decode cX8_tryPass 18 = .ok (.aload_n 0, 1) := by decide +kernel
theorem dX8_tryPass_19 : decode cX8_tryPass 19 = .ok (.getfield 54, 3) := by decide +kernel
theorem dX8_tryPass_22 : decode cX8_tryPass 22 = .ok (.iconst 3, 1) := by decide +kernel
theorem dX8_tryPass_23 : decode cX8_tryPass 23 = .ok (.iconst 0, 1) := by decide +kernel
theorem dX8_tryPass_24 : decode cX8_tryPass 24 = .ok (.iconst 0, 1) := by decide +kernel
theorem dX8_tryPass_25 : decode cX8_tryPass 25 = .ok (.aload_n 0, 1) := by decide +kernel
theorem dX8_tryPass_26 : decode cX8_tryPass 26 = .ok (.getfield 12, 3) := by decide +kernel
theorem dX8_tryPass_29 : decode cX8_tryPass 29 = .ok (.invokevirtual 299, 3) := by decide +kernel
theorem dX8_tryPass_32 : decode cX8_tryPass 32 = .ok (.aload_n 0, 1) := by decide +kernel
theorem dX8_tryPass_33 : decode cX8_tryPass 33 = .ok (.getfield 12, 3) := by decide +kernel
theorem dX8_tryPass_36 : decode cX8_tryPass 36 = .ok (.invokevirtual 309, 3) := by decide +kernel
theorem dX8_tryPass_39 : decode cX8_tryPass 39 = .ok (.ireturn, 1) := by decide +kernel
theorem dX8_undo_0 : decode cX8_undo 0 = .ok (.aload_n 0, 1) := by decide +kernel
theorem dX8_undo_1 : decode cX8_undo 1 = .ok (.aload_n 0, 1) := by decide +kernel
theorem dX8_undo_2 : decode cX8_undo 2 = .ok (.getfield 54, 3) := by decide +kernel
theorem dX8_undo_5 : decode cX8_undo 5 = .ok (.invokevirtual 312, 3) := by decide +kernel
theorem dX8_undo_8 : decode cX8_undo 8 = .ok (.ifCond .eq 8, 3) := by decide +kernel
theorem dX8_undo_11 : decode cX8_undo 11 = .ok (.bipush (-3), 2) := by decide +kernel
theorem dX8_undo_13 : decode cX8_undo 13 = .ok (.goto 14, 3) := by decide +kernel
theorem dX8_undo_16 : decode cX8_undo 16 = .ok (.aload_n 0, 1) := by decide +kernel
theorem dX8_undo_17 : decode cX8_undo 17 = .ok (.getfield 54, 3) := by decide +kernel
theorem dX8_undo_20 : decode cX8_undo 20 = .ok (.aload_n 0, 1) := by decide +kernel
theorem dX8_undo_21 : decode cX8_undo 21 = .ok (.getfield 12, 3) := by decide +kernel
theorem dX8_undo_24 : decode cX8_undo 24 = .ok (.invokevirtual 316, 3) := by decide +kernel
theorem dX8_undo_27 : decode cX8_undo 27 = .ok (.invokevirtual 296, 3) := by decide +kernel
theorem dX8_undo_30 : decode cX8_undo 30 = .ok (.ireturn, 1) := by decide +kernel
theorem dX8_soonest_0 : decode cX8_soonest 0 = .ok (.aload_n 0, 1) := by decide +kernel
theorem dX8_soonest_1 : decode cX8_soonest 1 = .ok (.getfield 12, 3) := by decide +kernel
theorem dX8_soonest_4 : decode cX8_soonest 4 = .ok (.iload_n 1, 1) := by decide +kernel
theorem dX8_soonest_5 : decode cX8_soonest 5 = .ok (.invokevirtual 151, 3) := by decide +kernel
theorem dX8_soonest_8 : decode cX8_soonest 8 = .ok (.ifCond .eq 17, 3) := by decide +kernel
theorem dX8_soonest_11 : decode cX8_soonest 11 = .ok (.aload_n 0, 1) := by decide +kernel
theorem dX8_soonest_12 : decode cX8_soonest 12 = .ok (.getfield 12, 3) := by decide +kernel
theorem dX8_soonest_15 : decode cX8_soonest 15 = .ok (.getfield 103, 3) := by decide +kernel
theorem dX8_soonest_18 : decode cX8_soonest 18 = .ok (.iload_n 2, 1) := by decide +kernel
theorem dX8_soonest_19 : decode cX8_soonest 19 = .ok (.invokevirtual 122, 3) := by decide +kernel
theorem dX8_soonest_22 : decode cX8_soonest 22 = .ok (.ifCond .ne 5, 3) := by decide +kernel
theorem dX8_soonest_25 : decode cX8_soonest 25 = .ok (.iconst (-1), 1) := by decide +kernel
theorem dX8_soonest_26 : decode cX8_soonest 26 = .ok (.ireturn, 1) := by decide +kernel
theorem dX8_soonest_27 : decode cX8_soonest 27 = .ok (.aload_n 0, 1) := by decide +kernel
theorem dX8_soonest_28 : decode cX8_soonest 28 = .ok (.getfield 64, 3) := by decide +kernel
theorem dX8_soonest_31 : decode cX8_soonest 31 = .ok (.aload_n 0, 1) := by decide +kernel
theorem dX8_soonest_32 : decode cX8_soonest 32 = .ok (.getfield 12, 3) := by decide +kernel
theorem dX8_soonest_35 : decode cX8_soonest 35 = .ok (.iload_n 1, 1) := by decide +kernel
theorem dX8_soonest_36 : decode cX8_soonest 36 = .ok (.iload_n 2, 1) := by decide +kernel
theorem dX8_soonest_37 : decode cX8_soonest 37 = .ok (.invokevirtual 320, 3) := by decide +kernel
theorem dX8_soonest_40 : decode cX8_soonest 40 = .ok (.istore 4, 2) := by decide +kernel
theorem dX8_soonest_42 : decode cX8_soonest 42 = .ok (.iload_n 3, 1) := by decide +kernel
theorem dX8_soonest_43 : decode cX8_soonest 43 = .ok (.iconst (-1), 1) := by decide +kernel
theorem dX8_soonest_44 : decode cX8_soonest 44 = .ok (.if_icmp .ne 6, 3) := by decide +kernel
theorem dX8_soonest_47 : decode cX8_soonest 47 = .ok (.iload 4, 2) := by decide +kernel
theorem dX8_soonest_49 : decode cX8_soonest 49 = .ok (.ireturn, 1) := by decide +kernel
theorem dX8_soonest_50 : decode cX8_soonest 50 = .ok (.iload_n 3, 1) := by decide +kernel
theorem dX8_soonest_51 : decode cX8_soonest 51 = .ok (.ifCond .lt 33, 3) := by decide +kernel
theorem dX8_soonest_54 : decode cX8_soonest 54 = .ok (.iload_n 3, 1) := by decide +kernel
theorem dX8_soonest_55 : decode cX8_soonest 55 = .ok (.iload 4, 2) := by decide +kernel
theorem dX8_soonest_57 : decode cX8_soonest 57 = .ok (.if_icmp .ge 27, 3) := by decide +kernel
theorem dX8_soonest_60 : decode cX8_soonest 60 = .ok (.iload_n 3, 1) := by decide +kernel
theorem dX8_soonest_61 : decode cX8_soonest 61 = .ok (.aload_n 0, 1) := by decide +kernel
theorem dX8_soonest_62 : decode cX8_soonest 62 = .ok (.getfield 64, 3) := by decide +kernel
theorem dX8_soonest_65 : decode cX8_soonest 65 = .ok (.getfield 324, 3) := by decide +kernel
theorem dX8_soonest_68 : decode cX8_soonest 68 = .ok (.arraylength, 1) := by decide +kernel
theorem dX8_soonest_69 : decode cX8_soonest 69 = .ok (.if_icmp .ge 15, 3) := by decide +kernel
theorem dX8_soonest_72 : decode cX8_soonest 72 = .ok (.aload_n 0, 1) := by decide +kernel
theorem dX8_soonest_73 : decode cX8_soonest 73 = .ok (.getfield 64, 3) := by decide +kernel
theorem dX8_soonest_76 : decode cX8_soonest 76 = .ok (.getfield 324, 3) := by decide +kernel
theorem dX8_soonest_79 : decode cX8_soonest 79 = .ok (.iload_n 3, 1) := by decide +kernel
theorem dX8_soonest_80 : decode cX8_soonest 80 = .ok (.iaload, 1) := by decide +kernel
theorem dX8_soonest_81 : decode cX8_soonest 81 = .ok (.goto 4, 3) := by decide +kernel
theorem dX8_soonest_84 : decode cX8_soonest 84 = .ok (.iconst (-1), 1) := by decide +kernel
theorem dX8_soonest_85 : decode cX8_soonest 85 = .ok (.ireturn, 1) := by decide +kernel
theorem dX8_near_0 : decode cX8_near 0 = .ok (.aload_n 0, 1) := by decide +kernel
theorem dX8_near_1 : decode cX8_near 1 = .ok (.getfield 12, 3) := by decide +kernel
theorem dX8_near_4 : decode cX8_near 4 = .ok (.iload_n 1, 1) := by decide +kernel
theorem dX8_near_5 : decode cX8_near 5 = .ok (.invokevirtual 151, 3) := by decide +kernel
theorem dX8_near_8 : decode cX8_near 8 = .ok (.ifCond .eq 13, 3) := by decide +kernel
theorem dX8_near_11 : decode cX8_near 11 = .ok (.iload_n 2, 1) := by decide +kernel
theorem dX8_near_12 : decode cX8_near 12 = .ok (.ifCond .lt 9, 3) := by decide +kernel
theorem dX8_near_15 : decode cX8_near 15 = .ok (.iload_n 2, 1) := by decide +kernel
theorem dX8_near_16 : decode cX8_near 16 = .ok (.bipush 10, 2) := by decide +kernel
theorem dX8_near_18 : decode cX8_near 18 = .ok (.if_icmp .le 5, 3) := by decide +kernel
theorem dX8_near_21 : decode cX8_near 21 = .ok (.iconst (-1), 1) := by decide +kernel
theorem dX8_near_22 : decode cX8_near 22 = .ok (.ireturn, 1) := by decide +kernel
theorem dX8_near_23 : decode cX8_near 23 = .ok (.aload_n 0, 1) := by decide +kernel
theorem dX8_near_24 : decode cX8_near 24 = .ok (.getfield 64, 3) := by decide +kernel
theorem dX8_near_27 : decode cX8_near 27 = .ok (.aload_n 0, 1) := by decide +kernel
theorem dX8_near_28 : decode cX8_near 28 = .ok (.getfield 12, 3) := by decide +kernel
theorem dX8_near_31 : decode cX8_near 31 = .ok (.iload_n 1, 1) := by decide +kernel
theorem dX8_near_32 : decode cX8_near 32 = .ok (.invokevirtual 327, 3) := by decide +kernel
theorem dX8_near_35 : decode cX8_near 35 = .ok (.aload_n 0, 1) := by decide +kernel
theorem dX8_near_36 : decode cX8_near 36 = .ok (.getfield 12, 3) := by decide +kernel
theorem dX8_near_39 : decode cX8_near 39 = .ok (.iload_n 1, 1) := by decide +kernel
theorem dX8_near_40 : decode cX8_near 40 = .ok (.aload_n 0, 1) := by decide +kernel
theorem dX8_near_41 : decode cX8_near 41 = .ok (.getfield 12, 3) := by decide +kernel
theorem dX8_near_44 : decode cX8_near 44 = .ok (.getfield 103, 3) := by decide +kernel
theorem dX8_near_47 : decode cX8_near 47 = .ok (.invokevirtual 331, 3) := by decide +kernel
theorem dX8_near_50 : decode cX8_near 50 = .ok (.aload_n 0, 1) := by decide +kernel
theorem dX8_near_51 : decode cX8_near 51 = .ok (.getfield 12, 3) := by decide +kernel
theorem dX8_near_54 : decode cX8_near 54 = .ok (.getfield 132, 3) := by decide +kernel
theorem dX8_near_57 : decode cX8_near 57 = .ok (.iconst 0, 1) := by decide +kernel
theorem dX8_near_58 : decode cX8_near 58 = .ok (.iaload, 1) := by decide +kernel
theorem dX8_near_59 : decode cX8_near 59 = .ok (.invokevirtual 334, 3) := by decide +kernel
theorem dX8_near_62 : decode cX8_near 62 = .ok (.istore_n 3, 1) := by decide +kernel
theorem dX8_near_63 : decode cX8_near 63 = .ok (.aload_n 0, 1) := by decide +kernel
theorem dX8_near_64 : decode cX8_near 64 = .ok (.getfield 64, 3) := by decide +kernel
theorem dX8_near_67 : decode cX8_near 67 = .ok (.iconst 1, 1) := by decide +kernel
theorem dX8_near_68 : decode cX8_near 68 = .ok (.aload_n 0, 1) := by decide +kernel
theorem dX8_near_69 : decode cX8_near 69 = .ok (.getfield 12, 3) := by decide +kernel
theorem dX8_near_72 : decode cX8_near 72 = .ok (.getfield 148, 3) := by decide +kernel
theorem dX8_near_75 : decode cX8_near 75 = .ok (.iload_n 1, 1) := by decide +kernel
theorem dX8_near_76 : decode cX8_near 76 = .ok (.iaload, 1) := by decide +kernel
theorem dX8_near_77 : decode cX8_near 77 = .ok (.ishl, 1) := by decide +kernel
theorem dX8_near_78 : decode cX8_near 78 = .ok (.iload_n 2, 1) := by decide +kernel
theorem dX8_near_79 : decode cX8_near 79 = .ok (.iload_n 3, 1) := by decide +kernel
theorem dX8_near_80 : decode cX8_near 80 = .ok (.invokevirtual 337, 3) := by decide +kernel
theorem dX8_near_83 : decode cX8_near 83 = .ok (.ireturn, 1) := by decide +kernel
theorem dX8_cut_0 : decode cX8_cut 0 = .ok (.aload_n 0, 1) := by decide +kernel
theorem dX8_cut_1 : decode cX8_cut 1 = .ok (.getfield 12, 3) := by decide +kernel
theorem dX8_cut_4 : decode cX8_cut 4 = .ok (.iload_n 1, 1) := by decide +kernel
theorem dX8_cut_5 : decode cX8_cut 5 = .ok (.invokevirtual 151, 3) := by decide +kernel
theorem dX8_cut_8 : decode cX8_cut 8 = .ok (.ifCond .eq 26, 3) := by decide +kernel
theorem dX8_cut_11 : decode cX8_cut 11 = .ok (.aload_n 0, 1) := by decide +kernel
theorem dX8_cut_12 : decode cX8_cut 12 = .ok (.getfield 12, 3) := by decide +kernel
theorem dX8_cut_15 : decode cX8_cut 15 = .ok (.getfield 103, 3) := by decide +kernel
theorem dX8_cut_18 : decode cX8_cut 18 = .ok (.iload_n 2, 1) := by decide +kernel
theorem dX8_cut_19 : decode cX8_cut 19 = .ok (.invokevirtual 122, 3) := by decide +kernel
theorem dX8_cut_22 : decode cX8_cut 22 = .ok (.ifCond .eq 12, 3) := by decide +kernel
theorem dX8_cut_25 : decode cX8_cut 25 = .ok (.iload_n 3, 1) := by decide +kernel
theorem dX8_cut_26 : decode cX8_cut 26 = .ok (.ifCond .lt 8, 3) := by decide +kernel
theorem dX8_cut_29 : decode cX8_cut 29 = .ok (.iload_n 3, 1) := by decide +kernel
theorem dX8_cut_30 : decode cX8_cut 30 = .ok (.iconst 1, 1) := by decide +kernel
theorem dX8_cut_31 : decode cX8_cut 31 = .ok (.if_icmp .le 5, 3) := by decide +kernel
theorem dX8_cut_34 : decode cX8_cut 34 = .ok (.iconst (-1), 1) := by decide +kernel
theorem dX8_cut_35 : decode cX8_cut 35 = .ok (.ireturn, 1) := by decide +kernel
theorem dX8_cut_36 : decode cX8_cut 36 = .ok (.aload_n 0, 1) := by decide +kernel
theorem dX8_cut_37 : decode cX8_cut 37 = .ok (.getfield 12, 3) := by decide +kernel
theorem dX8_cut_40 : decode cX8_cut 40 = .ok (.getfield 148, 3) := by decide +kernel
theorem dX8_cut_43 : decode cX8_cut 43 = .ok (.iload_n 1, 1) := by decide +kernel
theorem dX8_cut_44 : decode cX8_cut 44 = .ok (.iaload, 1) := by decide +kernel
theorem dX8_cut_45 : decode cX8_cut 45 = .ok (.iload_n 2, 1) := by decide +kernel
theorem dX8_cut_46 : decode cX8_cut 46 = .ok (.if_icmp .eq 15, 3) := by decide +kernel
theorem dX8_cut_49 : decode cX8_cut 49 = .ok (.aload_n 0, 1) := by decide +kernel
theorem dX8_cut_50 : decode cX8_cut 50 = .ok (.getfield 12, 3) := by decide +kernel
theorem dX8_cut_53 : decode cX8_cut 53 = .ok (.iload_n 1, 1) := by decide +kernel
theorem dX8_cut_54 : decode cX8_cut 54 = .ok (.iload_n 2, 1) := by decide +kernel
theorem dX8_cut_55 : decode cX8_cut 55 = .ok (.invokevirtual 203, 3) := by decide +kernel
theorem dX8_cut_58 : decode cX8_cut 58 = .ok (.ifCond .eq 5, 3) := by decide +kernel
theorem dX8_cut_61 : decode cX8_cut 61 = .ok (.iconst (-1), 1) := by decide +kernel
theorem dX8_cut_62 : decode cX8_cut 62 = .ok (.ireturn, 1) := by decide +kernel
theorem dX8_cut_63 : decode cX8_cut 63 = .ok (.aload_n 0, 1) := by decide +kernel
theorem dX8_cut_64 : decode cX8_cut 64 = .ok (.getfield 64, 3) := by decide +kernel
theorem dX8_cut_67 : decode cX8_cut 67 = .ok (.aload_n 0, 1) := by decide +kernel
theorem dX8_cut_68 : decode cX8_cut 68 = .ok (.getfield 12, 3) := by decide +kernel
theorem dX8_cut_71 : decode cX8_cut 71 = .ok (.iload_n 1, 1) := by decide +kernel
theorem dX8_cut_72 : decode cX8_cut 72 = .ok (.iload_n 2, 1) := by decide +kernel
theorem dX8_cut_73 : decode cX8_cut 73 = .ok (.invokevirtual 340, 3) := by decide +kernel
theorem dX8_cut_76 : decode cX8_cut 76 = .ok (.istore 4, 2) := by decide +kernel
theorem dX8_cut_78 : decode cX8_cut 78 = .ok (.iload_n 3, 1) := by decide +kernel
theorem dX8_cut_79 : decode cX8_cut 79 = .ok (.ifCond .ne 11, 3) := by decide +kernel
theorem dX8_cut_82 : decode cX8_cut 82 = .ok (.iload 4, 2) := by decide +kernel
theorem dX8_cut_84 : decode cX8_cut 84 = .ok (.invokestatic 343, 3) := by decide +kernel
theorem dX8_cut_87 : decode cX8_cut 87 = .ok (.goto 5, 3) := by decide +kernel
theorem dX8_cut_90 : decode cX8_cut 90 = .ok (.iload 4, 2) := by decide +kernel
theorem dX8_cut_92 : decode cX8_cut 92 = .ok (.ireturn, 1) := by decide +kernel
theorem dX8_roost_0 : decode cX8_roost 0 = .ok (.aload_n 0, 1) := by decide +kernel
theorem dX8_roost_1 : decode cX8_roost 1 = .ok (.getfield 12, 3) := by decide +kernel
theorem dX8_roost_4 : decode cX8_roost 4 = .ok (.iload_n 1, 1) := by decide +kernel
theorem dX8_roost_5 : decode cX8_roost 5 = .ok (.invokevirtual 151, 3) := by decide +kernel
theorem dX8_roost_8 : decode cX8_roost 8 = .ok (.ifCond .eq 18, 3) := by decide +kernel
theorem dX8_roost_11 : decode cX8_roost 11 = .ok (.aload_n 0, 1) := by decide +kernel
theorem dX8_roost_12 : decode cX8_roost 12 = .ok (.getfield 64, 3) := by decide +kernel
theorem dX8_roost_15 : decode cX8_roost 15 = .ok (.aload_n 0, 1) := by decide +kernel
theorem dX8_roost_16 : decode cX8_roost 16 = .ok (.getfield 12, 3) := by decide +kernel
theorem dX8_roost_19 : decode cX8_roost 19 = .ok (.iload_n 1, 1) := by decide +kernel
theorem dX8_roost_20 : decode cX8_roost 20 = .ok (.invokevirtual 348, 3) := by decide +kernel
theorem dX8_roost_23 : decode cX8_roost 23 = .ok (.goto 4, 3) := by decide +kernel
theorem dX8_roost_26 : decode cX8_roost 26 = .ok (.iconst (-1), 1) := by decide +kernel
theorem dX8_roost_27 : decode cX8_roost 27 = .ok (.ireturn, 1) := by decide +kernel
theorem dX8_where_0 : decode cX8_where 0 = .ok (.aload_n 0, 1) := by decide +kernel
theorem dX8_where_1 : decode cX8_where 1 = .ok (.getfield 12, 3) := by decide +kernel
theorem dX8_where_4 : decode cX8_where 4 = .ok (.iload_n 1, 1) := by decide +kernel
theorem dX8_where_5 : decode cX8_where 5 = .ok (.invokevirtual 160, 3) := by decide +kernel
theorem dX8_where_8 : decode cX8_where 8 = .ok (.ifCond .eq 13, 3) := by decide +kernel
theorem dX8_where_11 : decode cX8_where 11 = .ok (.iload_n 2, 1) := by decide +kernel
theorem dX8_where_12 : decode cX8_where 12 = .ok (.ifCond .lt 9, 3) := by decide +kernel
theorem dX8_where_15 : decode cX8_where 15 = .ok (.iload_n 2, 1) := by decide +kernel
theorem dX8_where_16 : decode cX8_where 16 = .ok (.bipush 60, 2) := by decide +kernel
theorem dX8_where_18 : decode cX8_where 18 = .ok (.if_icmp .le 5, 3) := by decide +kernel
theorem dX8_where_21 : decode cX8_where 21 = .ok (.iconst (-1), 1) := by decide +kernel
theorem dX8_where_22 : decode cX8_where 22 = .ok (.ireturn, 1) := by decide +kernel
theorem dX8_where_23 : decode cX8_where 23 = .ok (.aload_n 0, 1) := by decide +kernel
theorem dX8_where_24 : decode cX8_where 24 = .ok (.getfield 64, 3) := by decide +kernel
theorem dX8_where_27 : decode cX8_where 27 = .ok (.aload_n 0, 1) := by decide +kernel
theorem dX8_where_28 : decode cX8_where 28 = .ok (.getfield 12, 3) := by decide +kernel
theorem dX8_where_31 : decode cX8_where 31 = .ok (.iload_n 1, 1) := by decide +kernel
theorem dX8_where_32 : decode cX8_where 32 = .ok (.invokevirtual 352, 3) := by decide +kernel
theorem dX8_where_35 : decode cX8_where 35 = .ok (.aload_n 0, 1) := by decide +kernel
theorem dX8_where_36 : decode cX8_where 36 = .ok (.getfield 64, 3) := by decide +kernel
theorem dX8_where_39 : decode cX8_where 39 = .ok (.getfield 355, 3) := by decide +kernel
theorem dX8_where_42 : decode cX8_where 42 = .ok (.iload_n 1, 1) := by decide +kernel
theorem dX8_where_43 : decode cX8_where 43 = .ok (.aaload, 1) := by decide +kernel
theorem dX8_where_44 : decode cX8_where 44 = .ok (.iload_n 2, 1) := by decide +kernel
theorem dX8_where_45 : decode cX8_where 45 = .ok (.iaload, 1) := by decide +kernel
theorem dX8_where_46 : decode cX8_where 46 = .ok (.ireturn, 1) := by decide +kernel
theorem dX8_meeting_0 : decode cX8_meeting 0 = .ok (.aload_n 0, 1) := by decide +kernel
theorem dX8_meeting_1 : decode cX8_meeting 1 = .ok (.getfield 12, 3) := by decide +kernel
theorem dX8_meeting_4 : decode cX8_meeting 4 = .ok (.iload_n 1, 1) := by decide +kernel
theorem dX8_meeting_5 : decode cX8_meeting 5 = .ok (.invokevirtual 151, 3) := by decide +kernel
theorem dX8_meeting_8 : decode cX8_meeting 8 = .ok (.ifCond .eq 14, 3) := by decide +kernel
theorem dX8_meeting_11 : decode cX8_meeting 11 = .ok (.aload_n 0, 1) := by decide +kernel
theorem dX8_meeting_12 : decode cX8_meeting 12 = .ok (.getfield 12, 3) := by decide +kernel
theorem dX8_meeting_15 : decode cX8_meeting 15 = .ok (.iload_n 2, 1) := by decide +kernel
theorem dX8_meeting_16 : decode cX8_meeting 16 = .ok (.invokevirtual 160, 3) := by decide +kernel
theorem dX8_meeting_19 : decode cX8_meeting 19 = .ok (.ifCond .ne 5, 3) := by decide +kernel
theorem dX8_meeting_22 : decode cX8_meeting 22 = .ok (.iconst (-1), 1) := by decide +kernel
theorem dX8_meeting_23 : decode cX8_meeting 23 = .ok (.ireturn, 1) := by decide +kernel
theorem dX8_meeting_24 : decode cX8_meeting 24 = .ok (.aload_n 0, 1) := by decide +kernel
theorem dX8_meeting_25 : decode cX8_meeting 25 = .ok (.getfield 64, 3) := by decide +kernel
theorem dX8_meeting_28 : decode cX8_meeting 28 = .ok (.aload_n 0, 1) := by decide +kernel
theorem dX8_meeting_29 : decode cX8_meeting 29 = .ok (.getfield 12, 3) := by decide +kernel
theorem dX8_meeting_32 : decode cX8_meeting 32 = .ok (.iload_n 2, 1) := by decide +kernel
theorem dX8_meeting_33 : decode cX8_meeting 33 = .ok (.invokevirtual 352, 3) := by decide +kernel
theorem dX8_meeting_36 : decode cX8_meeting 36 = .ok (.aload_n 0, 1) := by decide +kernel
theorem dX8_meeting_37 : decode cX8_meeting 37 = .ok (.getfield 12, 3) := by decide +kernel
theorem dX8_meeting_40 : decode cX8_meeting 40 = .ok (.getfield 103, 3) := by decide +kernel
theorem dX8_meeting_43 : decode cX8_meeting 43 = .ok (.aload_n 0, 1) := by decide +kernel
theorem dX8_meeting_44 : decode cX8_meeting 44 = .ok (.getfield 12, 3) := by decide +kernel
theorem dX8_meeting_47 : decode cX8_meeting 47 = .ok (.getfield 148, 3) := by decide +kernel
theorem dX8_meeting_50 : decode cX8_meeting 50 = .ok (.iload_n 1, 1) := by decide +kernel
theorem dX8_meeting_51 : decode cX8_meeting 51 = .ok (.iaload, 1) := by decide +kernel
theorem dX8_meeting_52 : decode cX8_meeting 52 = .ok (.invokevirtual 126, 3) := by decide +kernel
theorem dX8_meeting_55 : decode cX8_meeting 55 = .ok (.istore_n 3, 1) := by decide +kernel
theorem dX8_meeting_56 : decode cX8_meeting 56 = .ok (.iconst 0, 1) := by decide +kernel
theorem dX8_meeting_57 : decode cX8_meeting 57 = .ok (.istore 4, 2) := by decide +kernel
theorem dX8_meeting_59 : decode cX8_meeting 59 = .ok (.iload 4, 2) := by decide +kernel
theorem dX8_meeting_61 : decode cX8_meeting 61 = .ok (.bipush 60, 2) := by decide +kernel
theorem dX8_meeting_63 : decode cX8_meeting 63 = .ok (.if_icmp .gt 28, 3) := by decide +kernel
theorem dX8_meeting_66 : decode cX8_meeting 66 = .ok (.aload_n 0, 1) := by decide +kernel
theorem dX8_meeting_67 : decode cX8_meeting 67 = .ok (.getfield 64, 3) := by decide +kernel
theorem dX8_meeting_70 : decode cX8_meeting 70 = .ok (.getfield 355, 3) := by decide +kernel
theorem dX8_meeting_73 : decode cX8_meeting 73 = .ok (.iload_n 2, 1) := by decide +kernel
theorem dX8_meeting_74 : decode cX8_meeting 74 = .ok (.aaload, 1) := by decide +kernel
theorem dX8_meeting_75 : decode cX8_meeting 75 = .ok (.iload 4, 2) := by decide +kernel
theorem dX8_meeting_77 : decode cX8_meeting 77 = .ok (.iaload, 1) := by decide +kernel
theorem dX8_meeting_78 : decode cX8_meeting 78 = .ok (.iload_n 3, 1) := by decide +kernel
theorem dX8_meeting_79 : decode cX8_meeting 79 = .ok (.if_icmp .ne 6, 3) := by decide +kernel
theorem dX8_meeting_82 : decode cX8_meeting 82 = .ok (.iload 4, 2) := by decide +kernel
theorem dX8_meeting_84 : decode cX8_meeting 84 = .ok (.ireturn, 1) := by decide +kernel
theorem dX8_meeting_85 : decode cX8_meeting 85 = .ok (.iinc 4 1, 3) := by decide +kernel
theorem dX8_meeting_88 : decode cX8_meeting 88 = .ok (.goto (-29), 3) := by decide +kernel
theorem dX8_meeting_91 : decode cX8_meeting 91 = .ok (.iconst (-1), 1) := by decide +kernel
theorem dX8_meeting_92 : decode cX8_meeting 92 = .ok (.ireturn, 1) := by decide +kernel
theorem dX8_free_0 : decode cX8_free 0 = .ok (.iload_n 1, 1) := by decide +kernel
theorem dX8_free_1 : decode cX8_free 1 = .ok (.i2l, 1) := by decide +kernel
theorem dX8_free_2 : decode cX8_free 2 = .ok (.invokestatic 95, 3) := by decide +kernel
theorem dX8_free_5 : decode cX8_free 5 = .ok (.ifCond .ne 5, 3) := by decide +kernel
theorem dX8_free_8 : decode cX8_free 8 = .ok (.iconst (-1), 1) := by decide +kernel
theorem dX8_free_9 : decode cX8_free 9 = .ok (.ireturn, 1) := by decide +kernel
theorem dX8_free_10 : decode cX8_free 10 = .ok (.iconst 0, 1) := by decide +kernel
theorem dX8_free_11 : decode cX8_free 11 = .ok (.istore_n 2, 1) := by decide +kernel
theorem dX8_free_12 : decode cX8_free 12 = .ok (.iload_n 2, 1) := by decide +kernel
theorem dX8_free_13 : decode cX8_free 13 = .ok (.bipush 48, 2) := by decide +kernel
theorem dX8_free_15 : decode cX8_free 15 = .ok (.if_icmp .gt 40, 3) := by decide +kernel
theorem dX8_free_18 : decode cX8_free 18 = .ok (.aload_n 0, 1) := by decide +kernel
theorem dX8_free_19 : decode cX8_free 19 = .ok (.getfield 12, 3) := by decide +kernel
theorem dX8_free_22 : decode cX8_free 22 = .ok (.aload_n 0, 1) := by decide +kernel
theorem dX8_free_23 : decode cX8_free 23 = .ok (.getfield 12, 3) := by decide +kernel
theorem dX8_free_26 : decode cX8_free 26 = .ok (.invokevirtual 189, 3) := by decide +kernel
theorem dX8_free_29 : decode cX8_free 29 = .ok (.iload_n 1, 1) := by decide +kernel
theorem dX8_free_30 : decode cX8_free 30 = .ok (.aload_n 0, 1) := by decide +kernel
theorem dX8_free_31 : decode cX8_free 31 = .ok (.getfield 12, 3) := by decide +kernel
theorem dX8_free_34 : decode cX8_free 34 = .ok (.getfield 132, 3) := by decide +kernel
theorem dX8_free_37 : decode cX8_free 37 = .ok (.iconst 0, 1) := by decide +kernel
theorem dX8_free_38 : decode cX8_free 38 = .ok (.iaload, 1) := by decide +kernel
theorem dX8_free_39 : decode cX8_free 39 = .ok (.iload_n 2, 1) := by decide +kernel
theorem dX8_free_40 : decode cX8_free 40 = .ok (.iadd, 1) := by decide +kernel
theorem dX8_free_41 : decode cX8_free 41 = .ok (.invokevirtual 193, 3) := by decide +kernel
theorem dX8_free_44 : decode cX8_free 44 = .ok (.ifCond .ne 5, 3) := by decide +kernel
theorem dX8_free_47 : decode cX8_free 47 = .ok (.iload_n 2, 1) := by decide +kernel
theorem dX8_free_48 : decode cX8_free 48 = .ok (.ireturn, 1) := by decide +kernel
theorem dX8_free_49 : decode cX8_free 49 = .ok (.iinc 2 1, 3) := by decide +kernel
theorem dX8_free_52 : decode cX8_free 52 = .ok (.goto (-40), 3) := by decide +kernel
theorem dX8_free_55 : decode cX8_free 55 = .ok (.iconst (-1), 1) := by decide +kernel
theorem dX8_free_56 : decode cX8_free 56 = .ok (.ireturn, 1) := by decide +kernel
theorem dX8_shares_0 : decode cX8_shares 0 = .ok (.iload_n 1, 1) := by decide +kernel
theorem dX8_shares_1 : decode cX8_shares 1 = .ok (.ifCond .lt 8, 3) := by decide +kernel
theorem dX8_shares_4 : decode cX8_shares 4 = .ok (.iload_n 1, 1) := by decide +kernel
theorem dX8_shares_5 : decode cX8_shares 5 = .ok (.iconst 1, 1) := by decide +kernel
theorem dX8_shares_6 : decode cX8_shares 6 = .ok (.if_icmp .le 5, 3) := by decide +kernel
theorem dX8_shares_9 : decode cX8_shares 9 = .ok (.iconst (-1), 1) := by decide +kernel
theorem dX8_shares_10 : decode cX8_shares 10 = .ok (.ireturn, 1) := by decide +kernel
theorem dX8_shares_11 : decode cX8_shares 11 = .ok (.iconst 0, 1) := by decide +kernel
theorem dX8_shares_12 : decode cX8_shares 12 = .ok (.istore_n 2, 1) := by decide +kernel
theorem dX8_shares_13 : decode cX8_shares 13 = .ok (.aload_n 0, 1) := by decide +kernel
theorem dX8_shares_14 : decode cX8_shares 14 = .ok (.getfield 12, 3) := by decide +kernel
theorem dX8_shares_17 : decode cX8_shares 17 = .ok (.iconst 0, 1) := by decide +kernel
theorem dX8_shares_18 : decode cX8_shares 18 = .ok (.invokevirtual 359, 3) := by decide +kernel
theorem dX8_shares_21 : decode cX8_shares 21 = .ok (.istore_n 3, 1) := by decide +kernel
theorem dX8_shares_22 : decode cX8_shares 22 = .ok (.iconst 1, 1) := by decide +kernel
theorem dX8_shares_23 : decode cX8_shares 23 = .ok (.istore 4, 2) := by decide +kernel
theorem dX8_shares_25 : decode cX8_shares 25 = .ok (.iload 4, 2) := by decide +kernel
theorem dX8_shares_27 : decode cX8_shares 27 = .ok (.iconst 1, 1) := by decide +kernel
theorem dX8_shares_28 : decode cX8_shares 28 = .ok (.aload_n 0, 1) := by decide +kernel
theorem dX8_shares_29 : decode cX8_shares 29 = .ok (.getfield 12, 3) := by decide +kernel
theorem dX8_shares_32 : decode cX8_shares 32 = .ok (.getfield 167, 3) := by decide +kernel
theorem dX8_shares_35 : decode cX8_shares 35 = .ok (.ishl, 1) := by decide +kernel
theorem dX8_shares_36 : decode cX8_shares 36 = .ok (.if_icmp .ge 32, 3) := by decide +kernel
theorem dX8_shares_39 : decode cX8_shares 39 = .ok (.aload_n 0, 1) := by decide +kernel
theorem dX8_shares_40 : decode cX8_shares 40 = .ok (.getfield 12, 3) := by decide +kernel
theorem dX8_shares_43 : decode cX8_shares 43 = .ok (.iload 4, 2) := by decide +kernel
theorem dX8_shares_45 : decode cX8_shares 45 = .ok (.invokevirtual 359, 3) := by decide +kernel
theorem dX8_shares_48 : decode cX8_shares 48 = .ok (.istore 5, 2) := by decide +kernel
theorem dX8_shares_50 : decode cX8_shares 50 = .ok (.iload 5, 2) := by decide +kernel
theorem dX8_shares_52 : decode cX8_shares 52 = .ok (.iload_n 3, 1) := by decide +kernel
theorem dX8_shares_53 : decode cX8_shares 53 = .ok (.if_icmp .le 9, 3) := by decide +kernel
theorem dX8_shares_56 : decode cX8_shares 56 = .ok (.iload 5, 2) := by decide +kernel
theorem dX8_shares_58 : decode cX8_shares 58 = .ok (.istore_n 3, 1) := by decide +kernel
theorem dX8_shares_59 : decode cX8_shares 59 = .ok (.iload 4, 2) := by decide +kernel
theorem dX8_shares_61 : decode cX8_shares 61 = .ok (.istore_n 2, 1) := by decide +kernel
theorem dX8_shares_62 : decode cX8_shares 62 = .ok (.iinc 4 1, 3) := by decide +kernel
theorem dX8_shares_65 : decode cX8_shares 65 = .ok (.goto (-40), 3) := by decide +kernel
theorem dX8_shares_68 : decode cX8_shares 68 = .ok (.iload_n 1, 1) := by decide +kernel
theorem dX8_shares_69 : decode cX8_shares 69 = .ok (.ifCond .ne 7, 3) := by decide +kernel
theorem dX8_shares_72 : decode cX8_shares 72 = .ok (.iload_n 3, 1) := by decide +kernel
theorem dX8_shares_73 : decode cX8_shares 73 = .ok (.goto 4, 3) := by decide +kernel
theorem dX8_shares_76 : decode cX8_shares 76 = .ok (.iload_n 2, 1) := by decide +kernel
theorem dX8_shares_77 : decode cX8_shares 77 = .ok (.ireturn, 1) := by decide +kernel
theorem dX8_low_0 : decode cX8_low 0 = .ok (.iload_n 1, 1) := by decide +kernel
theorem dX8_low_1 : decode cX8_low 1 = .ok (.i2l, 1) := by decide +kernel
theorem dX8_low_2 : decode cX8_low 2 = .ok (.invokestatic 95, 3) := by decide +kernel
theorem dX8_low_5 : decode cX8_low 5 = .ok (.ifCond .ne 5, 3) := by decide +kernel
theorem dX8_low_8 : decode cX8_low 8 = .ok (.iconst (-1), 1) := by decide +kernel
theorem dX8_low_9 : decode cX8_low 9 = .ok (.ireturn, 1) := by decide +kernel
theorem dX8_low_10 : decode cX8_low 10 = .ok (.aload_n 0, 1) := by decide +kernel
theorem dX8_low_11 : decode cX8_low 11 = .ok (.getfield 12, 3) := by decide +kernel
theorem dX8_low_14 : decode cX8_low 14 = .ok (.aload_n 0, 1) := by decide +kernel
theorem dX8_low_15 : decode cX8_low 15 = .ok (.getfield 12, 3) := by decide +kernel
theorem dX8_low_18 : decode cX8_low 18 = .ok (.invokevirtual 189, 3) := by decide +kernel
theorem dX8_low_21 : decode cX8_low 21 = .ok (.iload_n 1, 1) := by decide +kernel
theorem dX8_low_22 : decode cX8_low 22 = .ok (.aload_n 0, 1) := by decide +kernel
theorem dX8_low_23 : decode cX8_low 23 = .ok (.getfield 12, 3) := by decide +kernel
theorem dX8_low_26 : decode cX8_low 26 = .ok (.getfield 132, 3) := by decide +kernel
theorem dX8_low_29 : decode cX8_low 29 = .ok (.iconst 0, 1) := by decide +kernel
theorem dX8_low_30 : decode cX8_low 30 = .ok (.iaload, 1) := by decide +kernel
theorem dX8_low_31 : decode cX8_low 31 = .ok (.invokevirtual 193, 3) := by decide +kernel
theorem dX8_low_34 : decode cX8_low 34 = .ok (.istore_n 2, 1) := by decide +kernel
theorem dX8_low_35 : decode cX8_low 35 = .ok (.iconst 0, 1) := by decide +kernel
theorem dX8_low_36 : decode cX8_low 36 = .ok (.istore_n 3, 1) := by decide +kernel
theorem dX8_low_37 : decode cX8_low 37 = .ok (.iconst 0, 1) := by decide +kernel
theorem dX8_low_38 : decode cX8_low 38 = .ok (.istore 4, 2) := by decide +kernel
theorem dX8_low_40 : decode cX8_low 40 = .ok (.iload 4, 2) := by decide +kernel
theorem dX8_low_42 : decode cX8_low 42 = .ok (.aload_n 0, 1) := by decide +kernel
theorem dX8_low_43 : decode cX8_low 43 = .ok (.getfield 12, 3) := by decide +kernel
theorem dX8_low_46 : decode cX8_low 46 = .ok (.getfield 167, 3) := by decide +kernel
theorem dX8_low_49 : decode cX8_low 49 = .ok (.if_icmp .ge 67, 3) := by decide +kernel
theorem dX8_low_52 : decode cX8_low 52 = .ok (.iload 4, 2) := by decide +kernel
theorem dX8_low_54 : decode cX8_low 54 = .ok (.bipush 6, 2) := by decide +kernel
theorem dX8_low_56 : decode cX8_low 56 = .ok (.if_icmp .ge 60, 3) := by decide +kernel
theorem dX8_low_59 : decode cX8_low 59 = .ok (.aload_n 0, 1) := by decide +kernel
theorem dX8_low_60 : decode cX8_low 60 = .ok (.getfield 12, 3) := by decide +kernel
theorem dX8_low_63 : decode cX8_low 63 = .ok (.getfield 170, 3) := by decide +kernel
theorem dX8_low_66 : decode cX8_low 66 = .ok (.iload 4, 2) := by decide +kernel
theorem dX8_low_68 : decode cX8_low 68 = .ok (.iaload, 1) := by decide +kernel
theorem dX8_low_69 : decode cX8_low 69 = .ok (.istore 5, 2) := by decide +kernel
theorem dX8_low_71 : decode cX8_low 71 = .ok (.aload_n 0, 1) := by decide +kernel
theorem dX8_low_72 : decode cX8_low 72 = .ok (.getfield 12, 3) := by decide +kernel
theorem dX8_low_75 : decode cX8_low 75 = .ok (.getfield 103, 3) := by decide +kernel
theorem dX8_low_78 : decode cX8_low 78 = .ok (.iload 5, 2) := by decide +kernel
theorem dX8_low_80 : decode cX8_low 80 = .ok (.invokevirtual 126, 3) := by decide +kernel
theorem dX8_low_83 : decode cX8_low 83 = .ok (.iload_n 1, 1) := by decide +kernel
theorem dX8_low_84 : decode cX8_low 84 = .ok (.if_icmp .ne 26, 3) := by decide +kernel
theorem dX8_low_87 : decode cX8_low 87 = .ok (.aload_n 0, 1) := by decide +kernel
theorem dX8_low_88 : decode cX8_low 88 = .ok (.getfield 12, 3) := by decide +kernel
theorem dX8_low_91 : decode cX8_low 91 = .ok (.getfield 103, 3) := by decide +kernel
theorem dX8_low_94 : decode cX8_low 94 = .ok (.iload 5, 2) := by decide +kernel
theorem dX8_low_96 : decode cX8_low 96 = .ok (.invokevirtual 129, 3) := by decide +kernel
theorem dX8_low_99 : decode cX8_low 99 = .ok (.iload_n 2, 1) := by decide +kernel
theorem dX8_low_100 : decode cX8_low 100 = .ok (.if_icmp .ge 10, 3) := by decide +kernel
theorem dX8_low_103 : decode cX8_low 103 = .ok (.iload_n 3, 1) := by decide +kernel
theorem dX8_low_104 : decode cX8_low 104 = .ok (.iconst 1, 1) := by decide +kernel
theorem dX8_low_105 : decode cX8_low 105 = .ok (.iload 4, 2) := by decide +kernel
theorem dX8_low_107 : decode cX8_low 107 = .ok (.ishl, 1) := by decide +kernel
theorem dX8_low_108 : decode cX8_low 108 = .ok (.ior, 1) := by decide +kernel
theorem dX8_low_109 : decode cX8_low 109 = .ok (.istore_n 3, 1) := by decide +kernel
theorem dX8_low_110 : decode cX8_low 110 = .ok (.iinc 4 1, 3) := by decide +kernel
theorem dX8_low_113 : decode cX8_low 113 = .ok (.goto (-73), 3) := by decide +kernel
theorem dX8_low_116 : decode cX8_low 116 = .ok (.iload_n 3, 1) := by decide +kernel
theorem dX8_low_117 : decode cX8_low 117 = .ok (.ireturn, 1) := by decide +kernel
theorem dX8_seen_0 : decode cX8_seen 0 = .ok (.iload_n 1, 1) := by decide +kernel
theorem dX8_seen_1 : decode cX8_seen 1 = .ok (.ifCond .lt 17, 3) := by decide +kernel
theorem dX8_seen_4 : decode cX8_seen 4 = .ok (.iload_n 1, 1) := by decide +kernel
theorem dX8_seen_5 : decode cX8_seen 5 = .ok (.bipush 60, 2) := by decide +kernel
theorem dX8_seen_7 : decode cX8_seen 7 = .ok (.if_icmp .gt 11, 3) := by decide +kernel
theorem dX8_seen_10 : decode cX8_seen 10 = .ok (.iload_n 2, 1) := by decide +kernel
theorem dX8_seen_11 : decode cX8_seen 11 = .ok (.i2l, 1) := by decide +kernel
theorem dX8_seen_12 : decode cX8_seen 12 = .ok (.invokestatic 95, 3) := by decide +kernel
theorem dX8_seen_15 : decode cX8_seen 15 = .ok (.ifCond .ne 9, 3) := by decide +kernel
theorem dX8_seen_18 : decode cX8_seen 18 = .ok (.aload_n 0, 1) := by decide +kernel
theorem dX8_seen_19 : decode cX8_seen 19 = .ok (.iconst (-1), 1) := by decide +kernel
theorem dX8_seen_20 : decode cX8_seen 20 = .ok (.invokevirtual 99, 3) := by decide +kernel
theorem dX8_seen_23 : decode cX8_seen 23 = .ok (.ireturn, 1) := by decide +kernel
theorem dX8_seen_24 : decode cX8_seen 24 = .ok (.aload_n 0, 1) := by decide +kernel
theorem dX8_seen_25 : decode cX8_seen 25 = .ok (.getfield 12, 3) := by decide +kernel
theorem dX8_seen_28 : decode cX8_seen 28 = .ok (.getfield 362, 3) := by decide +kernel
theorem dX8_seen_31 : decode cX8_seen 31 = .ok (.istore_n 3, 1) := by decide +kernel
theorem dX8_seen_32 : decode cX8_seen 32 = .ok (.iload_n 3, 1) := by decide +kernel
theorem dX8_seen_33 : decode cX8_seen 33 = .ok (.ifCond .lt 9, 3) := by decide +kernel
theorem dX8_seen_36 : decode cX8_seen 36 = .ok (.iload_n 3, 1) := by decide +kernel
theorem dX8_seen_37 : decode cX8_seen 37 = .ok (.bipush 6, 2) := by decide +kernel
theorem dX8_seen_39 : decode cX8_seen 39 = .ok (.if_icmp .lt 10, 3) := by decide +kernel
theorem dX8_seen_42 : decode cX8_seen 42 = .ok (.aload_n 0, 1) := by decide +kernel
theorem dX8_seen_43 : decode cX8_seen 43 = .ok (.bipush (-5), 2) := by decide +kernel
theorem dX8_seen_45 : decode cX8_seen 45 = .ok (.invokevirtual 99, 3) := by decide +kernel
theorem dX8_seen_48 : decode cX8_seen 48 = .ok (.ireturn, 1) := by decide +kernel
theorem dX8_seen_49 : decode cX8_seen 49 = .ok (.aload_n 0, 1) := by decide +kernel
theorem dX8_seen_50 : decode cX8_seen 50 = .ok (.getfield 12, 3) := by decide +kernel
theorem dX8_seen_53 : decode cX8_seen 53 = .ok (.getfield 365, 3) := by decide +kernel
theorem dX8_seen_56 : decode cX8_seen 56 = .ok (.iload_n 3, 1) := by decide +kernel
theorem dX8_seen_57 : decode cX8_seen 57 = .ok (.iload_n 1, 1) := by decide +kernel
theorem dX8_seen_58 : decode cX8_seen 58 = .ok (.iastore, 1) := by decide +kernel
theorem dX8_seen_59 : decode cX8_seen 59 = .ok (.aload_n 0, 1) := by decide +kernel
theorem dX8_seen_60 : decode cX8_seen 60 = .ok (.getfield 12, 3) := by decide +kernel
theorem dX8_seen_63 : decode cX8_seen 63 = .ok (.getfield 368, 3) := by decide +kernel
theorem dX8_seen_66 : decode cX8_seen 66 = .ok (.iload_n 3, 1) := by decide +kernel
theorem dX8_seen_67 : decode cX8_seen 67 = .ok (.iload_n 2, 1) := by decide +kernel
theorem dX8_seen_68 : decode cX8_seen 68 = .ok (.iastore, 1) := by decide +kernel
theorem dX8_seen_69 : decode cX8_seen 69 = .ok (.aload_n 0, 1) := by decide +kernel
theorem dX8_seen_70 : decode cX8_seen 70 = .ok (.getfield 12, 3) := by decide +kernel
theorem dX8_seen_73 : decode cX8_seen 73 = .ok (.iload_n 3, 1) := by decide +kernel
theorem dX8_seen_74 : decode cX8_seen 74 = .ok (.iconst 1, 1) := by decide +kernel
theorem dX8_seen_75 : decode cX8_seen 75 = .ok (.iadd, 1) := by decide +kernel
theorem dX8_seen_76 : decode cX8_seen 76 = .ok (.putfield 362, 3) := by decide +kernel
theorem dX8_seen_79 : decode cX8_seen 79 = .ok (.aload_n 0, 1) := by decide +kernel
theorem dX8_seen_80 : decode cX8_seen 80 = .ok (.iload_n 3, 1) := by decide +kernel
theorem dX8_seen_81 : decode cX8_seen 81 = .ok (.iconst 1, 1) := by decide +kernel
theorem dX8_seen_82 : decode cX8_seen 82 = .ok (.iadd, 1) := by decide +kernel
theorem dX8_seen_83 : decode cX8_seen 83 = .ok (.invokevirtual 119, 3) := by decide +kernel
theorem dX8_seen_86 : decode cX8_seen 86 = .ok (.ireturn, 1) := by decide +kernel
theorem dX8_forget_0 : decode cX8_forget 0 = .ok (.aload_n 0, 1) := by decide +kernel
theorem dX8_forget_1 : decode cX8_forget 1 = .ok (.getfield 12, 3) := by decide +kernel
theorem dX8_forget_4 : decode cX8_forget 4 = .ok (.getfield 362, 3) := by decide +kernel
theorem dX8_forget_7 : decode cX8_forget 7 = .ok (.istore_n 1, 1) := by decide +kernel
theorem dX8_forget_8 : decode cX8_forget 8 = .ok (.aload_n 0, 1) := by decide +kernel
theorem dX8_forget_9 : decode cX8_forget 9 = .ok (.getfield 12, 3) := by decide +kernel
theorem dX8_forget_12 : decode cX8_forget 12 = .ok (.iconst 0, 1) := by decide +kernel
theorem dX8_forget_13 : decode cX8_forget 13 = .ok (.putfield 362, 3) := by decide +kernel
theorem dX8_forget_16 : decode cX8_forget 16 = .ok (.iload_n 1, 1) := by decide +kernel
theorem dX8_forget_17 : decode cX8_forget 17 = .ok (.ireturn, 1) := by decide +kernel
theorem dX8_canBe_0 : decode cX8_canBe 0 = .ok (.aload_n 0, 1) := by decide +kernel
theorem dX8_canBe_1 : decode cX8_canBe 1 = .ok (.getfield 64, 3) := by decide +kernel
theorem dX8_canBe_4 : decode cX8_canBe 4 = .ok (.aload_n 0, 1) := by decide +kernel
theorem dX8_canBe_5 : decode cX8_canBe 5 = .ok (.getfield 12, 3) := by decide +kernel
theorem dX8_canBe_8 : decode cX8_canBe 8 = .ok (.invokevirtual 371, 3) := by decide +kernel
theorem dX8_canBe_11 : decode cX8_canBe 11 = .ok (.ireturn, 1) := by decide +kernel
theorem dX8_look_0 : decode cX8_look 0 = .ok (.iload_n 1, 1) := by decide +kernel
theorem dX8_look_1 : decode cX8_look 1 = .ok (.ifCond .lt 8, 3) := by decide +kernel
theorem dX8_look_4 : decode cX8_look 4 = .ok (.iload_n 1, 1) := by decide +kernel
theorem dX8_look_5 : decode cX8_look 5 = .ok (.iconst 1, 1) := by decide +kernel
theorem dX8_look_6 : decode cX8_look 6 = .ok (.if_icmp .le 5, 3) := by decide +kernel
theorem dX8_look_9 : decode cX8_look 9 = .ok (.iconst (-1), 1) := by decide +kernel
theorem dX8_look_10 : decode cX8_look 10 = .ok (.ireturn, 1) := by decide +kernel
theorem dX8_look_11 : decode cX8_look 11 = .ok (.aload_n 0, 1) := by decide +kernel
theorem dX8_look_12 : decode cX8_look 12 = .ok (.getfield 64, 3) := by decide +kernel
theorem dX8_look_15 : decode cX8_look 15 = .ok (.aload_n 0, 1) := by decide +kernel
theorem dX8_look_16 : decode cX8_look 16 = .ok (.getfield 12, 3) := by decide +kernel
theorem dX8_look_19 : decode cX8_look 19 = .ok (.invokevirtual 371, 3) := by decide +kernel
theorem dX8_look_22 : decode cX8_look 22 = .ok (.istore_n 2, 1) := by decide +kernel
theorem dX8_look_23 : decode cX8_look 23 = .ok (.iload_n 2, 1) := by decide +kernel
theorem dX8_look_24 : decode cX8_look 24 = .ok (.ifCond .ne 5, 3) := by decide +kernel
theorem dX8_look_27 : decode cX8_look 27 = .ok (.iconst (-1), 1) := by decide +kernel
theorem dX8_look_28 : decode cX8_look 28 = .ok (.ireturn, 1) := by decide +kernel
theorem dX8_look_29 : decode cX8_look 29 = .ok (.iconst 0, 1) := by decide +kernel
theorem dX8_look_30 : decode cX8_look 30 = .ok (.istore_n 3, 1) := by decide +kernel
theorem dX8_look_31 : decode cX8_look 31 = .ok (.aload_n 0, 1) := by decide +kernel
theorem dX8_look_32 : decode cX8_look 32 = .ok (.getfield 64, 3) := by decide +kernel
theorem dX8_look_35 : decode cX8_look 35 = .ok (.iload_n 2, 1) := by decide +kernel
theorem dX8_look_36 : decode cX8_look 36 = .ok (.iconst 0, 1) := by decide +kernel
theorem dX8_look_37 : decode cX8_look 37 = .ok (.invokevirtual 374, 3) := by decide +kernel
theorem dX8_look_40 : decode cX8_look 40 = .ok (.istore 4, 2) := by decide +kernel
theorem dX8_look_42 : decode cX8_look 42 = .ok (.iconst 1, 1) := by decide +kernel
theorem dX8_look_43 : decode cX8_look 43 = .ok (.istore 5, 2) := by decide +kernel
theorem dX8_look_45 : decode cX8_look 45 = .ok (.iload 5, 2) := by decide +kernel
theorem dX8_look_47 : decode cX8_look 47 = .ok (.bipush 60, 2) := by decide +kernel
theorem dX8_look_49 : decode cX8_look 49 = .ok (.if_icmp .gt 35, 3) := by decide +kernel
theorem dX8_look_52 : decode cX8_look 52 = .ok (.aload_n 0, 1) := by decide +kernel
theorem dX8_look_53 : decode cX8_look 53 = .ok (.getfield 64, 3) := by decide +kernel
theorem dX8_look_56 : decode cX8_look 56 = .ok (.iload_n 2, 1) := by decide +kernel
theorem dX8_look_57 : decode cX8_look 57 = .ok (.iload 5, 2) := by decide +kernel
theorem dX8_look_59 : decode cX8_look 59 = .ok (.invokevirtual 374, 3) := by decide +kernel
theorem dX8_look_62 : decode cX8_look 62 = .ok (.istore 6, 2) := by decide +kernel
theorem dX8_look_64 : decode cX8_look 64 = .ok (.iload 6, 2) := by decide +kernel
theorem dX8_look_66 : decode cX8_look 66 = .ok (.iload 4, 2) := by decide +kernel
theorem dX8_look_68 : decode cX8_look 68 = .ok (.if_icmp .ge 10, 3) := by decide +kernel
theorem dX8_look_71 : decode cX8_look 71 = .ok (.iload 6, 2) := by decide +kernel
theorem dX8_look_73 : decode cX8_look 73 = .ok (.istore 4, 2) := by decide +kernel
theorem dX8_look_75 : decode cX8_look 75 = .ok (.iload 5, 2) := by decide +kernel
theorem dX8_look_77 : decode cX8_look 77 = .ok (.istore_n 3, 1) := by decide +kernel
theorem dX8_look_78 : decode cX8_look 78 = .ok (.iinc 5 1, 3) := by decide +kernel
theorem dX8_look_81 : decode cX8_look 81 = .ok (.goto (-36), 3) := by decide +kernel
theorem dX8_look_84 : decode cX8_look 84 = .ok (.iload_n 1, 1) := by decide +kernel
theorem dX8_look_85 : decode cX8_look 85 = .ok (.ifCond .ne 7, 3) := by decide +kernel
theorem dX8_look_88 : decode cX8_look 88 = .ok (.iload_n 3, 1) := by decide +kernel
theorem dX8_look_89 : decode cX8_look 89 = .ok (.goto 5, 3) := by decide +kernel
theorem dX8_look_92 : decode cX8_look 92 = .ok (.iload 4, 2) := by decide +kernel
theorem dX8_look_94 : decode cX8_look 94 = .ok (.ireturn, 1) := by decide +kernel
theorem dX8_few_0 : decode cX8_few 0 = .ok (.iload_n 1, 1) := by decide +kernel
theorem dX8_few_1 : decode cX8_few 1 = .ok (.iconst 1, 1) := by decide +kernel
theorem dX8_few_2 : decode cX8_few 2 = .ok (.if_icmp .lt 19, 3) := by decide +kernel
theorem dX8_few_5 : decode cX8_few 5 = .ok (.iload_n 1, 1) := by decide +kernel
theorem dX8_few_6 : decode cX8_few 6 = .ok (.bipush 20, 2) := by decide +kernel
theorem dX8_few_8 : decode cX8_few 8 = .ok (.if_icmp .gt 13, 3) := by decide +kernel
theorem dX8_few_11 : decode cX8_few 11 = .ok (.iload_n 2, 1) := by decide +kernel
theorem dX8_few_12 : decode cX8_few 12 = .ok (.ifCond .lt 9, 3) := by decide +kernel
theorem dX8_few_15 : decode cX8_few 15 = .ok (.iload_n 2, 1) := by decide +kernel
theorem dX8_few_16 : decode cX8_few 16 = .ok (.bipush 99, 2) := by decide +kernel
theorem dX8_few_18 : decode cX8_few 18 = .ok (.if_icmp .le 7, 3) := by decide +kernel
theorem dX8_few_21 : decode cX8_few 21 = .ok (.ldc2_w 377, 3) := by decide +kernel
theorem dX8_few_24 : decode cX8_few 24 = .ok (.lreturn, 1) := by decide +kernel
theorem dX8_few_25 : decode cX8_few 25 = .ok (.aload_n 0, 1) := by decide +kernel
theorem dX8_few_26 : decode cX8_few 26 = .ok (.getfield 64, 3) := by decide +kernel
theorem dX8_few_29 : decode cX8_few 29 = .ok (.iload_n 1, 1) := by decide +kernel
theorem dX8_few_30 : decode cX8_few 30 = .ok (.iload_n 2, 1) := by decide +kernel
theorem dX8_few_31 : decode cX8_few 31 = .ok (.aload_n 0, 1) := by decide +kernel
theorem dX8_few_32 : decode cX8_few 32 = .ok (.getfield 12, 3) := by decide +kernel
theorem dX8_few_35 : decode cX8_few 35 = .ok (.getfield 132, 3) := by decide +kernel
theorem dX8_few_38 : decode cX8_few 38 = .ok (.iconst 1, 1) := by decide +kernel
theorem dX8_few_39 : decode cX8_few 39 = .ok (.iaload, 1) := by decide +kernel
theorem dX8_few_40 : decode cX8_few 40 = .ok (.invokevirtual 379, 3) := by decide +kernel
theorem dX8_few_43 : decode cX8_few 43 = .ok (.lreturn, 1) := by decide +kernel
theorem dX8_compare_0 : decode cX8_compare 0 = .ok (.iload_n 2, 1) := by decide +kernel
theorem dX8_compare_1 : decode cX8_compare 1 = .ok (.i2l, 1) := by decide +kernel
theorem dX8_compare_2 : decode cX8_compare 2 = .ok (.invokestatic 95, 3) := by decide +kernel
theorem dX8_compare_5 : decode cX8_compare 5 = .ok (.ifCond .eq 19, 3) := by decide +kernel
theorem dX8_compare_8 : decode cX8_compare 8 = .ok (.iload_n 1, 1) := by decide +kernel
theorem dX8_compare_9 : decode cX8_compare 9 = .ok (.iconst (-1), 1) := by decide +kernel
theorem dX8_compare_10 : decode cX8_compare 10 = .ok (.if_icmp .eq 16, 3) := by decide +kernel
theorem dX8_compare_13 : decode cX8_compare 13 = .ok (.aload_n 0, 1) := by decide +kernel
theorem dX8_compare_14 : decode cX8_compare 14 = .ok (.getfield 12, 3) := by decide +kernel
theorem dX8_compare_17 : decode cX8_compare 17 = .ok (.iload_n 1, 1) := by decide +kernel
theorem dX8_compare_18 : decode cX8_compare 18 = .ok (.invokevirtual 290, 3) := by decide +kernel
theorem dX8_compare_21 : decode cX8_compare 21 = .ok (.ifCond .ne 5, 3) := by decide +kernel
theorem dX8_compare_24 : decode cX8_compare 24 = .ok (.iconst (-1), 1) := by decide +kernel
theorem dX8_compare_25 : decode cX8_compare 25 = .ok (.ireturn, 1) := by decide +kernel
theorem dX8_compare_26 : decode cX8_compare 26 = .ok (.iload_n 1, 1) := by decide +kernel
theorem dX8_compare_27 : decode cX8_compare 27 = .ok (.iconst (-1), 1) := by decide +kernel
theorem dX8_compare_28 : decode cX8_compare 28 = .ok (.if_icmp .ne 7, 3) := by decide +kernel
theorem dX8_compare_31 : decode cX8_compare 31 = .ok (.aconst_null, 1) := by decide +kernel
theorem dX8_compare_32 : decode cX8_compare 32 = .ok (.goto 12, 3) := by decide +kernel
theorem dX8_compare_35 : decode cX8_compare 35 = .ok (.aload_n 0, 1) := by decide +kernel
theorem dX8_compare_36 : decode cX8_compare 36 = .ok (.getfield 12, 3) := by decide +kernel
theorem dX8_compare_39 : decode cX8_compare 39 = .ok (.getfield 236, 3) := by decide +kernel
theorem dX8_compare_42 : decode cX8_compare 42 = .ok (.iload_n 1, 1) := by decide +kernel
theorem dX8_compare_43 : decode cX8_compare 43 = .ok (.aaload, 1) := by decide +kernel
theorem dX8_compare_44 : decode cX8_compare 44 = .ok (.astore_n 3, 1) := by decide +kernel
theorem dX8_compare_45 : decode cX8_compare 45 = .ok (.aload_n 0, 1) := by decide +kernel
theorem dX8_compare_46 : decode cX8_compare 46 = .ok (.getfield 12, 3) := by decide +kernel
theorem dX8_compare_49 : decode cX8_compare 49 = .ok (.aload_n 3, 1) := by decide +kernel
theorem dX8_compare_50 : decode cX8_compare 50 = .ok (.iload_n 2, 1) := by decide +kernel
theorem dX8_compare_51 : decode cX8_compare 51 = .ok (.aload_n 0, 1) := by decide +kernel
theorem dX8_compare_52 : decode cX8_compare 52 = .ok (.getfield 12, 3) := by decide +kernel
theorem dX8_compare_55 : decode cX8_compare 55 = .ok (.getfield 132, 3) := by decide +kernel
theorem dX8_compare_58 : decode cX8_compare 58 = .ok (.iconst 0, 1) := by decide +kernel
theorem dX8_compare_59 : decode cX8_compare 59 = .ok (.iaload, 1) := by decide +kernel
theorem dX8_compare_60 : decode cX8_compare 60 = .ok (.invokevirtual 193, 3) := by decide +kernel
theorem dX8_compare_63 : decode cX8_compare 63 = .ok (.ireturn, 1) := by decide +kernel
theorem dX8_dusks_0 : decode cX8_dusks 0 = .ok (.iload_n 1, 1) := by decide +kernel
theorem dX8_dusks_1 : decode cX8_dusks 1 = .ok (.ifCond .lt 21, 3) := by decide +kernel
theorem dX8_dusks_4 : decode cX8_dusks 4 = .ok (.iload_n 1, 1) := by decide +kernel
theorem dX8_dusks_5 : decode cX8_dusks 5 = .ok (.ldc_w 383, 3) := by decide +kernel
theorem dX8_dusks_8 : decode cX8_dusks 8 = .ok (.if_icmp .gt 14, 3) := by decide +kernel
theorem dX8_dusks_11 : decode cX8_dusks 11 = .ok (.iload_n 2, 1) := by decide +kernel
theorem dX8_dusks_12 : decode cX8_dusks 12 = .ok (.iconst 1, 1) := by decide +kernel
theorem dX8_dusks_13 : decode cX8_dusks 13 = .ok (.if_icmp .lt 9, 3) := by decide +kernel
theorem dX8_dusks_16 : decode cX8_dusks 16 = .ok (.iload_n 2, 1) := by decide +kernel
theorem dX8_dusks_17 : decode cX8_dusks 17 = .ok (.bipush 60, 2) := by decide +kernel
theorem dX8_dusks_19 : decode cX8_dusks 19 = .ok (.if_icmp .le 9, 3) := by decide +kernel
theorem dX8_dusks_22 : decode cX8_dusks 22 = .ok (.aload_n 0, 1) := by decide +kernel
theorem dX8_dusks_23 : decode cX8_dusks 23 = .ok (.iconst (-1), 1) := by decide +kernel
theorem dX8_dusks_24 : decode cX8_dusks 24 = .ok (.invokevirtual 99, 3) := by decide +kernel
theorem dX8_dusks_27 : decode cX8_dusks 27 = .ok (.ireturn, 1) := by decide +kernel
theorem dX8_dusks_28 : decode cX8_dusks 28 = .ok (.aload_n 0, 1) := by decide +kernel
theorem dX8_dusks_29 : decode cX8_dusks 29 = .ok (.getfield 12, 3) := by decide +kernel
theorem dX8_dusks_32 : decode cX8_dusks 32 = .ok (.getfield 142, 3) := by decide +kernel
theorem dX8_dusks_35 : decode cX8_dusks 35 = .ok (.iconst 1, 1) := by decide +kernel
theorem dX8_dusks_36 : decode cX8_dusks 36 = .ok (.if_icmp .lt 17, 3) := by decide +kernel
theorem dX8_dusks_39 : decode cX8_dusks 39 = .ok (.aload_n 0, 1) := by decide +kernel
theorem dX8_dusks_40 : decode cX8_dusks 40 = .ok (.getfield 12, 3) := by decide +kernel
theorem dX8_dusks_43 : decode cX8_dusks 43 = .ok (.getfield 103, 3) := by decide +kernel
theorem dX8_dusks_46 : decode cX8_dusks 46 = .ok (.getfield 107, 3) := by decide +kernel
theorem dX8_dusks_49 : decode cX8_dusks 49 = .ok (.iconst 1, 1) := by decide +kernel
theorem dX8_dusks_50 : decode cX8_dusks 50 = .ok (.if_icmp .ge 10, 3) := by decide +kernel
theorem dX8_dusks_53 : decode cX8_dusks 53 = .ok (.aload_n 0, 1) := by decide +kernel
theorem dX8_dusks_54 : decode cX8_dusks 54 = .ok (.bipush (-3), 2) := by decide +kernel
theorem dX8_dusks_56 : decode cX8_dusks 56 = .ok (.invokevirtual 99, 3) := by decide +kernel
theorem dX8_dusks_59 : decode cX8_dusks 59 = .ok (.ireturn, 1) := by decide +kernel
theorem dX8_dusks_60 : decode cX8_dusks 60 = .ok (.aload_n 0, 1) := by decide +kernel
theorem dX8_dusks_61 : decode cX8_dusks 61 = .ok (.getfield 19, 3) := by decide +kernel
theorem dX8_dusks_64 : decode cX8_dusks 64 = .ok (.aload_n 0, 1) := by decide +kernel
theorem dX8_dusks_65 : decode cX8_dusks 65 = .ok (.getfield 12, 3) := by decide +kernel
theorem dX8_dusks_68 : decode cX8_dusks 68 = .ok (.invokevirtual 240, 3) := by decide +kernel
theorem dX8_dusks_71 : decode cX8_dusks 71 = .ok (.aload_n 0, 1) := by decide +kernel
theorem dX8_dusks_72 : decode cX8_dusks 72 = .ok (.iconst 1, 1) := by decide +kernel
theorem dX8_dusks_73 : decode cX8_dusks 73 = .ok (.putfield 72, 3) := by decide +kernel
theorem dX8_dusks_76 : decode cX8_dusks 76 = .ok (.iload_n 1, 1) := by decide +kernel
theorem dX8_dusks_77 : decode cX8_dusks 77 = .ok (.istore_n 3, 1) := by decide +kernel
theorem dX8_dusks_78 : decode cX8_dusks 78 = .ok (.iconst 0, 1) := by decide +kernel
theorem dX8_dusks_79 : decode cX8_dusks 79 = .ok (.istore 4, 2) := by decide +kernel
theorem dX8_dusks_81 : decode cX8_dusks 81 = .ok (.iload 4, 2) := by decide +kernel
theorem dX8_dusks_83 : decode cX8_dusks 83 = .ok (.iload_n 2, 1) := by decide +kernel
theorem dX8_dusks_84 : decode cX8_dusks 84 = .ok (.if_icmp .ge 105, 3) := by decide +kernel
theorem dX8_dusks_87 : decode cX8_dusks 87 = .ok (.aload_n 0, 1) := by decide +kernel
theorem dX8_dusks_88 : decode cX8_dusks 88 = .ok (.getfield 19, 3) := by decide +kernel
theorem dX8_dusks_91 : decode cX8_dusks 91 = .ok (.getfield 132, 3) := by decide +kernel
theorem dX8_dusks_94 : decode cX8_dusks 94 = .ok (.iconst 0, 1) := by decide +kernel
theorem dX8_dusks_95 : decode cX8_dusks 95 = .ok (.iaload, 1) := by decide +kernel
theorem dX8_dusks_96 : decode cX8_dusks 96 = .ok (.sipush 999, 3) := by decide +kernel
theorem dX8_dusks_99 : decode cX8_dusks 99 = .ok (.if_icmp .ge 90, 3) := by decide +kernel
theorem dX8_dusks_102 : decode cX8_dusks 102 = .ok (.iload_n 3, 1) := by decide +kernel
theorem dX8_dusks_103 : decode cX8_dusks 103 = .ok (.invokestatic 384, 3) := by decide +kernel
theorem dX8_dusks_106 : decode cX8_dusks 106 = .ok (.istore_n 3, 1) := by decide +kernel
theorem dX8_dusks_107 : decode cX8_dusks 107 = .ok (.iload_n 3, 1) := by decide +kernel
theorem dX8_dusks_108 : decode cX8_dusks 108 = .ok (.aload_n 0, 1) := by decide +kernel
theorem dX8_dusks_109 : decode cX8_dusks 109 = .ok (.getfield 12, 3) := by decide +kernel
theorem dX8_dusks_112 : decode cX8_dusks 112 = .ok (.getfield 142, 3) := by decide +kernel
theorem dX8_dusks_115 : decode cX8_dusks 115 = .ok (.irem, 1) := by decide +kernel
theorem dX8_dusks_116 : decode cX8_dusks 116 = .ok (.istore 5, 2) := by decide +kernel
theorem dX8_dusks_118 : decode cX8_dusks 118 = .ok (.iload_n 3, 1) := by decide +kernel
theorem dX8_dusks_119 : decode cX8_dusks 119 = .ok (.invokestatic 384, 3) := by decide +kernel
theorem dX8_dusks_122 : decode cX8_dusks 122 = .ok (.istore_n 3, 1) := by decide +kernel
theorem dX8_dusks_123 : decode cX8_dusks 123 = .ok (.iload_n 3, 1) := by decide +kernel
theorem dX8_dusks_124 : decode cX8_dusks 124 = .ok (.aload_n 0, 1) := by decide +kernel
theorem dX8_dusks_125 : decode cX8_dusks 125 = .ok (.getfield 12, 3) := by decide +kernel
theorem dX8_dusks_128 : decode cX8_dusks 128 = .ok (.getfield 103, 3) := by decide +kernel
theorem dX8_dusks_131 : decode cX8_dusks 131 = .ok (.getfield 107, 3) := by decide +kernel
theorem dX8_dusks_134 : decode cX8_dusks 134 = .ok (.irem, 1) := by decide +kernel
theorem dX8_dusks_135 : decode cX8_dusks 135 = .ok (.istore 6, 2) := by decide +kernel
theorem dX8_dusks_137 : decode cX8_dusks 137 = .ok (.iload_n 3, 1) := by decide +kernel
theorem dX8_dusks_138 : decode cX8_dusks 138 = .ok (.invokestatic 384, 3) := by decide +kernel
theorem dX8_dusks_141 : decode cX8_dusks 141 = .ok (.istore_n 3, 1) := by decide +kernel
theorem dX8_dusks_142 : decode cX8_dusks 142 = .ok (.iload_n 3, 1) := by decide +kernel
theorem dX8_dusks_143 : decode cX8_dusks 143 = .ok (.iconst 4, 1) := by decide +kernel
theorem dX8_dusks_144 : decode cX8_dusks 144 = .ok (.irem, 1) := by decide +kernel
theorem dX8_dusks_145 : decode cX8_dusks 145 = .ok (.iconst 3, 1) := by decide +kernel
theorem dX8_dusks_146 : decode cX8_dusks 146 = .ok (.if_icmp .eq 29, 3) := by decide +kernel
theorem dX8_dusks_149 : decode cX8_dusks 149 = .ok (.aload_n 0, 1) := by decide +kernel
theorem dX8_dusks_150 : decode cX8_dusks 150 = .ok (.getfield 19, 3) := by decide +kernel
theorem dX8_dusks_153 : decode cX8_dusks 153 = .ok (.iload 5, 2) := by decide +kernel
theorem dX8_dusks_155 : decode cX8_dusks 155 = .ok (.iload 6, 2) := by decide +kernel
theorem dX8_dusks_157 : decode cX8_dusks 157 = .ok (.invokevirtual 203, 3) := by decide +kernel
theorem dX8_dusks_160 : decode cX8_dusks 160 = .ok (.ifCond .eq 15, 3) := by decide +kernel
theorem dX8_dusks_163 : decode cX8_dusks 163 = .ok (.aload_n 0, 1) := by decide +kernel
theorem dX8_dusks_164 : decode cX8_dusks 164 = .ok (.getfield 19, 3) := by decide +kernel
theorem dX8_dusks_167 : decode cX8_dusks 167 = .ok (.getfield 148, 3) := by decide +kernel
theorem dX8_dusks_170 : decode cX8_dusks 170 = .ok (.iload 5, 2) := by decide +kernel
theorem dX8_dusks_172 : decode cX8_dusks 172 = .ok (.iload 6, 2) := by decide +kernel
theorem dX8_dusks_174 : decode cX8_dusks 174 = .ok (.iastore, 1) := by decide +kernel
theorem dX8_dusks_175 : decode cX8_dusks 175 = .ok (.aload_n 0, 1) := by decide +kernel
theorem dX8_dusks_176 : decode cX8_dusks 176 = .ok (.getfield 19, 3) := by decide +kernel
theorem dX8_dusks_179 : decode cX8_dusks 179 = .ok (.invokevirtual 309, 3) := by decide +kernel
theorem dX8_dusks_182 : decode cX8_dusks 182 = .ok (.pop, 1) := by decide +kernel
theorem dX8_dusks_183 : decode cX8_dusks 183 = .ok (.iinc 4 1, 3) := by decide +kernel
theorem dX8_dusks_186 : decode cX8_dusks 186 = .ok (.goto (-105), 3) := by decide +kernel
theorem dX8_dusks_189 : decode cX8_dusks 189 = .ok (.aload_n 0, 1) := by decide +kernel
theorem dX8_dusks_190 : decode cX8_dusks 190 = .ok (.aload_n 0, 1) := by decide +kernel
theorem dX8_dusks_191 : decode cX8_dusks 191 = .ok (.getfield 19, 3) := by decide +kernel
theorem dX8_dusks_194 : decode cX8_dusks 194 = .ok (.getfield 287, 3) := by decide +kernel
theorem dX8_dusks_197 : decode cX8_dusks 197 = .ok (.aload_n 0, 1) := by decide +kernel
theorem dX8_dusks_198 : decode cX8_dusks 198 = .ok (.getfield 12, 3) := by decide +kernel
theorem dX8_dusks_201 : decode cX8_dusks 201 = .ok (.getfield 287, 3) := by decide +kernel
theorem dX8_dusks_204 : decode cX8_dusks 204 = .ok (.isub, 1) := by decide +kernel
theorem dX8_dusks_205 : decode cX8_dusks 205 = .ok (.invokevirtual 119, 3) := by decide +kernel
theorem dX8_dusks_208 : decode cX8_dusks 208 = .ok (.ireturn, 1) := by decide +kernel
theorem dX8_drawnFrom_0 : decode cX8_drawnFrom 0 = .ok (.iload_n 0, 1) := by decide +kernel
theorem dX8_drawnFrom_1 : decode cX8_drawnFrom 1 = .ok (.i2l, 1) := by decide +kernel
theorem dX8_drawnFrom_2 : decode cX8_drawnFrom 2 = .ok (.ldc2_w 387, 3) := by decide +kernel
theorem dX8_drawnFrom_5 : decode cX8_drawnFrom 5 = .ok (.lmul, 1) := by decide +kernel
theorem dX8_drawnFrom_6 : decode cX8_drawnFrom 6 = .ok (.ldc2_w 389, 3) := by decide +kernel
theorem dX8_drawnFrom_9 : decode cX8_drawnFrom 9 = .ok (.ladd, 1) := by decide +kernel
theorem dX8_drawnFrom_10 : decode cX8_drawnFrom 10 = .ok (.ldc2_w 391, 3) := by decide +kernel
theorem dX8_drawnFrom_13 : decode cX8_drawnFrom 13 = .ok (.lrem, 1) := by decide +kernel
theorem dX8_drawnFrom_14 : decode cX8_drawnFrom 14 = .ok (.l2i, 1) := by decide +kernel
theorem dX8_drawnFrom_15 : decode cX8_drawnFrom 15 = .ok (.ireturn, 1) := by decide +kernel
theorem dX8_drawn_0 : decode cX8_drawn 0 = .ok (.aload_n 0, 1) := by decide +kernel
theorem dX8_drawn_1 : decode cX8_drawn 1 = .ok (.getfield 72, 3) := by decide +kernel
theorem dX8_drawn_4 : decode cX8_drawn 4 = .ok (.ifCond .ne 5, 3) := by decide +kernel
theorem dX8_drawn_7 : decode cX8_drawn 7 = .ok (.iconst (-1), 1) := by decide +kernel
theorem dX8_drawn_8 : decode cX8_drawn 8 = .ok (.ireturn, 1) := by decide +kernel
theorem dX8_drawn_9 : decode cX8_drawn 9 = .ok (.iload_n 2, 1) := by decide +kernel
theorem dX8_drawn_10 : decode cX8_drawn 10 = .ok (.lookupswitch 76 #[(0, 26), (1, 51)], 26) := by decide +kernel
theorem dX8_drawn_36 : decode cX8_drawn 36 = .ok (.aload_n 0, 1) := by decide +kernel
theorem dX8_drawn_37 : decode cX8_drawn 37 = .ok (.getfield 19, 3) := by decide +kernel
theorem dX8_drawn_40 : decode cX8_drawn 40 = .ok (.iload_n 1, 1) := by decide +kernel
theorem dX8_drawn_41 : decode cX8_drawn 41 = .ok (.invokevirtual 151, 3) := by decide +kernel
theorem dX8_drawn_44 : decode cX8_drawn 44 = .ok (.ifCond .eq 15, 3) := by decide +kernel
theorem dX8_drawn_47 : decode cX8_drawn 47 = .ok (.aload_n 0, 1) := by decide +kernel
theorem dX8_drawn_48 : decode cX8_drawn 48 = .ok (.getfield 19, 3) := by decide +kernel
theorem dX8_drawn_51 : decode cX8_drawn 51 = .ok (.getfield 148, 3) := by decide +kernel
theorem dX8_drawn_54 : decode cX8_drawn 54 = .ok (.iload_n 1, 1) := by decide +kernel
theorem dX8_drawn_55 : decode cX8_drawn 55 = .ok (.iaload, 1) := by decide +kernel
theorem dX8_drawn_56 : decode cX8_drawn 56 = .ok (.goto 4, 3) := by decide +kernel
theorem dX8_drawn_59 : decode cX8_drawn 59 = .ok (.iconst (-1), 1) := by decide +kernel
theorem dX8_drawn_60 : decode cX8_drawn 60 = .ok (.ireturn, 1) := by decide +kernel
theorem dX8_drawn_61 : decode cX8_drawn 61 = .ok (.aload_n 0, 1) := by decide +kernel
theorem dX8_drawn_62 : decode cX8_drawn 62 = .ok (.getfield 19, 3) := by decide +kernel
theorem dX8_drawn_65 : decode cX8_drawn 65 = .ok (.iload_n 1, 1) := by decide +kernel
theorem dX8_drawn_66 : decode cX8_drawn 66 = .ok (.invokevirtual 160, 3) := by decide +kernel
theorem dX8_drawn_69 : decode cX8_drawn 69 = .ok (.ifCond .eq 15, 3) := by decide +kernel
theorem dX8_drawn_72 : decode cX8_drawn 72 = .ok (.aload_n 0, 1) := by decide +kernel
theorem dX8_drawn_73 : decode cX8_drawn 73 = .ok (.getfield 19, 3) := by decide +kernel
theorem dX8_drawn_76 : decode cX8_drawn 76 = .ok (.getfield 157, 3) := by decide +kernel
theorem dX8_drawn_79 : decode cX8_drawn 79 = .ok (.iload_n 1, 1) := by decide +kernel
theorem dX8_drawn_80 : decode cX8_drawn 80 = .ok (.iaload, 1) := by decide +kernel
theorem dX8_drawn_81 : decode cX8_drawn 81 = .ok (.goto 4, 3) := by decide +kernel
theorem dX8_drawn_84 : decode cX8_drawn 84 = .ok (.iconst (-1), 1) := by decide +kernel
theorem dX8_drawn_85 : decode cX8_drawn 85 = .ok (.ireturn, 1) := by decide +kernel
theorem dX8_drawn_86 : decode cX8_drawn 86 = .ok (.iconst (-1), 1) := by decide +kernel
theorem dX8_drawn_87 : decode cX8_drawn 87 = .ok (.ireturn, 1) := by decide +kernel
theorem dX8_image_0 : decode cX8_image 0 = .ok (.iload_n 1, 1) := by decide +kernel
theorem dX8_image_1 : decode cX8_image 1 = .ok (.ifCond .lt 8, 3) := by decide +kernel
theorem dX8_image_4 : decode cX8_image 4 = .ok (.iload_n 1, 1) := by decide +kernel
theorem dX8_image_5 : decode cX8_image 5 = .ok (.iconst 2, 1) := by decide +kernel
theorem dX8_image_6 : decode cX8_image 6 = .ok (.if_icmp .lt 9, 3) := by decide +kernel
theorem dX8_image_9 : decode cX8_image 9 = .ok (.aload_n 0, 1) := by decide +kernel
theorem dX8_image_10 : decode cX8_image 10 = .ok (.iconst (-1), 1) := by decide +kernel
theorem dX8_image_11 : decode cX8_image 11 = .ok (.invokevirtual 99, 3) := by decide +kernel
theorem dX8_image_14 : decode cX8_image 14 = .ok (.ireturn, 1) := by decide +kernel
theorem dX8_image_15 : decode cX8_image 15 = .ok (.aload_n 0, 1) := by decide +kernel
theorem dX8_image_16 : decode cX8_image 16 = .ok (.getfield 22, 3) := by decide +kernel
theorem dX8_image_19 : decode cX8_image 19 = .ok (.iload_n 1, 1) := by decide +kernel
theorem dX8_image_20 : decode cX8_image 20 = .ok (.aaload, 1) := by decide +kernel
theorem dX8_image_21 : decode cX8_image 21 = .ok (.aload_n 0, 1) := by decide +kernel
theorem dX8_image_22 : decode cX8_image 22 = .ok (.getfield 12, 3) := by decide +kernel
theorem dX8_image_25 : decode cX8_image 25 = .ok (.invokevirtual 240, 3) := by decide +kernel
theorem dX8_image_28 : decode cX8_image 28 = .ok (.aload_n 0, 1) := by decide +kernel
theorem dX8_image_29 : decode cX8_image 29 = .ok (.getfield 26, 3) := by decide +kernel
theorem dX8_image_32 : decode cX8_image 32 = .ok (.iload_n 1, 1) := by decide +kernel
theorem dX8_image_33 : decode cX8_image 33 = .ok (.iconst 1, 1) := by decide +kernel
theorem dX8_image_34 : decode cX8_image 34 = .ok (.bastore, 1) := by decide +kernel
theorem dX8_image_35 : decode cX8_image 35 = .ok (.aload_n 0, 1) := by decide +kernel
theorem dX8_image_36 : decode cX8_image 36 = .ok (.iconst 0, 1) := by decide +kernel
theorem dX8_image_37 : decode cX8_image 37 = .ok (.invokevirtual 119, 3) := by decide +kernel
theorem dX8_image_40 : decode cX8_image 40 = .ok (.ireturn, 1) := by decide +kernel
theorem dX8_back_0 : decode cX8_back 0 = .ok (.iload_n 1, 1) := by decide +kernel
theorem dX8_back_1 : decode cX8_back 1 = .ok (.ifCond .lt 8, 3) := by decide +kernel
theorem dX8_back_4 : decode cX8_back 4 = .ok (.iload_n 1, 1) := by decide +kernel
theorem dX8_back_5 : decode cX8_back 5 = .ok (.iconst 2, 1) := by decide +kernel
theorem dX8_back_6 : decode cX8_back 6 = .ok (.if_icmp .lt 9, 3) := by decide +kernel
theorem dX8_back_9 : decode cX8_back 9 = .ok (.aload_n 0, 1) := by decide +kernel
theorem dX8_back_10 : decode cX8_back 10 = .ok (.iconst (-1), 1) := by decide +kernel
theorem dX8_back_11 : decode cX8_back 11 = .ok (.invokevirtual 99, 3) := by decide +kernel
theorem dX8_back_14 : decode cX8_back 14 = .ok (.ireturn, 1) := by decide +kernel
theorem dX8_back_15 : decode cX8_back 15 = .ok (.aload_n 0, 1) := by decide +kernel
theorem dX8_back_16 : decode cX8_back 16 = .ok (.getfield 26, 3) := by decide +kernel
theorem dX8_back_19 : decode cX8_back 19 = .ok (.iload_n 1, 1) := by decide +kernel
theorem dX8_back_20 : decode cX8_back 20 = .ok (.baload, 1) := by decide +kernel
theorem dX8_back_21 : decode cX8_back 21 = .ok (.ifCond .ne 10, 3) := by decide +kernel
theorem dX8_back_24 : decode cX8_back 24 = .ok (.aload_n 0, 1) := by decide +kernel
theorem dX8_back_25 : decode cX8_back 25 = .ok (.bipush (-2), 2) := by decide +kernel
theorem dX8_back_27 : decode cX8_back 27 = .ok (.invokevirtual 99, 3) := by decide +kernel
theorem dX8_back_30 : decode cX8_back 30 = .ok (.ireturn, 1) := by decide +kernel
theorem dX8_back_31 : decode cX8_back 31 = .ok (.aload_n 0, 1) := by decide +kernel
theorem dX8_back_32 : decode cX8_back 32 = .ok (.getfield 12, 3) := by decide +kernel
theorem dX8_back_35 : decode cX8_back 35 = .ok (.aload_n 0, 1) := by decide +kernel
theorem dX8_back_36 : decode cX8_back 36 = .ok (.getfield 22, 3) := by decide +kernel
theorem dX8_back_39 : decode cX8_back 39 = .ok (.iload_n 1, 1) := by decide +kernel
theorem dX8_back_40 : decode cX8_back 40 = .ok (.aaload, 1) := by decide +kernel
theorem dX8_back_41 : decode cX8_back 41 = .ok (.invokevirtual 240, 3) := by decide +kernel
theorem dX8_back_44 : decode cX8_back 44 = .ok (.aload_n 0, 1) := by decide +kernel
theorem dX8_back_45 : decode cX8_back 45 = .ok (.getfield 54, 3) := by decide +kernel
theorem dX8_back_48 : decode cX8_back 48 = .ok (.invokevirtual 112, 3) := by decide +kernel
theorem dX8_back_51 : decode cX8_back 51 = .ok (.aload_n 0, 1) := by decide +kernel
theorem dX8_back_52 : decode cX8_back 52 = .ok (.iconst 0, 1) := by decide +kernel
theorem dX8_back_53 : decode cX8_back 53 = .ok (.invokevirtual 119, 3) := by decide +kernel
theorem dX8_back_56 : decode cX8_back 56 = .ok (.ireturn, 1) := by decide +kernel
theorem dX8_count_0 : decode cX8_count 0 = .ok (.iload_n 1, 1) := by decide +kernel
theorem dX8_count_1 : decode cX8_count 1 = .ok (.tableswitch 158 0 14 #[75, 86, 94, 102, 110, 118, 126, 134, 142, 158, 158, 158, 158, 158, 150], 75) := by decide +kernel
theorem dX8_count_76 : decode cX8_count 76 = .ok (.aload_n 0, 1) := by decide +kernel
theorem dX8_count_77 : decode cX8_count 77 = .ok (.getfield 12, 3) := by decide +kernel
theorem dX8_count_80 : decode cX8_count 80 = .ok (.getfield 103, 3) := by decide +kernel
theorem dX8_count_83 : decode cX8_count 83 = .ok (.getfield 107, 3) := by decide +kernel
theorem dX8_count_86 : decode cX8_count 86 = .ok (.ireturn, 1) := by decide +kernel
theorem dX8_count_87 : decode cX8_count 87 = .ok (.aload_n 0, 1) := by decide +kernel
theorem dX8_count_88 : decode cX8_count 88 = .ok (.getfield 12, 3) := by decide +kernel
theorem dX8_count_91 : decode cX8_count 91 = .ok (.getfield 142, 3) := by decide +kernel
theorem dX8_count_94 : decode cX8_count 94 = .ok (.ireturn, 1) := by decide +kernel
theorem dX8_count_95 : decode cX8_count 95 = .ok (.aload_n 0, 1) := by decide +kernel
theorem dX8_count_96 : decode cX8_count 96 = .ok (.getfield 12, 3) := by decide +kernel
theorem dX8_count_99 : decode cX8_count 99 = .ok (.getfield 154, 3) := by decide +kernel
theorem dX8_count_102 : decode cX8_count 102 = .ok (.ireturn, 1) := by decide +kernel
theorem dX8_count_103 : decode cX8_count 103 = .ok (.aload_n 0, 1) := by decide +kernel
theorem dX8_count_104 : decode cX8_count 104 = .ok (.getfield 12, 3) := by decide +kernel
theorem dX8_count_107 : decode cX8_count 107 = .ok (.getfield 167, 3) := by decide +kernel
theorem dX8_count_110 : decode cX8_count 110 = .ok (.ireturn, 1) := by decide +kernel
theorem dX8_count_111 : decode cX8_count 111 = .ok (.aload_n 0, 1) := by decide +kernel
theorem dX8_count_112 : decode cX8_count 112 = .ok (.getfield 12, 3) := by decide +kernel
theorem dX8_count_115 : decode cX8_count 115 = .ok (.getfield 287, 3) := by decide +kernel
theorem dX8_count_118 : decode cX8_count 118 = .ok (.ireturn, 1) := by decide +kernel
theorem dX8_count_119 : decode cX8_count 119 = .ok (.aload_n 0, 1) := by decide +kernel
theorem dX8_count_120 : decode cX8_count 120 = .ok (.getfield 12, 3) := by decide +kernel
theorem dX8_count_123 : decode cX8_count 123 = .ok (.getfield 362, 3) := by decide +kernel
theorem dX8_count_126 : decode cX8_count 126 = .ok (.ireturn, 1) := by decide +kernel
theorem dX8_count_127 : decode cX8_count 127 = .ok (.aload_n 0, 1) := by decide +kernel
theorem dX8_count_128 : decode cX8_count 128 = .ok (.getfield 12, 3) := by decide +kernel
theorem dX8_count_131 : decode cX8_count 131 = .ok (.getfield 226, 3) := by decide +kernel
theorem dX8_count_134 : decode cX8_count 134 = .ok (.ireturn, 1) := by decide +kernel
theorem dX8_count_135 : decode cX8_count 135 = .ok (.aload_n 0, 1) := by decide +kernel
theorem dX8_count_136 : decode cX8_count 136 = .ok (.getfield 54, 3) := by decide +kernel
theorem dX8_count_139 : decode cX8_count 139 = .ok (.getfield 393, 3) := by decide +kernel
theorem dX8_count_142 : decode cX8_count 142 = .ok (.ireturn, 1) := by decide +kernel
theorem dX8_count_143 : decode cX8_count 143 = .ok (.aload_n 0, 1) := by decide +kernel
theorem dX8_count_144 : decode cX8_count 144 = .ok (.getfield 33, 3) := by decide +kernel
theorem dX8_count_147 : decode cX8_count 147 = .ok (.getfield 216, 3) := by decide +kernel
theorem dX8_count_150 : decode cX8_count 150 = .ok (.ireturn, 1) := by decide +kernel
theorem dX8_count_151 : decode cX8_count 151 = .ok (.aload_n 0, 1) := by decide +kernel
theorem dX8_count_152 : decode cX8_count 152 = .ok (.getfield 12, 3) := by decide +kernel
theorem dX8_count_155 : decode cX8_count 155 = .ok (.getfield 293, 3) := by decide +kernel
theorem dX8_count_158 : decode cX8_count 158 = .ok (.ireturn, 1) := by decide +kernel
theorem dX8_count_159 : decode cX8_count 159 = .ok (.aload_n 0, 1) := by decide +kernel
theorem dX8_count_160 : decode cX8_count 160 = .ok (.iload_n 1, 1) := by decide +kernel
theorem dX8_count_161 : decode cX8_count 161 = .ok (.invokevirtual 396, 3) := by decide +kernel
theorem dX8_count_164 : decode cX8_count 164 = .ok (.ireturn, 1) := by decide +kernel
theorem dX8_countFurther_0 : decode cX8_countFurther 0 = .ok (.iload_n 1, 1) := by decide +kernel
theorem dX8_countFurther_1 : decode cX8_countFurther 1 = .ok (.bipush 9, 2) := by decide +kernel
theorem dX8_countFurther_3 : decode cX8_countFurther 3 = .ok (.if_icmp .lt 19, 3) := by decide +kernel
theorem dX8_countFurther_6 : decode cX8_countFurther 6 = .ok (.iload_n 1, 1) := by decide +kernel
theorem dX8_countFurther_7 : decode cX8_countFurther 7 = .ok (.bipush 14, 2) := by decide +kernel
theorem dX8_countFurther_9 : decode cX8_countFurther 9 = .ok (.if_icmp .ge 13, 3) := by decide +kernel
theorem dX8_countFurther_12 : decode cX8_countFurther 12 = .ok (.aload_n 0, 1) := by decide +kernel
theorem dX8_countFurther_13 : decode cX8_countFurther 13 = .ok (.getfield 68, 3) := by decide +kernel
theorem dX8_countFurther_16 : decode cX8_countFurther 16 = .ok (.iload_n 1, 1) := by decide +kernel
theorem dX8_countFurther_17 : decode cX8_countFurther 17 = .ok (.bipush 9, 2) := by decide +kernel
theorem dX8_countFurther_19 : decode cX8_countFurther 19 = .ok (.isub, 1) := by decide +kernel
theorem dX8_countFurther_20 : decode cX8_countFurther 20 = .ok (.iaload, 1) := by decide +kernel
theorem dX8_countFurther_21 : decode cX8_countFurther 21 = .ok (.ireturn, 1) := by decide +kernel
theorem dX8_countFurther_22 : decode cX8_countFurther 22 = .ok (.iload_n 1, 1) := by decide +kernel
theorem dX8_countFurther_23 : decode cX8_countFurther 23 = .ok (.bipush 15, 2) := by decide +kernel
theorem dX8_countFurther_25 : decode cX8_countFurther 25 = .ok (.if_icmp .lt 24, 3) := by decide +kernel
theorem dX8_countFurther_28 : decode cX8_countFurther 28 = .ok (.iload_n 1, 1) := by decide +kernel
theorem dX8_countFurther_29 : decode cX8_countFurther 29 = .ok (.bipush 18, 2) := by decide +kernel
theorem dX8_countFurther_31 : decode cX8_countFurther 31 = .ok (.if_icmp .ge 18, 3) := by decide +kernel
theorem dX8_countFurther_34 : decode cX8_countFurther 34 = .ok (.aload_n 0, 1) := by decide +kernel
theorem dX8_countFurther_35 : decode cX8_countFurther 35 = .ok (.getfield 12, 3) := by decide +kernel
theorem dX8_countFurther_38 : decode cX8_countFurther 38 = .ok (.getfield 132, 3) := by decide +kernel
theorem dX8_countFurther_41 : decode cX8_countFurther 41 = .ok (.iload_n 1, 1) := by decide +kernel
theorem dX8_countFurther_42 : decode cX8_countFurther 42 = .ok (.bipush 15, 2) := by decide +kernel
theorem dX8_countFurther_44 : decode cX8_countFurther 44 = .ok (.isub, 1) := by decide +kernel
theorem dX8_countFurther_45 : decode cX8_countFurther 45 = .ok (.iaload, 1) := by decide +kernel
theorem dX8_countFurther_46 : decode cX8_countFurther 46 = .ok (.goto 4, 3) := by decide +kernel
theorem dX8_countFurther_49 : decode cX8_countFurther 49 = .ok (.iconst (-1), 1) := by decide +kernel
theorem dX8_countFurther_50 : decode cX8_countFurther 50 = .ok (.ireturn, 1) := by decide +kernel
theorem dX8_status_0 : decode cX8_status 0 = .ok (.aload_n 0, 1) := by decide +kernel
theorem dX8_status_1 : decode cX8_status 1 = .ok (.getfield 92, 3) := by decide +kernel
theorem dX8_status_4 : decode cX8_status 4 = .ok (.ireturn, 1) := by decide +kernel
theorem dX8_settle_0 : decode cX8_settle 0 = .ok (.iload_n 1, 1) := by decide +kernel
theorem dX8_settle_1 : decode cX8_settle 1 = .ok (.ifCond .ge 11, 3) := by decide +kernel
theorem dX8_settle_4 : decode cX8_settle 4 = .ok (.aload_n 0, 1) := by decide +kernel
theorem dX8_settle_5 : decode cX8_settle 5 = .ok (.iload_n 1, 1) := by decide +kernel
theorem dX8_settle_6 : decode cX8_settle 6 = .ok (.invokevirtual 99, 3) := by decide +kernel
theorem dX8_settle_9 : decode cX8_settle 9 = .ok (.goto 8, 3) := by decide +kernel
theorem dX8_settle_12 : decode cX8_settle 12 = .ok (.aload_n 0, 1) := by decide +kernel
theorem dX8_settle_13 : decode cX8_settle 13 = .ok (.iload_n 1, 1) := by decide +kernel
theorem dX8_settle_14 : decode cX8_settle 14 = .ok (.invokevirtual 119, 3) := by decide +kernel
theorem dX8_settle_17 : decode cX8_settle 17 = .ok (.ireturn, 1) := by decide +kernel
theorem dX8_grant_0 : decode cX8_grant 0 = .ok (.aload_n 0, 1) := by decide +kernel
theorem dX8_grant_1 : decode cX8_grant 1 = .ok (.iconst 0, 1) := by decide +kernel
theorem dX8_grant_2 : decode cX8_grant 2 = .ok (.putfield 92, 3) := by decide +kernel
theorem dX8_grant_5 : decode cX8_grant 5 = .ok (.iload_n 1, 1) := by decide +kernel
theorem dX8_grant_6 : decode cX8_grant 6 = .ok (.ireturn, 1) := by decide +kernel
theorem dX8_refuse_0 : decode cX8_refuse 0 = .ok (.aload_n 0, 1) := by decide +kernel
theorem dX8_refuse_1 : decode cX8_refuse 1 = .ok (.iload_n 1, 1) := by decide +kernel
theorem dX8_refuse_2 : decode cX8_refuse 2 = .ok (.putfield 92, 3) := by decide +kernel
theorem dX8_refuse_5 : decode cX8_refuse 5 = .ok (.iload_n 1, 1) := by decide +kernel
theorem dX8_refuse_6 : decode cX8_refuse 6 = .ok (.invokestatic 399, 3) := by decide +kernel
theorem dX8_refuse_9 : decode cX8_refuse 9 = .ok (.istore_n 2, 1) := by decide +kernel
theorem dX8_refuse_10 : decode cX8_refuse 10 = .ok (.iload_n 2, 1) := by decide +kernel
theorem dX8_refuse_11 : decode cX8_refuse 11 = .ok (.ifCond .lt 22, 3) := by decide +kernel
theorem dX8_refuse_14 : decode cX8_refuse 14 = .ok (.iload_n 2, 1) := by decide +kernel
theorem dX8_refuse_15 : decode cX8_refuse 15 = .ok (.aload_n 0, 1) := by decide +kernel
theorem dX8_refuse_16 : decode cX8_refuse 16 = .ok (.getfield 68, 3) := by decide +kernel
theorem dX8_refuse_19 : decode cX8_refuse 19 = .ok (.arraylength, 1) := by decide +kernel
theorem dX8_refuse_20 : decode cX8_refuse 20 = .ok (.if_icmp .ge 13, 3) := by decide +kernel
theorem dX8_refuse_23 : decode cX8_refuse 23 = .ok (.aload_n 0, 1) := by decide +kernel
theorem dX8_refuse_24 : decode cX8_refuse 24 = .ok (.getfield 68, 3) := by decide +kernel
theorem dX8_refuse_27 : decode cX8_refuse 27 = .ok (.iload_n 2, 1) := by decide +kernel
theorem dX8_refuse_28 : decode cX8_refuse 28 = .ok (.dup2, 1) := by decide +kernel
theorem dX8_refuse_29 : decode cX8_refuse 29 = .ok (.iaload, 1) := by decide +kernel
theorem dX8_refuse_30 : decode cX8_refuse 30 = .ok (.iconst 1, 1) := by decide +kernel
theorem dX8_refuse_31 : decode cX8_refuse 31 = .ok (.iadd, 1) := by decide +kernel
theorem dX8_refuse_32 : decode cX8_refuse 32 = .ok (.iastore, 1) := by decide +kernel
theorem dX8_refuse_33 : decode cX8_refuse 33 = .ok (.iload_n 1, 1) := by decide +kernel
theorem dX8_refuse_34 : decode cX8_refuse 34 = .ok (.ireturn, 1) := by decide +kernel
theorem dX8_kindOfRefusal_0 : decode cX8_kindOfRefusal 0 = .ok (.iload_n 0, 1) := by decide +kernel
theorem dX8_kindOfRefusal_1 : decode cX8_kindOfRefusal 1 = .ok (.tableswitch 49 (-6) (-1) #[47, 45, 49, 43, 41, 39], 39) := by decide +kernel
theorem dX8_kindOfRefusal_40 : decode cX8_kindOfRefusal 40 = .ok (.iconst 0, 1) := by decide +kernel
theorem dX8_kindOfRefusal_41 : decode cX8_kindOfRefusal 41 = .ok (.ireturn, 1) := by decide +kernel
theorem dX8_kindOfRefusal_42 : decode cX8_kindOfRefusal 42 = .ok (.iconst 1, 1) := by decide +kernel
theorem dX8_kindOfRefusal_43 : decode cX8_kindOfRefusal 43 = .ok (.ireturn, 1) := by decide +kernel
theorem dX8_kindOfRefusal_44 : decode cX8_kindOfRefusal 44 = .ok (.iconst 2, 1) := by decide +kernel
theorem dX8_kindOfRefusal_45 : decode cX8_kindOfRefusal 45 = .ok (.ireturn, 1) := by decide +kernel
theorem dX8_kindOfRefusal_46 : decode cX8_kindOfRefusal 46 = .ok (.iconst 3, 1) := by decide +kernel
theorem dX8_kindOfRefusal_47 : decode cX8_kindOfRefusal 47 = .ok (.ireturn, 1) := by decide +kernel
theorem dX8_kindOfRefusal_48 : decode cX8_kindOfRefusal 48 = .ok (.iconst 4, 1) := by decide +kernel
theorem dX8_kindOfRefusal_49 : decode cX8_kindOfRefusal 49 = .ok (.ireturn, 1) := by decide +kernel
theorem dX8_kindOfRefusal_50 : decode cX8_kindOfRefusal 50 = .ok (.iconst (-1), 1) := by decide +kernel
theorem dX8_kindOfRefusal_51 : decode cX8_kindOfRefusal 51 = .ok (.ireturn, 1) := by decide +kernel
theorem dX8_isRoom_0 : decode cX8_isRoom 0 = .ok (.lload_n 0, 1) := by decide +kernel
theorem dX8_isRoom_1 : decode cX8_isRoom 1 = .ok (.lconst 0, 1) := by decide +kernel
theorem dX8_isRoom_2 : decode cX8_isRoom 2 = .ok (.lcmp, 1) := by decide +kernel
theorem dX8_isRoom_3 : decode cX8_isRoom 3 = .ok (.ifCond .lt 15, 3) := by decide +kernel
theorem dX8_isRoom_6 : decode cX8_isRoom 6 = .ok (.lload_n 0, 1) := by decide +kernel
theorem dX8_isRoom_7 : decode cX8_isRoom 7 = .ok (.ldc2_w 402, 3) := by decide +kernel
theorem dX8_isRoom_10 : decode cX8_isRoom 10 = .ok (.lcmp, 1) := by decide +kernel
theorem dX8_isRoom_11 : decode cX8_isRoom 11 = .ok (.ifCond .ge 7, 3) := by decide +kernel
theorem dX8_isRoom_14 : decode cX8_isRoom 14 = .ok (.iconst 1, 1) := by decide +kernel
theorem dX8_isRoom_15 : decode cX8_isRoom 15 = .ok (.goto 4, 3) := by decide +kernel
theorem dX8_isRoom_18 : decode cX8_isRoom 18 = .ok (.iconst 0, 1) := by decide +kernel
theorem dX8_isRoom_19 : decode cX8_isRoom 19 = .ok (.ireturn, 1) := by decide +kernel
theorem dX8_hasBit_0 : decode cX8_hasBit 0 = .ok (.iload_n 0, 1) := by decide +kernel
theorem dX8_hasBit_1 : decode cX8_hasBit 1 = .ok (.iload_n 1, 1) := by decide +kernel
theorem dX8_hasBit_2 : decode cX8_hasBit 2 = .ok (.ishr, 1) := by decide +kernel
theorem dX8_hasBit_3 : decode cX8_hasBit 3 = .ok (.iconst 1, 1) := by decide +kernel
theorem dX8_hasBit_4 : decode cX8_hasBit 4 = .ok (.iand, 1) := by decide +kernel
theorem dX8_hasBit_5 : decode cX8_hasBit 5 = .ok (.iconst 1, 1) := by decide +kernel
theorem dX8_hasBit_6 : decode cX8_hasBit 6 = .ok (.if_icmp .ne 7, 3) := by decide +kernel
theorem dX8_hasBit_9 : decode cX8_hasBit 9 = .ok (.iconst 1, 1) := by decide +kernel
theorem dX8_hasBit_10 : decode cX8_hasBit 10 = .ok (.goto 4, 3) := by decide +kernel
theorem dX8_hasBit_13 : decode cX8_hasBit 13 = .ok (.iconst 0, 1) := by decide +kernel
theorem dX8_hasBit_14 : decode cX8_hasBit 14 = .ok (.ireturn, 1) := by decide +kernel
theorem dX8_copyRow_0 : decode cX8_copyRow 0 = .ok (.aload_n 0, 1) := by decide +kernel
theorem dX8_copyRow_1 : decode cX8_copyRow 1 = .ok (.iconst 0, 1) := by decide +kernel
theorem dX8_copyRow_2 : decode cX8_copyRow 2 = .ok (.aload_n 1, 1) := by decide +kernel
theorem dX8_copyRow_3 : decode cX8_copyRow 3 = .ok (.iconst 0, 1) := by decide +kernel
theorem dX8_copyRow_4 : decode cX8_copyRow 4 = .ok (.aload_n 0, 1) := by decide +kernel
theorem dX8_copyRow_5 : decode cX8_copyRow 5 = .ok (.arraylength, 1) := by decide +kernel
theorem dX8_copyRow_6 : decode cX8_copyRow 6 = .ok (.aload_n 1, 1) := by decide +kernel
theorem dX8_copyRow_7 : decode cX8_copyRow 7 = .ok (.arraylength, 1) := by decide +kernel
theorem dX8_copyRow_8 : decode cX8_copyRow 8 = .ok (.invokestatic 404, 3) := by decide +kernel
theorem dX8_copyRow_11 : decode cX8_copyRow 11 = .ok (.invokestatic 409, 3) := by decide +kernel
theorem dX8_copyRow_14 : decode cX8_copyRow 14 = .ok (.return_, 1) := by decide +kernel
